-- ===== PART A: goes FIRST, ahead of the names: the tables' words, and 'selects' of the private methods out of them =====
/-- a private method of a class that the tables say can be made, by its rows of tables_1 -/
def lw_okq (q : MethodName × Nat) : Prop := (q.1.cls ≠ "java/lang/invoke/MethodHandle" ∧ q.1.cls ≠ "java/lang/invoke/VarHandle") ∧ Cond.instantiable q.1.cls q.2 ∈ tables_1 ∧ Cond.privateMethod q.1 ∈ tables_1 ∧ Cond.instanceMethod q.1 ∈ tables_1
theorem lw_p0 : lw_okq (⟨"SewnFields$Text", "kindAt", "(I)I"⟩, 5) := ⟨⟨by decide +kernel, by decide +kernel⟩, List.mem_of_getElem? (i := 46) (by decide +kernel), List.mem_of_getElem? (i := 315) (by decide +kernel), List.mem_of_getElem? (i := 316) (by decide +kernel)⟩
theorem lw_p1 : lw_okq (⟨"SewnFields$Reader", "passItem", "(LSewnFields$Text;)Z"⟩, 2) := ⟨⟨by decide +kernel, by decide +kernel⟩, List.mem_of_getElem? (i := 69) (by decide +kernel), List.mem_of_getElem? (i := 323) (by decide +kernel), List.mem_of_getElem? (i := 324) (by decide +kernel)⟩
theorem lw_p2 : lw_okq (⟨"SewnFields$Text", "tokenLetter", "(I)C"⟩, 5) := ⟨⟨by decide +kernel, by decide +kernel⟩, List.mem_of_getElem? (i := 46) (by decide +kernel), List.mem_of_getElem? (i := 342) (by decide +kernel), List.mem_of_getElem? (i := 343) (by decide +kernel)⟩
theorem lw_p3 : lw_okq (⟨"SewnFields$Reader", "passCells", "(LSewnFields$Text;)Z"⟩, 2) := ⟨⟨by decide +kernel, by decide +kernel⟩, List.mem_of_getElem? (i := 69) (by decide +kernel), List.mem_of_getElem? (i := 385) (by decide +kernel), List.mem_of_getElem? (i := 386) (by decide +kernel)⟩
theorem lw_p4 : lw_okq (⟨"SewnFields$Reader", "passSemicolon", "(LSewnFields$Text;)Z"⟩, 2) := ⟨⟨by decide +kernel, by decide +kernel⟩, List.mem_of_getElem? (i := 69) (by decide +kernel), List.mem_of_getElem? (i := 420) (by decide +kernel), List.mem_of_getElem? (i := 421) (by decide +kernel)⟩
theorem lw_p5 : lw_okq (⟨"SewnFields$Reader", "passOfColour", "(LSewnFields$Text;II)Z"⟩, 2) := ⟨⟨by decide +kernel, by decide +kernel⟩, List.mem_of_getElem? (i := 69) (by decide +kernel), List.mem_of_getElem? (i := 429) (by decide +kernel), List.mem_of_getElem? (i := 430) (by decide +kernel)⟩
theorem lw_p6 : lw_okq (⟨"SewnFields$Reader", "passValue", "(LSewnFields$Text;III)Z"⟩, 2) := ⟨⟨by decide +kernel, by decide +kernel⟩, List.mem_of_getElem? (i := 69) (by decide +kernel), List.mem_of_getElem? (i := 433) (by decide +kernel), List.mem_of_getElem? (i := 434) (by decide +kernel)⟩
theorem lw_p7 : lw_okq (⟨"SewnFields$FieldMap", "addField", "(LSewnFields$Cloth;I)V"⟩, 8) := ⟨⟨by decide +kernel, by decide +kernel⟩, List.mem_of_getElem? (i := 84) (by decide +kernel), List.mem_of_getElem? (i := 479) (by decide +kernel), List.mem_of_getElem? (i := 480) (by decide +kernel)⟩
theorem lw_p8 : lw_okq (⟨"SewnFields$Wave", "reach", "(II)V"⟩, 3) := ⟨⟨by decide +kernel, by decide +kernel⟩, List.mem_of_getElem? (i := 90) (by decide +kernel), List.mem_of_getElem? (i := 488) (by decide +kernel), List.mem_of_getElem? (i := 489) (by decide +kernel)⟩
theorem lw_p9 : lw_okq (⟨"SewnFields", "cellsOfOtherColour", "(IIIII)I"⟩, 10) := ⟨⟨by decide +kernel, by decide +kernel⟩, List.mem_of_getElem? (i := 20) (by decide +kernel), List.mem_of_getElem? (i := 527) (by decide +kernel), List.mem_of_getElem? (i := 528) (by decide +kernel)⟩
theorem lw_p10 : lw_okq (⟨"SewnFields", "change", "(II)I"⟩, 10) := ⟨⟨by decide +kernel, by decide +kernel⟩, List.mem_of_getElem? (i := 20) (by decide +kernel), List.mem_of_getElem? (i := 538) (by decide +kernel), List.mem_of_getElem? (i := 539) (by decide +kernel)⟩
theorem lw_p11 : lw_okq (⟨"SewnFields", "betterWay", "(I)I"⟩, 10) := ⟨⟨by decide +kernel, by decide +kernel⟩, List.mem_of_getElem? (i := 20) (by decide +kernel), List.mem_of_getElem? (i := 609) (by decide +kernel), List.mem_of_getElem? (i := 610) (by decide +kernel)⟩
theorem lw_p12 : lw_okq (⟨"SewnFields$Sewing", "findRows", "(LSewnFields$Cloth;LSewnFields$FieldMap;I)V"⟩, 15) := ⟨⟨by decide +kernel, by decide +kernel⟩, List.mem_of_getElem? (i := 133) (by decide +kernel), List.mem_of_getElem? (i := 621) (by decide +kernel), List.mem_of_getElem? (i := 622) (by decide +kernel)⟩
theorem lw_p13 : lw_okq (⟨"SewnFields$Sewing", "lineLength", "(LSewnFields$Cloth;)I"⟩, 15) := ⟨⟨by decide +kernel, by decide +kernel⟩, List.mem_of_getElem? (i := 133) (by decide +kernel), List.mem_of_getElem? (i := 627) (by decide +kernel), List.mem_of_getElem? (i := 628) (by decide +kernel)⟩
theorem lw_p14 : lw_okq (⟨"SewnFields$Sewing", "placeIn", "(II)I"⟩, 15) := ⟨⟨by decide +kernel, by decide +kernel⟩, List.mem_of_getElem? (i := 133) (by decide +kernel), List.mem_of_getElem? (i := 631) (by decide +kernel), List.mem_of_getElem? (i := 632) (by decide +kernel)⟩
theorem lw_p15 : lw_okq (⟨"SewnFields$Sewing", "startRow", "(III)V"⟩, 15) := ⟨⟨by decide +kernel, by decide +kernel⟩, List.mem_of_getElem? (i := 133) (by decide +kernel), List.mem_of_getElem? (i := 637) (by decide +kernel), List.mem_of_getElem? (i := 638) (by decide +kernel)⟩
def lw_privs_1 : List (MethodName × Nat) := [(⟨"SewnFields$Text", "kindAt", "(I)I"⟩, 5), (⟨"SewnFields$Reader", "passItem", "(LSewnFields$Text;)Z"⟩, 2), (⟨"SewnFields$Text", "tokenLetter", "(I)C"⟩, 5), (⟨"SewnFields$Reader", "passCells", "(LSewnFields$Text;)Z"⟩, 2), (⟨"SewnFields$Reader", "passSemicolon", "(LSewnFields$Text;)Z"⟩, 2), (⟨"SewnFields$Reader", "passOfColour", "(LSewnFields$Text;II)Z"⟩, 2), (⟨"SewnFields$Reader", "passValue", "(LSewnFields$Text;III)Z"⟩, 2), (⟨"SewnFields$FieldMap", "addField", "(LSewnFields$Cloth;I)V"⟩, 8), (⟨"SewnFields$Wave", "reach", "(II)V"⟩, 3), (⟨"SewnFields", "cellsOfOtherColour", "(IIIII)I"⟩, 10), (⟨"SewnFields", "change", "(II)I"⟩, 10), (⟨"SewnFields", "betterWay", "(I)I"⟩, 10), (⟨"SewnFields$Sewing", "findRows", "(LSewnFields$Cloth;LSewnFields$FieldMap;I)V"⟩, 15), (⟨"SewnFields$Sewing", "lineLength", "(LSewnFields$Cloth;)I"⟩, 15), (⟨"SewnFields$Sewing", "placeIn", "(II)I"⟩, 15), (⟨"SewnFields$Sewing", "startRow", "(III)V"⟩, 15)]
theorem lw_r1 : ∀ q ∈ lw_privs_1, lw_okq q := List.forall_mem_cons.mpr ⟨lw_p0, List.forall_mem_cons.mpr ⟨lw_p1, List.forall_mem_cons.mpr ⟨lw_p2, List.forall_mem_cons.mpr ⟨lw_p3, List.forall_mem_cons.mpr ⟨lw_p4, List.forall_mem_cons.mpr ⟨lw_p5, List.forall_mem_cons.mpr ⟨lw_p6, List.forall_mem_cons.mpr ⟨lw_p7, List.forall_mem_cons.mpr ⟨lw_p8, List.forall_mem_cons.mpr ⟨lw_p9, List.forall_mem_cons.mpr ⟨lw_p10, List.forall_mem_cons.mpr ⟨lw_p11, List.forall_mem_cons.mpr ⟨lw_p12, List.forall_mem_cons.mpr ⟨lw_p13, List.forall_mem_cons.mpr ⟨lw_p14, List.forall_mem_cons.mpr ⟨lw_p15, fun _ h => absurd h List.not_mem_nil⟩⟩⟩⟩⟩⟩⟩⟩⟩⟩⟩⟩⟩⟩⟩⟩
theorem lw_p16 : lw_okq (⟨"SewnFields$Sewing", "joinRows", "()V"⟩, 15) := ⟨⟨by decide +kernel, by decide +kernel⟩, List.mem_of_getElem? (i := 133) (by decide +kernel), List.mem_of_getElem? (i := 642) (by decide +kernel), List.mem_of_getElem? (i := 643) (by decide +kernel)⟩
theorem lw_p17 : lw_okq (⟨"SewnFields$Sewing", "rowContinuedBy", "(I)I"⟩, 15) := ⟨⟨by decide +kernel, by decide +kernel⟩, List.mem_of_getElem? (i := 133) (by decide +kernel), List.mem_of_getElem? (i := 646) (by decide +kernel), List.mem_of_getElem? (i := 647) (by decide +kernel)⟩
theorem lw_p18 : lw_okq (⟨"SewnFields$Sewing", "isNextTo", "(II)Z"⟩, 15) := ⟨⟨by decide +kernel, by decide +kernel⟩, List.mem_of_getElem? (i := 133) (by decide +kernel), List.mem_of_getElem? (i := 650) (by decide +kernel), List.mem_of_getElem? (i := 651) (by decide +kernel)⟩
theorem lw_p19 : lw_okq (⟨"SewnFields$Sewing", "stitches", "()I"⟩, 15) := ⟨⟨by decide +kernel, by decide +kernel⟩, List.mem_of_getElem? (i := 133) (by decide +kernel), List.mem_of_getElem? (i := 659) (by decide +kernel), List.mem_of_getElem? (i := 660) (by decide +kernel)⟩
theorem lw_p20 : lw_okq (⟨"SewnFields$Sewing", "travel", "(LSewnFields$Cloth;)I"⟩, 15) := ⟨⟨by decide +kernel, by decide +kernel⟩, List.mem_of_getElem? (i := 133) (by decide +kernel), List.mem_of_getElem? (i := 671) (by decide +kernel), List.mem_of_getElem? (i := 672) (by decide +kernel)⟩
theorem lw_p21 : lw_okq (⟨"SewnFields$FieldMap", "markBeside", "(II)V"⟩, 8) := ⟨⟨by decide +kernel, by decide +kernel⟩, List.mem_of_getElem? (i := 84) (by decide +kernel), List.mem_of_getElem? (i := 696) (by decide +kernel), List.mem_of_getElem? (i := 697) (by decide +kernel)⟩
theorem lw_p22 : lw_okq (⟨"SewnFields", "covered", "(II)I"⟩, 10) := ⟨⟨by decide +kernel, by decide +kernel⟩, List.mem_of_getElem? (i := 20) (by decide +kernel), List.mem_of_getElem? (i := 705) (by decide +kernel), List.mem_of_getElem? (i := 706) (by decide +kernel)⟩
theorem lw_p23 : lw_okq (⟨"SewnFields$SewingOrder", "nextColour", "(LSewnFields$Cloth;LSewnFields$FieldMap;)I"⟩, 4) := ⟨⟨by decide +kernel, by decide +kernel⟩, List.mem_of_getElem? (i := 187) (by decide +kernel), List.mem_of_getElem? (i := 785) (by decide +kernel), List.mem_of_getElem? (i := 786) (by decide +kernel)⟩
theorem lw_p24 : lw_okq (⟨"SewnFields$SewingOrder", "isSewn", "(I)Z"⟩, 4) := ⟨⟨by decide +kernel, by decide +kernel⟩, List.mem_of_getElem? (i := 187) (by decide +kernel), List.mem_of_getElem? (i := 791) (by decide +kernel), List.mem_of_getElem? (i := 792) (by decide +kernel)⟩
theorem lw_p25 : lw_okq (⟨"SewnFields$SewingOrder", "mustWait", "(LSewnFields$Cloth;I)Z"⟩, 4) := ⟨⟨by decide +kernel, by decide +kernel⟩, List.mem_of_getElem? (i := 187) (by decide +kernel), List.mem_of_getElem? (i := 796) (by decide +kernel), List.mem_of_getElem? (i := 797) (by decide +kernel)⟩
theorem lw_p26 : lw_okq (⟨"SewnFields$Cloth", "isBeside", "(II)Z"⟩, 1) := ⟨⟨by decide +kernel, by decide +kernel⟩, List.mem_of_getElem? (i := 28) (by decide +kernel), List.mem_of_getElem? (i := 809) (by decide +kernel), List.mem_of_getElem? (i := 810) (by decide +kernel)⟩
theorem lw_p27 : lw_okq (⟨"SewnFields$SewingOrder", "addFields", "(LSewnFields$FieldMap;I)V"⟩, 4) := ⟨⟨by decide +kernel, by decide +kernel⟩, List.mem_of_getElem? (i := 187) (by decide +kernel), List.mem_of_getElem? (i := 814) (by decide +kernel), List.mem_of_getElem? (i := 815) (by decide +kernel)⟩
theorem lw_p28 : lw_okq (⟨"SewnFieldsModel", "reads", "()I"⟩, 35) := ⟨⟨by decide +kernel, by decide +kernel⟩, List.mem_of_getElem? (i := 887) (by decide +kernel), List.mem_of_getElem? (i := 1014) (by decide +kernel), List.mem_of_getElem? (i := 1015) (by decide +kernel)⟩
theorem lw_p29 : lw_okq (⟨"SewnFieldsModel", "steps", "()V"⟩, 35) := ⟨⟨by decide +kernel, by decide +kernel⟩, List.mem_of_getElem? (i := 887) (by decide +kernel), List.mem_of_getElem? (i := 1018) (by decide +kernel), List.mem_of_getElem? (i := 1019) (by decide +kernel)⟩
theorem lw_p30 : lw_okq (⟨"SewnFieldsModel", "at", "(I)I"⟩, 35) := ⟨⟨by decide +kernel, by decide +kernel⟩, List.mem_of_getElem? (i := 887) (by decide +kernel), List.mem_of_getElem? (i := 1022) (by decide +kernel), List.mem_of_getElem? (i := 1023) (by decide +kernel)⟩
theorem lw_p31 : lw_okq (⟨"SewnFieldsModel", "wordOf", "()I"⟩, 35) := ⟨⟨by decide +kernel, by decide +kernel⟩, List.mem_of_getElem? (i := 887) (by decide +kernel), List.mem_of_getElem? (i := 1026) (by decide +kernel), List.mem_of_getElem? (i := 1027) (by decide +kernel)⟩
def lw_privs_2 : List (MethodName × Nat) := [(⟨"SewnFields$Sewing", "joinRows", "()V"⟩, 15), (⟨"SewnFields$Sewing", "rowContinuedBy", "(I)I"⟩, 15), (⟨"SewnFields$Sewing", "isNextTo", "(II)Z"⟩, 15), (⟨"SewnFields$Sewing", "stitches", "()I"⟩, 15), (⟨"SewnFields$Sewing", "travel", "(LSewnFields$Cloth;)I"⟩, 15), (⟨"SewnFields$FieldMap", "markBeside", "(II)V"⟩, 8), (⟨"SewnFields", "covered", "(II)I"⟩, 10), (⟨"SewnFields$SewingOrder", "nextColour", "(LSewnFields$Cloth;LSewnFields$FieldMap;)I"⟩, 4), (⟨"SewnFields$SewingOrder", "isSewn", "(I)Z"⟩, 4), (⟨"SewnFields$SewingOrder", "mustWait", "(LSewnFields$Cloth;I)Z"⟩, 4), (⟨"SewnFields$Cloth", "isBeside", "(II)Z"⟩, 1), (⟨"SewnFields$SewingOrder", "addFields", "(LSewnFields$FieldMap;I)V"⟩, 4), (⟨"SewnFieldsModel", "reads", "()I"⟩, 35), (⟨"SewnFieldsModel", "steps", "()V"⟩, 35), (⟨"SewnFieldsModel", "at", "(I)I"⟩, 35), (⟨"SewnFieldsModel", "wordOf", "()I"⟩, 35)]
theorem lw_r2 : ∀ q ∈ lw_privs_2, lw_okq q := List.forall_mem_cons.mpr ⟨lw_p16, List.forall_mem_cons.mpr ⟨lw_p17, List.forall_mem_cons.mpr ⟨lw_p18, List.forall_mem_cons.mpr ⟨lw_p19, List.forall_mem_cons.mpr ⟨lw_p20, List.forall_mem_cons.mpr ⟨lw_p21, List.forall_mem_cons.mpr ⟨lw_p22, List.forall_mem_cons.mpr ⟨lw_p23, List.forall_mem_cons.mpr ⟨lw_p24, List.forall_mem_cons.mpr ⟨lw_p25, List.forall_mem_cons.mpr ⟨lw_p26, List.forall_mem_cons.mpr ⟨lw_p27, List.forall_mem_cons.mpr ⟨lw_p28, List.forall_mem_cons.mpr ⟨lw_p29, List.forall_mem_cons.mpr ⟨lw_p30, List.forall_mem_cons.mpr ⟨lw_p31, fun _ h => absurd h List.not_mem_nil⟩⟩⟩⟩⟩⟩⟩⟩⟩⟩⟩⟩⟩⟩⟩⟩
theorem lw_p32 : lw_okq (⟨"SewnFieldsModel", "isWord", "(IIII)Z"⟩, 35) := ⟨⟨by decide +kernel, by decide +kernel⟩, List.mem_of_getElem? (i := 887) (by decide +kernel), List.mem_of_getElem? (i := 1030) (by decide +kernel), List.mem_of_getElem? (i := 1031) (by decide +kernel)⟩
theorem lw_p33 : lw_okq (⟨"SewnFieldsModel", "readsRow", "()V"⟩, 35) := ⟨⟨by decide +kernel, by decide +kernel⟩, List.mem_of_getElem? (i := 887) (by decide +kernel), List.mem_of_getElem? (i := 1034) (by decide +kernel), List.mem_of_getElem? (i := 1035) (by decide +kernel)⟩
theorem lw_p34 : lw_okq (⟨"SewnFieldsModel", "takes", "(Z)V"⟩, 35) := ⟨⟨by decide +kernel, by decide +kernel⟩, List.mem_of_getElem? (i := 887) (by decide +kernel), List.mem_of_getElem? (i := 1038) (by decide +kernel), List.mem_of_getElem? (i := 1039) (by decide +kernel)⟩
theorem lw_p35 : lw_okq (⟨"SewnFieldsModel", "readsOf", "(II)V"⟩, 35) := ⟨⟨by decide +kernel, by decide +kernel⟩, List.mem_of_getElem? (i := 887) (by decide +kernel), List.mem_of_getElem? (i := 1042) (by decide +kernel), List.mem_of_getElem? (i := 1043) (by decide +kernel)⟩
theorem lw_p36 : lw_okq (⟨"SewnFieldsModel", "figure", "(II)I"⟩, 35) := ⟨⟨by decide +kernel, by decide +kernel⟩, List.mem_of_getElem? (i := 887) (by decide +kernel), List.mem_of_getElem? (i := 1046) (by decide +kernel), List.mem_of_getElem? (i := 1047) (by decide +kernel)⟩
theorem lw_p37 : lw_okq (⟨"SewnFieldsModel", "readsOne", "(III)V"⟩, 35) := ⟨⟨by decide +kernel, by decide +kernel⟩, List.mem_of_getElem? (i := 887) (by decide +kernel), List.mem_of_getElem? (i := 1050) (by decide +kernel), List.mem_of_getElem? (i := 1051) (by decide +kernel)⟩
theorem lw_p38 : lw_okq (⟨"SewnFieldsModel", "notes", "()V"⟩, 35) := ⟨⟨by decide +kernel, by decide +kernel⟩, List.mem_of_getElem? (i := 887) (by decide +kernel), List.mem_of_getElem? (i := 1054) (by decide +kernel), List.mem_of_getElem? (i := 1055) (by decide +kernel)⟩
theorem lw_p39 : lw_okq (⟨"SewnFieldsModel", "isCell", "(II)Z"⟩, 35) := ⟨⟨by decide +kernel, by decide +kernel⟩, List.mem_of_getElem? (i := 887) (by decide +kernel), List.mem_of_getElem? (i := 1062) (by decide +kernel), List.mem_of_getElem? (i := 1063) (by decide +kernel)⟩
theorem lw_p40 : lw_okq (⟨"SewnFieldsModel", "cells", "()I"⟩, 35) := ⟨⟨by decide +kernel, by decide +kernel⟩, List.mem_of_getElem? (i := 887) (by decide +kernel), List.mem_of_getElem? (i := 1066) (by decide +kernel), List.mem_of_getElem? (i := 1067) (by decide +kernel)⟩
theorem lw_p41 : lw_okq (⟨"SewnFieldsModel", "becomes", "(II)I"⟩, 35) := ⟨⟨by decide +kernel, by decide +kernel⟩, List.mem_of_getElem? (i := 887) (by decide +kernel), List.mem_of_getElem? (i := 1074) (by decide +kernel), List.mem_of_getElem? (i := 1075) (by decide +kernel)⟩
theorem lw_p42 : lw_okq (⟨"SewnFieldsModel", "laysFields", "()V"⟩, 35) := ⟨⟨by decide +kernel, by decide +kernel⟩, List.mem_of_getElem? (i := 887) (by decide +kernel), List.mem_of_getElem? (i := 1098) (by decide +kernel), List.mem_of_getElem? (i := 1099) (by decide +kernel)⟩
theorem lw_p43 : lw_okq (⟨"SewnFieldsModel", "spreads", "(II)V"⟩, 35) := ⟨⟨by decide +kernel, by decide +kernel⟩, List.mem_of_getElem? (i := 887) (by decide +kernel), List.mem_of_getElem? (i := 1102) (by decide +kernel), List.mem_of_getElem? (i := 1103) (by decide +kernel)⟩
theorem lw_p44 : lw_okq (⟨"SewnFieldsModel", "areBeside", "(II)Z"⟩, 35) := ⟨⟨by decide +kernel, by decide +kernel⟩, List.mem_of_getElem? (i := 887) (by decide +kernel), List.mem_of_getElem? (i := 1106) (by decide +kernel), List.mem_of_getElem? (i := 1107) (by decide +kernel)⟩
theorem lw_p45 : lw_okq (⟨"SewnFieldsModel", "isField", "(I)Z"⟩, 35) := ⟨⟨by decide +kernel, by decide +kernel⟩, List.mem_of_getElem? (i := 887) (by decide +kernel), List.mem_of_getElem? (i := 1114) (by decide +kernel), List.mem_of_getElem? (i := 1115) (by decide +kernel)⟩
theorem lw_p46 : lw_okq (⟨"SewnFieldsModel", "colourOf", "(I)I"⟩, 35) := ⟨⟨by decide +kernel, by decide +kernel⟩, List.mem_of_getElem? (i := 887) (by decide +kernel), List.mem_of_getElem? (i := 1118) (by decide +kernel), List.mem_of_getElem? (i := 1119) (by decide +kernel)⟩
theorem lw_p47 : lw_okq (⟨"SewnFieldsModel", "lowestOf", "(I)I"⟩, 35) := ⟨⟨by decide +kernel, by decide +kernel⟩, List.mem_of_getElem? (i := 887) (by decide +kernel), List.mem_of_getElem? (i := 1122) (by decide +kernel), List.mem_of_getElem? (i := 1123) (by decide +kernel)⟩
def lw_privs_3 : List (MethodName × Nat) := [(⟨"SewnFieldsModel", "isWord", "(IIII)Z"⟩, 35), (⟨"SewnFieldsModel", "readsRow", "()V"⟩, 35), (⟨"SewnFieldsModel", "takes", "(Z)V"⟩, 35), (⟨"SewnFieldsModel", "readsOf", "(II)V"⟩, 35), (⟨"SewnFieldsModel", "figure", "(II)I"⟩, 35), (⟨"SewnFieldsModel", "readsOne", "(III)V"⟩, 35), (⟨"SewnFieldsModel", "notes", "()V"⟩, 35), (⟨"SewnFieldsModel", "isCell", "(II)Z"⟩, 35), (⟨"SewnFieldsModel", "cells", "()I"⟩, 35), (⟨"SewnFieldsModel", "becomes", "(II)I"⟩, 35), (⟨"SewnFieldsModel", "laysFields", "()V"⟩, 35), (⟨"SewnFieldsModel", "spreads", "(II)V"⟩, 35), (⟨"SewnFieldsModel", "areBeside", "(II)Z"⟩, 35), (⟨"SewnFieldsModel", "isField", "(I)Z"⟩, 35), (⟨"SewnFieldsModel", "colourOf", "(I)I"⟩, 35), (⟨"SewnFieldsModel", "lowestOf", "(I)I"⟩, 35)]
theorem lw_r3 : ∀ q ∈ lw_privs_3, lw_okq q := List.forall_mem_cons.mpr ⟨lw_p32, List.forall_mem_cons.mpr ⟨lw_p33, List.forall_mem_cons.mpr ⟨lw_p34, List.forall_mem_cons.mpr ⟨lw_p35, List.forall_mem_cons.mpr ⟨lw_p36, List.forall_mem_cons.mpr ⟨lw_p37, List.forall_mem_cons.mpr ⟨lw_p38, List.forall_mem_cons.mpr ⟨lw_p39, List.forall_mem_cons.mpr ⟨lw_p40, List.forall_mem_cons.mpr ⟨lw_p41, List.forall_mem_cons.mpr ⟨lw_p42, List.forall_mem_cons.mpr ⟨lw_p43, List.forall_mem_cons.mpr ⟨lw_p44, List.forall_mem_cons.mpr ⟨lw_p45, List.forall_mem_cons.mpr ⟨lw_p46, List.forall_mem_cons.mpr ⟨lw_p47, fun _ h => absurd h List.not_mem_nil⟩⟩⟩⟩⟩⟩⟩⟩⟩⟩⟩⟩⟩⟩⟩⟩
theorem lw_p48 : lw_okq (⟨"SewnFieldsModel", "sizeOf", "(I)I"⟩, 35) := ⟨⟨by decide +kernel, by decide +kernel⟩, List.mem_of_getElem? (i := 887) (by decide +kernel), List.mem_of_getElem? (i := 1126) (by decide +kernel), List.mem_of_getElem? (i := 1127) (by decide +kernel)⟩
theorem lw_p49 : lw_okq (⟨"SewnFieldsModel", "bestWay", "(I)I"⟩, 35) := ⟨⟨by decide +kernel, by decide +kernel⟩, List.mem_of_getElem? (i := 887) (by decide +kernel), List.mem_of_getElem? (i := 1130) (by decide +kernel), List.mem_of_getElem? (i := 1131) (by decide +kernel)⟩
theorem lw_p50 : lw_okq (⟨"SewnFieldsModel", "toldOf", "(III)I"⟩, 35) := ⟨⟨by decide +kernel, by decide +kernel⟩, List.mem_of_getElem? (i := 887) (by decide +kernel), List.mem_of_getElem? (i := 1134) (by decide +kernel), List.mem_of_getElem? (i := 1135) (by decide +kernel)⟩
theorem lw_p51 : lw_okq (⟨"SewnFieldsModel", "laysRows", "(II)V"⟩, 35) := ⟨⟨by decide +kernel, by decide +kernel⟩, List.mem_of_getElem? (i := 887) (by decide +kernel), List.mem_of_getElem? (i := 1138) (by decide +kernel), List.mem_of_getElem? (i := 1139) (by decide +kernel)⟩
theorem lw_p52 : lw_okq (⟨"SewnFieldsModel", "cellAt", "(II)I"⟩, 35) := ⟨⟨by decide +kernel, by decide +kernel⟩, List.mem_of_getElem? (i := 887) (by decide +kernel), List.mem_of_getElem? (i := 1142) (by decide +kernel), List.mem_of_getElem? (i := 1143) (by decide +kernel)⟩
theorem lw_p53 : lw_okq (⟨"SewnFieldsModel", "laysNexts", "()V"⟩, 35) := ⟨⟨by decide +kernel, by decide +kernel⟩, List.mem_of_getElem? (i := 887) (by decide +kernel), List.mem_of_getElem? (i := 1146) (by decide +kernel), List.mem_of_getElem? (i := 1147) (by decide +kernel)⟩
theorem lw_p54 : lw_okq (⟨"SewnFieldsModel", "laysParts", "()V"⟩, 35) := ⟨⟨by decide +kernel, by decide +kernel⟩, List.mem_of_getElem? (i := 887) (by decide +kernel), List.mem_of_getElem? (i := 1150) (by decide +kernel), List.mem_of_getElem? (i := 1151) (by decide +kernel)⟩
theorem lw_p55 : lw_okq (⟨"SewnFieldsModel", "stitches", "()I"⟩, 35) := ⟨⟨by decide +kernel, by decide +kernel⟩, List.mem_of_getElem? (i := 887) (by decide +kernel), List.mem_of_getElem? (i := 1154) (by decide +kernel), List.mem_of_getElem? (i := 1155) (by decide +kernel)⟩
theorem lw_p56 : lw_okq (⟨"SewnFieldsModel", "stitchesOf", "(I)I"⟩, 35) := ⟨⟨by decide +kernel, by decide +kernel⟩, List.mem_of_getElem? (i := 887) (by decide +kernel), List.mem_of_getElem? (i := 1158) (by decide +kernel), List.mem_of_getElem? (i := 1159) (by decide +kernel)⟩
theorem lw_p57 : lw_okq (⟨"SewnFieldsModel", "lengthOf", "(I)I"⟩, 35) := ⟨⟨by decide +kernel, by decide +kernel⟩, List.mem_of_getElem? (i := 887) (by decide +kernel), List.mem_of_getElem? (i := 1162) (by decide +kernel), List.mem_of_getElem? (i := 1163) (by decide +kernel)⟩
theorem lw_p58 : lw_okq (⟨"SewnFieldsModel", "travel", "()I"⟩, 35) := ⟨⟨by decide +kernel, by decide +kernel⟩, List.mem_of_getElem? (i := 887) (by decide +kernel), List.mem_of_getElem? (i := 1166) (by decide +kernel), List.mem_of_getElem? (i := 1167) (by decide +kernel)⟩
theorem lw_p59 : lw_okq (⟨"SewnFieldsModel", "hiddenOf", "(I)I"⟩, 35) := ⟨⟨by decide +kernel, by decide +kernel⟩, List.mem_of_getElem? (i := 887) (by decide +kernel), List.mem_of_getElem? (i := 1170) (by decide +kernel), List.mem_of_getElem? (i := 1171) (by decide +kernel)⟩
theorem lw_p60 : lw_okq (⟨"SewnFieldsModel", "endOf", "(I)I"⟩, 35) := ⟨⟨by decide +kernel, by decide +kernel⟩, List.mem_of_getElem? (i := 887) (by decide +kernel), List.mem_of_getElem? (i := 1174) (by decide +kernel), List.mem_of_getElem? (i := 1175) (by decide +kernel)⟩
theorem lw_p61 : lw_okq (⟨"SewnFieldsModel", "startOf", "(I)I"⟩, 35) := ⟨⟨by decide +kernel, by decide +kernel⟩, List.mem_of_getElem? (i := 887) (by decide +kernel), List.mem_of_getElem? (i := 1178) (by decide +kernel), List.mem_of_getElem? (i := 1179) (by decide +kernel)⟩
theorem lw_p62 : lw_okq (⟨"SewnFieldsModel", "stepsBetween", "(II)I"⟩, 35) := ⟨⟨by decide +kernel, by decide +kernel⟩, List.mem_of_getElem? (i := 887) (by decide +kernel), List.mem_of_getElem? (i := 1182) (by decide +kernel), List.mem_of_getElem? (i := 1183) (by decide +kernel)⟩
theorem lw_p63 : lw_okq (⟨"SewnFieldsModel", "coveredBy", "(II)I"⟩, 35) := ⟨⟨by decide +kernel, by decide +kernel⟩, List.mem_of_getElem? (i := 887) (by decide +kernel), List.mem_of_getElem? (i := 1186) (by decide +kernel), List.mem_of_getElem? (i := 1187) (by decide +kernel)⟩
def lw_privs_4 : List (MethodName × Nat) := [(⟨"SewnFieldsModel", "sizeOf", "(I)I"⟩, 35), (⟨"SewnFieldsModel", "bestWay", "(I)I"⟩, 35), (⟨"SewnFieldsModel", "toldOf", "(III)I"⟩, 35), (⟨"SewnFieldsModel", "laysRows", "(II)V"⟩, 35), (⟨"SewnFieldsModel", "cellAt", "(II)I"⟩, 35), (⟨"SewnFieldsModel", "laysNexts", "()V"⟩, 35), (⟨"SewnFieldsModel", "laysParts", "()V"⟩, 35), (⟨"SewnFieldsModel", "stitches", "()I"⟩, 35), (⟨"SewnFieldsModel", "stitchesOf", "(I)I"⟩, 35), (⟨"SewnFieldsModel", "lengthOf", "(I)I"⟩, 35), (⟨"SewnFieldsModel", "travel", "()I"⟩, 35), (⟨"SewnFieldsModel", "hiddenOf", "(I)I"⟩, 35), (⟨"SewnFieldsModel", "endOf", "(I)I"⟩, 35), (⟨"SewnFieldsModel", "startOf", "(I)I"⟩, 35), (⟨"SewnFieldsModel", "stepsBetween", "(II)I"⟩, 35), (⟨"SewnFieldsModel", "coveredBy", "(II)I"⟩, 35)]
theorem lw_r4 : ∀ q ∈ lw_privs_4, lw_okq q := List.forall_mem_cons.mpr ⟨lw_p48, List.forall_mem_cons.mpr ⟨lw_p49, List.forall_mem_cons.mpr ⟨lw_p50, List.forall_mem_cons.mpr ⟨lw_p51, List.forall_mem_cons.mpr ⟨lw_p52, List.forall_mem_cons.mpr ⟨lw_p53, List.forall_mem_cons.mpr ⟨lw_p54, List.forall_mem_cons.mpr ⟨lw_p55, List.forall_mem_cons.mpr ⟨lw_p56, List.forall_mem_cons.mpr ⟨lw_p57, List.forall_mem_cons.mpr ⟨lw_p58, List.forall_mem_cons.mpr ⟨lw_p59, List.forall_mem_cons.mpr ⟨lw_p60, List.forall_mem_cons.mpr ⟨lw_p61, List.forall_mem_cons.mpr ⟨lw_p62, List.forall_mem_cons.mpr ⟨lw_p63, fun _ h => absurd h List.not_mem_nil⟩⟩⟩⟩⟩⟩⟩⟩⟩⟩⟩⟩⟩⟩⟩⟩
theorem lw_p64 : lw_okq (⟨"SewnFieldsModel", "covers", "(I)V"⟩, 35) := ⟨⟨by decide +kernel, by decide +kernel⟩, List.mem_of_getElem? (i := 887) (by decide +kernel), List.mem_of_getElem? (i := 1190) (by decide +kernel), List.mem_of_getElem? (i := 1191) (by decide +kernel)⟩
theorem lw_p65 : lw_okq (⟨"SewnFieldsModel", "touching", "(I)I"⟩, 35) := ⟨⟨by decide +kernel, by decide +kernel⟩, List.mem_of_getElem? (i := 887) (by decide +kernel), List.mem_of_getElem? (i := 1194) (by decide +kernel), List.mem_of_getElem? (i := 1195) (by decide +kernel)⟩
theorem lw_p66 : lw_okq (⟨"SewnFieldsModel", "touch", "(II)Z"⟩, 35) := ⟨⟨by decide +kernel, by decide +kernel⟩, List.mem_of_getElem? (i := 887) (by decide +kernel), List.mem_of_getElem? (i := 1198) (by decide +kernel), List.mem_of_getElem? (i := 1199) (by decide +kernel)⟩
theorem lw_p67 : lw_okq (⟨"SewnFieldsModel", "laysAhead", "()V"⟩, 35) := ⟨⟨by decide +kernel, by decide +kernel⟩, List.mem_of_getElem? (i := 887) (by decide +kernel), List.mem_of_getElem? (i := 1218) (by decide +kernel), List.mem_of_getElem? (i := 1219) (by decide +kernel)⟩
theorem lw_p68 : lw_okq (⟨"SewnFieldsModel", "laysChanges", "()V"⟩, 35) := ⟨⟨by decide +kernel, by decide +kernel⟩, List.mem_of_getElem? (i := 887) (by decide +kernel), List.mem_of_getElem? (i := 1222) (by decide +kernel), List.mem_of_getElem? (i := 1223) (by decide +kernel)⟩
theorem lw_p69 : lw_okq (⟨"SewnFieldsModel", "mayCome", "(II)Z"⟩, 35) := ⟨⟨by decide +kernel, by decide +kernel⟩, List.mem_of_getElem? (i := 887) (by decide +kernel), List.mem_of_getElem? (i := 1226) (by decide +kernel), List.mem_of_getElem? (i := 1227) (by decide +kernel)⟩
theorem lw_p70 : lw_okq (⟨"SewnFieldsModel", "withField", "(III)I"⟩, 35) := ⟨⟨by decide +kernel, by decide +kernel⟩, List.mem_of_getElem? (i := 887) (by decide +kernel), List.mem_of_getElem? (i := 1230) (by decide +kernel), List.mem_of_getElem? (i := 1231) (by decide +kernel)⟩
theorem lw_p71 : lw_okq (⟨"SewnFieldsModel", "fieldAt", "(I)I"⟩, 35) := ⟨⟨by decide +kernel, by decide +kernel⟩, List.mem_of_getElem? (i := 887) (by decide +kernel), List.mem_of_getElem? (i := 1234) (by decide +kernel), List.mem_of_getElem? (i := 1235) (by decide +kernel)⟩
theorem lw_p72 : lw_okq (⟨"SewnFieldsModel", "isSo", "(I)Z"⟩, 35) := ⟨⟨by decide +kernel, by decide +kernel⟩, List.mem_of_getElem? (i := 887) (by decide +kernel), List.mem_of_getElem? (i := 1250) (by decide +kernel), List.mem_of_getElem? (i := 1251) (by decide +kernel)⟩
theorem lw_p73 : lw_okq (⟨"SewnFieldsModel", "fieldsNow", "()I"⟩, 35) := ⟨⟨by decide +kernel, by decide +kernel⟩, List.mem_of_getElem? (i := 887) (by decide +kernel), List.mem_of_getElem? (i := 1258) (by decide +kernel), List.mem_of_getElem? (i := 1259) (by decide +kernel)⟩
theorem lw_p74 : lw_okq (⟨"SewnFieldsModel", "coloured", "()I"⟩, 35) := ⟨⟨by decide +kernel, by decide +kernel⟩, List.mem_of_getElem? (i := 887) (by decide +kernel), List.mem_of_getElem? (i := 1270) (by decide +kernel), List.mem_of_getElem? (i := 1271) (by decide +kernel)⟩
def lw_privs_5 : List (MethodName × Nat) := [(⟨"SewnFieldsModel", "covers", "(I)V"⟩, 35), (⟨"SewnFieldsModel", "touching", "(I)I"⟩, 35), (⟨"SewnFieldsModel", "touch", "(II)Z"⟩, 35), (⟨"SewnFieldsModel", "laysAhead", "()V"⟩, 35), (⟨"SewnFieldsModel", "laysChanges", "()V"⟩, 35), (⟨"SewnFieldsModel", "mayCome", "(II)Z"⟩, 35), (⟨"SewnFieldsModel", "withField", "(III)I"⟩, 35), (⟨"SewnFieldsModel", "fieldAt", "(I)I"⟩, 35), (⟨"SewnFieldsModel", "isSo", "(I)Z"⟩, 35), (⟨"SewnFieldsModel", "fieldsNow", "()I"⟩, 35), (⟨"SewnFieldsModel", "coloured", "()I"⟩, 35)]
theorem lw_r5 : ∀ q ∈ lw_privs_5, lw_okq q := List.forall_mem_cons.mpr ⟨lw_p64, List.forall_mem_cons.mpr ⟨lw_p65, List.forall_mem_cons.mpr ⟨lw_p66, List.forall_mem_cons.mpr ⟨lw_p67, List.forall_mem_cons.mpr ⟨lw_p68, List.forall_mem_cons.mpr ⟨lw_p69, List.forall_mem_cons.mpr ⟨lw_p70, List.forall_mem_cons.mpr ⟨lw_p71, List.forall_mem_cons.mpr ⟨lw_p72, List.forall_mem_cons.mpr ⟨lw_p73, List.forall_mem_cons.mpr ⟨lw_p74, fun _ h => absurd h List.not_mem_nil⟩⟩⟩⟩⟩⟩⟩⟩⟩⟩⟩
def lw_privs : List (MethodName × Nat) := lw_privs_1 ++ (lw_privs_2 ++ (lw_privs_3 ++ (lw_privs_4 ++ (lw_privs_5))))
def lw_tbl : List Cond := k2_sels lw_privs ++ tables_1
theorem lw_privs_ok : ∀ q ∈ lw_privs, lw_okq q := by
  show ∀ q ∈ lw_privs_1 ++ (lw_privs_2 ++ (lw_privs_3 ++ (lw_privs_4 ++ (lw_privs_5)))), lw_okq q
  exact List.forall_mem_append.mpr ⟨lw_r1, List.forall_mem_append.mpr ⟨lw_r2, List.forall_mem_append.mpr ⟨lw_r3, List.forall_mem_append.mpr ⟨lw_r4, lw_r5⟩⟩⟩⟩
/-! ===== BEGIN words of one list among another's, by their places ===== -/
theorem goodIn_r {big : List Cond} (ws : List Cond) (ps : List Nat) (hp : ws = ps.filterMap (fun i => big[i]?)) (h : ws.all goodWord = true) : GoodIn big ws := by
  intro w hw
  have h1 := List.all_eq_true.mp h w hw
  rw [hp] at hw
  obtain ⟨i, -, hi⟩ := List.mem_filterMap.mp hw
  have hm : w ∈ big := by first | exact List.mem_of_getElem? hi | exact List.getElem?_mem hi
  exact ⟨hm, good_of_word h1⟩
theorem goodIn_app {big a b : List Cond} (ha : GoodIn big a) (hb : GoodIn big b) : GoodIn big (a ++ b) := fun w h => (List.mem_append.mp h).elim (ha w) (hb w)
theorem goodIn_ca {big a b : List Cond} {c : Cond} (ha : GoodIn big (c :: a)) (hb : GoodIn big b) : GoodIn big (c :: (a ++ b)) := fun w h => (List.mem_cons.mp h).elim (fun e => ha w (List.mem_cons.mpr (Or.inl e))) (fun h => (List.mem_append.mp h).elim (fun h => ha w (List.mem_cons.mpr (Or.inr h))) (hb w))
theorem goodIn_sub {big ws : List Cond} (hm : ∀ w ∈ ws, w ∈ big) (h : ws.all goodWord = true) : GoodIn big ws := fun w hw => ⟨hm w hw, good_of_word (List.all_eq_true.mp h w hw)⟩
/-! ===== END ===== -/

/-! ===== BEGIN new T[n][m]: the outer array a place, the inner ones among the pooled ===== -/
/-- f, but v at every address of l -/
def vr_up {α : Type} (f : Nat → α) (l : List Nat) (v : α) : Nat → α := fun a => if a ∈ l then v else f a
theorem vr_up_in {α : Type} {f : Nat → α} {l : List Nat} {v : α} {a : Nat} (h : a ∈ l) : vr_up f l v a = v := if_pos h
theorem vr_up_ne {α : Type} {f : Nat → α} {l : List Nat} {v : α} {a : Nat} (h : a ∉ l) : vr_up f l v a = f a := if_neg h
theorem vr_rows {L l : List Nat} {f : Nat → va_E} {e : va_E} (h : ∀ a, a ∈ l → a ∉ L) : va_pl L f ++ l.map (fun a => (a, e)) = va_pl (L ++ l) (vr_up f l e) := by
  unfold va_pl
  rw [List.map_append]
  congr 1
  · apply List.map_congr_left
    intro a ha
    rw [vr_up_ne (fun q => h a q ha)]
  · apply List.map_congr_left
    intro a ha
    rw [vr_up_in ha]
theorem vr_lay {X rows : va_W} {x : Nat × va_E} {pl : va_W} {D : va_G} {cl : List vw_C} {H : Heap} (hP : va_P D cl (((X ++ pl) ++ [x]) ++ rows) H) : va_P D cl ((X ++ [x]) ++ (pl ++ rows)) H := by
  rw [List.append_assoc (X ++ pl)] at hP
  have h := va_P.swap hP
  rw [← List.append_assoc X] at h
  have h2 := va_P.swap h
  rw [List.append_assoc (X ++ [x])] at h2
  exact h2
theorem vr_layD {X rows : va_W} {x : Nat × va_E} {pl : va_W} {A : Nat → Prop} (hD : va_D A (((X ++ pl) ++ [x]) ++ rows)) : va_D A ((X ++ [x]) ++ (pl ++ rows)) := by
  rw [List.append_assoc (X ++ pl)] at hD
  have h := va_D.swap hD
  rw [← List.append_assoc X] at h
  have h2 := va_D.swap h
  rw [List.append_assoc (X ++ [x])] at h2
  exact h2
theorem vr_outer (c : ClassId) (N h0 : Nat) : ∀ i : Nat, Jvm.Free.Multi.outerC c N h0 i = arrV c N (fun j => va_rf (if j < i then some (h0 + 1 + j) else none))
  | 0 => by
    show ({ cls := c, slots := Array.replicate N .null, vm := .none } : Cell) = _
    rw [arrV_new]
    refine congrArg (arrV c N) (funext fun j => ?_)
    simp [va_rf]
  | i + 1 => by
    show (Jvm.Free.Multi.outerC c N h0 i).setSlot i (.ref (h0 + 1 + i)) = _
    rw [vr_outer c N h0 i, arrV_store]
    refine congrArg (arrV c N) (funext fun j => ?_)
    by_cases e : j = i
    · subst e
      simp [updV, va_rf]
    · by_cases h : j < i
      · simp [updV, e, h, Nat.lt_succ_of_lt h]
      · simp [updV, e, h, show ¬ j < i + 1 by omega]
section VGM
variable {p : Program} {l : Launch} {e : Env} {R : Room} {s : State} {m : MethodId} {args : Array Value} {below : List Frame} {meth : Method} {c : Code} {H : Heap} {locs : List Loc} {cells slots : Nat} {Q : State → Prop}
variable {cc : ByteArray} {pc : Nat} {ls : Array Slot} {rest : List Value} {D : va_G} {cl : List vw_C} {A : Nat → Prop} {a : Nat} {tys : List (ClassId × FieldType)} {ws : va_W} {H0 : Heap}
theorem va_mna {X : va_W} {L : List Nat} {f : Nat → va_E} {cc : ByteArray} (hexec : p.tables.exec = Jvm.exec) (hb : c.code = cc) {own : String} {index : Nat} {ty : FieldType} {cy : ClassId} (hown : s.vm.findClass own = some m.cls) (hclink : (Cond.classLink own index ("[" ++ (FieldType.array ty).toString)).before args s = true) (hover : (Cond.arrayOver (.array ty)).before args s = true) (harr : (Cond.arrayClass ty).before args s = true) (hcy : s.vm.findClass (FieldType.array ty).toString = some cy)
    (hK : va_K D cl tys s) (hP : va_P D cl (X ++ va_pl L f) H) (hD : va_D A (X ++ va_pl L f)) (hS : va_S A H0 H locs) (hA : ∀ q, H0.size ≤ q → A q) {n k : Int32} {N' K' : Nat} {z : vp_A} (hn : ¬ n < 0) (hk : ¬ k < 0) (hN : n.toNatClampNeg = N') (hM : k.toNatClampNeg = K')
    (hb1 : N' * 4 ≤ 536870912) (hb2 : K' * componentBytes ty ≤ 536870912) (hb3 : K' ≤ 536870912) (hdf : fits ty (defaultValue ty) = true) (hdd : (defaultValue ty).isDefault = true) (hcells : cells + (1 + N') ≤ R.cells) (hslots : slots + (N' + N' * K') ≤ R.slots) (hz : ∀ c : ClassId, Jvm.Free.Multi.innerC c K' (defaultValue ty) = vp_cell c z) (hdg : decode cc pc = .ok (.multianewarray index 2, 4))
    (kk : ∀ (q : Nat) (r : Nat → Nat) (cA : ClassId) (H1 : Heap), (∀ i j : Nat, i < N' → j < N' → r i = r j → i = j) → (∀ i : Nat, i < N' → r i ∉ L) → va_K D cl (tys ++ [(cA, .array ty)]) s →
      va_P D cl ((X ++ [(q, .inl (cA, N', .inr (.inr (.inr (.inr (fun i => if i < N' then some (r i) else none))))))]) ++ va_pl (L ++ (List.range N').map r) (vr_up f ((List.range N').map r) (.inl (cy, z)))) H1 → va_D A ((X ++ [(q, .inl (cA, N', .inr (.inr (.inr (.inr (fun i => if i < N' then some (r i) else none))))))]) ++ va_pl (L ++ (List.range N').map r) (vr_up f ((List.range N').map r) (.inl (cy, z)))) → va_S A H0 H1 locs →
      W p l e R s m args below meth c H1 locs (cells + 1 + N') (slots + N' + N' * K') Q (F0 m (pc + 4) ls (.ref q :: rest))) : W p l e R s m args below meth c H locs cells slots Q (F0 m pc ls (.int k :: .int n :: rest)) := by
  subst hN
  subst hM
  intro T hT Xs
  obtain ⟨vm₁, cA, comp, -, fA, fC, hO, -, X', step⟩ := Xs.multianewarray2F hexec hown hclink hover harr (g := F0 m pc ls (.int k :: .int n :: rest)) rfl (by rw [hb]; exact hdg) rfl hn hk hb1 hb2 hb3 hdf hdd hcells hslots
  have ec : some cy = some comp := hcy.symm.trans fC
  cases ec
  generalize hF : Jvm.Free.Multi.fill (T.setVm vm₁) cA cy n.toNatClampNeg k.toNatClampNeg (defaultValue ty) n.toNatClampNeg = F at X' step
  have hTh : (T.setVm vm₁).heap = H := hT
  obtain ⟨f1, f2, -, -⟩ := Jvm.Free.Multi.fill_facts (T.setVm vm₁) cA cy n.toNatClampNeg k.toNatClampNeg (defaultValue ty) n.toNatClampNeg
  rw [hF, hTh] at f1 f2
  have hold : ∀ x : Nat, x < H.size → F.heap[x]? = H[x]? := fun x hx => by
    have := Jvm.Free.Multi.fill_old (T.setVm vm₁) cA cy n.toNatClampNeg k.toNatClampNeg (defaultValue ty) (a := x) (by rw [hTh]; exact hx) n.toNatClampNeg
    rw [hF, hTh] at this
    exact this
  have hrow : ∀ j : Nat, j < n.toNatClampNeg → F.heap[H.size + 1 + j]? = some (vp_cell cy z) := fun j hj => by
    have := Jvm.Free.Multi.fill_inner (T.setVm vm₁) cA cy n.toNatClampNeg k.toNatClampNeg (defaultValue ty) n.toNatClampNeg j hj
    rw [hF, hTh, hz] at this
    exact this
  have hout : Jvm.Free.Multi.outerC cA n.toNatClampNeg H.size n.toNatClampNeg = vp_cell cA (n.toNatClampNeg, .inr (.inr (.inr (.inr (fun i => if i < n.toNatClampNeg then some (H.size + 1 + i) else none))))) := by
    rw [vp_cell_q]
    exact vr_outer cA n.toNatClampNeg H.size n.toNatClampNeg
  rw [hout] at f2
  have hlt : ∀ a, a ∈ L → a < H.size := fun a ha => by
    obtain ⟨k9, hk9⟩ := va_pl_get (X := X) (f := f) ha
    exact (hP k9 _ hk9).lt
  have hnl : ∀ i : Nat, i < n.toNatClampNeg → H.size + 1 + i ∉ L := fun i _ h => by
    have := hlt _ h
    omega
  have hnm : ∀ a, a ∈ (List.range n.toNatClampNeg).map (fun i => H.size + 1 + i) → a ∉ L := fun a ha h => by
    obtain ⟨i, -, rfl⟩ := List.mem_map.mp ha
    have := hlt _ h
    omega
  have hP0 : va_P D cl (X ++ va_pl L f) F.heap := hP.kept (fun k9 x hx => hold x.1 ((hP k9 x hx).lt))
  have hP1 : va_P D cl ((X ++ va_pl L f) ++ [(H.size, .inl (cA, n.toNatClampNeg, .inr (.inr (.inr (.inr (fun i => if i < n.toNatClampNeg then some (H.size + 1 + i) else none))))))]) F.heap := hP0.app (fun k9 x hx => by
    have h0 : k9 < 1 := (List.getElem?_eq_some_iff.mp hx).1
    rw [show k9 = 0 by omega] at hx
    cases hx
    exact f2)
  have hP2 : va_P D cl (((X ++ va_pl L f) ++ [(H.size, .inl (cA, n.toNatClampNeg, .inr (.inr (.inr (.inr (fun i => if i < n.toNatClampNeg then some (H.size + 1 + i) else none))))))]) ++ ((List.range n.toNatClampNeg).map (fun i => H.size + 1 + i)).map (fun a => (a, .inl (cy, z)))) F.heap := hP1.app (fun k9 x hx => by
    obtain ⟨a, ha, rfl⟩ := List.mem_map.mp (List.mem_of_getElem? hx)
    obtain ⟨i, hi, rfl⟩ := List.mem_map.mp ha
    exact hrow i (List.mem_range.mp hi))
  have hD2 : va_D A (((X ++ va_pl L f) ++ [(H.size, .inl (cA, n.toNatClampNeg, .inr (.inr (.inr (.inr (fun i => if i < n.toNatClampNeg then some (H.size + 1 + i) else none))))))]) ++ ((List.range n.toNatClampNeg).map (fun i => H.size + 1 + i)).map (fun a => (a, .inl (cy, z)))) := by
    have hD1 := hD.push (e := .inl (cA, n.toNatClampNeg, .inr (.inr (.inr (.inr (fun i => if i < n.toNatClampNeg then some (H.size + 1 + i) else none)))))) hP rfl (hA _ hS.1)
    generalize hW1 : (X ++ va_pl L f) ++ [(H.size, .inl (cA, n.toNatClampNeg, .inr (.inr (.inr (.inr (fun i => if i < n.toNatClampNeg then some (H.size + 1 + i) else none))))))] = W1 at hD1 hP1 ⊢
    have hle : ∀ (k9 : Nat) (x : Nat × va_E), W1[k9]? = some x → x.1 ≤ H.size := fun k9 x hx => by
      rw [← hW1] at hx
      by_cases hl : k9 < (X ++ va_pl L f).length
      · rw [List.getElem?_append_left hl] at hx
        exact Nat.le_of_lt ((hP k9 x hx).lt)
      · rw [List.getElem?_append_right (by omega)] at hx
        have h0 : k9 - (X ++ va_pl L f).length < 1 := (List.getElem?_eq_some_iff.mp hx).1
        rw [show k9 - (X ++ va_pl L f).length = 0 by omega] at hx
        cases hx
        exact Nat.le_refl _
    have hr : ∀ (k9 : Nat) (x : Nat × va_E), (((List.range n.toNatClampNeg).map (fun i => H.size + 1 + i)).map (fun a => ((a, .inl (cy, z)) : Nat × va_E)))[k9]? = some x → x.1 = H.size + 1 + k9 := fun k9 x hx => by
      rw [List.getElem?_map, List.getElem?_map] at hx
      by_cases h9 : k9 < n.toNatClampNeg
      · rw [List.getElem?_range h9] at hx
        cases hx
        rfl
      · have hn0 : (List.range n.toNatClampNeg)[k9]? = none := List.getElem?_eq_none (by rw [List.length_range]; omega)
        rw [hn0] at hx
        cases hx
    refine ⟨fun i j x y hi hj hxy => ?_, fun k9 x hx => ?_⟩
    · by_cases h1 : i < W1.length <;> by_cases h2 : j < W1.length
      · rw [List.getElem?_append_left h1] at hi
        rw [List.getElem?_append_left h2] at hj
        exact hD1.1 i j x y hi hj hxy
      · rw [List.getElem?_append_left h1] at hi
        rw [List.getElem?_append_right (by omega)] at hj
        have := hle _ _ hi
        have := hr _ _ hj
        omega
      · rw [List.getElem?_append_right (by omega)] at hi
        rw [List.getElem?_append_left h2] at hj
        have := hle _ _ hj
        have := hr _ _ hi
        omega
      · rw [List.getElem?_append_right (by omega)] at hi hj
        have := hr _ _ hi
        have := hr _ _ hj
        omega
    · by_cases h1 : k9 < W1.length
      · rw [List.getElem?_append_left h1] at hx
        exact hD1.2 k9 x hx
      · rw [List.getElem?_append_right (by omega)] at hx
        have := hr _ _ hx
        exact hA _ (by have := hS.1; omega)
  have hAr : ArrOfT s cA (.array ty) := fun N9 z9 => by
    obtain ⟨-, k9, hk9, cm9, hkk9⟩ := (hO 0 0 0).1
    exact ⟨(fun q hq => by cases hq), k9, hk9, cm9, hkk9⟩
  have hK2 : va_K D cl (tys ++ [(cA, .array ty)]) s := ⟨hK.1, fun k9 x hx => by
    by_cases hl : k9 < tys.length
    · rw [List.getElem?_append_left hl] at hx
      exact hK.2 k9 x hx
    · rw [List.getElem?_append_right (by omega)] at hx
      have h0 : k9 - tys.length < 1 := (List.getElem?_eq_some_iff.mp hx).1
      rw [show k9 - tys.length = 0 by omega] at hx
      cases hx
      exact ⟨hAr, fA⟩⟩
  obtain ⟨t, a1, b1⟩ := kk H.size (fun i => H.size + 1 + i) cA F.heap (fun i j _ _ h => by have h9 : H.size + 1 + i = H.size + 1 + j := h; omega) hnl hK2 (by rw [← vr_rows hnm]; exact vr_lay hP2) (by rw [← vr_rows hnm]; exact vr_layD hD2) ⟨by rw [f1]; have := hS.1; omega, fun x h1 h2 => (hold x (Nat.lt_of_lt_of_le h1 hS.1)).trans (hS.2.1 x h1 h2), hS.2.2⟩ F rfl X'
  refine ⟨t, step t ?_, b1⟩
  have e : T.heap.size = H.size := by rw [hT]
  rw [e]
  exact a1
end VGM
/-! ===== END ===== -/

/-! ===== BEGIN printed: names, fields, word lists, decode rows ===== -/
def RX0 : String := "SewnFields$Cloth"
def TX0 : u_T := fun k => match k with
  | _ => ("SewnFields$Cloth", "values", "[I", true)
def tyX0 : Nat → FieldType := fun k => match k with
  | _ => .array .int
abbrev wsX00 : List Cond := u_ws RX0 TX0 1
theorem nmX0 : ∀ a, a < 1 → ∀ b, b < 1 → a ≠ b → (TX0 a).2.1 ≠ (TX0 b).2.1 := by decide +kernel
theorem tyX0_ok : ∀ k, k < 1 → parseFieldDescriptor (TX0 k).2.2.1 = some (tyX0 k) := by decide +kernel
abbrev cX0_init : ByteArray := prog_2_method_1_code
def yX0_init : MethodName := ⟨RX0, "<init>", "()V"⟩
abbrev cX0_start : ByteArray := prog_2_method_2_code
def yX0_start : MethodName := ⟨RX0, "start", "()V"⟩
abbrev cX0_get : ByteArray := prog_2_method_3_code
def yX0_get : MethodName := ⟨RX0, "get", "(I)I"⟩
abbrev cX0_set : ByteArray := prog_2_method_4_code
def yX0_set : MethodName := ⟨RX0, "set", "(II)V"⟩
abbrev cX0_paint : ByteArray := prog_2_method_5_code
def yX0_paint : MethodName := ⟨RX0, "paint", "(II)V"⟩
abbrev cX0_width : ByteArray := prog_2_method_6_code
def yX0_width : MethodName := ⟨RX0, "width", "()I"⟩
abbrev cX0_height : ByteArray := prog_2_method_7_code
def yX0_height : MethodName := ⟨RX0, "height", "()I"⟩
abbrev cX0_most : ByteArray := prog_2_method_8_code
def yX0_most : MethodName := ⟨RX0, "most", "()I"⟩
abbrev cX0_pull : ByteArray := prog_2_method_9_code
def yX0_pull : MethodName := ⟨RX0, "pull", "()I"⟩
abbrev cX0_wayOf : ByteArray := prog_2_method_10_code
def yX0_wayOf : MethodName := ⟨RX0, "wayOf", "(I)I"⟩
abbrev cX0_rankOf : ByteArray := prog_2_method_11_code
def yX0_rankOf : MethodName := ⟨RX0, "rankOf", "(I)I"⟩
abbrev cX0_has : ByteArray := prog_2_method_12_code
def yX0_has : MethodName := ⟨RX0, "has", "(II)Z"⟩
abbrev cX0_colourAt : ByteArray := prog_2_method_13_code
def yX0_colourAt : MethodName := ⟨RX0, "colourAt", "(I)I"⟩
abbrev cX0_numberOf : ByteArray := prog_2_method_14_code
def yX0_numberOf : MethodName := ⟨RX0, "numberOf", "(I)I"⟩
abbrev cX0_touch : ByteArray := prog_2_method_15_code
def yX0_touch : MethodName := ⟨RX0, "touch", "(II)Z"⟩
abbrev cX0_isBeside : ByteArray := prog_2_method_16_code
def yX0_isBeside : MethodName := ⟨RX0, "isBeside", "(II)Z"⟩
abbrev cX0_copy : ByteArray := prog_2_method_17_code
def yX0_copy : MethodName := ⟨RX0, "copy", "(LSewnFields$Cloth;)V"⟩
abbrev cX0_saveTo : ByteArray := prog_2_method_18_code
def yX0_saveTo : MethodName := ⟨RX0, "saveTo", "([I)V"⟩
abbrev cX0_loadFrom : ByteArray := prog_2_method_19_code
def yX0_loadFrom : MethodName := ⟨RX0, "loadFrom", "([I)V"⟩
def RX1 : String := "SewnFields$FieldMap"
def TX1 : u_T := fun k => match k with
  | 0 => ("SewnFields$FieldMap", "wave", "LSewnFields$Wave;", true)
  | 1 => ("SewnFields$FieldMap", "fields", "[I", true)
  | 2 => ("SewnFields$FieldMap", "colours", "[I", true)
  | 3 => ("SewnFields$FieldMap", "sizes", "[I", true)
  | 4 => ("SewnFields$FieldMap", "smallest", "[I", true)
  | 5 => ("SewnFields$FieldMap", "touched", "[Z", true)
  | 6 => ("SewnFields$FieldMap", "size", "I", false)
  | _ => ("SewnFields$FieldMap", "cells", "I", false)
def tyX1 : Nat → FieldType := fun k => match k with
  | 0 => .object "SewnFields$Wave"
  | 1 => .array .int
  | 2 => .array .int
  | 3 => .array .int
  | 4 => .array .int
  | 5 => .array .boolean
  | 6 => .int
  | _ => .int
abbrev wsX10 : List Cond := u_ws RX1 TX1 8
theorem nmX1 : ∀ a, a < 8 → ∀ b, b < 8 → a ≠ b → (TX1 a).2.1 ≠ (TX1 b).2.1 := by decide +kernel
theorem tyX1_ok : ∀ k, k < 8 → parseFieldDescriptor (TX1 k).2.2.1 = some (tyX1 k) := by decide +kernel
abbrev cX1_init : ByteArray := prog_3_method_1_code
def yX1_init : MethodName := ⟨RX1, "<init>", "()V"⟩
abbrev cX1_number : ByteArray := prog_3_method_2_code
def yX1_number : MethodName := ⟨RX1, "number", "(LSewnFields$Cloth;)V"⟩
abbrev cX1_addField : ByteArray := prog_3_method_3_code
def yX1_addField : MethodName := ⟨RX1, "addField", "(LSewnFields$Cloth;I)V"⟩
abbrev cX1_has : ByteArray := prog_3_method_4_code
def yX1_has : MethodName := ⟨RX1, "has", "(I)Z"⟩
abbrev cX1_size : ByteArray := prog_3_method_5_code
def yX1_size : MethodName := ⟨RX1, "size", "()I"⟩
abbrev cX1_cells : ByteArray := prog_3_method_6_code
def yX1_cells : MethodName := ⟨RX1, "cells", "()I"⟩
abbrev cX1_fieldAt : ByteArray := prog_3_method_7_code
def yX1_fieldAt : MethodName := ⟨RX1, "fieldAt", "(I)I"⟩
abbrev cX1_colourOf : ByteArray := prog_3_method_8_code
def yX1_colourOf : MethodName := ⟨RX1, "colourOf", "(I)I"⟩
abbrev cX1_sizeOf : ByteArray := prog_3_method_9_code
def yX1_sizeOf : MethodName := ⟨RX1, "sizeOf", "(I)I"⟩
abbrev cX1_smallestOf : ByteArray := prog_3_method_10_code
def yX1_smallestOf : MethodName := ⟨RX1, "smallestOf", "(I)I"⟩
abbrev cX1_touching : ByteArray := prog_3_method_11_code
def yX1_touching : MethodName := ⟨RX1, "touching", "(I)I"⟩
abbrev cX1_markBeside : ByteArray := prog_3_method_12_code
def yX1_markBeside : MethodName := ⟨RX1, "markBeside", "(II)V"⟩
def RX2 : String := "SewnFields$History"
def TX2 : u_T := fun k => match k with
  | 0 => ("SewnFields$History", "before", "[[I", true)
  | 1 => ("SewnFields$History", "next", "I", false)
  | _ => ("SewnFields$History", "size", "I", false)
def tyX2 : Nat → FieldType := fun k => match k with
  | 0 => .array (.array .int)
  | 1 => .int
  | _ => .int
abbrev wsX20 : List Cond := u_ws RX2 TX2 3
theorem nmX2 : ∀ a, a < 3 → ∀ b, b < 3 → a ≠ b → (TX2 a).2.1 ≠ (TX2 b).2.1 := by decide +kernel
theorem tyX2_ok : ∀ k, k < 3 → parseFieldDescriptor (TX2 k).2.2.1 = some (tyX2 k) := by decide +kernel
abbrev cX2_init : ByteArray := prog_4_method_1_code
def yX2_init : MethodName := ⟨RX2, "<init>", "()V"⟩
abbrev cX2_size : ByteArray := prog_4_method_2_code
def yX2_size : MethodName := ⟨RX2, "size", "()I"⟩
abbrev cX2_drop : ByteArray := prog_4_method_3_code
def yX2_drop : MethodName := ⟨RX2, "drop", "()V"⟩
abbrev cX2_push : ByteArray := prog_4_method_4_code
def yX2_push : MethodName := ⟨RX2, "push", "(LSewnFields$Cloth;)V"⟩
abbrev cX2_pop : ByteArray := prog_4_method_5_code
def yX2_pop : MethodName := ⟨RX2, "pop", "(LSewnFields$Cloth;)V"⟩
def RX3 : String := "SewnFields$Observations"
def TX3 : u_T := fun k => match k with
  | 0 => ("SewnFields$Observations", "directions", "[I", true)
  | 1 => ("SewnFields$Observations", "whats", "[I", true)
  | 2 => ("SewnFields$Observations", "figures", "[I", true)
  | _ => ("SewnFields$Observations", "size", "I", false)
def tyX3 : Nat → FieldType := fun k => match k with
  | 0 => .array .int
  | 1 => .array .int
  | 2 => .array .int
  | _ => .int
abbrev wsX30 : List Cond := u_ws RX3 TX3 4
theorem nmX3 : ∀ a, a < 4 → ∀ b, b < 4 → a ≠ b → (TX3 a).2.1 ≠ (TX3 b).2.1 := by decide +kernel
theorem tyX3_ok : ∀ k, k < 4 → parseFieldDescriptor (TX3 k).2.2.1 = some (tyX3 k) := by decide +kernel
abbrev cX3_init : ByteArray := prog_5_method_1_code
def yX3_init : MethodName := ⟨RX3, "<init>", "()V"⟩
abbrev cX3_size : ByteArray := prog_5_method_2_code
def yX3_size : MethodName := ⟨RX3, "size", "()I"⟩
abbrev cX3_add : ByteArray := prog_5_method_3_code
def yX3_add : MethodName := ⟨RX3, "add", "(III)V"⟩
abbrev cX3_drop : ByteArray := prog_5_method_4_code
def yX3_drop : MethodName := ⟨RX3, "drop", "()V"⟩
abbrev cX3_agree : ByteArray := prog_5_method_5_code
def yX3_agree : MethodName := ⟨RX3, "agree", "(LSewnFields$Cloth;LSewnFields$FieldMap;LSewnFields$Sewing;I)Z"⟩
def RX4 : String := "SewnFields$Reader"
def TX4 : u_T := fun k => match k with
  | 0 => ("SewnFields$Reader", "told", "LSewnFields$Cloth;", true)
  | _ => ("SewnFields$Reader", "rows", "I", false)
def tyX4 : Nat → FieldType := fun k => match k with
  | 0 => .object "SewnFields$Cloth"
  | _ => .int
abbrev wsX40 : List Cond := u_ws RX4 TX4 2
theorem nmX4 : ∀ a, a < 2 → ∀ b, b < 2 → a ≠ b → (TX4 a).2.1 ≠ (TX4 b).2.1 := by decide +kernel
theorem tyX4_ok : ∀ k, k < 2 → parseFieldDescriptor (TX4 k).2.2.1 = some (tyX4 k) := by decide +kernel
abbrev cX4_init : ByteArray := prog_6_method_1_code
def yX4_init : MethodName := ⟨RX4, "<init>", "()V"⟩
abbrev cX4_told : ByteArray := prog_6_method_2_code
def yX4_told : MethodName := ⟨RX4, "told", "()LSewnFields$Cloth;"⟩
abbrev cX4_read : ByteArray := prog_6_method_3_code
def yX4_read : MethodName := ⟨RX4, "read", "(LSewnFields$Text;)I"⟩
abbrev cX4_passItem : ByteArray := prog_6_method_4_code
def yX4_passItem : MethodName := ⟨RX4, "passItem", "(LSewnFields$Text;)Z"⟩
abbrev cX4_passCells : ByteArray := prog_6_method_5_code
def yX4_passCells : MethodName := ⟨RX4, "passCells", "(LSewnFields$Text;)Z"⟩
abbrev cX4_passOfColour : ByteArray := prog_6_method_6_code
def yX4_passOfColour : MethodName := ⟨RX4, "passOfColour", "(LSewnFields$Text;II)Z"⟩
abbrev cX4_passValue : ByteArray := prog_6_method_7_code
def yX4_passValue : MethodName := ⟨RX4, "passValue", "(LSewnFields$Text;III)Z"⟩
abbrev cX4_passSemicolon : ByteArray := prog_6_method_8_code
def yX4_passSemicolon : MethodName := ⟨RX4, "passSemicolon", "(LSewnFields$Text;)Z"⟩
def RX5 : String := "SewnFields$Sewing"
def TX5 : u_T := fun k => match k with
  | 0 => ("SewnFields$Sewing", "wave", "LSewnFields$Wave;", true)
  | 1 => ("SewnFields$Sewing", "lines", "[I", true)
  | 2 => ("SewnFields$Sewing", "firsts", "[I", true)
  | 3 => ("SewnFields$Sewing", "lasts", "[I", true)
  | 4 => ("SewnFields$Sewing", "starts", "[I", true)
  | 5 => ("SewnFields$Sewing", "ends", "[I", true)
  | 6 => ("SewnFields$Sewing", "parts", "[I", true)
  | 7 => ("SewnFields$Sewing", "startRows", "[I", true)
  | 8 => ("SewnFields$Sewing", "endRows", "[I", true)
  | 9 => ("SewnFields$Sewing", "sizes", "[I", true)
  | 10 => ("SewnFields$Sewing", "covered", "[Z", true)
  | 11 => ("SewnFields$Sewing", "way", "I", false)
  | 12 => ("SewnFields$Sewing", "most", "I", false)
  | 13 => ("SewnFields$Sewing", "rowsLaid", "I", false)
  | _ => ("SewnFields$Sewing", "partsLaid", "I", false)
def tyX5 : Nat → FieldType := fun k => match k with
  | 0 => .object "SewnFields$Wave"
  | 1 => .array .int
  | 2 => .array .int
  | 3 => .array .int
  | 4 => .array .int
  | 5 => .array .int
  | 6 => .array .int
  | 7 => .array .int
  | 8 => .array .int
  | 9 => .array .int
  | 10 => .array .boolean
  | 11 => .int
  | 12 => .int
  | 13 => .int
  | _ => .int
abbrev wsX50 : List Cond := u_ws RX5 TX5 15
theorem nmX5 : ∀ a, a < 15 → ∀ b, b < 15 → a ≠ b → (TX5 a).2.1 ≠ (TX5 b).2.1 := by decide +kernel
theorem tyX5_ok : ∀ k, k < 15 → parseFieldDescriptor (TX5 k).2.2.1 = some (tyX5 k) := by decide +kernel
abbrev cX5_init : ByteArray := prog_7_method_1_code
def yX5_init : MethodName := ⟨RX5, "<init>", "()V"⟩
abbrev cX5_lay : ByteArray := prog_7_method_2_code
def yX5_lay : MethodName := ⟨RX5, "lay", "(LSewnFields$Cloth;LSewnFields$FieldMap;II)V"⟩
abbrev cX5_rowsLaid : ByteArray := prog_7_method_3_code
def yX5_rowsLaid : MethodName := ⟨RX5, "rowsLaid", "()I"⟩
abbrev cX5_rowStart : ByteArray := prog_7_method_4_code
def yX5_rowStart : MethodName := ⟨RX5, "rowStart", "(I)I"⟩
abbrev cX5_rowLength : ByteArray := prog_7_method_5_code
def yX5_rowLength : MethodName := ⟨RX5, "rowLength", "(I)I"⟩
abbrev cX5_rowStitches : ByteArray := prog_7_method_6_code
def yX5_rowStitches : MethodName := ⟨RX5, "rowStitches", "(I)I"⟩
abbrev cX5_rowPart : ByteArray := prog_7_method_7_code
def yX5_rowPart : MethodName := ⟨RX5, "rowPart", "(I)I"⟩
abbrev cX5_partsLaid : ByteArray := prog_7_method_8_code
def yX5_partsLaid : MethodName := ⟨RX5, "partsLaid", "()I"⟩
abbrev cX5_partRows : ByteArray := prog_7_method_9_code
def yX5_partRows : MethodName := ⟨RX5, "partRows", "(I)I"⟩
abbrev cX5_partStart : ByteArray := prog_7_method_10_code
def yX5_partStart : MethodName := ⟨RX5, "partStart", "(I)I"⟩
abbrev cX5_partEnd : ByteArray := prog_7_method_11_code
def yX5_partEnd : MethodName := ⟨RX5, "partEnd", "(I)I"⟩
abbrev cX5_hiddenWay : ByteArray := prog_7_method_12_code
def yX5_hiddenWay : MethodName := ⟨RX5, "hiddenWay", "(LSewnFields$Cloth;I)I"⟩
abbrev cX5_figure : ByteArray := prog_7_method_13_code
def yX5_figure : MethodName := ⟨RX5, "figure", "(LSewnFields$Cloth;I)I"⟩
abbrev cX5_stitches : ByteArray := prog_7_method_14_code
def yX5_stitches : MethodName := ⟨RX5, "stitches", "()I"⟩
abbrev cX5_travel : ByteArray := prog_7_method_15_code
def yX5_travel : MethodName := ⟨RX5, "travel", "(LSewnFields$Cloth;)I"⟩
abbrev cX5_cover : ByteArray := prog_7_method_16_code
def yX5_cover : MethodName := ⟨RX5, "cover", "(LSewnFields$Cloth;)V"⟩
abbrev cX5_coveredCells : ByteArray := prog_7_method_17_code
def yX5_coveredCells : MethodName := ⟨RX5, "coveredCells", "()I"⟩
abbrev cX5_coveredOf : ByteArray := prog_7_method_18_code
def yX5_coveredOf : MethodName := ⟨RX5, "coveredOf", "(LSewnFields$Cloth;I)I"⟩
abbrev cX5_placeIn : ByteArray := prog_7_method_19_code
def yX5_placeIn : MethodName := ⟨RX5, "placeIn", "(II)I"⟩
abbrev cX5_lineLength : ByteArray := prog_7_method_20_code
def yX5_lineLength : MethodName := ⟨RX5, "lineLength", "(LSewnFields$Cloth;)I"⟩
abbrev cX5_findRows : ByteArray := prog_7_method_21_code
def yX5_findRows : MethodName := ⟨RX5, "findRows", "(LSewnFields$Cloth;LSewnFields$FieldMap;I)V"⟩
abbrev cX5_startRow : ByteArray := prog_7_method_22_code
def yX5_startRow : MethodName := ⟨RX5, "startRow", "(III)V"⟩
abbrev cX5_joinRows : ByteArray := prog_7_method_23_code
def yX5_joinRows : MethodName := ⟨RX5, "joinRows", "()V"⟩
abbrev cX5_rowContinuedBy : ByteArray := prog_7_method_24_code
def yX5_rowContinuedBy : MethodName := ⟨RX5, "rowContinuedBy", "(I)I"⟩
abbrev cX5_isNextTo : ByteArray := prog_7_method_25_code
def yX5_isNextTo : MethodName := ⟨RX5, "isNextTo", "(II)Z"⟩
def RX6 : String := "SewnFields$SewingOrder"
def TX6 : u_T := fun k => match k with
  | 0 => ("SewnFields$SewingOrder", "sequence", "[I", true)
  | 1 => ("SewnFields$SewingOrder", "done", "[Z", true)
  | 2 => ("SewnFields$SewingOrder", "size", "I", false)
  | _ => ("SewnFields$SewingOrder", "coloursSewn", "I", false)
def tyX6 : Nat → FieldType := fun k => match k with
  | 0 => .array .int
  | 1 => .array .boolean
  | 2 => .int
  | _ => .int
abbrev wsX60 : List Cond := u_ws RX6 TX6 4
theorem nmX6 : ∀ a, a < 4 → ∀ b, b < 4 → a ≠ b → (TX6 a).2.1 ≠ (TX6 b).2.1 := by decide +kernel
theorem tyX6_ok : ∀ k, k < 4 → parseFieldDescriptor (TX6 k).2.2.1 = some (tyX6 k) := by decide +kernel
abbrev cX6_init : ByteArray := prog_8_method_1_code
def yX6_init : MethodName := ⟨RX6, "<init>", "()V"⟩
abbrev cX6_lay : ByteArray := prog_8_method_2_code
def yX6_lay : MethodName := ⟨RX6, "lay", "(LSewnFields$Cloth;LSewnFields$FieldMap;)V"⟩
abbrev cX6_changes : ByteArray := prog_8_method_3_code
def yX6_changes : MethodName := ⟨RX6, "changes", "()I"⟩
abbrev cX6_fieldAt : ByteArray := prog_8_method_4_code
def yX6_fieldAt : MethodName := ⟨RX6, "fieldAt", "(I)I"⟩
abbrev cX6_nextColour : ByteArray := prog_8_method_5_code
def yX6_nextColour : MethodName := ⟨RX6, "nextColour", "(LSewnFields$Cloth;LSewnFields$FieldMap;)I"⟩
abbrev cX6_isSewn : ByteArray := prog_8_method_6_code
def yX6_isSewn : MethodName := ⟨RX6, "isSewn", "(I)Z"⟩
abbrev cX6_mustWait : ByteArray := prog_8_method_7_code
def yX6_mustWait : MethodName := ⟨RX6, "mustWait", "(LSewnFields$Cloth;I)Z"⟩
abbrev cX6_addFields : ByteArray := prog_8_method_8_code
def yX6_addFields : MethodName := ⟨RX6, "addFields", "(LSewnFields$FieldMap;I)V"⟩
def RX7 : String := "SewnFields$Text"
def TX7 : u_T := fun k => match k with
  | 0 => ("SewnFields$Text", "letters", "[C", true)
  | 1 => ("SewnFields$Text", "length", "I", false)
  | 2 => ("SewnFields$Text", "kind", "I", false)
  | 3 => ("SewnFields$Text", "start", "I", false)
  | _ => ("SewnFields$Text", "end", "I", false)
def tyX7 : Nat → FieldType := fun k => match k with
  | 0 => .array .char
  | 1 => .int
  | 2 => .int
  | 3 => .int
  | _ => .int
abbrev wsX70 : List Cond := u_ws RX7 TX7 5
theorem nmX7 : ∀ a, a < 5 → ∀ b, b < 5 → a ≠ b → (TX7 a).2.1 ≠ (TX7 b).2.1 := by decide +kernel
theorem tyX7_ok : ∀ k, k < 5 → parseFieldDescriptor (TX7 k).2.2.1 = some (tyX7 k) := by decide +kernel
abbrev cX7_init : ByteArray := prog_9_method_1_code
def yX7_init : MethodName := ⟨RX7, "<init>", "()V"⟩
abbrev cX7_length : ByteArray := prog_9_method_2_code
def yX7_length : MethodName := ⟨RX7, "length", "()I"⟩
abbrev cX7_append : ByteArray := prog_9_method_3_code
def yX7_append : MethodName := ⟨RX7, "append", "(C)V"⟩
abbrev cX7_drop : ByteArray := prog_9_method_4_code
def yX7_drop : MethodName := ⟨RX7, "drop", "()V"⟩
abbrev cX7_toFirstToken : ByteArray := prog_9_method_5_code
def yX7_toFirstToken : MethodName := ⟨RX7, "toFirstToken", "()V"⟩
abbrev cX7_toNextToken : ByteArray := prog_9_method_6_code
def yX7_toNextToken : MethodName := ⟨RX7, "toNextToken", "()V"⟩
abbrev cX7_tokenStart : ByteArray := prog_9_method_7_code
def yX7_tokenStart : MethodName := ⟨RX7, "tokenStart", "()I"⟩
abbrev cX7_isAtEnd : ByteArray := prog_9_method_8_code
def yX7_isAtEnd : MethodName := ⟨RX7, "isAtEnd", "()Z"⟩
abbrev cX7_isSemicolon : ByteArray := prog_9_method_9_code
def yX7_isSemicolon : MethodName := ⟨RX7, "isSemicolon", "()Z"⟩
abbrev cX7_isWord : ByteArray := prog_9_method_10_code
def yX7_isWord : MethodName := ⟨RX7, "isWord", "(Ljava/lang/String;)Z"⟩
abbrev cX7_isDigits : ByteArray := prog_9_method_11_code
def yX7_isDigits : MethodName := ⟨RX7, "isDigits", "(IIII)Z"⟩
abbrev cX7_tokenLength : ByteArray := prog_9_method_12_code
def yX7_tokenLength : MethodName := ⟨RX7, "tokenLength", "()I"⟩
abbrev cX7_digit : ByteArray := prog_9_method_13_code
def yX7_digit : MethodName := ⟨RX7, "digit", "(I)I"⟩
abbrev cX7_tokenLetter : ByteArray := prog_9_method_14_code
def yX7_tokenLetter : MethodName := ⟨RX7, "tokenLetter", "(I)C"⟩
abbrev cX7_kindAt : ByteArray := prog_9_method_15_code
def yX7_kindAt : MethodName := ⟨RX7, "kindAt", "(I)I"⟩
def RX8 : String := "SewnFields$Wave"
def TX8 : u_T := fun k => match k with
  | 0 => ("SewnFields$Wave", "reached", "[I", true)
  | 1 => ("SewnFields$Wave", "steps", "[I", true)
  | _ => ("SewnFields$Wave", "size", "I", false)
def tyX8 : Nat → FieldType := fun k => match k with
  | 0 => .array .int
  | 1 => .array .int
  | _ => .int
abbrev wsX80 : List Cond := u_ws RX8 TX8 3
theorem nmX8 : ∀ a, a < 3 → ∀ b, b < 3 → a ≠ b → (TX8 a).2.1 ≠ (TX8 b).2.1 := by decide +kernel
theorem tyX8_ok : ∀ k, k < 3 → parseFieldDescriptor (TX8 k).2.2.1 = some (tyX8 k) := by decide +kernel
abbrev cX8_init : ByteArray := prog_10_method_1_code
def yX8_init : MethodName := ⟨RX8, "<init>", "()V"⟩
abbrev cX8_spread : ByteArray := prog_10_method_2_code
def yX8_spread : MethodName := ⟨RX8, "spread", "(LSewnFields$Cloth;I)V"⟩
abbrev cX8_size : ByteArray := prog_10_method_3_code
def yX8_size : MethodName := ⟨RX8, "size", "()I"⟩
abbrev cX8_place : ByteArray := prog_10_method_4_code
def yX8_place : MethodName := ⟨RX8, "place", "(I)I"⟩
abbrev cX8_stepsTo : ByteArray := prog_10_method_5_code
def yX8_stepsTo : MethodName := ⟨RX8, "stepsTo", "(I)I"⟩
abbrev cX8_reach : ByteArray := prog_10_method_6_code
def yX8_reach : MethodName := ⟨RX8, "reach", "(II)V"⟩
def RX9 : String := "SewnFields"
def TX9 : u_T := fun k => match k with
  | 0 => ("SewnFields", "cloth", "LSewnFields$Cloth;", true)
  | 1 => ("SewnFields", "text", "LSewnFields$Text;", true)
  | 2 => ("SewnFields", "reader", "LSewnFields$Reader;", true)
  | 3 => ("SewnFields", "map", "LSewnFields$FieldMap;", true)
  | 4 => ("SewnFields", "sewing", "LSewnFields$Sewing;", true)
  | 5 => ("SewnFields", "plan", "LSewnFields$SewingOrder;", true)
  | 6 => ("SewnFields", "observations", "LSewnFields$Observations;", true)
  | 7 => ("SewnFields", "history", "LSewnFields$History;", true)
  | 8 => ("SewnFields", "snapshots", "[[I", true)
  | _ => ("SewnFields", "saved", "[Z", true)
def tyX9 : Nat → FieldType := fun k => match k with
  | 0 => .object "SewnFields$Cloth"
  | 1 => .object "SewnFields$Text"
  | 2 => .object "SewnFields$Reader"
  | 3 => .object "SewnFields$FieldMap"
  | 4 => .object "SewnFields$Sewing"
  | 5 => .object "SewnFields$SewingOrder"
  | 6 => .object "SewnFields$Observations"
  | 7 => .object "SewnFields$History"
  | 8 => .array (.array .int)
  | _ => .array .boolean
abbrev wsX90 : List Cond := u_ws RX9 TX9 10
theorem nmX9 : ∀ a, a < 10 → ∀ b, b < 10 → a ≠ b → (TX9 a).2.1 ≠ (TX9 b).2.1 := by decide +kernel
theorem tyX9_ok : ∀ k, k < 10 → parseFieldDescriptor (TX9 k).2.2.1 = some (tyX9 k) := by decide +kernel
abbrev cX9_init : ByteArray := prog_1_method_1_code
def yX9_init : MethodName := ⟨RX9, "<init>", "()V"⟩
abbrev cX9_type : ByteArray := prog_1_method_2_code
def yX9_type : MethodName := ⟨RX9, "type", "(I)I"⟩
abbrev cX9_clear : ByteArray := prog_1_method_3_code
def yX9_clear : MethodName := ⟨RX9, "clear", "()I"⟩
abbrev cX9_tells : ByteArray := prog_1_method_4_code
def yX9_tells : MethodName := ⟨RX9, "tells", "()I"⟩
abbrev cX9_paints : ByteArray := prog_1_method_5_code
def yX9_paints : MethodName := ⟨RX9, "paints", "(IIIII)I"⟩
abbrev cX9_ways : ByteArray := prog_1_method_6_code
def yX9_ways : MethodName := ⟨RX9, "ways", "(II)I"⟩
abbrev cX9_ranks : ByteArray := prog_1_method_7_code
def yX9_ranks : MethodName := ⟨RX9, "ranks", "(II)I"⟩
abbrev cX9_mosts : ByteArray := prog_1_method_8_code
def yX9_mosts : MethodName := ⟨RX9, "mosts", "(I)I"⟩
abbrev cX9_pulls : ByteArray := prog_1_method_9_code
def yX9_pulls : MethodName := ⟨RX9, "pulls", "(I)I"⟩
abbrev cX9_undo : ByteArray := prog_1_method_10_code
def yX9_undo : MethodName := ⟨RX9, "undo", "()I"⟩
abbrev cX9_cell : ByteArray := prog_1_method_11_code
def yX9_cell : MethodName := ⟨RX9, "cell", "(III)I"⟩
abbrev cX9_field : ByteArray := prog_1_method_12_code
def yX9_field : MethodName := ⟨RX9, "field", "(II)I"⟩
abbrev cX9_sewn : ByteArray := prog_1_method_13_code
def yX9_sewn : MethodName := ⟨RX9, "sewn", "(III)I"⟩
abbrev cX9_row : ByteArray := prog_1_method_14_code
def yX9_row : MethodName := ⟨RX9, "row", "(IIII)I"⟩
abbrev cX9_part : ByteArray := prog_1_method_15_code
def yX9_part : MethodName := ⟨RX9, "part", "(IIII)I"⟩
abbrev cX9_order : ByteArray := prog_1_method_16_code
def yX9_order : MethodName := ⟨RX9, "order", "(I)I"⟩
abbrev cX9_sees : ByteArray := prog_1_method_17_code
def yX9_sees : MethodName := ⟨RX9, "sees", "(III)I"⟩
abbrev cX9_forget : ByteArray := prog_1_method_18_code
def yX9_forget : MethodName := ⟨RX9, "forget", "()I"⟩
abbrev cX9_which : ByteArray := prog_1_method_19_code
def yX9_which : MethodName := ⟨RX9, "which", "(I)I"⟩
abbrev cX9_keep : ByteArray := prog_1_method_20_code
def yX9_keep : MethodName := ⟨RX9, "keep", "(I)I"⟩
abbrev cX9_back : ByteArray := prog_1_method_21_code
def yX9_back : MethodName := ⟨RX9, "back", "(I)I"⟩
abbrev cX9_count : ByteArray := prog_1_method_22_code
def yX9_count : MethodName := ⟨RX9, "count", "(I)I"⟩
abbrev cX9_change : ByteArray := prog_1_method_23_code
def yX9_change : MethodName := ⟨RX9, "change", "(II)I"⟩
abbrev cX9_cellsOfOtherColour : ByteArray := prog_1_method_24_code
def yX9_cellsOfOtherColour : MethodName := ⟨RX9, "cellsOfOtherColour", "(IIIII)I"⟩
abbrev cX9_betterWay : ByteArray := prog_1_method_25_code
def yX9_betterWay : MethodName := ⟨RX9, "betterWay", "(I)I"⟩
abbrev cX9_covered : ByteArray := prog_1_method_26_code
def yX9_covered : MethodName := ⟨RX9, "covered", "(II)I"⟩
abbrev cX9_within : ByteArray := prog_1_method_27_code
def yX9_within : MethodName := ⟨RX9, "within", "(III)Z"⟩
abbrev cX9_at : ByteArray := prog_1_method_28_code
def yX9_at : MethodName := ⟨RX9, "at", "([II)I"⟩
abbrev cX9_put : ByteArray := prog_1_method_29_code
def yX9_put : MethodName := ⟨RX9, "put", "([III)V"⟩
abbrev cX9_wipe : ByteArray := prog_1_method_30_code
def yX9_wipe : MethodName := ⟨RX9, "wipe", "([Z)V"⟩
abbrev cX9_countTrue : ByteArray := prog_1_method_31_code
def yX9_countTrue : MethodName := ⟨RX9, "countTrue", "([Z)I"⟩
abbrev cX9_placeOf : ByteArray := prog_1_method_32_code
def yX9_placeOf : MethodName := ⟨RX9, "placeOf", "(II)I"⟩
abbrev cX9_beside : ByteArray := prog_1_method_33_code
def yX9_beside : MethodName := ⟨RX9, "beside", "(II)I"⟩
def RX10 : String := "SewnFieldsModel"
def TX10 : u_T := fun k => match k with
  | 0 => ("SewnFieldsModel", "thrown", "I", false)
  | 1 => ("SewnFieldsModel", "s", "[I", true)
  | 2 => ("SewnFieldsModel", "draft", "[I", true)
  | 3 => ("SewnFieldsModel", "past", "[I", true)
  | 4 => ("SewnFieldsModel", "undos", "I", false)
  | 5 => ("SewnFieldsModel", "kept", "[I", true)
  | 6 => ("SewnFieldsModel", "isKept", "[Z", true)
  | 7 => ("SewnFieldsModel", "facts", "[I", true)
  | 8 => ("SewnFieldsModel", "manyFacts", "I", false)
  | 9 => ("SewnFieldsModel", "text", "[B", true)
  | 10 => ("SewnFieldsModel", "typed", "I", false)
  | 11 => ("SewnFieldsModel", "from", "I", false)
  | 12 => ("SewnFieldsModel", "to", "I", false)
  | 13 => ("SewnFieldsModel", "token", "I", false)
  | 14 => ("SewnFieldsModel", "fault", "I", false)
  | 15 => ("SewnFieldsModel", "fieldOf", "[I", true)
  | 16 => ("SewnFieldsModel", "fields", "I", false)
  | 17 => ("SewnFieldsModel", "rows", "I", false)
  | 18 => ("SewnFieldsModel", "line", "[I", true)
  | 19 => ("SewnFieldsModel", "begin", "[I", true)
  | 20 => ("SewnFieldsModel", "end", "[I", true)
  | 21 => ("SewnFieldsModel", "behindMany", "[I", true)
  | 22 => ("SewnFieldsModel", "behind", "[I", true)
  | 23 => ("SewnFieldsModel", "aheadMany", "[I", true)
  | 24 => ("SewnFieldsModel", "part", "[I", true)
  | 25 => ("SewnFieldsModel", "parts", "I", false)
  | 26 => ("SewnFieldsModel", "partRows", "[I", true)
  | 27 => ("SewnFieldsModel", "firstRow", "[I", true)
  | 28 => ("SewnFieldsModel", "lastRow", "[I", true)
  | 29 => ("SewnFieldsModel", "wayLaid", "I", false)
  | 30 => ("SewnFieldsModel", "far", "[I", true)
  | 31 => ("SewnFieldsModel", "covered", "[Z", true)
  | 32 => ("SewnFieldsModel", "ahead", "[I", true)
  | 33 => ("SewnFieldsModel", "colours", "[I", true)
  | _ => ("SewnFieldsModel", "changes", "[I", true)
def tyX10 : Nat → FieldType := fun k => match k with
  | 0 => .int
  | 1 => .array .int
  | 2 => .array .int
  | 3 => .array .int
  | 4 => .int
  | 5 => .array .int
  | 6 => .array .boolean
  | 7 => .array .int
  | 8 => .int
  | 9 => .array .byte
  | 10 => .int
  | 11 => .int
  | 12 => .int
  | 13 => .int
  | 14 => .int
  | 15 => .array .int
  | 16 => .int
  | 17 => .int
  | 18 => .array .int
  | 19 => .array .int
  | 20 => .array .int
  | 21 => .array .int
  | 22 => .array .int
  | 23 => .array .int
  | 24 => .array .int
  | 25 => .int
  | 26 => .array .int
  | 27 => .array .int
  | 28 => .array .int
  | 29 => .int
  | 30 => .array .int
  | 31 => .array .boolean
  | 32 => .array .int
  | 33 => .array .int
  | _ => .array .int
abbrev wsX100 : List Cond := u_ws RX10 TX10 35
theorem nmX10 : ∀ a, a < 35 → ∀ b, b < 35 → a ≠ b → (TX10 a).2.1 ≠ (TX10 b).2.1 := by decide +kernel
theorem tyX10_ok : ∀ k, k < 35 → parseFieldDescriptor (TX10 k).2.2.1 = some (tyX10 k) := by decide +kernel
abbrev cX10_init : ByteArray := prog_12_method_1_code
def yX10_init : MethodName := ⟨RX10, "<init>", "()V"⟩
abbrev cX10_in : ByteArray := prog_12_method_3_code
def yX10_in : MethodName := ⟨RX10, "in", "(III)Z"⟩
abbrev cX10_type : ByteArray := prog_12_method_4_code
def yX10_type : MethodName := ⟨RX10, "type", "(I)I"⟩
abbrev cX10_clear : ByteArray := prog_12_method_5_code
def yX10_clear : MethodName := ⟨RX10, "clear", "()I"⟩
abbrev cX10_at : ByteArray := prog_12_method_6_code
def yX10_at : MethodName := ⟨RX10, "at", "(I)I"⟩
abbrev cX10_isWord : ByteArray := prog_12_method_7_code
def yX10_isWord : MethodName := ⟨RX10, "isWord", "(IIII)Z"⟩
abbrev cX10_wordOf : ByteArray := prog_12_method_8_code
def yX10_wordOf : MethodName := ⟨RX10, "wordOf", "()I"⟩
abbrev cX10_steps : ByteArray := prog_12_method_9_code
def yX10_steps : MethodName := ⟨RX10, "steps", "()V"⟩
abbrev cX10_takes : ByteArray := prog_12_method_10_code
def yX10_takes : MethodName := ⟨RX10, "takes", "(Z)V"⟩
abbrev cX10_readsRow : ByteArray := prog_12_method_11_code
def yX10_readsRow : MethodName := ⟨RX10, "readsRow", "()V"⟩
abbrev cX10_figure : ByteArray := prog_12_method_12_code
def yX10_figure : MethodName := ⟨RX10, "figure", "(II)I"⟩
abbrev cX10_readsOf : ByteArray := prog_12_method_13_code
def yX10_readsOf : MethodName := ⟨RX10, "readsOf", "(II)V"⟩
abbrev cX10_readsOne : ByteArray := prog_12_method_14_code
def yX10_readsOne : MethodName := ⟨RX10, "readsOne", "(III)V"⟩
abbrev cX10_reads : ByteArray := prog_12_method_15_code
def yX10_reads : MethodName := ⟨RX10, "reads", "()I"⟩
abbrev cX10_tells : ByteArray := prog_12_method_16_code
def yX10_tells : MethodName := ⟨RX10, "tells", "()I"⟩
abbrev cX10_notes : ByteArray := prog_12_method_17_code
def yX10_notes : MethodName := ⟨RX10, "notes", "()V"⟩
abbrev cX10_cells : ByteArray := prog_12_method_18_code
def yX10_cells : MethodName := ⟨RX10, "cells", "()I"⟩
abbrev cX10_isCell : ByteArray := prog_12_method_19_code
def yX10_isCell : MethodName := ⟨RX10, "isCell", "(II)Z"⟩
abbrev cX10_paints : ByteArray := prog_12_method_20_code
def yX10_paints : MethodName := ⟨RX10, "paints", "(IIIII)I"⟩
abbrev cX10_becomes : ByteArray := prog_12_method_21_code
def yX10_becomes : MethodName := ⟨RX10, "becomes", "(II)I"⟩
abbrev cX10_ways : ByteArray := prog_12_method_22_code
def yX10_ways : MethodName := ⟨RX10, "ways", "(II)I"⟩
abbrev cX10_ranks : ByteArray := prog_12_method_23_code
def yX10_ranks : MethodName := ⟨RX10, "ranks", "(II)I"⟩
abbrev cX10_mosts : ByteArray := prog_12_method_24_code
def yX10_mosts : MethodName := ⟨RX10, "mosts", "(I)I"⟩
abbrev cX10_pulls : ByteArray := prog_12_method_25_code
def yX10_pulls : MethodName := ⟨RX10, "pulls", "(I)I"⟩
abbrev cX10_undo : ByteArray := prog_12_method_26_code
def yX10_undo : MethodName := ⟨RX10, "undo", "()I"⟩
abbrev cX10_areBeside : ByteArray := prog_12_method_27_code
def yX10_areBeside : MethodName := ⟨RX10, "areBeside", "(II)Z"⟩
abbrev cX10_spreads : ByteArray := prog_12_method_28_code
def yX10_spreads : MethodName := ⟨RX10, "spreads", "(II)V"⟩
abbrev cX10_laysFields : ByteArray := prog_12_method_29_code
def yX10_laysFields : MethodName := ⟨RX10, "laysFields", "()V"⟩
abbrev cX10_lowestOf : ByteArray := prog_12_method_30_code
def yX10_lowestOf : MethodName := ⟨RX10, "lowestOf", "(I)I"⟩
abbrev cX10_colourOf : ByteArray := prog_12_method_31_code
def yX10_colourOf : MethodName := ⟨RX10, "colourOf", "(I)I"⟩
abbrev cX10_sizeOf : ByteArray := prog_12_method_32_code
def yX10_sizeOf : MethodName := ⟨RX10, "sizeOf", "(I)I"⟩
abbrev cX10_cellAt : ByteArray := prog_12_method_33_code
def yX10_cellAt : MethodName := ⟨RX10, "cellAt", "(II)I"⟩
abbrev cX10_laysRows : ByteArray := prog_12_method_34_code
def yX10_laysRows : MethodName := ⟨RX10, "laysRows", "(II)V"⟩
abbrev cX10_laysNexts : ByteArray := prog_12_method_35_code
def yX10_laysNexts : MethodName := ⟨RX10, "laysNexts", "()V"⟩
abbrev cX10_laysParts : ByteArray := prog_12_method_36_code
def yX10_laysParts : MethodName := ⟨RX10, "laysParts", "()V"⟩
abbrev cX10_lengthOf : ByteArray := prog_12_method_37_code
def yX10_lengthOf : MethodName := ⟨RX10, "lengthOf", "(I)I"⟩
abbrev cX10_stitchesOf : ByteArray := prog_12_method_38_code
def yX10_stitchesOf : MethodName := ⟨RX10, "stitchesOf", "(I)I"⟩
abbrev cX10_startOf : ByteArray := prog_12_method_39_code
def yX10_startOf : MethodName := ⟨RX10, "startOf", "(I)I"⟩
abbrev cX10_endOf : ByteArray := prog_12_method_40_code
def yX10_endOf : MethodName := ⟨RX10, "endOf", "(I)I"⟩
abbrev cX10_stepsBetween : ByteArray := prog_12_method_41_code
def yX10_stepsBetween : MethodName := ⟨RX10, "stepsBetween", "(II)I"⟩
abbrev cX10_hiddenOf : ByteArray := prog_12_method_42_code
def yX10_hiddenOf : MethodName := ⟨RX10, "hiddenOf", "(I)I"⟩
abbrev cX10_travel : ByteArray := prog_12_method_43_code
def yX10_travel : MethodName := ⟨RX10, "travel", "()I"⟩
abbrev cX10_stitches : ByteArray := prog_12_method_44_code
def yX10_stitches : MethodName := ⟨RX10, "stitches", "()I"⟩
abbrev cX10_toldOf : ByteArray := prog_12_method_45_code
def yX10_toldOf : MethodName := ⟨RX10, "toldOf", "(III)I"⟩
abbrev cX10_bestWay : ByteArray := prog_12_method_46_code
def yX10_bestWay : MethodName := ⟨RX10, "bestWay", "(I)I"⟩
abbrev cX10_covers : ByteArray := prog_12_method_47_code
def yX10_covers : MethodName := ⟨RX10, "covers", "(I)V"⟩
abbrev cX10_coveredBy : ByteArray := prog_12_method_48_code
def yX10_coveredBy : MethodName := ⟨RX10, "coveredBy", "(II)I"⟩
abbrev cX10_touch : ByteArray := prog_12_method_49_code
def yX10_touch : MethodName := ⟨RX10, "touch", "(II)Z"⟩
abbrev cX10_touching : ByteArray := prog_12_method_50_code
def yX10_touching : MethodName := ⟨RX10, "touching", "(I)I"⟩
abbrev cX10_cell : ByteArray := prog_12_method_51_code
def yX10_cell : MethodName := ⟨RX10, "cell", "(III)I"⟩
abbrev cX10_isField : ByteArray := prog_12_method_52_code
def yX10_isField : MethodName := ⟨RX10, "isField", "(I)Z"⟩
abbrev cX10_field : ByteArray := prog_12_method_53_code
def yX10_field : MethodName := ⟨RX10, "field", "(II)I"⟩
abbrev cX10_sewn : ByteArray := prog_12_method_54_code
def yX10_sewn : MethodName := ⟨RX10, "sewn", "(III)I"⟩
abbrev cX10_row : ByteArray := prog_12_method_55_code
def yX10_row : MethodName := ⟨RX10, "row", "(IIII)I"⟩
abbrev cX10_part : ByteArray := prog_12_method_56_code
def yX10_part : MethodName := ⟨RX10, "part", "(IIII)I"⟩
abbrev cX10_laysAhead : ByteArray := prog_12_method_57_code
def yX10_laysAhead : MethodName := ⟨RX10, "laysAhead", "()V"⟩
abbrev cX10_mayCome : ByteArray := prog_12_method_58_code
def yX10_mayCome : MethodName := ⟨RX10, "mayCome", "(II)Z"⟩
abbrev cX10_withField : ByteArray := prog_12_method_59_code
def yX10_withField : MethodName := ⟨RX10, "withField", "(III)I"⟩
abbrev cX10_laysChanges : ByteArray := prog_12_method_60_code
def yX10_laysChanges : MethodName := ⟨RX10, "laysChanges", "()V"⟩
abbrev cX10_fieldAt : ByteArray := prog_12_method_61_code
def yX10_fieldAt : MethodName := ⟨RX10, "fieldAt", "(I)I"⟩
abbrev cX10_order : ByteArray := prog_12_method_62_code
def yX10_order : MethodName := ⟨RX10, "order", "(I)I"⟩
abbrev cX10_sees : ByteArray := prog_12_method_63_code
def yX10_sees : MethodName := ⟨RX10, "sees", "(III)I"⟩
abbrev cX10_forget : ByteArray := prog_12_method_64_code
def yX10_forget : MethodName := ⟨RX10, "forget", "()I"⟩
abbrev cX10_isSo : ByteArray := prog_12_method_65_code
def yX10_isSo : MethodName := ⟨RX10, "isSo", "(I)Z"⟩
abbrev cX10_which : ByteArray := prog_12_method_66_code
def yX10_which : MethodName := ⟨RX10, "which", "(I)I"⟩
abbrev cX10_fieldsNow : ByteArray := prog_12_method_67_code
def yX10_fieldsNow : MethodName := ⟨RX10, "fieldsNow", "()I"⟩
abbrev cX10_keep : ByteArray := prog_12_method_68_code
def yX10_keep : MethodName := ⟨RX10, "keep", "(I)I"⟩
abbrev cX10_back : ByteArray := prog_12_method_69_code
def yX10_back : MethodName := ⟨RX10, "back", "(I)I"⟩
abbrev cX10_coloured : ByteArray := prog_12_method_70_code
def yX10_coloured : MethodName := ⟨RX10, "coloured", "()I"⟩
abbrev cX10_count : ByteArray := prog_12_method_71_code
def yX10_count : MethodName := ⟨RX10, "count", "(I)I"⟩
def RJx145de : String := "java/io/Serializable"
def TJx145de : u_T := fun k => match k with
  | _ => ("", "", "", false)
def tyJx145de : Nat → FieldType := fun k => match k with
  | _ => .int
abbrev wsJx145de0 : List Cond := u_ws RJx145de TJx145de 0
theorem nmJx145de : ∀ a, a < 0 → ∀ b, b < 0 → a ≠ b → (TJx145de a).2.1 ≠ (TJx145de b).2.1 := by decide +kernel
theorem tyJx145de_ok : ∀ k, k < 0 → parseFieldDescriptor (TJx145de k).2.2.1 = some (tyJx145de k) := by decide +kernel
def RJx9f9b0 : String := "java/lang/CharSequence"
def TJx9f9b0 : u_T := fun k => match k with
  | _ => ("", "", "", false)
def tyJx9f9b0 : Nat → FieldType := fun k => match k with
  | _ => .int
abbrev wsJx9f9b00 : List Cond := u_ws RJx9f9b0 TJx9f9b0 0
theorem nmJx9f9b0 : ∀ a, a < 0 → ∀ b, b < 0 → a ≠ b → (TJx9f9b0 a).2.1 ≠ (TJx9f9b0 b).2.1 := by decide +kernel
theorem tyJx9f9b0_ok : ∀ k, k < 0 → parseFieldDescriptor (TJx9f9b0 k).2.2.1 = some (tyJx9f9b0 k) := by decide +kernel
def RJxb160c : String := "java/lang/Comparable"
def TJxb160c : u_T := fun k => match k with
  | _ => ("", "", "", false)
def tyJxb160c : Nat → FieldType := fun k => match k with
  | _ => .int
abbrev wsJxb160c0 : List Cond := u_ws RJxb160c TJxb160c 0
theorem nmJxb160c : ∀ a, a < 0 → ∀ b, b < 0 → a ≠ b → (TJxb160c a).2.1 ≠ (TJxb160c b).2.1 := by decide +kernel
theorem tyJxb160c_ok : ∀ k, k < 0 → parseFieldDescriptor (TJxb160c k).2.2.1 = some (tyJxb160c k) := by decide +kernel
def RJ9 : String := "java/lang/Math"
def TJ9 : u_T := fun k => match k with
  | _ => ("", "", "", false)
def tyJ9 : Nat → FieldType := fun k => match k with
  | _ => .int
abbrev wsJ90 : List Cond := u_ws RJ9 TJ9 0
theorem nmJ9 : ∀ a, a < 0 → ∀ b, b < 0 → a ≠ b → (TJ9 a).2.1 ≠ (TJ9 b).2.1 := by decide +kernel
theorem tyJ9_ok : ∀ k, k < 0 → parseFieldDescriptor (TJ9 k).2.2.1 = some (tyJ9 k) := by decide +kernel
abbrev cJ9_max_7cf53 : ByteArray := prog_13_method_65_code
def yJ9_max_7cf53 : MethodName := ⟨RJ9, "max", "(II)I"⟩
abbrev cJ9_min_7cf53 : ByteArray := prog_13_method_69_code
def yJ9_min_7cf53 : MethodName := ⟨RJ9, "min", "(II)I"⟩
def RJ0 : String := "java/lang/String"
def TJ0 : u_T := fun k => match k with
  | _ => ("", "", "", false)
def tyJ0 : Nat → FieldType := fun k => match k with
  | _ => .int
abbrev wsJ00 : List Cond := u_ws RJ0 TJ0 0
theorem nmJ0 : ∀ a, a < 0 → ∀ b, b < 0 → a ≠ b → (TJ0 a).2.1 ≠ (TJ0 b).2.1 := by decide +kernel
theorem tyJ0_ok : ∀ k, k < 0 → parseFieldDescriptor (TJ0 k).2.2.1 = some (tyJ0 k) := by decide +kernel
abbrev cJ0_length_8abf5 : ByteArray := prog_14_method_54_code
def yJ0_length_8abf5 : MethodName := ⟨RJ0, "length", "()I"⟩
abbrev cJ0_charAt_5068e : ByteArray := prog_14_method_56_code
def yJ0_charAt_5068e : MethodName := ⟨RJ0, "charAt", "(I)C"⟩
abbrev cJ0_coder_7d493 : ByteArray := prog_14_method_152_code
def yJ0_coder_7d493 : MethodName := ⟨RJ0, "coder", "()B"⟩
abbrev cJ0_isLatin1_aae02 : ByteArray := prog_14_method_154_code
def yJ0_isLatin1_aae02 : MethodName := ⟨RJ0, "isLatin1", "()Z"⟩
abbrev cJ0_checkIndex_df160 : ByteArray := prog_14_method_155_code
def yJ0_checkIndex_df160 : MethodName := ⟨RJ0, "checkIndex", "(II)V"⟩
def RJ1 : String := "java/lang/StringLatin1"
def TJ1 : u_T := fun k => match k with
  | _ => ("", "", "", false)
def tyJ1 : Nat → FieldType := fun k => match k with
  | _ => .int
abbrev wsJ10 : List Cond := u_ws RJ1 TJ1 0
theorem nmJ1 : ∀ a, a < 0 → ∀ b, b < 0 → a ≠ b → (TJ1 a).2.1 ≠ (TJ1 b).2.1 := by decide +kernel
theorem tyJ1_ok : ∀ k, k < 0 → parseFieldDescriptor (TJ1 k).2.2.1 = some (tyJ1 k) := by decide +kernel
abbrev cJ1_charAt_3b067 : ByteArray := prog_15_method_2_code
def yJ1_charAt_3b067 : MethodName := ⟨RJ1, "charAt", "([BI)C"⟩
def RJ2 : String := "java/lang/StringUTF16"
def TJ2 : u_T := fun k => match k with
  | _ => ("", "", "", false)
def tyJ2 : Nat → FieldType := fun k => match k with
  | _ => .int
abbrev wsJ20 : List Cond := u_ws RJ2 TJ2 0
theorem nmJ2 : ∀ a, a < 0 → ∀ b, b < 0 → a ≠ b → (TJ2 a).2.1 ≠ (TJ2 b).2.1 := by decide +kernel
theorem tyJ2_ok : ∀ k, k < 0 → parseFieldDescriptor (TJ2 k).2.2.1 = some (tyJ2 k) := by decide +kernel
abbrev cJ2_getChar_3b067 : ByteArray := prog_16_method_5_code
def yJ2_getChar_3b067 : MethodName := ⟨RJ2, "getChar", "([BI)C"⟩
abbrev cJ2_length_9d52b : ByteArray := prog_16_method_6_code
def yJ2_length_9d52b : MethodName := ⟨RJ2, "length", "([B)I"⟩
abbrev cJ2_charAt_3b067 : ByteArray := prog_16_method_83_code
def yJ2_charAt_3b067 : MethodName := ⟨RJ2, "charAt", "([BI)C"⟩
abbrev cJ2_checkIndex_2214a : ByteArray := prog_16_method_91_code
def yJ2_checkIndex_2214a : MethodName := ⟨RJ2, "checkIndex", "(I[B)V"⟩
def RJ10 : String := "java/lang/System"
def TJ10 : u_T := fun k => match k with
  | _ => ("", "", "", false)
def tyJ10 : Nat → FieldType := fun k => match k with
  | _ => .int
abbrev wsJ100 : List Cond := u_ws RJ10 TJ10 0
theorem nmJ10 : ∀ a, a < 0 → ∀ b, b < 0 → a ≠ b → (TJ10 a).2.1 ≠ (TJ10 b).2.1 := by decide +kernel
theorem tyJ10_ok : ∀ k, k < 0 → parseFieldDescriptor (TJ10 k).2.2.1 = some (tyJ10 k) := by decide +kernel
def RJxfd54e : String := "java/lang/constant/Constable"
def TJxfd54e : u_T := fun k => match k with
  | _ => ("", "", "", false)
def tyJxfd54e : Nat → FieldType := fun k => match k with
  | _ => .int
abbrev wsJxfd54e0 : List Cond := u_ws RJxfd54e TJxfd54e 0
theorem nmJxfd54e : ∀ a, a < 0 → ∀ b, b < 0 → a ≠ b → (TJxfd54e a).2.1 ≠ (TJxfd54e b).2.1 := by decide +kernel
theorem tyJxfd54e_ok : ∀ k, k < 0 → parseFieldDescriptor (TJxfd54e k).2.2.1 = some (tyJxfd54e k) := by decide +kernel
def RJx3cf43 : String := "java/lang/constant/ConstantDesc"
def TJx3cf43 : u_T := fun k => match k with
  | _ => ("", "", "", false)
def tyJx3cf43 : Nat → FieldType := fun k => match k with
  | _ => .int
abbrev wsJx3cf430 : List Cond := u_ws RJx3cf43 TJx3cf43 0
theorem nmJx3cf43 : ∀ a, a < 0 → ∀ b, b < 0 → a ≠ b → (TJx3cf43 a).2.1 ≠ (TJx3cf43 b).2.1 := by decide +kernel
theorem tyJx3cf43_ok : ∀ k, k < 0 → parseFieldDescriptor (TJx3cf43 k).2.2.1 = some (tyJx3cf43 k) := by decide +kernel
def RJ7 : String := "java/util/Arrays"
def TJ7 : u_T := fun k => match k with
  | _ => ("", "", "", false)
def tyJ7 : Nat → FieldType := fun k => match k with
  | _ => .int
abbrev wsJ70 : List Cond := u_ws RJ7 TJ7 0
theorem nmJ7 : ∀ a, a < 0 → ∀ b, b < 0 → a ≠ b → (TJ7 a).2.1 ≠ (TJ7 b).2.1 := by decide +kernel
theorem tyJ7_ok : ∀ k, k < 0 → parseFieldDescriptor (TJ7 k).2.2.1 = some (tyJ7 k) := by decide +kernel
abbrev cJ7_fill_53178 : ByteArray := prog_18_method_103_code
def yJ7_fill_53178 : MethodName := ⟨RJ7, "fill", "([II)V"⟩
def RJ3 : String := "jdk/internal/util/Preconditions"
def TJ3 : u_T := fun k => match k with
  | _ => ("", "", "", false)
def tyJ3 : Nat → FieldType := fun k => match k with
  | _ => .int
abbrev wsJ30 : List Cond := u_ws RJ3 TJ3 0
theorem nmJ3 : ∀ a, a < 0 → ∀ b, b < 0 → a ≠ b → (TJ3 a).2.1 ≠ (TJ3 b).2.1 := by decide +kernel
theorem tyJ3_ok : ∀ k, k < 0 → parseFieldDescriptor (TJ3 k).2.2.1 = some (tyJ3 k) := by decide +kernel
abbrev cJ3_checkIndex_8e157 : ByteArray := prog_19_method_11_code
def yJ3_checkIndex_8e157 : MethodName := ⟨RJ3, "checkIndex", "(IILjava/util/function/BiFunction;)I"⟩
def RL : String := "SewnFieldsLaw"
abbrev cL_law : ByteArray := code
abbrev vwCl : List vw_C := [(RX0, TX0, 1), (RX1, TX1, 8), (RX2, TX2, 3), (RX3, TX3, 4), (RX4, TX4, 2), (RX5, TX5, 15), (RX6, TX6, 4), (RX7, TX7, 5), (RX8, TX8, 3), (RX9, TX9, 10), (RX10, TX10, 35)]
