section
-- ===== PART A: goes FIRST, ahead of the names: the tables' words, and 'selects' of the private methods out of them =====
/-- a private method of a class that the tables say can be made, by its rows of tables_1 -/
def lw_okq (q : MethodName × Nat) : Prop := (q.1.cls ≠ "java/lang/invoke/MethodHandle" ∧ q.1.cls ≠ "java/lang/invoke/VarHandle") ∧ Cond.instantiable q.1.cls q.2 ∈ tables_1 ∧ Cond.privateMethod q.1 ∈ tables_1 ∧ Cond.instanceMethod q.1 ∈ tables_1
theorem lw_p0 : lw_okq (⟨"ComponentTree", "refresh", "()V"⟩, 12) := ⟨⟨by decide +kernel, by decide +kernel⟩, List.mem_of_getElem? (i := 22) (by decide +kernel), List.mem_of_getElem? (i := 297) (by decide +kernel), List.mem_of_getElem? (i := 298) (by decide +kernel)⟩
theorem lw_p1 : lw_okq (⟨"ComponentTree$Nodes", "sortPixels", "(LComponentTree$Picture;Z)V"⟩, 13) := ⟨⟨by decide +kernel, by decide +kernel⟩, List.mem_of_getElem? (i := 102) (by decide +kernel), List.mem_of_getElem? (i := 317) (by decide +kernel), List.mem_of_getElem? (i := 318) (by decide +kernel)⟩
theorem lw_p2 : lw_okq (⟨"ComponentTree$Nodes", "addNodes", "(IJ)V"⟩, 13) := ⟨⟨by decide +kernel, by decide +kernel⟩, List.mem_of_getElem? (i := 102) (by decide +kernel), List.mem_of_getElem? (i := 327) (by decide +kernel), List.mem_of_getElem? (i := 328) (by decide +kernel)⟩
theorem lw_p3 : lw_okq (⟨"ComponentTree$Grid", "spread", "(JZ)J"⟩, 7) := ⟨⟨by decide +kernel, by decide +kernel⟩, List.mem_of_getElem? (i := 108) (by decide +kernel), List.mem_of_getElem? (i := 335) (by decide +kernel), List.mem_of_getElem? (i := 336) (by decide +kernel)⟩
theorem lw_p4 : lw_okq (⟨"ComponentTree$Nodes", "addNode", "(IJI)V"⟩, 13) := ⟨⟨by decide +kernel, by decide +kernel⟩, List.mem_of_getElem? (i := 102) (by decide +kernel), List.mem_of_getElem? (i := 340) (by decide +kernel), List.mem_of_getElem? (i := 341) (by decide +kernel)⟩
theorem lw_p5 : lw_okq (⟨"ComponentTree$Nodes", "countLeaves", "()V"⟩, 13) := ⟨⟨by decide +kernel, by decide +kernel⟩, List.mem_of_getElem? (i := 102) (by decide +kernel), List.mem_of_getElem? (i := 357) (by decide +kernel), List.mem_of_getElem? (i := 358) (by decide +kernel)⟩
theorem lw_p6 : lw_okq (⟨"ComponentTree$Measures", "findSummits", "(LComponentTree$Nodes;)V"⟩, 4) := ⟨⟨by decide +kernel, by decide +kernel⟩, List.mem_of_getElem? (i := 199) (by decide +kernel), List.mem_of_getElem? (i := 365) (by decide +kernel), List.mem_of_getElem? (i := 366) (by decide +kernel)⟩
theorem lw_p7 : lw_okq (⟨"ComponentTree$Measures", "addRanks", "(LComponentTree$Nodes;)V"⟩, 4) := ⟨⟨by decide +kernel, by decide +kernel⟩, List.mem_of_getElem? (i := 199) (by decide +kernel), List.mem_of_getElem? (i := 372) (by decide +kernel), List.mem_of_getElem? (i := 373) (by decide +kernel)⟩
theorem lw_p8 : lw_okq (⟨"ComponentTree$Measures", "measureTree", "(LComponentTree$Nodes;I)V"⟩, 4) := ⟨⟨by decide +kernel, by decide +kernel⟩, List.mem_of_getElem? (i := 199) (by decide +kernel), List.mem_of_getElem? (i := 376) (by decide +kernel), List.mem_of_getElem? (i := 377) (by decide +kernel)⟩
theorem lw_p9 : lw_okq (⟨"ComponentTree$Measures", "measureShape", "(LComponentTree$Nodes;I)V"⟩, 4) := ⟨⟨by decide +kernel, by decide +kernel⟩, List.mem_of_getElem? (i := 199) (by decide +kernel), List.mem_of_getElem? (i := 381) (by decide +kernel), List.mem_of_getElem? (i := 382) (by decide +kernel)⟩
theorem lw_p10 : lw_okq (⟨"ComponentTree$Measures", "prominenceIn", "(LComponentTree$Nodes;I)I"⟩, 4) := ⟨⟨by decide +kernel, by decide +kernel⟩, List.mem_of_getElem? (i := 199) (by decide +kernel), List.mem_of_getElem? (i := 407) (by decide +kernel), List.mem_of_getElem? (i := 408) (by decide +kernel)⟩
theorem lw_p11 : lw_okq (⟨"ComponentTree$Measures", "orderLeaves", "(LComponentTree$Nodes;)V"⟩, 4) := ⟨⟨by decide +kernel, by decide +kernel⟩, List.mem_of_getElem? (i := 199) (by decide +kernel), List.mem_of_getElem? (i := 411) (by decide +kernel), List.mem_of_getElem? (i := 412) (by decide +kernel)⟩
theorem lw_p12 : lw_okq (⟨"ComponentTree$InputText", "takeSlash", "()Z"⟩, 5) := ⟨⟨by decide +kernel, by decide +kernel⟩, List.mem_of_getElem? (i := 78) (by decide +kernel), List.mem_of_getElem? (i := 446) (by decide +kernel), List.mem_of_getElem? (i := 447) (by decide +kernel)⟩
theorem lw_p13 : lw_okq (⟨"ComponentTree$InputText", "takeValue", "(I)Z"⟩, 5) := ⟨⟨by decide +kernel, by decide +kernel⟩, List.mem_of_getElem? (i := 78) (by decide +kernel), List.mem_of_getElem? (i := 450) (by decide +kernel), List.mem_of_getElem? (i := 451) (by decide +kernel)⟩
theorem lw_p14 : lw_okq (⟨"ComponentTree", "repaint", "()I"⟩, 12) := ⟨⟨by decide +kernel, by decide +kernel⟩, List.mem_of_getElem? (i := 22) (by decide +kernel), List.mem_of_getElem? (i := 469) (by decide +kernel), List.mem_of_getElem? (i := 470) (by decide +kernel)⟩
theorem lw_p15 : lw_okq (⟨"ComponentTree", "numberOf", "(I)I"⟩, 12) := ⟨⟨by decide +kernel, by decide +kernel⟩, List.mem_of_getElem? (i := 22) (by decide +kernel), List.mem_of_getElem? (i := 486) (by decide +kernel), List.mem_of_getElem? (i := 487) (by decide +kernel)⟩
def lw_privs_1 : List (MethodName × Nat) := [(⟨"ComponentTree", "refresh", "()V"⟩, 12), (⟨"ComponentTree$Nodes", "sortPixels", "(LComponentTree$Picture;Z)V"⟩, 13), (⟨"ComponentTree$Nodes", "addNodes", "(IJ)V"⟩, 13), (⟨"ComponentTree$Grid", "spread", "(JZ)J"⟩, 7), (⟨"ComponentTree$Nodes", "addNode", "(IJI)V"⟩, 13), (⟨"ComponentTree$Nodes", "countLeaves", "()V"⟩, 13), (⟨"ComponentTree$Measures", "findSummits", "(LComponentTree$Nodes;)V"⟩, 4), (⟨"ComponentTree$Measures", "addRanks", "(LComponentTree$Nodes;)V"⟩, 4), (⟨"ComponentTree$Measures", "measureTree", "(LComponentTree$Nodes;I)V"⟩, 4), (⟨"ComponentTree$Measures", "measureShape", "(LComponentTree$Nodes;I)V"⟩, 4), (⟨"ComponentTree$Measures", "prominenceIn", "(LComponentTree$Nodes;I)I"⟩, 4), (⟨"ComponentTree$Measures", "orderLeaves", "(LComponentTree$Nodes;)V"⟩, 4), (⟨"ComponentTree$InputText", "takeSlash", "()Z"⟩, 5), (⟨"ComponentTree$InputText", "takeValue", "(I)Z"⟩, 5), (⟨"ComponentTree", "repaint", "()I"⟩, 12), (⟨"ComponentTree", "numberOf", "(I)I"⟩, 12)]
theorem lw_r1 : ∀ q ∈ lw_privs_1, lw_okq q := List.forall_mem_cons.mpr ⟨lw_p0, List.forall_mem_cons.mpr ⟨lw_p1, List.forall_mem_cons.mpr ⟨lw_p2, List.forall_mem_cons.mpr ⟨lw_p3, List.forall_mem_cons.mpr ⟨lw_p4, List.forall_mem_cons.mpr ⟨lw_p5, List.forall_mem_cons.mpr ⟨lw_p6, List.forall_mem_cons.mpr ⟨lw_p7, List.forall_mem_cons.mpr ⟨lw_p8, List.forall_mem_cons.mpr ⟨lw_p9, List.forall_mem_cons.mpr ⟨lw_p10, List.forall_mem_cons.mpr ⟨lw_p11, List.forall_mem_cons.mpr ⟨lw_p12, List.forall_mem_cons.mpr ⟨lw_p13, List.forall_mem_cons.mpr ⟨lw_p14, List.forall_mem_cons.mpr ⟨lw_p15, fun _ h => absurd h List.not_mem_nil⟩⟩⟩⟩⟩⟩⟩⟩⟩⟩⟩⟩⟩⟩⟩⟩
theorem lw_p16 : lw_okq (⟨"ComponentTree", "withPixels", "(J)J"⟩, 12) := ⟨⟨by decide +kernel, by decide +kernel⟩, List.mem_of_getElem? (i := 22) (by decide +kernel), List.mem_of_getElem? (i := 509) (by decide +kernel), List.mem_of_getElem? (i := 510) (by decide +kernel)⟩
theorem lw_p17 : lw_okq (⟨"ComponentTree", "withTree", "(J)J"⟩, 12) := ⟨⟨by decide +kernel, by decide +kernel⟩, List.mem_of_getElem? (i := 22) (by decide +kernel), List.mem_of_getElem? (i := 513) (by decide +kernel), List.mem_of_getElem? (i := 514) (by decide +kernel)⟩
theorem lw_p18 : lw_okq (⟨"ComponentTree", "lossBy", "(III)I"⟩, 12) := ⟨⟨by decide +kernel, by decide +kernel⟩, List.mem_of_getElem? (i := 22) (by decide +kernel), List.mem_of_getElem? (i := 517) (by decide +kernel), List.mem_of_getElem? (i := 518) (by decide +kernel)⟩
theorem lw_p19 : lw_okq (⟨"ComponentTree$Change", "dropBelowDropped", "(LComponentTree$Nodes;)V"⟩, 2) := ⟨⟨by decide +kernel, by decide +kernel⟩, List.mem_of_getElem? (i := 222) (by decide +kernel), List.mem_of_getElem? (i := 525) (by decide +kernel), List.mem_of_getElem? (i := 526) (by decide +kernel)⟩
theorem lw_p20 : lw_okq (⟨"ComponentTree$Change", "keepAboveKept", "(LComponentTree$Nodes;)V"⟩, 2) := ⟨⟨by decide +kernel, by decide +kernel⟩, List.mem_of_getElem? (i := 222) (by decide +kernel), List.mem_of_getElem? (i := 529) (by decide +kernel), List.mem_of_getElem? (i := 530) (by decide +kernel)⟩
theorem lw_p21 : lw_okq (⟨"ComponentTree$Change", "addSteps", "(LComponentTree$Nodes;)V"⟩, 2) := ⟨⟨by decide +kernel, by decide +kernel⟩, List.mem_of_getElem? (i := 222) (by decide +kernel), List.mem_of_getElem? (i := 533) (by decide +kernel), List.mem_of_getElem? (i := 534) (by decide +kernel)⟩
theorem lw_p22 : lw_okq (⟨"ComponentTree$Change", "sinkToRemaining", "(LComponentTree$Nodes;)V"⟩, 2) := ⟨⟨by decide +kernel, by decide +kernel⟩, List.mem_of_getElem? (i := 222) (by decide +kernel), List.mem_of_getElem? (i := 537) (by decide +kernel), List.mem_of_getElem? (i := 538) (by decide +kernel)⟩
theorem lw_p23 : lw_okq (⟨"java/lang/Throwable", "fillInStackTrace", "(I)Ljava/lang/Throwable;"⟩, 6) := ⟨⟨by decide +kernel, by decide +kernel⟩, List.mem_of_getElem? (i := 595) (by decide +kernel), List.mem_of_getElem? (i := 593) (by decide +kernel), List.mem_of_getElem? (i := 594) (by decide +kernel)⟩
theorem lw_p24 : lw_okq (⟨"ComponentTree", "needPixel", "(I)V"⟩, 12) := ⟨⟨by decide +kernel, by decide +kernel⟩, List.mem_of_getElem? (i := 22) (by decide +kernel), List.mem_of_getElem? (i := 638) (by decide +kernel), List.mem_of_getElem? (i := 639) (by decide +kernel)⟩
theorem lw_p25 : lw_okq (⟨"ComponentTree", "needNode", "(I)V"⟩, 12) := ⟨⟨by decide +kernel, by decide +kernel⟩, List.mem_of_getElem? (i := 22) (by decide +kernel), List.mem_of_getElem? (i := 786) (by decide +kernel), List.mem_of_getElem? (i := 787) (by decide +kernel)⟩
theorem lw_p26 : lw_okq (⟨"ComponentTree$Nodes", "holdsNode", "(II)Z"⟩, 13) := ⟨⟨by decide +kernel, by decide +kernel⟩, List.mem_of_getElem? (i := 102) (by decide +kernel), List.mem_of_getElem? (i := 863) (by decide +kernel), List.mem_of_getElem? (i := 864) (by decide +kernel)⟩
theorem lw_p27 : lw_okq (⟨"ComponentTreeModel", "pixels", "()I"⟩, 33) := ⟨⟨by decide +kernel, by decide +kernel⟩, List.mem_of_getElem? (i := 939) (by decide +kernel), List.mem_of_getElem? (i := 1060) (by decide +kernel), List.mem_of_getElem? (i := 1061) (by decide +kernel)⟩
theorem lw_p28 : lw_okq (⟨"ComponentTreeModel", "save", "()V"⟩, 33) := ⟨⟨by decide +kernel, by decide +kernel⟩, List.mem_of_getElem? (i := 939) (by decide +kernel), List.mem_of_getElem? (i := 1064) (by decide +kernel), List.mem_of_getElem? (i := 1065) (by decide +kernel)⟩
theorem lw_p29 : lw_okq (⟨"ComponentTreeModel", "copySaved", "(II)V"⟩, 33) := ⟨⟨by decide +kernel, by decide +kernel⟩, List.mem_of_getElem? (i := 939) (by decide +kernel), List.mem_of_getElem? (i := 1068) (by decide +kernel), List.mem_of_getElem? (i := 1069) (by decide +kernel)⟩
theorem lw_p30 : lw_okq (⟨"ComponentTreeModel", "clear", "(II)V"⟩, 33) := ⟨⟨by decide +kernel, by decide +kernel⟩, List.mem_of_getElem? (i := 939) (by decide +kernel), List.mem_of_getElem? (i := 1072) (by decide +kernel), List.mem_of_getElem? (i := 1073) (by decide +kernel)⟩
theorem lw_p31 : lw_okq (⟨"ComponentTreeModel", "isPixel", "(I)Z"⟩, 33) := ⟨⟨by decide +kernel, by decide +kernel⟩, List.mem_of_getElem? (i := 939) (by decide +kernel), List.mem_of_getElem? (i := 1080) (by decide +kernel), List.mem_of_getElem? (i := 1081) (by decide +kernel)⟩
def lw_privs_2 : List (MethodName × Nat) := [(⟨"ComponentTree", "withPixels", "(J)J"⟩, 12), (⟨"ComponentTree", "withTree", "(J)J"⟩, 12), (⟨"ComponentTree", "lossBy", "(III)I"⟩, 12), (⟨"ComponentTree$Change", "dropBelowDropped", "(LComponentTree$Nodes;)V"⟩, 2), (⟨"ComponentTree$Change", "keepAboveKept", "(LComponentTree$Nodes;)V"⟩, 2), (⟨"ComponentTree$Change", "addSteps", "(LComponentTree$Nodes;)V"⟩, 2), (⟨"ComponentTree$Change", "sinkToRemaining", "(LComponentTree$Nodes;)V"⟩, 2), (⟨"java/lang/Throwable", "fillInStackTrace", "(I)Ljava/lang/Throwable;"⟩, 6), (⟨"ComponentTree", "needPixel", "(I)V"⟩, 12), (⟨"ComponentTree", "needNode", "(I)V"⟩, 12), (⟨"ComponentTree$Nodes", "holdsNode", "(II)Z"⟩, 13), (⟨"ComponentTreeModel", "pixels", "()I"⟩, 33), (⟨"ComponentTreeModel", "save", "()V"⟩, 33), (⟨"ComponentTreeModel", "copySaved", "(II)V"⟩, 33), (⟨"ComponentTreeModel", "clear", "(II)V"⟩, 33), (⟨"ComponentTreeModel", "isPixel", "(I)Z"⟩, 33)]
theorem lw_r2 : ∀ q ∈ lw_privs_2, lw_okq q := List.forall_mem_cons.mpr ⟨lw_p16, List.forall_mem_cons.mpr ⟨lw_p17, List.forall_mem_cons.mpr ⟨lw_p18, List.forall_mem_cons.mpr ⟨lw_p19, List.forall_mem_cons.mpr ⟨lw_p20, List.forall_mem_cons.mpr ⟨lw_p21, List.forall_mem_cons.mpr ⟨lw_p22, List.forall_mem_cons.mpr ⟨lw_p23, List.forall_mem_cons.mpr ⟨lw_p24, List.forall_mem_cons.mpr ⟨lw_p25, List.forall_mem_cons.mpr ⟨lw_p26, List.forall_mem_cons.mpr ⟨lw_p27, List.forall_mem_cons.mpr ⟨lw_p28, List.forall_mem_cons.mpr ⟨lw_p29, List.forall_mem_cons.mpr ⟨lw_p30, List.forall_mem_cons.mpr ⟨lw_p31, fun _ h => absurd h List.not_mem_nil⟩⟩⟩⟩⟩⟩⟩⟩⟩⟩⟩⟩⟩⟩⟩⟩
theorem lw_p32 : lw_okq (⟨"ComponentTreeModel", "layTree", "()V"⟩, 33) := ⟨⟨by decide +kernel, by decide +kernel⟩, List.mem_of_getElem? (i := 939) (by decide +kernel), List.mem_of_getElem? (i := 1095) (by decide +kernel), List.mem_of_getElem? (i := 1096) (by decide +kernel)⟩
theorem lw_p33 : lw_okq (⟨"ComponentTreeModel", "ofRank", "(I)J"⟩, 33) := ⟨⟨by decide +kernel, by decide +kernel⟩, List.mem_of_getElem? (i := 939) (by decide +kernel), List.mem_of_getElem? (i := 1099) (by decide +kernel), List.mem_of_getElem? (i := 1100) (by decide +kernel)⟩
theorem lw_p34 : lw_okq (⟨"ComponentTreeModel", "rankOf", "(I)I"⟩, 33) := ⟨⟨by decide +kernel, by decide +kernel⟩, List.mem_of_getElem? (i := 939) (by decide +kernel), List.mem_of_getElem? (i := 1103) (by decide +kernel), List.mem_of_getElem? (i := 1104) (by decide +kernel)⟩
theorem lw_p35 : lw_okq (⟨"ComponentTreeModel", "layRank", "(IJJ)V"⟩, 33) := ⟨⟨by decide +kernel, by decide +kernel⟩, List.mem_of_getElem? (i := 939) (by decide +kernel), List.mem_of_getElem? (i := 1107) (by decide +kernel), List.mem_of_getElem? (i := 1108) (by decide +kernel)⟩
theorem lw_p36 : lw_okq (⟨"ComponentTreeModel", "spread", "(IJZ)J"⟩, 33) := ⟨⟨by decide +kernel, by decide +kernel⟩, List.mem_of_getElem? (i := 939) (by decide +kernel), List.mem_of_getElem? (i := 1115) (by decide +kernel), List.mem_of_getElem? (i := 1116) (by decide +kernel)⟩
theorem lw_p37 : lw_okq (⟨"ComponentTreeModel", "beside", "(IZ)J"⟩, 33) := ⟨⟨by decide +kernel, by decide +kernel⟩, List.mem_of_getElem? (i := 939) (by decide +kernel), List.mem_of_getElem? (i := 1119) (by decide +kernel), List.mem_of_getElem? (i := 1120) (by decide +kernel)⟩
theorem lw_p38 : lw_okq (⟨"ComponentTreeModel", "isBelow", "(II)Z"⟩, 33) := ⟨⟨by decide +kernel, by decide +kernel⟩, List.mem_of_getElem? (i := 939) (by decide +kernel), List.mem_of_getElem? (i := 1123) (by decide +kernel), List.mem_of_getElem? (i := 1124) (by decide +kernel)⟩
theorem lw_p39 : lw_okq (⟨"ComponentTreeModel", "layLeaves", "()V"⟩, 33) := ⟨⟨by decide +kernel, by decide +kernel⟩, List.mem_of_getElem? (i := 939) (by decide +kernel), List.mem_of_getElem? (i := 1127) (by decide +kernel), List.mem_of_getElem? (i := 1128) (by decide +kernel)⟩
theorem lw_p40 : lw_okq (⟨"ComponentTreeModel", "isLeaf", "(I)Z"⟩, 33) := ⟨⟨by decide +kernel, by decide +kernel⟩, List.mem_of_getElem? (i := 939) (by decide +kernel), List.mem_of_getElem? (i := 1131) (by decide +kernel), List.mem_of_getElem? (i := 1132) (by decide +kernel)⟩
theorem lw_p41 : lw_okq (⟨"ComponentTreeModel", "prominenceOf", "(I)I"⟩, 33) := ⟨⟨by decide +kernel, by decide +kernel⟩, List.mem_of_getElem? (i := 939) (by decide +kernel), List.mem_of_getElem? (i := 1135) (by decide +kernel), List.mem_of_getElem? (i := 1136) (by decide +kernel)⟩
theorem lw_p42 : lw_okq (⟨"ComponentTreeModel", "holdsHigher", "(II)Z"⟩, 33) := ⟨⟨by decide +kernel, by decide +kernel⟩, List.mem_of_getElem? (i := 939) (by decide +kernel), List.mem_of_getElem? (i := 1139) (by decide +kernel), List.mem_of_getElem? (i := 1140) (by decide +kernel)⟩
theorem lw_p43 : lw_okq (⟨"ComponentTreeModel", "isHigher", "(II)Z"⟩, 33) := ⟨⟨by decide +kernel, by decide +kernel⟩, List.mem_of_getElem? (i := 939) (by decide +kernel), List.mem_of_getElem? (i := 1143) (by decide +kernel), List.mem_of_getElem? (i := 1144) (by decide +kernel)⟩
theorem lw_p44 : lw_okq (⟨"ComponentTreeModel", "rightLength", "()I"⟩, 33) := ⟨⟨by decide +kernel, by decide +kernel⟩, List.mem_of_getElem? (i := 939) (by decide +kernel), List.mem_of_getElem? (i := 1190) (by decide +kernel), List.mem_of_getElem? (i := 1191) (by decide +kernel)⟩
theorem lw_p45 : lw_okq (⟨"ComponentTreeModel", "takes", "(I)Z"⟩, 33) := ⟨⟨by decide +kernel, by decide +kernel⟩, List.mem_of_getElem? (i := 939) (by decide +kernel), List.mem_of_getElem? (i := 1194) (by decide +kernel), List.mem_of_getElem? (i := 1195) (by decide +kernel)⟩
theorem lw_p46 : lw_okq (⟨"ComponentTreeModel", "countOf", "(I)I"⟩, 33) := ⟨⟨by decide +kernel, by decide +kernel⟩, List.mem_of_getElem? (i := 939) (by decide +kernel), List.mem_of_getElem? (i := 1209) (by decide +kernel), List.mem_of_getElem? (i := 1210) (by decide +kernel)⟩
theorem lw_p47 : lw_okq (⟨"ComponentTreeModel", "deepest", "()I"⟩, 33) := ⟨⟨by decide +kernel, by decide +kernel⟩, List.mem_of_getElem? (i := 939) (by decide +kernel), List.mem_of_getElem? (i := 1213) (by decide +kernel), List.mem_of_getElem? (i := 1214) (by decide +kernel)⟩
def lw_privs_3 : List (MethodName × Nat) := [(⟨"ComponentTreeModel", "layTree", "()V"⟩, 33), (⟨"ComponentTreeModel", "ofRank", "(I)J"⟩, 33), (⟨"ComponentTreeModel", "rankOf", "(I)I"⟩, 33), (⟨"ComponentTreeModel", "layRank", "(IJJ)V"⟩, 33), (⟨"ComponentTreeModel", "spread", "(IJZ)J"⟩, 33), (⟨"ComponentTreeModel", "beside", "(IZ)J"⟩, 33), (⟨"ComponentTreeModel", "isBelow", "(II)Z"⟩, 33), (⟨"ComponentTreeModel", "layLeaves", "()V"⟩, 33), (⟨"ComponentTreeModel", "isLeaf", "(I)Z"⟩, 33), (⟨"ComponentTreeModel", "prominenceOf", "(I)I"⟩, 33), (⟨"ComponentTreeModel", "holdsHigher", "(II)Z"⟩, 33), (⟨"ComponentTreeModel", "isHigher", "(II)Z"⟩, 33), (⟨"ComponentTreeModel", "rightLength", "()I"⟩, 33), (⟨"ComponentTreeModel", "takes", "(I)Z"⟩, 33), (⟨"ComponentTreeModel", "countOf", "(I)I"⟩, 33), (⟨"ComponentTreeModel", "deepest", "()I"⟩, 33)]
theorem lw_r3 : ∀ q ∈ lw_privs_3, lw_okq q := List.forall_mem_cons.mpr ⟨lw_p32, List.forall_mem_cons.mpr ⟨lw_p33, List.forall_mem_cons.mpr ⟨lw_p34, List.forall_mem_cons.mpr ⟨lw_p35, List.forall_mem_cons.mpr ⟨lw_p36, List.forall_mem_cons.mpr ⟨lw_p37, List.forall_mem_cons.mpr ⟨lw_p38, List.forall_mem_cons.mpr ⟨lw_p39, List.forall_mem_cons.mpr ⟨lw_p40, List.forall_mem_cons.mpr ⟨lw_p41, List.forall_mem_cons.mpr ⟨lw_p42, List.forall_mem_cons.mpr ⟨lw_p43, List.forall_mem_cons.mpr ⟨lw_p44, List.forall_mem_cons.mpr ⟨lw_p45, List.forall_mem_cons.mpr ⟨lw_p46, List.forall_mem_cons.mpr ⟨lw_p47, fun _ h => absurd h List.not_mem_nil⟩⟩⟩⟩⟩⟩⟩⟩⟩⟩⟩⟩⟩⟩⟩⟩
theorem lw_p48 : lw_okq (⟨"ComponentTreeModel", "depthOf", "(I)I"⟩, 33) := ⟨⟨by decide +kernel, by decide +kernel⟩, List.mem_of_getElem? (i := 939) (by decide +kernel), List.mem_of_getElem? (i := 1217) (by decide +kernel), List.mem_of_getElem? (i := 1218) (by decide +kernel)⟩
theorem lw_p49 : lw_okq (⟨"ComponentTreeModel", "differentLevels", "()I"⟩, 33) := ⟨⟨by decide +kernel, by decide +kernel⟩, List.mem_of_getElem? (i := 939) (by decide +kernel), List.mem_of_getElem? (i := 1224) (by decide +kernel), List.mem_of_getElem? (i := 1225) (by decide +kernel)⟩
theorem lw_p50 : lw_okq (⟨"ComponentTreeModel", "sumOfLevels", "()I"⟩, 33) := ⟨⟨by decide +kernel, by decide +kernel⟩, List.mem_of_getElem? (i := 939) (by decide +kernel), List.mem_of_getElem? (i := 1231) (by decide +kernel), List.mem_of_getElem? (i := 1232) (by decide +kernel)⟩
theorem lw_p51 : lw_okq (⟨"ComponentTreeModel", "isNode", "(I)Z"⟩, 33) := ⟨⟨by decide +kernel, by decide +kernel⟩, List.mem_of_getElem? (i := 939) (by decide +kernel), List.mem_of_getElem? (i := 1243) (by decide +kernel), List.mem_of_getElem? (i := 1244) (by decide +kernel)⟩
theorem lw_p52 : lw_okq (⟨"ComponentTreeModel", "attributeOf", "(II)I"⟩, 33) := ⟨⟨by decide +kernel, by decide +kernel⟩, List.mem_of_getElem? (i := 939) (by decide +kernel), List.mem_of_getElem? (i := 1247) (by decide +kernel), List.mem_of_getElem? (i := 1248) (by decide +kernel)⟩
theorem lw_p53 : lw_okq (⟨"ComponentTreeModel", "own", "(I)I"⟩, 33) := ⟨⟨by decide +kernel, by decide +kernel⟩, List.mem_of_getElem? (i := 939) (by decide +kernel), List.mem_of_getElem? (i := 1251) (by decide +kernel), List.mem_of_getElem? (i := 1252) (by decide +kernel)⟩
theorem lw_p54 : lw_okq (⟨"ComponentTreeModel", "heightOf", "(I)I"⟩, 33) := ⟨⟨by decide +kernel, by decide +kernel⟩, List.mem_of_getElem? (i := 939) (by decide +kernel), List.mem_of_getElem? (i := 1255) (by decide +kernel), List.mem_of_getElem? (i := 1256) (by decide +kernel)⟩
theorem lw_p55 : lw_okq (⟨"ComponentTreeModel", "sumOfRanks", "(I)I"⟩, 33) := ⟨⟨by decide +kernel, by decide +kernel⟩, List.mem_of_getElem? (i := 939) (by decide +kernel), List.mem_of_getElem? (i := 1259) (by decide +kernel), List.mem_of_getElem? (i := 1260) (by decide +kernel)⟩
theorem lw_p56 : lw_okq (⟨"ComponentTreeModel", "extent", "(IZ)I"⟩, 33) := ⟨⟨by decide +kernel, by decide +kernel⟩, List.mem_of_getElem? (i := 939) (by decide +kernel), List.mem_of_getElem? (i := 1263) (by decide +kernel), List.mem_of_getElem? (i := 1264) (by decide +kernel)⟩
theorem lw_p57 : lw_okq (⟨"ComponentTreeModel", "perimeter", "(I)I"⟩, 33) := ⟨⟨by decide +kernel, by decide +kernel⟩, List.mem_of_getElem? (i := 939) (by decide +kernel), List.mem_of_getElem? (i := 1267) (by decide +kernel), List.mem_of_getElem? (i := 1268) (by decide +kernel)⟩
theorem lw_p58 : lw_okq (⟨"ComponentTreeModel", "holes", "(I)I"⟩, 33) := ⟨⟨by decide +kernel, by decide +kernel⟩, List.mem_of_getElem? (i := 939) (by decide +kernel), List.mem_of_getElem? (i := 1271) (by decide +kernel), List.mem_of_getElem? (i := 1272) (by decide +kernel)⟩
theorem lw_p59 : lw_okq (⟨"ComponentTreeModel", "all", "()J"⟩, 33) := ⟨⟨by decide +kernel, by decide +kernel⟩, List.mem_of_getElem? (i := 939) (by decide +kernel), List.mem_of_getElem? (i := 1275) (by decide +kernel), List.mem_of_getElem? (i := 1276) (by decide +kernel)⟩
theorem lw_p60 : lw_okq (⟨"ComponentTreeModel", "rim", "()J"⟩, 33) := ⟨⟨by decide +kernel, by decide +kernel⟩, List.mem_of_getElem? (i := 939) (by decide +kernel), List.mem_of_getElem? (i := 1279) (by decide +kernel), List.mem_of_getElem? (i := 1280) (by decide +kernel)⟩
theorem lw_p61 : lw_okq (⟨"ComponentTreeModel", "bestProminence", "(I)I"⟩, 33) := ⟨⟨by decide +kernel, by decide +kernel⟩, List.mem_of_getElem? (i := 939) (by decide +kernel), List.mem_of_getElem? (i := 1283) (by decide +kernel), List.mem_of_getElem? (i := 1284) (by decide +kernel)⟩
theorem lw_p62 : lw_okq (⟨"ComponentTreeModel", "componentOf", "(II)I"⟩, 33) := ⟨⟨by decide +kernel, by decide +kernel⟩, List.mem_of_getElem? (i := 939) (by decide +kernel), List.mem_of_getElem? (i := 1311) (by decide +kernel), List.mem_of_getElem? (i := 1312) (by decide +kernel)⟩
theorem lw_p63 : lw_okq (⟨"ComponentTreeModel", "layValues", "(I)V"⟩, 33) := ⟨⟨by decide +kernel, by decide +kernel⟩, List.mem_of_getElem? (i := 939) (by decide +kernel), List.mem_of_getElem? (i := 1330) (by decide +kernel), List.mem_of_getElem? (i := 1331) (by decide +kernel)⟩
def lw_privs_4 : List (MethodName × Nat) := [(⟨"ComponentTreeModel", "depthOf", "(I)I"⟩, 33), (⟨"ComponentTreeModel", "differentLevels", "()I"⟩, 33), (⟨"ComponentTreeModel", "sumOfLevels", "()I"⟩, 33), (⟨"ComponentTreeModel", "isNode", "(I)Z"⟩, 33), (⟨"ComponentTreeModel", "attributeOf", "(II)I"⟩, 33), (⟨"ComponentTreeModel", "own", "(I)I"⟩, 33), (⟨"ComponentTreeModel", "heightOf", "(I)I"⟩, 33), (⟨"ComponentTreeModel", "sumOfRanks", "(I)I"⟩, 33), (⟨"ComponentTreeModel", "extent", "(IZ)I"⟩, 33), (⟨"ComponentTreeModel", "perimeter", "(I)I"⟩, 33), (⟨"ComponentTreeModel", "holes", "(I)I"⟩, 33), (⟨"ComponentTreeModel", "all", "()J"⟩, 33), (⟨"ComponentTreeModel", "rim", "()J"⟩, 33), (⟨"ComponentTreeModel", "bestProminence", "(I)I"⟩, 33), (⟨"ComponentTreeModel", "componentOf", "(II)I"⟩, 33), (⟨"ComponentTreeModel", "layValues", "(I)V"⟩, 33)]
theorem lw_r4 : ∀ q ∈ lw_privs_4, lw_okq q := List.forall_mem_cons.mpr ⟨lw_p48, List.forall_mem_cons.mpr ⟨lw_p49, List.forall_mem_cons.mpr ⟨lw_p50, List.forall_mem_cons.mpr ⟨lw_p51, List.forall_mem_cons.mpr ⟨lw_p52, List.forall_mem_cons.mpr ⟨lw_p53, List.forall_mem_cons.mpr ⟨lw_p54, List.forall_mem_cons.mpr ⟨lw_p55, List.forall_mem_cons.mpr ⟨lw_p56, List.forall_mem_cons.mpr ⟨lw_p57, List.forall_mem_cons.mpr ⟨lw_p58, List.forall_mem_cons.mpr ⟨lw_p59, List.forall_mem_cons.mpr ⟨lw_p60, List.forall_mem_cons.mpr ⟨lw_p61, List.forall_mem_cons.mpr ⟨lw_p62, List.forall_mem_cons.mpr ⟨lw_p63, fun _ h => absurd h List.not_mem_nil⟩⟩⟩⟩⟩⟩⟩⟩⟩⟩⟩⟩⟩⟩⟩⟩
theorem lw_p64 : lw_okq (⟨"ComponentTreeModel", "layRemains", "(II)V"⟩, 33) := ⟨⟨by decide +kernel, by decide +kernel⟩, List.mem_of_getElem? (i := 939) (by decide +kernel), List.mem_of_getElem? (i := 1334) (by decide +kernel), List.mem_of_getElem? (i := 1335) (by decide +kernel)⟩
theorem lw_p65 : lw_okq (⟨"ComponentTreeModel", "remainsBy", "(III)Z"⟩, 33) := ⟨⟨by decide +kernel, by decide +kernel⟩, List.mem_of_getElem? (i := 939) (by decide +kernel), List.mem_of_getElem? (i := 1338) (by decide +kernel), List.mem_of_getElem? (i := 1339) (by decide +kernel)⟩
theorem lw_p66 : lw_okq (⟨"ComponentTreeModel", "newRank", "(IZ)I"⟩, 33) := ⟨⟨by decide +kernel, by decide +kernel⟩, List.mem_of_getElem? (i := 939) (by decide +kernel), List.mem_of_getElem? (i := 1346) (by decide +kernel), List.mem_of_getElem? (i := 1347) (by decide +kernel)⟩
theorem lw_p67 : lw_okq (⟨"ComponentTreeModel", "lossBy", "(III)I"⟩, 33) := ⟨⟨by decide +kernel, by decide +kernel⟩, List.mem_of_getElem? (i := 939) (by decide +kernel), List.mem_of_getElem? (i := 1354) (by decide +kernel), List.mem_of_getElem? (i := 1355) (by decide +kernel)⟩
theorem lw_p68 : lw_okq (⟨"ComponentTreeModel", "lossNow", "(Z)I"⟩, 33) := ⟨⟨by decide +kernel, by decide +kernel⟩, List.mem_of_getElem? (i := 939) (by decide +kernel), List.mem_of_getElem? (i := 1358) (by decide +kernel), List.mem_of_getElem? (i := 1359) (by decide +kernel)⟩
theorem lw_p69 : lw_okq (⟨"ComponentTreeModel", "takeRemains", "(Z)I"⟩, 33) := ⟨⟨by decide +kernel, by decide +kernel⟩, List.mem_of_getElem? (i := 939) (by decide +kernel), List.mem_of_getElem? (i := 1366) (by decide +kernel), List.mem_of_getElem? (i := 1367) (by decide +kernel)⟩
theorem lw_p70 : lw_okq (⟨"ComponentTreeModel", "takeMade", "()I"⟩, 33) := ⟨⟨by decide +kernel, by decide +kernel⟩, List.mem_of_getElem? (i := 939) (by decide +kernel), List.mem_of_getElem? (i := 1370) (by decide +kernel), List.mem_of_getElem? (i := 1371) (by decide +kernel)⟩
theorem lw_p71 : lw_okq (⟨"ComponentTreeModel", "takeReconstructed", "()I"⟩, 33) := ⟨⟨by decide +kernel, by decide +kernel⟩, List.mem_of_getElem? (i := 939) (by decide +kernel), List.mem_of_getElem? (i := 1382) (by decide +kernel), List.mem_of_getElem? (i := 1383) (by decide +kernel)⟩
theorem lw_p72 : lw_okq (⟨"ComponentTreeModel", "reconstructed", "(I)I"⟩, 33) := ⟨⟨by decide +kernel, by decide +kernel⟩, List.mem_of_getElem? (i := 939) (by decide +kernel), List.mem_of_getElem? (i := 1386) (by decide +kernel), List.mem_of_getElem? (i := 1387) (by decide +kernel)⟩
theorem lw_p73 : lw_okq (⟨"ComponentTreeModel", "mix", "(J)V"⟩, 33) := ⟨⟨by decide +kernel, by decide +kernel⟩, List.mem_of_getElem? (i := 939) (by decide +kernel), List.mem_of_getElem? (i := 1407) (by decide +kernel), List.mem_of_getElem? (i := 1408) (by decide +kernel)⟩
def lw_privs_5 : List (MethodName × Nat) := [(⟨"ComponentTreeModel", "layRemains", "(II)V"⟩, 33), (⟨"ComponentTreeModel", "remainsBy", "(III)Z"⟩, 33), (⟨"ComponentTreeModel", "newRank", "(IZ)I"⟩, 33), (⟨"ComponentTreeModel", "lossBy", "(III)I"⟩, 33), (⟨"ComponentTreeModel", "lossNow", "(Z)I"⟩, 33), (⟨"ComponentTreeModel", "takeRemains", "(Z)I"⟩, 33), (⟨"ComponentTreeModel", "takeMade", "()I"⟩, 33), (⟨"ComponentTreeModel", "takeReconstructed", "()I"⟩, 33), (⟨"ComponentTreeModel", "reconstructed", "(I)I"⟩, 33), (⟨"ComponentTreeModel", "mix", "(J)V"⟩, 33)]
theorem lw_r5 : ∀ q ∈ lw_privs_5, lw_okq q := List.forall_mem_cons.mpr ⟨lw_p64, List.forall_mem_cons.mpr ⟨lw_p65, List.forall_mem_cons.mpr ⟨lw_p66, List.forall_mem_cons.mpr ⟨lw_p67, List.forall_mem_cons.mpr ⟨lw_p68, List.forall_mem_cons.mpr ⟨lw_p69, List.forall_mem_cons.mpr ⟨lw_p70, List.forall_mem_cons.mpr ⟨lw_p71, List.forall_mem_cons.mpr ⟨lw_p72, List.forall_mem_cons.mpr ⟨lw_p73, fun _ h => absurd h List.not_mem_nil⟩⟩⟩⟩⟩⟩⟩⟩⟩⟩
def lw_privs : List (MethodName × Nat) := lw_privs_1 ++ (lw_privs_2 ++ (lw_privs_3 ++ (lw_privs_4 ++ (lw_privs_5))))
def lw_tbl : List Cond := k2_sels lw_privs ++ tables_1
theorem lw_privs_ok : ∀ q ∈ lw_privs, lw_okq q := by
  show ∀ q ∈ lw_privs_1 ++ (lw_privs_2 ++ (lw_privs_3 ++ (lw_privs_4 ++ (lw_privs_5)))), lw_okq q
  exact List.forall_mem_append.mpr ⟨lw_r1, List.forall_mem_append.mpr ⟨lw_r2, List.forall_mem_append.mpr ⟨lw_r3, List.forall_mem_append.mpr ⟨lw_r4, lw_r5⟩⟩⟩⟩
/-- the streams that the claim lets the run draw from -/
abbrev lw_cs : List Choice := [Jvm.Choice.named "NaN.bits"]
theorem lw_bits : nanBits ∈ lw_cs := by first | decide | exact List.mem_cons_self | simp [lw_cs, nanBits]
end
section
/-- the kit's printed text names va_AOA and doesn't hold it: an array class over arrays -/
def va_AOA (ty : FieldType) (U : State) : Prop := (Cond.arrayOver (.array ty)).before #[] U = true
theorem va_AOA.use {ty : FieldType} {A : Array Value} {U : State} (h : va_AOA ty U) : (Cond.arrayOver (.array ty)).before A U = true := h
/-! ===== BEGIN words of one list among another's, by their places ===== -/
theorem goodIn_r {big : List Cond} (ws : List Cond) (ps : List Nat) (hp : ws = ps.filterMap (fun i => big[i]?)) (h : ws.all goodWord = true) : GoodIn big ws := by
  intro w hw
  have h1 := List.all_eq_true.mp h w hw
  rw [hp] at hw
  obtain ⟨i, -, hi⟩ := List.mem_filterMap.mp hw
  have hm : w ∈ big := by first | exact List.mem_of_getElem? hi | exact List.getElem?_mem hi
  exact ⟨hm, good_of_word h1⟩
theorem goodIn_app {big a b : List Cond} (ha : GoodIn big a) (hb : GoodIn big b) : GoodIn big (a ++ b) := fun w h => (List.mem_append.mp h).elim (ha w) (hb w)
theorem goodIn_ca {big a b : List Cond} {c : Cond} (ha : GoodIn big (c :: a)) (hb : GoodIn big b) : GoodIn big (c :: (a ++ b)) := fun w h => (List.mem_cons.mp h).elim (fun e => ha w (List.mem_cons.mpr (Or.inl e))) (fun h => (List.mem_append.mp h).elim (fun h => ha w (List.mem_cons.mpr (Or.inr h))) (hb w))
theorem goodIn_sub {big ws : List Cond} (hm : ∀ w ∈ ws, w ∈ big) (h : ws.all goodWord = true) : GoodIn big ws := fun w hw => ⟨hm w hw, good_of_word (List.all_eq_true.mp h w hw)⟩
/-! ===== END ===== -/

/-! ===== BEGIN new T[n][m]: the outer array a place, the inner ones among the pooled ===== -/
/-- f, but v at every address of l -/
def vr_up {α : Type} (f : Nat → α) (l : List Nat) (v : α) : Nat → α := fun a => if a ∈ l then v else f a
theorem vr_up_in {α : Type} {f : Nat → α} {l : List Nat} {v : α} {a : Nat} (h : a ∈ l) : vr_up f l v a = v := if_pos h
theorem vr_up_ne {α : Type} {f : Nat → α} {l : List Nat} {v : α} {a : Nat} (h : a ∉ l) : vr_up f l v a = f a := if_neg h
theorem vr_rows {L l : List Nat} {f : Nat → va_E} {e : va_E} (h : ∀ a, a ∈ l → a ∉ L) : va_pl L f ++ l.map (fun a => (a, e)) = va_pl (L ++ l) (vr_up f l e) := by
  unfold va_pl
  rw [List.map_append]
  congr 1
  · apply List.map_congr_left
    intro a ha
    rw [vr_up_ne (fun q => h a q ha)]
  · apply List.map_congr_left
    intro a ha
    rw [vr_up_in ha]
theorem vr_lay {X rows : va_W} {x : Nat × va_E} {pl : va_W} {D : va_G} {cl : List vw_C} {H : Heap} (hP : va_P D cl (((X ++ pl) ++ [x]) ++ rows) H) : va_P D cl ((X ++ [x]) ++ (pl ++ rows)) H := by
  rw [List.append_assoc (X ++ pl)] at hP
  have h := va_P.swap hP
  rw [← List.append_assoc X] at h
  have h2 := va_P.swap h
  rw [List.append_assoc (X ++ [x])] at h2
  exact h2
theorem vr_layD {X rows : va_W} {x : Nat × va_E} {pl : va_W} {A : Nat → Prop} (hD : va_D A (((X ++ pl) ++ [x]) ++ rows)) : va_D A ((X ++ [x]) ++ (pl ++ rows)) := by
  rw [List.append_assoc (X ++ pl)] at hD
  have h := va_D.swap hD
  rw [← List.append_assoc X] at h
  have h2 := va_D.swap h
  rw [List.append_assoc (X ++ [x])] at h2
  exact h2
theorem vr_outer (c : ClassId) (N h0 : Nat) : ∀ i : Nat, Jvm.Free.Multi.outerC c N h0 i = arrV c N (fun j => va_rf (if j < i then some (h0 + 1 + j) else none))
  | 0 => by
    show ({ cls := c, slots := Array.replicate N .null, vm := .none } : Cell) = _
    rw [arrV_new]
    refine congrArg (arrV c N) (funext fun j => ?_)
    simp [va_rf]
  | i + 1 => by
    show (Jvm.Free.Multi.outerC c N h0 i).setSlot i (.ref (h0 + 1 + i)) = _
    rw [vr_outer c N h0 i, arrV_store]
    refine congrArg (arrV c N) (funext fun j => ?_)
    by_cases e : j = i
    · subst e
      simp [updV, va_rf]
    · by_cases h : j < i
      · simp [updV, e, h, Nat.lt_succ_of_lt h]
      · simp [updV, e, h, show ¬ j < i + 1 by omega]
section VGM
variable {p : Program} {l : Launch} {e : Env} {R : Room} {s : State} {m : MethodId} {args : Array Value} {below : List Frame} {meth : Method} {c : Code} {H : Heap} {locs : List Loc} {cells slots : Nat} {Q : State → Prop}
variable {cc : ByteArray} {pc : Nat} {ls : Array Slot} {rest : List Value} {D : va_G} {cl : List vw_C} {A : Nat → Prop} {a : Nat} {tys : List (ClassId × FieldType)} {ws : va_W} {H0 : Heap}
theorem va_mna {X : va_W} {L : List Nat} {f : Nat → va_E} {cc : ByteArray} (hexec : p.tables.exec = Jvm.exec) (hb : c.code = cc) {own : String} {index : Nat} {ty : FieldType} {cy : ClassId} (hown : s.vm.findClass own = some m.cls) (hclink : (Cond.classLink own index ("[" ++ (FieldType.array ty).toString)).before args s = true) (hover : va_AOA ty s) (harr : (Cond.arrayClass ty).before args s = true) (hcy : s.vm.findClass (FieldType.array ty).toString = some cy)
    (hK : va_K D cl tys s) (hP : va_P D cl (X ++ va_pl L f) H) (hD : va_D A (X ++ va_pl L f)) (hS : va_S A H0 H locs) (hA : ∀ q, H0.size ≤ q → A q) {n k : Int32} {N' K' : Nat} {z : vp_A} (hn : ¬ n < 0) (hk : ¬ k < 0) (hN : n.toNatClampNeg = N') (hM : k.toNatClampNeg = K')
    (hb1 : N' * 4 ≤ 536870912) (hb2 : K' * componentBytes ty ≤ 536870912) (hb3 : K' ≤ 536870912) (hdf : fits ty (defaultValue ty) = true) (hdd : (defaultValue ty).isDefault = true) (hcells : cells + (1 + N') ≤ R.cells) (hslots : slots + (N' + N' * K') ≤ R.slots) (hz : ∀ c : ClassId, Jvm.Free.Multi.innerC c K' (defaultValue ty) = vp_cell c z) (hdg : decode cc pc = .ok (.multianewarray index 2, 4))
    (kk : ∀ (q : Nat) (r : Nat → Nat) (cA : ClassId) (H1 : Heap), (∀ i j : Nat, i < N' → j < N' → r i = r j → i = j) → (∀ i : Nat, i < N' → r i ∉ L) → va_K D cl (tys ++ [(cA, .array ty)]) s →
      va_P D cl ((X ++ [(q, .inl (cA, N', .inr (.inr (.inr (.inr (fun i => if i < N' then some (r i) else none))))))]) ++ va_pl (L ++ (List.range N').map r) (vr_up f ((List.range N').map r) (.inl (cy, z)))) H1 → va_D A ((X ++ [(q, .inl (cA, N', .inr (.inr (.inr (.inr (fun i => if i < N' then some (r i) else none))))))]) ++ va_pl (L ++ (List.range N').map r) (vr_up f ((List.range N').map r) (.inl (cy, z)))) → va_S A H0 H1 locs →
      W p l e R s m args below meth c H1 locs (cells + 1 + N') (slots + N' + N' * K') Q (F0 m (pc + 4) ls (.ref q :: rest))) : W p l e R s m args below meth c H locs cells slots Q (F0 m pc ls (.int k :: .int n :: rest)) := by
  subst hN
  subst hM
  intro T hT Xs
  obtain ⟨vm₁, cA, comp, -, fA, fC, hO, -, X', step⟩ := Xs.multianewarray2F hexec hown hclink (va_AOA.use hover) harr (g := F0 m pc ls (.int k :: .int n :: rest)) rfl (by rw [hb]; exact hdg) rfl hn hk hb1 hb2 hb3 hdf hdd hcells hslots
  have ec : some cy = some comp := hcy.symm.trans fC
  cases ec
  generalize hF : Jvm.Free.Multi.fill (T.setVm vm₁) cA cy n.toNatClampNeg k.toNatClampNeg (defaultValue ty) n.toNatClampNeg = F at X' step
  have hTh : (T.setVm vm₁).heap = H := hT
  obtain ⟨f1, f2, -, -⟩ := Jvm.Free.Multi.fill_facts (T.setVm vm₁) cA cy n.toNatClampNeg k.toNatClampNeg (defaultValue ty) n.toNatClampNeg
  rw [hF, hTh] at f1 f2
  have hold : ∀ x : Nat, x < H.size → F.heap[x]? = H[x]? := fun x hx => by
    have := Jvm.Free.Multi.fill_old (T.setVm vm₁) cA cy n.toNatClampNeg k.toNatClampNeg (defaultValue ty) (a := x) (by rw [hTh]; exact hx) n.toNatClampNeg
    rw [hF, hTh] at this
    exact this
  have hrow : ∀ j : Nat, j < n.toNatClampNeg → F.heap[H.size + 1 + j]? = some (vp_cell cy z) := fun j hj => by
    have := Jvm.Free.Multi.fill_inner (T.setVm vm₁) cA cy n.toNatClampNeg k.toNatClampNeg (defaultValue ty) n.toNatClampNeg j hj
    rw [hF, hTh, hz] at this
    exact this
  have hout : Jvm.Free.Multi.outerC cA n.toNatClampNeg H.size n.toNatClampNeg = vp_cell cA (n.toNatClampNeg, .inr (.inr (.inr (.inr (fun i => if i < n.toNatClampNeg then some (H.size + 1 + i) else none))))) := by
    rw [vp_cell_q]
    exact vr_outer cA n.toNatClampNeg H.size n.toNatClampNeg
  rw [hout] at f2
  have hlt : ∀ a, a ∈ L → a < H.size := fun a ha => by
    obtain ⟨k9, hk9⟩ := va_pl_get (X := X) (f := f) ha
    exact (hP k9 _ hk9).lt
  have hnl : ∀ i : Nat, i < n.toNatClampNeg → H.size + 1 + i ∉ L := fun i _ h => by
    have := hlt _ h
    omega
  have hnm : ∀ a, a ∈ (List.range n.toNatClampNeg).map (fun i => H.size + 1 + i) → a ∉ L := fun a ha h => by
    obtain ⟨i, -, rfl⟩ := List.mem_map.mp ha
    have := hlt _ h
    omega
  have hP0 : va_P D cl (X ++ va_pl L f) F.heap := hP.kept (fun k9 x hx => hold x.1 ((hP k9 x hx).lt))
  have hP1 : va_P D cl ((X ++ va_pl L f) ++ [(H.size, .inl (cA, n.toNatClampNeg, .inr (.inr (.inr (.inr (fun i => if i < n.toNatClampNeg then some (H.size + 1 + i) else none))))))]) F.heap := hP0.app (fun k9 x hx => by
    have h0 : k9 < 1 := (List.getElem?_eq_some_iff.mp hx).1
    rw [show k9 = 0 by omega] at hx
    cases hx
    exact f2)
  have hP2 : va_P D cl (((X ++ va_pl L f) ++ [(H.size, .inl (cA, n.toNatClampNeg, .inr (.inr (.inr (.inr (fun i => if i < n.toNatClampNeg then some (H.size + 1 + i) else none))))))]) ++ ((List.range n.toNatClampNeg).map (fun i => H.size + 1 + i)).map (fun a => (a, .inl (cy, z)))) F.heap := hP1.app (fun k9 x hx => by
    obtain ⟨a, ha, rfl⟩ := List.mem_map.mp (List.mem_of_getElem? hx)
    obtain ⟨i, hi, rfl⟩ := List.mem_map.mp ha
    exact hrow i (List.mem_range.mp hi))
  have hD2 : va_D A (((X ++ va_pl L f) ++ [(H.size, .inl (cA, n.toNatClampNeg, .inr (.inr (.inr (.inr (fun i => if i < n.toNatClampNeg then some (H.size + 1 + i) else none))))))]) ++ ((List.range n.toNatClampNeg).map (fun i => H.size + 1 + i)).map (fun a => (a, .inl (cy, z)))) := by
    have hD1 := hD.push (e := .inl (cA, n.toNatClampNeg, .inr (.inr (.inr (.inr (fun i => if i < n.toNatClampNeg then some (H.size + 1 + i) else none)))))) hP rfl (hA _ hS.1)
    generalize hW1 : (X ++ va_pl L f) ++ [(H.size, .inl (cA, n.toNatClampNeg, .inr (.inr (.inr (.inr (fun i => if i < n.toNatClampNeg then some (H.size + 1 + i) else none))))))] = W1 at hD1 hP1 ⊢
    have hle : ∀ (k9 : Nat) (x : Nat × va_E), W1[k9]? = some x → x.1 ≤ H.size := fun k9 x hx => by
      rw [← hW1] at hx
      by_cases hl : k9 < (X ++ va_pl L f).length
      · rw [List.getElem?_append_left hl] at hx
        exact Nat.le_of_lt ((hP k9 x hx).lt)
      · rw [List.getElem?_append_right (by omega)] at hx
        have h0 : k9 - (X ++ va_pl L f).length < 1 := (List.getElem?_eq_some_iff.mp hx).1
        rw [show k9 - (X ++ va_pl L f).length = 0 by omega] at hx
        cases hx
        exact Nat.le_refl _
    have hr : ∀ (k9 : Nat) (x : Nat × va_E), (((List.range n.toNatClampNeg).map (fun i => H.size + 1 + i)).map (fun a => ((a, .inl (cy, z)) : Nat × va_E)))[k9]? = some x → x.1 = H.size + 1 + k9 := fun k9 x hx => by
      rw [List.getElem?_map, List.getElem?_map] at hx
      by_cases h9 : k9 < n.toNatClampNeg
      · rw [List.getElem?_range h9] at hx
        cases hx
        rfl
      · have hn0 : (List.range n.toNatClampNeg)[k9]? = none := List.getElem?_eq_none (by rw [List.length_range]; omega)
        rw [hn0] at hx
        cases hx
    refine ⟨fun i j x y hi hj hxy => ?_, fun k9 x hx => ?_⟩
    · by_cases h1 : i < W1.length <;> by_cases h2 : j < W1.length
      · rw [List.getElem?_append_left h1] at hi
        rw [List.getElem?_append_left h2] at hj
        exact hD1.1 i j x y hi hj hxy
      · rw [List.getElem?_append_left h1] at hi
        rw [List.getElem?_append_right (by omega)] at hj
        have := hle _ _ hi
        have := hr _ _ hj
        omega
      · rw [List.getElem?_append_right (by omega)] at hi
        rw [List.getElem?_append_left h2] at hj
        have := hle _ _ hj
        have := hr _ _ hi
        omega
      · rw [List.getElem?_append_right (by omega)] at hi hj
        have := hr _ _ hi
        have := hr _ _ hj
        omega
    · by_cases h1 : k9 < W1.length
      · rw [List.getElem?_append_left h1] at hx
        exact hD1.2 k9 x hx
      · rw [List.getElem?_append_right (by omega)] at hx
        have := hr _ _ hx
        exact hA _ (by have := hS.1; omega)
  have hAr : ArrOfT s cA (.array ty) := fun N9 z9 => by
    obtain ⟨-, k9, hk9, cm9, hkk9⟩ := (hO 0 0 0).1
    exact ⟨(fun q hq => by cases hq), k9, hk9, cm9, hkk9⟩
  have hK2 : va_K D cl (tys ++ [(cA, .array ty)]) s := ⟨hK.1, fun k9 x hx => by
    by_cases hl : k9 < tys.length
    · rw [List.getElem?_append_left hl] at hx
      exact hK.2 k9 x hx
    · rw [List.getElem?_append_right (by omega)] at hx
      have h0 : k9 - tys.length < 1 := (List.getElem?_eq_some_iff.mp hx).1
      rw [show k9 - tys.length = 0 by omega] at hx
      cases hx
      exact ⟨hAr, fA⟩⟩
  obtain ⟨t, a1, b1⟩ := kk H.size (fun i => H.size + 1 + i) cA F.heap (fun i j _ _ h => by have h9 : H.size + 1 + i = H.size + 1 + j := h; omega) hnl hK2 (by rw [← vr_rows hnm]; exact vr_lay hP2) (by rw [← vr_rows hnm]; exact vr_layD hD2) ⟨by rw [f1]; have := hS.1; omega, fun x h1 h2 => (hold x (Nat.lt_of_lt_of_le h1 hS.1)).trans (hS.2.1 x h1 h2), hS.2.2⟩ F rfl X'
  refine ⟨t, step t ?_, b1⟩
  have e : T.heap.size = H.size := by rw [hT]
  rw [e]
  exact a1
end VGM
/-! ===== END ===== -/

/-! ===== BEGIN exceptions that leave a method, and their catching by the caller (launches without stack traces) ===== -/
section VXA
/-! The laws vx_back, vx_callV, vx_callS, vx_callSW, vx_throw0, vx_throwS follow proofs of the library, with one case more: JvmDerived/Free/Laws.lean (Back.of_free), Shelf42/LK1.lean (callV, callS), Shelf/KitTraced.lean (throwNew0V, throwNewS). -/
/-- where a method has thrown q: the class by its name, the cell, what was written, the world -/
def vx_T (XC : String → State → State → Prop) (st : State) (q : Addr) (t : State) (mc ms : Nat) (free : Addr → Prop) : Prop :=
  ∃ (E : String) (ce : Cell) (L : List Loc), XC E st t ∧ t.heap[q]? = some ce ∧ ce.vm = .none ∧ st.vm.findClass E = some ce.cls ∧ st.WarmedH t.vm ∧ st.sameButNew ({ t with vm := st.vm } : State) L mc ms ∧ ∀ z ∈ L, free z.base
def vx_Q (Qc : Array Value → State → Outcome → State → Prop) (XC : String → State → State → Prop) (mc ms : Nat) (free : Addr → Prop) : Array Value → State → Outcome → State → Prop := fun a st o t =>
  (Qc a st o t ∧ ∃ L, FrameEnd st o t L mc ms ∧ ∀ q ∈ L, free q.base) ∨ ∃ q, o = .threw q ∧ vx_T XC st q t mc ms free
/-- a callee that returns or throws -/
def vx_Met (l : Launch) (y : MethodName) (ws : List Cond) (rm : Room) (Pc : Array Value → State → Prop) (Qc : Array Value → State → Outcome → State → Prop) (XC : String → State → State → Prop) (mc ms : Nat) (free : Addr → Prop) : Prop :=
  MetFree l y (headSpec ws rm) Pc (fun _ _ _ _ _ => True) (vx_Q Qc XC mc ms free)
def vx_Post (XC : String → State → State → Prop) (mc ms : Nat) (free : Addr → Prop) : Pt → Array Value → Addr → Pt → Prop := fun A a q B =>
  ∃ (g : JFrame) (mk : MethodId) (t : State) (L : List Loc) (E : String) (ce : Cell), B.U.heap = t.heap ∧ B.U.vm = t.vm ∧ XC E (A.U.calling g mk a) t ∧ t.heap[q]? = some ce ∧ ce.vm = .none ∧ A.U.vm.findClass E = some ce.cls ∧ B.locs = A.locs ++ L ∧ (∀ z ∈ L, free z.base) ∧ B.cells = A.cells + mc ∧ B.slots = A.slots + ms
def vx_Back (l : Launch) (R : Room) (p : Program) (e : Env) (below : List Frame) (s : State) (sargs : Array Value) (y : MethodName) (len W9 : Nat)
    (Pre : Pt → Array Value → Prop) (Post : Pt → Array Value → Option Value → Pt → Prop) (PostX : Pt → Array Value → Addr → Pt → Prop) : Prop :=
  ∀ (m : MethodId) (meth : Method) (c : Code) (A : Pt) (g : JFrame) (ig : Instr) (mk : MethodId) (a : Array Value),
    Stand p l e R s m sargs below meth c A.U A.locs A.cells A.slots → g.method = m → g.locals.size = c.maxLocals → decode c.code g.pc = .ok (ig, len) →
    2 * g.monitorRoom + (g.stack.map fun v => v.category).sum ≤ W9 → A.U.methodNamed? y = some mk → Pre A a →
    (∃ (v : Option Value) (B : Pt), Stand p l e R s m sargs below meth c B.U B.locs B.cells B.slots ∧ Post A a v B ∧
      Steps p.tables e below (doInvoke e (A.U.setTop g) [] mk a).1 (B.U.setTop { g with pc := g.pc + len, stack := v.toList ++ g.stack })) ∨
    (∃ (q : Addr) (B : Pt), Stand p l e R s m sargs below meth c B.U B.locs B.cells B.slots ∧ PostX A a q B ∧
      Steps p.tables e below (doInvoke e (A.U.setTop g) [] mk a).1 ((B.U.setTop g).pushFrame (.throwing q)))
section Payer
variable {l : Launch} {R : Room} {p : Program} {e : Env} {below : List Frame} {s : State} {sargs : Array Value} {y : MethodName} {len W9 : Nat}
theorem vx_back {ws : List Cond} {rm : Room} {Pc : Array Value → State → Prop} {Qc : Array Value → State → Outcome → State → Prop} {XC : String → State → State → Prop} {mc ms : Nat} {free : Addr → Prop} {bytes : ByteArray} {maxL : Nat} {ret : Option FieldType}
    (hM : vx_Met l y ws rm Pc Qc XC mc ms free) (hblind : FrameBlind Pc) (hrc : rm.cells = mc) (hrs : rm.slots = ms)
    (hframes : rm.frames + 1 ≤ R.frames) (hlocals : W9 + (maxL + 11) + rm.locals ≤ R.locals)
    (hws : ∀ w ∈ ws, ∀ a' U, s.WarmedH U.vm → w.before a' U = true) (hcode : Cond.code y bytes maxL ret ∈ ws) (hinit : ∀ a' U, s.WarmedH U.vm → (Cond.initialized y.cls).before a' U = true) :
    vx_Back l R p e below s sargs y len W9 (PreOf R mc ms Pc) (PostOf Qc mc ms free) (vx_Post XC mc ms free) := by
  intro m meth c A g ig mk a X hg hsize hdg hW hn hp
  have h1 : (headSpec ws rm).pre.before a A.U = true := atoms_intro fun w hw => hws w hw _ _ X.warmed
  have h2 : (Cond.code y bytes maxL ret).before a A.U = true := hws _ hcode _ _ X.warmed
  have h3 : (Cond.initialized y.cls).before a A.U = true := hinit _ _ X.warmed
  have h4 : A.cells + (headSpec ws rm).room.cells ≤ R.cells := by rw [show (headSpec ws rm).room.cells = mc from hrc]; exact hp.1
  have h5 : A.slots + (headSpec ws rm).room.slots ≤ R.slots := by rw [show (headSpec ws rm).room.slots = ms from hrs]; exact hp.2.1
  have hPc : Pc a (A.U.calling g mk a) := hblind _ _ _ _ hp.2.2
  obtain ⟨U, Ls, c0, s0⟩ := A
  dsimp only [Pt.U, Pt.locs, Pt.cells, Pt.slots] at h1 h2 h3 h4 h5 X hn hPc ⊢
  obtain ⟨methY, cY, hmY, hcY, -, hlY, -, -, -, -⟩ := Cond.code_spec hn h2
  obtain ⟨kY, hkY, -⟩ := className_of_methodNamed hn
  have hinitY : kY.init = .initialized := Cond.initialized_spec (findClass_of_methodNamed hn) hkY h3
  have h : At U g.method c below := by rw [hg]; exact X.here
  have hlocals9 : W9 + (maxL + 11) + (headSpec ws rm).room.locals ≤ R.locals := hlocals
  have happ : (headSpec ws rm).appliesLoose y e.platform (U.calling g mk a) = true :=
    Spec.appliesLoose_calling (g := g) h hdg hn hkY hinitY
      (X.room_calling (g := g) (R' := (headSpec ws rm).room) hsize hmY hcY hframes (by rw [hlY]; omega) h4 h5) h1
  obtain ⟨mid, hmid⟩ := h.above
  have hfr : (U.setTop g).frames = (.java g :: mid) ++ below := by rw [State.frames_setTop' g h.top, hmid]; rfl
  obtain ⟨o, s₂, hsteps, -, hend, hq⟩ := Steps.callFree hM p X.admits X.cas X.clock (acts := []) hfr happ hPc trivial
  have hq' : vx_Q Qc XC mc ms free a (U.calling g mk a) o s₂ := hq
  rw [State.frames_setTop' g h.top] at hend
  obtain ⟨g₀, hg0⟩ := Option.isSome_iff_exists.mp h.top
  obtain ⟨r, hr⟩ := State.topJava?_eq_some.mp hg0
  have hr' : (({ U with heap := s₂.heap, slotsUsed := s₂.slotsUsed } : State).setVm s₂.vm).frames = .java g₀ :: r := hr
  rcases hq' with ⟨hqc, L, hfe, hL⟩ | ⟨q, rfl, E, ce, L, hx, hce, hcv, hcl, hW₂, hsm, hL⟩
  · obtain ⟨⟨v, rfl⟩, hW₂, e2, q2, q3, q4, q5, q6⟩ := id hfe
    have e3 : s₂ = ({ (U.calling g mk a).setFrames s₂.frames with heap := s₂.heap, slotsUsed := s₂.slotsUsed } : State).setVm s₂.vm := by
      have : s₂ = ({ s₂ with vm := (U.calling g mk a).vm } : State).setVm s₂.vm := rfl
      rw [e2] at this
      exact this
    obtain ⟨c₂, i₂, len₂, hc₂, hd₂, hf₂⟩ := hend
    have hW' : U.WarmedH s₂.vm := hW₂
    have hcc : c₂ = c := by
      have h1 : s₂.code? g.method = U.code? g.method := by
        rw [State.code?_eq, State.code?_eq, hW'.alike.method?]
      exact Option.some.inj (hc₂.symm.trans (h1.trans h.code))
    subst hcc
    have hlen : len₂ = len := by rw [hdg] at hd₂; cases hd₂; rfl
    subst hlen
    have hs₂ : s₂ = (({ U with heap := s₂.heap, slotsUsed := s₂.slotsUsed } : State).setVm s₂.vm).setTop { g with pc := g.pc + len₂, stack := v.toList ++ g.stack } := by
      refine e3.trans ?_
      rw [hf₂, State.calling_eq h.top, State.setFrames_setFrames, State.setTop_of_frames _ hr', hr]
      rfl
    have hsame : U.sameButNew ({ U with heap := s₂.heap, slotsUsed := s₂.slotsUsed } : State) L mc ms := by
      refine ⟨?_, q2, q3, q4, q5, q6⟩
      obtain ⟨t, ht, -⟩ := State.frames_cons hr
      show ({ U with heap := s₂.heap, slotsUsed := s₂.slotsUsed } : State) = { U.setFrames U.frames with heap := s₂.heap, slotsUsed := s₂.slotsUsed }
      rw [State.setFrames_self ht]
    subst hg
    refine Or.inl ⟨v, ⟨(({ U with heap := s₂.heap, slotsUsed := s₂.slotsUsed } : State).setVm s₂.vm), Ls ++ L, c0 + mc, s0 + ms⟩,
      ⟨X.admits, X.cas, X.clock, X.frames, X.room, X.hears, X.method, X.code, (X.here.setHeapUsed s₂.heap s₂.slotsUsed).setVm hW'.alike, X.tail, State.WarmedH.trans X.warmed hW', X.limits, X.bytes, X.same.trans (hsame.setVm s.vm)⟩,
      ⟨g, mk, s₂, L, rfl, rfl, hqc, rfl, hL, rfl, rfl⟩, ?_⟩
    show Steps p.tables e below _ ((({ U with heap := s₂.heap, slotsUsed := s₂.slotsUsed } : State).setVm s₂.vm).setTop { g with pc := g.pc + len₂, stack := v.toList ++ g.stack })
    rw [← hs₂]
    exact hsteps
  · obtain ⟨e2, q2, q3, q4, q5, q6⟩ := id hsm
    have e3 : s₂ = ({ (U.calling g mk a).setFrames s₂.frames with heap := s₂.heap, slotsUsed := s₂.slotsUsed } : State).setVm s₂.vm := by
      have : s₂ = ({ s₂ with vm := (U.calling g mk a).vm } : State).setVm s₂.vm := rfl
      rw [e2] at this
      exact this
    have hf₂ : s₂.frames = .throwing q :: .java g :: U.frames.tail := hend
    have hW' : U.WarmedH s₂.vm := hW₂
    have hs₂ : s₂ = ((({ U with heap := s₂.heap, slotsUsed := s₂.slotsUsed } : State).setVm s₂.vm).setTop g).pushFrame (.throwing q) := by
      refine e3.trans ?_
      rw [hf₂, State.calling_eq h.top, State.setFrames_setFrames, State.pushFrame, State.frames_setTop _ hr', State.setTop_of_frames _ hr', State.setFrames_setFrames, hr]
      rfl
    have hsame : U.sameButNew ({ U with heap := s₂.heap, slotsUsed := s₂.slotsUsed } : State) L mc ms := by
      refine ⟨?_, q2, q3, q4, q5, q6⟩
      obtain ⟨t, ht, -⟩ := State.frames_cons hr
      show ({ U with heap := s₂.heap, slotsUsed := s₂.slotsUsed } : State) = { U.setFrames U.frames with heap := s₂.heap, slotsUsed := s₂.slotsUsed }
      rw [State.setFrames_self ht]
    subst hg
    refine Or.inr ⟨q, ⟨(({ U with heap := s₂.heap, slotsUsed := s₂.slotsUsed } : State).setVm s₂.vm), Ls ++ L, c0 + mc, s0 + ms⟩,
      ⟨X.admits, X.cas, X.clock, X.frames, X.room, X.hears, X.method, X.code, (X.here.setHeapUsed s₂.heap s₂.slotsUsed).setVm hW'.alike, X.tail, State.WarmedH.trans X.warmed hW', X.limits, X.bytes, X.same.trans (hsame.setVm s.vm)⟩,
      ⟨g, mk, s₂, L, E, ce, rfl, rfl, hx, hce, hcv, hcl, rfl, hL, rfl, rfl⟩, ?_⟩
    show Steps p.tables e below _ (((({ U with heap := s₂.heap, slotsUsed := s₂.slotsUsed } : State).setVm s₂.vm).setTop g).pushFrame (.throwing q))
    rw [← hs₂]
    exact hsteps
end Payer
section Calls
variable {p : Program} {l : Launch} {e : Env} {R : Room} {s : State} {m : MethodId} {args : Array Value} {below : List Frame} {meth : Method} {c : Code} {T : State} {locs : List Loc} {cells slots : Nat}
theorem vx_callV (X : Stand p l e R s m args below meth c T locs cells slots) (hexec : p.tables.exec = Jvm.exec) {own C : String} {index : Nat} {y : MethodName} {bytes : ByteArray} {maxL : Nat} {ret : Option FieldType}
    (hown : s.vm.findClass own = some m.cls) (hlink : (Cond.methodLink own index y).before args s = true) (hinst : (Cond.instanceMethod y).before args s = true) (hsel : (Cond.selects C y y).before args s = true)
    (hcode : (Cond.code y bytes maxL ret).before args s = true) (hy : y.cls ≠ "java/lang/invoke/MethodHandle" ∧ y.cls ≠ "java/lang/invoke/VarHandle")
    {W9 : Nat} {Pre : Pt → Array Value → Prop} {Post : Pt → Array Value → Option Value → Pt → Prop} {PostX : Pt → Array Value → Addr → Pt → Prop} (hK : vx_Back l R p e below s args y 3 W9 Pre Post PostX)
    {b : Addr} {cellB : Cell} (hcell : T.heap[b]? = some cellB) (hobj : cellB.vm.isStatics = false) (hcls : s.vm.findClass C = some cellB.cls)
    {g : JFrame} (hg : g.method = m) (hsize : g.locals.size = c.maxLocals) {argsL rest : List Value} (hlen : ∀ sig, parseMethodDescriptor y.desc = some sig → argsL.length = sig.parameters.length)
    (hstack : g.stack = argsL.reverse ++ .ref b :: rest) (hW : 2 * g.monitorRoom + (rest.map fun v => v.category).sum ≤ W9) (hdg : decode c.code g.pc = .ok (.invokevirtual index, 3))
    (hpre : ∀ vm₁, s.WarmedH vm₁ → Pre ⟨T.setVm vm₁, locs, cells, slots⟩ (Value.ref b :: argsL).toArray) :
    (∃ (v : Option Value) (vm₁ : Vm) (B : Pt), s.WarmedH vm₁ ∧ Stand p l e R s m args below meth c B.U B.locs B.cells B.slots ∧ Post ⟨T.setVm vm₁, locs, cells, slots⟩ (Value.ref b :: argsL).toArray v B ∧
      ∀ target, Steps p.tables e below (B.U.setTop { g with pc := g.pc + 3, stack := v.toList ++ rest }) target → Steps p.tables e below (T.setTop g) target) ∨
    (∃ (q : Addr) (vm₁ : Vm) (B : Pt), s.WarmedH vm₁ ∧ Stand p l e R s m args below meth c B.U B.locs B.cells B.slots ∧ PostX ⟨T.setVm vm₁, locs, cells, slots⟩ (Value.ref b :: argsL).toArray q B ∧
      Steps p.tables e below (T.setTop g) ((B.U.setTop { g with stack := rest }).pushFrame (.throwing q))) := by
  obtain ⟨mk, methM, hnamed, hmethM, hstM, habM⟩ := Cond.instanceMethod_spec hinst
  obtain ⟨methM', cM, hmethM', -, -, -, -, -, -, hsigM⟩ := Cond.code_spec hnamed hcode
  cases hmethM.symm.trans hmethM'
  obtain ⟨c2, r2, m2, q1, q2, q3, q4, kP, hkP, hkPi⟩ := Cond.selects_spec hsel
  cases hcls.symm.trans q1
  cases (State.methodFound?_of_named hnamed hy).symm.trans q2
  cases hnamed.symm.trans q3
  have hselP : selectMethod e.platform s.vm cellB.cls mk = .method mk := by rw [Launch.admits_selectMethod X.admits]; exact q4
  obtain ⟨vm₁, X₁, hstep₁⟩ := X.invokevirtual hexec hown hlink hnamed hmethM hstM hkP hkPi hy (a := b) (cell := cellB) hcell
    (fun z h => by rw [h] at hobj; cases hobj) hselP hmethM habM hkP hkPi (g := g) hg (argsL := argsL) (rest := rest) (hlen _ hsigM) hstack hdg
  rcases hK m meth c ⟨T.setVm vm₁, locs, cells, slots⟩ { g with stack := rest } (.invokevirtual index) mk (Value.ref b :: argsL).toArray X₁ hg hsize hdg hW (X₁.named hnamed) (hpre vm₁ X₁.warmed) with ⟨v, B, X', hpost, hsteps⟩ | ⟨q, B, X', hpost, hsteps⟩
  · exact Or.inl ⟨v, vm₁, B, X₁.warmed, X', hpost, fun target h => hstep₁ _ fun acts => by rw [doInvoke_state]; exact hsteps.trans h⟩
  · exact Or.inr ⟨q, vm₁, B, X₁.warmed, X', hpost, hstep₁ _ fun acts => by rw [doInvoke_state]; exact hsteps⟩
theorem vx_callS (X : Stand p l e R s m args below meth c T locs cells slots) (hexec : p.tables.exec = Jvm.exec) {own : String} {index : Nat} {y : MethodName} {bytes : ByteArray} {maxL : Nat} {ret : Option FieldType}
    (hown : s.vm.findClass own = some m.cls) (hlink : (Cond.methodLink own index y).before args s = true) (hstat : (Cond.static y).before args s = true) (hinit : (Cond.initialized y.cls).before args s = true)
    (hcode : (Cond.code y bytes maxL ret).before args s = true) (hy : y.cls ≠ "java/lang/invoke/MethodHandle" ∧ y.cls ≠ "java/lang/invoke/VarHandle")
    {W9 : Nat} {Pre : Pt → Array Value → Prop} {Post : Pt → Array Value → Option Value → Pt → Prop} {PostX : Pt → Array Value → Addr → Pt → Prop} (hK : vx_Back l R p e below s args y 3 W9 Pre Post PostX)
    {g : JFrame} (hg : g.method = m) (hsize : g.locals.size = c.maxLocals) {argsL rest : List Value} (hlen : ∀ sig, parseMethodDescriptor y.desc = some sig → argsL.length = sig.parameters.length)
    (hstack : g.stack = argsL.reverse ++ rest) (hW : 2 * g.monitorRoom + (rest.map fun v => v.category).sum ≤ W9) (hdg : decode c.code g.pc = .ok (.invokestatic index, 3))
    (hpre : ∀ vm₁, s.WarmedH vm₁ → Pre ⟨T.setVm vm₁, locs, cells, slots⟩ argsL.toArray) :
    (∃ (v : Option Value) (vm₁ : Vm) (B : Pt), s.WarmedH vm₁ ∧ Stand p l e R s m args below meth c B.U B.locs B.cells B.slots ∧ Post ⟨T.setVm vm₁, locs, cells, slots⟩ argsL.toArray v B ∧
      ∀ target, Steps p.tables e below (B.U.setTop { g with pc := g.pc + 3, stack := v.toList ++ rest }) target → Steps p.tables e below (T.setTop g) target) ∨
    (∃ (q : Addr) (vm₁ : Vm) (B : Pt), s.WarmedH vm₁ ∧ Stand p l e R s m args below meth c B.U B.locs B.cells B.slots ∧ PostX ⟨T.setVm vm₁, locs, cells, slots⟩ argsL.toArray q B ∧
      Steps p.tables e below (T.setTop g) ((B.U.setTop { g with stack := rest }).pushFrame (.throwing q))) := by
  obtain ⟨mk, hnamed⟩ := Cond.code_named hcode
  obtain ⟨methM, cM, hmethM, -, -, -, -, -, -, hsigM⟩ := Cond.code_spec hnamed hcode
  have hstatic : methM.isStatic = true := Cond.static_spec hnamed hmethM hstat
  obtain ⟨kP, hkP, -⟩ := className_of_methodNamed hnamed
  have hinitP : kP.init = .initialized := Cond.initialized_spec (findClass_of_methodNamed hnamed) hkP hinit
  obtain ⟨vm₁, X₁, hstep₁⟩ := X.invokestatic hexec hown hlink hnamed hmethM hstatic hkP hinitP hy (g := g) hg (argsL := argsL) (rest := rest) (hlen _ hsigM) hstack hdg
  rcases hK m meth c ⟨T.setVm vm₁, locs, cells, slots⟩ { g with stack := rest } (.invokestatic index) mk argsL.toArray X₁ hg hsize hdg hW (X₁.named hnamed) (hpre vm₁ X₁.warmed) with ⟨v, B, X', hpost, hsteps⟩ | ⟨q, B, X', hpost, hsteps⟩
  · exact Or.inl ⟨v, vm₁, B, X₁.warmed, X', hpost, fun target h => hstep₁ _ fun acts => by rw [doInvoke_state]; exact hsteps.trans h⟩
  · exact Or.inr ⟨q, vm₁, B, X₁.warmed, X', hpost, hstep₁ _ fun acts => by rw [doInvoke_state]; exact hsteps⟩
end Calls
theorem vx_cls {s : State} {T : State} {vm₁ : Vm} {E : String} {k : ClassId} (hW : s.WarmedH vm₁) (h : (T.setVm vm₁).vm.findClass E = some k) : s.vm.findClass E = some k := by
  have h1 : vm₁.findClass E = some k := h
  rw [hW.alike.findClass] at h1
  exact h1
/-- the method's frame g, with q thrown over it -/
def vx_W (p : Program) (l : Launch) (e : Env) (R : Room) (s : State) (m : MethodId) (args : Array Value) (below : List Frame) (meth : Method) (c : Code) (H : Heap) (locs : List Loc) (cells slots : Nat) (Q : State → Prop) (g : JFrame) (q : Addr) : Prop :=
  ∀ T : State, T.heap = H → Stand p l e R s m args below meth c T locs cells slots → ∃ t, Steps p.tables e below ((T.setTop g).pushFrame (.throwing q)) t ∧ Q t
def vx_Run (p : Program) (l : Launch) (e : Env) (R : Room) (s : State) (m : MethodId) (args : Array Value) (below : List Frame) (meth : Method) (c : Code) (H : Heap) (locs : List Loc) (cells slots mc ms : Nat) (g : JFrame) (rest : List Value) (Qa : State → Outcome → State → Prop) (XC : String → State → State → Prop) (free : Addr → Prop) : Prop :=
  ∀ T : State, T.heap = H → Stand p l e R s m args below meth c T locs cells slots →
    (∃ (v : Option Value) (st₀ t T' : State) (L : List Loc), st₀.heap = H ∧ Stand p l e R s m args below meth c T' (locs ++ L) (cells + mc) (slots + ms) ∧ (∀ q ∈ L, free q.base) ∧ T'.heap = t.heap ∧ T'.vm = t.vm ∧ Qa st₀ (.returned v) t ∧
      Goes p e below T g T' { g with pc := g.pc + 3, stack := v.toList ++ rest }) ∨
    (∃ (q : Addr) (st₀ t T' : State) (L : List Loc) (E : String) (ce : Cell), st₀.heap = H ∧ Stand p l e R s m args below meth c T' (locs ++ L) (cells + mc) (slots + ms) ∧ (∀ z ∈ L, free z.base) ∧ T'.heap = t.heap ∧ T'.vm = t.vm ∧ XC E st₀ t ∧ t.heap[q]? = some ce ∧ ce.vm = .none ∧ s.vm.findClass E = some ce.cls ∧
      Steps p.tables e below (T.setTop g) ((T'.setTop { g with stack := rest }).pushFrame (.throwing q)))
def vx_X {S : Type} (px : S → Prop) (B : String → S → State → Prop) (A : Nat → Prop) : String → State → State → Prop := fun E st t => ∃ u : S, px u ∧ B E u t ∧ va_F A st t
section Runs
variable {p : Program} {l : Launch} {e : Env} {R : Room} {s : State} {m : MethodId} {args : Array Value} {below : List Frame} {meth : Method} {c : Code} {H : Heap} {locs : List Loc} {cells slots : Nat}
variable {y : MethodName} {bytes cc : ByteArray} {maxL nL mc ms n index : Nat} {ret : Option FieldType} {ws : List Cond} {rm : Room} {Pc : Array Value → State → Prop} {Qc : Array Value → State → Outcome → State → Prop} {XC : String → State → State → Prop} {free : Addr → Prop} {Ts : List Cond} {own C : String} {b : Addr} {As rest : List Value} {g : JFrame}
theorem vx_callBack (cb : CallB R s args own index y bytes maxL ret ws rm mc ms n) (hM : vx_Met l y ws rm Pc Qc XC mc ms free) (hbl : FrameBlind Pc) : vx_Back l R p e below s args y 3 8 (PreOf R mc ms Pc) (PostOf Qc mc ms free) (vx_Post XC mc ms free) := by
  obtain ⟨hrc, hrs, hfr, hlo, hws, hcw, -, hini, -⟩ := cb
  exact vx_back (bytes := bytes) (maxL := maxL) (ret := ret) hM hbl hrc hrs hfr hlo hws hcw (fun a' U hW => word_at hW (Or.inl (by first | rfl | simp [Cond.onTables, Cond.keeps, Cond.steady])) hini)
theorem vx_runV (S : CallFix p m c cc nL s args Ts own) (hM : vx_Met l y ws rm Pc Qc XC mc ms free) (cw : CallW R s args own C index y bytes maxL ret ws rm mc ms n) (hp : PreV s H C b Pc As)
    (hg : g.method = m) (hn : As.length = n) (hsize : g.locals.size = nL) (hstack : g.stack = As.reverse ++ .ref b :: rest) (hW : 2 * g.monitorRoom + (rest.map fun v => v.category).sum ≤ 8) (hdg : decode cc g.pc = .ok (.invokevirtual index, 3)) (hf : cells + mc ≤ R.cells ∧ slots + ms ≤ R.slots) :
    vx_Run p l e R s m args below meth c H locs cells slots mc ms g rest (Qc (Value.ref b :: As).toArray) XC free := by
  have hK : vx_Back l R p e below s args y 3 8 (PreOf R mc ms Pc) (PostOf Qc mc ms free) (vx_Post XC mc ms free) := vx_callBack cw.1 hM hp.1
  obtain ⟨⟨-, -, -, -, -, -, hcode, -, hy, hlen, hl⟩, hin, hse⟩ := cw
  obtain ⟨hx, hb, hml, ho, -⟩ := S
  obtain ⟨-, ⟨cellB, hcB, hoB, hclB⟩, hPc⟩ := hp
  intro T hT X
  rcases vx_callV X hx (C := C) (bytes := bytes) (maxL := maxL) (ret := ret) ho hl hin hse hcode hy hK (by rw [hT]; exact hcB) hoB hclB hg (hsize.trans hml.symm) (argsL := As) (rest := rest) (fun sig h => hn.trans (hlen sig h)) hstack hW (by rw [hb]; exact hdg)
    (fun vm₁ hW₁ => ⟨hf.1, hf.2, hPc (T.setVm vm₁) hT hW₁⟩) with ⟨v, vm₁, ⟨U', l2, c2, s2⟩, hW₁, X', ⟨g', mk, t, L, e1, e2, hq, h1, hL, h2, h3⟩, st⟩ | ⟨q, vm₁, ⟨U', l2, c2, s2⟩, hW₁, X', ⟨g', mk, t, L, E, ce, e1, e2, hq, hce, hcv, hcl, h1, hL, h2, h3⟩, st⟩
  · dsimp only [Pt.U, Pt.locs, Pt.cells, Pt.slots] at X' e1 e2 h1 h2 h3 st
    subst h1; subst h2; subst h3
    exact Or.inl ⟨v, (T.setVm vm₁).calling g' mk (Value.ref b :: As).toArray, t, U', L, hT, X', hL, e1, e2, hq, st⟩
  · dsimp only [Pt.U, Pt.locs, Pt.cells, Pt.slots] at X' e1 e2 h1 h2 h3 st hcl
    subst h1; subst h2; subst h3
    exact Or.inr ⟨q, (T.setVm vm₁).calling g' mk (Value.ref b :: As).toArray, t, U', L, E, ce, hT, X', hL, e1, e2, hq, hce, hcv, vx_cls hW₁ hcl, st⟩
theorem vx_runS (S : CallFix p m c cc nL s args Ts own) (hM : vx_Met l y ws rm Pc Qc XC mc ms free) (cw : CallB R s args own index y bytes maxL ret ws rm mc ms n ∧ (Cond.static y).before args s = true) (hp : PreS s H Pc As)
    (hg : g.method = m) (hn : As.length = n) (hsize : g.locals.size = nL) (hstack : g.stack = As.reverse ++ rest) (hW : 2 * g.monitorRoom + (rest.map fun v => v.category).sum ≤ 8) (hdg : decode cc g.pc = .ok (.invokestatic index, 3)) (hf : cells + mc ≤ R.cells ∧ slots + ms ≤ R.slots) :
    vx_Run p l e R s m args below meth c H locs cells slots mc ms g rest (Qc As.toArray) XC free := by
  have hK : vx_Back l R p e below s args y 3 8 (PreOf R mc ms Pc) (PostOf Qc mc ms free) (vx_Post XC mc ms free) := vx_callBack cw.1 hM hp.1
  obtain ⟨⟨-, -, -, -, -, -, hcode, hini, hy, hlen, hl⟩, hstt⟩ := cw
  obtain ⟨hx, hb, hml, ho, -⟩ := S
  intro T hT X
  rcases vx_callS X hx (bytes := bytes) (maxL := maxL) (ret := ret) ho hl hstt hini hcode hy hK hg (hsize.trans hml.symm) (argsL := As) (rest := rest) (fun sig h => hn.trans (hlen sig h)) hstack hW (by rw [hb]; exact hdg)
    (fun vm₁ hW₁ => ⟨hf.1, hf.2, hp.2 (T.setVm vm₁) hT hW₁⟩) with ⟨v, vm₁, ⟨U', l2, c2, s2⟩, hW₁, X', ⟨g', mk, t, L, e1, e2, hq, h1, hL, h2, h3⟩, st⟩ | ⟨q, vm₁, ⟨U', l2, c2, s2⟩, hW₁, X', ⟨g', mk, t, L, E, ce, e1, e2, hq, hce, hcv, hcl, h1, hL, h2, h3⟩, st⟩
  · dsimp only [Pt.U, Pt.locs, Pt.cells, Pt.slots] at X' e1 e2 h1 h2 h3 st
    subst h1; subst h2; subst h3
    exact Or.inl ⟨v, (T.setVm vm₁).calling g' mk As.toArray, t, U', L, hT, X', hL, e1, e2, hq, st⟩
  · dsimp only [Pt.U, Pt.locs, Pt.cells, Pt.slots] at X' e1 e2 h1 h2 h3 st hcl
    subst h1; subst h2; subst h3
    exact Or.inr ⟨q, (T.setVm vm₁).calling g' mk As.toArray, t, U', L, E, ce, hT, X', hL, e1, e2, hq, hce, hcv, vx_cls hW₁ hcl, st⟩
end Runs
section Rows
variable {p : Program} {l : Launch} {e : Env} {R : Room} {s : State} {m : MethodId} {args : Array Value} {below : List Frame} {meth : Method} {c : Code} {H : Heap} {locs : List Loc} {cells slots : Nat} {Q : State → Prop}
variable {mc ms : Nat} {free : Addr → Prop} {A0 A1 : Nat → Prop} {H0 : Heap} {a : Array Value} {pc : Nat} {ls : Array Slot} {st0 rest : List Value}
theorem vx_keep {st₀ t T' : State} {L : List Loc} (h0 : st₀.heap = H) (e1 : T'.heap = t.heap) (hS : va_S A0 H0 H locs) (hA : ∀ q, q < H.size → A1 q → A0 q) (hf : ∀ q, free q → A0 q) (hL : ∀ q ∈ L, free q.base) (hF : va_F A1 st₀ t) :
    H.size ≤ T'.heap.size ∧ (∀ q : Nat, q < H.size → ¬ A1 q → T'.heap[q]? = H[q]?) ∧ va_S A0 H0 T'.heap (locs ++ L) := by
  obtain ⟨hz, hk⟩ := hF
  rw [h0] at hz hk
  exact ⟨by rw [e1]; exact hz, fun q h1 h2 => by rw [e1]; exact hk q h1 h2,
    ⟨Nat.le_trans hS.1 (by rw [e1]; exact hz), fun q h1 h2 => by rw [e1, hk q (Nat.lt_of_lt_of_le h1 hS.1) (fun z => h2 (hA q (Nat.lt_of_lt_of_le h1 hS.1) z))]; exact hS.2.1 q h1 h2, fun q hq => by
      rcases List.mem_append.mp hq with h | h
      · exact hS.2.2 q h
      · exact hf _ (hL q h)⟩⟩
theorem vx_calli {S SX : Type} {post : Int32 → S → Prop} {px : SX → Prop} {B : S → State → Prop} {BX : String → SX → State → Prop} {AX : Nat → Prop} (hr : vx_Run p l e R s m args below meth c H locs cells slots mc ms (F0 m pc ls st0) rest (va_Qi post B A1 a) (vx_X px BX AX) free) (hS : va_S A0 H0 H locs) (hA : ∀ q, q < H.size → A1 q → A0 q) (hf : ∀ q, free q → A0 q) (hAX : ∀ q, q < H.size → AX q → A0 q)
    (kx : ∀ (E : String) (ce : Cell) (q9 : Addr) (u : SX) (t : State) (H1 : Heap) (locs1 : List Loc), t.heap = H1 → s.vm.Alike t.vm → px u → BX E u t → H.size ≤ H1.size → (∀ q : Nat, q < H.size → ¬ AX q → H1[q]? = H[q]?) → va_S A0 H0 H1 locs1 → H1[q9]? = some ce → ce.vm = .none → s.vm.findClass E = some ce.cls → vx_W p l e R s m args below meth c H1 locs1 (cells + mc) (slots + ms) Q (F0 m pc ls rest) q9)
    (kk : ∀ (r : Int32) (u : S) (t : State) (H1 : Heap) (locs1 : List Loc), t.heap = H1 → s.vm.Alike t.vm → post r u → B u t → H.size ≤ H1.size → (∀ q : Nat, q < H.size → ¬ A1 q → H1[q]? = H[q]?) → va_S A0 H0 H1 locs1 → W p l e R s m args below meth c H1 locs1 (cells + mc) (slots + ms) Q (F0 m (pc + 3) ls (.int r :: rest))) : W p l e R s m args below meth c H locs cells slots Q (F0 m pc ls st0) := by
  intro T hT X
  rcases hr T hT X with ⟨v, st₀, t, T', L, h0, X', hL, e1, e2, ⟨⟨r, u, hv, hp, hb⟩, hF⟩, st⟩ | ⟨q, st₀, t, T', L, E, ce, h0, X', hL, e1, e2, ⟨u, hp, hb, hF⟩, hce, hcv, hcl, st⟩
  · cases hv
    obtain ⟨k1, k2, k3⟩ := vx_keep h0 e1 hS hA hf hL hF
    obtain ⟨t2, a1, b1⟩ := kk r u t T'.heap (locs ++ L) e1.symm (by rw [← e2]; exact X'.warmed.alike) hp hb k1 k2 k3 T' rfl X'
    exact ⟨t2, st t2 a1, b1⟩
  · obtain ⟨k1, k2, k3⟩ := vx_keep h0 e1 hS hAX hf hL hF
    obtain ⟨t2, a1, b1⟩ := kx E ce q u t T'.heap (locs ++ L) e1.symm (by rw [← e2]; exact X'.warmed.alike) hp hb k1 k2 k3 (by rw [e1]; exact hce) hcv hcl T' rfl X'
    exact ⟨t2, st.trans a1, b1⟩
theorem vx_calll {S SX : Type} {post : Int64 → S → Prop} {px : SX → Prop} {B : S → State → Prop} {BX : String → SX → State → Prop} {AX : Nat → Prop} (hr : vx_Run p l e R s m args below meth c H locs cells slots mc ms (F0 m pc ls st0) rest (va_Ql post B A1 a) (vx_X px BX AX) free) (hS : va_S A0 H0 H locs) (hA : ∀ q, q < H.size → A1 q → A0 q) (hf : ∀ q, free q → A0 q) (hAX : ∀ q, q < H.size → AX q → A0 q)
    (kx : ∀ (E : String) (ce : Cell) (q9 : Addr) (u : SX) (t : State) (H1 : Heap) (locs1 : List Loc), t.heap = H1 → s.vm.Alike t.vm → px u → BX E u t → H.size ≤ H1.size → (∀ q : Nat, q < H.size → ¬ AX q → H1[q]? = H[q]?) → va_S A0 H0 H1 locs1 → H1[q9]? = some ce → ce.vm = .none → s.vm.findClass E = some ce.cls → vx_W p l e R s m args below meth c H1 locs1 (cells + mc) (slots + ms) Q (F0 m pc ls rest) q9)
    (kk : ∀ (r : Int64) (u : S) (t : State) (H1 : Heap) (locs1 : List Loc), t.heap = H1 → s.vm.Alike t.vm → post r u → B u t → H.size ≤ H1.size → (∀ q : Nat, q < H.size → ¬ A1 q → H1[q]? = H[q]?) → va_S A0 H0 H1 locs1 → W p l e R s m args below meth c H1 locs1 (cells + mc) (slots + ms) Q (F0 m (pc + 3) ls (.long r :: rest))) : W p l e R s m args below meth c H locs cells slots Q (F0 m pc ls st0) := by
  intro T hT X
  rcases hr T hT X with ⟨v, st₀, t, T', L, h0, X', hL, e1, e2, ⟨⟨r, u, hv, hp, hb⟩, hF⟩, st⟩ | ⟨q, st₀, t, T', L, E, ce, h0, X', hL, e1, e2, ⟨u, hp, hb, hF⟩, hce, hcv, hcl, st⟩
  · cases hv
    obtain ⟨k1, k2, k3⟩ := vx_keep h0 e1 hS hA hf hL hF
    obtain ⟨t2, a1, b1⟩ := kk r u t T'.heap (locs ++ L) e1.symm (by rw [← e2]; exact X'.warmed.alike) hp hb k1 k2 k3 T' rfl X'
    exact ⟨t2, st t2 a1, b1⟩
  · obtain ⟨k1, k2, k3⟩ := vx_keep h0 e1 hS hAX hf hL hF
    obtain ⟨t2, a1, b1⟩ := kx E ce q u t T'.heap (locs ++ L) e1.symm (by rw [← e2]; exact X'.warmed.alike) hp hb k1 k2 k3 (by rw [e1]; exact hce) hcv hcl T' rfl X'
    exact ⟨t2, st.trans a1, b1⟩
theorem vx_callf {S SX : Type} {post : UInt32 → S → Prop} {px : SX → Prop} {B : S → State → Prop} {BX : String → SX → State → Prop} {AX : Nat → Prop} (hr : vx_Run p l e R s m args below meth c H locs cells slots mc ms (F0 m pc ls st0) rest (va_Qf post B A1 a) (vx_X px BX AX) free) (hS : va_S A0 H0 H locs) (hA : ∀ q, q < H.size → A1 q → A0 q) (hf : ∀ q, free q → A0 q) (hAX : ∀ q, q < H.size → AX q → A0 q)
    (kx : ∀ (E : String) (ce : Cell) (q9 : Addr) (u : SX) (t : State) (H1 : Heap) (locs1 : List Loc), t.heap = H1 → s.vm.Alike t.vm → px u → BX E u t → H.size ≤ H1.size → (∀ q : Nat, q < H.size → ¬ AX q → H1[q]? = H[q]?) → va_S A0 H0 H1 locs1 → H1[q9]? = some ce → ce.vm = .none → s.vm.findClass E = some ce.cls → vx_W p l e R s m args below meth c H1 locs1 (cells + mc) (slots + ms) Q (F0 m pc ls rest) q9)
    (kk : ∀ (r : UInt32) (u : S) (t : State) (H1 : Heap) (locs1 : List Loc), t.heap = H1 → s.vm.Alike t.vm → post r u → B u t → H.size ≤ H1.size → (∀ q : Nat, q < H.size → ¬ A1 q → H1[q]? = H[q]?) → va_S A0 H0 H1 locs1 → W p l e R s m args below meth c H1 locs1 (cells + mc) (slots + ms) Q (F0 m (pc + 3) ls (.float r :: rest))) : W p l e R s m args below meth c H locs cells slots Q (F0 m pc ls st0) := by
  intro T hT X
  rcases hr T hT X with ⟨v, st₀, t, T', L, h0, X', hL, e1, e2, ⟨⟨r, u, hv, hp, hb⟩, hF⟩, st⟩ | ⟨q, st₀, t, T', L, E, ce, h0, X', hL, e1, e2, ⟨u, hp, hb, hF⟩, hce, hcv, hcl, st⟩
  · cases hv
    obtain ⟨k1, k2, k3⟩ := vx_keep h0 e1 hS hA hf hL hF
    obtain ⟨t2, a1, b1⟩ := kk r u t T'.heap (locs ++ L) e1.symm (by rw [← e2]; exact X'.warmed.alike) hp hb k1 k2 k3 T' rfl X'
    exact ⟨t2, st t2 a1, b1⟩
  · obtain ⟨k1, k2, k3⟩ := vx_keep h0 e1 hS hAX hf hL hF
    obtain ⟨t2, a1, b1⟩ := kx E ce q u t T'.heap (locs ++ L) e1.symm (by rw [← e2]; exact X'.warmed.alike) hp hb k1 k2 k3 (by rw [e1]; exact hce) hcv hcl T' rfl X'
    exact ⟨t2, st.trans a1, b1⟩
theorem vx_calld {S SX : Type} {post : UInt64 → S → Prop} {px : SX → Prop} {B : S → State → Prop} {BX : String → SX → State → Prop} {AX : Nat → Prop} (hr : vx_Run p l e R s m args below meth c H locs cells slots mc ms (F0 m pc ls st0) rest (va_Qd post B A1 a) (vx_X px BX AX) free) (hS : va_S A0 H0 H locs) (hA : ∀ q, q < H.size → A1 q → A0 q) (hf : ∀ q, free q → A0 q) (hAX : ∀ q, q < H.size → AX q → A0 q)
    (kx : ∀ (E : String) (ce : Cell) (q9 : Addr) (u : SX) (t : State) (H1 : Heap) (locs1 : List Loc), t.heap = H1 → s.vm.Alike t.vm → px u → BX E u t → H.size ≤ H1.size → (∀ q : Nat, q < H.size → ¬ AX q → H1[q]? = H[q]?) → va_S A0 H0 H1 locs1 → H1[q9]? = some ce → ce.vm = .none → s.vm.findClass E = some ce.cls → vx_W p l e R s m args below meth c H1 locs1 (cells + mc) (slots + ms) Q (F0 m pc ls rest) q9)
    (kk : ∀ (r : UInt64) (u : S) (t : State) (H1 : Heap) (locs1 : List Loc), t.heap = H1 → s.vm.Alike t.vm → post r u → B u t → H.size ≤ H1.size → (∀ q : Nat, q < H.size → ¬ A1 q → H1[q]? = H[q]?) → va_S A0 H0 H1 locs1 → W p l e R s m args below meth c H1 locs1 (cells + mc) (slots + ms) Q (F0 m (pc + 3) ls (.double r :: rest))) : W p l e R s m args below meth c H locs cells slots Q (F0 m pc ls st0) := by
  intro T hT X
  rcases hr T hT X with ⟨v, st₀, t, T', L, h0, X', hL, e1, e2, ⟨⟨r, u, hv, hp, hb⟩, hF⟩, st⟩ | ⟨q, st₀, t, T', L, E, ce, h0, X', hL, e1, e2, ⟨u, hp, hb, hF⟩, hce, hcv, hcl, st⟩
  · cases hv
    obtain ⟨k1, k2, k3⟩ := vx_keep h0 e1 hS hA hf hL hF
    obtain ⟨t2, a1, b1⟩ := kk r u t T'.heap (locs ++ L) e1.symm (by rw [← e2]; exact X'.warmed.alike) hp hb k1 k2 k3 T' rfl X'
    exact ⟨t2, st t2 a1, b1⟩
  · obtain ⟨k1, k2, k3⟩ := vx_keep h0 e1 hS hAX hf hL hF
    obtain ⟨t2, a1, b1⟩ := kx E ce q u t T'.heap (locs ++ L) e1.symm (by rw [← e2]; exact X'.warmed.alike) hp hb k1 k2 k3 (by rw [e1]; exact hce) hcv hcl T' rfl X'
    exact ⟨t2, st.trans a1, b1⟩
theorem vx_callv {S SX : Type} {post : S → Prop} {px : SX → Prop} {B : S → State → Prop} {BX : String → SX → State → Prop} {AX : Nat → Prop} (hr : vx_Run p l e R s m args below meth c H locs cells slots mc ms (F0 m pc ls st0) rest (va_Qv post B A1 a) (vx_X px BX AX) free) (hS : va_S A0 H0 H locs) (hA : ∀ q, q < H.size → A1 q → A0 q) (hf : ∀ q, free q → A0 q) (hAX : ∀ q, q < H.size → AX q → A0 q)
    (kx : ∀ (E : String) (ce : Cell) (q9 : Addr) (u : SX) (t : State) (H1 : Heap) (locs1 : List Loc), t.heap = H1 → s.vm.Alike t.vm → px u → BX E u t → H.size ≤ H1.size → (∀ q : Nat, q < H.size → ¬ AX q → H1[q]? = H[q]?) → va_S A0 H0 H1 locs1 → H1[q9]? = some ce → ce.vm = .none → s.vm.findClass E = some ce.cls → vx_W p l e R s m args below meth c H1 locs1 (cells + mc) (slots + ms) Q (F0 m pc ls rest) q9)
    (kk : ∀ (u : S) (t : State) (H1 : Heap) (locs1 : List Loc), t.heap = H1 → s.vm.Alike t.vm → post u → B u t → H.size ≤ H1.size → (∀ q : Nat, q < H.size → ¬ A1 q → H1[q]? = H[q]?) → va_S A0 H0 H1 locs1 → W p l e R s m args below meth c H1 locs1 (cells + mc) (slots + ms) Q (F0 m (pc + 3) ls (rest))) : W p l e R s m args below meth c H locs cells slots Q (F0 m pc ls st0) := by
  intro T hT X
  rcases hr T hT X with ⟨v, st₀, t, T', L, h0, X', hL, e1, e2, ⟨⟨u, hv, hp, hb⟩, hF⟩, st⟩ | ⟨q, st₀, t, T', L, E, ce, h0, X', hL, e1, e2, ⟨u, hp, hb, hF⟩, hce, hcv, hcl, st⟩
  · cases hv
    obtain ⟨k1, k2, k3⟩ := vx_keep h0 e1 hS hA hf hL hF
    obtain ⟨t2, a1, b1⟩ := kk u t T'.heap (locs ++ L) e1.symm (by rw [← e2]; exact X'.warmed.alike) hp hb k1 k2 k3 T' rfl X'
    exact ⟨t2, st t2 a1, b1⟩
  · obtain ⟨k1, k2, k3⟩ := vx_keep h0 e1 hS hAX hf hL hF
    obtain ⟨t2, a1, b1⟩ := kx E ce q u t T'.heap (locs ++ L) e1.symm (by rw [← e2]; exact X'.warmed.alike) hp hb k1 k2 k3 (by rw [e1]; exact hce) hcv hcl T' rfl X'
    exact ⟨t2, st.trans a1, b1⟩
/-- caught by the row x of this method's table; the rows ahead don't take it -/
theorem vx_catch {own name : String} {E : String} {ce : Cell} {q : Addr} (hown : s.vm.findClass own = some m.cls) (pre : List ExceptionTableEntry) (x : ExceptionTableEntry) (suf : List ExceptionTableEntry) (hsplit : c.exceptionTable.toList = pre ++ x :: suf)
    (hpass : ∀ z ∈ pre, covers z pc = false ∨ (z.catchType ≠ 0 ∧ ∃ nm : String, (Cond.classLink own z.catchType nm).before args s = true ∧ va_Nc E nm s)) (hx : covers x pc = true) (h0 : x.catchType ≠ 0)
    (hlink : (Cond.classLink own x.catchType name).before args s = true) (hcast : (Cond.castable E name).before args s = true) (hcell : H[q]? = some ce) (hv : ce.vm = .none) (hcl : s.vm.findClass E = some ce.cls)
    (kk : W p l e R s m args below meth c H locs cells slots Q (F0 m x.handlerPc ls [.ref q])) : vx_W p l e R s m args below meth c H locs cells slots Q (F0 m pc ls rest) q := by
  intro T hT X
  have hpl : e.platform.magicAccessors = ({} : Platform).magicAccessors := by rw [X.admits.platform]
  obtain ⟨c3, c4, hc3, hc4, hasg⟩ := Cond.castable_spec hcast
  cases Option.some.inj (hc3.symm.trans hcl)
  obtain ⟨c5, hc5, hcl5⟩ := Cond.classLink_spec hown hlink e.platform hpl
  cases Option.some.inj (hc4.symm.trans hc5)
  obtain ⟨vm', X', st⟩ := X.thenCaughtThrough q (g := F0 m pc ls rest) rfl (Steps.refl _) (by rw [hT]; exact hcell) (by rw [hv]; rfl) (by obtain ⟨k9, h9, -⟩ := Vm.findClass_spec hcl; exact ⟨k9, h9⟩) pre x suf hsplit
    (fun z hz => by
      rcases hpass z hz with h | ⟨hz0, nm, hl1, hn1⟩
      · exact Or.inl h
      · obtain ⟨c6, hc6, hcl6⟩ := Cond.classLink_spec hown hl1 e.platform hpl
        obtain ⟨a8, b8, h1, h2, h3⟩ := hn1
        cases Option.some.inj (h1.symm.trans hcl)
        cases Option.some.inj (h2.symm.trans hc6)
        exact Or.inr ⟨hz0, _, hcl6, h3⟩) hx (Or.inr ⟨h0, c4, hcl5, hasg⟩)
  obtain ⟨t, a1, b1⟩ := kk (T.setVm vm') hT X'
  exact ⟨t, st.trans a1, b1⟩
end Rows
section Ends
variable {p : Program} {l : Launch} {e : Env} {R : Room} {s : State} {m : MethodId} {args : Array Value} {below : List Frame} {meth : Method} {c : Code} {H : Heap} {locs : List Loc} {cells slots : Nat} {Q : State → Prop}
variable {mc ms : Nat} {free : Addr → Prop} {A0 A1 : Nat → Prop} {H0 : Heap} {a : Array Value} {ls : Array Slot} {st0 rest : List Value}
variable {Qc : Array Value → State → Outcome → State → Prop} {XC : String → State → State → Prop}
/-- what a body that may throw owes at its end -/
def vx_MQ (below : List Frame) (Qc : Array Value → State → Outcome → State → Prop) (XC : String → State → State → Prop) (a : Array Value) (s : State) (mc ms : Nat) (free : Addr → Prop) : State → Prop := fun t =>
  ∃ o, t.status = .running ∧ Ended t below o ∧ vx_Q Qc XC mc ms free a s o t
theorem vx_ret {g : JFrame} {mc ms : Nat} (k : W p l e R s m args below meth c H locs cells slots (MQ below Qc args s mc ms free) g) : W p l e R s m args below meth c H locs cells slots (vx_MQ below Qc XC args s mc ms free) g := by
  intro T hT X
  obtain ⟨t, a1, o, b1, b2, b3, b4⟩ := k T hT X
  exact ⟨t, a1, o, b1, b2, Or.inl ⟨b3, b4⟩⟩
/-- not caught here: it goes on to the caller -/
theorem vx_widen {g : JFrame} {q : Addr} {k n : Nat} (h1 : cells ≤ k) (h2 : slots ≤ n) (kk : vx_W p l e R s m args below meth c H locs k n Q g q) : vx_W p l e R s m args below meth c H locs cells slots Q g q := fun T hT X => kk T hT (stand_widen X h1 h2)
theorem vx_out {pc : Nat} {E : String} {ce : Cell} {q : Addr} {mc ms : Nat} (hout : ∀ x ∈ c.exceptionTable.toList, covers x pc = false) (hlocks : meth.locks = false) (hcell : H[q]? = some ce) (hv : ce.vm = .none) (hcl : s.vm.findClass E = some ce.cls)
    (hx : ∀ t : State, t.heap = H → s.vm.Alike t.vm → XC E s t) (hf : ∀ z ∈ locs, free z.base) (hc : cells ≤ mc) (hs : slots ≤ ms) :
    vx_W p l e R s m args below meth c H locs cells slots (vx_MQ below Qc XC args s mc ms free) (F0 m pc ls rest) q := by
  intro T hT X
  obtain ⟨st1, hrun, hend, hW, hsm⟩ := X.leaveThrown q (g := F0 m pc ls rest) rfl rfl rfl hout hlocks
  have hcell9 : (T.setFrames (.throwing q :: below)).heap[q]? = some ce := by
    show T.heap[q]? = some ce
    rw [hT]; exact hcell
  exact ⟨_, st1, .threw q, hrun, hend, Or.inr ⟨q, rfl, E, ce, locs, hx _ hT hW.alike, hcell9, hv, hcl, hW, hsm.mono hc hs, hf⟩⟩
theorem vx_frame {U : State} {k n : Nat} (h : s.sameButNew ({ U with vm := s.vm } : State) locs k n) : s.heap.size ≤ U.heap.size ∧ ∀ q : Nat, q < s.heap.size → (∀ z ∈ locs, z.base ≠ q) → U.heap[q]? = s.heap[q]? := by
  obtain ⟨-, h2, -, -, -, h6⟩ := h
  refine ⟨h2, fun q hq hz => ?_⟩
  obtain ⟨c9, e1, e2, e3, e4⟩ := h6 q _ (Array.getElem?_eq_getElem hq)
  have hs : c9.slots = (s.heap[q]).slots := Array.ext_getElem? fun i => e4 i fun hm => hz _ hm rfl
  have h9 : c9 = s.heap[q] := by
    rw [hs] at e2
    exact e2
  have e5 : U.heap[q]? = some c9 := e1
  rw [e5, h9, Array.getElem?_eq_getElem hq]
/-- the words of a throw but the four that speak of the heap -/
def vx_no (w : Cond) : Bool := decide (w ≠ .isRef (.static Bundle.tN "UNASSIGNED_STACK" Bundle.steD)) && decide (w ≠ .isRef (.static Bundle.tN "SUPPRESSED_SENTINEL" Bundle.listD)) && decide (w ≠ .laysStatic Bundle.tN "UNASSIGNED_STACK" Bundle.steD) && decide (w ≠ .laysStatic Bundle.tN "SUPPRESSED_SENTINEL" Bundle.listD)
def vx_at0 (own : String) (ic : Nat) (X : String) (names : List String) : List Cond := (Bundle.ownAtoms0 own ic X names).filter vx_no
def vx_atS (own : String) (ic : Nat) (X : String) (names : List String) : List Cond := (Bundle.ownAtoms own ic X names).filter vx_no
/-- a word that the tables alone decide, or a good one -/
def vx_ot (w : Cond) : Bool := w.onTables || goodWord w
theorem vx_ot_at {args a' : Array Value} {s U : State} {w : Cond} (hW : s.WarmedH U.vm) (hvm : s.vm = U.vm) (hg : vx_ot w = true) (h : w.before args s = true) : w.before a' U = true := by
  simp only [vx_ot, Bool.or_eq_true] at hg
  rcases hg with hg | hg
  · exact va_tabs hg hvm h
  · exact word_at hW (good_of_word hg) h
/-- a list's words: the good ones out of the method's own list, the others by premises of their own -/
theorem vx_hat {args : Array Value} {s : State} {L B : List Cond} (h1 : ∀ w ∈ L.filter goodWord, w.before args s = true) (h2 : ∀ w ∈ L.filter (fun w => !goodWord w), w ∈ B) (h3 : ∀ w ∈ B, w.before args s = true) : ∀ w ∈ L, w.before args s = true := by
  intro w hw
  by_cases g : goodWord w = true
  · exact h1 w (List.mem_filter.mpr ⟨hw, g⟩)
  · refine h3 w (h2 w (List.mem_filter.mpr ⟨hw, ?_⟩))
    show (!goodWord w) = true
    cases hgw : goodWord w
    · rfl
    · exact absurd hgw g
theorem vx_c {args : Array Value} {s : State} {w : Cond} {B : List Cond} (h : w.before args s = true) (t : ∀ w ∈ B, w.before args s = true) : ∀ w' ∈ w :: B, w'.before args s = true := fun w' h' => (List.mem_cons.mp h').elim (fun e => by rw [e]; exact h) (t w')
theorem vx_n {args : Array Value} {s : State} : ∀ w ∈ ([] : List Cond), w.before args s = true := fun _ h => nomatch h
theorem vx_own {args : Array Value} {s : State} {L : List Cond} (h1 : ∀ w ∈ L.filter vx_no, w.before args s = true)
    (hU : (Cond.isRef (.static Bundle.tN "UNASSIGNED_STACK" Bundle.steD)).before args s = true) (hN : (Cond.isRef (.static Bundle.tN "SUPPRESSED_SENTINEL" Bundle.listD)).before args s = true)
    (lU : (Cond.laysStatic Bundle.tN "UNASSIGNED_STACK" Bundle.steD).before args s = true) (lN : (Cond.laysStatic Bundle.tN "SUPPRESSED_SENTINEL" Bundle.listD).before args s = true) : ∀ w ∈ L, w.before args s = true := by
  intro w hw
  by_cases e1 : w = .isRef (.static Bundle.tN "UNASSIGNED_STACK" Bundle.steD)
  · rw [e1]; exact hU
  · by_cases e2 : w = .isRef (.static Bundle.tN "SUPPRESSED_SENTINEL" Bundle.listD)
    · rw [e2]; exact hN
    · by_cases e3 : w = .laysStatic Bundle.tN "UNASSIGNED_STACK" Bundle.steD
      · rw [e3]; exact lU
      · by_cases e4 : w = .laysStatic Bundle.tN "SUPPRESSED_SENTINEL" Bundle.listD
        · rw [e4]; exact lN
        · exact h1 w (List.mem_filter.mpr ⟨hw, by unfold vx_no; rw [decide_eq_true e1, decide_eq_true e2, decide_eq_true e3, decide_eq_true e4]; rfl⟩)
/-- where a static field lies, its class's statics cell in H -/
def vx_L (C n d : String) (A : Nat → Prop) (U : State) (H : Heap) : Prop := ∃ (c : ClassId) (k : Class) (i : Nat) (f : Field) (a : Nat) (cell : Cell), U.vm.findClass C = some c ∧ U.fieldFound? C n d = some (c, k, i, f) ∧ f.isStatic = true ∧ k.statics = some a ∧ H[a]? = some cell ∧ cell.vm.isStatics = true ∧ cell.cls = c ∧ f.slot < cell.slots.size ∧ k.staticTypes[f.slot]? = some f.type ∧ ¬ A a
theorem vx_L.moved {C n d : String} {A : Nat → Prop} {u U : State} {H : Heap} (hvm : u.vm.Alike U.vm) (h : vx_L C n d A u H) : vx_L C n d A U H := by
  obtain ⟨c, k, i, f, a, cell, h1, h2, h3, h4, h5, h6, h7, h8, h9, h10⟩ := h
  obtain ⟨k', hi', he⟩ := State.fieldFound?_setVm hvm h2
  exact ⟨c, k', i, f, a, cell, by rw [hvm.findClass]; exact h1, hi', h3, by rw [he]; exact h4, h5, h6, h7, h8, by rw [he]; exact h9, h10⟩
theorem vx_L.kept {C n d : String} {A : Nat → Prop} {U : State} {H H1 : Heap} (h : vx_L C n d A U H) (hq : ∀ a : Nat, a < H.size → ¬ A a → H1[a]? = H[a]?) : vx_L C n d A U H1 := by
  obtain ⟨c, k, i, f, a, cell, h1, h2, h3, h4, h5, h6, h7, h8, h9, h10⟩ := h
  exact ⟨c, k, i, f, a, cell, h1, h2, h3, h4, by rw [hq a (Array.getElem?_eq_some_iff.mp h5).1 h10]; exact h5, h6, h7, h8, h9, h10⟩
theorem vx_L.narrow {C n d : String} {A B : Nat → Prop} {U : State} {H : Heap} (h : vx_L C n d A U H) (hAB : ∀ q, B q → A q) : vx_L C n d B U H := by
  obtain ⟨c, k, i, f, a, cell, h1, h2, h3, h4, h5, h6, h7, h8, h9, h10⟩ := h
  exact ⟨c, k, i, f, a, cell, h1, h2, h3, h4, h5, h6, h7, h8, h9, fun z => h10 (hAB _ z)⟩
theorem vx_L.word {C n d : String} {A : Nat → Prop} {s : State} {args : Array Value} (h : vx_L C n d A s s.heap) : (Cond.laysStatic C n d).before args s = true := by
  obtain ⟨c, k, i, f, a, cell, h1, h2, h3, h4, h5, h6, h7, h8, h9, -⟩ := h
  show (Cond.laysStatic C n d).holds args s none s [] = true
  exact Cond.laysStatic_of h1 h2 h3 h4 h5 h6 h7 h8 h9
/-- .. and what it holds: null or some reference -/
def vx_Zq (C n d : String) (A : Nat → Prop) (U : State) (H : Heap) : Prop := va_Zq C n d A U H ∧ vx_L C n d A U H
theorem vx_Zq.moved {C n d : String} {A : Nat → Prop} {u U : State} {H : Heap} (hvm : u.vm.Alike U.vm) (h : vx_Zq C n d A u H) : vx_Zq C n d A U H := ⟨va_Zq.moved hvm h.1, vx_L.moved hvm h.2⟩
theorem vx_Zq.kept {C n d : String} {A : Nat → Prop} {U : State} {H H1 : Heap} (h : vx_Zq C n d A U H) (hq : ∀ a : Nat, a < H.size → ¬ A a → H1[a]? = H[a]?) : vx_Zq C n d A U H1 := ⟨va_Zq.kept h.1 hq, vx_L.kept h.2 hq⟩
theorem vx_Zq.narrow {C n d : String} {A B : Nat → Prop} {U : State} {H : Heap} (h : vx_Zq C n d A U H) (hAB : ∀ q, B q → A q) : vx_Zq C n d B U H := ⟨va_Zq.narrow h.1 hAB, vx_L.narrow h.2 hAB⟩
theorem vx_Zqof {args : Array Value} {s : State} {C n d : String} {A : Nat → Prop} (hl : (Cond.laysStatic C n d).before args s = true) (hini : (Cond.initialized C).before args s = true) (h : (Cond.isRef (.static C n d)).before args s = true) (hA : ∀ a : Nat, a < s.heap.size → ¬ A a) : vx_Zq C n d A s s.heap := by
  refine ⟨va_Zqof hl hini h hA, ?_⟩
  obtain ⟨c, k, i, f, a, cell, h1, h2, h3, h4, h5, h6, h7, h8, h9⟩ := Cond.laysStatic_spec hl
  exact ⟨c, k, i, f, a, cell, h1, h2, h3, h4, h5, h6, h7, h8, h9, hA a (Array.getElem?_eq_some_iff.mp h5).1⟩
theorem vx_isRef {C n d : String} {v : Value} {A : Nat → Prop} {s : State} {args : Array Value} (h : va_Z C n d v A s s.heap) (hv : v.isRef = true) : (Cond.isRef (.static C n d)).before args s = true := by
  obtain ⟨cf, kf, fi, f, a, cell, h1, h2, h3, h4, h5, h6, h7, -⟩ := h
  have he : (Term.static C n d).eval args s none [] s = some v := by
    simp [Term.eval, State.fieldNamed?, h1, h2, h4, h5, h6, h7]
  simp only [Cond.before, Cond.holds, Cond.value, he]
  cases v <;> simp_all [Value.isRef]
theorem vx_isRefq {C n d : String} {A : Nat → Prop} {s : State} {args : Array Value} (h : va_Zq C n d A s s.heap) : (Cond.isRef (.static C n d)).before args s = true := by
  rcases h with h | ⟨t, h⟩
  · exact vx_isRef h rfl
  · exact vx_isRef h rfl
/-- the same frame, seen from here: as if the method were called anew in this heap -/
theorem vx_rebase {T : State} (X : Stand p l e R s m args below meth c T locs cells slots) {R' : Room} (hf : R'.frames ≤ R.frames) (hl : R'.locals ≤ R.locals) (hc : cells + R'.cells ≤ R.cells) (hs : slots + R'.slots ≤ R.slots) :
    Stand p l e R' ((T.setVm s.vm).setFrames (.invoking m args :: below)) m args below meth c T [] 0 0 := by
  have htop : (T.setVm s.vm).topJava?.isSome := X.here.top
  have hF : ((T.setVm s.vm).setFrames (.invoking m args :: below)).frames = .invoking m args :: below := State.frames_setFrames _ (State.cur_lt_of_top htop)
  obtain ⟨g₀, hg0⟩ := Option.isSome_iff_exists.mp htop
  obtain ⟨r, hr⟩ := State.topJava?_eq_some.mp hg0
  have hl9 : e.platform.stackLimits (T.setVm s.vm).me = e.platform.stackLimits s.me := X.limits
  have hb9 : (T.setVm s.vm).me.stackBytes = s.me.stackBytes := X.bytes
  refine ⟨X.admits, X.cas, X.clock, hF, ?_, X.hears, X.method, X.code, X.here, X.tail, X.warmed, ?_, ?_, ?_⟩
  · have h := X.room
    have hU : ((T.setVm s.vm).setFrames (.invoking m args :: below)).localsInUse = s.localsInUse := by
      rw [State.localsInUse_invoking hF (meth := meth) (c := c) X.method X.code, State.localsInUse_invoking X.frames X.method X.code]
    simp only [State.hasRoom, Bool.and_eq_true, decide_eq_true_eq] at h ⊢
    obtain ⟨⟨⟨⟨h1, h2, h3, h4, h5, h6⟩, h7⟩, h8⟩, h9⟩ := h
    rw [X.frames, List.length_cons] at h2 h3
    have q1 := X.heapSize
    have q2 := X.used
    simp only [hF, hU, List.length_cons, State.stackLimits_setFrames, State.stackBytes_setFrames, hl9, hb9]
    refine ⟨⟨⟨⟨by omega, by omega, by omega, by omega, by omega, h6⟩, ?_⟩, ?_⟩, X.book⟩
    · show T.heap.size + R'.cells ≤ e.platform.maxCells
      omega
    · show T.slotsUsed + R'.slots ≤ e.platform.maxSlots
      omega
  · rw [State.stackLimits_setFrames]; rfl
  · rw [State.stackBytes_setFrames]; rfl
  · refine ⟨?_, Nat.le_refl _, Nat.le_refl _, ?_, ?_, fun a c9 h9 => ⟨c9, h9, rfl, rfl, fun _ _ => rfl⟩⟩
    · obtain ⟨t, ht, -⟩ := State.frames_cons hr
      show T.setVm s.vm = { ((T.setVm s.vm).setFrames (.invoking m args :: below)).setFrames (T.setVm s.vm).frames with heap := T.heap, slotsUsed := T.slotsUsed }
      rw [State.setFrames_setFrames, State.setFrames_self ht]
      rfl
    · show T.slotsUsed = T.slotsUsed + ((T.heap.toList.drop T.heap.size).map (·.slots.size)).sum
      rw [List.drop_eq_nil_of_le (Nat.le_of_eq Array.length_toList)]
      rfl
    · show ((T.heap.toList.drop T.heap.size).map (·.slots.size)).sum ≤ 0
      rw [List.drop_eq_nil_of_le (Nat.le_of_eq Array.length_toList)]
      exact Nat.le_refl _
/-- 'throw new E()': new; dup; invokespecial; athrow -/
theorem vx_throw0 {cc : ByteArray} {pc : Nat} (hexec : p.tables.exec = Jvm.exec) (hb : c.code = cc) (hl : l.stackTraces = false) {own cls : String} {names : List String} {ik ic mc ms : Nat} {A : Nat → Prop}
    (hown : s.vm.findClass own = some m.cls) (hcls : Bundle.fit cls = true) (hnames : ∀ n ∈ names, Bundle.fit n = true)
    (hk : (Cond.classLink own ik cls).before args s = true) (hini : (Cond.initialized cls).before args s = true) (hat : ∀ w ∈ vx_at0 own ic cls names, w.before args s = true)
    (hgood : ∀ w ∈ Cond.classLink own ik cls :: Cond.initialized cls :: vx_at0 own ic cls names, vx_ot w = true)
    (hU : vx_Zq Bundle.tN "UNASSIGNED_STACK" Bundle.steD A s s.heap) (hN : vx_Zq Bundle.tN "SUPPRESSED_SENTINEL" Bundle.listD A s s.heap) (hS : va_S A s.heap H locs) (hsize : ls.size = c.maxLocals)
    (d0 : decode cc pc = .ok (.new ik, 3)) (d3 : decode cc (pc + 3) = .ok (.dup, 1)) (d4 : decode cc (pc + 4) = .ok (.invokespecial ic, 3)) (d7 : decode cc (pc + 7) = .ok (.athrow, 1))
    (hout : ∀ x ∈ c.exceptionTable.toList, covers x (pc + 7) = false)
    (hRframes : names.length + 3 < R.frames) (hRlocals : (rest.map fun v => v.category).sum + (13 * (names.length + 1) + 42) ≤ R.locals) (hRcells : cells + 1 ≤ R.cells) (hRslots : slots + 6 ≤ R.slots) (hlocks : meth.locks = false)
    (hx : ∀ t : State, s.vm.Alike t.vm → H.size ≤ t.heap.size → (∀ q : Nat, q < H.size → t.heap[q]? = H[q]?) → XC cls s t)
    (hf : ∀ z ∈ locs, free z.base) (hc : cells + 1 ≤ mc) (hs : slots + 6 ≤ ms) :
    W p l e R s m args below meth c H locs cells slots (vx_MQ below Qc XC args s mc ms free) (F0 m pc ls rest) := by
  intro T hT X
  have htr : e.platform.stackTraces = false := (show e.platform.stackTraces = l.stackTraces by rw [X.admits.platform]).trans hl
  have Y := vx_rebase X (R' := { frames := R.frames, locals := R.locals, cells := 1, slots := 6 }) (Nat.le_refl _) (Nat.le_refl _) hRcells hRslots
  obtain ⟨s', hA⟩ : ∃ z, z = (T.setVm s.vm).setFrames (.invoking m args :: below) := ⟨_, rfl⟩
  rw [← hA] at Y
  have hvm : s'.vm = s.vm := by rw [hA]; rfl
  have hhp : s'.heap = H := by rw [hA]; exact hT
  have hW0 : s.WarmedH s'.vm := by rw [hvm]; exact State.WarmedH.refl s
  have hat' : ∀ w ∈ vx_at0 own ic cls names, w.before args s' = true := fun w hw => vx_ot_at hW0 hvm.symm (hgood w (List.mem_cons_of_mem _ (List.mem_cons_of_mem _ hw))) (hat w hw)
  have hk' : (Cond.classLink own ik cls).before args s' = true := vx_ot_at hW0 hvm.symm (hgood _ List.mem_cons_self) hk
  have hini' : (Cond.initialized cls).before args s' = true := vx_ot_at hW0 hvm.symm (hgood _ (List.mem_cons_of_mem _ List.mem_cons_self)) hini
  have hU' : vx_Zq Bundle.tN "UNASSIGNED_STACK" Bundle.steD A s' s'.heap := by rw [hhp]; exact vx_Zq.moved hW0.alike (hU.kept hS.2.1)
  have hN' : vx_Zq Bundle.tN "SUPPRESSED_SENTINEL" Bundle.listD A s' s'.heap := by rw [hhp]; exact vx_Zq.moved hW0.alike (hN.kept hS.2.1)
  have h : ∀ w ∈ Bundle.ownAtoms0 own ic cls names, w.before args s' = true := vx_own hat' (vx_isRefq hU'.1) (vx_isRefq hN'.1) hU'.2.word hN'.2.word
  have hown' : s'.vm.findClass own = some m.cls := by rw [hvm]; exact hown
  have hins : (Cond.instantiable cls 6).before args s' = true := h _ (by simp [Bundle.ownAtoms0])
  obtain ⟨vm₁, cX, kX, hfX, hkX, -, -, X₁, st1⟩ := Y.newCold hexec (own := own) (C := cls) (index := ik) (n := 6) hown' hk' hins hini'
    (g := F0 m pc ls rest) rfl (by rw [hb]; exact d0) (Nat.le_refl _) (Nat.le_refl _)
  generalize hT1 : (T.setVm vm₁).pushCell { cls := cX, slots := kX.instanceTypes.map defaultValue, vm := .none } = T1 at X₁ st1
  have hcat : (Value.ref T.heap.size).category = 1 := rfl
  have hcellA : T1.heap[T.heap.size]? = some (freshCell cX kX) := by rw [← hT1]; exact State.heap_pushCell_size _ _
  have d3' : decode c.code (pc + 3) = .ok (.dup, 1) := by rw [hb]; exact d3
  obtain ⟨U, hsteps, hrun, hend, hW, hsame, ce, hce, hO⟩ := X₁.ctorThrow0 hexec htr (own := own) (cls := cls) (names := names) (ic := ic) hown' hcls hnames h (fun x hx => nomatch hx) hfX hkX hcellA (by rw [hhp, hT]; exact Nat.le_refl _)
    (g := { method := m, pc := pc + 4, locals := ls, stack := .ref T.heap.size :: .ref T.heap.size :: rest, locked := none }) rfl hsize rfl rfl (rest := rest) rfl
    (by rw [hb]; exact d4) (by rw [hb]; exact d7) hout hRframes (by simp only [List.map_cons, List.sum_cons, hcat]; omega) hlocks
  obtain ⟨f1, f2⟩ := vx_frame hsame
  rw [hhp] at f1 f2
  have hWs : s.WarmedH U.vm := State.WarmedH.trans hW0 hW
  have hcl : s.vm.findClass cls = some ce.cls := by
    have h9 := hO.cls
    rw [hvm] at h9
    exact h9
  have hall : s.sameButNew ({ U with vm := s.vm } : State) locs mc ms := by
    subst hA
    obtain ⟨e1, e2⟩ := hsame
    rw [State.setFrames_setFrames] at e1
    have h2 : (T.setVm s.vm).sameButNew ({ U with vm := s.vm } : State) [] (0 + 1) (0 + 6) := ⟨e1, e2⟩
    have h3 := X.same.trans h2
    rw [List.append_nil] at h3
    exact h3.mono hc hs
  refine ⟨U, ?_, .threw T.heap.size, hrun, hend, Or.inr ⟨T.heap.size, rfl, cls, ce, locs, hx U hWs.alike f1 (fun q hq => f2 q hq (fun z hz => nomatch hz)), hce, hO.vm, hcl, hWs, hall, hf⟩⟩
  refine st1 _ ?_
  show Steps p.tables e below (T1.setTop { method := m, pc := pc + 3, locals := ls, stack := .ref T.heap.size :: rest, locked := none }) _
  jvm_step X₁.here [X₁.here.top, hexec, d3', Value.category]
  exact hsteps
/-- 'throw new E("text")': new; dup; ldc; invokespecial; athrow -/
theorem vx_throwS {cc : ByteArray} {pc : Nat} (hexec : p.tables.exec = Jvm.exec) (hb : c.code = cc) (hl : l.stackTraces = false) {own cls text : String} {names : List String} {ik is ic mc ms sa : Nat} {A : Nat → Prop}
    (hown : s.vm.findClass own = some m.cls) (hcls : Bundle.fit cls = true) (hnames : ∀ n ∈ names, Bundle.fit n = true)
    (hk : (Cond.classLink own ik cls).before args s = true) (hini : (Cond.initialized cls).before args s = true) (hstr : vk_R own is text sa s) (hat : ∀ w ∈ vx_atS own ic cls names, w.before args s = true)
    (hgood : ∀ w ∈ Cond.classLink own ik cls :: Cond.initialized cls :: vx_atS own ic cls names, vx_ot w = true)
    (hU : vx_Zq Bundle.tN "UNASSIGNED_STACK" Bundle.steD A s s.heap) (hN : vx_Zq Bundle.tN "SUPPRESSED_SENTINEL" Bundle.listD A s s.heap) (hS : va_S A s.heap H locs) (hsize : ls.size = c.maxLocals)
    (d0 : decode cc pc = .ok (.new ik, 3)) (d3 : decode cc (pc + 3) = .ok (.dup, 1)) (d4 : decode cc (pc + 4) = .ok (.ldc is, 2)) (d6 : decode cc (pc + 6) = .ok (.invokespecial ic, 3)) (d9 : decode cc (pc + 9) = .ok (.athrow, 1))
    (hout : ∀ x ∈ c.exceptionTable.toList, covers x (pc + 9) = false)
    (hRframes : names.length + 3 < R.frames) (hRlocals : (rest.map fun v => v.category).sum + (13 * (names.length + 1) + 43) ≤ R.locals) (hRcells : cells + 1 ≤ R.cells) (hRslots : slots + 6 ≤ R.slots) (hlocks : meth.locks = false)
    (hx : ∀ t : State, s.vm.Alike t.vm → H.size ≤ t.heap.size → (∀ q : Nat, q < H.size → t.heap[q]? = H[q]?) → XC cls s t)
    (hf : ∀ z ∈ locs, free z.base) (hc : cells + 1 ≤ mc) (hs : slots + 6 ≤ ms) :
    W p l e R s m args below meth c H locs cells slots (vx_MQ below Qc XC args s mc ms free) (F0 m pc ls rest) := by
  intro T hT X
  have htr : e.platform.stackTraces = false := (show e.platform.stackTraces = l.stackTraces by rw [X.admits.platform]).trans hl
  have Y := vx_rebase X (R' := { frames := R.frames, locals := R.locals, cells := 1, slots := 6 }) (Nat.le_refl _) (Nat.le_refl _) hRcells hRslots
  obtain ⟨s', hA⟩ : ∃ z, z = (T.setVm s.vm).setFrames (.invoking m args :: below) := ⟨_, rfl⟩
  rw [← hA] at Y
  have hvm : s'.vm = s.vm := by rw [hA]; rfl
  have hhp : s'.heap = H := by rw [hA]; exact hT
  have hW0 : s.WarmedH s'.vm := by rw [hvm]; exact State.WarmedH.refl s
  have hat' : ∀ w ∈ vx_atS own ic cls names, w.before args s' = true := fun w hw => vx_ot_at hW0 hvm.symm (hgood w (List.mem_cons_of_mem _ (List.mem_cons_of_mem _ hw))) (hat w hw)
  have hk' : (Cond.classLink own ik cls).before args s' = true := vx_ot_at hW0 hvm.symm (hgood _ List.mem_cons_self) hk
  have hini' : (Cond.initialized cls).before args s' = true := vx_ot_at hW0 hvm.symm (hgood _ (List.mem_cons_of_mem _ List.mem_cons_self)) hini
  have hU' : vx_Zq Bundle.tN "UNASSIGNED_STACK" Bundle.steD A s' s'.heap := by rw [hhp]; exact vx_Zq.moved hW0.alike (hU.kept hS.2.1)
  have hN' : vx_Zq Bundle.tN "SUPPRESSED_SENTINEL" Bundle.listD A s' s'.heap := by rw [hhp]; exact vx_Zq.moved hW0.alike (hN.kept hS.2.1)
  have h : ∀ w ∈ Bundle.ownAtoms own ic cls names, w.before args s' = true := vx_own hat' (vx_isRefq hU'.1) (vx_isRefq hN'.1) hU'.2.word hN'.2.word
  have hown' : s'.vm.findClass own = some m.cls := by rw [hvm]; exact hown
  have hins : (Cond.instantiable cls 6).before args s' = true := h _ (by simp [Bundle.ownAtoms])
  obtain ⟨vm₁, cX, kX, hfX, hkX, -, -, X₁, st1⟩ := Y.newCold hexec (own := own) (C := cls) (index := ik) (n := 6) hown' hk' hins hini'
    (g := F0 m pc ls rest) rfl (by rw [hb]; exact d0) (Nat.le_refl _) (Nat.le_refl _)
  generalize hT1 : (T.setVm vm₁).pushCell { cls := cX, slots := kX.instanceTypes.map defaultValue, vm := .none } = T1 at X₁ st1
  have hcat : (Value.ref T.heap.size).category = 1 := rfl
  have hcellA : T1.heap[T.heap.size]? = some (freshCell cX kX) := by rw [← hT1]; exact State.heap_pushCell_size _ _
  have d3' : decode c.code (pc + 3) = .ok (.dup, 1) := by rw [hb]; exact d3
  have d4' : decode c.code (pc + 4) = .ok (.ldc is, 2) := by rw [hb]; exact d4
  have hstr' : vk_R own is text sa s' := vk_R.warm hW0 hstr
  obtain ⟨U, hsteps, hrun, hend, hW, hsame, ce, hce, hO⟩ := X₁.ctorThrowS hexec htr (own := own) (cls := cls) (names := names) (ic := ic) hown' hcls hnames h (fun x hx => nomatch hx) hfX hkX hcellA (by rw [hhp, hT]; exact Nat.le_refl _) (msg := .ref sa) rfl
    (g := { method := m, pc := pc + 6, locals := ls, stack := .ref sa :: .ref T.heap.size :: .ref T.heap.size :: rest, locked := none }) rfl hsize rfl rfl (rest := rest) rfl
    (by rw [hb]; exact d6) (by rw [hb]; exact d9) hout hRframes (by simp only [List.map_cons, List.sum_cons, hcat]; omega) hlocks
  obtain ⟨f1, f2⟩ := vx_frame hsame
  rw [hhp] at f1 f2
  have hWs : s.WarmedH U.vm := State.WarmedH.trans hW0 hW
  have hcl : s.vm.findClass cls = some ce.cls := by
    have h9 := hO.cls
    rw [hvm] at h9
    exact h9
  have hall : s.sameButNew ({ U with vm := s.vm } : State) locs mc ms := by
    subst hA
    obtain ⟨e1, e2⟩ := hsame
    rw [State.setFrames_setFrames] at e1
    have h2 : (T.setVm s.vm).sameButNew ({ U with vm := s.vm } : State) [] (0 + 1) (0 + 6) := ⟨e1, e2⟩
    have h3 := X.same.trans h2
    rw [List.append_nil] at h3
    exact h3.mono hc hs
  refine ⟨U, ?_, .threw T.heap.size, hrun, hend, Or.inr ⟨T.heap.size, rfl, cls, ce, locs, hx U hWs.alike f1 (fun q hq => f2 q hq (fun z hz => nomatch hz)), hce, hO.vm, hcl, hWs, hall, hf⟩⟩
  refine st1 _ ?_
  show Steps p.tables e below (T1.setTop { method := m, pc := pc + 3, locals := ls, stack := .ref T.heap.size :: rest, locked := none }) _
  jvm_step X₁.here [X₁.here.top, hexec, d3', Value.category]
  exact X₁.ldcString hexec (own := own) (text := text) (index := is) (a := sa) hown' hstr'.1 hstr'.2
    (g := { method := m, pc := pc + 4, locals := ls, stack := .ref T.heap.size :: .ref T.heap.size :: rest, locked := none }) rfl d4' _ hsteps
/-- 'throw new E("text")', the text by a wide index -/
theorem vx_throwSW {cc : ByteArray} {pc : Nat} (hexec : p.tables.exec = Jvm.exec) (hb : c.code = cc) (hl : l.stackTraces = false) {own cls text : String} {names : List String} {ik is ic mc ms sa : Nat} {A : Nat → Prop}
    (hown : s.vm.findClass own = some m.cls) (hcls : Bundle.fit cls = true) (hnames : ∀ n ∈ names, Bundle.fit n = true)
    (hk : (Cond.classLink own ik cls).before args s = true) (hini : (Cond.initialized cls).before args s = true) (hstr : vk_R own is text sa s) (hat : ∀ w ∈ vx_atS own ic cls names, w.before args s = true)
    (hgood : ∀ w ∈ Cond.classLink own ik cls :: Cond.initialized cls :: vx_atS own ic cls names, vx_ot w = true)
    (hU : vx_Zq Bundle.tN "UNASSIGNED_STACK" Bundle.steD A s s.heap) (hN : vx_Zq Bundle.tN "SUPPRESSED_SENTINEL" Bundle.listD A s s.heap) (hS : va_S A s.heap H locs) (hsize : ls.size = c.maxLocals)
    (d0 : decode cc pc = .ok (.new ik, 3)) (d3 : decode cc (pc + 3) = .ok (.dup, 1)) (d4 : decode cc (pc + 4) = .ok (.ldc_w is, 3)) (d7 : decode cc (pc + 7) = .ok (.invokespecial ic, 3)) (d10 : decode cc (pc + 10) = .ok (.athrow, 1))
    (hout : ∀ x ∈ c.exceptionTable.toList, covers x (pc + 10) = false)
    (hRframes : names.length + 3 < R.frames) (hRlocals : (rest.map fun v => v.category).sum + (13 * (names.length + 1) + 43) ≤ R.locals) (hRcells : cells + 1 ≤ R.cells) (hRslots : slots + 6 ≤ R.slots) (hlocks : meth.locks = false)
    (hx : ∀ t : State, s.vm.Alike t.vm → H.size ≤ t.heap.size → (∀ q : Nat, q < H.size → t.heap[q]? = H[q]?) → XC cls s t)
    (hf : ∀ z ∈ locs, free z.base) (hc : cells + 1 ≤ mc) (hs : slots + 6 ≤ ms) :
    W p l e R s m args below meth c H locs cells slots (vx_MQ below Qc XC args s mc ms free) (F0 m pc ls rest) := by
  intro T hT X
  have htr : e.platform.stackTraces = false := (show e.platform.stackTraces = l.stackTraces by rw [X.admits.platform]).trans hl
  have Y := vx_rebase X (R' := { frames := R.frames, locals := R.locals, cells := 1, slots := 6 }) (Nat.le_refl _) (Nat.le_refl _) hRcells hRslots
  obtain ⟨s', hA⟩ : ∃ z, z = (T.setVm s.vm).setFrames (.invoking m args :: below) := ⟨_, rfl⟩
  rw [← hA] at Y
  have hvm : s'.vm = s.vm := by rw [hA]; rfl
  have hhp : s'.heap = H := by rw [hA]; exact hT
  have hW0 : s.WarmedH s'.vm := by rw [hvm]; exact State.WarmedH.refl s
  have hat' : ∀ w ∈ vx_atS own ic cls names, w.before args s' = true := fun w hw => vx_ot_at hW0 hvm.symm (hgood w (List.mem_cons_of_mem _ (List.mem_cons_of_mem _ hw))) (hat w hw)
  have hk' : (Cond.classLink own ik cls).before args s' = true := vx_ot_at hW0 hvm.symm (hgood _ List.mem_cons_self) hk
  have hini' : (Cond.initialized cls).before args s' = true := vx_ot_at hW0 hvm.symm (hgood _ (List.mem_cons_of_mem _ List.mem_cons_self)) hini
  have hU' : vx_Zq Bundle.tN "UNASSIGNED_STACK" Bundle.steD A s' s'.heap := by rw [hhp]; exact vx_Zq.moved hW0.alike (hU.kept hS.2.1)
  have hN' : vx_Zq Bundle.tN "SUPPRESSED_SENTINEL" Bundle.listD A s' s'.heap := by rw [hhp]; exact vx_Zq.moved hW0.alike (hN.kept hS.2.1)
  have h : ∀ w ∈ Bundle.ownAtoms own ic cls names, w.before args s' = true := vx_own hat' (vx_isRefq hU'.1) (vx_isRefq hN'.1) hU'.2.word hN'.2.word
  have hown' : s'.vm.findClass own = some m.cls := by rw [hvm]; exact hown
  have hins : (Cond.instantiable cls 6).before args s' = true := h _ (by simp [Bundle.ownAtoms])
  obtain ⟨vm₁, cX, kX, hfX, hkX, -, -, X₁, st1⟩ := Y.newCold hexec (own := own) (C := cls) (index := ik) (n := 6) hown' hk' hins hini'
    (g := F0 m pc ls rest) rfl (by rw [hb]; exact d0) (Nat.le_refl _) (Nat.le_refl _)
  generalize hT1 : (T.setVm vm₁).pushCell { cls := cX, slots := kX.instanceTypes.map defaultValue, vm := .none } = T1 at X₁ st1
  have hcat : (Value.ref T.heap.size).category = 1 := rfl
  have hcellA : T1.heap[T.heap.size]? = some (freshCell cX kX) := by rw [← hT1]; exact State.heap_pushCell_size _ _
  have d3' : decode c.code (pc + 3) = .ok (.dup, 1) := by rw [hb]; exact d3
  have d4' : decode c.code (pc + 4) = .ok (.ldc_w is, 3) := by rw [hb]; exact d4
  have hstr' : vk_R own is text sa s' := vk_R.warm hW0 hstr
  obtain ⟨U, hsteps, hrun, hend, hW, hsame, ce, hce, hO⟩ := X₁.ctorThrowS hexec htr (own := own) (cls := cls) (names := names) (ic := ic) hown' hcls hnames h (fun x hx => nomatch hx) hfX hkX hcellA (by rw [hhp, hT]; exact Nat.le_refl _) (msg := .ref sa) rfl
    (g := { method := m, pc := pc + 7, locals := ls, stack := .ref sa :: .ref T.heap.size :: .ref T.heap.size :: rest, locked := none }) rfl hsize rfl rfl (rest := rest) rfl
    (by rw [hb]; exact d7) (by rw [hb]; exact d10) hout hRframes (by simp only [List.map_cons, List.sum_cons, hcat]; omega) hlocks
  obtain ⟨f1, f2⟩ := vx_frame hsame
  rw [hhp] at f1 f2
  have hWs : s.WarmedH U.vm := State.WarmedH.trans hW0 hW
  have hcl : s.vm.findClass cls = some ce.cls := by
    have h9 := hO.cls
    rw [hvm] at h9
    exact h9
  have hall : s.sameButNew ({ U with vm := s.vm } : State) locs mc ms := by
    subst hA
    obtain ⟨e1, e2⟩ := hsame
    rw [State.setFrames_setFrames] at e1
    have h2 : (T.setVm s.vm).sameButNew ({ U with vm := s.vm } : State) [] (0 + 1) (0 + 6) := ⟨e1, e2⟩
    have h3 := X.same.trans h2
    rw [List.append_nil] at h3
    exact h3.mono hc hs
  refine ⟨U, ?_, .threw T.heap.size, hrun, hend, Or.inr ⟨T.heap.size, rfl, cls, ce, locs, hx U hWs.alike f1 (fun q hq => f2 q hq (fun z hz => nomatch hz)), hce, hO.vm, hcl, hWs, hall, hf⟩⟩
  refine st1 _ ?_
  show Steps p.tables e below (T1.setTop { method := m, pc := pc + 3, locals := ls, stack := .ref T.heap.size :: rest, locked := none }) _
  jvm_step X₁.here [X₁.here.top, hexec, d3', Value.category]
  exact X₁.ldcStringW hexec (own := own) (text := text) (index := is) (a := sa) hown' hstr'.1 hstr'.2
    (g := { method := m, pc := pc + 4, locals := ls, stack := .ref T.heap.size :: .ref T.heap.size :: rest, locked := none }) rfl d4' _ hsteps
end Ends
section Bodies
variable {l : Launch}
theorem vx_ofW {y : MethodName} {ws ws' : List Cond} {rm : Room} {Pc : Array Value → State → Prop} {Qc : Array Value → State → Outcome → State → Prop} {XC : String → State → State → Prop} {mc ms : Nat} {free : Addr → Prop} {cc : ByteArray} {maxL : Nat} {ret : Option FieldType}
    (hy : plainName y.cls = true) (hw : ws = Cond.code y cc maxL ret :: ws')
    (body : ∀ p e s m args below meth c s₁, BodyLoose p l y (headSpec ws rm) cc maxL ret e s m args below meth c s₁ → c.maxLocals = maxL → (∀ x ∈ c.exceptionTable.toList, False) → Pc args s →
      W p l e (headSpec ws rm).room s m args below meth c s.heap [] 0 0 (vx_MQ below Qc XC args s mc ms free) (entryFrame m args maxL)) : vx_Met l y ws rm Pc Qc XC mc ms free := by
  refine MetFree.of_bodyS (code := cc) (maxLocals := maxL) (ret := ret) hy ?_ ?_
  · intro args s m h hn
    obtain ⟨meth, c, h1, h2, h3, h4, h5, h6, -, -⟩ := Cond.code_spec hn (atoms_spec (ws := ws) h _ (by rw [hw]; exact List.mem_cons_self))
    exact ⟨meth, c, h1, h2, h3, h4, h5, h6⟩
  · intro p e s m args below meth c s₁ B hml hP _
    have hh0 : s₁.heap = s.heap := by rw [B.state]; rfl
    have ht : ∀ x ∈ c.exceptionTable.toList, False := by
      obtain ⟨meth9, c9, h1, h2, -, -, -, -, h7, -⟩ := Cond.code_spec B.named (atoms_spec (ws := ws) B.pre _ (by rw [hw]; exact List.mem_cons_self))
      cases Option.some.inj (h1.symm.trans B.method)
      cases Option.some.inj (h2.symm.trans (Stand.of_body B).code)
      intro x hx
      rw [Array.isEmpty_iff.mp h7] at hx
      cases hx
    obtain ⟨t, a1, o, b1, b2, b3⟩ := body p e s m args below meth c s₁ B hml ht hP s₁ hh0 (Stand.of_body B)
    exact ⟨t, o, a1, b1, b2, b3⟩
/-- the table of a body with handlers -/
theorem vx_table {p : Program} {x y : MethodName} {S : Spec} {cc bytes : ByteArray} {maxL maxL' : Nat} {ret ret' : Option FieldType} {e : Env} {s s₁ : State} {m : MethodId} {args : Array Value} {below : List Frame} {meth : Method} {c : Code} {hh : List (Nat × Nat × Nat × Nat)}
    (B : BodyLoose p l y S cc maxL ret e s m args below meth c s₁) (h : (Cond.codeWith y bytes maxL' ret' hh).before args s = true) : c.exceptionTable.toList = tableOf hh := by
  obtain ⟨m9, meth9, c9, hn9, h1, h2, -, -, h6, -⟩ := Cond.codeWith_spec h
  cases Option.some.inj (hn9.symm.trans B.named)
  cases Option.some.inj (h1.symm.trans B.method)
  cases Option.some.inj (h2.symm.trans (Stand.of_body B).code)
  rw [← h6, table_eq]
end Bodies
end VXA
/-! ===== END ===== -/
/-! ===== BEGIN a static call of a method with an exception table ===== -/
section VXS
variable {p : Program} {l : Launch} {e : Env} {R : Room} {s : State} {m : MethodId} {args : Array Value} {below : List Frame} {meth : Method} {c : Code} {T : State} {H : Heap} {locs : List Loc} {cells slots : Nat}
abbrev vx_CSW (R : Room) (s : State) (args : Array Value) (own : String) (index : Nat) (y : MethodName) (bytes : ByteArray) (maxL : Nat) (ret : Option FieldType) (hh : List (Nat × Nat × Nat × Nat)) (ws : List Cond) (rm : Room) (mc ms n : Nat) : Prop :=
  (rm.cells = mc ∧ rm.slots = ms ∧ rm.frames + 1 ≤ R.frames ∧ 8 + (maxL + 11) + rm.locals ≤ R.locals ∧ (∀ w ∈ ws, ∀ (a' : Array Value) (U : State), s.WarmedH U.vm → w.before a' U = true) ∧ Cond.codeWith y bytes maxL ret hh ∈ ws) ∧
  (Cond.codeWith y bytes maxL ret hh).before args s = true ∧ (Cond.initialized y.cls).before args s = true ∧ (y.cls ≠ "java/lang/invoke/MethodHandle" ∧ y.cls ≠ "java/lang/invoke/VarHandle") ∧
  (∀ sig, parseMethodDescriptor y.desc = some sig → n = sig.parameters.length) ∧ (Cond.methodLink own index y).before args s = true ∧ (Cond.static y).before args s = true
theorem vx_cwSW {own : String} {index maxL mc ms : Nat} {y : MethodName} {bytes : ByteArray} {ret : Option FieldType} {hh : List (Nat × Nat × Nat × Nat)} {Ts ws ws' : List Cond} {rm : Room} (n : Nat) (ht : ∀ w ∈ Ts, w.before args s = true) (hT : GoodIn Ts (va_wsS own index y ws)) (hw : ws = Cond.codeWith y bytes maxL ret hh :: ws') (hrc : rm.cells = mc) (hrs : rm.slots = ms)
    (hd : y.cls ≠ "java/lang/invoke/MethodHandle" ∧ y.cls ≠ "java/lang/invoke/VarHandle" ∧ (parseMethodDescriptor y.desc).map (fun d => d.parameters.length) = some n) (hR : rm.frames + 1 ≤ R.frames ∧ 8 + (maxL + 11) + rm.locals ≤ R.locals) :
    vx_CSW R s args own index y bytes maxL ret hh ws rm mc ms n := by
  have ok : ∀ w ∈ va_wsS own index y ws, w.before args s = true := fun w h => ht w (hT w h).1
  have hG : GoodIn Ts ws := fun w h => hT w (by unfold va_wsS; exact List.mem_append_right _ h)
  have hc : Cond.codeWith y bytes maxL ret hh ∈ ws := by rw [hw]; exact List.mem_cons_self
  refine ⟨⟨hrc, hrs, hR.1, hR.2, pay_in ht hG, hc⟩, ht _ (hG _ hc).1, ok _ (by simp [va_wsS]), ⟨hd.1, hd.2.1⟩, fun sig h => ?_, ok _ (by simp [va_wsS]), ok _ (by simp [va_wsS])⟩
  have h2 := hd.2.2
  rw [h] at h2
  exact (Option.some.inj h2).symm
theorem vx_callSW (X : Stand p l e R s m args below meth c T locs cells slots) (hexec : p.tables.exec = Jvm.exec) {own : String} {index : Nat} {y : MethodName} {bytes : ByteArray} {maxL : Nat} {ret : Option FieldType} {hh : List (Nat × Nat × Nat × Nat)}
    (hown : s.vm.findClass own = some m.cls) (hlink : (Cond.methodLink own index y).before args s = true) (hstat : (Cond.static y).before args s = true) (hinit : (Cond.initialized y.cls).before args s = true)
    (hcode : (Cond.codeWith y bytes maxL ret hh).before args s = true) (hy : y.cls ≠ "java/lang/invoke/MethodHandle" ∧ y.cls ≠ "java/lang/invoke/VarHandle")
    {W9 : Nat} {Pre : Pt → Array Value → Prop} {Post : Pt → Array Value → Option Value → Pt → Prop} (hK : Back l R p e below s args y 3 W9 Pre Post)
    {g : JFrame} (hg : g.method = m) (hsize : g.locals.size = c.maxLocals) {argsL rest : List Value} (hlen : ∀ sig, parseMethodDescriptor y.desc = some sig → argsL.length = sig.parameters.length)
    (hstack : g.stack = argsL.reverse ++ rest) (hW : 2 * g.monitorRoom + (rest.map fun v => v.category).sum ≤ W9) (hdg : decode c.code g.pc = .ok (.invokestatic index, 3))
    (hpre : ∀ vm₁, s.WarmedH vm₁ → Pre ⟨T.setVm vm₁, locs, cells, slots⟩ argsL.toArray) :
    ∃ (v : Option Value) (vm₁ : Vm) (B : Pt), s.WarmedH vm₁ ∧ Stand p l e R s m args below meth c B.U B.locs B.cells B.slots ∧ Post ⟨T.setVm vm₁, locs, cells, slots⟩ argsL.toArray v B ∧
      ∀ target, Steps p.tables e below (B.U.setTop { g with pc := g.pc + 3, stack := v.toList ++ rest }) target → Steps p.tables e below (T.setTop g) target := by
  obtain ⟨mk, methM, cM, hnamed, hmethM, -, -, -, -, -, -, hsigM⟩ := Cond.codeWith_spec hcode
  have hstatic : methM.isStatic = true := Cond.static_spec hnamed hmethM hstat
  obtain ⟨kP, hkP, -⟩ := className_of_methodNamed hnamed
  have hinitP : kP.init = .initialized := Cond.initialized_spec (findClass_of_methodNamed hnamed) hkP hinit
  obtain ⟨vm₁, X₁, hstep₁⟩ := X.invokestatic hexec hown hlink hnamed hmethM hstatic hkP hinitP hy (g := g) hg (argsL := argsL) (rest := rest) (hlen _ hsigM) hstack hdg
  obtain ⟨v, B, X', hpost, hsteps⟩ := hK m meth c ⟨T.setVm vm₁, locs, cells, slots⟩ { g with stack := rest } (.invokestatic index) mk argsL.toArray X₁ hg hsize hdg hW (X₁.named hnamed) (hpre vm₁ X₁.warmed)
  exact ⟨v, vm₁, B, X₁.warmed, X', hpost, fun target h => hstep₁ _ fun acts => by rw [doInvoke_state]; exact hsteps.trans h⟩
theorem vx_runSW {y : MethodName} {bytes cc : ByteArray} {maxL nL mc ms n index : Nat} {ret : Option FieldType} {hh : List (Nat × Nat × Nat × Nat)} {ws : List Cond} {rm : Room} {Pc : Array Value → State → Prop} {Qc : Array Value → State → Outcome → State → Prop} {free : Addr → Prop} {Ts : List Cond} {own : String} {As rest : List Value} {g : JFrame}
    (S : CallFix p m c cc nL s args Ts own) (hM : Met l y ws rm Pc Qc mc ms free) (cw : vx_CSW R s args own index y bytes maxL ret hh ws rm mc ms n) (hp : PreS s H Pc As)
    (hg : g.method = m) (hn : As.length = n) (hsize : g.locals.size = nL) (hstack : g.stack = As.reverse ++ rest) (hW : 2 * g.monitorRoom + (rest.map fun v => v.category).sum ≤ 8) (hdg : decode cc g.pc = .ok (.invokestatic index, 3)) (hf : cells + mc ≤ R.cells ∧ slots + ms ≤ R.slots) :
    va_Run p l e R s m args below meth c H locs cells slots mc ms g rest (Qc As.toArray) (free) := by
  obtain ⟨⟨hrc, hrs, hfr, hlo, hws, hcw⟩, hcode, hini, hy, hlen, hl, hstt⟩ := cw
  have hK : Back l R p e below s args y 3 8 (PreOf R mc ms Pc) (PostOf Qc mc ms free) := va_backW (hh := hh) (bytes := bytes) (maxL := maxL) (ret := ret) hM hp.1 hrc hrs hfr hlo hws hcw (fun a' U hW => word_at hW (Or.inl (by first | rfl | simp [Cond.onTables, Cond.keeps, Cond.steady])) hini)
  obtain ⟨hx, hb, hml, ho, -⟩ := S
  intro T hT X
  obtain ⟨v, vm₁, ⟨U', l2, c2, s2⟩, hW₁, X', ⟨g', mk, t, L, e1, e2, hq, h1, hL, h2, h3⟩, st⟩ := vx_callSW X hx (hh := hh) (bytes := bytes) (maxL := maxL) (ret := ret) ho hl hstt hini hcode hy hK hg (hsize.trans hml.symm) (argsL := As) (rest := rest) (fun sig h => hn.trans (hlen sig h)) hstack hW (by rw [hb]; exact hdg)
    (fun vm₁ hW₁ => ⟨hf.1, hf.2, hp.2 (T.setVm vm₁) hT hW₁⟩)
  dsimp only [Pt.U, Pt.locs, Pt.cells, Pt.slots] at X' e1 e2 h1 h2 h3 st
  subst h1; subst h2; subst h3
  exact ⟨v, (T.setVm vm₁).calling g' mk As.toArray, t, U', L, hT, X', hL, e1, e2, hq, st⟩
/-- not caught here, past rows that name other classes: it goes on to the caller -/
theorem vx_outP {p : Program} {l : Launch} {e : Env} {R : Room} {s : State} {m : MethodId} {args : Array Value} {below : List Frame} {meth : Method} {c : Code} {H : Heap} {locs : List Loc} {cells slots : Nat} {free : Addr → Prop} {ls : Array Slot} {rest : List Value} {Qc : Array Value → State → Outcome → State → Prop} {XC : String → State → State → Prop}
    {pc : Nat} {own E : String} {ce : Cell} {q : Addr} {mc ms : Nat} (hown : s.vm.findClass own = some m.cls) (hlocks : meth.locks = false)
    (hpass : ∀ z ∈ c.exceptionTable.toList, covers z pc = false ∨ (z.catchType ≠ 0 ∧ ∃ nm : String, (Cond.classLink own z.catchType nm).before args s = true ∧ va_Nc E nm s)) (hcell : H[q]? = some ce) (hv : ce.vm = .none) (hcl : s.vm.findClass E = some ce.cls)
    (hx : ∀ t : State, t.heap = H → s.vm.Alike t.vm → XC E s t) (hf : ∀ z ∈ locs, free z.base) (hc : cells ≤ mc) (hs : slots ≤ ms) :
    vx_W p l e R s m args below meth c H locs cells slots (vx_MQ below Qc XC args s mc ms free) (F0 m pc ls rest) q := by
  intro T hT X
  have hpl : e.platform.magicAccessors = ({} : Platform).magicAccessors := by rw [X.admits.platform]
  obtain ⟨vm', hW', X', st⟩ := X.outThrough hlocks q (g := F0 m pc ls rest) rfl rfl rfl (cell := ce) (by rw [hT]; exact hcell) (by rw [hv]; rfl)
    (by obtain ⟨k9, h9, -⟩ := Vm.findClass_spec hcl; exact ⟨k9, h9⟩) (fun z hz => by
      rcases hpass z hz with h | ⟨hz0, nm, hl1, hn1⟩
      · exact Or.inl h
      · obtain ⟨c6, hc6, hcl6⟩ := Cond.classLink_spec hown hl1 e.platform hpl
        obtain ⟨a8, b8, h1, h2, h3⟩ := hn1
        cases Option.some.inj (h1.symm.trans hcl)
        cases Option.some.inj (h2.symm.trans hc6)
        exact Or.inr ⟨hz0, _, hcl6, h3⟩)
  obtain ⟨g₀, hfr⟩ := X'.frames_eq
  have hcell9 : ((T.setVm vm').setFrames (.throwing q :: below)).heap[q]? = some ce := by
    show T.heap[q]? = some ce
    rw [hT]; exact hcell
  have hend : Ended ((T.setVm vm').setFrames (.throwing q :: below)) below (.threw q) := State.frames_setFrames _ (State.cur_lt_of_frames hfr)
  refine ⟨(T.setVm vm').setFrames (.throwing q :: below), ?_, .threw q, X'.here.running, hend, Or.inr ⟨q, rfl, E, ce, locs, hx _ hT (X'.ends _).1.alike, hcell9, hv, hcl, (X'.ends _).1, (X'.ends _).2.mono hc hs, hf⟩⟩
  rw [X.pushThrowing_eq]
  exact st
/-- a thing of a world lies in the heap -/
theorem vx_lt {D : va_G} {cl : List vw_C} {ws : va_W} {H1 : Heap} (h : va_P D cl ws H1) {k : Nat} {q : Nat × va_E} (hk : ws[k]? = some q) : q.1 < H1.size := (h k q hk).lt
end VXS
/-! ===== END ===== -/
/-! ===== BEGIN methods with a table of their own: called by a name, returning or throwing ===== -/
section VXH
/-! vx_backW, vx_callVX, vx_callSX, vx_callVW, vx_runVW, vx_runVX, vx_runSX, vx_ofWH follow the same proofs as their sisters above (Free/Laws.lean, Shelf42/LK1.lean); vx_outP calls Shelf42/NT130.lean (outThrough). -/
section
variable {l : Launch} {R : Room} {p : Program} {e : Env} {below : List Frame} {s : State} {sargs : Array Value} {y : MethodName} {len W9 : Nat}
theorem vx_backW {ws : List Cond} {rm : Room} {Pc : Array Value → State → Prop} {Qc : Array Value → State → Outcome → State → Prop} {XC : String → State → State → Prop} {mc ms : Nat} {free : Addr → Prop} {bytes : ByteArray} {maxL : Nat} {ret : Option FieldType} {hh : List (Nat × Nat × Nat × Nat)}
    (hM : vx_Met l y ws rm Pc Qc XC mc ms free) (hblind : FrameBlind Pc) (hrc : rm.cells = mc) (hrs : rm.slots = ms)
    (hframes : rm.frames + 1 ≤ R.frames) (hlocals : W9 + (maxL + 11) + rm.locals ≤ R.locals)
    (hws : ∀ w ∈ ws, ∀ a' U, s.WarmedH U.vm → w.before a' U = true) (hcode : Cond.codeWith y bytes maxL ret hh ∈ ws) (hinit : ∀ a' U, s.WarmedH U.vm → (Cond.initialized y.cls).before a' U = true) :
    vx_Back l R p e below s sargs y len W9 (PreOf R mc ms Pc) (PostOf Qc mc ms free) (vx_Post XC mc ms free) := by
  intro m meth c A g ig mk a X hg hsize hdg hW hn hp
  have h1 : (headSpec ws rm).pre.before a A.U = true := atoms_intro fun w hw => hws w hw _ _ X.warmed
  have h2 : (Cond.codeWith y bytes maxL ret hh).before a A.U = true := hws _ hcode _ _ X.warmed
  have h3 : (Cond.initialized y.cls).before a A.U = true := hinit _ _ X.warmed
  have h4 : A.cells + (headSpec ws rm).room.cells ≤ R.cells := by rw [show (headSpec ws rm).room.cells = mc from hrc]; exact hp.1
  have h5 : A.slots + (headSpec ws rm).room.slots ≤ R.slots := by rw [show (headSpec ws rm).room.slots = ms from hrs]; exact hp.2.1
  have hPc : Pc a (A.U.calling g mk a) := hblind _ _ _ _ hp.2.2
  obtain ⟨U, Ls, c0, s0⟩ := A
  dsimp only [Pt.U, Pt.locs, Pt.cells, Pt.slots] at h1 h2 h3 h4 h5 X hn hPc ⊢
  obtain ⟨m9, methY, cY, hn9, hmY, hcY, -, hlY, -⟩ := Cond.codeWith_spec h2
  cases Option.some.inj (hn9.symm.trans hn)
  obtain ⟨kY, hkY, -⟩ := className_of_methodNamed hn
  have hinitY : kY.init = .initialized := Cond.initialized_spec (findClass_of_methodNamed hn) hkY h3
  have h : At U g.method c below := by rw [hg]; exact X.here
  have hlocals9 : W9 + (maxL + 11) + (headSpec ws rm).room.locals ≤ R.locals := hlocals
  have happ : (headSpec ws rm).appliesLoose y e.platform (U.calling g mk a) = true :=
    Spec.appliesLoose_calling (g := g) h hdg hn hkY hinitY
      (X.room_calling (g := g) (R' := (headSpec ws rm).room) hsize hmY hcY hframes (by rw [hlY]; omega) h4 h5) h1
  obtain ⟨mid, hmid⟩ := h.above
  have hfr : (U.setTop g).frames = (.java g :: mid) ++ below := by rw [State.frames_setTop' g h.top, hmid]; rfl
  obtain ⟨o, s₂, hsteps, -, hend, hq⟩ := Steps.callFree hM p X.admits X.cas X.clock (acts := []) hfr happ hPc trivial
  have hq' : vx_Q Qc XC mc ms free a (U.calling g mk a) o s₂ := hq
  rw [State.frames_setTop' g h.top] at hend
  obtain ⟨g₀, hg0⟩ := Option.isSome_iff_exists.mp h.top
  obtain ⟨r, hr⟩ := State.topJava?_eq_some.mp hg0
  have hr' : (({ U with heap := s₂.heap, slotsUsed := s₂.slotsUsed } : State).setVm s₂.vm).frames = .java g₀ :: r := hr
  rcases hq' with ⟨hqc, L, hfe, hL⟩ | ⟨q, rfl, E, ce, L, hx, hce, hcv, hcl, hW₂, hsm, hL⟩
  · obtain ⟨⟨v, rfl⟩, hW₂, e2, q2, q3, q4, q5, q6⟩ := id hfe
    have e3 : s₂ = ({ (U.calling g mk a).setFrames s₂.frames with heap := s₂.heap, slotsUsed := s₂.slotsUsed } : State).setVm s₂.vm := by
      have : s₂ = ({ s₂ with vm := (U.calling g mk a).vm } : State).setVm s₂.vm := rfl
      rw [e2] at this
      exact this
    obtain ⟨c₂, i₂, len₂, hc₂, hd₂, hf₂⟩ := hend
    have hW' : U.WarmedH s₂.vm := hW₂
    have hcc : c₂ = c := by
      have h1 : s₂.code? g.method = U.code? g.method := by
        rw [State.code?_eq, State.code?_eq, hW'.alike.method?]
      exact Option.some.inj (hc₂.symm.trans (h1.trans h.code))
    subst hcc
    have hlen : len₂ = len := by rw [hdg] at hd₂; cases hd₂; rfl
    subst hlen
    have hs₂ : s₂ = (({ U with heap := s₂.heap, slotsUsed := s₂.slotsUsed } : State).setVm s₂.vm).setTop { g with pc := g.pc + len₂, stack := v.toList ++ g.stack } := by
      refine e3.trans ?_
      rw [hf₂, State.calling_eq h.top, State.setFrames_setFrames, State.setTop_of_frames _ hr', hr]
      rfl
    have hsame : U.sameButNew ({ U with heap := s₂.heap, slotsUsed := s₂.slotsUsed } : State) L mc ms := by
      refine ⟨?_, q2, q3, q4, q5, q6⟩
      obtain ⟨t, ht, -⟩ := State.frames_cons hr
      show ({ U with heap := s₂.heap, slotsUsed := s₂.slotsUsed } : State) = { U.setFrames U.frames with heap := s₂.heap, slotsUsed := s₂.slotsUsed }
      rw [State.setFrames_self ht]
    subst hg
    refine Or.inl ⟨v, ⟨(({ U with heap := s₂.heap, slotsUsed := s₂.slotsUsed } : State).setVm s₂.vm), Ls ++ L, c0 + mc, s0 + ms⟩,
      ⟨X.admits, X.cas, X.clock, X.frames, X.room, X.hears, X.method, X.code, (X.here.setHeapUsed s₂.heap s₂.slotsUsed).setVm hW'.alike, X.tail, State.WarmedH.trans X.warmed hW', X.limits, X.bytes, X.same.trans (hsame.setVm s.vm)⟩,
      ⟨g, mk, s₂, L, rfl, rfl, hqc, rfl, hL, rfl, rfl⟩, ?_⟩
    show Steps p.tables e below _ ((({ U with heap := s₂.heap, slotsUsed := s₂.slotsUsed } : State).setVm s₂.vm).setTop { g with pc := g.pc + len₂, stack := v.toList ++ g.stack })
    rw [← hs₂]
    exact hsteps
  · obtain ⟨e2, q2, q3, q4, q5, q6⟩ := id hsm
    have e3 : s₂ = ({ (U.calling g mk a).setFrames s₂.frames with heap := s₂.heap, slotsUsed := s₂.slotsUsed } : State).setVm s₂.vm := by
      have : s₂ = ({ s₂ with vm := (U.calling g mk a).vm } : State).setVm s₂.vm := rfl
      rw [e2] at this
      exact this
    have hf₂ : s₂.frames = .throwing q :: .java g :: U.frames.tail := hend
    have hW' : U.WarmedH s₂.vm := hW₂
    have hs₂ : s₂ = ((({ U with heap := s₂.heap, slotsUsed := s₂.slotsUsed } : State).setVm s₂.vm).setTop g).pushFrame (.throwing q) := by
      refine e3.trans ?_
      rw [hf₂, State.calling_eq h.top, State.setFrames_setFrames, State.pushFrame, State.frames_setTop _ hr', State.setTop_of_frames _ hr', State.setFrames_setFrames, hr]
      rfl
    have hsame : U.sameButNew ({ U with heap := s₂.heap, slotsUsed := s₂.slotsUsed } : State) L mc ms := by
      refine ⟨?_, q2, q3, q4, q5, q6⟩
      obtain ⟨t, ht, -⟩ := State.frames_cons hr
      show ({ U with heap := s₂.heap, slotsUsed := s₂.slotsUsed } : State) = { U.setFrames U.frames with heap := s₂.heap, slotsUsed := s₂.slotsUsed }
      rw [State.setFrames_self ht]
    subst hg
    refine Or.inr ⟨q, ⟨(({ U with heap := s₂.heap, slotsUsed := s₂.slotsUsed } : State).setVm s₂.vm), Ls ++ L, c0 + mc, s0 + ms⟩,
      ⟨X.admits, X.cas, X.clock, X.frames, X.room, X.hears, X.method, X.code, (X.here.setHeapUsed s₂.heap s₂.slotsUsed).setVm hW'.alike, X.tail, State.WarmedH.trans X.warmed hW', X.limits, X.bytes, X.same.trans (hsame.setVm s.vm)⟩,
      ⟨g, mk, s₂, L, E, ce, rfl, rfl, hx, hce, hcv, hcl, rfl, hL, rfl, rfl⟩, ?_⟩
    show Steps p.tables e below _ (((({ U with heap := s₂.heap, slotsUsed := s₂.slotsUsed } : State).setVm s₂.vm).setTop g).pushFrame (.throwing q))
    rw [← hs₂]
    exact hsteps
end
variable {p : Program} {l : Launch} {e : Env} {R : Room} {s : State} {m : MethodId} {args : Array Value} {below : List Frame} {meth : Method} {c : Code} {T : State} {H : Heap} {locs : List Loc} {cells slots : Nat}
theorem vx_callVX (X : Stand p l e R s m args below meth c T locs cells slots) (hexec : p.tables.exec = Jvm.exec) {own C : String} {index : Nat} {y : MethodName} {bytes : ByteArray} {maxL : Nat} {ret : Option FieldType} {hh : List (Nat × Nat × Nat × Nat)}
    (hown : s.vm.findClass own = some m.cls) (hlink : (Cond.methodLink own index y).before args s = true) (hinst : (Cond.instanceMethod y).before args s = true) (hsel : (Cond.selects C y y).before args s = true)
    (hcode : (Cond.codeWith y bytes maxL ret hh).before args s = true) (hy : y.cls ≠ "java/lang/invoke/MethodHandle" ∧ y.cls ≠ "java/lang/invoke/VarHandle")
    {W9 : Nat} {Pre : Pt → Array Value → Prop} {Post : Pt → Array Value → Option Value → Pt → Prop} {PostX : Pt → Array Value → Addr → Pt → Prop} (hK : vx_Back l R p e below s args y 3 W9 Pre Post PostX)
    {b : Addr} {cellB : Cell} (hcell : T.heap[b]? = some cellB) (hobj : cellB.vm.isStatics = false) (hcls : s.vm.findClass C = some cellB.cls)
    {g : JFrame} (hg : g.method = m) (hsize : g.locals.size = c.maxLocals) {argsL rest : List Value} (hlen : ∀ sig, parseMethodDescriptor y.desc = some sig → argsL.length = sig.parameters.length)
    (hstack : g.stack = argsL.reverse ++ .ref b :: rest) (hW : 2 * g.monitorRoom + (rest.map fun v => v.category).sum ≤ W9) (hdg : decode c.code g.pc = .ok (.invokevirtual index, 3))
    (hpre : ∀ vm₁, s.WarmedH vm₁ → Pre ⟨T.setVm vm₁, locs, cells, slots⟩ (Value.ref b :: argsL).toArray) :
    (∃ (v : Option Value) (vm₁ : Vm) (B : Pt), s.WarmedH vm₁ ∧ Stand p l e R s m args below meth c B.U B.locs B.cells B.slots ∧ Post ⟨T.setVm vm₁, locs, cells, slots⟩ (Value.ref b :: argsL).toArray v B ∧
      ∀ target, Steps p.tables e below (B.U.setTop { g with pc := g.pc + 3, stack := v.toList ++ rest }) target → Steps p.tables e below (T.setTop g) target) ∨
    (∃ (q : Addr) (vm₁ : Vm) (B : Pt), s.WarmedH vm₁ ∧ Stand p l e R s m args below meth c B.U B.locs B.cells B.slots ∧ PostX ⟨T.setVm vm₁, locs, cells, slots⟩ (Value.ref b :: argsL).toArray q B ∧
      Steps p.tables e below (T.setTop g) ((B.U.setTop { g with stack := rest }).pushFrame (.throwing q))) := by
  obtain ⟨mk, methM, hnamed, hmethM, hstM, habM⟩ := Cond.instanceMethod_spec hinst
  obtain ⟨m8, methM', cM, hn8, hmethM', -, -, -, -, -, -, hsigM⟩ := Cond.codeWith_spec hcode
  cases Option.some.inj (hn8.symm.trans hnamed)
  cases hmethM.symm.trans hmethM'
  obtain ⟨c2, r2, m2, q1, q2, q3, q4, kP, hkP, hkPi⟩ := Cond.selects_spec hsel
  cases hcls.symm.trans q1
  cases (State.methodFound?_of_named hnamed hy).symm.trans q2
  cases hnamed.symm.trans q3
  have hselP : selectMethod e.platform s.vm cellB.cls mk = .method mk := by rw [Launch.admits_selectMethod X.admits]; exact q4
  obtain ⟨vm₁, X₁, hstep₁⟩ := X.invokevirtual hexec hown hlink hnamed hmethM hstM hkP hkPi hy (a := b) (cell := cellB) hcell
    (fun z h => by rw [h] at hobj; cases hobj) hselP hmethM habM hkP hkPi (g := g) hg (argsL := argsL) (rest := rest) (hlen _ hsigM) hstack hdg
  rcases hK m meth c ⟨T.setVm vm₁, locs, cells, slots⟩ { g with stack := rest } (.invokevirtual index) mk (Value.ref b :: argsL).toArray X₁ hg hsize hdg hW (X₁.named hnamed) (hpre vm₁ X₁.warmed) with ⟨v, B, X', hpost, hsteps⟩ | ⟨q, B, X', hpost, hsteps⟩
  · exact Or.inl ⟨v, vm₁, B, X₁.warmed, X', hpost, fun target h => hstep₁ _ fun acts => by rw [doInvoke_state]; exact hsteps.trans h⟩
  · exact Or.inr ⟨q, vm₁, B, X₁.warmed, X', hpost, hstep₁ _ fun acts => by rw [doInvoke_state]; exact hsteps⟩
theorem vx_callSX (X : Stand p l e R s m args below meth c T locs cells slots) (hexec : p.tables.exec = Jvm.exec) {own : String} {index : Nat} {y : MethodName} {bytes : ByteArray} {maxL : Nat} {ret : Option FieldType} {hh : List (Nat × Nat × Nat × Nat)}
    (hown : s.vm.findClass own = some m.cls) (hlink : (Cond.methodLink own index y).before args s = true) (hstat : (Cond.static y).before args s = true) (hinit : (Cond.initialized y.cls).before args s = true)
    (hcode : (Cond.codeWith y bytes maxL ret hh).before args s = true) (hy : y.cls ≠ "java/lang/invoke/MethodHandle" ∧ y.cls ≠ "java/lang/invoke/VarHandle")
    {W9 : Nat} {Pre : Pt → Array Value → Prop} {Post : Pt → Array Value → Option Value → Pt → Prop} {PostX : Pt → Array Value → Addr → Pt → Prop} (hK : vx_Back l R p e below s args y 3 W9 Pre Post PostX)
    {g : JFrame} (hg : g.method = m) (hsize : g.locals.size = c.maxLocals) {argsL rest : List Value} (hlen : ∀ sig, parseMethodDescriptor y.desc = some sig → argsL.length = sig.parameters.length)
    (hstack : g.stack = argsL.reverse ++ rest) (hW : 2 * g.monitorRoom + (rest.map fun v => v.category).sum ≤ W9) (hdg : decode c.code g.pc = .ok (.invokestatic index, 3))
    (hpre : ∀ vm₁, s.WarmedH vm₁ → Pre ⟨T.setVm vm₁, locs, cells, slots⟩ argsL.toArray) :
    (∃ (v : Option Value) (vm₁ : Vm) (B : Pt), s.WarmedH vm₁ ∧ Stand p l e R s m args below meth c B.U B.locs B.cells B.slots ∧ Post ⟨T.setVm vm₁, locs, cells, slots⟩ argsL.toArray v B ∧
      ∀ target, Steps p.tables e below (B.U.setTop { g with pc := g.pc + 3, stack := v.toList ++ rest }) target → Steps p.tables e below (T.setTop g) target) ∨
    (∃ (q : Addr) (vm₁ : Vm) (B : Pt), s.WarmedH vm₁ ∧ Stand p l e R s m args below meth c B.U B.locs B.cells B.slots ∧ PostX ⟨T.setVm vm₁, locs, cells, slots⟩ argsL.toArray q B ∧
      Steps p.tables e below (T.setTop g) ((B.U.setTop { g with stack := rest }).pushFrame (.throwing q))) := by
  obtain ⟨mk, methM, cM, hnamed, hmethM, -, -, -, -, -, -, hsigM⟩ := Cond.codeWith_spec hcode
  have hstatic : methM.isStatic = true := Cond.static_spec hnamed hmethM hstat
  obtain ⟨kP, hkP, -⟩ := className_of_methodNamed hnamed
  have hinitP : kP.init = .initialized := Cond.initialized_spec (findClass_of_methodNamed hnamed) hkP hinit
  obtain ⟨vm₁, X₁, hstep₁⟩ := X.invokestatic hexec hown hlink hnamed hmethM hstatic hkP hinitP hy (g := g) hg (argsL := argsL) (rest := rest) (hlen _ hsigM) hstack hdg
  rcases hK m meth c ⟨T.setVm vm₁, locs, cells, slots⟩ { g with stack := rest } (.invokestatic index) mk argsL.toArray X₁ hg hsize hdg hW (X₁.named hnamed) (hpre vm₁ X₁.warmed) with ⟨v, B, X', hpost, hsteps⟩ | ⟨q, B, X', hpost, hsteps⟩
  · exact Or.inl ⟨v, vm₁, B, X₁.warmed, X', hpost, fun target h => hstep₁ _ fun acts => by rw [doInvoke_state]; exact hsteps.trans h⟩
  · exact Or.inr ⟨q, vm₁, B, X₁.warmed, X', hpost, hstep₁ _ fun acts => by rw [doInvoke_state]; exact hsteps⟩
theorem vx_callVW (X : Stand p l e R s m args below meth c T locs cells slots) (hexec : p.tables.exec = Jvm.exec) {own C : String} {index : Nat} {y : MethodName} {bytes : ByteArray} {maxL : Nat} {ret : Option FieldType} {hh : List (Nat × Nat × Nat × Nat)}
    (hown : s.vm.findClass own = some m.cls) (hlink : (Cond.methodLink own index y).before args s = true) (hinst : (Cond.instanceMethod y).before args s = true) (hsel : (Cond.selects C y y).before args s = true)
    (hcode : (Cond.codeWith y bytes maxL ret hh).before args s = true) (hy : y.cls ≠ "java/lang/invoke/MethodHandle" ∧ y.cls ≠ "java/lang/invoke/VarHandle")
    {W9 : Nat} {Pre : Pt → Array Value → Prop} {Post : Pt → Array Value → Option Value → Pt → Prop} (hK : Back l R p e below s args y 3 W9 Pre Post)
    {b : Addr} {cellB : Cell} (hcell : T.heap[b]? = some cellB) (hobj : cellB.vm.isStatics = false) (hcls : s.vm.findClass C = some cellB.cls)
    {g : JFrame} (hg : g.method = m) (hsize : g.locals.size = c.maxLocals) {argsL rest : List Value} (hlen : ∀ sig, parseMethodDescriptor y.desc = some sig → argsL.length = sig.parameters.length)
    (hstack : g.stack = argsL.reverse ++ .ref b :: rest) (hW : 2 * g.monitorRoom + (rest.map fun v => v.category).sum ≤ W9) (hdg : decode c.code g.pc = .ok (.invokevirtual index, 3))
    (hpre : ∀ vm₁, s.WarmedH vm₁ → Pre ⟨T.setVm vm₁, locs, cells, slots⟩ (Value.ref b :: argsL).toArray) :
    ∃ (v : Option Value) (vm₁ : Vm) (B : Pt), s.WarmedH vm₁ ∧ Stand p l e R s m args below meth c B.U B.locs B.cells B.slots ∧ Post ⟨T.setVm vm₁, locs, cells, slots⟩ (Value.ref b :: argsL).toArray v B ∧
      ∀ target, Steps p.tables e below (B.U.setTop { g with pc := g.pc + 3, stack := v.toList ++ rest }) target → Steps p.tables e below (T.setTop g) target := by
  obtain ⟨mk, methM, hnamed, hmethM, hstM, habM⟩ := Cond.instanceMethod_spec hinst
  obtain ⟨m8, methM', cM, hn8, hmethM', -, -, -, -, -, -, hsigM⟩ := Cond.codeWith_spec hcode
  cases Option.some.inj (hn8.symm.trans hnamed)
  cases hmethM.symm.trans hmethM'
  obtain ⟨c2, r2, m2, q1, q2, q3, q4, kP, hkP, hkPi⟩ := Cond.selects_spec hsel
  cases hcls.symm.trans q1
  cases (State.methodFound?_of_named hnamed hy).symm.trans q2
  cases hnamed.symm.trans q3
  have hselP : selectMethod e.platform s.vm cellB.cls mk = .method mk := by rw [Launch.admits_selectMethod X.admits]; exact q4
  obtain ⟨vm₁, X₁, hstep₁⟩ := X.invokevirtual hexec hown hlink hnamed hmethM hstM hkP hkPi hy (a := b) (cell := cellB) hcell
    (fun z h => by rw [h] at hobj; cases hobj) hselP hmethM habM hkP hkPi (g := g) hg (argsL := argsL) (rest := rest) (hlen _ hsigM) hstack hdg
  obtain ⟨v, B, X', hpost, hsteps⟩ := hK m meth c ⟨T.setVm vm₁, locs, cells, slots⟩ { g with stack := rest } (.invokevirtual index) mk (Value.ref b :: argsL).toArray X₁ hg hsize hdg hW (X₁.named hnamed) (hpre vm₁ X₁.warmed)
  exact ⟨v, vm₁, B, X₁.warmed, X', hpost, fun target h => hstep₁ _ fun acts => by rw [doInvoke_state]; exact hsteps.trans h⟩
abbrev vx_CVW (R : Room) (s : State) (args : Array Value) (own C : String) (index : Nat) (y : MethodName) (bytes : ByteArray) (maxL : Nat) (ret : Option FieldType) (hh : List (Nat × Nat × Nat × Nat)) (ws : List Cond) (rm : Room) (mc ms n : Nat) : Prop :=
  (rm.cells = mc ∧ rm.slots = ms ∧ rm.frames + 1 ≤ R.frames ∧ 8 + (maxL + 11) + rm.locals ≤ R.locals ∧ (∀ w ∈ ws, ∀ (a' : Array Value) (U : State), s.WarmedH U.vm → w.before a' U = true) ∧ Cond.codeWith y bytes maxL ret hh ∈ ws) ∧
  (Cond.codeWith y bytes maxL ret hh).before args s = true ∧ (Cond.initialized y.cls).before args s = true ∧ (y.cls ≠ "java/lang/invoke/MethodHandle" ∧ y.cls ≠ "java/lang/invoke/VarHandle") ∧
  (∀ sig, parseMethodDescriptor y.desc = some sig → n = sig.parameters.length) ∧ (Cond.methodLink own index y).before args s = true ∧ (Cond.instanceMethod y).before args s = true ∧ (Cond.selects C y y).before args s = true
theorem vx_cwVW {own C : String} {index maxL mc ms : Nat} {y : MethodName} {bytes : ByteArray} {ret : Option FieldType} {hh : List (Nat × Nat × Nat × Nat)} {Ts ws ws' : List Cond} {rm : Room} (n : Nat) (ht : ∀ w ∈ Ts, w.before args s = true) (hT : GoodIn Ts (wsV own index C y ws)) (hw : ws = Cond.codeWith y bytes maxL ret hh :: ws') (hrc : rm.cells = mc) (hrs : rm.slots = ms)
    (hd : y.cls = C ∧ y.cls ≠ "java/lang/invoke/MethodHandle" ∧ y.cls ≠ "java/lang/invoke/VarHandle" ∧ (parseMethodDescriptor y.desc).map (fun d => d.parameters.length) = some n) (hR : rm.frames + 1 ≤ R.frames ∧ 8 + (maxL + 11) + rm.locals ≤ R.locals) :
    vx_CVW R s args own C index y bytes maxL ret hh ws rm mc ms n := by
  obtain ⟨hC, hd⟩ := hd
  subst hC
  have ok : ∀ w ∈ wsV own index y.cls y ws, w.before args s = true := fun w h => ht w (hT w h).1
  have hG : GoodIn Ts ws := fun w h => hT w (by unfold wsV; exact List.mem_append_right _ h)
  have hc : Cond.codeWith y bytes maxL ret hh ∈ ws := by rw [hw]; exact List.mem_cons_self
  refine ⟨⟨hrc, hrs, hR.1, hR.2, pay_in ht hG, hc⟩, ht _ (hG _ hc).1, ok _ (by simp [wsV]), ⟨hd.1, hd.2.1⟩, fun sig h => ?_, ok _ (by simp [wsV]), ok _ (by simp [wsV]), ok _ (by simp [wsV])⟩
  have h2 := hd.2.2
  rw [h] at h2
  exact (Option.some.inj h2).symm
theorem vx_runVW {y : MethodName} {bytes cc : ByteArray} {maxL nL mc ms n index : Nat} {ret : Option FieldType} {hh : List (Nat × Nat × Nat × Nat)} {ws : List Cond} {rm : Room} {Pc : Array Value → State → Prop} {Qc : Array Value → State → Outcome → State → Prop} {free : Addr → Prop} {Ts : List Cond} {own C : String} {b : Addr} {As rest : List Value} {g : JFrame}
    (S : CallFix p m c cc nL s args Ts own) (hM : Met l y ws rm Pc Qc mc ms free) (cw : vx_CVW R s args own C index y bytes maxL ret hh ws rm mc ms n) (hp : PreV s H C b Pc As)
    (hg : g.method = m) (hn : As.length = n) (hsize : g.locals.size = nL) (hstack : g.stack = As.reverse ++ .ref b :: rest) (hW : 2 * g.monitorRoom + (rest.map fun v => v.category).sum ≤ 8) (hdg : decode cc g.pc = .ok (.invokevirtual index, 3)) (hf : cells + mc ≤ R.cells ∧ slots + ms ≤ R.slots) :
    va_Run p l e R s m args below meth c H locs cells slots mc ms g rest (Qc (Value.ref b :: As).toArray) free := by
  obtain ⟨⟨hrc, hrs, hfr, hlo, hws, hcw⟩, hcode, hini, hy, hlen, hl, hin, hse⟩ := cw
  have hK : Back l R p e below s args y 3 8 (PreOf R mc ms Pc) (PostOf Qc mc ms free) := va_backW (hh := hh) (bytes := bytes) (maxL := maxL) (ret := ret) hM hp.1 hrc hrs hfr hlo hws hcw (fun a' U hW => word_at hW (Or.inl (by first | rfl | simp [Cond.onTables, Cond.keeps, Cond.steady])) hini)
  obtain ⟨hx, hb, hml, ho, -⟩ := S
  obtain ⟨-, ⟨cellB, hcB, hoB, hclB⟩, hPc⟩ := hp
  intro T hT X
  obtain ⟨v, vm₁, ⟨U', l2, c2, s2⟩, hW₁, X', ⟨g', mk, t, L, e1, e2, hq, h1, hL, h2, h3⟩, st⟩ := vx_callVW X hx (C := C) (hh := hh) (bytes := bytes) (maxL := maxL) (ret := ret) ho hl hin hse hcode hy hK (by rw [hT]; exact hcB) hoB hclB hg (hsize.trans hml.symm) (argsL := As) (rest := rest) (fun sig h => hn.trans (hlen sig h)) hstack hW (by rw [hb]; exact hdg)
    (fun vm₁ hW₁ => ⟨hf.1, hf.2, hPc (T.setVm vm₁) hT hW₁⟩)
  dsimp only [Pt.U, Pt.locs, Pt.cells, Pt.slots] at X' e1 e2 h1 h2 h3 st
  subst h1; subst h2; subst h3
  exact ⟨v, (T.setVm vm₁).calling g' mk (Value.ref b :: As).toArray, t, U', L, hT, X', hL, e1, e2, hq, st⟩
section
variable {y : MethodName} {bytes cc : ByteArray} {maxL nL mc ms n index : Nat} {ret : Option FieldType} {ws : List Cond} {rm : Room} {Pc : Array Value → State → Prop} {Qc : Array Value → State → Outcome → State → Prop} {XC : String → State → State → Prop} {free : Addr → Prop} {Ts : List Cond} {own C : String} {b : Addr} {As rest : List Value} {g : JFrame}
theorem vx_runVX {hh : List (Nat × Nat × Nat × Nat)} (S : CallFix p m c cc nL s args Ts own) (hM : vx_Met l y ws rm Pc Qc XC mc ms free) (cw : vx_CVW R s args own C index y bytes maxL ret hh ws rm mc ms n) (hp : PreV s H C b Pc As)
    (hg : g.method = m) (hn : As.length = n) (hsize : g.locals.size = nL) (hstack : g.stack = As.reverse ++ .ref b :: rest) (hW : 2 * g.monitorRoom + (rest.map fun v => v.category).sum ≤ 8) (hdg : decode cc g.pc = .ok (.invokevirtual index, 3)) (hf : cells + mc ≤ R.cells ∧ slots + ms ≤ R.slots) :
    vx_Run p l e R s m args below meth c H locs cells slots mc ms g rest (Qc (Value.ref b :: As).toArray) XC free := by
  obtain ⟨⟨hrc, hrs, hfr, hlo, hws, hcw⟩, hcode, hini, hy, hlen, hl, hin, hse⟩ := cw
  have hK : vx_Back l R p e below s args y 3 8 (PreOf R mc ms Pc) (PostOf Qc mc ms free) (vx_Post XC mc ms free) := vx_backW (hh := hh) (bytes := bytes) (maxL := maxL) (ret := ret) hM hp.1 hrc hrs hfr hlo hws hcw (fun a' U hW => word_at hW (Or.inl (by first | rfl | simp [Cond.onTables, Cond.keeps, Cond.steady])) hini)
  obtain ⟨hx, hb, hml, ho, -⟩ := S
  obtain ⟨-, ⟨cellB, hcB, hoB, hclB⟩, hPc⟩ := hp
  intro T hT X
  rcases vx_callVX X hx (C := C) (hh := hh) (bytes := bytes) (maxL := maxL) (ret := ret) ho hl hin hse hcode hy hK (by rw [hT]; exact hcB) hoB hclB hg (hsize.trans hml.symm) (argsL := As) (rest := rest) (fun sig h => hn.trans (hlen sig h)) hstack hW (by rw [hb]; exact hdg)
    (fun vm₁ hW₁ => ⟨hf.1, hf.2, hPc (T.setVm vm₁) hT hW₁⟩) with ⟨v, vm₁, ⟨U', l2, c2, s2⟩, hW₁, X', ⟨g', mk, t, L, e1, e2, hq, h1, hL, h2, h3⟩, st⟩ | ⟨q, vm₁, ⟨U', l2, c2, s2⟩, hW₁, X', ⟨g', mk, t, L, E, ce, e1, e2, hq, hce, hcv, hcl, h1, hL, h2, h3⟩, st⟩
  · dsimp only [Pt.U, Pt.locs, Pt.cells, Pt.slots] at X' e1 e2 h1 h2 h3 st
    subst h1; subst h2; subst h3
    exact Or.inl ⟨v, (T.setVm vm₁).calling g' mk (Value.ref b :: As).toArray, t, U', L, hT, X', hL, e1, e2, hq, st⟩
  · dsimp only [Pt.U, Pt.locs, Pt.cells, Pt.slots] at X' e1 e2 h1 h2 h3 st hcl
    subst h1; subst h2; subst h3
    exact Or.inr ⟨q, (T.setVm vm₁).calling g' mk (Value.ref b :: As).toArray, t, U', L, E, ce, hT, X', hL, e1, e2, hq, hce, hcv, vx_cls hW₁ hcl, st⟩
theorem vx_runSX {hh : List (Nat × Nat × Nat × Nat)} (S : CallFix p m c cc nL s args Ts own) (hM : vx_Met l y ws rm Pc Qc XC mc ms free) (cw : vx_CSW R s args own index y bytes maxL ret hh ws rm mc ms n) (hp : PreS s H Pc As)
    (hg : g.method = m) (hn : As.length = n) (hsize : g.locals.size = nL) (hstack : g.stack = As.reverse ++ rest) (hW : 2 * g.monitorRoom + (rest.map fun v => v.category).sum ≤ 8) (hdg : decode cc g.pc = .ok (.invokestatic index, 3)) (hf : cells + mc ≤ R.cells ∧ slots + ms ≤ R.slots) :
    vx_Run p l e R s m args below meth c H locs cells slots mc ms g rest (Qc As.toArray) XC free := by
  obtain ⟨⟨hrc, hrs, hfr, hlo, hws, hcw⟩, hcode, hini, hy, hlen, hl, hstt⟩ := cw
  have hK : vx_Back l R p e below s args y 3 8 (PreOf R mc ms Pc) (PostOf Qc mc ms free) (vx_Post XC mc ms free) := vx_backW (hh := hh) (bytes := bytes) (maxL := maxL) (ret := ret) hM hp.1 hrc hrs hfr hlo hws hcw (fun a' U hW => word_at hW (Or.inl (by first | rfl | simp [Cond.onTables, Cond.keeps, Cond.steady])) hini)
  obtain ⟨hx, hb, hml, ho, -⟩ := S
  intro T hT X
  rcases vx_callSX X hx (hh := hh) (bytes := bytes) (maxL := maxL) (ret := ret) ho hl hstt hini hcode hy hK hg (hsize.trans hml.symm) (argsL := As) (rest := rest) (fun sig h => hn.trans (hlen sig h)) hstack hW (by rw [hb]; exact hdg)
    (fun vm₁ hW₁ => ⟨hf.1, hf.2, hp.2 (T.setVm vm₁) hT hW₁⟩) with ⟨v, vm₁, ⟨U', l2, c2, s2⟩, hW₁, X', ⟨g', mk, t, L, e1, e2, hq, h1, hL, h2, h3⟩, st⟩ | ⟨q, vm₁, ⟨U', l2, c2, s2⟩, hW₁, X', ⟨g', mk, t, L, E, ce, e1, e2, hq, hce, hcv, hcl, h1, hL, h2, h3⟩, st⟩
  · dsimp only [Pt.U, Pt.locs, Pt.cells, Pt.slots] at X' e1 e2 h1 h2 h3 st
    subst h1; subst h2; subst h3
    exact Or.inl ⟨v, (T.setVm vm₁).calling g' mk As.toArray, t, U', L, hT, X', hL, e1, e2, hq, st⟩
  · dsimp only [Pt.U, Pt.locs, Pt.cells, Pt.slots] at X' e1 e2 h1 h2 h3 st hcl
    subst h1; subst h2; subst h3
    exact Or.inr ⟨q, (T.setVm vm₁).calling g' mk As.toArray, t, U', L, E, ce, hT, X', hL, e1, e2, hq, hce, hcv, vx_cls hW₁ hcl, st⟩
end
end VXH
theorem vx_ofWH {l : Launch} {y : MethodName} {ws ws' : List Cond} {rm : Room} {Pc : Array Value → State → Prop} {Qc : Array Value → State → Outcome → State → Prop} {XC : String → State → State → Prop} {mc ms : Nat} {free : Addr → Prop} {cc : ByteArray} {maxL : Nat} {ret : Option FieldType} {hh : List (Nat × Nat × Nat × Nat)}
    (hy : plainName y.cls = true) (hw : ws = Cond.codeWith y cc maxL ret hh :: ws')
    (body : ∀ p e s m args below meth c s₁, BodyLoose p l y (headSpec ws rm) cc maxL ret e s m args below meth c s₁ → c.maxLocals = maxL → Pc args s →
      W p l e (headSpec ws rm).room s m args below meth c s.heap [] 0 0 (vx_MQ below Qc XC args s mc ms free) (entryFrame m args maxL)) : vx_Met l y ws rm Pc Qc XC mc ms free := by
  refine MetFree.of_bodyS (code := cc) (maxLocals := maxL) (ret := ret) hy ?_ ?_
  · intro args s m h hn
    obtain ⟨m9, meth, c, hn9, h1, h2, h3, h4, -, h5, h6, -⟩ := Cond.codeWith_spec (atoms_spec (ws := ws) h _ (by rw [hw]; exact List.mem_cons_self))
    cases hn.symm.trans hn9
    exact ⟨meth, c, h1, h2, h3, h4, h5, h6⟩
  · intro p e s m args below meth c s₁ B hml hP _
    have hh0 : s₁.heap = s.heap := by rw [B.state]; rfl
    obtain ⟨t, a1, o, b1, b2, b3⟩ := body p e s m args below meth c s₁ B hml hP s₁ hh0 (Stand.of_body B)
    exact ⟨t, o, a1, b1, b2, b3⟩
/-! ===== END ===== -/
end
section
def RX0 : String := "ComponentTree$Change"
def TX0 : u_T := fun k => match k with
  | 0 => ("ComponentTree$Change", "remains", "[Z", true)
  | _ => ("ComponentTree$Change", "ranks", "[I", true)
def tyX0 : Nat → FieldType := fun k => match k with
  | 0 => .array .boolean
  | _ => .array .int
abbrev wsX00 : List Cond := u_ws RX0 TX0 2
theorem nmX0 : ∀ a, a < 2 → ∀ b, b < 2 → a ≠ b → (TX0 a).2.1 ≠ (TX0 b).2.1 := by decide +kernel
theorem tyX0_ok : ∀ k, k < 2 → parseFieldDescriptor (TX0 k).2.2.1 = some (tyX0 k) := by decide +kernel
abbrev cX0_init : ByteArray := prog_2_method_1_code
def yX0_init : MethodName := ⟨RX0, "<init>", "()V"⟩
abbrev cX0_prune : ByteArray := prog_2_method_2_code
def yX0_prune : MethodName := ⟨RX0, "prune", "(LComponentTree$Nodes;[III)V"⟩
abbrev cX0_keepLeaves : ByteArray := prog_2_method_3_code
def yX0_keepLeaves : MethodName := ⟨RX0, "keepLeaves", "(LComponentTree$Nodes;[II)V"⟩
abbrev cX0_dropBelowDropped : ByteArray := prog_2_method_4_code
def yX0_dropBelowDropped : MethodName := ⟨RX0, "dropBelowDropped", "(LComponentTree$Nodes;)V"⟩
abbrev cX0_keepAboveKept : ByteArray := prog_2_method_5_code
def yX0_keepAboveKept : MethodName := ⟨RX0, "keepAboveKept", "(LComponentTree$Nodes;)V"⟩
abbrev cX0_sinkToRemaining : ByteArray := prog_2_method_6_code
def yX0_sinkToRemaining : MethodName := ⟨RX0, "sinkToRemaining", "(LComponentTree$Nodes;)V"⟩
abbrev cX0_addSteps : ByteArray := prog_2_method_7_code
def yX0_addSteps : MethodName := ⟨RX0, "addSteps", "(LComponentTree$Nodes;)V"⟩
abbrev cX0_rebuild : ByteArray := prog_2_method_8_code
def yX0_rebuild : MethodName := ⟨RX0, "rebuild", "(LComponentTree$Nodes;[I)V"⟩
abbrev cX0_lossIn : ByteArray := prog_2_method_9_code
def yX0_lossIn : MethodName := ⟨RX0, "lossIn", "(LComponentTree$Nodes;)I"⟩
abbrev cX0_changedIn : ByteArray := prog_2_method_10_code
def yX0_changedIn : MethodName := ⟨RX0, "changedIn", "(LComponentTree$Nodes;)I"⟩
def RX1 : String := "ComponentTree$Grid"
def TX1 : u_T := fun k => match k with
  | 0 => ("ComponentTree$Grid", "columns", "I", false)
  | 1 => ("ComponentTree$Grid", "rows", "I", false)
  | 2 => ("ComponentTree$Grid", "size", "I", false)
  | 3 => ("ComponentTree$Grid", "all", "J", false)
  | 4 => ("ComponentTree$Grid", "left", "J", false)
  | 5 => ("ComponentTree$Grid", "right", "J", false)
  | _ => ("ComponentTree$Grid", "border", "J", false)
def tyX1 : Nat → FieldType := fun k => match k with
  | 0 => .int
  | 1 => .int
  | 2 => .int
  | 3 => .long
  | 4 => .long
  | 5 => .long
  | _ => .long
abbrev wsX10 : List Cond := u_ws RX1 TX1 7
theorem nmX1 : ∀ a, a < 7 → ∀ b, b < 7 → a ≠ b → (TX1 a).2.1 ≠ (TX1 b).2.1 := by decide +kernel
theorem tyX1_ok : ∀ k, k < 7 → parseFieldDescriptor (TX1 k).2.2.1 = some (tyX1 k) := by decide +kernel
abbrev cX1_init : ByteArray := prog_3_method_1_code
def yX1_init : MethodName := ⟨RX1, "<init>", "()V"⟩
abbrev cX1_shape : ByteArray := prog_3_method_2_code
def yX1_shape : MethodName := ⟨RX1, "shape", "(II)V"⟩
abbrev cX1_rowSet : ByteArray := prog_3_method_3_code
def yX1_rowSet : MethodName := ⟨RX1, "rowSet", "(I)J"⟩
abbrev cX1_columnSet : ByteArray := prog_3_method_4_code
def yX1_columnSet : MethodName := ⟨RX1, "columnSet", "(I)J"⟩
abbrev cX1_spread : ByteArray := prog_3_method_5_code
def yX1_spread : MethodName := ⟨RX1, "spread", "(JZ)J"⟩
abbrev cX1_connected : ByteArray := prog_3_method_6_code
def yX1_connected : MethodName := ⟨RX1, "connected", "(JJZ)J"⟩
abbrev cX1_perimeterOf : ByteArray := prog_3_method_7_code
def yX1_perimeterOf : MethodName := ⟨RX1, "perimeterOf", "(J)I"⟩
abbrev cX1_widthOf : ByteArray := prog_3_method_8_code
def yX1_widthOf : MethodName := ⟨RX1, "widthOf", "(J)I"⟩
abbrev cX1_tallnessOf : ByteArray := prog_3_method_9_code
def yX1_tallnessOf : MethodName := ⟨RX1, "tallnessOf", "(J)I"⟩
abbrev cX1_holesOf : ByteArray := prog_3_method_10_code
def yX1_holesOf : MethodName := ⟨RX1, "holesOf", "(JZ)I"⟩
def RX2 : String := "ComponentTree$History"
def TX2 : u_T := fun k => match k with
  | 0 => ("ComponentTree$History", "kept", "[LComponentTree$Picture;", true)
  | 1 => ("ComponentTree$History", "next", "I", false)
  | _ => ("ComponentTree$History", "size", "I", false)
def tyX2 : Nat → FieldType := fun k => match k with
  | 0 => .array (.object "ComponentTree$Picture")
  | 1 => .int
  | _ => .int
abbrev wsX20 : List Cond := u_ws RX2 TX2 3
theorem nmX2 : ∀ a, a < 3 → ∀ b, b < 3 → a ≠ b → (TX2 a).2.1 ≠ (TX2 b).2.1 := by decide +kernel
theorem tyX2_ok : ∀ k, k < 3 → parseFieldDescriptor (TX2 k).2.2.1 = some (tyX2 k) := by decide +kernel
abbrev cX2_init : ByteArray := prog_4_method_1_code
def yX2_init : MethodName := ⟨RX2, "<init>", "()V"⟩
abbrev cX2_keep : ByteArray := prog_4_method_2_code
def yX2_keep : MethodName := ⟨RX2, "keep", "(LComponentTree$Picture;)V"⟩
abbrev cX2_giveBack : ByteArray := prog_4_method_3_code
def yX2_giveBack : MethodName := ⟨RX2, "giveBack", "(LComponentTree$Picture;)V"⟩
def RX3 : String := "ComponentTree$InputText"
def TX3 : u_T := fun k => match k with
  | 0 => ("ComponentTree$InputText", "codes", "[I", true)
  | 1 => ("ComponentTree$InputText", "length", "I", false)
  | 2 => ("ComponentTree$InputText", "columns", "I", false)
  | 3 => ("ComponentTree$InputText", "rows", "I", false)
  | _ => ("ComponentTree$InputText", "inRow", "I", false)
def tyX3 : Nat → FieldType := fun k => match k with
  | 0 => .array .int
  | 1 => .int
  | 2 => .int
  | 3 => .int
  | _ => .int
abbrev wsX30 : List Cond := u_ws RX3 TX3 5
theorem nmX3 : ∀ a, a < 5 → ∀ b, b < 5 → a ≠ b → (TX3 a).2.1 ≠ (TX3 b).2.1 := by decide +kernel
theorem tyX3_ok : ∀ k, k < 5 → parseFieldDescriptor (TX3 k).2.2.1 = some (tyX3 k) := by decide +kernel
abbrev cX3_init : ByteArray := prog_5_method_1_code
def yX3_init : MethodName := ⟨RX3, "<init>", "()V"⟩
abbrev cX3_add : ByteArray := prog_5_method_2_code
def yX3_add : MethodName := ⟨RX3, "add", "(I)V"⟩
abbrev cX3_scan : ByteArray := prog_5_method_3_code
def yX3_scan : MethodName := ⟨RX3, "scan", "()I"⟩
abbrev cX3_takeSlash : ByteArray := prog_5_method_4_code
def yX3_takeSlash : MethodName := ⟨RX3, "takeSlash", "()Z"⟩
abbrev cX3_takeValue : ByteArray := prog_5_method_5_code
def yX3_takeValue : MethodName := ⟨RX3, "takeValue", "(I)Z"⟩
abbrev cX3_isPicture : ByteArray := prog_5_method_6_code
def yX3_isPicture : MethodName := ⟨RX3, "isPicture", "()Z"⟩
abbrev cX3_writeTo : ByteArray := prog_5_method_7_code
def yX3_writeTo : MethodName := ⟨RX3, "writeTo", "(LComponentTree$Picture;)V"⟩
abbrev cX3_valueOf : ByteArray := prog_5_method_8_code
def yX3_valueOf : MethodName := ⟨RX3, "valueOf", "(I)I"⟩
def RX4 : String := "ComponentTree$Measures"
def TX4 : u_T := fun k => match k with
  | 0 => ("ComponentTree$Measures", "values", "[[I", true)
  | 1 => ("ComponentTree$Measures", "leaves", "[I", true)
  | 2 => ("ComponentTree$Measures", "summit", "[I", true)
  | _ => ("ComponentTree$Measures", "sum", "[I", true)
def tyX4 : Nat → FieldType := fun k => match k with
  | 0 => .array (.array .int)
  | 1 => .array .int
  | 2 => .array .int
  | _ => .array .int
abbrev wsX40 : List Cond := u_ws RX4 TX4 4
theorem nmX4 : ∀ a, a < 4 → ∀ b, b < 4 → a ≠ b → (TX4 a).2.1 ≠ (TX4 b).2.1 := by decide +kernel
theorem tyX4_ok : ∀ k, k < 4 → parseFieldDescriptor (TX4 k).2.2.1 = some (tyX4 k) := by decide +kernel
abbrev cX4_init : ByteArray := prog_6_method_1_code
def yX4_init : MethodName := ⟨RX4, "<init>", "()V"⟩
abbrev cX4_measure : ByteArray := prog_6_method_2_code
def yX4_measure : MethodName := ⟨RX4, "measure", "(LComponentTree$Nodes;)V"⟩
abbrev cX4_findSummits : ByteArray := prog_6_method_3_code
def yX4_findSummits : MethodName := ⟨RX4, "findSummits", "(LComponentTree$Nodes;)V"⟩
abbrev cX4_isHigher : ByteArray := prog_6_method_4_code
def yX4_isHigher : MethodName := ⟨RX4, "isHigher", "(LComponentTree$Nodes;II)Z"⟩
abbrev cX4_addRanks : ByteArray := prog_6_method_5_code
def yX4_addRanks : MethodName := ⟨RX4, "addRanks", "(LComponentTree$Nodes;)V"⟩
abbrev cX4_measureTree : ByteArray := prog_6_method_6_code
def yX4_measureTree : MethodName := ⟨RX4, "measureTree", "(LComponentTree$Nodes;I)V"⟩
abbrev cX4_measureShape : ByteArray := prog_6_method_7_code
def yX4_measureShape : MethodName := ⟨RX4, "measureShape", "(LComponentTree$Nodes;I)V"⟩
abbrev cX4_prominenceIn : ByteArray := prog_6_method_8_code
def yX4_prominenceIn : MethodName := ⟨RX4, "prominenceIn", "(LComponentTree$Nodes;I)I"⟩
abbrev cX4_orderLeaves : ByteArray := prog_6_method_9_code
def yX4_orderLeaves : MethodName := ⟨RX4, "orderLeaves", "(LComponentTree$Nodes;)V"⟩
def RX5 : String := "ComponentTree$Nodes"
def TX5 : u_T := fun k => match k with
  | 0 => ("ComponentTree$Nodes", "grid", "LComponentTree$Grid;", true)
  | 1 => ("ComponentTree$Nodes", "eight", "Z", false)
  | 2 => ("ComponentTree$Nodes", "many", "I", false)
  | 3 => ("ComponentTree$Nodes", "leaves", "I", false)
  | 4 => ("ComponentTree$Nodes", "depth", "I", false)
  | 5 => ("ComponentTree$Nodes", "pixels", "[J", true)
  | 6 => ("ComponentTree$Nodes", "rank", "[I", true)
  | 7 => ("ComponentTree$Nodes", "own", "[I", true)
  | 8 => ("ComponentTree$Nodes", "parent", "[I", true)
  | 9 => ("ComponentTree$Nodes", "children", "[I", true)
  | 10 => ("ComponentTree$Nodes", "ofPixel", "[I", true)
  | 11 => ("ComponentTree$Nodes", "depths", "[I", true)
  | _ => ("ComponentTree$Nodes", "withRank", "[J", true)
def tyX5 : Nat → FieldType := fun k => match k with
  | 0 => .object "ComponentTree$Grid"
  | 1 => .boolean
  | 2 => .int
  | 3 => .int
  | 4 => .int
  | 5 => .array .long
  | 6 => .array .int
  | 7 => .array .int
  | 8 => .array .int
  | 9 => .array .int
  | 10 => .array .int
  | 11 => .array .int
  | _ => .array .long
abbrev wsX50 : List Cond := u_ws RX5 TX5 13
theorem nmX5 : ∀ a, a < 13 → ∀ b, b < 13 → a ≠ b → (TX5 a).2.1 ≠ (TX5 b).2.1 := by decide +kernel
theorem tyX5_ok : ∀ k, k < 13 → parseFieldDescriptor (TX5 k).2.2.1 = some (tyX5 k) := by decide +kernel
abbrev cX5_init : ByteArray := prog_7_method_1_code
def yX5_init : MethodName := ⟨RX5, "<init>", "()V"⟩
abbrev cX5_build : ByteArray := prog_7_method_2_code
def yX5_build : MethodName := ⟨RX5, "build", "(LComponentTree$Picture;ZZ)V"⟩
abbrev cX5_sortPixels : ByteArray := prog_7_method_3_code
def yX5_sortPixels : MethodName := ⟨RX5, "sortPixels", "(LComponentTree$Picture;Z)V"⟩
abbrev cX5_addNodes : ByteArray := prog_7_method_4_code
def yX5_addNodes : MethodName := ⟨RX5, "addNodes", "(IJ)V"⟩
abbrev cX5_addNode : ByteArray := prog_7_method_5_code
def yX5_addNode : MethodName := ⟨RX5, "addNode", "(IJI)V"⟩
abbrev cX5_countLeaves : ByteArray := prog_7_method_6_code
def yX5_countLeaves : MethodName := ⟨RX5, "countLeaves", "()V"⟩
abbrev cX5_numberOf : ByteArray := prog_7_method_7_code
def yX5_numberOf : MethodName := ⟨RX5, "numberOf", "(I)I"⟩
abbrev cX5_holds : ByteArray := prog_7_method_8_code
def yX5_holds : MethodName := ⟨RX5, "holds", "(II)Z"⟩
abbrev cX5_holdsNode : ByteArray := prog_7_method_9_code
def yX5_holdsNode : MethodName := ⟨RX5, "holdsNode", "(II)Z"⟩
abbrev cX5_childAt : ByteArray := prog_7_method_10_code
def yX5_childAt : MethodName := ⟨RX5, "childAt", "(II)I"⟩
abbrev cX5_lowestWith : ByteArray := prog_7_method_11_code
def yX5_lowestWith : MethodName := ⟨RX5, "lowestWith", "(II)I"⟩
abbrev cX5_smallestWith : ByteArray := prog_7_method_12_code
def yX5_smallestWith : MethodName := ⟨RX5, "smallestWith", "(II)I"⟩
abbrev cX5_stepsBetween : ByteArray := prog_7_method_13_code
def yX5_stepsBetween : MethodName := ⟨RX5, "stepsBetween", "(II)I"⟩
def RX6 : String := "ComponentTree$Picture"
def TX6 : u_T := fun k => match k with
  | 0 => ("ComponentTree$Picture", "columns", "I", false)
  | 1 => ("ComponentTree$Picture", "rows", "I", false)
  | 2 => ("ComponentTree$Picture", "levels", "[I", true)
  | _ => ("ComponentTree$Picture", "markers", "[I", true)
def tyX6 : Nat → FieldType := fun k => match k with
  | 0 => .int
  | 1 => .int
  | 2 => .array .int
  | _ => .array .int
abbrev wsX60 : List Cond := u_ws RX6 TX6 4
theorem nmX6 : ∀ a, a < 4 → ∀ b, b < 4 → a ≠ b → (TX6 a).2.1 ≠ (TX6 b).2.1 := by decide +kernel
theorem tyX6_ok : ∀ k, k < 4 → parseFieldDescriptor (TX6 k).2.2.1 = some (tyX6 k) := by decide +kernel
abbrev cX6_init : ByteArray := prog_8_method_1_code
def yX6_init : MethodName := ⟨RX6, "<init>", "()V"⟩
abbrev cX6_size : ByteArray := prog_8_method_2_code
def yX6_size : MethodName := ⟨RX6, "size", "()I"⟩
abbrev cX6_blank : ByteArray := prog_8_method_3_code
def yX6_blank : MethodName := ⟨RX6, "blank", "(II)V"⟩
abbrev cX6_copyFrom : ByteArray := prog_8_method_4_code
def yX6_copyFrom : MethodName := ⟨RX6, "copyFrom", "(LComponentTree$Picture;)V"⟩
abbrev cX6_rowOf : ByteArray := prog_8_method_5_code
def yX6_rowOf : MethodName := ⟨RX6, "rowOf", "(I)I"⟩
abbrev cX6_columnOf : ByteArray := prog_8_method_6_code
def yX6_columnOf : MethodName := ⟨RX6, "columnOf", "(I)I"⟩
abbrev cX6_paint : ByteArray := prog_8_method_7_code
def yX6_paint : MethodName := ⟨RX6, "paint", "(III)I"⟩
abbrev cX6_differentLevels : ByteArray := prog_8_method_8_code
def yX6_differentLevels : MethodName := ⟨RX6, "differentLevels", "()I"⟩
abbrev cX6_sumOfLevels : ByteArray := prog_8_method_9_code
def yX6_sumOfLevels : MethodName := ⟨RX6, "sumOfLevels", "()I"⟩
def RX7 : String := "ComponentTree"
def TX7 : u_T := fun k => match k with
  | 0 => ("ComponentTree", "picture", "LComponentTree$Picture;", true)
  | 1 => ("ComponentTree", "trialPicture", "LComponentTree$Picture;", true)
  | 2 => ("ComponentTree", "history", "LComponentTree$History;", true)
  | 3 => ("ComponentTree", "input", "LComponentTree$InputText;", true)
  | 4 => ("ComponentTree", "nodes", "LComponentTree$Nodes;", true)
  | 5 => ("ComponentTree", "trialNodes", "LComponentTree$Nodes;", true)
  | 6 => ("ComponentTree", "measures", "LComponentTree$Measures;", true)
  | 7 => ("ComponentTree", "change", "LComponentTree$Change;", true)
  | 8 => ("ComponentTree", "markerRanks", "[I", true)
  | 9 => ("ComponentTree", "dark", "Z", false)
  | 10 => ("ComponentTree", "eight", "Z", false)
  | _ => ("ComponentTree", "stale", "Z", false)
def tyX7 : Nat → FieldType := fun k => match k with
  | 0 => .object "ComponentTree$Picture"
  | 1 => .object "ComponentTree$Picture"
  | 2 => .object "ComponentTree$History"
  | 3 => .object "ComponentTree$InputText"
  | 4 => .object "ComponentTree$Nodes"
  | 5 => .object "ComponentTree$Nodes"
  | 6 => .object "ComponentTree$Measures"
  | 7 => .object "ComponentTree$Change"
  | 8 => .array .int
  | 9 => .boolean
  | 10 => .boolean
  | _ => .boolean
abbrev wsX70 : List Cond := u_ws RX7 TX7 12
theorem nmX7 : ∀ a, a < 12 → ∀ b, b < 12 → a ≠ b → (TX7 a).2.1 ≠ (TX7 b).2.1 := by decide +kernel
theorem tyX7_ok : ∀ k, k < 12 → parseFieldDescriptor (TX7 k).2.2.1 = some (tyX7 k) := by decide +kernel
abbrev cX7_init : ByteArray := prog_1_method_1_code
def yX7_init : MethodName := ⟨RX7, "<init>", "()V"⟩
abbrev cX7_begin : ByteArray := prog_1_method_2_code
def yX7_begin : MethodName := ⟨RX7, "begin", "(II)I"⟩
abbrev cX7_setLevel : ByteArray := prog_1_method_3_code
def yX7_setLevel : MethodName := ⟨RX7, "setLevel", "(II)I"⟩
abbrev cX7_fill : ByteArray := prog_1_method_4_code
def yX7_fill : MethodName := ⟨RX7, "fill", "(III)I"⟩
abbrev cX7_complement : ByteArray := prog_1_method_5_code
def yX7_complement : MethodName := ⟨RX7, "complement", "()I"⟩
abbrev cX7_setMarker : ByteArray := prog_1_method_6_code
def yX7_setMarker : MethodName := ⟨RX7, "setMarker", "(II)I"⟩
abbrev cX7_markAll : ByteArray := prog_1_method_7_code
def yX7_markAll : MethodName := ⟨RX7, "markAll", "()I"⟩
abbrev cX7_level : ByteArray := prog_1_method_8_code
def yX7_level : MethodName := ⟨RX7, "level", "(I)I"⟩
abbrev cX7_marker : ByteArray := prog_1_method_9_code
def yX7_marker : MethodName := ⟨RX7, "marker", "(I)I"⟩
abbrev cX7_difference : ByteArray := prog_1_method_10_code
def yX7_difference : MethodName := ⟨RX7, "difference", "()I"⟩
abbrev cX7_setDark : ByteArray := prog_1_method_11_code
def yX7_setDark : MethodName := ⟨RX7, "setDark", "(Z)Z"⟩
abbrev cX7_setEight : ByteArray := prog_1_method_12_code
def yX7_setEight : MethodName := ⟨RX7, "setEight", "(Z)Z"⟩
abbrev cX7_undo : ByteArray := prog_1_method_13_code
def yX7_undo : MethodName := ⟨RX7, "undo", "()I"⟩
abbrev cX7_append : ByteArray := prog_1_method_14_code
def yX7_append : MethodName := ⟨RX7, "append", "(I)I"⟩
abbrev cX7_clearInput : ByteArray := prog_1_method_15_code
def yX7_clearInput : MethodName := ⟨RX7, "clearInput", "()I"⟩
abbrev cX7_firstError : ByteArray := prog_1_method_16_code
def yX7_firstError : MethodName := ⟨RX7, "firstError", "()I"⟩
abbrev cX7_load : ByteArray := prog_1_method_17_code
def yX7_load : MethodName := ⟨RX7, "load", "()I"⟩
abbrev cX7_count : ByteArray := prog_1_method_18_code
def yX7_count : MethodName := ⟨RX7, "count", "(I)I"⟩
abbrev cX7_nodeOf : ByteArray := prog_1_method_19_code
def yX7_nodeOf : MethodName := ⟨RX7, "nodeOf", "(I)I"⟩
abbrev cX7_attribute : ByteArray := prog_1_method_20_code
def yX7_attribute : MethodName := ⟨RX7, "attribute", "(II)I"⟩
abbrev cX7_meanRank : ByteArray := prog_1_method_21_code
def yX7_meanRank : MethodName := ⟨RX7, "meanRank", "(I)D"⟩
abbrev cX7_contains : ByteArray := prog_1_method_22_code
def yX7_contains : MethodName := ⟨RX7, "contains", "(II)Z"⟩
abbrev cX7_child : ByteArray := prog_1_method_23_code
def yX7_child : MethodName := ⟨RX7, "child", "(II)I"⟩
abbrev cX7_leaf : ByteArray := prog_1_method_24_code
def yX7_leaf : MethodName := ⟨RX7, "leaf", "(I)I"⟩
abbrev cX7_prominence : ByteArray := prog_1_method_25_code
def yX7_prominence : MethodName := ⟨RX7, "prominence", "(I)I"⟩
abbrev cX7_component : ByteArray := prog_1_method_26_code
def yX7_component : MethodName := ⟨RX7, "component", "(II)I"⟩
abbrev cX7_meet : ByteArray := prog_1_method_27_code
def yX7_meet : MethodName := ⟨RX7, "meet", "(II)I"⟩
abbrev cX7_distance : ByteArray := prog_1_method_28_code
def yX7_distance : MethodName := ⟨RX7, "distance", "(II)I"⟩
abbrev cX7_verdict : ByteArray := prog_1_method_29_code
def yX7_verdict : MethodName := ⟨RX7, "verdict", "(IIII)I"⟩
abbrev cX7_filtered : ByteArray := prog_1_method_30_code
def yX7_filtered : MethodName := ⟨RX7, "filtered", "(IIII)I"⟩
abbrev cX7_loss : ByteArray := prog_1_method_31_code
def yX7_loss : MethodName := ⟨RX7, "loss", "(III)I"⟩
abbrev cX7_filter : ByteArray := prog_1_method_32_code
def yX7_filter : MethodName := ⟨RX7, "filter", "(III)I"⟩
abbrev cX7_threshold : ByteArray := prog_1_method_33_code
def yX7_threshold : MethodName := ⟨RX7, "threshold", "(II)I"⟩
abbrev cX7_reconstruct : ByteArray := prog_1_method_34_code
def yX7_reconstruct : MethodName := ⟨RX7, "reconstruct", "()I"⟩
abbrev cX7_suppress : ByteArray := prog_1_method_35_code
def yX7_suppress : MethodName := ⟨RX7, "suppress", "(I)I"⟩
abbrev cX7_keepPeaks : ByteArray := prog_1_method_36_code
def yX7_keepPeaks : MethodName := ⟨RX7, "keepPeaks", "(I)I"⟩
abbrev cX7_ifLevel : ByteArray := prog_1_method_37_code
def yX7_ifLevel : MethodName := ⟨RX7, "ifLevel", "(III)I"⟩
abbrev cX7_digest : ByteArray := prog_1_method_38_code
def yX7_digest : MethodName := ⟨RX7, "digest", "()J"⟩
abbrev cX7_withPixels : ByteArray := prog_1_method_39_code
def yX7_withPixels : MethodName := ⟨RX7, "withPixels", "(J)J"⟩
abbrev cX7_withTree : ByteArray := prog_1_method_40_code
def yX7_withTree : MethodName := ⟨RX7, "withTree", "(J)J"⟩
abbrev cX7_mixed : ByteArray := prog_1_method_41_code
def yX7_mixed : MethodName := ⟨RX7, "mixed", "(JI)J"⟩
abbrev cX7_refresh : ByteArray := prog_1_method_42_code
def yX7_refresh : MethodName := ⟨RX7, "refresh", "()V"⟩
abbrev cX7_numberOf : ByteArray := prog_1_method_43_code
def yX7_numberOf : MethodName := ⟨RX7, "numberOf", "(I)I"⟩
abbrev cX7_lossBy : ByteArray := prog_1_method_44_code
def yX7_lossBy : MethodName := ⟨RX7, "lossBy", "(III)I"⟩
abbrev cX7_repaint : ByteArray := prog_1_method_45_code
def yX7_repaint : MethodName := ⟨RX7, "repaint", "()I"⟩
abbrev cX7_turned : ByteArray := prog_1_method_46_code
def yX7_turned : MethodName := ⟨RX7, "turned", "(IZ)I"⟩
abbrev cX7_isLevel : ByteArray := prog_1_method_47_code
def yX7_isLevel : MethodName := ⟨RX7, "isLevel", "(I)Z"⟩
abbrev cX7_isFilterAttribute : ByteArray := prog_1_method_48_code
def yX7_isFilterAttribute : MethodName := ⟨RX7, "isFilterAttribute", "(I)Z"⟩
abbrev cX7_needFilter : ByteArray := prog_1_method_49_code
def yX7_needFilter : MethodName := ⟨RX7, "needFilter", "(III)V"⟩
abbrev cX7_needPixel : ByteArray := prog_1_method_50_code
def yX7_needPixel : MethodName := ⟨RX7, "needPixel", "(I)V"⟩
abbrev cX7_needNode : ByteArray := prog_1_method_51_code
def yX7_needNode : MethodName := ⟨RX7, "needNode", "(I)V"⟩
abbrev cX7_needIndex : ByteArray := prog_1_method_52_code
def yX7_needIndex : MethodName := ⟨RX7, "needIndex", "(II)V"⟩
abbrev cX7_needArgument : ByteArray := prog_1_method_53_code
def yX7_needArgument : MethodName := ⟨RX7, "needArgument", "(Z)V"⟩
abbrev cX7_needState : ByteArray := prog_1_method_54_code
def yX7_needState : MethodName := ⟨RX7, "needState", "(Z)V"⟩
def RX8 : String := "ComponentTreeModel"
def TX8 : u_T := fun k => match k with
  | 0 => ("ComponentTreeModel", "thrown", "I", false)
  | 1 => ("ComponentTreeModel", "columns", "I", false)
  | 2 => ("ComponentTreeModel", "rows", "I", false)
  | 3 => ("ComponentTreeModel", "levels", "[I", true)
  | 4 => ("ComponentTreeModel", "markers", "[I", true)
  | 5 => ("ComponentTreeModel", "isDark", "Z", false)
  | 6 => ("ComponentTreeModel", "isEight", "Z", false)
  | 7 => ("ComponentTreeModel", "saved", "I", false)
  | 8 => ("ComponentTreeModel", "savedSizes", "[I", true)
  | 9 => ("ComponentTreeModel", "savedLevels", "[I", true)
  | 10 => ("ComponentTreeModel", "savedMarkers", "[I", true)
  | 11 => ("ComponentTreeModel", "length", "I", false)
  | 12 => ("ComponentTreeModel", "buffer", "[I", true)
  | 13 => ("ComponentTreeModel", "readWide", "I", false)
  | 14 => ("ComponentTreeModel", "readRows", "I", false)
  | 15 => ("ComponentTreeModel", "readHere", "I", false)
  | 16 => ("ComponentTreeModel", "readMany", "I", false)
  | 17 => ("ComponentTreeModel", "readLevels", "[I", true)
  | 18 => ("ComponentTreeModel", "isLaid", "Z", false)
  | 19 => ("ComponentTreeModel", "nodes", "I", false)
  | 20 => ("ComponentTreeModel", "sets", "[J", true)
  | 21 => ("ComponentTreeModel", "ranks", "[I", true)
  | 22 => ("ComponentTreeModel", "parents", "[I", true)
  | 23 => ("ComponentTreeModel", "children", "[I", true)
  | 24 => ("ComponentTreeModel", "nodeAt", "[I", true)
  | 25 => ("ComponentTreeModel", "prominences", "[I", true)
  | 26 => ("ComponentTreeModel", "leaves", "I", false)
  | 27 => ("ComponentTreeModel", "leafOrder", "[I", true)
  | 28 => ("ComponentTreeModel", "values", "[I", true)
  | 29 => ("ComponentTreeModel", "remains", "[Z", true)
  | 30 => ("ComponentTreeModel", "made", "[I", true)
  | 31 => ("ComponentTreeModel", "marks", "[I", true)
  | _ => ("ComponentTreeModel", "hash", "J", false)
def tyX8 : Nat → FieldType := fun k => match k with
  | 0 => .int
  | 1 => .int
  | 2 => .int
  | 3 => .array .int
  | 4 => .array .int
  | 5 => .boolean
  | 6 => .boolean
  | 7 => .int
  | 8 => .array .int
  | 9 => .array .int
  | 10 => .array .int
  | 11 => .int
  | 12 => .array .int
  | 13 => .int
  | 14 => .int
  | 15 => .int
  | 16 => .int
  | 17 => .array .int
  | 18 => .boolean
  | 19 => .int
  | 20 => .array .long
  | 21 => .array .int
  | 22 => .array .int
  | 23 => .array .int
  | 24 => .array .int
  | 25 => .array .int
  | 26 => .int
  | 27 => .array .int
  | 28 => .array .int
  | 29 => .array .boolean
  | 30 => .array .int
  | 31 => .array .int
  | _ => .long
abbrev wsX80 : List Cond := u_ws RX8 TX8 33
theorem nmX8 : ∀ a, a < 33 → ∀ b, b < 33 → a ≠ b → (TX8 a).2.1 ≠ (TX8 b).2.1 := by decide +kernel
theorem tyX8_ok : ∀ k, k < 33 → parseFieldDescriptor (TX8 k).2.2.1 = some (tyX8 k) := by decide +kernel
abbrev cX8_init : ByteArray := prog_10_method_1_code
def yX8_init : MethodName := ⟨RX8, "<init>", "()V"⟩
abbrev cX8_thrown : ByteArray := prog_10_method_2_code
def yX8_thrown : MethodName := ⟨RX8, "thrown", "()I"⟩
abbrev cX8_within : ByteArray := prog_10_method_3_code
def yX8_within : MethodName := ⟨RX8, "within", "(III)Z"⟩
abbrev cX8_apart : ByteArray := prog_10_method_4_code
def yX8_apart : MethodName := ⟨RX8, "apart", "(II)I"⟩
abbrev cX8_greater : ByteArray := prog_10_method_5_code
def yX8_greater : MethodName := ⟨RX8, "greater", "(II)I"⟩
abbrev cX8_pixels : ByteArray := prog_10_method_6_code
def yX8_pixels : MethodName := ⟨RX8, "pixels", "()I"⟩
abbrev cX8_isPixel : ByteArray := prog_10_method_7_code
def yX8_isPixel : MethodName := ⟨RX8, "isPixel", "(I)Z"⟩
abbrev cX8_has : ByteArray := prog_10_method_8_code
def yX8_has : MethodName := ⟨RX8, "has", "(JI)Z"⟩
abbrev cX8_rankOf : ByteArray := prog_10_method_9_code
def yX8_rankOf : MethodName := ⟨RX8, "rankOf", "(I)I"⟩
abbrev cX8_all : ByteArray := prog_10_method_10_code
def yX8_all : MethodName := ⟨RX8, "all", "()J"⟩
abbrev cX8_copySaved : ByteArray := prog_10_method_11_code
def yX8_copySaved : MethodName := ⟨RX8, "copySaved", "(II)V"⟩
abbrev cX8_save : ByteArray := prog_10_method_12_code
def yX8_save : MethodName := ⟨RX8, "save", "()V"⟩
abbrev cX8_undo : ByteArray := prog_10_method_13_code
def yX8_undo : MethodName := ⟨RX8, "undo", "()I"⟩
abbrev cX8_clear : ByteArray := prog_10_method_14_code
def yX8_clear : MethodName := ⟨RX8, "clear", "(II)V"⟩
abbrev cX8_begin : ByteArray := prog_10_method_15_code
def yX8_begin : MethodName := ⟨RX8, "begin", "(II)I"⟩
abbrev cX8_setLevel : ByteArray := prog_10_method_16_code
def yX8_setLevel : MethodName := ⟨RX8, "setLevel", "(II)I"⟩
abbrev cX8_isBetween : ByteArray := prog_10_method_17_code
def yX8_isBetween : MethodName := ⟨RX8, "isBetween", "(III)Z"⟩
abbrev cX8_fill : ByteArray := prog_10_method_18_code
def yX8_fill : MethodName := ⟨RX8, "fill", "(III)I"⟩
abbrev cX8_complement : ByteArray := prog_10_method_19_code
def yX8_complement : MethodName := ⟨RX8, "complement", "()I"⟩
abbrev cX8_setMarker : ByteArray := prog_10_method_20_code
def yX8_setMarker : MethodName := ⟨RX8, "setMarker", "(II)I"⟩
abbrev cX8_markAll : ByteArray := prog_10_method_21_code
def yX8_markAll : MethodName := ⟨RX8, "markAll", "()I"⟩
abbrev cX8_level : ByteArray := prog_10_method_22_code
def yX8_level : MethodName := ⟨RX8, "level", "(I)I"⟩
abbrev cX8_marker : ByteArray := prog_10_method_23_code
def yX8_marker : MethodName := ⟨RX8, "marker", "(I)I"⟩
abbrev cX8_difference : ByteArray := prog_10_method_24_code
def yX8_difference : MethodName := ⟨RX8, "difference", "()I"⟩
abbrev cX8_setDark : ByteArray := prog_10_method_25_code
def yX8_setDark : MethodName := ⟨RX8, "setDark", "(Z)Z"⟩
abbrev cX8_setEight : ByteArray := prog_10_method_26_code
def yX8_setEight : MethodName := ⟨RX8, "setEight", "(Z)Z"⟩
abbrev cX8_append : ByteArray := prog_10_method_27_code
def yX8_append : MethodName := ⟨RX8, "append", "(I)I"⟩
abbrev cX8_clearInput : ByteArray := prog_10_method_28_code
def yX8_clearInput : MethodName := ⟨RX8, "clearInput", "()I"⟩
abbrev cX8_levelBy : ByteArray := prog_10_method_29_code
def yX8_levelBy : MethodName := ⟨RX8, "levelBy", "(I)I"⟩
abbrev cX8_takes : ByteArray := prog_10_method_30_code
def yX8_takes : MethodName := ⟨RX8, "takes", "(I)Z"⟩
abbrev cX8_rightLength : ByteArray := prog_10_method_31_code
def yX8_rightLength : MethodName := ⟨RX8, "rightLength", "()I"⟩
abbrev cX8_firstError : ByteArray := prog_10_method_32_code
def yX8_firstError : MethodName := ⟨RX8, "firstError", "()I"⟩
abbrev cX8_load : ByteArray := prog_10_method_33_code
def yX8_load : MethodName := ⟨RX8, "load", "()I"⟩
abbrev cX8_beside : ByteArray := prog_10_method_34_code
def yX8_beside : MethodName := ⟨RX8, "beside", "(IZ)J"⟩
abbrev cX8_spread : ByteArray := prog_10_method_35_code
def yX8_spread : MethodName := ⟨RX8, "spread", "(IJZ)J"⟩
abbrev cX8_ofRank : ByteArray := prog_10_method_36_code
def yX8_ofRank : MethodName := ⟨RX8, "ofRank", "(I)J"⟩
abbrev cX8_count1 : ByteArray := prog_10_method_37_code
def yX8_count1 : MethodName := ⟨RX8, "count1", "(J)I"⟩
abbrev cX8_isBelow : ByteArray := prog_10_method_38_code
def yX8_isBelow : MethodName := ⟨RX8, "isBelow", "(II)Z"⟩
abbrev cX8_layTree : ByteArray := prog_10_method_39_code
def yX8_layTree : MethodName := ⟨RX8, "layTree", "()V"⟩
abbrev cX8_layRank : ByteArray := prog_10_method_40_code
def yX8_layRank : MethodName := ⟨RX8, "layRank", "(IJJ)V"⟩
abbrev cX8_isLeaf : ByteArray := prog_10_method_41_code
def yX8_isLeaf : MethodName := ⟨RX8, "isLeaf", "(I)Z"⟩
abbrev cX8_isHigher : ByteArray := prog_10_method_42_code
def yX8_isHigher : MethodName := ⟨RX8, "isHigher", "(II)Z"⟩
abbrev cX8_prominenceOf : ByteArray := prog_10_method_43_code
def yX8_prominenceOf : MethodName := ⟨RX8, "prominenceOf", "(I)I"⟩
abbrev cX8_holdsHigher : ByteArray := prog_10_method_44_code
def yX8_holdsHigher : MethodName := ⟨RX8, "holdsHigher", "(II)Z"⟩
abbrev cX8_layLeaves : ByteArray := prog_10_method_45_code
def yX8_layLeaves : MethodName := ⟨RX8, "layLeaves", "()V"⟩
abbrev cX8_depthOf : ByteArray := prog_10_method_46_code
def yX8_depthOf : MethodName := ⟨RX8, "depthOf", "(I)I"⟩
abbrev cX8_deepest : ByteArray := prog_10_method_47_code
def yX8_deepest : MethodName := ⟨RX8, "deepest", "()I"⟩
abbrev cX8_differentLevels : ByteArray := prog_10_method_48_code
def yX8_differentLevels : MethodName := ⟨RX8, "differentLevels", "()I"⟩
abbrev cX8_sumOfLevels : ByteArray := prog_10_method_49_code
def yX8_sumOfLevels : MethodName := ⟨RX8, "sumOfLevels", "()I"⟩
abbrev cX8_countOf : ByteArray := prog_10_method_50_code
def yX8_countOf : MethodName := ⟨RX8, "countOf", "(I)I"⟩
abbrev cX8_count : ByteArray := prog_10_method_51_code
def yX8_count : MethodName := ⟨RX8, "count", "(I)I"⟩
abbrev cX8_nodeOf : ByteArray := prog_10_method_52_code
def yX8_nodeOf : MethodName := ⟨RX8, "nodeOf", "(I)I"⟩
abbrev cX8_isNode : ByteArray := prog_10_method_53_code
def yX8_isNode : MethodName := ⟨RX8, "isNode", "(I)Z"⟩
abbrev cX8_own : ByteArray := prog_10_method_54_code
def yX8_own : MethodName := ⟨RX8, "own", "(I)I"⟩
abbrev cX8_heightOf : ByteArray := prog_10_method_55_code
def yX8_heightOf : MethodName := ⟨RX8, "heightOf", "(I)I"⟩
abbrev cX8_sumOfRanks : ByteArray := prog_10_method_56_code
def yX8_sumOfRanks : MethodName := ⟨RX8, "sumOfRanks", "(I)I"⟩
abbrev cX8_extent : ByteArray := prog_10_method_57_code
def yX8_extent : MethodName := ⟨RX8, "extent", "(IZ)I"⟩
abbrev cX8_perimeter : ByteArray := prog_10_method_58_code
def yX8_perimeter : MethodName := ⟨RX8, "perimeter", "(I)I"⟩
abbrev cX8_rim : ByteArray := prog_10_method_59_code
def yX8_rim : MethodName := ⟨RX8, "rim", "()J"⟩
abbrev cX8_holes : ByteArray := prog_10_method_60_code
def yX8_holes : MethodName := ⟨RX8, "holes", "(I)I"⟩
abbrev cX8_bestProminence : ByteArray := prog_10_method_61_code
def yX8_bestProminence : MethodName := ⟨RX8, "bestProminence", "(I)I"⟩
abbrev cX8_attributeOf : ByteArray := prog_10_method_62_code
def yX8_attributeOf : MethodName := ⟨RX8, "attributeOf", "(II)I"⟩
abbrev cX8_attribute : ByteArray := prog_10_method_63_code
def yX8_attribute : MethodName := ⟨RX8, "attribute", "(II)I"⟩
abbrev cX8_meanRank : ByteArray := prog_10_method_64_code
def yX8_meanRank : MethodName := ⟨RX8, "meanRank", "(I)D"⟩
abbrev cX8_contains : ByteArray := prog_10_method_65_code
def yX8_contains : MethodName := ⟨RX8, "contains", "(II)Z"⟩
abbrev cX8_child : ByteArray := prog_10_method_66_code
def yX8_child : MethodName := ⟨RX8, "child", "(II)I"⟩
abbrev cX8_leaf : ByteArray := prog_10_method_67_code
def yX8_leaf : MethodName := ⟨RX8, "leaf", "(I)I"⟩
abbrev cX8_prominence : ByteArray := prog_10_method_68_code
def yX8_prominence : MethodName := ⟨RX8, "prominence", "(I)I"⟩
abbrev cX8_componentOf : ByteArray := prog_10_method_69_code
def yX8_componentOf : MethodName := ⟨RX8, "componentOf", "(II)I"⟩
abbrev cX8_component : ByteArray := prog_10_method_70_code
def yX8_component : MethodName := ⟨RX8, "component", "(II)I"⟩
abbrev cX8_meet : ByteArray := prog_10_method_71_code
def yX8_meet : MethodName := ⟨RX8, "meet", "(II)I"⟩
abbrev cX8_distance : ByteArray := prog_10_method_72_code
def yX8_distance : MethodName := ⟨RX8, "distance", "(II)I"⟩
abbrev cX8_isFilter : ByteArray := prog_10_method_73_code
def yX8_isFilter : MethodName := ⟨RX8, "isFilter", "(III)Z"⟩
abbrev cX8_layValues : ByteArray := prog_10_method_74_code
def yX8_layValues : MethodName := ⟨RX8, "layValues", "(I)V"⟩
abbrev cX8_remainsBy : ByteArray := prog_10_method_75_code
def yX8_remainsBy : MethodName := ⟨RX8, "remainsBy", "(III)Z"⟩
abbrev cX8_layRemains : ByteArray := prog_10_method_76_code
def yX8_layRemains : MethodName := ⟨RX8, "layRemains", "(II)V"⟩
abbrev cX8_verdict : ByteArray := prog_10_method_77_code
def yX8_verdict : MethodName := ⟨RX8, "verdict", "(IIII)I"⟩
abbrev cX8_newRank : ByteArray := prog_10_method_78_code
def yX8_newRank : MethodName := ⟨RX8, "newRank", "(IZ)I"⟩
abbrev cX8_lossNow : ByteArray := prog_10_method_79_code
def yX8_lossNow : MethodName := ⟨RX8, "lossNow", "(Z)I"⟩
abbrev cX8_filtered : ByteArray := prog_10_method_80_code
def yX8_filtered : MethodName := ⟨RX8, "filtered", "(IIII)I"⟩
abbrev cX8_lossBy : ByteArray := prog_10_method_81_code
def yX8_lossBy : MethodName := ⟨RX8, "lossBy", "(III)I"⟩
abbrev cX8_loss : ByteArray := prog_10_method_82_code
def yX8_loss : MethodName := ⟨RX8, "loss", "(III)I"⟩
abbrev cX8_takeMade : ByteArray := prog_10_method_83_code
def yX8_takeMade : MethodName := ⟨RX8, "takeMade", "()I"⟩
abbrev cX8_takeRemains : ByteArray := prog_10_method_84_code
def yX8_takeRemains : MethodName := ⟨RX8, "takeRemains", "(Z)I"⟩
abbrev cX8_filter : ByteArray := prog_10_method_85_code
def yX8_filter : MethodName := ⟨RX8, "filter", "(III)I"⟩
abbrev cX8_threshold : ByteArray := prog_10_method_86_code
def yX8_threshold : MethodName := ⟨RX8, "threshold", "(II)I"⟩
abbrev cX8_reconstructed : ByteArray := prog_10_method_87_code
def yX8_reconstructed : MethodName := ⟨RX8, "reconstructed", "(I)I"⟩
abbrev cX8_takeReconstructed : ByteArray := prog_10_method_88_code
def yX8_takeReconstructed : MethodName := ⟨RX8, "takeReconstructed", "()I"⟩
abbrev cX8_reconstruct : ByteArray := prog_10_method_89_code
def yX8_reconstruct : MethodName := ⟨RX8, "reconstruct", "()I"⟩
abbrev cX8_suppress : ByteArray := prog_10_method_90_code
def yX8_suppress : MethodName := ⟨RX8, "suppress", "(I)I"⟩
abbrev cX8_keepPeaks : ByteArray := prog_10_method_91_code
def yX8_keepPeaks : MethodName := ⟨RX8, "keepPeaks", "(I)I"⟩
abbrev cX8_ifLevel : ByteArray := prog_10_method_92_code
def yX8_ifLevel : MethodName := ⟨RX8, "ifLevel", "(III)I"⟩
abbrev cX8_mix : ByteArray := prog_10_method_93_code
def yX8_mix : MethodName := ⟨RX8, "mix", "(J)V"⟩
abbrev cX8_digest : ByteArray := prog_10_method_94_code
def yX8_digest : MethodName := ⟨RX8, "digest", "()J"⟩
def RJx145de : String := "java/io/Serializable"
def RJ6 : String := "java/lang/Integer"
abbrev cJ6_bitCount_0f7a4 : ByteArray := prog_15_method_49_code
def yJ6_bitCount_0f7a4 : MethodName := ⟨RJ6, "bitCount", "(I)I"⟩
def RJ13 : String := "java/lang/Long"
abbrev cJ13_bitCount_95d88 : ByteArray := prog_16_method_50_code
def yJ13_bitCount_95d88 : MethodName := ⟨RJ13, "bitCount", "(J)I"⟩
def RJ9 : String := "java/lang/Math"
abbrev cJ9_abs_0f7a4 : ByteArray := prog_17_method_59_code
def yJ9_abs_0f7a4 : MethodName := ⟨RJ9, "abs", "(I)I"⟩
abbrev cJ9_max_7cf53 : ByteArray := prog_17_method_65_code
def yJ9_max_7cf53 : MethodName := ⟨RJ9, "max", "(II)I"⟩
abbrev cJ9_min_7cf53 : ByteArray := prog_17_method_69_code
def yJ9_min_7cf53 : MethodName := ⟨RJ9, "min", "(II)I"⟩
def RJ0 : String := "java/lang/String"
def RJ10 : String := "java/lang/System"
def RJ7 : String := "java/util/Arrays"
abbrev cJ7_fill_d0a16 : ByteArray := prog_22_method_101_code
def yJ7_fill_d0a16 : MethodName := ⟨RJ7, "fill", "([JJ)V"⟩
abbrev cJ7_fill_53178 : ByteArray := prog_22_method_103_code
def yJ7_fill_53178 : MethodName := ⟨RJ7, "fill", "([II)V"⟩
abbrev cJ7_fill_49daa : ByteArray := prog_22_method_111_code
def yJ7_fill_49daa : MethodName := ⟨RJ7, "fill", "([ZZ)V"⟩
def RL : String := "ComponentTreeLaw"
abbrev cL_begin : ByteArray := method_3_code
def yL_begin : MethodName := ⟨RL, "begin", "(LComponentTree;II[J)I"⟩
abbrev cL_setLevel : ByteArray := method_4_code
def yL_setLevel : MethodName := ⟨RL, "setLevel", "(LComponentTree;II[J)I"⟩
abbrev cL_fill : ByteArray := method_5_code
def yL_fill : MethodName := ⟨RL, "fill", "(LComponentTree;III[J)I"⟩
abbrev cL_setMarker : ByteArray := method_6_code
def yL_setMarker : MethodName := ⟨RL, "setMarker", "(LComponentTree;II[J)I"⟩
abbrev cL_level : ByteArray := method_7_code
def yL_level : MethodName := ⟨RL, "level", "(LComponentTree;I[J)I"⟩
abbrev cL_marker : ByteArray := method_8_code
def yL_marker : MethodName := ⟨RL, "marker", "(LComponentTree;I[J)I"⟩
abbrev cL_undo : ByteArray := method_9_code
def yL_undo : MethodName := ⟨RL, "undo", "(LComponentTree;[J)I"⟩
abbrev cL_append : ByteArray := method_10_code
def yL_append : MethodName := ⟨RL, "append", "(LComponentTree;I[J)I"⟩
abbrev cL_load : ByteArray := method_11_code
def yL_load : MethodName := ⟨RL, "load", "(LComponentTree;[J)I"⟩
abbrev cL_count : ByteArray := method_12_code
def yL_count : MethodName := ⟨RL, "count", "(LComponentTree;I[J)I"⟩
abbrev cL_nodeOf : ByteArray := method_13_code
def yL_nodeOf : MethodName := ⟨RL, "nodeOf", "(LComponentTree;I[J)I"⟩
abbrev cL_attribute : ByteArray := method_14_code
def yL_attribute : MethodName := ⟨RL, "attribute", "(LComponentTree;II[J)I"⟩
abbrev cL_meanRank : ByteArray := method_15_code
def yL_meanRank : MethodName := ⟨RL, "meanRank", "(LComponentTree;I[D)I"⟩
abbrev cL_contains : ByteArray := method_16_code
def yL_contains : MethodName := ⟨RL, "contains", "(LComponentTree;II[J)I"⟩
abbrev cL_child : ByteArray := method_17_code
def yL_child : MethodName := ⟨RL, "child", "(LComponentTree;II[J)I"⟩
abbrev cL_leaf : ByteArray := method_18_code
def yL_leaf : MethodName := ⟨RL, "leaf", "(LComponentTree;I[J)I"⟩
abbrev cL_prominence : ByteArray := method_19_code
def yL_prominence : MethodName := ⟨RL, "prominence", "(LComponentTree;I[J)I"⟩
abbrev cL_component : ByteArray := method_20_code
def yL_component : MethodName := ⟨RL, "component", "(LComponentTree;II[J)I"⟩
abbrev cL_meet : ByteArray := method_21_code
def yL_meet : MethodName := ⟨RL, "meet", "(LComponentTree;II[J)I"⟩
abbrev cL_distance : ByteArray := method_22_code
def yL_distance : MethodName := ⟨RL, "distance", "(LComponentTree;II[J)I"⟩
abbrev cL_verdict : ByteArray := method_23_code
def yL_verdict : MethodName := ⟨RL, "verdict", "(LComponentTree;IIII[J)I"⟩
abbrev cL_filtered : ByteArray := method_24_code
def yL_filtered : MethodName := ⟨RL, "filtered", "(LComponentTree;IIII[J)I"⟩
abbrev cL_loss : ByteArray := method_25_code
def yL_loss : MethodName := ⟨RL, "loss", "(LComponentTree;III[J)I"⟩
abbrev cL_filter : ByteArray := method_26_code
def yL_filter : MethodName := ⟨RL, "filter", "(LComponentTree;III[J)I"⟩
abbrev cL_threshold : ByteArray := method_27_code
def yL_threshold : MethodName := ⟨RL, "threshold", "(LComponentTree;II[J)I"⟩
abbrev cL_suppress : ByteArray := method_28_code
def yL_suppress : MethodName := ⟨RL, "suppress", "(LComponentTree;I[J)I"⟩
abbrev cL_keepPeaks : ByteArray := method_29_code
def yL_keepPeaks : MethodName := ⟨RL, "keepPeaks", "(LComponentTree;I[J)I"⟩
abbrev cL_ifLevel : ByteArray := method_30_code
def yL_ifLevel : MethodName := ⟨RL, "ifLevel", "(LComponentTree;III[J)I"⟩
abbrev cL_law : ByteArray := code
def yL_law : MethodName := ⟨RL, "law", "([I)Z"⟩
abbrev vwCl : List vw_C := [(RX0, TX0, 2), (RX1, TX1, 7), (RX2, TX2, 3), (RX3, TX3, 5), (RX4, TX4, 4), (RX5, TX5, 13), (RX6, TX6, 4), (RX7, TX7, 12), (RX8, TX8, 33)]
theorem inX0 : ∀ w ∈ wsX00, w ∈ lw_tbl := by decide +kernel
theorem inX1 : ∀ w ∈ wsX10, w ∈ lw_tbl := by decide +kernel
theorem inX2 : ∀ w ∈ wsX20, w ∈ lw_tbl := by decide +kernel
theorem inX3 : ∀ w ∈ wsX30, w ∈ lw_tbl := by decide +kernel
theorem inX4 : ∀ w ∈ wsX40, w ∈ lw_tbl := by decide +kernel
theorem inX5 : ∀ w ∈ wsX50, w ∈ lw_tbl := by decide +kernel
theorem inX6 : ∀ w ∈ wsX60, w ∈ lw_tbl := by decide +kernel
theorem inX7 : ∀ w ∈ wsX70, w ∈ lw_tbl := by decide +kernel
theorem inX8 : ∀ w ∈ wsX80, w ∈ lw_tbl := by decide +kernel
end
section
/-! CORE, 1: worlds by index. A cell has a number; its address is 'ad' of it; what it holds stands in three functions (ints, longs, doubles) and a graph (kinds, lengths, references). -/
abbrev xGC : Type := Nat × Nat × (Nat → Option Nat)
abbrev xG : Type := Nat → xGC
abbrev xA : Type := Nat → Nat → Int32
abbrev xB : Type := Nat → Nat → Int64
abbrev xD : Type := Nat → Nat → UInt64
abbrev xLV : Type := List (Nat × Value)
def xtr (ad : Nat → Nat) : Value → Value
  | .ref k => .ref (ad k)
  | v => v
theorem xtr_cat (ad : Nat → Nat) (v : Value) : (xtr ad v).category = v.category := by cases v <;> rfl
/-- kinds of the fields of a class by its number in vwCl: 0 int, 1 boolean, 2 long, 3 reference -/
def xfk : Nat → List Nat
  | 0 => [3, 3]
  | 1 => [0, 0, 0, 2, 2, 2, 2]
  | 2 => [3, 0, 0]
  | 3 => [3, 0, 0, 0, 0]
  | 4 => [3, 3, 3, 3]
  | 5 => [3, 1, 0, 0, 0, 3, 3, 3, 3, 3, 3, 3, 3]
  | 6 => [0, 0, 3, 3]
  | 7 => [3, 3, 3, 3, 3, 3, 3, 3, 3, 1, 1, 1]
  | 8 => [0, 0, 0, 3, 3, 1, 1, 0, 3, 3, 3, 0, 3, 0, 0, 0, 0, 3, 1, 0, 3, 3, 3, 3, 3, 3, 0, 3, 3, 3, 3, 3, 2]
  | _ => []
def xfv (ad : Nat → Nat) (a : Nat → Int32) (b : Nat → Int64) (r : Nat → Option Nat) (j t : Nat) : Value := match t with
  | 2 => .long (b j)
  | 3 => va_rf ((r j).map ad)
  | _ => .int (a j)
def xfl (ad : Nat → Nat) (a : Nat → Int32) (b : Nat → Int64) (r : Nat → Option Nat) (c : Nat) : List Value := (xfk c).mapIdx (xfv ad a b r)
/-- kinds of cells: 1 int[], 2 long[], 3 boolean[], 4 double[], 5 int[][], 6 Picture[], c + 7 an object of class c -/
def xent (ad : Nat → Nat) (cT : Nat → ClassId) (g : xGC) (a : Nat → Int32) (b : Nat → Int64) (d : Nat → UInt64) : va_E := match g.1 with
  | 1 => .inl (cT 0, g.2.1, .inl a)
  | 2 => .inl (cT 1, g.2.1, .inr (.inl b))
  | 3 => .inl (cT 2, g.2.1, .inl a)
  | 4 => .inl (cT 3, g.2.1, .inr (.inr (.inr (.inl d))))
  | 5 => .inl (cT 4, g.2.1, .inr (.inr (.inr (.inr (fun i => (g.2.2 i).map ad)))))
  | 6 => .inl (cT 5, g.2.1, .inr (.inr (.inr (.inr (fun i => (g.2.2 i).map ad)))))
  | c => .inr (c - 7, xfl ad a b g.2.2 (c - 7))
def xwl (ad : Nat → Nat) (cT : Nat → ClassId) (N : Nat) (G : xG) (A : xA) (B : xB) (D : xD) : va_W := (List.range N).map fun k => (ad k, xent ad cT (G k) (A k) (B k) (D k))
abbrev xty (cT : Nat → ClassId) : List (ClassId × FieldType) := [(cT 0, .int), (cT 1, .long), (cT 2, .boolean), (cT 3, .double), (cT 4, .array .int), (cT 5, .object "ComponentTree$Picture")]
theorem xwl_get {ad : Nat → Nat} {cT : Nat → ClassId} {N : Nat} {G : xG} {A : xA} {B : xB} {D : xD} {k : Nat} (h : k < N) : (xwl ad cT N G A B D)[k]? = some (ad k, xent ad cT (G k) (A k) (B k) (D k)) := by
  simp [xwl, List.getElem?_range h]
theorem xwl_len (ad : Nat → Nat) (cT : Nat → ClassId) (N : Nat) (G : xG) (A : xA) (B : xB) (D : xD) : (xwl ad cT N G A B D).length = N := by simp [xwl]
theorem xwl_some {ad : Nat → Nat} {cT : Nat → ClassId} {N : Nat} {G : xG} {A : xA} {B : xB} {D : xD} {k : Nat} {q : Nat × va_E} (h : (xwl ad cT N G A B D)[k]? = some q) : k < N ∧ q = (ad k, xent ad cT (G k) (A k) (B k) (D k)) := by
  have h1 : k < N := by have := (List.getElem?_eq_some_iff.mp h).1; rwa [xwl_len] at this
  rw [xwl_get h1] at h
  exact ⟨h1, (Option.some.inj h).symm⟩
theorem xwl_set {ad : Nat → Nat} {cT : Nat → ClassId} {N : Nat} {G G' : xG} {A A' : xA} {B B' : xB} {D D' : xD} {k : Nat} {e : va_E} (h : k < N) (ho : ∀ j, j ≠ k → G' j = G j ∧ A' j = A j ∧ B' j = B j ∧ D' j = D j) (he : e = xent ad cT (G' k) (A' k) (B' k) (D' k)) : (xwl ad cT N G A B D).set k (ad k, e) = xwl ad cT N G' A' B' D' := by
  apply List.ext_getElem?
  intro j
  by_cases hj : j < N
  · rw [xwl_get hj]
    by_cases e1 : j = k
    · subst e1
      rw [List.getElem?_set_self (by rw [xwl_len]; exact hj), he]
    · rw [List.getElem?_set_ne (Ne.symm e1), xwl_get hj]
      obtain ⟨h1, h2, h3, h4⟩ := ho j e1
      rw [h1, h2, h3, h4]
  · rw [List.getElem?_eq_none (by rw [List.length_set, xwl_len]; omega), List.getElem?_eq_none (by rw [xwl_len]; omega)]
/-- the addresses are apart, and of a kind -/
def xdom (As : Nat → Prop) (ad : Nat → Nat) (N : Nat) : Prop := (∀ i j, i < N → j < N → ad i = ad j → i = j) ∧ ∀ k, k < N → As (ad k)
theorem xdom_D {As : Nat → Prop} {ad : Nat → Nat} {cT : Nat → ClassId} {N : Nat} {G : xG} {A : xA} {B : xB} {D : xD} (h : xdom As ad N) : va_D As (xwl ad cT N G A B D) := by
  refine ⟨fun i j p q hi hj hpq => ?_, fun k q hk => ?_⟩
  · obtain ⟨l1, rfl⟩ := xwl_some hi
    obtain ⟨l2, rfl⟩ := xwl_some hj
    exact h.1 i j l1 l2 hpq
  · obtain ⟨l1, rfl⟩ := xwl_some hk
    exact h.2 k l1
theorem xdom_of {As : Nat → Prop} {ad : Nat → Nat} {cT : Nat → ClassId} {N : Nat} {G : xG} {A : xA} {B : xB} {D : xD} (h : va_D As (xwl ad cT N G A B D)) : xdom As ad N :=
  ⟨fun i j l1 l2 e => h.1 i j _ _ (xwl_get l1) (xwl_get l2) e, fun k l1 => h.2 k _ (xwl_get l1)⟩
theorem xfl_get {ad : Nat → Nat} {a : Nat → Int32} {b : Nat → Int64} {r : Nat → Option Nat} {c j t : Nat} (h : (xfk c)[j]? = some t) : (xfl ad a b r c)[j]? = some (xfv ad a b r j t) := by
  simp [xfl, List.getElem?_mapIdx, h]
theorem xfl_set {ad : Nat → Nat} {a a' : Nat → Int32} {b b' : Nat → Int64} {r r' : Nat → Option Nat} {c j t : Nat} {v : Value} (h : (xfk c)[j]? = some t) (hv : v = xfv ad a' b' r' j t) (ho : ∀ i, i ≠ j → a' i = a i ∧ b' i = b i ∧ r' i = r i) : (xfl ad a b r c).set j v = xfl ad a' b' r' c := by
  have hl := (List.getElem?_eq_some_iff.mp h).1
  apply List.ext_getElem?
  intro i
  by_cases e1 : i = j
  · subst e1
    rw [List.getElem?_set_self (by simp [xfl]; exact hl), xfl_get h, hv]
  · rw [List.getElem?_set_ne (Ne.symm e1)]
    obtain ⟨h1, h2, h3⟩ := ho i e1
    simp only [xfl, List.getElem?_mapIdx]
    cases (xfk c)[i]? with
    | none => rfl
    | some t' => simp only [Option.map_some, xfv, h1, h2, h3]
/-! CORE, 2: what moves along with the states: words that the kit's lists can't carry -/
def xnwOK : Cond → Bool
  | .methodLinkNest .. | .castable .. | .declares _ => true
  | _ => false
abbrev xnw : List Cond := lw_tbl.filter xnwOK
def xMov (U : State) : Prop := (∀ w ∈ xnw, va_Nw w U) ∧ (∃ a1, vk_R "ComponentTree" 286 "an argument is out of range" a1 U) ∧ (∃ a2, vk_R "ComponentTree" 279 "there is no such number" a2 U) ∧ ∃ a3, vk_R "ComponentTree" 291 "the state does not allow this call" a3 U
theorem xMov.warm {s U : State} (hW : s.WarmedH U.vm) (h : xMov s) : xMov U := by
  obtain ⟨h1, ⟨a1, h2⟩, ⟨a2, h3⟩, a3, h4⟩ := h
  refine ⟨fun w hw => ?_, ⟨a1, h2.warm hW⟩, ⟨a2, h3.warm hW⟩, a3, h4.warm hW⟩
  have hk := (List.mem_filter.mp hw).2
  have h0 := h1 w hw
  cases w <;> first | exact va_Nw.warmM hW h0 | exact va_Nw.warmC hW h0 | exact va_Nw.warmD hW h0 | (simp [xnwOK] at hk)
theorem xMov.same {s U : State} (hW : U.vm = s.vm) (h : xMov s) : xMov U := by
  obtain ⟨h1, ⟨a1, h2⟩, ⟨a2, h3⟩, a3, h4⟩ := h
  refine ⟨fun w hw => ?_, ⟨a1, h2.same hW⟩, ⟨a2, h3.same hW⟩, a3, h4.same hW⟩
  have hk := (List.mem_filter.mp hw).2
  have h0 := h1 w hw
  refine va_Nw.same ?_ hW.symm h0
  cases w <;> first | rfl | (simp [xnwOK] at hk)
def xZ (As : Nat → Prop) (U : State) (H : Heap) : Prop := vx_Zq Bundle.tN "UNASSIGNED_STACK" Bundle.steD As U H ∧ vx_Zq Bundle.tN "SUPPRESSED_SENTINEL" Bundle.listD As U H
/-- the words that a list carries -/
def xT : List Cond := lw_tbl.filter goodWord
theorem xT_good {ws : List Cond} (h : ∀ w ∈ ws, w ∈ xT) : GoodIn xT ws := fun w hw => ⟨h w hw, good_of_word (List.mem_filter.mp (h w hw)).2⟩
theorem xT_mem {w : Cond} (h1 : w ∈ lw_tbl) (h2 : goodWord w = true) : w ∈ xT := List.mem_filter.mpr ⟨h1, h2⟩
end
section
/-! CORE, 3: a method's data, where it stands, and the judgement 'from here it comes to a return with Q, or throws with QX' -/
abbrev xMI : Type := MethodName × ByteArray × Nat × Option FieldType × Room × List (Nat × Nat × Nat × Nat)
abbrev mY (M : xMI) : MethodName := M.1
abbrev mC (M : xMI) : ByteArray := M.2.1
abbrev mL (M : xMI) : Nat := M.2.2.1
abbrev mR (M : xMI) : Option FieldType := M.2.2.2.1
abbrev mO (M : xMI) : Room := M.2.2.2.2.1
abbrev mH (M : xMI) : List (Nat × Nat × Nat × Nat) := M.2.2.2.2.2
abbrev xQ : Type := Option Value → Nat → xG → xA → xB → xD → Prop
abbrev xQX : Type := String → Nat → xG → xA → xB → xD → Prop
def xS (M : xMI) (p : Program) (l : Launch) (s : State) (m : MethodId) (args : Array Value) (meth : Method) (c : Code) (Dg : va_G) (cT : Nat → ClassId) (As : Nat → Prop) : Prop :=
  p.tables.exec = Jvm.exec ∧ c.code = mC M ∧ c.maxLocals = mL M ∧ meth.sig.returnType = mR M ∧ meth.locks = false ∧ meth.name = (mY M).name ∧ s.vm.findClass (mY M).cls = some m.cls ∧ (∀ w ∈ xT, w.before args s = true) ∧ l.stackTraces = false ∧ c.exceptionTable.toList = tableOf (mH M) ∧ va_K Dg vwCl (xty cT) s ∧ xMov s ∧ xZ As s s.heap ∧ (∀ q, s.heap.size ≤ q → As q)
def xlv (ad : Nat → Nat) (lv : xLV) : xLV := lv.map fun q => (q.1, xtr ad q.2)
def xV (M : xMI) (s : State) (Dg : va_G) (cT : Nat → ClassId) (As : Nat → Prop) (ad0 ad : Nat → Nat) (H : Heap) (locs : List Loc) (ls : Array Slot) (lv : xLV) (N0 N : Nat) (G : xG) (A : xA) (B : xB) (D : xD) : Prop :=
  va_S As s.heap H locs ∧ va_P Dg vwCl (xwl ad cT N G A B D) H ∧ xdom As ad N ∧ (∀ k, (G k).1 ≠ 0 → k < N) ∧ (N0 ≤ N ∧ ∀ k, k < N0 ∨ N ≤ k → ad k = ad0 k) ∧ lv_has ls (mL M) (xlv ad lv)
/-- the instruction that gives r back -/
def xret (M : xMI) (pc : Nat) (r : Option Value) : Prop := match mR M, r with
  | none, none => decode (mC M) pc = .ok (.return_, 1)
  | some .int, some (.int _) => decode (mC M) pc = .ok (.ireturn, 1)
  | some .boolean, some (.int v) => decode (mC M) pc = .ok (.ireturn, 1) ∧ (v = 0 ∨ v = 1)
  | some .long, some (.long _) => decode (mC M) pc = .ok (.lreturn, 1)
  | some .double, some (.double _) => decode (mC M) pc = .ok (.dreturn, 1)
  | _, _ => False
def xKr (M : xMI) (N0 : Nat) (Q : xQ) (p : Program) (l : Launch) (e : Env) (s : State) (m : MethodId) (args : Array Value) (below : List Frame) (meth : Method) (c : Code) (Dg : va_G) (cT : Nat → ClassId) (As : Nat → Prop) (ad0 : Nat → Nat) (Z : State → Prop) : Prop :=
  ∀ (r : Option Value) (N : Nat) (G : xG) (A : xA) (B : xB) (D : xD) (ad : Nat → Nat) (H : Heap) (locs : List Loc) (ls : Array Slot) (pc cs sl : Nat), Q r N G A B D → xV M s Dg cT As ad0 ad H locs ls [] N0 N G A B D → cs ≤ (mO M).cells → sl ≤ (mO M).slots → xret M pc r →
    W p l e (mO M) s m args below meth c H locs cs sl Z (F0 m pc ls (r.toList.map (xtr ad)))
def xKx (M : xMI) (N0 : Nat) (QX : xQX) (p : Program) (l : Launch) (e : Env) (s : State) (m : MethodId) (args : Array Value) (below : List Frame) (meth : Method) (c : Code) (Dg : va_G) (cT : Nat → ClassId) (As : Nat → Prop) (ad0 : Nat → Nat) (Z : State → Prop) : Prop :=
  ∀ (E : String) (ce : Cell) (q : Addr) (N : Nat) (G : xG) (A : xA) (B : xB) (D : xD) (ad : Nat → Nat) (H : Heap) (locs : List Loc) (ls : Array Slot) (st : List Value) (pc cs sl : Nat), QX E N G A B D → xV M s Dg cT As ad0 ad H locs ls [] N0 N G A B D → cs ≤ (mO M).cells → sl ≤ (mO M).slots → (∀ x ∈ tableOf (mH M), covers x pc = false) → H[q]? = some ce → ce.vm = .none → s.vm.findClass E = some ce.cls →
    vx_W p l e (mO M) s m args below meth c H locs cs sl Z (F0 m pc ls st) q
def xgo (M : xMI) (N0 : Nat) (Q : xQ) (QX : xQX) (cs sl pc : Nat) (lv : xLV) (st : List Value) (N : Nat) (G : xG) (A : xA) (B : xB) (D : xD) : Prop :=
  ∀ (p : Program) (l : Launch) (e : Env) (s : State) (m : MethodId) (args : Array Value) (below : List Frame) (meth : Method) (c : Code) (Dg : va_G) (cT : Nat → ClassId) (As : Nat → Prop) (ad0 ad : Nat → Nat) (H : Heap) (locs : List Loc) (ls : Array Slot) (Z : State → Prop),
    xS M p l s m args meth c Dg cT As → xV M s Dg cT As ad0 ad H locs ls lv N0 N G A B D → xKr M N0 Q p l e s m args below meth c Dg cT As ad0 Z → xKx M N0 QX p l e s m args below meth c Dg cT As ad0 Z →
    W p l e (mO M) s m args below meth c H locs cs sl Z (F0 m pc ls (st.map (xtr ad)))
/-- a local variable by its number -/
def xlk : xLV → Nat → Option Value
  | [], _ => none
  | (j, v) :: l, i => if j = i then some v else xlk l i
theorem xlk_mem : ∀ {lv : xLV} {i : Nat} {v : Value}, xlk lv i = some v → (i, v) ∈ lv
  | [], _, _, h => by simp [xlk] at h
  | (j, w) :: l, i, v, h => by
    unfold xlk at h
    by_cases e : j = i
    · rw [if_pos e] at h
      cases h
      subst e
      exact List.mem_cons_self
    · rw [if_neg e] at h
      exact List.mem_cons_of_mem _ (xlk_mem h)
theorem xlv_at {ad : Nat → Nat} {ls : Array Slot} {n : Nat} {lv : xLV} {i : Nat} {v : Value} (h : lv_has ls n (xlv ad lv)) (hk : xlk lv i = some v) : ls[i]? = some (.val (xtr ad v)) :=
  h.2.2 (i, xtr ad v) (List.mem_map.mpr ⟨(i, v), xlk_mem hk, rfl⟩)
def xst1 (i : Nat) (v : Value) (lv : xLV) : xLV := (i, v) :: lv.filter (fun q => !(q.1 == i) && !(q.1 + 1 == i && q.2.category == 2))
def xst2 (i : Nat) (v : Value) (lv : xLV) : xLV := (i, v) :: lv.filter (fun q => !(q.1 == i) && (!(q.1 == i + 1) && !(q.1 + 1 == i && q.2.category == 2)))
theorem xlv_filter (ad : Nat → Nat) (f : Nat → Nat → Bool) (lv : xLV) : (xlv ad lv).filter (fun q => f q.1 q.2.category) = xlv ad (lv.filter (fun q => f q.1 q.2.category)) := by
  induction lv with
  | nil => rfl
  | cons a l ih =>
    simp only [xlv, List.map_cons, List.filter_cons, xtr_cat] at ih ⊢
    by_cases h : f a.1 a.2.category = true
    · rw [if_pos h, if_pos h, List.map_cons, ih]
    · rw [if_neg h, if_neg h, ih]
theorem xst1_eq (ad : Nat → Nat) (i : Nat) (v : Value) (lv : xLV) : (i, xtr ad v) :: (xlv ad lv).filter (fun q => !(q.1 == i) && !(q.1 + 1 == i && q.2.category == 2)) = xlv ad (xst1 i v lv) := by
  rw [xlv_filter ad (fun a b => !(a == i) && !(a + 1 == i && b == 2)) lv]; rfl
theorem xst2_eq (ad : Nat → Nat) (i : Nat) (v : Value) (lv : xLV) : (i, xtr ad v) :: (xlv ad lv).filter (fun q => !(q.1 == i) && (!(q.1 == i + 1) && !(q.1 + 1 == i && q.2.category == 2))) = xlv ad (xst2 i v lv) := by
  rw [xlv_filter ad (fun a b => !(a == i) && (!(a == i + 1) && !(a + 1 == i && b == 2))) lv]; rfl
/-- fewer locals, in another order -/
def xpick (lv : xLV) : List Nat → xLV
  | [] => []
  | i :: is => match xlk lv i with
    | some v => (i, v) :: xpick lv is
    | none => xpick lv is
theorem xpick_mem {lv : xLV} : ∀ {is : List Nat} {q : Nat × Value}, q ∈ xpick lv is → q ∈ lv
  | [], _, h => by simp [xpick] at h
  | i :: is, q, h => by
    unfold xpick at h
    cases hv : xlk lv i with
    | none => rw [hv] at h; exact xpick_mem h
    | some v =>
      rw [hv] at h
      rcases List.mem_cons.mp h with rfl | h
      · exact xlk_mem hv
      · exact xpick_mem h
theorem xlv_sub {ad : Nat → Nat} {ls : Array Slot} {n : Nat} {lv lv' : xLV} (h : lv_has ls n (xlv ad lv)) (hs : ∀ q, q ∈ lv' → q ∈ lv) : lv_has ls n (xlv ad lv') :=
  ⟨h.1, h.2.1, fun q hq => by
    obtain ⟨a, ha, rfl⟩ := List.mem_map.mp hq
    exact h.2.2 _ (List.mem_map.mpr ⟨a, hs a ha, rfl⟩)⟩
def updA (A : xA) (k j : Nat) (v : Int32) : xA := fun k' => if k' = k then upd (A k) j v else A k'
def updB (B : xB) (k j : Nat) (v : Int64) : xB := fun k' => if k' = k then vp_updL (B k) j v else B k'
def updD (D : xD) (k j : Nat) (v : UInt64) : xD := fun k' => if k' = k then vf_upd (D k) j v else D k'
theorem updA_s (A : xA) (k j : Nat) (v : Int32) : updA A k j v k = upd (A k) j v := if_pos rfl
theorem updB_s (A : xB) (k j : Nat) (v : Int64) : updB A k j v k = vp_updL (A k) j v := if_pos rfl
theorem updD_s (A : xD) (k j : Nat) (v : UInt64) : updD A k j v k = vf_upd (A k) j v := if_pos rfl
theorem updA_n (A : xA) {k i : Nat} (j : Nat) (v : Int32) (h : i ≠ k) : updA A k j v i = A i := if_neg h
theorem updB_n (A : xB) {k i : Nat} (j : Nat) (v : Int64) (h : i ≠ k) : updB A k j v i = A i := if_neg h
theorem updD_n (A : xD) {k i : Nat} (j : Nat) (v : UInt64) (h : i ≠ k) : updD A k j v i = A i := if_neg h
theorem xin (ci : Nat) {C : String} {T : u_T} {n : Nat} (h : vwCl[ci]? = some (C, T, n)) : ∀ w ∈ u_ws C T n, w ∈ xT := by
  have go : ∀ {R : String} {T : u_T} {n : Nat}, (∀ w ∈ u_ws R T n, w ∈ lw_tbl) → ∀ w ∈ u_ws R T n, w ∈ xT := by
    intro R T n h w hw
    refine xT_mem (h w hw) ?_
    obtain ⟨k, -, rfl⟩ := List.mem_map.mp hw
    unfold u_lay
    split <;> rfl
  match ci, h with
  | 0, h => cases h; exact go inX0
  | 1, h => cases h; exact go inX1
  | 2, h => cases h; exact go inX2
  | 3, h => cases h; exact go inX3
  | 4, h => cases h; exact go inX4
  | 5, h => cases h; exact go inX5
  | 6, h => cases h; exact go inX6
  | 7, h => cases h; exact go inX7
  | 8, h => cases h; exact go inX8
theorem xtyok (ci : Nat) {C : String} {T : u_T} {n : Nat} (h : vwCl[ci]? = some (C, T, n)) : ∃ ty0 : Nat → FieldType, (∀ k, k < n → parseFieldDescriptor (T k).2.2.1 = some (ty0 k)) ∧ ∀ a, a < n → ∀ b, b < n → a ≠ b → (T a).2.1 ≠ (T b).2.1 := by
  match ci, h with
  | 0, h => cases h; exact ⟨_, tyX0_ok, nmX0⟩
  | 1, h => cases h; exact ⟨_, tyX1_ok, nmX1⟩
  | 2, h => cases h; exact ⟨_, tyX2_ok, nmX2⟩
  | 3, h => cases h; exact ⟨_, tyX3_ok, nmX3⟩
  | 4, h => cases h; exact ⟨_, tyX4_ok, nmX4⟩
  | 5, h => cases h; exact ⟨_, tyX5_ok, nmX5⟩
  | 6, h => cases h; exact ⟨_, tyX6_ok, nmX6⟩
  | 7, h => cases h; exact ⟨_, tyX7_ok, nmX7⟩
  | 8, h => cases h; exact ⟨_, tyX8_ok, nmX8⟩
section XROWS
variable {M : xMI} {N0 : Nat} {Q : xQ} {QX : xQX} {cs sl pc : Nat} {lv : xLV} {st : List Value} {N : Nat} {G : xG} {A : xA} {B : xB} {D : xD}
theorem xgo_sub {lv' : xLV} (hs : ∀ q, q ∈ lv' → q ∈ lv) (k : xgo M N0 Q QX cs sl pc lv' st N G A B D) : xgo M N0 Q QX cs sl pc lv st N G A B D := by
  intro p l e s m args below meth c Dg cT As ad0 ad H locs ls Z hS hV hr he
  obtain ⟨v1, v2, v3, v4, v5, v6⟩ := hV
  exact k p l e s m args below meth c Dg cT As ad0 ad H locs ls Z hS ⟨v1, v2, v3, v4, v5, xlv_sub v6 hs⟩ hr he
theorem xgo_pick {lv' : xLV} (is : List Nat) (hs : xpick lv is = lv') (k : xgo M N0 Q QX cs sl pc lv' st N G A B D) : xgo M N0 Q QX cs sl pc lv st N G A B D :=
  xgo_sub (fun q hq => by rw [← hs] at hq; exact xpick_mem hq) k
theorem xi_iconst {n : Int} {v : Int32} (hd : decode (mC M) pc = .ok (.iconst n, 1)) (hv : Int32.ofInt n = v) (k : xgo M N0 Q QX cs sl (pc + 1) lv (.int v :: st) N G A B D) : xgo M N0 Q QX cs sl pc lv (st) N G A B D := by
  intro p l e s m args below meth c Dg cT As ad0 ad H locs ls Z hS hV hr he
  obtain ⟨hx, hb, hml, hrt, hlk, hnm, hown, hts, hst, htb, hK, hMv, hZ, hA⟩ := id hS
  exact lv_iconst hx hb hd hv (k p l e s m args below meth c Dg cT As ad0 ad H locs ls Z hS hV hr he)
theorem xi_bipush {n : Int} {v : Int32} (hd : decode (mC M) pc = .ok (.bipush n, 2)) (hv : (Int8.ofInt n).toInt32 = v) (k : xgo M N0 Q QX cs sl (pc + 2) lv (.int v :: st) N G A B D) : xgo M N0 Q QX cs sl pc lv (st) N G A B D := by
  intro p l e s m args below meth c Dg cT As ad0 ad H locs ls Z hS hV hr he
  obtain ⟨hx, hb, hml, hrt, hlk, hnm, hown, hts, hst, htb, hK, hMv, hZ, hA⟩ := id hS
  exact lv_bipush hx hb hd hv (k p l e s m args below meth c Dg cT As ad0 ad H locs ls Z hS hV hr he)
theorem xi_sipush {n : Int} {v : Int32} (hd : decode (mC M) pc = .ok (.sipush n, 3)) (hv : (Int16.ofInt n).toInt32 = v) (k : xgo M N0 Q QX cs sl (pc + 3) lv (.int v :: st) N G A B D) : xgo M N0 Q QX cs sl pc lv (st) N G A B D := by
  intro p l e s m args below meth c Dg cT As ad0 ad H locs ls Z hS hV hr he
  obtain ⟨hx, hb, hml, hrt, hlk, hnm, hown, hts, hst, htb, hK, hMv, hZ, hA⟩ := id hS
  exact lv_sipush hx hb hd hv (k p l e s m args below meth c Dg cT As ad0 ad H locs ls Z hS hV hr he)
theorem xi_lconst {n : Fin 2} {v : Int64} (hd : decode (mC M) pc = .ok (.lconst n, 1)) (hv : Int64.ofNat (n : Nat) = v) (k : xgo M N0 Q QX cs sl (pc + 1) lv (.long v :: st) N G A B D) : xgo M N0 Q QX cs sl pc lv (st) N G A B D := by
  intro p l e s m args below meth c Dg cT As ad0 ad H locs ls Z hS hV hr he
  obtain ⟨hx, hb, hml, hrt, hlk, hnm, hown, hts, hst, htb, hK, hMv, hZ, hA⟩ := id hS
  exact lv_lconst hx hb hd hv (k p l e s m args below meth c Dg cT As ad0 ad H locs ls Z hS hV hr he)
theorem xi_ldc_w {n : Nat} {v : Int32} (hd : decode (mC M) pc = .ok (.ldc_w n, 3)) (hv : Cond.constant (mY M).cls n v ∈ xT) (k : xgo M N0 Q QX cs sl (pc + 3) lv (.int v :: st) N G A B D) : xgo M N0 Q QX cs sl pc lv (st) N G A B D := by
  intro p l e s m args below meth c Dg cT As ad0 ad H locs ls Z hS hV hr he
  obtain ⟨hx, hb, hml, hrt, hlk, hnm, hown, hts, hst, htb, hK, hMv, hZ, hA⟩ := id hS
  exact lv_ldcw hx hb hown (hts _ hv) hd (k p l e s m args below meth c Dg cT As ad0 ad H locs ls Z hS hV hr he)
theorem xi_ldc2_w {n : Nat} {v : Int64} (hd : decode (mC M) pc = .ok (.ldc2_w n, 3)) (hv : Cond.constantLong (mY M).cls n v ∈ xT) (k : xgo M N0 Q QX cs sl (pc + 3) lv (.long v :: st) N G A B D) : xgo M N0 Q QX cs sl pc lv (st) N G A B D := by
  intro p l e s m args below meth c Dg cT As ad0 ad H locs ls Z hS hV hr he
  obtain ⟨hx, hb, hml, hrt, hlk, hnm, hown, hts, hst, htb, hK, hMv, hZ, hA⟩ := id hS
  exact lv_ldc2 hx hb hown (hts _ hv) hd (k p l e s m args below meth c Dg cT As ad0 ad H locs ls Z hS hV hr he)
theorem xi_iload_n {n : Fin 4} {i : Nat} {x : Int32} (hd : decode (mC M) pc = .ok (.iload_n n, 1)) (hi : (n : Nat) = i) (hl : xlk lv i = some (.int x)) (k : xgo M N0 Q QX cs sl (pc + 1) lv (.int x :: st) N G A B D) : xgo M N0 Q QX cs sl pc lv (st) N G A B D := by
  intro p l e s m args below meth c Dg cT As ad0 ad H locs ls Z hS hV hr he
  obtain ⟨hx, hb, hml, hrt, hlk, hnm, hown, hts, hst, htb, hK, hMv, hZ, hA⟩ := id hS
  exact lv_iload_n hx hb hd hi (xlv_at hV.2.2.2.2.2 hl) (k p l e s m args below meth c Dg cT As ad0 ad H locs ls Z hS hV hr he)
theorem xi_iload {i : Nat} {x : Int32} (hd : decode (mC M) pc = .ok (.iload i, 2)) (hl : xlk lv i = some (.int x)) (k : xgo M N0 Q QX cs sl (pc + 2) lv (.int x :: st) N G A B D) : xgo M N0 Q QX cs sl pc lv (st) N G A B D := by
  intro p l e s m args below meth c Dg cT As ad0 ad H locs ls Z hS hV hr he
  obtain ⟨hx, hb, hml, hrt, hlk, hnm, hown, hts, hst, htb, hK, hMv, hZ, hA⟩ := id hS
  exact lv_iload hx hb hd (xlv_at hV.2.2.2.2.2 hl) (k p l e s m args below meth c Dg cT As ad0 ad H locs ls Z hS hV hr he)
theorem xi_lload_n {n : Fin 4} {i : Nat} {x : Int64} (hd : decode (mC M) pc = .ok (.lload_n n, 1)) (hi : (n : Nat) = i) (hl : xlk lv i = some (.long x)) (k : xgo M N0 Q QX cs sl (pc + 1) lv (.long x :: st) N G A B D) : xgo M N0 Q QX cs sl pc lv (st) N G A B D := by
  intro p l e s m args below meth c Dg cT As ad0 ad H locs ls Z hS hV hr he
  obtain ⟨hx, hb, hml, hrt, hlk, hnm, hown, hts, hst, htb, hK, hMv, hZ, hA⟩ := id hS
  exact lv_lload_n hx hb hd hi (xlv_at hV.2.2.2.2.2 hl) (k p l e s m args below meth c Dg cT As ad0 ad H locs ls Z hS hV hr he)
theorem xi_lload {i : Nat} {x : Int64} (hd : decode (mC M) pc = .ok (.lload i, 2)) (hl : xlk lv i = some (.long x)) (k : xgo M N0 Q QX cs sl (pc + 2) lv (.long x :: st) N G A B D) : xgo M N0 Q QX cs sl pc lv (st) N G A B D := by
  intro p l e s m args below meth c Dg cT As ad0 ad H locs ls Z hS hV hr he
  obtain ⟨hx, hb, hml, hrt, hlk, hnm, hown, hts, hst, htb, hK, hMv, hZ, hA⟩ := id hS
  exact lv_lload hx hb hd (xlv_at hV.2.2.2.2.2 hl) (k p l e s m args below meth c Dg cT As ad0 ad H locs ls Z hS hV hr he)
theorem xi_dload_n {n : Fin 4} {i : Nat} {x : UInt64} (hd : decode (mC M) pc = .ok (.dload_n n, 1)) (hi : (n : Nat) = i) (hl : xlk lv i = some (.double x)) (k : xgo M N0 Q QX cs sl (pc + 1) lv (.double x :: st) N G A B D) : xgo M N0 Q QX cs sl pc lv (st) N G A B D := by
  intro p l e s m args below meth c Dg cT As ad0 ad H locs ls Z hS hV hr he
  obtain ⟨hx, hb, hml, hrt, hlk, hnm, hown, hts, hst, htb, hK, hMv, hZ, hA⟩ := id hS
  exact lv_dload_n hx hb hd hi (xlv_at hV.2.2.2.2.2 hl) (k p l e s m args below meth c Dg cT As ad0 ad H locs ls Z hS hV hr he)
theorem xi_dload {i : Nat} {x : UInt64} (hd : decode (mC M) pc = .ok (.dload i, 2)) (hl : xlk lv i = some (.double x)) (k : xgo M N0 Q QX cs sl (pc + 2) lv (.double x :: st) N G A B D) : xgo M N0 Q QX cs sl pc lv (st) N G A B D := by
  intro p l e s m args below meth c Dg cT As ad0 ad H locs ls Z hS hV hr he
  obtain ⟨hx, hb, hml, hrt, hlk, hnm, hown, hts, hst, htb, hK, hMv, hZ, hA⟩ := id hS
  exact lv_dload hx hb hd (xlv_at hV.2.2.2.2.2 hl) (k p l e s m args below meth c Dg cT As ad0 ad H locs ls Z hS hV hr he)
theorem xi_aload_n {n : Fin 4} {i : Nat} {x : Nat} (hd : decode (mC M) pc = .ok (.aload_n n, 1)) (hi : (n : Nat) = i) (hl : xlk lv i = some (.ref x)) (k : xgo M N0 Q QX cs sl (pc + 1) lv (.ref x :: st) N G A B D) : xgo M N0 Q QX cs sl pc lv (st) N G A B D := by
  intro p l e s m args below meth c Dg cT As ad0 ad H locs ls Z hS hV hr he
  obtain ⟨hx, hb, hml, hrt, hlk, hnm, hown, hts, hst, htb, hK, hMv, hZ, hA⟩ := id hS
  exact lv_aload_n hx hb hd hi (xlv_at hV.2.2.2.2.2 hl) (k p l e s m args below meth c Dg cT As ad0 ad H locs ls Z hS hV hr he)
theorem xi_aload {i : Nat} {x : Nat} (hd : decode (mC M) pc = .ok (.aload i, 2)) (hl : xlk lv i = some (.ref x)) (k : xgo M N0 Q QX cs sl (pc + 2) lv (.ref x :: st) N G A B D) : xgo M N0 Q QX cs sl pc lv (st) N G A B D := by
  intro p l e s m args below meth c Dg cT As ad0 ad H locs ls Z hS hV hr he
  obtain ⟨hx, hb, hml, hrt, hlk, hnm, hown, hts, hst, htb, hK, hMv, hZ, hA⟩ := id hS
  exact lv_aload hx hb hd (xlv_at hV.2.2.2.2.2 hl) (k p l e s m args below meth c Dg cT As ad0 ad H locs ls Z hS hV hr he)
theorem xi_istore_n {n : Fin 4} {i : Nat} {x : Int32} (hd : decode (mC M) pc = .ok (.istore_n n, 1)) (hi : (n : Nat) = i) (hn : i < mL M) (k : xgo M N0 Q QX cs sl (pc + 1) (xst1 i (Value.int x) lv) st N G A B D) : xgo M N0 Q QX cs sl pc lv (.int x :: st) N G A B D := by
  intro p l e s m args below meth c Dg cT As ad0 ad H locs ls Z hS hV hr he
  obtain ⟨hx, hb, hml, hrt, hlk, hnm, hown, hts, hst, htb, hK, hMv, hZ, hA⟩ := id hS
  obtain ⟨v1, v2, v3, v4, v5, v6⟩ := hV
  exact lv_istore_n hx hb hd hi v6 hn (xst1_eq ad i (Value.int x) lv) (fun ls' h' => k p l e s m args below meth c Dg cT As ad0 ad H locs ls' Z hS ⟨v1, v2, v3, v4, v5, h'⟩ hr he)
theorem xi_istore {i : Nat} {x : Int32} (hd : decode (mC M) pc = .ok (.istore i, 2)) (hn : i < mL M) (k : xgo M N0 Q QX cs sl (pc + 2) (xst1 i (Value.int x) lv) st N G A B D) : xgo M N0 Q QX cs sl pc lv (.int x :: st) N G A B D := by
  intro p l e s m args below meth c Dg cT As ad0 ad H locs ls Z hS hV hr he
  obtain ⟨hx, hb, hml, hrt, hlk, hnm, hown, hts, hst, htb, hK, hMv, hZ, hA⟩ := id hS
  obtain ⟨v1, v2, v3, v4, v5, v6⟩ := hV
  exact lv_istore hx hb hd v6 hn (xst1_eq ad i (Value.int x) lv) (fun ls' h' => k p l e s m args below meth c Dg cT As ad0 ad H locs ls' Z hS ⟨v1, v2, v3, v4, v5, h'⟩ hr he)
theorem xi_lstore_n {n : Fin 4} {i : Nat} {x : Int64} (hd : decode (mC M) pc = .ok (.lstore_n n, 1)) (hi : (n : Nat) = i) (hn : i + 1 < mL M) (k : xgo M N0 Q QX cs sl (pc + 1) (xst2 i (Value.long x) lv) st N G A B D) : xgo M N0 Q QX cs sl pc lv (.long x :: st) N G A B D := by
  intro p l e s m args below meth c Dg cT As ad0 ad H locs ls Z hS hV hr he
  obtain ⟨hx, hb, hml, hrt, hlk, hnm, hown, hts, hst, htb, hK, hMv, hZ, hA⟩ := id hS
  obtain ⟨v1, v2, v3, v4, v5, v6⟩ := hV
  exact lv_lstore_n hx hb hd hi v6 hn (xst2_eq ad i (Value.long x) lv) (fun ls' h' => k p l e s m args below meth c Dg cT As ad0 ad H locs ls' Z hS ⟨v1, v2, v3, v4, v5, h'⟩ hr he)
theorem xi_lstore {i : Nat} {x : Int64} (hd : decode (mC M) pc = .ok (.lstore i, 2)) (hn : i + 1 < mL M) (k : xgo M N0 Q QX cs sl (pc + 2) (xst2 i (Value.long x) lv) st N G A B D) : xgo M N0 Q QX cs sl pc lv (.long x :: st) N G A B D := by
  intro p l e s m args below meth c Dg cT As ad0 ad H locs ls Z hS hV hr he
  obtain ⟨hx, hb, hml, hrt, hlk, hnm, hown, hts, hst, htb, hK, hMv, hZ, hA⟩ := id hS
  obtain ⟨v1, v2, v3, v4, v5, v6⟩ := hV
  exact lv_lstore hx hb hd v6 hn (xst2_eq ad i (Value.long x) lv) (fun ls' h' => k p l e s m args below meth c Dg cT As ad0 ad H locs ls' Z hS ⟨v1, v2, v3, v4, v5, h'⟩ hr he)
theorem xi_dstore_n {n : Fin 4} {i : Nat} {x : UInt64} (hd : decode (mC M) pc = .ok (.dstore_n n, 1)) (hi : (n : Nat) = i) (hn : i + 1 < mL M) (k : xgo M N0 Q QX cs sl (pc + 1) (xst2 i (Value.double x) lv) st N G A B D) : xgo M N0 Q QX cs sl pc lv (.double x :: st) N G A B D := by
  intro p l e s m args below meth c Dg cT As ad0 ad H locs ls Z hS hV hr he
  obtain ⟨hx, hb, hml, hrt, hlk, hnm, hown, hts, hst, htb, hK, hMv, hZ, hA⟩ := id hS
  obtain ⟨v1, v2, v3, v4, v5, v6⟩ := hV
  exact lv_dstore_n hx hb hd hi v6 hn (xst2_eq ad i (Value.double x) lv) (fun ls' h' => k p l e s m args below meth c Dg cT As ad0 ad H locs ls' Z hS ⟨v1, v2, v3, v4, v5, h'⟩ hr he)
theorem xi_dstore {i : Nat} {x : UInt64} (hd : decode (mC M) pc = .ok (.dstore i, 2)) (hn : i + 1 < mL M) (k : xgo M N0 Q QX cs sl (pc + 2) (xst2 i (Value.double x) lv) st N G A B D) : xgo M N0 Q QX cs sl pc lv (.double x :: st) N G A B D := by
  intro p l e s m args below meth c Dg cT As ad0 ad H locs ls Z hS hV hr he
  obtain ⟨hx, hb, hml, hrt, hlk, hnm, hown, hts, hst, htb, hK, hMv, hZ, hA⟩ := id hS
  obtain ⟨v1, v2, v3, v4, v5, v6⟩ := hV
  exact lv_dstore hx hb hd v6 hn (xst2_eq ad i (Value.double x) lv) (fun ls' h' => k p l e s m args below meth c Dg cT As ad0 ad H locs ls' Z hS ⟨v1, v2, v3, v4, v5, h'⟩ hr he)
theorem xi_astore_n {n : Fin 4} {i : Nat} {x : Nat} (hd : decode (mC M) pc = .ok (.astore_n n, 1)) (hi : (n : Nat) = i) (hn : i < mL M) (k : xgo M N0 Q QX cs sl (pc + 1) (xst1 i (Value.ref x) lv) st N G A B D) : xgo M N0 Q QX cs sl pc lv (.ref x :: st) N G A B D := by
  intro p l e s m args below meth c Dg cT As ad0 ad H locs ls Z hS hV hr he
  obtain ⟨hx, hb, hml, hrt, hlk, hnm, hown, hts, hst, htb, hK, hMv, hZ, hA⟩ := id hS
  obtain ⟨v1, v2, v3, v4, v5, v6⟩ := hV
  exact lv_astore_n hx hb hd hi v6 hn (xst1_eq ad i (Value.ref x) lv) (fun ls' h' => k p l e s m args below meth c Dg cT As ad0 ad H locs ls' Z hS ⟨v1, v2, v3, v4, v5, h'⟩ hr he)
theorem xi_astore {i : Nat} {x : Nat} (hd : decode (mC M) pc = .ok (.astore i, 2)) (hn : i < mL M) (k : xgo M N0 Q QX cs sl (pc + 2) (xst1 i (Value.ref x) lv) st N G A B D) : xgo M N0 Q QX cs sl pc lv (.ref x :: st) N G A B D := by
  intro p l e s m args below meth c Dg cT As ad0 ad H locs ls Z hS hV hr he
  obtain ⟨hx, hb, hml, hrt, hlk, hnm, hown, hts, hst, htb, hK, hMv, hZ, hA⟩ := id hS
  obtain ⟨v1, v2, v3, v4, v5, v6⟩ := hV
  exact lv_astore hx hb hd v6 hn (xst1_eq ad i (Value.ref x) lv) (fun ls' h' => k p l e s m args below meth c Dg cT As ad0 ad H locs ls' Z hS ⟨v1, v2, v3, v4, v5, h'⟩ hr he)
theorem xi_iinc {i : Nat} {n : Int} {x v : Int32} (hd : decode (mC M) pc = .ok (.iinc i n, 3)) (hl : xlk lv i = some (.int x)) (hv : Int32.ofInt n = v) (hn : i < mL M) (k : xgo M N0 Q QX cs sl (pc + 3) (xst1 i (.int (x + v)) lv) st N G A B D) : xgo M N0 Q QX cs sl pc lv st N G A B D := by
  intro p l e s m args below meth c Dg cT As ad0 ad H locs ls Z hS hV hr he
  obtain ⟨hx, hb, hml, hrt, hlk, hnm, hown, hts, hst, htb, hK, hMv, hZ, hA⟩ := id hS
  obtain ⟨v1, v2, v3, v4, v5, v6⟩ := hV
  obtain ⟨kk, hkk⟩ := List.getElem?_of_mem (List.mem_map.mpr ⟨(i, .int x), xlk_mem hl, rfl⟩ : (i, xtr ad (.int x)) ∈ xlv ad lv)
  subst hv
  exact lv_iinc hx hb hd v6 hkk rfl hn (xst1_eq ad i (.int (x + Int32.ofInt n)) lv) (fun ls' h' => k p l e s m args below meth c Dg cT As ad0 ad H locs ls' Z hS ⟨v1, v2, v3, v4, v5, h'⟩ hr he)
theorem xi_iadd {x y : Int32} (hd : decode (mC M) pc = .ok (.iadd, 1)) (k : xgo M N0 Q QX cs sl (pc + 1) lv (.int (x + y) :: st) N G A B D) : xgo M N0 Q QX cs sl pc lv (.int y :: .int x :: st) N G A B D := by
  intro p l e s m args below meth c Dg cT As ad0 ad H locs ls Z hS hV hr he
  obtain ⟨hx, hb, hml, hrt, hlk, hnm, hown, hts, hst, htb, hK, hMv, hZ, hA⟩ := id hS
  exact lv_iadd hx hb hd (k p l e s m args below meth c Dg cT As ad0 ad H locs ls Z hS hV hr he)
theorem xi_isub {x y : Int32} (hd : decode (mC M) pc = .ok (.isub, 1)) (k : xgo M N0 Q QX cs sl (pc + 1) lv (.int (x - y) :: st) N G A B D) : xgo M N0 Q QX cs sl pc lv (.int y :: .int x :: st) N G A B D := by
  intro p l e s m args below meth c Dg cT As ad0 ad H locs ls Z hS hV hr he
  obtain ⟨hx, hb, hml, hrt, hlk, hnm, hown, hts, hst, htb, hK, hMv, hZ, hA⟩ := id hS
  exact lv_isub hx hb hd (k p l e s m args below meth c Dg cT As ad0 ad H locs ls Z hS hV hr he)
theorem xi_imul {x y : Int32} (hd : decode (mC M) pc = .ok (.imul, 1)) (k : xgo M N0 Q QX cs sl (pc + 1) lv (.int (x * y) :: st) N G A B D) : xgo M N0 Q QX cs sl pc lv (.int y :: .int x :: st) N G A B D := by
  intro p l e s m args below meth c Dg cT As ad0 ad H locs ls Z hS hV hr he
  obtain ⟨hx, hb, hml, hrt, hlk, hnm, hown, hts, hst, htb, hK, hMv, hZ, hA⟩ := id hS
  exact lv_imul hx hb hd (k p l e s m args below meth c Dg cT As ad0 ad H locs ls Z hS hV hr he)
theorem xi_iand {x y : Int32} (hd : decode (mC M) pc = .ok (.iand, 1)) (k : xgo M N0 Q QX cs sl (pc + 1) lv (.int (x &&& y) :: st) N G A B D) : xgo M N0 Q QX cs sl pc lv (.int y :: .int x :: st) N G A B D := by
  intro p l e s m args below meth c Dg cT As ad0 ad H locs ls Z hS hV hr he
  obtain ⟨hx, hb, hml, hrt, hlk, hnm, hown, hts, hst, htb, hK, hMv, hZ, hA⟩ := id hS
  exact lv_iand hx hb hd (k p l e s m args below meth c Dg cT As ad0 ad H locs ls Z hS hV hr he)
theorem xi_ior {x y : Int32} (hd : decode (mC M) pc = .ok (.ior, 1)) (k : xgo M N0 Q QX cs sl (pc + 1) lv (.int (x ||| y) :: st) N G A B D) : xgo M N0 Q QX cs sl pc lv (.int y :: .int x :: st) N G A B D := by
  intro p l e s m args below meth c Dg cT As ad0 ad H locs ls Z hS hV hr he
  obtain ⟨hx, hb, hml, hrt, hlk, hnm, hown, hts, hst, htb, hK, hMv, hZ, hA⟩ := id hS
  exact lv_ior hx hb hd (k p l e s m args below meth c Dg cT As ad0 ad H locs ls Z hS hV hr he)
theorem xi_ixor {x y : Int32} (hd : decode (mC M) pc = .ok (.ixor, 1)) (k : xgo M N0 Q QX cs sl (pc + 1) lv (.int (x ^^^ y) :: st) N G A B D) : xgo M N0 Q QX cs sl pc lv (.int y :: .int x :: st) N G A B D := by
  intro p l e s m args below meth c Dg cT As ad0 ad H locs ls Z hS hV hr he
  obtain ⟨hx, hb, hml, hrt, hlk, hnm, hown, hts, hst, htb, hK, hMv, hZ, hA⟩ := id hS
  exact lv_ixor hx hb hd (k p l e s m args below meth c Dg cT As ad0 ad H locs ls Z hS hV hr he)
theorem xi_ladd {x y : Int64} (hd : decode (mC M) pc = .ok (.ladd, 1)) (k : xgo M N0 Q QX cs sl (pc + 1) lv (.long (x + y) :: st) N G A B D) : xgo M N0 Q QX cs sl pc lv (.long y :: .long x :: st) N G A B D := by
  intro p l e s m args below meth c Dg cT As ad0 ad H locs ls Z hS hV hr he
  obtain ⟨hx, hb, hml, hrt, hlk, hnm, hown, hts, hst, htb, hK, hMv, hZ, hA⟩ := id hS
  exact lv_ladd hx hb hd (k p l e s m args below meth c Dg cT As ad0 ad H locs ls Z hS hV hr he)
theorem xi_lsub {x y : Int64} (hd : decode (mC M) pc = .ok (.lsub, 1)) (k : xgo M N0 Q QX cs sl (pc + 1) lv (.long (x - y) :: st) N G A B D) : xgo M N0 Q QX cs sl pc lv (.long y :: .long x :: st) N G A B D := by
  intro p l e s m args below meth c Dg cT As ad0 ad H locs ls Z hS hV hr he
  obtain ⟨hx, hb, hml, hrt, hlk, hnm, hown, hts, hst, htb, hK, hMv, hZ, hA⟩ := id hS
  exact lv_lsub hx hb hd (k p l e s m args below meth c Dg cT As ad0 ad H locs ls Z hS hV hr he)
theorem xi_lmul {x y : Int64} (hd : decode (mC M) pc = .ok (.lmul, 1)) (k : xgo M N0 Q QX cs sl (pc + 1) lv (.long (x * y) :: st) N G A B D) : xgo M N0 Q QX cs sl pc lv (.long y :: .long x :: st) N G A B D := by
  intro p l e s m args below meth c Dg cT As ad0 ad H locs ls Z hS hV hr he
  obtain ⟨hx, hb, hml, hrt, hlk, hnm, hown, hts, hst, htb, hK, hMv, hZ, hA⟩ := id hS
  exact lv_lmul hx hb hd (k p l e s m args below meth c Dg cT As ad0 ad H locs ls Z hS hV hr he)
theorem xi_land {x y : Int64} (hd : decode (mC M) pc = .ok (.land, 1)) (k : xgo M N0 Q QX cs sl (pc + 1) lv (.long (x &&& y) :: st) N G A B D) : xgo M N0 Q QX cs sl pc lv (.long y :: .long x :: st) N G A B D := by
  intro p l e s m args below meth c Dg cT As ad0 ad H locs ls Z hS hV hr he
  obtain ⟨hx, hb, hml, hrt, hlk, hnm, hown, hts, hst, htb, hK, hMv, hZ, hA⟩ := id hS
  exact lv_land hx hb hd (k p l e s m args below meth c Dg cT As ad0 ad H locs ls Z hS hV hr he)
theorem xi_lor {x y : Int64} (hd : decode (mC M) pc = .ok (.lor, 1)) (k : xgo M N0 Q QX cs sl (pc + 1) lv (.long (x ||| y) :: st) N G A B D) : xgo M N0 Q QX cs sl pc lv (.long y :: .long x :: st) N G A B D := by
  intro p l e s m args below meth c Dg cT As ad0 ad H locs ls Z hS hV hr he
  obtain ⟨hx, hb, hml, hrt, hlk, hnm, hown, hts, hst, htb, hK, hMv, hZ, hA⟩ := id hS
  exact lv_lor hx hb hd (k p l e s m args below meth c Dg cT As ad0 ad H locs ls Z hS hV hr he)
theorem xi_lxor {x y : Int64} (hd : decode (mC M) pc = .ok (.lxor, 1)) (k : xgo M N0 Q QX cs sl (pc + 1) lv (.long (x ^^^ y) :: st) N G A B D) : xgo M N0 Q QX cs sl pc lv (.long y :: .long x :: st) N G A B D := by
  intro p l e s m args below meth c Dg cT As ad0 ad H locs ls Z hS hV hr he
  obtain ⟨hx, hb, hml, hrt, hlk, hnm, hown, hts, hst, htb, hK, hMv, hZ, hA⟩ := id hS
  exact lv_lxor hx hb hd (k p l e s m args below meth c Dg cT As ad0 ad H locs ls Z hS hV hr he)
theorem xi_ineg {x : Int32} (hd : decode (mC M) pc = .ok (.ineg, 1)) (k : xgo M N0 Q QX cs sl (pc + 1) lv (.int (-x) :: st) N G A B D) : xgo M N0 Q QX cs sl pc lv (.int x :: st) N G A B D := by
  intro p l e s m args below meth c Dg cT As ad0 ad H locs ls Z hS hV hr he
  obtain ⟨hx, hb, hml, hrt, hlk, hnm, hown, hts, hst, htb, hK, hMv, hZ, hA⟩ := id hS
  exact lv_ineg hx hb hd (k p l e s m args below meth c Dg cT As ad0 ad H locs ls Z hS hV hr he)
theorem xi_idiv {x y : Int32} (hd : decode (mC M) pc = .ok (.idiv, 1)) (hne : ¬ y = 0) (k : xgo M N0 Q QX cs sl (pc + 1) lv (.int (x / y) :: st) N G A B D) : xgo M N0 Q QX cs sl pc lv (.int y :: .int x :: st) N G A B D := by
  intro p l e s m args below meth c Dg cT As ad0 ad H locs ls Z hS hV hr he
  obtain ⟨hx, hb, hml, hrt, hlk, hnm, hown, hts, hst, htb, hK, hMv, hZ, hA⟩ := id hS
  exact lv_idiv hx hb hd hne (k p l e s m args below meth c Dg cT As ad0 ad H locs ls Z hS hV hr he)
theorem xi_irem {x y : Int32} (hd : decode (mC M) pc = .ok (.irem, 1)) (hne : ¬ y = 0) (k : xgo M N0 Q QX cs sl (pc + 1) lv (.int (x - x / y * y) :: st) N G A B D) : xgo M N0 Q QX cs sl pc lv (.int y :: .int x :: st) N G A B D := by
  intro p l e s m args below meth c Dg cT As ad0 ad H locs ls Z hS hV hr he
  obtain ⟨hx, hb, hml, hrt, hlk, hnm, hown, hts, hst, htb, hK, hMv, hZ, hA⟩ := id hS
  exact lv_irem hx hb hd hne (k p l e s m args below meth c Dg cT As ad0 ad H locs ls Z hS hV hr he)
theorem xi_ishl {x y : Int32} (hd : decode (mC M) pc = .ok (.ishl, 1)) (k : xgo M N0 Q QX cs sl (pc + 1) lv (.int (x <<< (y &&& 31)) :: st) N G A B D) : xgo M N0 Q QX cs sl pc lv (.int y :: .int x :: st) N G A B D := by
  intro p l e s m args below meth c Dg cT As ad0 ad H locs ls Z hS hV hr he
  obtain ⟨hx, hb, hml, hrt, hlk, hnm, hown, hts, hst, htb, hK, hMv, hZ, hA⟩ := id hS
  exact lv_ishl hx hb hd (k p l e s m args below meth c Dg cT As ad0 ad H locs ls Z hS hV hr he)
theorem xi_iushr {x y : Int32} (hd : decode (mC M) pc = .ok (.iushr, 1)) (k : xgo M N0 Q QX cs sl (pc + 1) lv (.int (x.toUInt32 >>> (y.toUInt32 &&& Int32.toUInt32 31)).toInt32 :: st) N G A B D) : xgo M N0 Q QX cs sl pc lv (.int y :: .int x :: st) N G A B D := by
  intro p l e s m args below meth c Dg cT As ad0 ad H locs ls Z hS hV hr he
  obtain ⟨hx, hb, hml, hrt, hlk, hnm, hown, hts, hst, htb, hK, hMv, hZ, hA⟩ := id hS
  exact lv_iushr hx hb hd rfl (k p l e s m args below meth c Dg cT As ad0 ad H locs ls Z hS hV hr he)
theorem xi_lshl {x : Int64} {y : Int32} (hd : decode (mC M) pc = .ok (.lshl, 1)) (k : xgo M N0 Q QX cs sl (pc + 1) lv (.long (x <<< (y.toInt64 &&& 63)) :: st) N G A B D) : xgo M N0 Q QX cs sl pc lv (.int y :: .long x :: st) N G A B D := by
  intro p l e s m args below meth c Dg cT As ad0 ad H locs ls Z hS hV hr he
  obtain ⟨hx, hb, hml, hrt, hlk, hnm, hown, hts, hst, htb, hK, hMv, hZ, hA⟩ := id hS
  exact lv_lshl hx hb hd rfl (k p l e s m args below meth c Dg cT As ad0 ad H locs ls Z hS hV hr he)
theorem xi_lshr {x : Int64} {y : Int32} (hd : decode (mC M) pc = .ok (.lshr, 1)) (k : xgo M N0 Q QX cs sl (pc + 1) lv (.long (x >>> (y.toInt64 &&& 63)) :: st) N G A B D) : xgo M N0 Q QX cs sl pc lv (.int y :: .long x :: st) N G A B D := by
  intro p l e s m args below meth c Dg cT As ad0 ad H locs ls Z hS hV hr he
  obtain ⟨hx, hb, hml, hrt, hlk, hnm, hown, hts, hst, htb, hK, hMv, hZ, hA⟩ := id hS
  exact lv_lshr hx hb hd rfl (k p l e s m args below meth c Dg cT As ad0 ad H locs ls Z hS hV hr he)
theorem xi_lushr {x : Int64} {y : Int32} (hd : decode (mC M) pc = .ok (.lushr, 1)) (k : xgo M N0 Q QX cs sl (pc + 1) lv (.long (x.toUInt64 >>> (y.toInt64.toUInt64 &&& Int64.toUInt64 63)).toInt64 :: st) N G A B D) : xgo M N0 Q QX cs sl pc lv (.int y :: .long x :: st) N G A B D := by
  intro p l e s m args below meth c Dg cT As ad0 ad H locs ls Z hS hV hr he
  obtain ⟨hx, hb, hml, hrt, hlk, hnm, hown, hts, hst, htb, hK, hMv, hZ, hA⟩ := id hS
  exact lv_lushr hx hb hd rfl (k p l e s m args below meth c Dg cT As ad0 ad H locs ls Z hS hV hr he)
theorem xi_i2l {x : Int32} (hd : decode (mC M) pc = .ok (.i2l, 1)) (k : xgo M N0 Q QX cs sl (pc + 1) lv (.long x.toInt64 :: st) N G A B D) : xgo M N0 Q QX cs sl pc lv (.int x :: st) N G A B D := by
  intro p l e s m args below meth c Dg cT As ad0 ad H locs ls Z hS hV hr he
  obtain ⟨hx, hb, hml, hrt, hlk, hnm, hown, hts, hst, htb, hK, hMv, hZ, hA⟩ := id hS
  exact lv_i2l hx hb hd rfl (k p l e s m args below meth c Dg cT As ad0 ad H locs ls Z hS hV hr he)
theorem xi_l2i {x : Int64} (hd : decode (mC M) pc = .ok (.l2i, 1)) (k : xgo M N0 Q QX cs sl (pc + 1) lv (.int x.toInt32 :: st) N G A B D) : xgo M N0 Q QX cs sl pc lv (.long x :: st) N G A B D := by
  intro p l e s m args below meth c Dg cT As ad0 ad H locs ls Z hS hV hr he
  obtain ⟨hx, hb, hml, hrt, hlk, hnm, hown, hts, hst, htb, hK, hMv, hZ, hA⟩ := id hS
  exact lv_l2i hx hb hd rfl (k p l e s m args below meth c Dg cT As ad0 ad H locs ls Z hS hV hr he)
theorem xi_i2d {x : Int32} (hd : decode (mC M) pc = .ok (.i2d, 1)) (k : xgo M N0 Q QX cs sl (pc + 1) lv (.double (FP.i2d x) :: st) N G A B D) : xgo M N0 Q QX cs sl pc lv (.int x :: st) N G A B D := by
  intro p l e s m args below meth c Dg cT As ad0 ad H locs ls Z hS hV hr he
  obtain ⟨hx, hb, hml, hrt, hlk, hnm, hown, hts, hst, htb, hK, hMv, hZ, hA⟩ := id hS
  exact lv_i2d hx hb hd (k p l e s m args below meth c Dg cT As ad0 ad H locs ls Z hS hV hr he)
theorem xi_lcmp {x y : Int64} (hd : decode (mC M) pc = .ok (.lcmp, 1)) (k : xgo M N0 Q QX cs sl (pc + 1) lv (.int (lg_cmp x y) :: st) N G A B D) : xgo M N0 Q QX cs sl pc lv (.long y :: .long x :: st) N G A B D := by
  intro p l e s m args below meth c Dg cT As ad0 ad H locs ls Z hS hV hr he
  obtain ⟨hx, hb, hml, hrt, hlk, hnm, hown, hts, hst, htb, hK, hMv, hZ, hA⟩ := id hS
  exact W.lcmp hx hb hd (k p l e s m args below meth c Dg cT As ad0 ad H locs ls Z hS hV hr he)
theorem xi_dcmp {x y : UInt64} {op : CmpOp} (hd : decode (mC M) pc = .ok (.dcmp op, 1)) (k : xgo M N0 Q QX cs sl (pc + 1) lv (.int (Op.cmpValue (FP.dcmp x y) op) :: st) N G A B D) : xgo M N0 Q QX cs sl pc lv (.double y :: .double x :: st) N G A B D := by
  intro p l e s m args below meth c Dg cT As ad0 ad H locs ls Z hS hV hr he
  obtain ⟨hx, hb, hml, hrt, hlk, hnm, hown, hts, hst, htb, hK, hMv, hZ, hA⟩ := id hS
  exact lv_dcmp hx hb hd (k p l e s m args below meth c Dg cT As ad0 ad H locs ls Z hS hV hr he)
theorem xi_ddiv {x y : UInt64} (hd : decode (mC M) pc = .ok (.ddiv, 1)) (hne : vf_n64 (FP.ddiv x y)) (k : xgo M N0 Q QX cs sl (pc + 1) lv (.double (FP.ddiv x y) :: st) N G A B D) : xgo M N0 Q QX cs sl pc lv (.double y :: .double x :: st) N G A B D := by
  intro p l e s m args below meth c Dg cT As ad0 ad H locs ls Z hS hV hr he
  obtain ⟨hx, hb, hml, hrt, hlk, hnm, hown, hts, hst, htb, hK, hMv, hZ, hA⟩ := id hS
  exact lv_ddiv hx hb hd hne (k p l e s m args below meth c Dg cT As ad0 ad H locs ls Z hS hV hr he)
theorem xi_dconst0  (hd : decode (mC M) pc = .ok (.dconst 0, 1)) (k : xgo M N0 Q QX cs sl (pc + 1) lv (.double 0 :: st) N G A B D) : xgo M N0 Q QX cs sl pc lv (st) N G A B D := by
  intro p l e s m args below meth c Dg cT As ad0 ad H locs ls Z hS hV hr he
  obtain ⟨hx, hb, hml, hrt, hlk, hnm, hown, hts, hst, htb, hK, hMv, hZ, hA⟩ := id hS
  exact lv_dconst0 hx hb hd (k p l e s m args below meth c Dg cT As ad0 ad H locs ls Z hS hV hr he)
theorem xi_dup {v : Value} (hd : decode (mC M) pc = .ok (.dup, 1)) (hc : v.category = 1) (k : xgo M N0 Q QX cs sl (pc + 1) lv (v :: v :: st) N G A B D) : xgo M N0 Q QX cs sl pc lv (v :: st) N G A B D := by
  intro p l e s m args below meth c Dg cT As ad0 ad H locs ls Z hS hV hr he
  obtain ⟨hx, hb, hml, hrt, hlk, hnm, hown, hts, hst, htb, hK, hMv, hZ, hA⟩ := id hS
  exact lv_dup hx hb hd ((xtr_cat ad v).trans hc) (k p l e s m args below meth c Dg cT As ad0 ad H locs ls Z hS hV hr he)
theorem xi_dup2 {v u : Value} (hd : decode (mC M) pc = .ok (.dup2, 1)) (hc : v.category = 1) (hc2 : u.category = 1) (k : xgo M N0 Q QX cs sl (pc + 1) lv (v :: u :: v :: u :: st) N G A B D) : xgo M N0 Q QX cs sl pc lv (v :: u :: st) N G A B D := by
  intro p l e s m args below meth c Dg cT As ad0 ad H locs ls Z hS hV hr he
  obtain ⟨hx, hb, hml, hrt, hlk, hnm, hown, hts, hst, htb, hK, hMv, hZ, hA⟩ := id hS
  exact lv_dup2_11 hx hb hd ((xtr_cat ad v).trans hc) ((xtr_cat ad u).trans hc2) (k p l e s m args below meth c Dg cT As ad0 ad H locs ls Z hS hV hr he)
theorem xi_pop {v : Value} (hd : decode (mC M) pc = .ok (.pop, 1)) (hc : v.category = 1) (k : xgo M N0 Q QX cs sl (pc + 1) lv (st) N G A B D) : xgo M N0 Q QX cs sl pc lv (v :: st) N G A B D := by
  intro p l e s m args below meth c Dg cT As ad0 ad H locs ls Z hS hV hr he
  obtain ⟨hx, hb, hml, hrt, hlk, hnm, hown, hts, hst, htb, hK, hMv, hZ, hA⟩ := id hS
  exact lv_pop hx hb hd ((xtr_cat ad v).trans hc) (k p l e s m args below meth c Dg cT As ad0 ad H locs ls Z hS hV hr he)
theorem xi_if_eq {x : Int32} {off : Int} {tgt : Nat} (hd : decode (mC M) pc = .ok (.ifCond .eq off, 3)) (ht : (pc : Int) + off = (tgt : Int)) (kt : x = 0 → xgo M N0 Q QX cs sl tgt lv st N G A B D) (kf : ¬ (x = 0) → xgo M N0 Q QX cs sl (pc + 3) lv st N G A B D) : xgo M N0 Q QX cs sl pc lv (.int x :: st) N G A B D := by
  intro p l e s m args below meth c Dg cT As ad0 ad H locs ls Z hS hV hr he
  obtain ⟨hx, hb, hml, hrt, hlk, hnm, hown, hts, hst, htb, hK, hMv, hZ, hA⟩ := id hS
  first
    | exact lv_if_eq hx hb hd ht (fun h => kt h p l e s m args below meth c Dg cT As ad0 ad H locs ls Z hS hV hr he) (fun h => kf h p l e s m args below meth c Dg cT As ad0 ad H locs ls Z hS hV hr he)
    | exact lv_if_eq hx hb hd ht (fun h => kt (by first | exact h | exact fun q => h q | simpa using h) p l e s m args below meth c Dg cT As ad0 ad H locs ls Z hS hV hr he) (fun h => kf (by first | exact h | simpa using h) p l e s m args below meth c Dg cT As ad0 ad H locs ls Z hS hV hr he)
theorem xi_icmp_eq {x y : Int32} {off : Int} {tgt : Nat} (hd : decode (mC M) pc = .ok (.if_icmp .eq off, 3)) (ht : (pc : Int) + off = (tgt : Int)) (kt : x = y → xgo M N0 Q QX cs sl tgt lv st N G A B D) (kf : ¬ (x = y) → xgo M N0 Q QX cs sl (pc + 3) lv st N G A B D) : xgo M N0 Q QX cs sl pc lv (.int y :: .int x :: st) N G A B D := by
  intro p l e s m args below meth c Dg cT As ad0 ad H locs ls Z hS hV hr he
  obtain ⟨hx, hb, hml, hrt, hlk, hnm, hown, hts, hst, htb, hK, hMv, hZ, hA⟩ := id hS
  first
    | exact lv_icmp_eq hx hb hd ht (fun h => kt h p l e s m args below meth c Dg cT As ad0 ad H locs ls Z hS hV hr he) (fun h => kf h p l e s m args below meth c Dg cT As ad0 ad H locs ls Z hS hV hr he)
    | exact lv_icmp_eq hx hb hd ht (fun h => kt (by first | exact h | exact fun q => h q | simpa using h) p l e s m args below meth c Dg cT As ad0 ad H locs ls Z hS hV hr he) (fun h => kf (by first | exact h | simpa using h) p l e s m args below meth c Dg cT As ad0 ad H locs ls Z hS hV hr he)
theorem xi_if_ne {x : Int32} {off : Int} {tgt : Nat} (hd : decode (mC M) pc = .ok (.ifCond .ne off, 3)) (ht : (pc : Int) + off = (tgt : Int)) (kt : ¬ x = 0 → xgo M N0 Q QX cs sl tgt lv st N G A B D) (kf : ¬ (¬ x = 0) → xgo M N0 Q QX cs sl (pc + 3) lv st N G A B D) : xgo M N0 Q QX cs sl pc lv (.int x :: st) N G A B D := by
  intro p l e s m args below meth c Dg cT As ad0 ad H locs ls Z hS hV hr he
  obtain ⟨hx, hb, hml, hrt, hlk, hnm, hown, hts, hst, htb, hK, hMv, hZ, hA⟩ := id hS
  first
    | exact lv_if_ne hx hb hd ht (fun h => kt h p l e s m args below meth c Dg cT As ad0 ad H locs ls Z hS hV hr he) (fun h => kf h p l e s m args below meth c Dg cT As ad0 ad H locs ls Z hS hV hr he)
    | exact lv_if_ne hx hb hd ht (fun h => kt (by first | exact h | exact fun q => h q | simpa using h) p l e s m args below meth c Dg cT As ad0 ad H locs ls Z hS hV hr he) (fun h => kf (by first | exact h | simpa using h) p l e s m args below meth c Dg cT As ad0 ad H locs ls Z hS hV hr he)
theorem xi_icmp_ne {x y : Int32} {off : Int} {tgt : Nat} (hd : decode (mC M) pc = .ok (.if_icmp .ne off, 3)) (ht : (pc : Int) + off = (tgt : Int)) (kt : ¬ x = y → xgo M N0 Q QX cs sl tgt lv st N G A B D) (kf : ¬ (¬ x = y) → xgo M N0 Q QX cs sl (pc + 3) lv st N G A B D) : xgo M N0 Q QX cs sl pc lv (.int y :: .int x :: st) N G A B D := by
  intro p l e s m args below meth c Dg cT As ad0 ad H locs ls Z hS hV hr he
  obtain ⟨hx, hb, hml, hrt, hlk, hnm, hown, hts, hst, htb, hK, hMv, hZ, hA⟩ := id hS
  first
    | exact lv_icmp_ne hx hb hd ht (fun h => kt h p l e s m args below meth c Dg cT As ad0 ad H locs ls Z hS hV hr he) (fun h => kf h p l e s m args below meth c Dg cT As ad0 ad H locs ls Z hS hV hr he)
    | exact lv_icmp_ne hx hb hd ht (fun h => kt (by first | exact h | exact fun q => h q | simpa using h) p l e s m args below meth c Dg cT As ad0 ad H locs ls Z hS hV hr he) (fun h => kf (by first | exact h | simpa using h) p l e s m args below meth c Dg cT As ad0 ad H locs ls Z hS hV hr he)
theorem xi_if_lt {x : Int32} {off : Int} {tgt : Nat} (hd : decode (mC M) pc = .ok (.ifCond .lt off, 3)) (ht : (pc : Int) + off = (tgt : Int)) (kt : x < 0 → xgo M N0 Q QX cs sl tgt lv st N G A B D) (kf : ¬ (x < 0) → xgo M N0 Q QX cs sl (pc + 3) lv st N G A B D) : xgo M N0 Q QX cs sl pc lv (.int x :: st) N G A B D := by
  intro p l e s m args below meth c Dg cT As ad0 ad H locs ls Z hS hV hr he
  obtain ⟨hx, hb, hml, hrt, hlk, hnm, hown, hts, hst, htb, hK, hMv, hZ, hA⟩ := id hS
  first
    | exact lv_if_lt hx hb hd ht (fun h => kt h p l e s m args below meth c Dg cT As ad0 ad H locs ls Z hS hV hr he) (fun h => kf h p l e s m args below meth c Dg cT As ad0 ad H locs ls Z hS hV hr he)
    | exact lv_if_lt hx hb hd ht (fun h => kt (by first | exact h | exact fun q => h q | simpa using h) p l e s m args below meth c Dg cT As ad0 ad H locs ls Z hS hV hr he) (fun h => kf (by first | exact h | simpa using h) p l e s m args below meth c Dg cT As ad0 ad H locs ls Z hS hV hr he)
theorem xi_icmp_lt {x y : Int32} {off : Int} {tgt : Nat} (hd : decode (mC M) pc = .ok (.if_icmp .lt off, 3)) (ht : (pc : Int) + off = (tgt : Int)) (kt : x < y → xgo M N0 Q QX cs sl tgt lv st N G A B D) (kf : ¬ (x < y) → xgo M N0 Q QX cs sl (pc + 3) lv st N G A B D) : xgo M N0 Q QX cs sl pc lv (.int y :: .int x :: st) N G A B D := by
  intro p l e s m args below meth c Dg cT As ad0 ad H locs ls Z hS hV hr he
  obtain ⟨hx, hb, hml, hrt, hlk, hnm, hown, hts, hst, htb, hK, hMv, hZ, hA⟩ := id hS
  first
    | exact lv_icmp_lt hx hb hd ht (fun h => kt h p l e s m args below meth c Dg cT As ad0 ad H locs ls Z hS hV hr he) (fun h => kf h p l e s m args below meth c Dg cT As ad0 ad H locs ls Z hS hV hr he)
    | exact lv_icmp_lt hx hb hd ht (fun h => kt (by first | exact h | exact fun q => h q | simpa using h) p l e s m args below meth c Dg cT As ad0 ad H locs ls Z hS hV hr he) (fun h => kf (by first | exact h | simpa using h) p l e s m args below meth c Dg cT As ad0 ad H locs ls Z hS hV hr he)
theorem xi_if_ge {x : Int32} {off : Int} {tgt : Nat} (hd : decode (mC M) pc = .ok (.ifCond .ge off, 3)) (ht : (pc : Int) + off = (tgt : Int)) (kt : 0 ≤ x → xgo M N0 Q QX cs sl tgt lv st N G A B D) (kf : ¬ (0 ≤ x) → xgo M N0 Q QX cs sl (pc + 3) lv st N G A B D) : xgo M N0 Q QX cs sl pc lv (.int x :: st) N G A B D := by
  intro p l e s m args below meth c Dg cT As ad0 ad H locs ls Z hS hV hr he
  obtain ⟨hx, hb, hml, hrt, hlk, hnm, hown, hts, hst, htb, hK, hMv, hZ, hA⟩ := id hS
  first
    | exact lv_if_ge hx hb hd ht (fun h => kt h p l e s m args below meth c Dg cT As ad0 ad H locs ls Z hS hV hr he) (fun h => kf h p l e s m args below meth c Dg cT As ad0 ad H locs ls Z hS hV hr he)
    | exact lv_if_ge hx hb hd ht (fun h => kt (by first | exact h | exact fun q => h q | simpa using h) p l e s m args below meth c Dg cT As ad0 ad H locs ls Z hS hV hr he) (fun h => kf (by first | exact h | simpa using h) p l e s m args below meth c Dg cT As ad0 ad H locs ls Z hS hV hr he)
theorem xi_icmp_ge {x y : Int32} {off : Int} {tgt : Nat} (hd : decode (mC M) pc = .ok (.if_icmp .ge off, 3)) (ht : (pc : Int) + off = (tgt : Int)) (kt : y ≤ x → xgo M N0 Q QX cs sl tgt lv st N G A B D) (kf : ¬ (y ≤ x) → xgo M N0 Q QX cs sl (pc + 3) lv st N G A B D) : xgo M N0 Q QX cs sl pc lv (.int y :: .int x :: st) N G A B D := by
  intro p l e s m args below meth c Dg cT As ad0 ad H locs ls Z hS hV hr he
  obtain ⟨hx, hb, hml, hrt, hlk, hnm, hown, hts, hst, htb, hK, hMv, hZ, hA⟩ := id hS
  first
    | exact lv_icmp_ge hx hb hd ht (fun h => kt h p l e s m args below meth c Dg cT As ad0 ad H locs ls Z hS hV hr he) (fun h => kf h p l e s m args below meth c Dg cT As ad0 ad H locs ls Z hS hV hr he)
    | exact lv_icmp_ge hx hb hd ht (fun h => kt (by first | exact h | exact fun q => h q | simpa using h) p l e s m args below meth c Dg cT As ad0 ad H locs ls Z hS hV hr he) (fun h => kf (by first | exact h | simpa using h) p l e s m args below meth c Dg cT As ad0 ad H locs ls Z hS hV hr he)
theorem xi_if_gt {x : Int32} {off : Int} {tgt : Nat} (hd : decode (mC M) pc = .ok (.ifCond .gt off, 3)) (ht : (pc : Int) + off = (tgt : Int)) (kt : 0 < x → xgo M N0 Q QX cs sl tgt lv st N G A B D) (kf : ¬ (0 < x) → xgo M N0 Q QX cs sl (pc + 3) lv st N G A B D) : xgo M N0 Q QX cs sl pc lv (.int x :: st) N G A B D := by
  intro p l e s m args below meth c Dg cT As ad0 ad H locs ls Z hS hV hr he
  obtain ⟨hx, hb, hml, hrt, hlk, hnm, hown, hts, hst, htb, hK, hMv, hZ, hA⟩ := id hS
  first
    | exact lv_if_gt hx hb hd ht (fun h => kt h p l e s m args below meth c Dg cT As ad0 ad H locs ls Z hS hV hr he) (fun h => kf h p l e s m args below meth c Dg cT As ad0 ad H locs ls Z hS hV hr he)
    | exact lv_if_gt hx hb hd ht (fun h => kt (by first | exact h | exact fun q => h q | simpa using h) p l e s m args below meth c Dg cT As ad0 ad H locs ls Z hS hV hr he) (fun h => kf (by first | exact h | simpa using h) p l e s m args below meth c Dg cT As ad0 ad H locs ls Z hS hV hr he)
theorem xi_icmp_gt {x y : Int32} {off : Int} {tgt : Nat} (hd : decode (mC M) pc = .ok (.if_icmp .gt off, 3)) (ht : (pc : Int) + off = (tgt : Int)) (kt : y < x → xgo M N0 Q QX cs sl tgt lv st N G A B D) (kf : ¬ (y < x) → xgo M N0 Q QX cs sl (pc + 3) lv st N G A B D) : xgo M N0 Q QX cs sl pc lv (.int y :: .int x :: st) N G A B D := by
  intro p l e s m args below meth c Dg cT As ad0 ad H locs ls Z hS hV hr he
  obtain ⟨hx, hb, hml, hrt, hlk, hnm, hown, hts, hst, htb, hK, hMv, hZ, hA⟩ := id hS
  first
    | exact lv_icmp_gt hx hb hd ht (fun h => kt h p l e s m args below meth c Dg cT As ad0 ad H locs ls Z hS hV hr he) (fun h => kf h p l e s m args below meth c Dg cT As ad0 ad H locs ls Z hS hV hr he)
    | exact lv_icmp_gt hx hb hd ht (fun h => kt (by first | exact h | exact fun q => h q | simpa using h) p l e s m args below meth c Dg cT As ad0 ad H locs ls Z hS hV hr he) (fun h => kf (by first | exact h | simpa using h) p l e s m args below meth c Dg cT As ad0 ad H locs ls Z hS hV hr he)
theorem xi_if_le {x : Int32} {off : Int} {tgt : Nat} (hd : decode (mC M) pc = .ok (.ifCond .le off, 3)) (ht : (pc : Int) + off = (tgt : Int)) (kt : x ≤ 0 → xgo M N0 Q QX cs sl tgt lv st N G A B D) (kf : ¬ (x ≤ 0) → xgo M N0 Q QX cs sl (pc + 3) lv st N G A B D) : xgo M N0 Q QX cs sl pc lv (.int x :: st) N G A B D := by
  intro p l e s m args below meth c Dg cT As ad0 ad H locs ls Z hS hV hr he
  obtain ⟨hx, hb, hml, hrt, hlk, hnm, hown, hts, hst, htb, hK, hMv, hZ, hA⟩ := id hS
  first
    | exact lv_if_le hx hb hd ht (fun h => kt h p l e s m args below meth c Dg cT As ad0 ad H locs ls Z hS hV hr he) (fun h => kf h p l e s m args below meth c Dg cT As ad0 ad H locs ls Z hS hV hr he)
    | exact lv_if_le hx hb hd ht (fun h => kt (by first | exact h | exact fun q => h q | simpa using h) p l e s m args below meth c Dg cT As ad0 ad H locs ls Z hS hV hr he) (fun h => kf (by first | exact h | simpa using h) p l e s m args below meth c Dg cT As ad0 ad H locs ls Z hS hV hr he)
theorem xi_icmp_le {x y : Int32} {off : Int} {tgt : Nat} (hd : decode (mC M) pc = .ok (.if_icmp .le off, 3)) (ht : (pc : Int) + off = (tgt : Int)) (kt : x ≤ y → xgo M N0 Q QX cs sl tgt lv st N G A B D) (kf : ¬ (x ≤ y) → xgo M N0 Q QX cs sl (pc + 3) lv st N G A B D) : xgo M N0 Q QX cs sl pc lv (.int y :: .int x :: st) N G A B D := by
  intro p l e s m args below meth c Dg cT As ad0 ad H locs ls Z hS hV hr he
  obtain ⟨hx, hb, hml, hrt, hlk, hnm, hown, hts, hst, htb, hK, hMv, hZ, hA⟩ := id hS
  first
    | exact lv_icmp_le hx hb hd ht (fun h => kt h p l e s m args below meth c Dg cT As ad0 ad H locs ls Z hS hV hr he) (fun h => kf h p l e s m args below meth c Dg cT As ad0 ad H locs ls Z hS hV hr he)
    | exact lv_icmp_le hx hb hd ht (fun h => kt (by first | exact h | exact fun q => h q | simpa using h) p l e s m args below meth c Dg cT As ad0 ad H locs ls Z hS hV hr he) (fun h => kf (by first | exact h | simpa using h) p l e s m args below meth c Dg cT As ad0 ad H locs ls Z hS hV hr he)
theorem xi_goto {off : Int} {tgt : Nat} (hd : decode (mC M) pc = .ok (.goto off, 3)) (ht : (pc : Int) + off = (tgt : Int)) (k : xgo M N0 Q QX cs sl tgt lv st N G A B D) : xgo M N0 Q QX cs sl pc lv st N G A B D := by
  intro p l e s m args below meth c Dg cT As ad0 ad H locs ls Z hS hV hr he
  obtain ⟨hx, hb, hml, hrt, hlk, hnm, hown, hts, hst, htb, hK, hMv, hZ, hA⟩ := id hS
  exact lv_goto hx hb hd ht (k p l e s m args below meth c Dg cT As ad0 ad H locs ls Z hS hV hr he)
theorem xi_tableIn {dflt lo hi off : Int} {offs : Array Int} {len tgt : Nat} {x : Int32} (hd : decode (mC M) pc = .ok (.tableswitch dflt lo hi offs, len)) (h1 : ¬ x.toInt < lo) (h2 : ¬ hi < x.toInt) (ho : offs[(x.toInt - lo).toNat]? = some off) (ht : (pc : Int) + off = (tgt : Int)) (k : xgo M N0 Q QX cs sl tgt lv st N G A B D) : xgo M N0 Q QX cs sl pc lv (.int x :: st) N G A B D := by
  intro p l e s m args below meth c Dg cT As ad0 ad H locs ls Z hS hV hr he
  obtain ⟨hx, hb, hml, hrt, hlk, hnm, hown, hts, hst, htb, hK, hMv, hZ, hA⟩ := id hS
  exact lv_tableIn hx hb hd h1 h2 ho ht (k p l e s m args below meth c Dg cT As ad0 ad H locs ls Z hS hV hr he)
theorem xi_tableOut {dflt lo hi : Int} {offs : Array Int} {len tgt : Nat} {x : Int32} (hd : decode (mC M) pc = .ok (.tableswitch dflt lo hi offs, len)) (h : x.toInt < lo ∨ hi < x.toInt) (ht : (pc : Int) + dflt = (tgt : Int)) (k : xgo M N0 Q QX cs sl tgt lv st N G A B D) : xgo M N0 Q QX cs sl pc lv (.int x :: st) N G A B D := by
  intro p l e s m args below meth c Dg cT As ad0 ad H locs ls Z hS hV hr he
  obtain ⟨hx, hb, hml, hrt, hlk, hnm, hown, hts, hst, htb, hK, hMv, hZ, hA⟩ := id hS
  exact lv_tableOut hx hb hd h ht (k p l e s m args below meth c Dg cT As ad0 ad H locs ls Z hS hV hr he)
theorem xi_ret {r : Option Value} (hd : xret M pc r) (hc : cs ≤ (mO M).cells) (hs : sl ≤ (mO M).slots) (k : Q r N G A B D) : xgo M N0 Q QX cs sl pc lv r.toList N G A B D := by
  intro p l e s m args below meth c Dg cT As ad0 ad H locs ls Z hS hV hr he
  obtain ⟨hx, hb, hml, hrt, hlk, hnm, hown, hts, hst, htb, hK, hMv, hZ, hA⟩ := id hS
  obtain ⟨v1, v2, v3, v4, v5, v6⟩ := hV
  exact hr r N G A B D ad H locs ls pc cs sl k ⟨v1, v2, v3, v4, v5, xlv_sub v6 (fun q hq => nomatch hq)⟩ hc hs hd
theorem xi_iaload {kk nn : Nat} {i : Int32} (hd : decode (mC M) pc = .ok (.iaload, 1)) (hg : (G kk).1 = 1) (hn : (G kk).2.1 = nn) (hin : vp_in i nn) (k : xgo M N0 Q QX cs sl (pc + 1) lv (.int (A kk i.toNatClampNeg) :: st) N G A B D) : xgo M N0 Q QX cs sl pc lv (.int i :: .ref kk :: st) N G A B D := by
  intro p l e s m args below meth c Dg cT As ad0 ad H locs ls Z hS hV hr he
  obtain ⟨hx, hb, hml, hrt, hlk, hnm, hown, hts, hst, htb, hK, hMv, hZ, hA⟩ := id hS
  have hk : kk < N := hV.2.2.2.1 kk (by rw [hg]; decide)
  have hw : (xwl ad cT N G A B D)[kk]? = some (ad kk, .inl (cT 0, nn, .inl (A kk))) := by rw [xwl_get hk]; unfold xent; rw [hg, hn]; rfl
  exact va_iald hx hb hK hV.2.1 kk 0 hw rfl hin hd (k p l e s m args below meth c Dg cT As ad0 ad H locs ls Z hS hV hr he)
theorem xi_laload {kk nn : Nat} {i : Int32} (hd : decode (mC M) pc = .ok (.laload, 1)) (hg : (G kk).1 = 2) (hn : (G kk).2.1 = nn) (hin : vp_in i nn) (k : xgo M N0 Q QX cs sl (pc + 1) lv (.long (B kk i.toNatClampNeg) :: st) N G A B D) : xgo M N0 Q QX cs sl pc lv (.int i :: .ref kk :: st) N G A B D := by
  intro p l e s m args below meth c Dg cT As ad0 ad H locs ls Z hS hV hr he
  obtain ⟨hx, hb, hml, hrt, hlk, hnm, hown, hts, hst, htb, hK, hMv, hZ, hA⟩ := id hS
  have hk : kk < N := hV.2.2.2.1 kk (by rw [hg]; decide)
  have hw : (xwl ad cT N G A B D)[kk]? = some (ad kk, .inl (cT 1, nn, .inr (.inl (B kk)))) := by rw [xwl_get hk]; unfold xent; rw [hg, hn]; rfl
  exact va_lald hx hb hK hV.2.1 kk 1 hw rfl hin hd (k p l e s m args below meth c Dg cT As ad0 ad H locs ls Z hS hV hr he)
theorem xi_baload {kk nn : Nat} {i : Int32} (hd : decode (mC M) pc = .ok (.baload, 1)) (hg : (G kk).1 = 3) (hn : (G kk).2.1 = nn) (hin : vp_in i nn) (k : xgo M N0 Q QX cs sl (pc + 1) lv (.int (A kk i.toNatClampNeg) :: st) N G A B D) : xgo M N0 Q QX cs sl pc lv (.int i :: .ref kk :: st) N G A B D := by
  intro p l e s m args below meth c Dg cT As ad0 ad H locs ls Z hS hV hr he
  obtain ⟨hx, hb, hml, hrt, hlk, hnm, hown, hts, hst, htb, hK, hMv, hZ, hA⟩ := id hS
  have hk : kk < N := hV.2.2.2.1 kk (by rw [hg]; decide)
  have hw : (xwl ad cT N G A B D)[kk]? = some (ad kk, .inl (cT 2, nn, .inl (A kk))) := by rw [xwl_get hk]; unfold xent; rw [hg, hn]; rfl
  exact va_zald hx hb hK hV.2.1 kk 2 hw rfl hin hd (k p l e s m args below meth c Dg cT As ad0 ad H locs ls Z hS hV hr he)
theorem xi_daload {kk nn : Nat} {i : Int32} (hd : decode (mC M) pc = .ok (.daload, 1)) (hg : (G kk).1 = 4) (hn : (G kk).2.1 = nn) (hin : vp_in i nn) (k : xgo M N0 Q QX cs sl (pc + 1) lv (.double (D kk i.toNatClampNeg) :: st) N G A B D) : xgo M N0 Q QX cs sl pc lv (.int i :: .ref kk :: st) N G A B D := by
  intro p l e s m args below meth c Dg cT As ad0 ad H locs ls Z hS hV hr he
  obtain ⟨hx, hb, hml, hrt, hlk, hnm, hown, hts, hst, htb, hK, hMv, hZ, hA⟩ := id hS
  have hk : kk < N := hV.2.2.2.1 kk (by rw [hg]; decide)
  have hw : (xwl ad cT N G A B D)[kk]? = some (ad kk, .inl (cT 3, nn, .inr (.inr (.inr (.inl (D kk)))))) := by rw [xwl_get hk]; unfold xent; rw [hg, hn]; rfl
  exact va_dald hx hb hK hV.2.1 kk 3 hw rfl hin hd (k p l e s m args below meth c Dg cT As ad0 ad H locs ls Z hS hV hr he)
theorem xi_aaload5 {kk nn r : Nat} {i : Int32} (hd : decode (mC M) pc = .ok (.aaload, 1)) (hg : (G kk).1 = 5) (hn : (G kk).2.1 = nn) (hin : vp_in i nn) (hr0 : (G kk).2.2 i.toNatClampNeg = some r) (k : xgo M N0 Q QX cs sl (pc + 1) lv (.ref r :: st) N G A B D) : xgo M N0 Q QX cs sl pc lv (.int i :: .ref kk :: st) N G A B D := by
  intro p l e s m args below meth c Dg cT As ad0 ad H locs ls Z hS hV hr he
  obtain ⟨hx, hb, hml, hrt, hlk, hnm, hown, hts, hst, htb, hK, hMv, hZ, hA⟩ := id hS
  have hk : kk < N := hV.2.2.2.1 kk (by rw [hg]; decide)
  have hw : (xwl ad cT N G A B D)[kk]? = some (ad kk, .inl (cT 4, nn, .inr (.inr (.inr (.inr (fun i => ((G kk).2.2 i).map ad)))))) := by rw [xwl_get hk]; unfold xent; rw [hg, hn]; rfl
  have hlt : i.toNatClampNeg < nn := Nat.not_le.mp fun q => hin (Or.inr q)
  refine W.aald (v := va_rf (((G kk).2.2 i.toNatClampNeg).map ad)) (ty := .array .int) hx hb (hV.2.1 kk _ hw) ((hK.2 4 _ rfl).1 nn (fun j => va_rf (((G kk).2.2 j).map ad))) rfl (fun q => by cases q) (by show ¬ (i < 0 ∨ (arrV _ _ _).slots.size ≤ _); rw [arrV_size]; exact hin) (by show (arrV _ _ _).slots[_]? = _; rw [arrV_read _ _ hlt]) rfl rfl hd ?_
  rw [hr0]
  exact (k p l e s m args below meth c Dg cT As ad0 ad H locs ls Z hS hV hr he)
theorem xi_aaload6 {kk nn r : Nat} {i : Int32} (hd : decode (mC M) pc = .ok (.aaload, 1)) (hg : (G kk).1 = 6) (hn : (G kk).2.1 = nn) (hin : vp_in i nn) (hr0 : (G kk).2.2 i.toNatClampNeg = some r) (k : xgo M N0 Q QX cs sl (pc + 1) lv (.ref r :: st) N G A B D) : xgo M N0 Q QX cs sl pc lv (.int i :: .ref kk :: st) N G A B D := by
  intro p l e s m args below meth c Dg cT As ad0 ad H locs ls Z hS hV hr he
  obtain ⟨hx, hb, hml, hrt, hlk, hnm, hown, hts, hst, htb, hK, hMv, hZ, hA⟩ := id hS
  have hk : kk < N := hV.2.2.2.1 kk (by rw [hg]; decide)
  have hw : (xwl ad cT N G A B D)[kk]? = some (ad kk, .inl (cT 5, nn, .inr (.inr (.inr (.inr (fun i => ((G kk).2.2 i).map ad)))))) := by rw [xwl_get hk]; unfold xent; rw [hg, hn]; rfl
  refine va_aldq hx hb hK hV.2.1 kk 5 hw rfl hin hd ?_
  show W p l e (mO M) s m args below meth c H locs cs sl Z (F0 m (pc + 1) ls (va_rf (((G kk).2.2 i.toNatClampNeg).map ad) :: st.map (xtr ad)))
  rw [hr0]
  exact (k p l e s m args below meth c Dg cT As ad0 ad H locs ls Z hS hV hr he)
theorem xi_iastore {kk nn : Nat} {i : Int32} {x : Int32} (hd : decode (mC M) pc = .ok (.iastore, 1)) (hg : (G kk).1 = 1) (hn : (G kk).2.1 = nn) (hin : vp_in i nn) (k : xgo M N0 Q QX cs sl (pc + 1) lv st N G (updA A kk i.toNatClampNeg x) B D) : xgo M N0 Q QX cs sl pc lv (.int x :: .int i :: .ref kk :: st) N G A B D := by
  intro p l e s m args below meth c Dg cT As ad0 ad H locs ls Z hS hV hr he
  obtain ⟨hx, hb, hml, hrt, hlk, hnm, hown, hts, hst, htb, hK, hMv, hZ, hA⟩ := id hS
  have hk : kk < N := hV.2.2.2.1 kk (by rw [hg]; decide)
  have hw : (xwl ad cT N G A B D)[kk]? = some (ad kk, .inl (cT 0, nn, .inl (A kk))) := by rw [xwl_get hk]; unfold xent; rw [hg, hn]; rfl
  obtain ⟨v1, v2, v3, v4, v5, v6⟩ := hV
  refine va_iast hx hb hK v2 (xdom_D v3) v1 kk 0 hw rfl hin hd (fun H1 locs1 hP hD1 hS1 => ?_)
  rw [xwl_set (G' := G) (A' := (updA A kk i.toNatClampNeg x)) (B' := B) (D' := D) hk (fun j hj => ⟨rfl, updA_n A _ _ hj, rfl, rfl⟩) (by unfold xent; rw [hg, hn, updA_s]; rfl)] at hP
  exact k p l e s m args below meth c Dg cT As ad0 ad H1 locs1 ls Z hS ⟨hS1, hP, v3, v4, v5, v6⟩ hr he
theorem xi_lastore {kk nn : Nat} {i : Int32} {x : Int64} (hd : decode (mC M) pc = .ok (.lastore, 1)) (hg : (G kk).1 = 2) (hn : (G kk).2.1 = nn) (hin : vp_in i nn) (k : xgo M N0 Q QX cs sl (pc + 1) lv st N G A (updB B kk i.toNatClampNeg x) D) : xgo M N0 Q QX cs sl pc lv (.long x :: .int i :: .ref kk :: st) N G A B D := by
  intro p l e s m args below meth c Dg cT As ad0 ad H locs ls Z hS hV hr he
  obtain ⟨hx, hb, hml, hrt, hlk, hnm, hown, hts, hst, htb, hK, hMv, hZ, hA⟩ := id hS
  have hk : kk < N := hV.2.2.2.1 kk (by rw [hg]; decide)
  have hw : (xwl ad cT N G A B D)[kk]? = some (ad kk, .inl (cT 1, nn, .inr (.inl (B kk)))) := by rw [xwl_get hk]; unfold xent; rw [hg, hn]; rfl
  obtain ⟨v1, v2, v3, v4, v5, v6⟩ := hV
  refine va_last hx hb hK v2 (xdom_D v3) v1 kk 1 hw rfl hin hd (fun H1 locs1 hP hD1 hS1 => ?_)
  rw [xwl_set (G' := G) (A' := A) (B' := (updB B kk i.toNatClampNeg x)) (D' := D) hk (fun j hj => ⟨rfl, rfl, updB_n B _ _ hj, rfl⟩) (by unfold xent; rw [hg, hn, updB_s]; rfl)] at hP
  exact k p l e s m args below meth c Dg cT As ad0 ad H1 locs1 ls Z hS ⟨hS1, hP, v3, v4, v5, v6⟩ hr he
theorem xi_bastore {kk nn : Nat} {i : Int32} {x : Int32} (hd : decode (mC M) pc = .ok (.bastore, 1)) (hg : (G kk).1 = 3) (hn : (G kk).2.1 = nn) (hin : vp_in i nn) (hz : x = 0 ∨ x = 1) (k : xgo M N0 Q QX cs sl (pc + 1) lv st N G (updA A kk i.toNatClampNeg x) B D) : xgo M N0 Q QX cs sl pc lv (.int x :: .int i :: .ref kk :: st) N G A B D := by
  intro p l e s m args below meth c Dg cT As ad0 ad H locs ls Z hS hV hr he
  obtain ⟨hx, hb, hml, hrt, hlk, hnm, hown, hts, hst, htb, hK, hMv, hZ, hA⟩ := id hS
  have hk : kk < N := hV.2.2.2.1 kk (by rw [hg]; decide)
  have hw : (xwl ad cT N G A B D)[kk]? = some (ad kk, .inl (cT 2, nn, .inl (A kk))) := by rw [xwl_get hk]; unfold xent; rw [hg, hn]; rfl
  obtain ⟨v1, v2, v3, v4, v5, v6⟩ := hV
  refine va_zast hx hb hK v2 (xdom_D v3) v1 kk 2 hw rfl hin hd (fun H1 locs1 hP hD1 hS1 => ?_)
  rw [show vp_nar .boolean x = x by rcases hz with rfl | rfl <;> rfl] at hP hD1
  rw [xwl_set (G' := G) (A' := (updA A kk i.toNatClampNeg x)) (B' := B) (D' := D) hk (fun j hj => ⟨rfl, updA_n A _ _ hj, rfl, rfl⟩) (by unfold xent; rw [hg, hn, updA_s]; rfl)] at hP
  exact k p l e s m args below meth c Dg cT As ad0 ad H1 locs1 ls Z hS ⟨hS1, hP, v3, v4, v5, v6⟩ hr he
theorem xi_dastore {kk nn : Nat} {i : Int32} {x : UInt64} (hd : decode (mC M) pc = .ok (.dastore, 1)) (hg : (G kk).1 = 4) (hn : (G kk).2.1 = nn) (hin : vp_in i nn) (k : xgo M N0 Q QX cs sl (pc + 1) lv st N G A B (updD D kk i.toNatClampNeg x)) : xgo M N0 Q QX cs sl pc lv (.double x :: .int i :: .ref kk :: st) N G A B D := by
  intro p l e s m args below meth c Dg cT As ad0 ad H locs ls Z hS hV hr he
  obtain ⟨hx, hb, hml, hrt, hlk, hnm, hown, hts, hst, htb, hK, hMv, hZ, hA⟩ := id hS
  have hk : kk < N := hV.2.2.2.1 kk (by rw [hg]; decide)
  have hw : (xwl ad cT N G A B D)[kk]? = some (ad kk, .inl (cT 3, nn, .inr (.inr (.inr (.inl (D kk)))))) := by rw [xwl_get hk]; unfold xent; rw [hg, hn]; rfl
  obtain ⟨v1, v2, v3, v4, v5, v6⟩ := hV
  refine va_dast hx hb hK v2 (xdom_D v3) v1 kk 3 hw rfl hin hd (fun H1 locs1 hP hD1 hS1 => ?_)
  rw [xwl_set (G' := G) (A' := A) (B' := B) (D' := (updD D kk i.toNatClampNeg x)) hk (fun j hj => ⟨rfl, rfl, rfl, updD_n D _ _ hj⟩) (by unfold xent; rw [hg, hn, updD_s]; rfl)] at hP
  exact k p l e s m args below meth c Dg cT As ad0 ad H1 locs1 ls Z hS ⟨hS1, hP, v3, v4, v5, v6⟩ hr he
theorem xi_arraylength {kk nn : Nat} {v : Int32} (hd : decode (mC M) pc = .ok (.arraylength, 1)) (hg : (G kk).1 = 1 ∨ (G kk).1 = 2 ∨ (G kk).1 = 3) (hn : (G kk).2.1 = nn) (hv : Int32.ofNat nn = v) (k : xgo M N0 Q QX cs sl (pc + 1) lv (.int v :: st) N G A B D) : xgo M N0 Q QX cs sl pc lv (.ref kk :: st) N G A B D := by
  intro p l e s m args below meth c Dg cT As ad0 ad H locs ls Z hS hV hr he
  obtain ⟨hx, hb, hml, hrt, hlk, hnm, hown, hts, hst, htb, hK, hMv, hZ, hA⟩ := id hS
  rcases hg with hg | hg | hg
  · have hk : kk < N := hV.2.2.2.1 kk (by rw [hg]; decide)
    have hw : (xwl ad cT N G A B D)[kk]? = some (ad kk, .inl (cT 0, nn, .inl (A kk))) := by rw [xwl_get hk]; unfold xent; rw [hg, hn]; rfl
    exact va_alen hx hb hK hV.2.1 kk 0 hw rfl hv hd (k p l e s m args below meth c Dg cT As ad0 ad H locs ls Z hS hV hr he)
  · have hk : kk < N := hV.2.2.2.1 kk (by rw [hg]; decide)
    have hw : (xwl ad cT N G A B D)[kk]? = some (ad kk, .inl (cT 1, nn, .inr (.inl (B kk)))) := by rw [xwl_get hk]; unfold xent; rw [hg, hn]; rfl
    exact va_alen hx hb hK hV.2.1 kk 1 hw rfl hv hd (k p l e s m args below meth c Dg cT As ad0 ad H locs ls Z hS hV hr he)
  · have hk : kk < N := hV.2.2.2.1 kk (by rw [hg]; decide)
    have hw : (xwl ad cT N G A B D)[kk]? = some (ad kk, .inl (cT 2, nn, .inl (A kk))) := by rw [xwl_get hk]; unfold xent; rw [hg, hn]; rfl
    exact va_alen hx hb hK hV.2.1 kk 2 hw rfl hv hd (k p l e s m args below meth c Dg cT As ad0 ad H locs ls Z hS hV hr he)
/-- a field's link: class own, entry idx: field j of class ci, of kind t -/
def xfok (own : String) (idx ci j t : Nat) : Prop := ∃ (C : String) (T : u_T) (n : Nat), vwCl[ci]? = some (C, T, n) ∧ j < n ∧ Cond.fieldLink own idx (T j).1 (T j).2.1 (T j).2.2.1 ∈ xT ∧ (xfk ci)[j]? = some t
theorem xi_getfield0 {kk idx ci j : Nat} (hd : decode (mC M) pc = .ok (.getfield idx, 3)) (hf : xfok (mY M).cls idx ci j 0) (hg : (G kk).1 = ci + 7) (k : xgo M N0 Q QX cs sl (pc + 3) lv (.int (A kk j) :: st) N G A B D) : xgo M N0 Q QX cs sl pc lv (.ref kk :: st) N G A B D := by
  intro p l e s m args below meth c Dg cT As ad0 ad H locs ls Z hS hV hr he
  obtain ⟨hx, hb, hml, hrt, hlk, hnm, hown, hts, hst, htb, hK, hMv, hZ, hA⟩ := id hS
  obtain ⟨C, T, n, hc, hj, hlk2, hfk⟩ := hf
  have hk : kk < N := hV.2.2.2.1 kk (by rw [hg]; omega)
  have hw : (xwl ad cT N G A B D)[kk]? = some (ad kk, .inr (ci, xfl ad (A kk) (B kk) (G kk).2.2 ci)) := by rw [xwl_get hk]; unfold xent; rw [hg]; rfl
  exact va_get hx hb hts (xin ci hc) hown hK hV.2.1 kk hw hc j hj (hts _ hlk2) (fun _ h => h) (xfl_get hfk) hd (k p l e s m args below meth c Dg cT As ad0 ad H locs ls Z hS hV hr he)
theorem xi_getfield1 {kk idx ci j : Nat} (hd : decode (mC M) pc = .ok (.getfield idx, 3)) (hf : xfok (mY M).cls idx ci j 1) (hg : (G kk).1 = ci + 7) (k : xgo M N0 Q QX cs sl (pc + 3) lv (.int (A kk j) :: st) N G A B D) : xgo M N0 Q QX cs sl pc lv (.ref kk :: st) N G A B D := by
  intro p l e s m args below meth c Dg cT As ad0 ad H locs ls Z hS hV hr he
  obtain ⟨hx, hb, hml, hrt, hlk, hnm, hown, hts, hst, htb, hK, hMv, hZ, hA⟩ := id hS
  obtain ⟨C, T, n, hc, hj, hlk2, hfk⟩ := hf
  have hk : kk < N := hV.2.2.2.1 kk (by rw [hg]; omega)
  have hw : (xwl ad cT N G A B D)[kk]? = some (ad kk, .inr (ci, xfl ad (A kk) (B kk) (G kk).2.2 ci)) := by rw [xwl_get hk]; unfold xent; rw [hg]; rfl
  exact va_get hx hb hts (xin ci hc) hown hK hV.2.1 kk hw hc j hj (hts _ hlk2) (fun _ h => h) (xfl_get hfk) hd (k p l e s m args below meth c Dg cT As ad0 ad H locs ls Z hS hV hr he)
theorem xi_getfield2 {kk idx ci j : Nat} (hd : decode (mC M) pc = .ok (.getfield idx, 3)) (hf : xfok (mY M).cls idx ci j 2) (hg : (G kk).1 = ci + 7) (k : xgo M N0 Q QX cs sl (pc + 3) lv (.long (B kk j) :: st) N G A B D) : xgo M N0 Q QX cs sl pc lv (.ref kk :: st) N G A B D := by
  intro p l e s m args below meth c Dg cT As ad0 ad H locs ls Z hS hV hr he
  obtain ⟨hx, hb, hml, hrt, hlk, hnm, hown, hts, hst, htb, hK, hMv, hZ, hA⟩ := id hS
  obtain ⟨C, T, n, hc, hj, hlk2, hfk⟩ := hf
  have hk : kk < N := hV.2.2.2.1 kk (by rw [hg]; omega)
  have hw : (xwl ad cT N G A B D)[kk]? = some (ad kk, .inr (ci, xfl ad (A kk) (B kk) (G kk).2.2 ci)) := by rw [xwl_get hk]; unfold xent; rw [hg]; rfl
  exact va_get hx hb hts (xin ci hc) hown hK hV.2.1 kk hw hc j hj (hts _ hlk2) (fun _ h => h) (xfl_get hfk) hd (k p l e s m args below meth c Dg cT As ad0 ad H locs ls Z hS hV hr he)
theorem xi_getfield3 {kk idx ci j r : Nat} (hd : decode (mC M) pc = .ok (.getfield idx, 3)) (hf : xfok (mY M).cls idx ci j 3) (hg : (G kk).1 = ci + 7) (hr0 : (G kk).2.2 j = some r) (k : xgo M N0 Q QX cs sl (pc + 3) lv (.ref r :: st) N G A B D) : xgo M N0 Q QX cs sl pc lv (.ref kk :: st) N G A B D := by
  intro p l e s m args below meth c Dg cT As ad0 ad H locs ls Z hS hV hr he
  obtain ⟨hx, hb, hml, hrt, hlk, hnm, hown, hts, hst, htb, hK, hMv, hZ, hA⟩ := id hS
  obtain ⟨C, T, n, hc, hj, hlk2, hfk⟩ := hf
  have hk : kk < N := hV.2.2.2.1 kk (by rw [hg]; omega)
  have hw : (xwl ad cT N G A B D)[kk]? = some (ad kk, .inr (ci, xfl ad (A kk) (B kk) (G kk).2.2 ci)) := by rw [xwl_get hk]; unfold xent; rw [hg]; rfl
  refine va_get hx hb hts (xin ci hc) hown hK hV.2.1 kk hw hc j hj (hts _ hlk2) (fun _ h => h) (xfl_get hfk) hd ?_
  show W p l e (mO M) s m args below meth c H locs cs sl Z (F0 m (pc + 3) ls (va_rf (((G kk).2.2 j).map ad) :: st.map (xtr ad)))
  rw [hr0]
  exact (k p l e s m args below meth c Dg cT As ad0 ad H locs ls Z hS hV hr he)
theorem xi_putfield0 {kk idx ci j : Nat} {x : Int32} (hd : decode (mC M) pc = .ok (.putfield idx, 3)) (hf : xfok (mY M).cls idx ci j 0) (hg : (G kk).1 = ci + 7) (hfin : ∀ q, vwCl[ci]? = some q → (q.2.1 j).2.2.2 = false ∧ parseFieldDescriptor (q.2.1 j).2.2.1 = some .int) (k : xgo M N0 Q QX cs sl (pc + 3) lv st N G (updA A kk j x) B D) : xgo M N0 Q QX cs sl pc lv (.int x :: .ref kk :: st) N G A B D := by
  intro p l e s m args below meth c Dg cT As ad0 ad H locs ls Z hS hV hr he
  obtain ⟨hx, hb, hml, hrt, hlk, hnm, hown, hts, hst, htb, hK, hMv, hZ, hA⟩ := id hS
  obtain ⟨C, T, n, hc, hj, hlk2, hfk⟩ := hf
  have hk : kk < N := hV.2.2.2.1 kk (by rw [hg]; omega)
  have hw : (xwl ad cT N G A B D)[kk]? = some (ad kk, .inr (ci, xfl ad (A kk) (B kk) (G kk).2.2 ci)) := by rw [xwl_get hk]; unfold xent; rw [hg]; rfl
  obtain ⟨v1, v2, v3, v4, v5, v6⟩ := hV
  obtain ⟨ty0, hty, hnm0⟩ := xtyok ci hc
  have hl : j < (xfl ad (A kk) (B kk) (G kk).2.2 ci).length := by simp only [xfl, List.length_mapIdx]; exact (List.getElem?_eq_some_iff.mp hfk).1
  refine va_put hx hb hts (xin ci hc) ty0 hty hnm0 hown hK v2 (xdom_D v3) v1 kk hw hc j hj (hts _ hlk2) (fun _ h => h) (hfin _ hc).1 (hfin _ hc).2 rfl rfl hl hd (fun H1 locs1 hP hD1 hS1 => ?_)
  rw [xwl_set (G' := G) (A' := (updA A kk j x)) (B' := B) (D' := D) hk (fun i hi => ⟨rfl, updA_n A _ _ hi, rfl, rfl⟩) (by unfold xent; rw [hg, updA_s]; exact congrArg (fun z => Sum.inr (ci, z)) (xfl_set hfk (congrArg Value.int (show x = upd (A kk) j x j from (if_pos rfl).symm)) (fun i hi => ⟨if_neg hi, rfl, rfl⟩)))] at hP
  exact k p l e s m args below meth c Dg cT As ad0 ad H1 locs1 ls Z hS ⟨hS1, hP, v3, v4, v5, v6⟩ hr he
theorem xi_putfield1 {kk idx ci j : Nat} {x : Int32} (hd : decode (mC M) pc = .ok (.putfield idx, 3)) (hf : xfok (mY M).cls idx ci j 1) (hg : (G kk).1 = ci + 7) (hfin : ∀ q, vwCl[ci]? = some q → (q.2.1 j).2.2.2 = false ∧ parseFieldDescriptor (q.2.1 j).2.2.1 = some .boolean) (hz : x = 0 ∨ x = 1) (k : xgo M N0 Q QX cs sl (pc + 3) lv st N G (updA A kk j x) B D) : xgo M N0 Q QX cs sl pc lv (.int x :: .ref kk :: st) N G A B D := by
  intro p l e s m args below meth c Dg cT As ad0 ad H locs ls Z hS hV hr he
  obtain ⟨hx, hb, hml, hrt, hlk, hnm, hown, hts, hst, htb, hK, hMv, hZ, hA⟩ := id hS
  obtain ⟨C, T, n, hc, hj, hlk2, hfk⟩ := hf
  have hk : kk < N := hV.2.2.2.1 kk (by rw [hg]; omega)
  have hw : (xwl ad cT N G A B D)[kk]? = some (ad kk, .inr (ci, xfl ad (A kk) (B kk) (G kk).2.2 ci)) := by rw [xwl_get hk]; unfold xent; rw [hg]; rfl
  obtain ⟨v1, v2, v3, v4, v5, v6⟩ := hV
  obtain ⟨ty0, hty, hnm0⟩ := xtyok ci hc
  have hl : j < (xfl ad (A kk) (B kk) (G kk).2.2 ci).length := by simp only [xfl, List.length_mapIdx]; exact (List.getElem?_eq_some_iff.mp hfk).1
  refine va_put hx hb hts (xin ci hc) ty0 hty hnm0 hown hK v2 (xdom_D v3) v1 kk hw hc j hj (hts _ hlk2) (fun _ h => h) (hfin _ hc).1 (hfin _ hc).2 (by rcases hz with rfl | rfl <;> rfl) (by rcases hz with rfl | rfl <;> rfl) hl hd (fun H1 locs1 hP hD1 hS1 => ?_)
  rw [xwl_set (G' := G) (A' := (updA A kk j x)) (B' := B) (D' := D) hk (fun i hi => ⟨rfl, updA_n A _ _ hi, rfl, rfl⟩) (by unfold xent; rw [hg, updA_s]; exact congrArg (fun z => Sum.inr (ci, z)) (xfl_set hfk (congrArg Value.int (show x = upd (A kk) j x j from (if_pos rfl).symm)) (fun i hi => ⟨if_neg hi, rfl, rfl⟩)))] at hP
  exact k p l e s m args below meth c Dg cT As ad0 ad H1 locs1 ls Z hS ⟨hS1, hP, v3, v4, v5, v6⟩ hr he
theorem xi_putfield2 {kk idx ci j : Nat} {x : Int64} (hd : decode (mC M) pc = .ok (.putfield idx, 3)) (hf : xfok (mY M).cls idx ci j 2) (hg : (G kk).1 = ci + 7) (hfin : ∀ q, vwCl[ci]? = some q → (q.2.1 j).2.2.2 = false ∧ parseFieldDescriptor (q.2.1 j).2.2.1 = some .long) (k : xgo M N0 Q QX cs sl (pc + 3) lv st N G A (updB B kk j x) D) : xgo M N0 Q QX cs sl pc lv (.long x :: .ref kk :: st) N G A B D := by
  intro p l e s m args below meth c Dg cT As ad0 ad H locs ls Z hS hV hr he
  obtain ⟨hx, hb, hml, hrt, hlk, hnm, hown, hts, hst, htb, hK, hMv, hZ, hA⟩ := id hS
  obtain ⟨C, T, n, hc, hj, hlk2, hfk⟩ := hf
  have hk : kk < N := hV.2.2.2.1 kk (by rw [hg]; omega)
  have hw : (xwl ad cT N G A B D)[kk]? = some (ad kk, .inr (ci, xfl ad (A kk) (B kk) (G kk).2.2 ci)) := by rw [xwl_get hk]; unfold xent; rw [hg]; rfl
  obtain ⟨v1, v2, v3, v4, v5, v6⟩ := hV
  obtain ⟨ty0, hty, hnm0⟩ := xtyok ci hc
  have hl : j < (xfl ad (A kk) (B kk) (G kk).2.2 ci).length := by simp only [xfl, List.length_mapIdx]; exact (List.getElem?_eq_some_iff.mp hfk).1
  refine va_put hx hb hts (xin ci hc) ty0 hty hnm0 hown hK v2 (xdom_D v3) v1 kk hw hc j hj (hts _ hlk2) (fun _ h => h) (hfin _ hc).1 (hfin _ hc).2 rfl rfl hl hd (fun H1 locs1 hP hD1 hS1 => ?_)
  rw [xwl_set (G' := G) (A' := A) (B' := (updB B kk j x)) (D' := D) hk (fun i hi => ⟨rfl, rfl, updB_n B _ _ hi, rfl⟩) (by unfold xent; rw [hg, updB_s]; exact congrArg (fun z => Sum.inr (ci, z)) (xfl_set hfk (congrArg Value.long (show x = vp_updL (B kk) j x j from (if_pos rfl).symm)) (fun i hi => ⟨rfl, if_neg hi, rfl⟩)))] at hP
  exact k p l e s m args below meth c Dg cT As ad0 ad H1 locs1 ls Z hS ⟨hS1, hP, v3, v4, v5, v6⟩ hr he
end XROWS
end
section
/-! CORE, 4: what a method does; its calls -/
def xcw (M : xMI) : Cond := match mH M with
  | [] => .code (mY M) (mC M) (mL M) (mR M)
  | h :: t => .codeWith (mY M) (mC M) (mL M) (mR M) (h :: t)
abbrev xws (M : xMI) : List Cond := xcw M :: xT
def xAs (ad : Nat → Nat) (N sz : Nat) : Nat → Prop := fun q => (∃ k, k < N ∧ q = ad k) ∨ sz ≤ q
def xPre (Dg : va_G) (cT : Nat → ClassId) (ad : Nat → Nat) (N : Nat) (G : xG) (A : xA) (B : xB) (D : xD) (sz : Nat) (U : State) : Prop :=
  U.heap.size = sz ∧ va_P Dg vwCl (xwl ad cT N G A B D) U.heap ∧ xdom (fun _ => True) ad N ∧ va_K Dg vwCl (xty cT) U ∧ xMov U ∧ xZ (xAs ad N sz) U U.heap ∧ ∀ k, (G k).1 ≠ 0 → k < N
def xEnd (Dg : va_G) (cT : Nat → ClassId) (ad : Nat → Nat) (N : Nat) (As : Nat → Prop) (t : State) (N' : Nat) (G' : xG) (A' : xA) (B' : xB) (D' : xD) (ad' : Nat → Nat) : Prop :=
  (N ≤ N' ∧ ∀ k, k < N ∨ N' ≤ k → ad' k = ad k) ∧ va_P Dg vwCl (xwl ad' cT N' G' A' B' D') t.heap ∧ xdom As ad' N' ∧ ∀ k, (G' k).1 ≠ 0 → k < N'
def xQc (Dg : va_G) (cT : Nat → ClassId) (ad : Nat → Nat) (N : Nat) (As : Nat → Prop) (Q : xQ) : Array Value → State → Outcome → State → Prop := fun _ st oc t =>
  (∃ (r : Option Value) (N' : Nat) (G' : xG) (A' : xA) (B' : xB) (D' : xD) (ad' : Nat → Nat), oc = .returned (r.map (xtr ad')) ∧ Q r N' G' A' B' D' ∧ xEnd Dg cT ad N As t N' G' A' B' D' ad') ∧ va_F As st t
def xXc (Dg : va_G) (cT : Nat → ClassId) (ad : Nat → Nat) (N : Nat) (As : Nat → Prop) (QX : xQX) : String → State → State → Prop := fun E st t =>
  (∃ (N' : Nat) (G' : xG) (A' : xA) (B' : xB) (D' : xD) (ad' : Nat → Nat), QX E N' G' A' B' D' ∧ xEnd Dg cT ad N As t N' G' A' B' D' ad') ∧ va_F As st t
/-- method M, with arguments av, in the heap (N, G, A, B, D): it returns with Q or throws with QX -/
def xdoes (M : xMI) (av : List Value) (N : Nat) (G : xG) (A : xA) (B : xB) (D : xD) (Q : xQ) (QX : xQX) : Prop :=
  ∀ (l : Launch), l.stackTraces = false → ∀ (Dg : va_G) (cT : Nat → ClassId) (ad : Nat → Nat) (sz : Nat),
    vx_Met l (mY M) (xws M) (mO M) (va_Pc (av.map (xtr ad)) (xPre Dg cT ad N G A B D sz)) (xQc Dg cT ad N (xAs ad N sz) Q) (xXc Dg cT ad N (xAs ad N sz) QX) (mO M).cells (mO M).slots (xAs ad N sz)
theorem xlv_args (ad : Nat → Nat) : ∀ (av : List Value) (i : Nat), lv_args i (av.map (xtr ad)) = xlv ad (lv_args i av)
  | [], _ => rfl
  | v :: vs, i => by
    simp only [List.map_cons, lv_args, xtr_cat, xlv_args ad vs]
    rfl
theorem xsl_len (ad : Nat → Nat) : ∀ (av : List Value), (lg_sl (av.map (xtr ad))).length = (lg_sl av).length
  | [] => rfl
  | v :: vs => by
    have ih := xsl_len ad vs
    unfold lg_sl at ih ⊢
    simp only [List.map_cons, List.flatMap_cons, List.length_append, xtr_cat, ih]
    split <;> rfl
/-- a return closes the contract -/
theorem xclose {M : xMI} {p : Program} {l : Launch} {e : Env} {s : State} {m : MethodId} {args : Array Value} {below : List Frame} {meth : Method} {c : Code} {Dg : va_G} {cT : Nat → ClassId} {As : Nat → Prop} {ad : Nat → Nat} {N : Nat} {Q : xQ} {QX : xQX} (hS : xS M p l s m args meth c Dg cT As) :
    xKr M N Q p l e s m args below meth c Dg cT As ad (vx_MQ below (xQc Dg cT ad N As Q) (xXc Dg cT ad N As QX) args s (mO M).cells (mO M).slots As) := by
  intro r N' G' A' B' D' ad' H locs ls pc cs sl hQ hV hc hs hret
  obtain ⟨hx, hb, hml, hrt, hlk, hnm, hown, hts, hst, htb, hK, hMv, hZ, hA⟩ := id hS
  obtain ⟨v1, v2, v3, v4, v5, v6⟩ := hV
  refine vx_ret (W.widen hc hs ?_)
  have hq : ∀ (o : Outcome) (t : State), o = .returned (r.map (xtr ad')) → t.heap = H → xQc Dg cT ad N As Q args s o t := by
    intro o t ho ht
    exact ⟨⟨r, N', G', A', B', D', ad', ho, hQ, v5, by rw [ht]; exact v2, v3, v4⟩, by rw [va_F, ht]; exact ⟨v1.1, v1.2.1⟩⟩
  have hf : ∀ q ∈ locs, As q.base := v1.2.2
  unfold xret at hret
  split at hret
  · rename_i h1
    exact W.vret hx hb (hrt.trans h1) (fun t ht _ => hq _ t rfl ht) hf hret
  · rename_i h1
    exact W.iret hx hb (hrt.trans h1) (fun t ht _ => hq _ t rfl ht) hf hret
  · rename_i v h1
    refine W.zret hx hb (hrt.trans h1) ?_ (fun t ht _ => hq _ t rfl ht) hf hret.1
    rcases hret.2 with rfl | rfl <;> rfl
  · rename_i h1
    exact W.lret hx hb (hrt.trans h1) (fun t ht _ => hq _ t rfl ht) hf hret
  · rename_i h1
    exact W.dret hx hb (hrt.trans h1) (fun t ht _ => hq _ t rfl ht) hf hret
  · exact hret.elim
/-- a throw that nothing here takes closes it too -/
theorem xcloseX {M : xMI} {p : Program} {l : Launch} {e : Env} {s : State} {m : MethodId} {args : Array Value} {below : List Frame} {meth : Method} {c : Code} {Dg : va_G} {cT : Nat → ClassId} {As : Nat → Prop} {ad : Nat → Nat} {N : Nat} {Q : xQ} {QX : xQX} (hS : xS M p l s m args meth c Dg cT As) :
    xKx M N QX p l e s m args below meth c Dg cT As ad (vx_MQ below (xQc Dg cT ad N As Q) (xXc Dg cT ad N As QX) args s (mO M).cells (mO M).slots As) := by
  intro E ce q N' G' A' B' D' ad' H locs ls st pc cs sl hQ hV hc hs hcov hcell hv hcl
  obtain ⟨hx, hb, hml, hrt, hlk, hnm, hown, hts, hst, htb, hK, hMv, hZ, hA⟩ := id hS
  obtain ⟨v1, v2, v3, v4, v5, v6⟩ := hV
  refine vx_out (by rw [htb]; exact hcov) hlk hcell hv hcl (fun t ht _ => ?_) v1.2.2 hc hs
  exact ⟨⟨N', G', A', B', D', ad', hQ, v5, by rw [ht]; exact v2, v3, v4⟩, by rw [va_F, ht]; exact ⟨v1.1, v1.2.1⟩⟩
theorem xdoes_go {M : xMI} {av : List Value} {N : Nat} {G : xG} {A : xA} {B : xB} {D : xD} {Q : xQ} {QX : xQX} (hpn : plainName (mY M).cls = true) (hh : mH M = []) (hlen : (lg_sl av).length ≤ mL M) (k : xgo M N Q QX 0 0 0 (lv_args 0 av) [] N G A B D) : xdoes M av N G A B D Q QX := by
  intro l hl Dg cT ad sz
  have hcw : xcw M = .code (mY M) (mC M) (mL M) (mR M) := by unfold xcw; rw [hh]
  refine vx_ofW (cc := mC M) (maxL := mL M) (ret := mR M) (ws' := xT) hpn (by rw [xws, hcw]) ?_
  intro p e s m args below meth c s₁ Bd hml htab hv
  obtain ⟨rfl, hsz, hP, hdm, hK, hMv, hZ, hG⟩ := hv
  subst hsz
  have hts : ∀ w ∈ xT, w.before (av.map (xtr ad)).toArray s = true := fun w hw => atoms_spec (ws := xws M) Bd.pre w (List.mem_cons_of_mem _ hw)
  have hdm2 : xdom (xAs ad N s.heap.size) ad N := ⟨hdm.1, fun k hk => Or.inl ⟨k, hk, rfl⟩⟩
  have hS : xS M p l s m (av.map (xtr ad)).toArray meth c Dg cT (xAs ad N s.heap.size) :=
    ⟨Bd.exec, Bd.bytes, hml, Bd.returns, Bd.notSynchronized, (name_of_methodNamed Bd.named Bd.method).1, findClass_of_methodNamed Bd.named, hts, hl, by
      rw [hh]
      have : c.exceptionTable.toList = [] := List.eq_nil_iff_forall_not_mem.mpr (fun x hx => htab x hx)
      rw [this]; rfl, hK, hMv, hZ, fun q hq => Or.inr hq⟩
  have hl0 := lv_entry (av.map (xtr ad)) (n := mL M) (by rw [xsl_len]; exact hlen)
  rw [lg_entry_eq]
  rw [xlv_args] at hl0
  exact k p l e s m _ below meth c Dg cT _ ad ad s.heap [] _ _ hS ⟨va_S.rf, hP, hdm2, hG, ⟨Nat.le_refl _, fun _ _ => rfl⟩, hl0⟩ (xclose hS) (xcloseX hS)
/-- more is known than needed -/
theorem xdoes_mono {M : xMI} {av : List Value} {N : Nat} {G : xG} {A : xA} {B : xB} {D : xD} {Q Q2 : xQ} {QX QX2 : xQX} (h : xdoes M av N G A B D Q QX) (h1 : ∀ r N' G' A' B' D', Q r N' G' A' B' D' → Q2 r N' G' A' B' D') (h2 : ∀ E N' G' A' B' D', QX E N' G' A' B' D' → QX2 E N' G' A' B' D') : xdoes M av N G A B D Q2 QX2 := by
  intro l hl Dg cT ad sz p e ha hc hk s m args below hf happ hP hK
  obtain ⟨n, o, a1, a2, a3, hq⟩ := h l hl Dg cT ad sz p e ha hc hk s m args below hf happ hP hK
  refine ⟨n, o, a1, a2, a3, ?_⟩
  rcases hq with ⟨⟨⟨r, N', G', A', B', D', ad', ho, hQ, hE⟩, hF⟩, hL⟩ | ⟨q, ho, E, ce, L, ⟨⟨N', G', A', B', D', ad', hQ, hE⟩, hF⟩, hL⟩
  · exact Or.inl ⟨⟨⟨r, N', G', A', B', D', ad', ho, h1 _ _ _ _ _ _ hQ, hE⟩, hF⟩, hL⟩
  · exact Or.inr ⟨q, ho, E, ce, L, ⟨⟨N', G', A', B', D', ad', h2 _ _ _ _ _ _ hQ, hE⟩, hF⟩, hL⟩
def xsc (N : Nat) : Value → Bool
  | .ref k => decide (k < N)
  | _ => true
theorem xtr_sc {N : Nat} {ad ad' : Nat → Nat} (h : ∀ k, k < N → ad' k = ad k) {v : Value} (hv : xsc N v = true) : xtr ad' v = xtr ad v := by
  cases v <;> first | rfl | exact congrArg Value.ref (h _ (of_decide_eq_true hv))
theorem xmap_sc {N : Nat} {ad ad' : Nat → Nat} (h : ∀ k, k < N → ad' k = ad k) {st : List Value} (hv : st.all (xsc N) = true) : st.map (xtr ad') = st.map (xtr ad) :=
  List.map_congr_left fun v hm => xtr_sc h (List.all_eq_true.mp hv v hm)
theorem xlv_sc {N : Nat} {ad ad' : Nat → Nat} (h : ∀ k, k < N → ad' k = ad k) {lv : xLV} (hv : lv.all (fun q => xsc N q.2) = true) : xlv ad' lv = xlv ad lv :=
  List.map_congr_left fun q hm => by rw [xtr_sc h (List.all_eq_true.mp hv q hm)]
section XC
variable {M : xMI} {N0 : Nat} {Q : xQ} {QX : xQX} {cs sl pc : Nat} {lv : xLV} {st : List Value} {N : Nat} {G : xG} {A : xA} {B : xB} {D : xD}
variable {p : Program} {l : Launch} {e : Env} {s : State} {m : MethodId} {args : Array Value} {below : List Frame} {meth : Method} {c : Code} {Dg : va_G} {cT : Nat → ClassId} {As : Nat → Prop} {ad0 ad : Nat → Nat} {H : Heap} {locs : List Loc} {ls : Array Slot} {Z : State → Prop}
/-- what goes on behind a call: it came back (kk), or it threw (kx) -/
theorem xcall {Q2 : xQ} {QX2 : xQX} {mc ms : Nat} {a : Array Value} {st0 : List Value}
    (hS : xS M p l s m args meth c Dg cT As) (hV : xV M s Dg cT As ad0 ad H locs ls lv N0 N G A B D) (hr : xKr M N0 Q p l e s m args below meth c Dg cT As ad0 Z) (he : xKx M N0 QX p l e s m args below meth c Dg cT As ad0 Z)
    (hrun : vx_Run p l e (mO M) s m args below meth c H locs cs sl mc ms (F0 m pc ls st0) (st.map (xtr ad)) (xQc Dg cT ad N (xAs ad N H.size) Q2 a) (xXc Dg cT ad N (xAs ad N H.size) QX2) (xAs ad N H.size))
    (kk : ∀ r N' G' A' B' D', Q2 r N' G' A' B' D' → (N' = N ∨ (lv.all (fun q => xsc N q.2) = true ∧ st.all (xsc N) = true)) ∧ xgo M N0 Q QX (cs + mc) (sl + ms) (pc + 3) lv (r.toList ++ st) N' G' A' B' D')
    (kx : ∀ E N' G' A' B' D', QX2 E N' G' A' B' D' → (∀ x ∈ tableOf (mH M), covers x pc = false) ∧ QX E N' G' A' B' D' ∧ cs + mc ≤ (mO M).cells ∧ sl + ms ≤ (mO M).slots) :
    W p l e (mO M) s m args below meth c H locs cs sl Z (F0 m pc ls st0) := by
  obtain ⟨v1, v2, v3, v4, v5, v6⟩ := hV
  have hsub : ∀ q, xAs ad N H.size q → As q := by
    rintro q (⟨k, hk, rfl⟩ | h)
    · exact v3.2 k hk
    · exact hS.2.2.2.2.2.2.2.2.2.2.2.2.2 q (Nat.le_trans v1.1 h)
  intro T hT X
  rcases hrun T hT X with ⟨v, st₀, t, T', L, h0, X', hL, e1, e2, ⟨⟨r, N', G', A', B', D', ad', hv, hQ, hE1, hE2, hE3, hE4⟩, hF⟩, stp⟩ | ⟨q, st₀, t, T', L, E, ce, h0, X', hL, e1, e2, ⟨⟨N', G', A', B', D', ad', hQ, hE1, hE2, hE3, hE4⟩, hF⟩, hce, hcv, hcl, stp⟩
  · cases hv
    obtain ⟨k1, k2, k3⟩ := vx_keep h0 e1 v1 (fun q _ h => hsub q h) hsub hL hF
    obtain ⟨hsc, hgo⟩ := kk r N' G' A' B' D' hQ
    have hlv : xlv ad' lv = xlv ad lv := by
      rcases hsc with rfl | ⟨h1, -⟩
      · have : ad' = ad := funext fun k => hE1.2 k (Nat.lt_or_ge k _)
        rw [this]
      · exact xlv_sc (fun k hk => hE1.2 k (Or.inl hk)) h1
    have hst : st.map (xtr ad') = st.map (xtr ad) := by
      rcases hsc with rfl | ⟨-, h1⟩
      · have : ad' = ad := funext fun k => hE1.2 k (Nat.lt_or_ge k _)
        rw [this]
      · exact xmap_sc (fun k hk => hE1.2 k (Or.inl hk)) h1
    have hgo2 := hgo p l e s m args below meth c Dg cT As ad0 ad' T'.heap (locs ++ L) ls Z hS
      ⟨k3, by rw [e1]; exact hE2, ⟨hE3.1, fun k hk => hsub _ (hE3.2 k hk)⟩, hE4, ⟨Nat.le_trans v5.1 hE1.1, fun k hk => by
        rcases hk with hk | hk
        · rw [hE1.2 k (Or.inl (Nat.lt_of_lt_of_le hk v5.1)), v5.2 k (Or.inl hk)]
        · rw [hE1.2 k (Or.inr hk), v5.2 k (Or.inr (Nat.le_trans hE1.1 hk))]⟩, by rw [hlv]; exact v6⟩ hr he
    obtain ⟨t2, a1, b1⟩ := hgo2 T' rfl X'
    refine ⟨t2, stp t2 ?_, b1⟩
    have hl : (r.toList ++ st).map (xtr ad') = (r.map (xtr ad')).toList ++ st.map (xtr ad) := by
      rw [List.map_append, hst]; cases r <;> rfl
    rw [hl] at a1
    exact a1
  · obtain ⟨k1, k2, k3⟩ := vx_keep h0 e1 v1 (fun q _ h => hsub q h) hsub hL hF
    obtain ⟨hcov, hQ2, hc1, hs1⟩ := kx E N' G' A' B' D' hQ
    have hgo2 := he E ce q N' G' A' B' D' ad' T'.heap (locs ++ L) ls (st.map (xtr ad)) pc (cs + mc) (sl + ms) hQ2
      ⟨k3, by rw [e1]; exact hE2, ⟨hE3.1, fun k hk => hsub _ (hE3.2 k hk)⟩, hE4, ⟨Nat.le_trans v5.1 hE1.1, fun k hk => by
        rcases hk with hk | hk
        · rw [hE1.2 k (Or.inl (Nat.lt_of_lt_of_le hk v5.1)), v5.2 k (Or.inl hk)]
        · rw [hE1.2 k (Or.inr hk), v5.2 k (Or.inr (Nat.le_trans hE1.1 hk))]⟩, ⟨v6.1, v6.2.1, fun q hq => nomatch hq⟩⟩ hc1 hs1 hcov (by rw [e1]; exact hce) hcv hcl
    obtain ⟨t2, a1, b1⟩ := hgo2 T' rfl X'
    exact ⟨t2, stp.trans a1, b1⟩
/-- the callee's start holds -/
theorem xpre_ok (hS : xS M p l s m args meth c Dg cT As) (hV : xV M s Dg cT As ad0 ad H locs ls lv N0 N G A B D) (av : List Value) :
    FrameBlind (va_Pc (av.map (xtr ad)) (xPre Dg cT ad N G A B D H.size)) ∧ ∀ U : State, U.heap = H → s.WarmedH U.vm → va_Pc (av.map (xtr ad)) (xPre Dg cT ad N G A B D H.size) (av.map (xtr ad)).toArray U := by
  obtain ⟨hx, hb, hml, hrt, hlk, hnm, hown, hts, hst, htb, hK, hMv, hZ, hA⟩ := id hS
  obtain ⟨v1, v2, v3, v4, v5, v6⟩ := hV
  have hsub : ∀ q, xAs ad N H.size q → As q := by
    rintro q (⟨k, hk, rfl⟩ | h)
    · exact v3.2 k hk
    · exact hA q (Nat.le_trans v1.1 h)
  refine ⟨fun a U g mk h => ?_, fun U hU hW => ⟨rfl, by rw [hU], by rw [hU]; exact v2, ⟨v3.1, fun _ _ => trivial⟩, va_K.moved hW.alike hK, hMv.warm hW, ?_, v4⟩⟩
  · obtain ⟨q0, q1, q2, q3, q4, q5, q6, q7⟩ := h
    exact ⟨q0, q1, q2, q3, va_K.moved (u := U) (U := U.calling g mk a) (Vm.Alike.refl U.vm) q4, xMov.same (s := U) (U := U.calling g mk a) rfl q5, ⟨vx_Zq.moved (u := U) (U := U.calling g mk a) (Vm.Alike.refl U.vm) q6.1, vx_Zq.moved (u := U) (U := U.calling g mk a) (Vm.Alike.refl U.vm) q6.2⟩, q7⟩
  · rw [hU]
    have key : ∀ {C n d : String}, vx_Zq C n d As s s.heap → vx_Zq C n d (xAs ad N H.size) U H := fun hz => vx_Zq.moved hW.alike (vx_Zq.narrow (vx_Zq.kept hz (fun a h1 h2 => v1.2.1 a h1 h2)) hsub)
    exact ⟨key hZ.1, key hZ.2⟩
end XC
def xdsc (y : MethodName) (n : Nat) : Prop := y.cls ≠ "java/lang/invoke/MethodHandle" ∧ y.cls ≠ "java/lang/invoke/VarHandle" ∧ (parseMethodDescriptor y.desc).map (fun d => d.parameters.length) = some n
/-- the words of a static call, of a call by a receiver of class C, of a constructor's, of a nest mate's -/
abbrev xlS (own : String) (idx : Nat) (M2 : xMI) (n : Nat) : Prop := Cond.methodLink own idx (mY M2) ∈ xT ∧ Cond.static (mY M2) ∈ xT ∧ Cond.initialized (mY M2).cls ∈ xT ∧ Cond.code (mY M2) (mC M2) (mL M2) (mR M2) ∈ xT ∧ xdsc (mY M2) n
abbrev xlV (own : String) (idx : Nat) (M2 : xMI) (n : Nat) : Prop := Cond.methodLink own idx (mY M2) ∈ xT ∧ Cond.instanceMethod (mY M2) ∈ xT ∧ Cond.selects (mY M2).cls (mY M2) (mY M2) ∈ xT ∧ Cond.initialized (mY M2).cls ∈ xT ∧ Cond.code (mY M2) (mC M2) (mL M2) (mR M2) ∈ xT ∧ xdsc (mY M2) n
abbrev xroom (M M2 : xMI) (cs sl : Nat) : Prop := (mO M2).frames + 1 ≤ (mO M).frames ∧ 8 + (mL M2 + 11) + (mO M2).locals ≤ (mO M).locals ∧ cs + (mO M2).cells ≤ (mO M).cells ∧ sl + (mO M2).slots ≤ (mO M).slots
theorem xws_good {M2 : xMI} (h : xcw M2 ∈ xT) : GoodIn xT (xws M2) := xT_good fun w hw => (List.mem_cons.mp hw).elim (fun e => e ▸ h) id
theorem xcw_nil {M2 : xMI} (h : mH M2 = []) : xcw M2 = .code (mY M2) (mC M2) (mL M2) (mR M2) := by unfold xcw; rw [h]
section XC2
variable {M : xMI} {N0 : Nat} {Q : xQ} {QX : xQX} {cs sl pc : Nat} {lv : xLV} {st : List Value} {N : Nat} {G : xG} {A : xA} {B : xB} {D : xD}
theorem xi_callS {M2 : xMI} {av : List Value} {Q2 : xQ} {QX2 : xQX} {idx n : Nat} (hd : decode (mC M) pc = .ok (.invokestatic idx, 3)) (hw : xlS (mY M).cls idx M2 n) (hh : mH M2 = []) (hn : av.length = n) (hR : xroom M M2 cs sl) (hst : (st.map fun v => v.category).sum ≤ 8)
    (hC : xdoes M2 av N G A B D Q2 QX2)
    (kx : ∀ E N' G' A' B' D', QX2 E N' G' A' B' D' → (∀ x ∈ tableOf (mH M), covers x pc = false) ∧ QX E N' G' A' B' D' ∧ cs + (mO M2).cells ≤ (mO M).cells ∧ sl + (mO M2).slots ≤ (mO M).slots)
    (kk : ∀ r N' G' A' B' D', Q2 r N' G' A' B' D' → (N' = N ∨ (lv.all (fun q => xsc N q.2) = true ∧ st.all (xsc N) = true)) ∧ xgo M N0 Q QX (cs + (mO M2).cells) (sl + (mO M2).slots) (pc + 3) lv (r.toList ++ st) N' G' A' B' D') :
    xgo M N0 Q QX cs sl pc lv (av.reverse ++ st) N G A B D := by
  intro p l e s m args below meth c Dg cT As ad0 ad H locs ls Z hS hV hr he
  obtain ⟨hx, hb, hml, hrt, hlk, hnm, hown, hts, hsk, htb, hK, hMv, hZ, hA⟩ := id hS
  obtain ⟨w1, w2, w3, w4, w5⟩ := hw
  have hcw := xcw_nil hh
  have hpre := xpre_ok hS hV av
  rw [List.map_append, List.map_reverse]
  refine xcall hS hV hr he (vx_runS (n := n) (bytes := mC M2) (maxL := mL M2) (ret := mR M2) ⟨hx, hb, hml, hown, hts⟩ (hC l hsk Dg cT ad H.size)
    ⟨callB_of n hts (xws_good (by rw [hcw]; exact w4)) (by rw [xws, hcw]) rfl rfl (hts _ w3) (hts _ w1) w5 ⟨hR.1, hR.2.1⟩, hts _ w2⟩ hpre rfl (by rw [List.length_map]; exact hn) hV.2.2.2.2.2.1 rfl (lv_room (by
      have : (List.map (fun v => v.category) (st.map (xtr ad))) = st.map fun v => v.category := by rw [List.map_map]; exact List.map_congr_left fun v _ => xtr_cat ad v
      rw [this]; exact hst)) hd ⟨hR.2.2.1, hR.2.2.2⟩) kk kx
theorem xi_callV {M2 : xMI} {av : List Value} {Q2 : xQ} {QX2 : xQX} {idx n kr ci : Nat} {q : vw_C} (hd : decode (mC M) pc = .ok (.invokevirtual idx, 3)) (hw : xlV (mY M).cls idx M2 n) (hh : mH M2 = []) (hn : av.length = n) (hR : xroom M M2 cs sl) (hst : (st.map fun v => v.category).sum ≤ 8)
    (hg : (G kr).1 = ci + 7) (hc : vwCl[ci]? = some q) (hcn : q.1 = (mY M2).cls)
    (hC : xdoes M2 (.ref kr :: av) N G A B D Q2 QX2)
    (kx : ∀ E N' G' A' B' D', QX2 E N' G' A' B' D' → (∀ x ∈ tableOf (mH M), covers x pc = false) ∧ QX E N' G' A' B' D' ∧ cs + (mO M2).cells ≤ (mO M).cells ∧ sl + (mO M2).slots ≤ (mO M).slots)
    (kk : ∀ r N' G' A' B' D', Q2 r N' G' A' B' D' → (N' = N ∨ (lv.all (fun q => xsc N q.2) = true ∧ st.all (xsc N) = true)) ∧ xgo M N0 Q QX (cs + (mO M2).cells) (sl + (mO M2).slots) (pc + 3) lv (r.toList ++ st) N' G' A' B' D') :
    xgo M N0 Q QX cs sl pc lv (av.reverse ++ .ref kr :: st) N G A B D := by
  intro p l e s m args below meth c Dg cT As ad0 ad H locs ls Z hS hV hr he
  obtain ⟨hx, hb, hml, hrt, hlk, hnm, hown, hts, hsk, htb, hK, hMv, hZ, hA⟩ := id hS
  obtain ⟨w1, w2, w2b, w3, w4, w5⟩ := hw
  have hcw := xcw_nil hh
  have hpre := xpre_ok hS hV (.ref kr :: av)
  have hk : kr < N := hV.2.2.2.1 kr (by rw [hg]; omega)
  have hwc : (xwl ad cT N G A B D)[kr]? = some (ad kr, .inr (ci, xfl ad (A kr) (B kr) (G kr).2.2 ci)) := by rw [xwl_get hk]; unfold xent; rw [hg]; rfl
  have hrecv := va_recv hK hV.2.1 hc hwc
  rw [hcn] at hrecv
  rw [List.map_append, List.map_reverse]
  refine xcall hS hV hr he (vx_runV (n := n) (C := (mY M2).cls) (b := ad kr) (As := av.map (xtr ad)) (bytes := mC M2) (maxL := mL M2) (ret := mR M2) ⟨hx, hb, hml, hown, hts⟩ (hC l hsk Dg cT ad H.size)
    ⟨callB_of n hts (xws_good (by rw [hcw]; exact w4)) (by rw [xws, hcw]) rfl rfl (hts _ w3) (hts _ w1) w5 ⟨hR.1, hR.2.1⟩, hts _ w2, hts _ w2b⟩ ⟨hpre.1, hrecv, hpre.2⟩ rfl (by rw [List.length_map]; exact hn) hV.2.2.2.2.2.1 rfl (lv_room (by
      have : (List.map (fun v => v.category) (st.map (xtr ad))) = st.map fun v => v.category := by rw [List.map_map]; exact List.map_congr_left fun v _ => xtr_cat ad v
      rw [this]; exact hst)) hd ⟨hR.2.2.1, hR.2.2.2⟩) kk kx
end XC2
end
