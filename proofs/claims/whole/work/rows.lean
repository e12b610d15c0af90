section
-- ===== PART A: goes FIRST, ahead of the names: the tables' words, and 'selects' of the private methods out of them =====
/-- a private method of a class that the tables say can be made, by its rows of tables_1 -/
def lw_okq (q : MethodName × Nat) : Prop := (q.1.cls ≠ "java/lang/invoke/MethodHandle" ∧ q.1.cls ≠ "java/lang/invoke/VarHandle") ∧ Cond.instantiable q.1.cls q.2 ∈ tables_1 ∧ Cond.privateMethod q.1 ∈ tables_1 ∧ Cond.instanceMethod q.1 ∈ tables_1
theorem lw_p0 : lw_okq (⟨"CopyOfACopy", "refuse", "(I)I"⟩, 9) := ⟨⟨by decide +kernel, by decide +kernel⟩, List.mem_of_getElem? (i := 18) (by decide +kernel), List.mem_of_getElem? (i := 156) (by decide +kernel), List.mem_of_getElem? (i := 157) (by decide +kernel)⟩
theorem lw_p1 : lw_okq (⟨"CopyOfACopy$Text", "happens", "(LCopyOfACopy$Shop;I)Z"⟩, 2) := ⟨⟨by decide +kernel, by decide +kernel⟩, List.mem_of_getElem? (i := 111) (by decide +kernel), List.mem_of_getElem? (i := 311) (by decide +kernel), List.mem_of_getElem? (i := 312) (by decide +kernel)⟩
theorem lw_p2 : lw_okq (⟨"CopyOfACopy$Text", "digitAt", "(I)I"⟩, 2) := ⟨⟨by decide +kernel, by decide +kernel⟩, List.mem_of_getElem? (i := 111) (by decide +kernel), List.mem_of_getElem? (i := 315) (by decide +kernel), List.mem_of_getElem? (i := 316) (by decide +kernel)⟩
theorem lw_p3 : lw_okq (⟨"CopyOfACopy$Text", "letterAt", "(I)I"⟩, 2) := ⟨⟨by decide +kernel, by decide +kernel⟩, List.mem_of_getElem? (i := 111) (by decide +kernel), List.mem_of_getElem? (i := 319) (by decide +kernel), List.mem_of_getElem? (i := 320) (by decide +kernel)⟩
theorem lw_p4 : lw_okq (⟨"CopyOfACopy$Text", "readFive", "(I[I)V"⟩, 2) := ⟨⟨by decide +kernel, by decide +kernel⟩, List.mem_of_getElem? (i := 111) (by decide +kernel), List.mem_of_getElem? (i := 325) (by decide +kernel), List.mem_of_getElem? (i := 326) (by decide +kernel)⟩
theorem lw_p5 : lw_okq (⟨"CopyOfACopy$Text", "twoDigitsAt", "(I)I"⟩, 2) := ⟨⟨by decide +kernel, by decide +kernel⟩, List.mem_of_getElem? (i := 111) (by decide +kernel), List.mem_of_getElem? (i := 329) (by decide +kernel), List.mem_of_getElem? (i := 330) (by decide +kernel)⟩
theorem lw_p6 : lw_okq (⟨"CopyOfACopy$Text", "keyComes", "(LCopyOfACopy$Shop;I)Z"⟩, 2) := ⟨⟨by decide +kernel, by decide +kernel⟩, List.mem_of_getElem? (i := 111) (by decide +kernel), List.mem_of_getElem? (i := 333) (by decide +kernel), List.mem_of_getElem? (i := 334) (by decide +kernel)⟩
theorem lw_p7 : lw_okq (⟨"CopyOfACopy$Text", "kindAt", "(I)I"⟩, 2) := ⟨⟨by decide +kernel, by decide +kernel⟩, List.mem_of_getElem? (i := 111) (by decide +kernel), List.mem_of_getElem? (i := 341) (by decide +kernel), List.mem_of_getElem? (i := 342) (by decide +kernel)⟩
theorem lw_p8 : lw_okq (⟨"CopyOfACopy$Mind", "takeKey", "(LCopyOfACopy$Shop;I)V"⟩, 3) := ⟨⟨by decide +kernel, by decide +kernel⟩, List.mem_of_getElem? (i := 95) (by decide +kernel), List.mem_of_getElem? (i := 564) (by decide +kernel), List.mem_of_getElem? (i := 565) (by decide +kernel)⟩
theorem lw_p9 : lw_okq (⟨"CopyOfACopy$Mind", "cutCopyBy", "(LCopyOfACopy$Shop;I)V"⟩, 3) := ⟨⟨by decide +kernel, by decide +kernel⟩, List.mem_of_getElem? (i := 95) (by decide +kernel), List.mem_of_getElem? (i := 569) (by decide +kernel), List.mem_of_getElem? (i := 570) (by decide +kernel)⟩
theorem lw_p10 : lw_okq (⟨"CopyOfACopy$Mind", "cutCopy", "(II)V"⟩, 3) := ⟨⟨by decide +kernel, by decide +kernel⟩, List.mem_of_getElem? (i := 95) (by decide +kernel), List.mem_of_getElem? (i := 573) (by decide +kernel), List.mem_of_getElem? (i := 574) (by decide +kernel)⟩
theorem lw_p11 : lw_okq (⟨"CopyOfACopy$Mind", "opensWorn", "(LCopyOfACopy$Shop;II)Z"⟩, 3) := ⟨⟨by decide +kernel, by decide +kernel⟩, List.mem_of_getElem? (i := 95) (by decide +kernel), List.mem_of_getElem? (i := 601) (by decide +kernel), List.mem_of_getElem? (i := 602) (by decide +kernel)⟩
theorem lw_p12 : lw_okq (⟨"CopyOfACopy$Mind", "wholeKeysWithin", "(LCopyOfACopy$Shop;II)I"⟩, 3) := ⟨⟨by decide +kernel, by decide +kernel⟩, List.mem_of_getElem? (i := 95) (by decide +kernel), List.mem_of_getElem? (i := 625) (by decide +kernel), List.mem_of_getElem? (i := 626) (by decide +kernel)⟩
theorem lw_p13 : lw_okq (⟨"CopyOfACopy$Mind", "teethWithin", "(LCopyOfACopy$Shop;I[I)I"⟩, 3) := ⟨⟨by decide +kernel, by decide +kernel⟩, List.mem_of_getElem? (i := 95) (by decide +kernel), List.mem_of_getElem? (i := 629) (by decide +kernel), List.mem_of_getElem? (i := 630) (by decide +kernel)⟩
theorem lw_p14 : lw_okq (⟨"CopyOfACopy$Mind", "middleHeight", "(LCopyOfACopy$Shop;II)I"⟩, 3) := ⟨⟨by decide +kernel, by decide +kernel⟩, List.mem_of_getElem? (i := 95) (by decide +kernel), List.mem_of_getElem? (i := 643) (by decide +kernel), List.mem_of_getElem? (i := 644) (by decide +kernel)⟩
theorem lw_p15 : lw_okq (⟨"CopyOfACopy$Mind", "isEnough", "(LCopyOfACopy$Shop;I)Z"⟩, 3) := ⟨⟨by decide +kernel, by decide +kernel⟩, List.mem_of_getElem? (i := 95) (by decide +kernel), List.mem_of_getElem? (i := 705) (by decide +kernel), List.mem_of_getElem? (i := 706) (by decide +kernel)⟩
def lw_privs_1 : List (MethodName × Nat) := [(⟨"CopyOfACopy", "refuse", "(I)I"⟩, 9), (⟨"CopyOfACopy$Text", "happens", "(LCopyOfACopy$Shop;I)Z"⟩, 2), (⟨"CopyOfACopy$Text", "digitAt", "(I)I"⟩, 2), (⟨"CopyOfACopy$Text", "letterAt", "(I)I"⟩, 2), (⟨"CopyOfACopy$Text", "readFive", "(I[I)V"⟩, 2), (⟨"CopyOfACopy$Text", "twoDigitsAt", "(I)I"⟩, 2), (⟨"CopyOfACopy$Text", "keyComes", "(LCopyOfACopy$Shop;I)Z"⟩, 2), (⟨"CopyOfACopy$Text", "kindAt", "(I)I"⟩, 2), (⟨"CopyOfACopy$Mind", "takeKey", "(LCopyOfACopy$Shop;I)V"⟩, 3), (⟨"CopyOfACopy$Mind", "cutCopyBy", "(LCopyOfACopy$Shop;I)V"⟩, 3), (⟨"CopyOfACopy$Mind", "cutCopy", "(II)V"⟩, 3), (⟨"CopyOfACopy$Mind", "opensWorn", "(LCopyOfACopy$Shop;II)Z"⟩, 3), (⟨"CopyOfACopy$Mind", "wholeKeysWithin", "(LCopyOfACopy$Shop;II)I"⟩, 3), (⟨"CopyOfACopy$Mind", "teethWithin", "(LCopyOfACopy$Shop;I[I)I"⟩, 3), (⟨"CopyOfACopy$Mind", "middleHeight", "(LCopyOfACopy$Shop;II)I"⟩, 3), (⟨"CopyOfACopy$Mind", "isEnough", "(LCopyOfACopy$Shop;I)Z"⟩, 3)]
theorem lw_r1 : ∀ q ∈ lw_privs_1, lw_okq q := List.forall_mem_cons.mpr ⟨lw_p0, List.forall_mem_cons.mpr ⟨lw_p1, List.forall_mem_cons.mpr ⟨lw_p2, List.forall_mem_cons.mpr ⟨lw_p3, List.forall_mem_cons.mpr ⟨lw_p4, List.forall_mem_cons.mpr ⟨lw_p5, List.forall_mem_cons.mpr ⟨lw_p6, List.forall_mem_cons.mpr ⟨lw_p7, List.forall_mem_cons.mpr ⟨lw_p8, List.forall_mem_cons.mpr ⟨lw_p9, List.forall_mem_cons.mpr ⟨lw_p10, List.forall_mem_cons.mpr ⟨lw_p11, List.forall_mem_cons.mpr ⟨lw_p12, List.forall_mem_cons.mpr ⟨lw_p13, List.forall_mem_cons.mpr ⟨lw_p14, List.forall_mem_cons.mpr ⟨lw_p15, fun _ h => absurd h List.not_mem_nil⟩⟩⟩⟩⟩⟩⟩⟩⟩⟩⟩⟩⟩⟩⟩⟩
theorem lw_p16 : lw_okq (⟨"CopyOfACopy$Mind", "lastCopyFits", "(LCopyOfACopy$Shop;IIII)Z"⟩, 3) := ⟨⟨by decide +kernel, by decide +kernel⟩, List.mem_of_getElem? (i := 95) (by decide +kernel), List.mem_of_getElem? (i := 719) (by decide +kernel), List.mem_of_getElem? (i := 720) (by decide +kernel)⟩
theorem lw_p17 : lw_okq (⟨"CopyOfACopy$Mind", "isSteady", "(LCopyOfACopy$Shop;IIII)Z"⟩, 3) := ⟨⟨by decide +kernel, by decide +kernel⟩, List.mem_of_getElem? (i := 95) (by decide +kernel), List.mem_of_getElem? (i := 741) (by decide +kernel), List.mem_of_getElem? (i := 742) (by decide +kernel)⟩
theorem lw_p18 : lw_okq (⟨"CopyOfACopy$Mind", "cutTwice", "(LCopyOfACopy$Shop;IIII)I"⟩, 3) := ⟨⟨by decide +kernel, by decide +kernel⟩, List.mem_of_getElem? (i := 95) (by decide +kernel), List.mem_of_getElem? (i := 745) (by decide +kernel), List.mem_of_getElem? (i := 746) (by decide +kernel)⟩
theorem lw_p19 : lw_okq (⟨"CopyOfACopy$Mind", "cutsSo", "(LCopyOfACopy$Shop;III[I)Z"⟩, 3) := ⟨⟨by decide +kernel, by decide +kernel⟩, List.mem_of_getElem? (i := 95) (by decide +kernel), List.mem_of_getElem? (i := 758) (by decide +kernel), List.mem_of_getElem? (i := 759) (by decide +kernel)⟩
theorem lw_p20 : lw_okq (⟨"CopyOfACopy", "firstToldWrong", "([I)I"⟩, 9) := ⟨⟨by decide +kernel, by decide +kernel⟩, List.mem_of_getElem? (i := 18) (by decide +kernel), List.mem_of_getElem? (i := 774) (by decide +kernel), List.mem_of_getElem? (i := 775) (by decide +kernel)⟩
theorem lw_p21 : lw_okq (⟨"CopyOfACopy$Mind", "drawBelow", "(I)I"⟩, 3) := ⟨⟨by decide +kernel, by decide +kernel⟩, List.mem_of_getElem? (i := 95) (by decide +kernel), List.mem_of_getElem? (i := 790) (by decide +kernel), List.mem_of_getElem? (i := 791) (by decide +kernel)⟩
theorem lw_p22 : lw_okq (⟨"CopyOfACopyModel", "no", "(I)I"⟩, 13) := ⟨⟨by decide +kernel, by decide +kernel⟩, List.mem_of_getElem? (i := 813) (by decide +kernel), List.mem_of_getElem? (i := 863) (by decide +kernel), List.mem_of_getElem? (i := 864) (by decide +kernel)⟩
theorem lw_p23 : lw_okq (⟨"CopyOfACopyModel", "readsStatement", "()Z"⟩, 13) := ⟨⟨by decide +kernel, by decide +kernel⟩, List.mem_of_getElem? (i := 813) (by decide +kernel), List.mem_of_getElem? (i := 871) (by decide +kernel), List.mem_of_getElem? (i := 872) (by decide +kernel)⟩
theorem lw_p24 : lw_okq (⟨"CopyOfACopyModel", "here", "()I"⟩, 13) := ⟨⟨by decide +kernel, by decide +kernel⟩, List.mem_of_getElem? (i := 813) (by decide +kernel), List.mem_of_getElem? (i := 875) (by decide +kernel), List.mem_of_getElem? (i := 876) (by decide +kernel)⟩
theorem lw_p25 : lw_okq (⟨"CopyOfACopyModel", "readsFive", "()Z"⟩, 13) := ⟨⟨by decide +kernel, by decide +kernel⟩, List.mem_of_getElem? (i := 813) (by decide +kernel), List.mem_of_getElem? (i := 879) (by decide +kernel), List.mem_of_getElem? (i := 880) (by decide +kernel)⟩
theorem lw_p26 : lw_okq (⟨"CopyOfACopyModel", "readsNumber", "(II)Z"⟩, 13) := ⟨⟨by decide +kernel, by decide +kernel⟩, List.mem_of_getElem? (i := 813) (by decide +kernel), List.mem_of_getElem? (i := 883) (by decide +kernel), List.mem_of_getElem? (i := 884) (by decide +kernel)⟩
theorem lw_p27 : lw_okq (⟨"CopyOfACopyModel", "readsKind", "()Z"⟩, 13) := ⟨⟨by decide +kernel, by decide +kernel⟩, List.mem_of_getElem? (i := 813) (by decide +kernel), List.mem_of_getElem? (i := 890) (by decide +kernel), List.mem_of_getElem? (i := 891) (by decide +kernel)⟩
theorem lw_p28 : lw_okq (⟨"CopyOfACopyModel", "isDone", "(I)Z"⟩, 13) := ⟨⟨by decide +kernel, by decide +kernel⟩, List.mem_of_getElem? (i := 813) (by decide +kernel), List.mem_of_getElem? (i := 900) (by decide +kernel), List.mem_of_getElem? (i := 901) (by decide +kernel)⟩
theorem lw_p29 : lw_okq (⟨"CopyOfACopyModel", "isKey", "(I)Z"⟩, 13) := ⟨⟨by decide +kernel, by decide +kernel⟩, List.mem_of_getElem? (i := 813) (by decide +kernel), List.mem_of_getElem? (i := 907) (by decide +kernel), List.mem_of_getElem? (i := 908) (by decide +kernel)⟩
theorem lw_p30 : lw_okq (⟨"CopyOfACopyModel", "isSnapped", "(I)Z"⟩, 13) := ⟨⟨by decide +kernel, by decide +kernel⟩, List.mem_of_getElem? (i := 813) (by decide +kernel), List.mem_of_getElem? (i := 911) (by decide +kernel), List.mem_of_getElem? (i := 912) (by decide +kernel)⟩
theorem lw_p31 : lw_okq (⟨"CopyOfACopyModel", "isMachine", "(I)Z"⟩, 13) := ⟨⟨by decide +kernel, by decide +kernel⟩, List.mem_of_getElem? (i := 813) (by decide +kernel), List.mem_of_getElem? (i := 915) (by decide +kernel), List.mem_of_getElem? (i := 916) (by decide +kernel)⟩
def lw_privs_2 : List (MethodName × Nat) := [(⟨"CopyOfACopy$Mind", "lastCopyFits", "(LCopyOfACopy$Shop;IIII)Z"⟩, 3), (⟨"CopyOfACopy$Mind", "isSteady", "(LCopyOfACopy$Shop;IIII)Z"⟩, 3), (⟨"CopyOfACopy$Mind", "cutTwice", "(LCopyOfACopy$Shop;IIII)I"⟩, 3), (⟨"CopyOfACopy$Mind", "cutsSo", "(LCopyOfACopy$Shop;III[I)Z"⟩, 3), (⟨"CopyOfACopy", "firstToldWrong", "([I)I"⟩, 9), (⟨"CopyOfACopy$Mind", "drawBelow", "(I)I"⟩, 3), (⟨"CopyOfACopyModel", "no", "(I)I"⟩, 13), (⟨"CopyOfACopyModel", "readsStatement", "()Z"⟩, 13), (⟨"CopyOfACopyModel", "here", "()I"⟩, 13), (⟨"CopyOfACopyModel", "readsFive", "()Z"⟩, 13), (⟨"CopyOfACopyModel", "readsNumber", "(II)Z"⟩, 13), (⟨"CopyOfACopyModel", "readsKind", "()Z"⟩, 13), (⟨"CopyOfACopyModel", "isDone", "(I)Z"⟩, 13), (⟨"CopyOfACopyModel", "isKey", "(I)Z"⟩, 13), (⟨"CopyOfACopyModel", "isSnapped", "(I)Z"⟩, 13), (⟨"CopyOfACopyModel", "isMachine", "(I)Z"⟩, 13)]
theorem lw_r2 : ∀ q ∈ lw_privs_2, lw_okq q := List.forall_mem_cons.mpr ⟨lw_p16, List.forall_mem_cons.mpr ⟨lw_p17, List.forall_mem_cons.mpr ⟨lw_p18, List.forall_mem_cons.mpr ⟨lw_p19, List.forall_mem_cons.mpr ⟨lw_p20, List.forall_mem_cons.mpr ⟨lw_p21, List.forall_mem_cons.mpr ⟨lw_p22, List.forall_mem_cons.mpr ⟨lw_p23, List.forall_mem_cons.mpr ⟨lw_p24, List.forall_mem_cons.mpr ⟨lw_p25, List.forall_mem_cons.mpr ⟨lw_p26, List.forall_mem_cons.mpr ⟨lw_p27, List.forall_mem_cons.mpr ⟨lw_p28, List.forall_mem_cons.mpr ⟨lw_p29, List.forall_mem_cons.mpr ⟨lw_p30, List.forall_mem_cons.mpr ⟨lw_p31, fun _ h => absurd h List.not_mem_nil⟩⟩⟩⟩⟩⟩⟩⟩⟩⟩⟩⟩⟩⟩⟩⟩
theorem lw_p32 : lw_okq (⟨"CopyOfACopyModel", "cuts", "(II)I"⟩, 13) := ⟨⟨by decide +kernel, by decide +kernel⟩, List.mem_of_getElem? (i := 813) (by decide +kernel), List.mem_of_getElem? (i := 919) (by decide +kernel), List.mem_of_getElem? (i := 920) (by decide +kernel)⟩
theorem lw_p33 : lw_okq (⟨"CopyOfACopyModel", "takes", "(I)V"⟩, 13) := ⟨⟨by decide +kernel, by decide +kernel⟩, List.mem_of_getElem? (i := 813) (by decide +kernel), List.mem_of_getElem? (i := 923) (by decide +kernel), List.mem_of_getElem? (i := 924) (by decide +kernel)⟩
theorem lw_p34 : lw_okq (⟨"CopyOfACopyModel", "cutsBy", "(II)V"⟩, 13) := ⟨⟨by decide +kernel, by decide +kernel⟩, List.mem_of_getElem? (i := 813) (by decide +kernel), List.mem_of_getElem? (i := 927) (by decide +kernel), List.mem_of_getElem? (i := 928) (by decide +kernel)⟩
theorem lw_p35 : lw_okq (⟨"CopyOfACopyModel", "cutsIn", "(II)V"⟩, 13) := ⟨⟨by decide +kernel, by decide +kernel⟩, List.mem_of_getElem? (i := 813) (by decide +kernel), List.mem_of_getElem? (i := 931) (by decide +kernel), List.mem_of_getElem? (i := 932) (by decide +kernel)⟩
theorem lw_p36 : lw_okq (⟨"CopyOfACopyModel", "used", "(II)V"⟩, 13) := ⟨⟨by decide +kernel, by decide +kernel⟩, List.mem_of_getElem? (i := 813) (by decide +kernel), List.mem_of_getElem? (i := 950) (by decide +kernel), List.mem_of_getElem? (i := 951) (by decide +kernel)⟩
theorem lw_p37 : lw_okq (⟨"CopyOfACopyModel", "opens", "(I)Z"⟩, 13) := ⟨⟨by decide +kernel, by decide +kernel⟩, List.mem_of_getElem? (i := 813) (by decide +kernel), List.mem_of_getElem? (i := 965) (by decide +kernel), List.mem_of_getElem? (i := 966) (by decide +kernel)⟩
theorem lw_p38 : lw_okq (⟨"CopyOfACopyModel", "opensIn", "()Z"⟩, 13) := ⟨⟨by decide +kernel, by decide +kernel⟩, List.mem_of_getElem? (i := 813) (by decide +kernel), List.mem_of_getElem? (i := 969) (by decide +kernel), List.mem_of_getElem? (i := 970) (by decide +kernel)⟩
theorem lw_p39 : lw_okq (⟨"CopyOfACopyModel", "fitIn", "()I"⟩, 13) := ⟨⟨by decide +kernel, by decide +kernel⟩, List.mem_of_getElem? (i := 813) (by decide +kernel), List.mem_of_getElem? (i := 973) (by decide +kernel), List.mem_of_getElem? (i := 974) (by decide +kernel)⟩
theorem lw_p40 : lw_okq (⟨"CopyOfACopyModel", "wiggleOf", "(I)I"⟩, 13) := ⟨⟨by decide +kernel, by decide +kernel⟩, List.mem_of_getElem? (i := 813) (by decide +kernel), List.mem_of_getElem? (i := 980) (by decide +kernel), List.mem_of_getElem? (i := 981) (by decide +kernel)⟩
theorem lw_p41 : lw_okq (⟨"CopyOfACopyModel", "wiggle", "()I"⟩, 13) := ⟨⟨by decide +kernel, by decide +kernel⟩, List.mem_of_getElem? (i := 813) (by decide +kernel), List.mem_of_getElem? (i := 984) (by decide +kernel), List.mem_of_getElem? (i := 985) (by decide +kernel)⟩
theorem lw_p42 : lw_okq (⟨"CopyOfACopyModel", "worstOf", "(I)I"⟩, 13) := ⟨⟨by decide +kernel, by decide +kernel⟩, List.mem_of_getElem? (i := 813) (by decide +kernel), List.mem_of_getElem? (i := 988) (by decide +kernel), List.mem_of_getElem? (i := 989) (by decide +kernel)⟩
theorem lw_p43 : lw_okq (⟨"CopyOfACopyModel", "depthOf", "(I)I"⟩, 13) := ⟨⟨by decide +kernel, by decide +kernel⟩, List.mem_of_getElem? (i := 813) (by decide +kernel), List.mem_of_getElem? (i := 1035) (by decide +kernel), List.mem_of_getElem? (i := 1036) (by decide +kernel)⟩
theorem lw_p44 : lw_okq (⟨"CopyOfACopyModel", "fromOf", "(I)I"⟩, 13) := ⟨⟨by decide +kernel, by decide +kernel⟩, List.mem_of_getElem? (i := 813) (by decide +kernel), List.mem_of_getElem? (i := 1039) (by decide +kernel), List.mem_of_getElem? (i := 1040) (by decide +kernel)⟩
theorem lw_p45 : lw_okq (⟨"CopyOfACopyModel", "heirs", "(I)I"⟩, 13) := ⟨⟨by decide +kernel, by decide +kernel⟩, List.mem_of_getElem? (i := 813) (by decide +kernel), List.mem_of_getElem? (i := 1043) (by decide +kernel), List.mem_of_getElem? (i := 1044) (by decide +kernel)⟩
theorem lw_p46 : lw_okq (⟨"CopyOfACopyModel", "isHeir", "(II)Z"⟩, 13) := ⟨⟨by decide +kernel, by decide +kernel⟩, List.mem_of_getElem? (i := 813) (by decide +kernel), List.mem_of_getElem? (i := 1047) (by decide +kernel), List.mem_of_getElem? (i := 1048) (by decide +kernel)⟩
theorem lw_p47 : lw_okq (⟨"CopyOfACopyModel", "anewOf", "(I)I"⟩, 13) := ⟨⟨by decide +kernel, by decide +kernel⟩, List.mem_of_getElem? (i := 813) (by decide +kernel), List.mem_of_getElem? (i := 1080) (by decide +kernel), List.mem_of_getElem? (i := 1081) (by decide +kernel)⟩
def lw_privs_3 : List (MethodName × Nat) := [(⟨"CopyOfACopyModel", "cuts", "(II)I"⟩, 13), (⟨"CopyOfACopyModel", "takes", "(I)V"⟩, 13), (⟨"CopyOfACopyModel", "cutsBy", "(II)V"⟩, 13), (⟨"CopyOfACopyModel", "cutsIn", "(II)V"⟩, 13), (⟨"CopyOfACopyModel", "used", "(II)V"⟩, 13), (⟨"CopyOfACopyModel", "opens", "(I)Z"⟩, 13), (⟨"CopyOfACopyModel", "opensIn", "()Z"⟩, 13), (⟨"CopyOfACopyModel", "fitIn", "()I"⟩, 13), (⟨"CopyOfACopyModel", "wiggleOf", "(I)I"⟩, 13), (⟨"CopyOfACopyModel", "wiggle", "()I"⟩, 13), (⟨"CopyOfACopyModel", "worstOf", "(I)I"⟩, 13), (⟨"CopyOfACopyModel", "depthOf", "(I)I"⟩, 13), (⟨"CopyOfACopyModel", "fromOf", "(I)I"⟩, 13), (⟨"CopyOfACopyModel", "heirs", "(I)I"⟩, 13), (⟨"CopyOfACopyModel", "isHeir", "(II)Z"⟩, 13), (⟨"CopyOfACopyModel", "anewOf", "(I)I"⟩, 13)]
theorem lw_r3 : ∀ q ∈ lw_privs_3, lw_okq q := List.forall_mem_cons.mpr ⟨lw_p32, List.forall_mem_cons.mpr ⟨lw_p33, List.forall_mem_cons.mpr ⟨lw_p34, List.forall_mem_cons.mpr ⟨lw_p35, List.forall_mem_cons.mpr ⟨lw_p36, List.forall_mem_cons.mpr ⟨lw_p37, List.forall_mem_cons.mpr ⟨lw_p38, List.forall_mem_cons.mpr ⟨lw_p39, List.forall_mem_cons.mpr ⟨lw_p40, List.forall_mem_cons.mpr ⟨lw_p41, List.forall_mem_cons.mpr ⟨lw_p42, List.forall_mem_cons.mpr ⟨lw_p43, List.forall_mem_cons.mpr ⟨lw_p44, List.forall_mem_cons.mpr ⟨lw_p45, List.forall_mem_cons.mpr ⟨lw_p46, List.forall_mem_cons.mpr ⟨lw_p47, fun _ h => absurd h List.not_mem_nil⟩⟩⟩⟩⟩⟩⟩⟩⟩⟩⟩⟩⟩⟩⟩⟩
theorem lw_p48 : lw_okq (⟨"CopyOfACopyModel", "wrongSet", "(I)I"⟩, 13) := ⟨⟨by decide +kernel, by decide +kernel⟩, List.mem_of_getElem? (i := 813) (by decide +kernel), List.mem_of_getElem? (i := 1088) (by decide +kernel), List.mem_of_getElem? (i := 1089) (by decide +kernel)⟩
theorem lw_p49 : lw_okq (⟨"CopyOfACopyModel", "middle", "(II)I"⟩, 13) := ⟨⟨by decide +kernel, by decide +kernel⟩, List.mem_of_getElem? (i := 813) (by decide +kernel), List.mem_of_getElem? (i := 1092) (by decide +kernel), List.mem_of_getElem? (i := 1093) (by decide +kernel)⟩
theorem lw_p50 : lw_okq (⟨"CopyOfACopyModel", "noFar", "(I)I"⟩, 13) := ⟨⟨by decide +kernel, by decide +kernel⟩, List.mem_of_getElem? (i := 813) (by decide +kernel), List.mem_of_getElem? (i := 1110) (by decide +kernel), List.mem_of_getElem? (i := 1111) (by decide +kernel)⟩
theorem lw_p51 : lw_okq (⟨"CopyOfACopyModel", "lineOf", "(I)I"⟩, 13) := ⟨⟨by decide +kernel, by decide +kernel⟩, List.mem_of_getElem? (i := 813) (by decide +kernel), List.mem_of_getElem? (i := 1118) (by decide +kernel), List.mem_of_getElem? (i := 1119) (by decide +kernel)⟩
theorem lw_p52 : lw_okq (⟨"CopyOfACopyModel", "noWide", "(I)J"⟩, 13) := ⟨⟨by decide +kernel, by decide +kernel⟩, List.mem_of_getElem? (i := 813) (by decide +kernel), List.mem_of_getElem? (i := 1138) (by decide +kernel), List.mem_of_getElem? (i := 1139) (by decide +kernel)⟩
theorem lw_p53 : lw_okq (⟨"CopyOfACopyModel", "lastHeight", "(IIII)I"⟩, 13) := ⟨⟨by decide +kernel, by decide +kernel⟩, List.mem_of_getElem? (i := 813) (by decide +kernel), List.mem_of_getElem? (i := 1153) (by decide +kernel), List.mem_of_getElem? (i := 1154) (by decide +kernel)⟩
theorem lw_p54 : lw_okq (⟨"CopyOfACopyModel", "isTold", "()Z"⟩, 13) := ⟨⟨by decide +kernel, by decide +kernel⟩, List.mem_of_getElem? (i := 813) (by decide +kernel), List.mem_of_getElem? (i := 1161) (by decide +kernel), List.mem_of_getElem? (i := 1162) (by decide +kernel)⟩
theorem lw_p55 : lw_okq (⟨"CopyOfACopyModel", "drawn", "(I)I"⟩, 13) := ⟨⟨by decide +kernel, by decide +kernel⟩, List.mem_of_getElem? (i := 813) (by decide +kernel), List.mem_of_getElem? (i := 1181) (by decide +kernel), List.mem_of_getElem? (i := 1182) (by decide +kernel)⟩
theorem lw_p56 : lw_okq (⟨"CopyOfACopyModel", "openMany", "()I"⟩, 13) := ⟨⟨by decide +kernel, by decide +kernel⟩, List.mem_of_getElem? (i := 813) (by decide +kernel), List.mem_of_getElem? (i := 1200) (by decide +kernel), List.mem_of_getElem? (i := 1201) (by decide +kernel)⟩
def lw_privs_4 : List (MethodName × Nat) := [(⟨"CopyOfACopyModel", "wrongSet", "(I)I"⟩, 13), (⟨"CopyOfACopyModel", "middle", "(II)I"⟩, 13), (⟨"CopyOfACopyModel", "noFar", "(I)I"⟩, 13), (⟨"CopyOfACopyModel", "lineOf", "(I)I"⟩, 13), (⟨"CopyOfACopyModel", "noWide", "(I)J"⟩, 13), (⟨"CopyOfACopyModel", "lastHeight", "(IIII)I"⟩, 13), (⟨"CopyOfACopyModel", "isTold", "()Z"⟩, 13), (⟨"CopyOfACopyModel", "drawn", "(I)I"⟩, 13), (⟨"CopyOfACopyModel", "openMany", "()I"⟩, 13)]
theorem lw_r4 : ∀ q ∈ lw_privs_4, lw_okq q := List.forall_mem_cons.mpr ⟨lw_p48, List.forall_mem_cons.mpr ⟨lw_p49, List.forall_mem_cons.mpr ⟨lw_p50, List.forall_mem_cons.mpr ⟨lw_p51, List.forall_mem_cons.mpr ⟨lw_p52, List.forall_mem_cons.mpr ⟨lw_p53, List.forall_mem_cons.mpr ⟨lw_p54, List.forall_mem_cons.mpr ⟨lw_p55, List.forall_mem_cons.mpr ⟨lw_p56, fun _ h => absurd h List.not_mem_nil⟩⟩⟩⟩⟩⟩⟩⟩⟩
def lw_privs : List (MethodName × Nat) := lw_privs_1 ++ (lw_privs_2 ++ (lw_privs_3 ++ (lw_privs_4)))
def lw_tbl : List Cond := k2_sels lw_privs ++ tables_1
theorem lw_privs_ok : ∀ q ∈ lw_privs, lw_okq q := by
  show ∀ q ∈ lw_privs_1 ++ (lw_privs_2 ++ (lw_privs_3 ++ (lw_privs_4))), lw_okq q
  exact List.forall_mem_append.mpr ⟨lw_r1, List.forall_mem_append.mpr ⟨lw_r2, List.forall_mem_append.mpr ⟨lw_r3, lw_r4⟩⟩⟩
end
section
def RX0 : String := "CopyOfACopy$Cutter"
def TX0 : u_T := fun k => match k with
  | _ => ("", "", "", false)
def tyX0 : Nat → FieldType := fun k => match k with
  | _ => .int
abbrev wsX00 : List Cond := u_ws RX0 TX0 0
theorem nmX0 : ∀ a, a < 0 → ∀ b, b < 0 → a ≠ b → (TX0 a).2.1 ≠ (TX0 b).2.1 := by decide +kernel
theorem tyX0_ok : ∀ k, k < 0 → parseFieldDescriptor (TX0 k).2.2.1 = some (tyX0 k) := by decide +kernel
abbrev cX0_cutHeight : ByteArray := prog_2_method_2_code
def yX0_cutHeight : MethodName := ⟨RX0, "cutHeight", "(IIII)I"⟩
abbrev cX0_held : ByteArray := prog_2_method_3_code
def yX0_held : MethodName := ⟨RX0, "held", "(I)I"⟩
abbrev cX0_nearestTen : ByteArray := prog_2_method_4_code
def yX0_nearestTen : MethodName := ⟨RX0, "nearestTen", "(I)I"⟩
abbrev cX0_codeOf : ByteArray := prog_2_method_5_code
def yX0_codeOf : MethodName := ⟨RX0, "codeOf", "(I)I"⟩
def RX1 : String := "CopyOfACopy$Family"
def TX1 : u_T := fun k => match k with
  | _ => ("", "", "", false)
def tyX1 : Nat → FieldType := fun k => match k with
  | _ => .int
abbrev wsX10 : List Cond := u_ws RX1 TX1 0
theorem nmX1 : ∀ a, a < 0 → ∀ b, b < 0 → a ≠ b → (TX1 a).2.1 ≠ (TX1 b).2.1 := by decide +kernel
theorem tyX1_ok : ∀ k, k < 0 → parseFieldDescriptor (TX1 k).2.2.1 = some (tyX1 k) := by decide +kernel
abbrev cX1_depthOf : ByteArray := prog_3_method_2_code
def yX1_depthOf : MethodName := ⟨RX1, "depthOf", "(LCopyOfACopy$Shop;I)I"⟩
abbrev cX1_rootOf : ByteArray := prog_3_method_3_code
def yX1_rootOf : MethodName := ⟨RX1, "rootOf", "(LCopyOfACopy$Shop;I)I"⟩
abbrev cX1_childrenOf : ByteArray := prog_3_method_4_code
def yX1_childrenOf : MethodName := ⟨RX1, "childrenOf", "(LCopyOfACopy$Shop;I)I"⟩
abbrev cX1_heirsOf : ByteArray := prog_3_method_5_code
def yX1_heirsOf : MethodName := ⟨RX1, "heirsOf", "(LCopyOfACopy$Shop;I)I"⟩
abbrev cX1_commonOf : ByteArray := prog_3_method_6_code
def yX1_commonOf : MethodName := ⟨RX1, "commonOf", "(LCopyOfACopy$Shop;II)I"⟩
abbrev cX1_openHeirsOf : ByteArray := prog_3_method_7_code
def yX1_openHeirsOf : MethodName := ⟨RX1, "openHeirsOf", "(LCopyOfACopy$Shop;I)I"⟩
abbrev cX1_bestRoot : ByteArray := prog_3_method_8_code
def yX1_bestRoot : MethodName := ⟨RX1, "bestRoot", "(LCopyOfACopy$Shop;)I"⟩
abbrev cX1_whomToAsk : ByteArray := prog_3_method_9_code
def yX1_whomToAsk : MethodName := ⟨RX1, "whomToAsk", "(LCopyOfACopy$Shop;I)I"⟩
abbrev cX1_childBits : ByteArray := prog_3_method_10_code
def yX1_childBits : MethodName := ⟨RX1, "childBits", "(LCopyOfACopy$Shop;I)I"⟩
abbrev cX1_elders : ByteArray := prog_3_method_11_code
def yX1_elders : MethodName := ⟨RX1, "elders", "(LCopyOfACopy$Shop;I)I"⟩
def RX2 : String := "CopyOfACopy$Mind"
def TX2 : u_T := fun k => match k with
  | 0 => ("CopyOfACopy$Mind", "copy", "[I", true)
  | 1 => ("CopyOfACopy$Mind", "within", "[I", true)
  | _ => ("CopyOfACopy$Mind", "seed", "I", false)
def tyX2 : Nat → FieldType := fun k => match k with
  | 0 => .array .int
  | 1 => .array .int
  | _ => .int
abbrev wsX20 : List Cond := u_ws RX2 TX2 3
theorem nmX2 : ∀ a, a < 3 → ∀ b, b < 3 → a ≠ b → (TX2 a).2.1 ≠ (TX2 b).2.1 := by decide +kernel
theorem tyX2_ok : ∀ k, k < 3 → parseFieldDescriptor (TX2 k).2.2.1 = some (tyX2 k) := by decide +kernel
abbrev cX2_init : ByteArray := prog_4_method_1_code
def yX2_init : MethodName := ⟨RX2, "<init>", "()V"⟩
abbrev cX2_takeKey : ByteArray := prog_4_method_2_code
def yX2_takeKey : MethodName := ⟨RX2, "takeKey", "(LCopyOfACopy$Shop;I)V"⟩
abbrev cX2_cutCopy : ByteArray := prog_4_method_3_code
def yX2_cutCopy : MethodName := ⟨RX2, "cutCopy", "(II)V"⟩
abbrev cX2_cutCopyBy : ByteArray := prog_4_method_4_code
def yX2_cutCopyBy : MethodName := ⟨RX2, "cutCopyBy", "(LCopyOfACopy$Shop;I)V"⟩
abbrev cX2_bestNext : ByteArray := prog_4_method_5_code
def yX2_bestNext : MethodName := ⟨RX2, "bestNext", "(LCopyOfACopy$Shop;Z)I"⟩
abbrev cX2_copiesThatOpen : ByteArray := prog_4_method_6_code
def yX2_copiesThatOpen : MethodName := ⟨RX2, "copiesThatOpen", "(LCopyOfACopy$Shop;II)I"⟩
abbrev cX2_toothThatGoesFirst : ByteArray := prog_4_method_7_code
def yX2_toothThatGoesFirst : MethodName := ⟨RX2, "toothThatGoesFirst", "(LCopyOfACopy$Shop;II)I"⟩
abbrev cX2_usesTillShut : ByteArray := prog_4_method_8_code
def yX2_usesTillShut : MethodName := ⟨RX2, "usesTillShut", "(LCopyOfACopy$Shop;I)I"⟩
abbrev cX2_opensWorn : ByteArray := prog_4_method_9_code
def yX2_opensWorn : MethodName := ⟨RX2, "opensWorn", "(LCopyOfACopy$Shop;II)Z"⟩
abbrev cX2_pinAnew : ByteArray := prog_4_method_10_code
def yX2_pinAnew : MethodName := ⟨RX2, "pinAnew", "(LCopyOfACopy$Shop;I)I"⟩
abbrev cX2_wholeKeysWithin : ByteArray := prog_4_method_11_code
def yX2_wholeKeysWithin : MethodName := ⟨RX2, "wholeKeysWithin", "(LCopyOfACopy$Shop;II)I"⟩
abbrev cX2_openAnew : ByteArray := prog_4_method_12_code
def yX2_openAnew : MethodName := ⟨RX2, "openAnew", "(LCopyOfACopy$Shop;)I"⟩
abbrev cX2_teethWithin : ByteArray := prog_4_method_13_code
def yX2_teethWithin : MethodName := ⟨RX2, "teethWithin", "(LCopyOfACopy$Shop;I[I)I"⟩
abbrev cX2_codeOfSet : ByteArray := prog_4_method_14_code
def yX2_codeOfSet : MethodName := ⟨RX2, "codeOfSet", "(LCopyOfACopy$Shop;II)I"⟩
abbrev cX2_middleHeight : ByteArray := prog_4_method_15_code
def yX2_middleHeight : MethodName := ⟨RX2, "middleHeight", "(LCopyOfACopy$Shop;II)I"⟩
abbrev cX2_unlikeTeeth : ByteArray := prog_4_method_16_code
def yX2_unlikeTeeth : MethodName := ⟨RX2, "unlikeTeeth", "(LCopyOfACopy$Shop;II)I"⟩
abbrev cX2_lessByMending : ByteArray := prog_4_method_17_code
def yX2_lessByMending : MethodName := ⟨RX2, "lessByMending", "(LCopyOfACopy$Shop;I)I"⟩
abbrev cX2_fewestEnough : ByteArray := prog_4_method_18_code
def yX2_fewestEnough : MethodName := ⟨RX2, "fewestEnough", "(LCopyOfACopy$Shop;)I"⟩
abbrev cX2_isEnough : ByteArray := prog_4_method_19_code
def yX2_isEnough : MethodName := ⟨RX2, "isEnough", "(LCopyOfACopy$Shop;I)Z"⟩
abbrev cX2_waysToOpen : ByteArray := prog_4_method_20_code
def yX2_waysToOpen : MethodName := ⟨RX2, "waysToOpen", "(LCopyOfACopy$Shop;IIII)J"⟩
abbrev cX2_lastCopyFits : ByteArray := prog_4_method_21_code
def yX2_lastCopyFits : MethodName := ⟨RX2, "lastCopyFits", "(LCopyOfACopy$Shop;IIII)Z"⟩
abbrev cX2_steadyPair : ByteArray := prog_4_method_22_code
def yX2_steadyPair : MethodName := ⟨RX2, "steadyPair", "(LCopyOfACopy$Shop;II)I"⟩
abbrev cX2_isSteady : ByteArray := prog_4_method_23_code
def yX2_isSteady : MethodName := ⟨RX2, "isSteady", "(LCopyOfACopy$Shop;IIII)Z"⟩
abbrev cX2_cutTwice : ByteArray := prog_4_method_24_code
def yX2_cutTwice : MethodName := ⟨RX2, "cutTwice", "(LCopyOfACopy$Shop;IIII)I"⟩
abbrev cX2_machinesThatCut : ByteArray := prog_4_method_25_code
def yX2_machinesThatCut : MethodName := ⟨RX2, "machinesThatCut", "(LCopyOfACopy$Shop;I[I)I"⟩
abbrev cX2_kindsThatCut : ByteArray := prog_4_method_26_code
def yX2_kindsThatCut : MethodName := ⟨RX2, "kindsThatCut", "(LCopyOfACopy$Shop;II[I)I"⟩
abbrev cX2_cutsSo : ByteArray := prog_4_method_27_code
def yX2_cutsSo : MethodName := ⟨RX2, "cutsSo", "(LCopyOfACopy$Shop;III[I)Z"⟩
abbrev cX2_drawLots : ByteArray := prog_4_method_28_code
def yX2_drawLots : MethodName := ⟨RX2, "drawLots", "(LCopyOfACopy$Shop;IIZ)I"⟩
abbrev cX2_drawBelow : ByteArray := prog_4_method_29_code
def yX2_drawBelow : MethodName := ⟨RX2, "drawBelow", "(I)I"⟩
def RX3 : String := "CopyOfACopy$Shop"
def TX3 : u_T := fun k => match k with
  | 0 => ("CopyOfACopy$Shop", "pins", "[I", true)
  | 1 => ("CopyOfACopy$Shop", "slack", "I", false)
  | 2 => ("CopyOfACopy$Shop", "keys", "I", false)
  | 3 => ("CopyOfACopy$Shop", "heights", "[[I", true)
  | 4 => ("CopyOfACopy$Shop", "from", "[I", true)
  | 5 => ("CopyOfACopy$Shop", "snapped", "[Z", true)
  | 6 => ("CopyOfACopy$Shop", "machines", "I", false)
  | 7 => ("CopyOfACopy$Shop", "kinds", "[I", true)
  | 8 => ("CopyOfACopy$Shop", "figures", "[I", true)
  | _ => ("CopyOfACopy$Shop", "uses", "I", false)
def tyX3 : Nat → FieldType := fun k => match k with
  | 0 => .array .int
  | 1 => .int
  | 2 => .int
  | 3 => .array (.array .int)
  | 4 => .array .int
  | 5 => .array .boolean
  | 6 => .int
  | 7 => .array .int
  | 8 => .array .int
  | _ => .int
abbrev wsX30 : List Cond := u_ws RX3 TX3 10
theorem nmX3 : ∀ a, a < 10 → ∀ b, b < 10 → a ≠ b → (TX3 a).2.1 ≠ (TX3 b).2.1 := by decide +kernel
theorem tyX3_ok : ∀ k, k < 10 → parseFieldDescriptor (TX3 k).2.2.1 = some (tyX3 k) := by decide +kernel
abbrev cX3_init : ByteArray := prog_5_method_1_code
def yX3_init : MethodName := ⟨RX3, "<init>", "()V"⟩
abbrev cX3_becomes : ByteArray := prog_5_method_2_code
def yX3_becomes : MethodName := ⟨RX3, "becomes", "(LCopyOfACopy$Shop;)V"⟩
abbrev cX3_hasKey : ByteArray := prog_5_method_3_code
def yX3_hasKey : MethodName := ⟨RX3, "hasKey", "(I)Z"⟩
abbrev cX3_hasMachine : ByteArray := prog_5_method_4_code
def yX3_hasMachine : MethodName := ⟨RX3, "hasMachine", "(I)Z"⟩
abbrev cX3_hasWholeKey : ByteArray := prog_5_method_5_code
def yX3_hasWholeKey : MethodName := ⟨RX3, "hasWholeKey", "(I)Z"⟩
abbrev cX3_addKey : ByteArray := prog_5_method_6_code
def yX3_addKey : MethodName := ⟨RX3, "addKey", "(I)I"⟩
abbrev cX3_addCopy : ByteArray := prog_5_method_7_code
def yX3_addCopy : MethodName := ⟨RX3, "addCopy", "(II)I"⟩
abbrev cX3_addMachine : ByteArray := prog_5_method_8_code
def yX3_addMachine : MethodName := ⟨RX3, "addMachine", "(II)Z"⟩
abbrev cX3_cutBy : ByteArray := prog_5_method_9_code
def yX3_cutBy : MethodName := ⟨RX3, "cutBy", "(III)I"⟩
abbrev cX3_wear : ByteArray := prog_5_method_10_code
def yX3_wear : MethodName := ⟨RX3, "wear", "(II)V"⟩
abbrev cX3_wornHeight : ByteArray := prog_5_method_11_code
def yX3_wornHeight : MethodName := ⟨RX3, "wornHeight", "(II)I"⟩
abbrev cX3_wornPin : ByteArray := prog_5_method_12_code
def yX3_wornPin : MethodName := ⟨RX3, "wornPin", "(II)I"⟩
abbrev cX3_opens : ByteArray := prog_5_method_13_code
def yX3_opens : MethodName := ⟨RX3, "opens", "(I)Z"⟩
abbrev cX3_fits : ByteArray := prog_5_method_14_code
def yX3_fits : MethodName := ⟨RX3, "fits", "([I)Z"⟩
abbrev cX3_leastTooFar : ByteArray := prog_5_method_15_code
def yX3_leastTooFar : MethodName := ⟨RX3, "leastTooFar", "([I)I"⟩
abbrev cX3_wiggleOf : ByteArray := prog_5_method_16_code
def yX3_wiggleOf : MethodName := ⟨RX3, "wiggleOf", "([I)I"⟩
abbrev cX3_worstTooth : ByteArray := prog_5_method_17_code
def yX3_worstTooth : MethodName := ⟨RX3, "worstTooth", "([I)I"⟩
abbrev cX3_allKeysBits : ByteArray := prog_5_method_18_code
def yX3_allKeysBits : MethodName := ⟨RX3, "allKeysBits", "()I"⟩
abbrev cX3_openingBits : ByteArray := prog_5_method_19_code
def yX3_openingBits : MethodName := ⟨RX3, "openingBits", "()I"⟩
abbrev cX3_snappedBits : ByteArray := prog_5_method_20_code
def yX3_snappedBits : MethodName := ⟨RX3, "snappedBits", "()I"⟩
abbrev cX3_nearestKey : ByteArray := prog_5_method_21_code
def yX3_nearestKey : MethodName := ⟨RX3, "nearestKey", "()I"⟩
abbrev cX3_leastWiggleOf : ByteArray := prog_5_method_22_code
def yX3_leastWiggleOf : MethodName := ⟨RX3, "leastWiggleOf", "(I)I"⟩
def RX4 : String := "CopyOfACopy$Text"
def TX4 : u_T := fun k => match k with
  | 0 => ("CopyOfACopy$Text", "letters", "[I", true)
  | _ => ("CopyOfACopy$Text", "size", "I", false)
def tyX4 : Nat → FieldType := fun k => match k with
  | 0 => .array .int
  | _ => .int
abbrev wsX40 : List Cond := u_ws RX4 TX4 2
theorem nmX4 : ∀ a, a < 2 → ∀ b, b < 2 → a ≠ b → (TX4 a).2.1 ≠ (TX4 b).2.1 := by decide +kernel
theorem tyX4_ok : ∀ k, k < 2 → parseFieldDescriptor (TX4 k).2.2.1 = some (tyX4 k) := by decide +kernel
abbrev cX4_init : ByteArray := prog_6_method_1_code
def yX4_init : MethodName := ⟨RX4, "<init>", "()V"⟩
abbrev cX4_size : ByteArray := prog_6_method_2_code
def yX4_size : MethodName := ⟨RX4, "size", "()I"⟩
abbrev cX4_isFull : ByteArray := prog_6_method_3_code
def yX4_isFull : MethodName := ⟨RX4, "isFull", "()Z"⟩
abbrev cX4_take : ByteArray := prog_6_method_4_code
def yX4_take : MethodName := ⟨RX4, "take", "(I)I"⟩
abbrev cX4_forget : ByteArray := prog_6_method_5_code
def yX4_forget : MethodName := ⟨RX4, "forget", "()V"⟩
abbrev cX4_misshapenPlace : ByteArray := prog_6_method_6_code
def yX4_misshapenPlace : MethodName := ⟨RX4, "misshapenPlace", "()I"⟩
abbrev cX4_happenIn : ByteArray := prog_6_method_7_code
def yX4_happenIn : MethodName := ⟨RX4, "happenIn", "(LCopyOfACopy$Shop;)I"⟩
abbrev cX4_happens : ByteArray := prog_6_method_8_code
def yX4_happens : MethodName := ⟨RX4, "happens", "(LCopyOfACopy$Shop;I)Z"⟩
abbrev cX4_keyComes : ByteArray := prog_6_method_9_code
def yX4_keyComes : MethodName := ⟨RX4, "keyComes", "(LCopyOfACopy$Shop;I)Z"⟩
abbrev cX4_isUsed : ByteArray := prog_6_method_10_code
def yX4_isUsed : MethodName := ⟨RX4, "isUsed", "(LCopyOfACopy$Shop;II)Z"⟩
abbrev cX4_isSnapped : ByteArray := prog_6_method_11_code
def yX4_isSnapped : MethodName := ⟨RX4, "isSnapped", "(LCopyOfACopy$Shop;I)Z"⟩
abbrev cX4_readFive : ByteArray := prog_6_method_12_code
def yX4_readFive : MethodName := ⟨RX4, "readFive", "(I[I)V"⟩
abbrev cX4_letterAt : ByteArray := prog_6_method_13_code
def yX4_letterAt : MethodName := ⟨RX4, "letterAt", "(I)I"⟩
abbrev cX4_digitAt : ByteArray := prog_6_method_14_code
def yX4_digitAt : MethodName := ⟨RX4, "digitAt", "(I)I"⟩
abbrev cX4_twoDigitsAt : ByteArray := prog_6_method_15_code
def yX4_twoDigitsAt : MethodName := ⟨RX4, "twoDigitsAt", "(I)I"⟩
abbrev cX4_kindAt : ByteArray := prog_6_method_16_code
def yX4_kindAt : MethodName := ⟨RX4, "kindAt", "(I)I"⟩
abbrev cX4_shapeBehind : ByteArray := prog_6_method_17_code
def yX4_shapeBehind : MethodName := ⟨RX4, "shapeBehind", "(I)Ljava/lang/String;"⟩
abbrev cX4_fitsShape : ByteArray := prog_6_method_18_code
def yX4_fitsShape : MethodName := ⟨RX4, "fitsShape", "(CI)Z"⟩
def RX5 : String := "CopyOfACopy"
def TX5 : u_T := fun k => match k with
  | 0 => ("CopyOfACopy", "shop", "LCopyOfACopy$Shop;", true)
  | 1 => ("CopyOfACopy", "trial", "LCopyOfACopy$Shop;", true)
  | 2 => ("CopyOfACopy", "image", "LCopyOfACopy$Shop;", true)
  | 3 => ("CopyOfACopy", "imageTaken", "Z", false)
  | 4 => ("CopyOfACopy", "mind", "LCopyOfACopy$Mind;", true)
  | 5 => ("CopyOfACopy", "text", "LCopyOfACopy$Text;", true)
  | 6 => ("CopyOfACopy", "told", "[I", true)
  | 7 => ("CopyOfACopy", "toldCount", "I", false)
  | _ => ("CopyOfACopy", "refusals", "[I", true)
def tyX5 : Nat → FieldType := fun k => match k with
  | 0 => .object "CopyOfACopy$Shop"
  | 1 => .object "CopyOfACopy$Shop"
  | 2 => .object "CopyOfACopy$Shop"
  | 3 => .boolean
  | 4 => .object "CopyOfACopy$Mind"
  | 5 => .object "CopyOfACopy$Text"
  | 6 => .array .int
  | 7 => .int
  | _ => .array .int
abbrev wsX50 : List Cond := u_ws RX5 TX5 9
theorem nmX5 : ∀ a, a < 9 → ∀ b, b < 9 → a ≠ b → (TX5 a).2.1 ≠ (TX5 b).2.1 := by decide +kernel
theorem tyX5_ok : ∀ k, k < 9 → parseFieldDescriptor (TX5 k).2.2.1 = some (tyX5 k) := by decide +kernel
abbrev cX5_init : ByteArray := prog_1_method_1_code
def yX5_init : MethodName := ⟨RX5, "<init>", "()V"⟩
abbrev cX5_letter : ByteArray := prog_1_method_2_code
def yX5_letter : MethodName := ⟨RX5, "letter", "(I)I"⟩
abbrev cX5_lock : ByteArray := prog_1_method_3_code
def yX5_lock : MethodName := ⟨RX5, "lock", "()I"⟩
abbrev cX5_pin : ByteArray := prog_1_method_4_code
def yX5_pin : MethodName := ⟨RX5, "pin", "(I)I"⟩
abbrev cX5_key : ByteArray := prog_1_method_5_code
def yX5_key : MethodName := ⟨RX5, "key", "(II)I"⟩
abbrev cX5_machine : ByteArray := prog_1_method_6_code
def yX5_machine : MethodName := ⟨RX5, "machine", "(II)I"⟩
abbrev cX5_sets : ByteArray := prog_1_method_7_code
def yX5_sets : MethodName := ⟨RX5, "sets", "(II)I"⟩
abbrev cX5_slack : ByteArray := prog_1_method_8_code
def yX5_slack : MethodName := ⟨RX5, "slack", "(I)I"⟩
abbrev cX5_files : ByteArray := prog_1_method_9_code
def yX5_files : MethodName := ⟨RX5, "files", "(III)I"⟩
abbrev cX5_turn : ByteArray := prog_1_method_10_code
def yX5_turn : MethodName := ⟨RX5, "turn", "(III)I"⟩
abbrev cX5_cut : ByteArray := prog_1_method_11_code
def yX5_cut : MethodName := ⟨RX5, "cut", "(II)I"⟩
abbrev cX5_uses : ByteArray := prog_1_method_12_code
def yX5_uses : MethodName := ⟨RX5, "uses", "(II)I"⟩
abbrev cX5_snaps : ByteArray := prog_1_method_13_code
def yX5_snaps : MethodName := ⟨RX5, "snaps", "(I)I"⟩
abbrev cX5_opening : ByteArray := prog_1_method_14_code
def yX5_opening : MethodName := ⟨RX5, "opening", "()I"⟩
abbrev cX5_family : ByteArray := prog_1_method_15_code
def yX5_family : MethodName := ⟨RX5, "family", "(II)I"⟩
abbrev cX5_common : ByteArray := prog_1_method_16_code
def yX5_common : MethodName := ⟨RX5, "common", "(II)I"⟩
abbrev cX5_nearest : ByteArray := prog_1_method_17_code
def yX5_nearest : MethodName := ⟨RX5, "nearest", "()I"⟩
abbrev cX5_next : ByteArray := prog_1_method_18_code
def yX5_next : MethodName := ⟨RX5, "next", "(I)I"⟩
abbrev cX5_inRow : ByteArray := prog_1_method_19_code
def yX5_inRow : MethodName := ⟨RX5, "inRow", "(III)I"⟩
abbrev cX5_lasts : ByteArray := prog_1_method_20_code
def yX5_lasts : MethodName := ⟨RX5, "lasts", "(I)I"⟩
abbrev cX5_fit : ByteArray := prog_1_method_21_code
def yX5_fit : MethodName := ⟨RX5, "fit", "(I)I"⟩
abbrev cX5_anew : ByteArray := prog_1_method_22_code
def yX5_anew : MethodName := ⟨RX5, "anew", "(I)I"⟩
abbrev cX5_first : ByteArray := prog_1_method_23_code
def yX5_first : MethodName := ⟨RX5, "first", "(II)I"⟩
abbrev cX5_unlike : ByteArray := prog_1_method_24_code
def yX5_unlike : MethodName := ⟨RX5, "unlike", "(II)I"⟩
abbrev cX5_mend : ByteArray := prog_1_method_25_code
def yX5_mend : MethodName := ⟨RX5, "mend", "(I)I"⟩
abbrev cX5_line : ByteArray := prog_1_method_26_code
def yX5_line : MethodName := ⟨RX5, "line", "(I)I"⟩
abbrev cX5_bestLine : ByteArray := prog_1_method_27_code
def yX5_bestLine : MethodName := ⟨RX5, "bestLine", "()I"⟩
abbrev cX5_ask : ByteArray := prog_1_method_28_code
def yX5_ask : MethodName := ⟨RX5, "ask", "(I)I"⟩
abbrev cX5_spare : ByteArray := prog_1_method_29_code
def yX5_spare : MethodName := ⟨RX5, "spare", "()I"⟩
abbrev cX5_slip : ByteArray := prog_1_method_30_code
def yX5_slip : MethodName := ⟨RX5, "slip", "(IIIII)J"⟩
abbrev cX5_two : ByteArray := prog_1_method_31_code
def yX5_two : MethodName := ⟨RX5, "two", "(II)I"⟩
abbrev cX5_which : ByteArray := prog_1_method_32_code
def yX5_which : MethodName := ⟨RX5, "which", "(III)I"⟩
abbrev cX5_row : ByteArray := prog_1_method_33_code
def yX5_row : MethodName := ⟨RX5, "row", "(I)I"⟩
abbrev cX5_judge : ByteArray := prog_1_method_34_code
def yX5_judge : MethodName := ⟨RX5, "judge", "(I)I"⟩
abbrev cX5_clear : ByteArray := prog_1_method_35_code
def yX5_clear : MethodName := ⟨RX5, "clear", "()I"⟩
abbrev cX5_lots : ByteArray := prog_1_method_36_code
def yX5_lots : MethodName := ⟨RX5, "lots", "(III)I"⟩
abbrev cX5_image : ByteArray := prog_1_method_37_code
def yX5_image : MethodName := ⟨RX5, "image", "()I"⟩
abbrev cX5_on : ByteArray := prog_1_method_38_code
def yX5_on : MethodName := ⟨RX5, "on", "()I"⟩
abbrev cX5_count : ByteArray := prog_1_method_39_code
def yX5_count : MethodName := ⟨RX5, "count", "(I)I"⟩
abbrev cX5_refuse : ByteArray := prog_1_method_40_code
def yX5_refuse : MethodName := ⟨RX5, "refuse", "(I)I"⟩
abbrev cX5_firstToldWrong : ByteArray := prog_1_method_41_code
def yX5_firstToldWrong : MethodName := ⟨RX5, "firstToldWrong", "([I)I"⟩
abbrev cX5_isTooth : ByteArray := prog_1_method_42_code
def yX5_isTooth : MethodName := ⟨RX5, "isTooth", "(I)Z"⟩
abbrev cX5_isZeroOrOne : ByteArray := prog_1_method_43_code
def yX5_isZeroOrOne : MethodName := ⟨RX5, "isZeroOrOne", "(I)Z"⟩
abbrev cX5_outside : ByteArray := prog_1_method_44_code
def yX5_outside : MethodName := ⟨RX5, "outside", "(III)I"⟩
abbrev cX5_holds : ByteArray := prog_1_method_45_code
def yX5_holds : MethodName := ⟨RX5, "holds", "(II)Z"⟩
abbrev cX5_power : ByteArray := prog_1_method_46_code
def yX5_power : MethodName := ⟨RX5, "power", "(JI)J"⟩
abbrev cX5_greatestDivisor : ByteArray := prog_1_method_47_code
def yX5_greatestDivisor : MethodName := ⟨RX5, "greatestDivisor", "(JJ)J"⟩
def RX6 : String := "CopyOfACopyModel"
def TX6 : u_T := fun k => match k with
  | 0 => ("CopyOfACopyModel", "s", "[I", true)
  | 1 => ("CopyOfACopyModel", "image", "[I", true)
  | 2 => ("CopyOfACopyModel", "was", "[I", true)
  | 3 => ("CopyOfACopyModel", "hasImage", "Z", false)
  | 4 => ("CopyOfACopyModel", "letters", "[I", true)
  | 5 => ("CopyOfACopyModel", "row", "[I", true)
  | 6 => ("CopyOfACopyModel", "refused", "[I", true)
  | 7 => ("CopyOfACopyModel", "letterMany", "I", false)
  | 8 => ("CopyOfACopyModel", "rowMany", "I", false)
  | 9 => ("CopyOfACopyModel", "h", "[I", true)
  | 10 => ("CopyOfACopyModel", "place", "I", false)
  | 11 => ("CopyOfACopyModel", "numbers", "[I", true)
  | _ => ("CopyOfACopyModel", "seed", "I", false)
def tyX6 : Nat → FieldType := fun k => match k with
  | 0 => .array .int
  | 1 => .array .int
  | 2 => .array .int
  | 3 => .boolean
  | 4 => .array .int
  | 5 => .array .int
  | 6 => .array .int
  | 7 => .int
  | 8 => .int
  | 9 => .array .int
  | 10 => .int
  | 11 => .array .int
  | _ => .int
abbrev wsX60 : List Cond := u_ws RX6 TX6 13
theorem nmX6 : ∀ a, a < 13 → ∀ b, b < 13 → a ≠ b → (TX6 a).2.1 ≠ (TX6 b).2.1 := by decide +kernel
theorem tyX6_ok : ∀ k, k < 13 → parseFieldDescriptor (TX6 k).2.2.1 = some (tyX6 k) := by decide +kernel
abbrev cX6_init : ByteArray := prog_8_method_1_code
def yX6_init : MethodName := ⟨RX6, "<init>", "()V"⟩
abbrev cX6_isIn : ByteArray := prog_8_method_2_code
def yX6_isIn : MethodName := ⟨RX6, "isIn", "(III)Z"⟩
abbrev cX6_least : ByteArray := prog_8_method_3_code
def yX6_least : MethodName := ⟨RX6, "least", "(II)I"⟩
abbrev cX6_most : ByteArray := prog_8_method_4_code
def yX6_most : MethodName := ⟨RX6, "most", "(II)I"⟩
abbrev cX6_lays : ByteArray := prog_8_method_5_code
def yX6_lays : MethodName := ⟨RX6, "lays", "([I[I)V"⟩
abbrev cX6_no : ByteArray := prog_8_method_6_code
def yX6_no : MethodName := ⟨RX6, "no", "(I)I"⟩
abbrev cX6_noFar : ByteArray := prog_8_method_7_code
def yX6_noFar : MethodName := ⟨RX6, "noFar", "(I)I"⟩
abbrev cX6_noWide : ByteArray := prog_8_method_8_code
def yX6_noWide : MethodName := ⟨RX6, "noWide", "(I)J"⟩
abbrev cX6_of : ByteArray := prog_8_method_9_code
def yX6_of : MethodName := ⟨RX6, "of", "(II)I"⟩
abbrev cX6_isKey : ByteArray := prog_8_method_10_code
def yX6_isKey : MethodName := ⟨RX6, "isKey", "(I)Z"⟩
abbrev cX6_isMachine : ByteArray := prog_8_method_11_code
def yX6_isMachine : MethodName := ⟨RX6, "isMachine", "(I)Z"⟩
abbrev cX6_isTooth : ByteArray := prog_8_method_12_code
def yX6_isTooth : MethodName := ⟨RX6, "isTooth", "(I)Z"⟩
abbrev cX6_isSnapped : ByteArray := prog_8_method_13_code
def yX6_isSnapped : MethodName := ⟨RX6, "isSnapped", "(I)Z"⟩
abbrev cX6_apart : ByteArray := prog_8_method_14_code
def yX6_apart : MethodName := ⟨RX6, "apart", "(II)I"⟩
abbrev cX6_bits : ByteArray := prog_8_method_15_code
def yX6_bits : MethodName := ⟨RX6, "bits", "(I)I"⟩
abbrev cX6_round : ByteArray := prog_8_method_16_code
def yX6_round : MethodName := ⟨RX6, "round", "(I)I"⟩
abbrev cX6_held : ByteArray := prog_8_method_17_code
def yX6_held : MethodName := ⟨RX6, "held", "(I)I"⟩
abbrev cX6_cutBy : ByteArray := prog_8_method_18_code
def yX6_cutBy : MethodName := ⟨RX6, "cutBy", "(IIII)I"⟩
abbrev cX6_takes : ByteArray := prog_8_method_19_code
def yX6_takes : MethodName := ⟨RX6, "takes", "(I)V"⟩
abbrev cX6_cutsIn : ByteArray := prog_8_method_20_code
def yX6_cutsIn : MethodName := ⟨RX6, "cutsIn", "(II)V"⟩
abbrev cX6_cutsBy : ByteArray := prog_8_method_21_code
def yX6_cutsBy : MethodName := ⟨RX6, "cutsBy", "(II)V"⟩
abbrev cX6_wiggle : ByteArray := prog_8_method_22_code
def yX6_wiggle : MethodName := ⟨RX6, "wiggle", "()I"⟩
abbrev cX6_fitIn : ByteArray := prog_8_method_23_code
def yX6_fitIn : MethodName := ⟨RX6, "fitIn", "()I"⟩
abbrev cX6_opensIn : ByteArray := prog_8_method_24_code
def yX6_opensIn : MethodName := ⟨RX6, "opensIn", "()Z"⟩
abbrev cX6_wiggleOf : ByteArray := prog_8_method_25_code
def yX6_wiggleOf : MethodName := ⟨RX6, "wiggleOf", "(I)I"⟩
abbrev cX6_opens : ByteArray := prog_8_method_26_code
def yX6_opens : MethodName := ⟨RX6, "opens", "(I)Z"⟩
abbrev cX6_openMany : ByteArray := prog_8_method_27_code
def yX6_openMany : MethodName := ⟨RX6, "openMany", "()I"⟩
abbrev cX6_letter : ByteArray := prog_8_method_28_code
def yX6_letter : MethodName := ⟨RX6, "letter", "(I)I"⟩
abbrev cX6_here : ByteArray := prog_8_method_29_code
def yX6_here : MethodName := ⟨RX6, "here", "()I"⟩
abbrev cX6_readsNumber : ByteArray := prog_8_method_30_code
def yX6_readsNumber : MethodName := ⟨RX6, "readsNumber", "(II)Z"⟩
abbrev cX6_kindBy : ByteArray := prog_8_method_31_code
def yX6_kindBy : MethodName := ⟨RX6, "kindBy", "(I)I"⟩
abbrev cX6_readsKind : ByteArray := prog_8_method_32_code
def yX6_readsKind : MethodName := ⟨RX6, "readsKind", "()Z"⟩
abbrev cX6_readsFive : ByteArray := prog_8_method_33_code
def yX6_readsFive : MethodName := ⟨RX6, "readsFive", "()Z"⟩
abbrev cX6_readsStatement : ByteArray := prog_8_method_34_code
def yX6_readsStatement : MethodName := ⟨RX6, "readsStatement", "()Z"⟩
abbrev cX6_cuts : ByteArray := prog_8_method_35_code
def yX6_cuts : MethodName := ⟨RX6, "cuts", "(II)I"⟩
abbrev cX6_used : ByteArray := prog_8_method_36_code
def yX6_used : MethodName := ⟨RX6, "used", "(II)V"⟩
abbrev cX6_isDone : ByteArray := prog_8_method_37_code
def yX6_isDone : MethodName := ⟨RX6, "isDone", "(I)Z"⟩
abbrev cX6_lock : ByteArray := prog_8_method_38_code
def yX6_lock : MethodName := ⟨RX6, "lock", "()I"⟩
abbrev cX6_pin : ByteArray := prog_8_method_39_code
def yX6_pin : MethodName := ⟨RX6, "pin", "(I)I"⟩
abbrev cX6_worstOf : ByteArray := prog_8_method_40_code
def yX6_worstOf : MethodName := ⟨RX6, "worstOf", "(I)I"⟩
abbrev cX6_key : ByteArray := prog_8_method_41_code
def yX6_key : MethodName := ⟨RX6, "key", "(II)I"⟩
abbrev cX6_machine : ByteArray := prog_8_method_42_code
def yX6_machine : MethodName := ⟨RX6, "machine", "(II)I"⟩
abbrev cX6_wrong : ByteArray := prog_8_method_43_code
def yX6_wrong : MethodName := ⟨RX6, "wrong", "(II)I"⟩
abbrev cX6_sets : ByteArray := prog_8_method_44_code
def yX6_sets : MethodName := ⟨RX6, "sets", "(II)I"⟩
abbrev cX6_slack : ByteArray := prog_8_method_45_code
def yX6_slack : MethodName := ⟨RX6, "slack", "(I)I"⟩
abbrev cX6_files : ByteArray := prog_8_method_46_code
def yX6_files : MethodName := ⟨RX6, "files", "(III)I"⟩
abbrev cX6_turn : ByteArray := prog_8_method_47_code
def yX6_turn : MethodName := ⟨RX6, "turn", "(III)I"⟩
abbrev cX6_cut : ByteArray := prog_8_method_48_code
def yX6_cut : MethodName := ⟨RX6, "cut", "(II)I"⟩
abbrev cX6_uses : ByteArray := prog_8_method_49_code
def yX6_uses : MethodName := ⟨RX6, "uses", "(II)I"⟩
abbrev cX6_snaps : ByteArray := prog_8_method_50_code
def yX6_snaps : MethodName := ⟨RX6, "snaps", "(I)I"⟩
abbrev cX6_opening : ByteArray := prog_8_method_51_code
def yX6_opening : MethodName := ⟨RX6, "opening", "()I"⟩
abbrev cX6_fromOf : ByteArray := prog_8_method_52_code
def yX6_fromOf : MethodName := ⟨RX6, "fromOf", "(I)I"⟩
abbrev cX6_isHeir : ByteArray := prog_8_method_53_code
def yX6_isHeir : MethodName := ⟨RX6, "isHeir", "(II)Z"⟩
abbrev cX6_heirs : ByteArray := prog_8_method_54_code
def yX6_heirs : MethodName := ⟨RX6, "heirs", "(I)I"⟩
abbrev cX6_depthOf : ByteArray := prog_8_method_55_code
def yX6_depthOf : MethodName := ⟨RX6, "depthOf", "(I)I"⟩
abbrev cX6_family : ByteArray := prog_8_method_56_code
def yX6_family : MethodName := ⟨RX6, "family", "(II)I"⟩
abbrev cX6_common : ByteArray := prog_8_method_57_code
def yX6_common : MethodName := ⟨RX6, "common", "(II)I"⟩
abbrev cX6_nearest : ByteArray := prog_8_method_58_code
def yX6_nearest : MethodName := ⟨RX6, "nearest", "()I"⟩
abbrev cX6_next : ByteArray := prog_8_method_59_code
def yX6_next : MethodName := ⟨RX6, "next", "(I)I"⟩
abbrev cX6_inRow : ByteArray := prog_8_method_60_code
def yX6_inRow : MethodName := ⟨RX6, "inRow", "(III)I"⟩
abbrev cX6_lasts : ByteArray := prog_8_method_61_code
def yX6_lasts : MethodName := ⟨RX6, "lasts", "(I)I"⟩
abbrev cX6_fit : ByteArray := prog_8_method_62_code
def yX6_fit : MethodName := ⟨RX6, "fit", "(I)I"⟩
abbrev cX6_anewOf : ByteArray := prog_8_method_63_code
def yX6_anewOf : MethodName := ⟨RX6, "anewOf", "(I)I"⟩
abbrev cX6_anew : ByteArray := prog_8_method_64_code
def yX6_anew : MethodName := ⟨RX6, "anew", "(I)I"⟩
abbrev cX6_code : ByteArray := prog_8_method_65_code
def yX6_code : MethodName := ⟨RX6, "code", "(I)I"⟩
abbrev cX6_middle : ByteArray := prog_8_method_66_code
def yX6_middle : MethodName := ⟨RX6, "middle", "(II)I"⟩
abbrev cX6_wrongSet : ByteArray := prog_8_method_67_code
def yX6_wrongSet : MethodName := ⟨RX6, "wrongSet", "(I)I"⟩
abbrev cX6_first : ByteArray := prog_8_method_68_code
def yX6_first : MethodName := ⟨RX6, "first", "(II)I"⟩
abbrev cX6_unlike : ByteArray := prog_8_method_69_code
def yX6_unlike : MethodName := ⟨RX6, "unlike", "(II)I"⟩
abbrev cX6_mend : ByteArray := prog_8_method_70_code
def yX6_mend : MethodName := ⟨RX6, "mend", "(I)I"⟩
abbrev cX6_lineOf : ByteArray := prog_8_method_71_code
def yX6_lineOf : MethodName := ⟨RX6, "lineOf", "(I)I"⟩
abbrev cX6_line : ByteArray := prog_8_method_72_code
def yX6_line : MethodName := ⟨RX6, "line", "(I)I"⟩
abbrev cX6_bestLine : ByteArray := prog_8_method_73_code
def yX6_bestLine : MethodName := ⟨RX6, "bestLine", "()I"⟩
abbrev cX6_ask : ByteArray := prog_8_method_74_code
def yX6_ask : MethodName := ⟨RX6, "ask", "(I)I"⟩
abbrev cX6_spare : ByteArray := prog_8_method_75_code
def yX6_spare : MethodName := ⟨RX6, "spare", "()I"⟩
abbrev cX6_gcd : ByteArray := prog_8_method_76_code
def yX6_gcd : MethodName := ⟨RX6, "gcd", "(JJ)J"⟩
abbrev cX6_partOf : ByteArray := prog_8_method_77_code
def yX6_partOf : MethodName := ⟨RX6, "partOf", "(JJI)J"⟩
abbrev cX6_slip : ByteArray := prog_8_method_78_code
def yX6_slip : MethodName := ⟨RX6, "slip", "(IIIII)J"⟩
abbrev cX6_lastHeight : ByteArray := prog_8_method_79_code
def yX6_lastHeight : MethodName := ⟨RX6, "lastHeight", "(IIII)I"⟩
abbrev cX6_two : ByteArray := prog_8_method_80_code
def yX6_two : MethodName := ⟨RX6, "two", "(II)I"⟩
abbrev cX6_isTold : ByteArray := prog_8_method_81_code
def yX6_isTold : MethodName := ⟨RX6, "isTold", "()Z"⟩
abbrev cX6_which : ByteArray := prog_8_method_82_code
def yX6_which : MethodName := ⟨RX6, "which", "(III)I"⟩
abbrev cX6_row : ByteArray := prog_8_method_83_code
def yX6_row : MethodName := ⟨RX6, "row", "(I)I"⟩
abbrev cX6_judge : ByteArray := prog_8_method_84_code
def yX6_judge : MethodName := ⟨RX6, "judge", "(I)I"⟩
abbrev cX6_clear : ByteArray := prog_8_method_85_code
def yX6_clear : MethodName := ⟨RX6, "clear", "()I"⟩
abbrev cX6_drawn : ByteArray := prog_8_method_86_code
def yX6_drawn : MethodName := ⟨RX6, "drawn", "(I)I"⟩
abbrev cX6_lots : ByteArray := prog_8_method_87_code
def yX6_lots : MethodName := ⟨RX6, "lots", "(III)I"⟩
abbrev cX6_image : ByteArray := prog_8_method_88_code
def yX6_image : MethodName := ⟨RX6, "image", "()I"⟩
abbrev cX6_on : ByteArray := prog_8_method_89_code
def yX6_on : MethodName := ⟨RX6, "on", "()I"⟩
abbrev cX6_count : ByteArray := prog_8_method_90_code
def yX6_count : MethodName := ⟨RX6, "count", "(I)I"⟩
def RJ11 : String := "java/lang/Character"
abbrev cJ11_isValidCodePoint_9a6ad : ByteArray := prog_9_method_11_code
def yJ11_isValidCodePoint_9a6ad : MethodName := ⟨RJ11, "isValidCodePoint", "(I)Z"⟩
abbrev cJ11_highSurrogate_5068e : ByteArray := prog_9_method_28_code
def yJ11_highSurrogate_5068e : MethodName := ⟨RJ11, "highSurrogate", "(I)C"⟩
abbrev cJ11_lowSurrogate_5068e : ByteArray := prog_9_method_29_code
def yJ11_lowSurrogate_5068e : MethodName := ⟨RJ11, "lowSurrogate", "(I)C"⟩
def RJ6 : String := "java/lang/Integer"
abbrev cJ6_numberOfLeadingZeros_0f7a4 : ByteArray := prog_10_method_47_code
def yJ6_numberOfLeadingZeros_0f7a4 : MethodName := ⟨RJ6, "numberOfLeadingZeros", "(I)I"⟩
abbrev cJ6_numberOfTrailingZeros_0f7a4 : ByteArray := prog_10_method_48_code
def yJ6_numberOfTrailingZeros_0f7a4 : MethodName := ⟨RJ6, "numberOfTrailingZeros", "(I)I"⟩
abbrev cJ6_bitCount_0f7a4 : ByteArray := prog_10_method_49_code
def yJ6_bitCount_0f7a4 : MethodName := ⟨RJ6, "bitCount", "(I)I"⟩
def RJ9 : String := "java/lang/Math"
abbrev cJ9_abs_0f7a4 : ByteArray := prog_11_method_59_code
def yJ9_abs_0f7a4 : MethodName := ⟨RJ9, "abs", "(I)I"⟩
abbrev cJ9_max_7cf53 : ByteArray := prog_11_method_65_code
def yJ9_max_7cf53 : MethodName := ⟨RJ9, "max", "(II)I"⟩
abbrev cJ9_max_f86c9 : ByteArray := prog_11_method_66_code
def yJ9_max_f86c9 : MethodName := ⟨RJ9, "max", "(JJ)J"⟩
abbrev cJ9_min_7cf53 : ByteArray := prog_11_method_69_code
def yJ9_min_7cf53 : MethodName := ⟨RJ9, "min", "(II)I"⟩
def RJ0 : String := "java/lang/String"
abbrev cJ0_length_8abf5 : ByteArray := prog_12_method_54_code
def yJ0_length_8abf5 : MethodName := ⟨RJ0, "length", "()I"⟩
abbrev cJ0_isEmpty_aae02 : ByteArray := prog_12_method_55_code
def yJ0_isEmpty_aae02 : MethodName := ⟨RJ0, "isEmpty", "()Z"⟩
abbrev cJ0_charAt_5068e : ByteArray := prog_12_method_56_code
def yJ0_charAt_5068e : MethodName := ⟨RJ0, "charAt", "(I)C"⟩
abbrev cJ0_indexOf_0f7a4 : ByteArray := prog_12_method_79_code
def yJ0_indexOf_0f7a4 : MethodName := ⟨RJ0, "indexOf", "(I)I"⟩
abbrev cJ0_indexOf_7cf53 : ByteArray := prog_12_method_80_code
def yJ0_indexOf_7cf53 : MethodName := ⟨RJ0, "indexOf", "(II)I"⟩
abbrev cJ0_coder_7d493 : ByteArray := prog_12_method_152_code
def yJ0_coder_7d493 : MethodName := ⟨RJ0, "coder", "()B"⟩
abbrev cJ0_isLatin1_aae02 : ByteArray := prog_12_method_154_code
def yJ0_isLatin1_aae02 : MethodName := ⟨RJ0, "isLatin1", "()Z"⟩
abbrev cJ0_checkIndex_df160 : ByteArray := prog_12_method_155_code
def yJ0_checkIndex_df160 : MethodName := ⟨RJ0, "checkIndex", "(II)V"⟩
abbrev cJ0_checkBoundsBeginEnd_23922 : ByteArray := prog_12_method_158_code
def yJ0_checkBoundsBeginEnd_23922 : MethodName := ⟨RJ0, "checkBoundsBeginEnd", "(III)V"⟩
def RJ1 : String := "java/lang/StringLatin1"
abbrev cJ1_charAt_3b067 : ByteArray := prog_13_method_2_code
def yJ1_charAt_3b067 : MethodName := ⟨RJ1, "charAt", "([BI)C"⟩
abbrev cJ1_canEncode_9a6ad : ByteArray := prog_13_method_4_code
def yJ1_canEncode_9a6ad : MethodName := ⟨RJ1, "canEncode", "(I)Z"⟩
abbrev cJ1_indexOf_4cfef : ByteArray := prog_13_method_22_code
def yJ1_indexOf_4cfef : MethodName := ⟨RJ1, "indexOf", "([BIII)I"⟩
abbrev cJ1_indexOfChar_4cfef : ByteArray := prog_13_method_23_code
def yJ1_indexOfChar_4cfef : MethodName := ⟨RJ1, "indexOfChar", "([BIII)I"⟩
def RJ2 : String := "java/lang/StringUTF16"
abbrev cJ2_getChar_3b067 : ByteArray := prog_14_method_5_code
def yJ2_getChar_3b067 : MethodName := ⟨RJ2, "getChar", "([BI)C"⟩
abbrev cJ2_length_9d52b : ByteArray := prog_14_method_6_code
def yJ2_length_9d52b : MethodName := ⟨RJ2, "length", "([B)I"⟩
abbrev cJ2_indexOf_4cfef : ByteArray := prog_14_method_40_code
def yJ2_indexOf_4cfef : MethodName := ⟨RJ2, "indexOf", "([BIII)I"⟩
abbrev cJ2_indexOfChar_4cfef : ByteArray := prog_14_method_47_code
def yJ2_indexOfChar_4cfef : MethodName := ⟨RJ2, "indexOfChar", "([BIII)I"⟩
abbrev cJ2_indexOfCharUnsafe_4cfef : ByteArray := prog_14_method_48_code
def yJ2_indexOfCharUnsafe_4cfef : MethodName := ⟨RJ2, "indexOfCharUnsafe", "([BIII)I"⟩
abbrev cJ2_indexOfSupplementary_4cfef : ByteArray := prog_14_method_49_code
def yJ2_indexOfSupplementary_4cfef : MethodName := ⟨RJ2, "indexOfSupplementary", "([BIII)I"⟩
abbrev cJ2_charAt_3b067 : ByteArray := prog_14_method_83_code
def yJ2_charAt_3b067 : MethodName := ⟨RJ2, "charAt", "([BI)C"⟩
abbrev cJ2_checkIndex_2214a : ByteArray := prog_14_method_91_code
def yJ2_checkIndex_2214a : MethodName := ⟨RJ2, "checkIndex", "(I[B)V"⟩
abbrev cJ2_checkBoundsBeginEnd_d044e : ByteArray := prog_14_method_93_code
def yJ2_checkBoundsBeginEnd_d044e : MethodName := ⟨RJ2, "checkBoundsBeginEnd", "(II[B)V"⟩
def RJ10 : String := "java/lang/System"
def RJ7 : String := "java/util/Arrays"
abbrev cJ7_fill_53178 : ByteArray := prog_16_method_103_code
def yJ7_fill_53178 : MethodName := ⟨RJ7, "fill", "([II)V"⟩
def RJ3 : String := "jdk/internal/util/Preconditions"
abbrev cJ3_checkIndex_8e157 : ByteArray := prog_17_method_11_code
def yJ3_checkIndex_8e157 : MethodName := ⟨RJ3, "checkIndex", "(IILjava/util/function/BiFunction;)I"⟩
abbrev cJ3_checkFromToIndex_8c36e : ByteArray := prog_17_method_12_code
def yJ3_checkFromToIndex_8c36e : MethodName := ⟨RJ3, "checkFromToIndex", "(IIILjava/util/function/BiFunction;)I"⟩
def RL : String := "CopyOfACopyLaw"
abbrev cL_law : ByteArray := code
def yL_law : MethodName := ⟨RL, "law", "([I)Z"⟩
abbrev vwCl : List vw_C := [(RX2, TX2, 3), (RX3, TX3, 10), (RX4, TX4, 2), (RX5, TX5, 9), (RX6, TX6, 13)]
end
section
theorem dX0_cutHeight_0 : decode cX0_cutHeight 0 = .ok (.iload_n 0, 1) := by decide +kernel
theorem dX0_cutHeight_1 : decode cX0_cutHeight 1 = .ok (.tableswitch 92 1 5 #[35, 42, 59, 72, 84], 35) := by decide +kernel
theorem dX0_cutHeight_36 : decode cX0_cutHeight 36 = .ok (.iload_n 2, 1) := by decide +kernel
theorem dX0_cutHeight_37 : decode cX0_cutHeight 37 = .ok (.iload_n 1, 1) := by decide +kernel
theorem dX0_cutHeight_38 : decode cX0_cutHeight 38 = .ok (.iadd, 1) := by decide +kernel
theorem dX0_cutHeight_39 : decode cX0_cutHeight 39 = .ok (.invokestatic 9, 3) := by decide +kernel
theorem dX0_cutHeight_42 : decode cX0_cutHeight 42 = .ok (.ireturn, 1) := by decide +kernel
theorem dX0_cutHeight_43 : decode cX0_cutHeight 43 = .ok (.iload_n 3, 1) := by decide +kernel
theorem dX0_cutHeight_44 : decode cX0_cutHeight 44 = .ok (.iconst 2, 1) := by decide +kernel
theorem dX0_cutHeight_45 : decode cX0_cutHeight 45 = .ok (.irem, 1) := by decide +kernel
theorem dX0_cutHeight_46 : decode cX0_cutHeight 46 = .ok (.ifCond .ne 12, 3) := by decide +kernel
theorem dX0_cutHeight_49 : decode cX0_cutHeight 49 = .ok (.iload_n 2, 1) := by decide +kernel
theorem dX0_cutHeight_50 : decode cX0_cutHeight 50 = .ok (.iload_n 1, 1) := by decide +kernel
theorem dX0_cutHeight_51 : decode cX0_cutHeight 51 = .ok (.isub, 1) := by decide +kernel
theorem dX0_cutHeight_52 : decode cX0_cutHeight 52 = .ok (.invokestatic 9, 3) := by decide +kernel
theorem dX0_cutHeight_55 : decode cX0_cutHeight 55 = .ok (.goto 4, 3) := by decide +kernel
theorem dX0_cutHeight_58 : decode cX0_cutHeight 58 = .ok (.iload_n 2, 1) := by decide +kernel
theorem dX0_cutHeight_59 : decode cX0_cutHeight 59 = .ok (.ireturn, 1) := by decide +kernel
theorem dX0_cutHeight_60 : decode cX0_cutHeight 60 = .ok (.iload_n 2, 1) := by decide +kernel
theorem dX0_cutHeight_61 : decode cX0_cutHeight 61 = .ok (.iload_n 1, 1) := by decide +kernel
theorem dX0_cutHeight_62 : decode cX0_cutHeight 62 = .ok (.isub, 1) := by decide +kernel
theorem dX0_cutHeight_63 : decode cX0_cutHeight 63 = .ok (.invokestatic 9, 3) := by decide +kernel
theorem dX0_cutHeight_66 : decode cX0_cutHeight 66 = .ok (.invokestatic 15, 3) := by decide +kernel
theorem dX0_cutHeight_69 : decode cX0_cutHeight 69 = .ok (.invokestatic 9, 3) := by decide +kernel
theorem dX0_cutHeight_72 : decode cX0_cutHeight 72 = .ok (.ireturn, 1) := by decide +kernel
theorem dX0_cutHeight_73 : decode cX0_cutHeight 73 = .ok (.iload_n 2, 1) := by decide +kernel
theorem dX0_cutHeight_74 : decode cX0_cutHeight 74 = .ok (.iload_n 1, 1) := by decide +kernel
theorem dX0_cutHeight_75 : decode cX0_cutHeight 75 = .ok (.iadd, 1) := by decide +kernel
theorem dX0_cutHeight_76 : decode cX0_cutHeight 76 = .ok (.invokestatic 9, 3) := by decide +kernel
theorem dX0_cutHeight_79 : decode cX0_cutHeight 79 = .ok (.iload_n 3, 1) := by decide +kernel
theorem dX0_cutHeight_80 : decode cX0_cutHeight 80 = .ok (.iadd, 1) := by decide +kernel
theorem dX0_cutHeight_81 : decode cX0_cutHeight 81 = .ok (.invokestatic 9, 3) := by decide +kernel
theorem dX0_cutHeight_84 : decode cX0_cutHeight 84 = .ok (.ireturn, 1) := by decide +kernel
theorem dX0_cutHeight_85 : decode cX0_cutHeight 85 = .ok (.iload_n 2, 1) := by decide +kernel
theorem dX0_cutHeight_86 : decode cX0_cutHeight 86 = .ok (.invokestatic 15, 3) := by decide +kernel
theorem dX0_cutHeight_89 : decode cX0_cutHeight 89 = .ok (.invokestatic 9, 3) := by decide +kernel
theorem dX0_cutHeight_92 : decode cX0_cutHeight 92 = .ok (.ireturn, 1) := by decide +kernel
theorem dX0_cutHeight_93 : decode cX0_cutHeight 93 = .ok (.iload_n 2, 1) := by decide +kernel
theorem dX0_cutHeight_94 : decode cX0_cutHeight 94 = .ok (.iload_n 1, 1) := by decide +kernel
theorem dX0_cutHeight_95 : decode cX0_cutHeight 95 = .ok (.isub, 1) := by decide +kernel
theorem dX0_cutHeight_96 : decode cX0_cutHeight 96 = .ok (.invokestatic 9, 3) := by decide +kernel
theorem dX0_cutHeight_99 : decode cX0_cutHeight 99 = .ok (.ireturn, 1) := by decide +kernel
theorem dX0_held_0 : decode cX0_held 0 = .ok (.iload_n 0, 1) := by decide +kernel
theorem dX0_held_1 : decode cX0_held 1 = .ok (.ifCond .ge 5, 3) := by decide +kernel
theorem dX0_held_4 : decode cX0_held 4 = .ok (.iconst 0, 1) := by decide +kernel
theorem dX0_held_5 : decode cX0_held 5 = .ok (.ireturn, 1) := by decide +kernel
theorem dX0_held_6 : decode cX0_held 6 = .ok (.iload_n 0, 1) := by decide +kernel
theorem dX0_held_7 : decode cX0_held 7 = .ok (.bipush 99, 2) := by decide +kernel
theorem dX0_held_9 : decode cX0_held 9 = .ok (.if_icmp .le 8, 3) := by decide +kernel
theorem dX0_held_12 : decode cX0_held 12 = .ok (.bipush 99, 2) := by decide +kernel
theorem dX0_held_14 : decode cX0_held 14 = .ok (.goto 4, 3) := by decide +kernel
theorem dX0_held_17 : decode cX0_held 17 = .ok (.iload_n 0, 1) := by decide +kernel
theorem dX0_held_18 : decode cX0_held 18 = .ok (.ireturn, 1) := by decide +kernel
theorem dX0_nearestTen_0 : decode cX0_nearestTen 0 = .ok (.iload_n 0, 1) := by decide +kernel
theorem dX0_nearestTen_1 : decode cX0_nearestTen 1 = .ok (.iconst 4, 1) := by decide +kernel
theorem dX0_nearestTen_2 : decode cX0_nearestTen 2 = .ok (.iadd, 1) := by decide +kernel
theorem dX0_nearestTen_3 : decode cX0_nearestTen 3 = .ok (.bipush 10, 2) := by decide +kernel
theorem dX0_nearestTen_5 : decode cX0_nearestTen 5 = .ok (.idiv, 1) := by decide +kernel
theorem dX0_nearestTen_6 : decode cX0_nearestTen 6 = .ok (.bipush 10, 2) := by decide +kernel
theorem dX0_nearestTen_8 : decode cX0_nearestTen 8 = .ok (.imul, 1) := by decide +kernel
theorem dX0_nearestTen_9 : decode cX0_nearestTen 9 = .ok (.ireturn, 1) := by decide +kernel
theorem dX0_codeOf_0 : decode cX0_codeOf 0 = .ok (.bipush 90, 2) := by decide +kernel
theorem dX0_codeOf_2 : decode cX0_codeOf 2 = .ok (.iload_n 0, 1) := by decide +kernel
theorem dX0_codeOf_3 : decode cX0_codeOf 3 = .ok (.invokestatic 15, 3) := by decide +kernel
theorem dX0_codeOf_6 : decode cX0_codeOf 6 = .ok (.invokestatic 18, 3) := by decide +kernel
theorem dX0_codeOf_9 : decode cX0_codeOf 9 = .ok (.ireturn, 1) := by decide +kernel
theorem dX1_depthOf_0 : decode cX1_depthOf 0 = .ok (.aload_n 0, 1) := by decide +kernel
theorem dX1_depthOf_1 : decode cX1_depthOf 1 = .ok (.iload_n 1, 1) := by decide +kernel
theorem dX1_depthOf_2 : decode cX1_depthOf 2 = .ok (.invokestatic 9, 3) := by decide +kernel
theorem dX1_depthOf_5 : decode cX1_depthOf 5 = .ok (.invokestatic 15, 3) := by decide +kernel
theorem dX1_depthOf_8 : decode cX1_depthOf 8 = .ok (.iconst 1, 1) := by decide +kernel
theorem dX1_depthOf_9 : decode cX1_depthOf 9 = .ok (.isub, 1) := by decide +kernel
theorem dX1_depthOf_10 : decode cX1_depthOf 10 = .ok (.ireturn, 1) := by decide +kernel
theorem dX1_rootOf_0 : decode cX1_rootOf 0 = .ok (.aload_n 0, 1) := by decide +kernel
theorem dX1_rootOf_1 : decode cX1_rootOf 1 = .ok (.iload_n 1, 1) := by decide +kernel
theorem dX1_rootOf_2 : decode cX1_rootOf 2 = .ok (.invokestatic 9, 3) := by decide +kernel
theorem dX1_rootOf_5 : decode cX1_rootOf 5 = .ok (.invokestatic 21, 3) := by decide +kernel
theorem dX1_rootOf_8 : decode cX1_rootOf 8 = .ok (.ireturn, 1) := by decide +kernel
theorem dX1_childrenOf_0 : decode cX1_childrenOf 0 = .ok (.aload_n 0, 1) := by decide +kernel
theorem dX1_childrenOf_1 : decode cX1_childrenOf 1 = .ok (.iload_n 1, 1) := by decide +kernel
theorem dX1_childrenOf_2 : decode cX1_childrenOf 2 = .ok (.invokestatic 24, 3) := by decide +kernel
theorem dX1_childrenOf_5 : decode cX1_childrenOf 5 = .ok (.invokestatic 15, 3) := by decide +kernel
theorem dX1_childrenOf_8 : decode cX1_childrenOf 8 = .ok (.ireturn, 1) := by decide +kernel
theorem dX1_heirsOf_0 : decode cX1_heirsOf 0 = .ok (.iconst 1, 1) := by decide +kernel
theorem dX1_heirsOf_1 : decode cX1_heirsOf 1 = .ok (.iload_n 1, 1) := by decide +kernel
theorem dX1_heirsOf_2 : decode cX1_heirsOf 2 = .ok (.ishl, 1) := by decide +kernel
theorem dX1_heirsOf_3 : decode cX1_heirsOf 3 = .ok (.istore_n 2, 1) := by decide +kernel
theorem dX1_heirsOf_4 : decode cX1_heirsOf 4 = .ok (.iload_n 1, 1) := by decide +kernel
theorem dX1_heirsOf_5 : decode cX1_heirsOf 5 = .ok (.iconst 1, 1) := by decide +kernel
theorem dX1_heirsOf_6 : decode cX1_heirsOf 6 = .ok (.iadd, 1) := by decide +kernel
theorem dX1_heirsOf_7 : decode cX1_heirsOf 7 = .ok (.istore_n 3, 1) := by decide +kernel
theorem dX1_heirsOf_8 : decode cX1_heirsOf 8 = .ok (.iload_n 3, 1) := by decide +kernel
theorem dX1_heirsOf_9 : decode cX1_heirsOf 9 = .ok (.aload_n 0, 1) := by decide +kernel
theorem dX1_heirsOf_10 : decode cX1_heirsOf 10 = .ok (.getfield 27, 3) := by decide +kernel
theorem dX1_heirsOf_13 : decode cX1_heirsOf 13 = .ok (.if_icmp .ge 37, 3) := by decide +kernel
theorem dX1_heirsOf_16 : decode cX1_heirsOf 16 = .ok (.aload_n 0, 1) := by decide +kernel
theorem dX1_heirsOf_17 : decode cX1_heirsOf 17 = .ok (.getfield 33, 3) := by decide +kernel
theorem dX1_heirsOf_20 : decode cX1_heirsOf 20 = .ok (.iload_n 3, 1) := by decide +kernel
theorem dX1_heirsOf_21 : decode cX1_heirsOf 21 = .ok (.iaload, 1) := by decide +kernel
theorem dX1_heirsOf_22 : decode cX1_heirsOf 22 = .ok (.istore 4, 2) := by decide +kernel
theorem dX1_heirsOf_24 : decode cX1_heirsOf 24 = .ok (.iload 4, 2) := by decide +kernel
theorem dX1_heirsOf_26 : decode cX1_heirsOf 26 = .ok (.ifCond .lt 18, 3) := by decide +kernel
theorem dX1_heirsOf_29 : decode cX1_heirsOf 29 = .ok (.iload_n 2, 1) := by decide +kernel
theorem dX1_heirsOf_30 : decode cX1_heirsOf 30 = .ok (.iload 4, 2) := by decide +kernel
theorem dX1_heirsOf_32 : decode cX1_heirsOf 32 = .ok (.invokestatic 37, 3) := by decide +kernel
theorem dX1_heirsOf_35 : decode cX1_heirsOf 35 = .ok (.ifCond .eq 9, 3) := by decide +kernel
theorem dX1_heirsOf_38 : decode cX1_heirsOf 38 = .ok (.iload_n 2, 1) := by decide +kernel
theorem dX1_heirsOf_39 : decode cX1_heirsOf 39 = .ok (.iconst 1, 1) := by decide +kernel
theorem dX1_heirsOf_40 : decode cX1_heirsOf 40 = .ok (.iload_n 3, 1) := by decide +kernel
theorem dX1_heirsOf_41 : decode cX1_heirsOf 41 = .ok (.ishl, 1) := by decide +kernel
theorem dX1_heirsOf_42 : decode cX1_heirsOf 42 = .ok (.ior, 1) := by decide +kernel
theorem dX1_heirsOf_43 : decode cX1_heirsOf 43 = .ok (.istore_n 2, 1) := by decide +kernel
theorem dX1_heirsOf_44 : decode cX1_heirsOf 44 = .ok (.iinc 3 1, 3) := by decide +kernel
theorem dX1_heirsOf_47 : decode cX1_heirsOf 47 = .ok (.goto (-39), 3) := by decide +kernel
theorem dX1_heirsOf_50 : decode cX1_heirsOf 50 = .ok (.iload_n 2, 1) := by decide +kernel
theorem dX1_heirsOf_51 : decode cX1_heirsOf 51 = .ok (.ireturn, 1) := by decide +kernel
theorem dX1_commonOf_0 : decode cX1_commonOf 0 = .ok (.aload_n 0, 1) := by decide +kernel
theorem dX1_commonOf_1 : decode cX1_commonOf 1 = .ok (.iload_n 1, 1) := by decide +kernel
theorem dX1_commonOf_2 : decode cX1_commonOf 2 = .ok (.invokestatic 9, 3) := by decide +kernel
theorem dX1_commonOf_5 : decode cX1_commonOf 5 = .ok (.aload_n 0, 1) := by decide +kernel
theorem dX1_commonOf_6 : decode cX1_commonOf 6 = .ok (.iload_n 2, 1) := by decide +kernel
theorem dX1_commonOf_7 : decode cX1_commonOf 7 = .ok (.invokestatic 9, 3) := by decide +kernel
theorem dX1_commonOf_10 : decode cX1_commonOf 10 = .ok (.iand, 1) := by decide +kernel
theorem dX1_commonOf_11 : decode cX1_commonOf 11 = .ok (.istore_n 3, 1) := by decide +kernel
theorem dX1_commonOf_12 : decode cX1_commonOf 12 = .ok (.iload_n 3, 1) := by decide +kernel
theorem dX1_commonOf_13 : decode cX1_commonOf 13 = .ok (.ifCond .ne 8, 3) := by decide +kernel
theorem dX1_commonOf_16 : decode cX1_commonOf 16 = .ok (.bipush (-9), 2) := by decide +kernel
theorem dX1_commonOf_18 : decode cX1_commonOf 18 = .ok (.goto 10, 3) := by decide +kernel
theorem dX1_commonOf_21 : decode cX1_commonOf 21 = .ok (.bipush 31, 2) := by decide +kernel
theorem dX1_commonOf_23 : decode cX1_commonOf 23 = .ok (.iload_n 3, 1) := by decide +kernel
theorem dX1_commonOf_24 : decode cX1_commonOf 24 = .ok (.invokestatic 41, 3) := by decide +kernel
theorem dX1_commonOf_27 : decode cX1_commonOf 27 = .ok (.isub, 1) := by decide +kernel
theorem dX1_commonOf_28 : decode cX1_commonOf 28 = .ok (.ireturn, 1) := by decide +kernel
theorem dX1_openHeirsOf_0 : decode cX1_openHeirsOf 0 = .ok (.aload_n 0, 1) := by decide +kernel
theorem dX1_openHeirsOf_1 : decode cX1_openHeirsOf 1 = .ok (.iload_n 1, 1) := by decide +kernel
theorem dX1_openHeirsOf_2 : decode cX1_openHeirsOf 2 = .ok (.invokestatic 44, 3) := by decide +kernel
theorem dX1_openHeirsOf_5 : decode cX1_openHeirsOf 5 = .ok (.aload_n 0, 1) := by decide +kernel
theorem dX1_openHeirsOf_6 : decode cX1_openHeirsOf 6 = .ok (.invokevirtual 47, 3) := by decide +kernel
theorem dX1_openHeirsOf_9 : decode cX1_openHeirsOf 9 = .ok (.iand, 1) := by decide +kernel
theorem dX1_openHeirsOf_10 : decode cX1_openHeirsOf 10 = .ok (.invokestatic 15, 3) := by decide +kernel
theorem dX1_openHeirsOf_13 : decode cX1_openHeirsOf 13 = .ok (.ireturn, 1) := by decide +kernel
theorem dX1_bestRoot_0 : decode cX1_bestRoot 0 = .ok (.aload_n 0, 1) := by decide +kernel
theorem dX1_bestRoot_1 : decode cX1_bestRoot 1 = .ok (.invokevirtual 47, 3) := by decide +kernel
theorem dX1_bestRoot_4 : decode cX1_bestRoot 4 = .ok (.istore_n 1, 1) := by decide +kernel
theorem dX1_bestRoot_5 : decode cX1_bestRoot 5 = .ok (.bipush (-9), 2) := by decide +kernel
theorem dX1_bestRoot_7 : decode cX1_bestRoot 7 = .ok (.istore_n 2, 1) := by decide +kernel
theorem dX1_bestRoot_8 : decode cX1_bestRoot 8 = .ok (.iconst 0, 1) := by decide +kernel
theorem dX1_bestRoot_9 : decode cX1_bestRoot 9 = .ok (.istore_n 3, 1) := by decide +kernel
theorem dX1_bestRoot_10 : decode cX1_bestRoot 10 = .ok (.iconst 0, 1) := by decide +kernel
theorem dX1_bestRoot_11 : decode cX1_bestRoot 11 = .ok (.istore 4, 2) := by decide +kernel
theorem dX1_bestRoot_13 : decode cX1_bestRoot 13 = .ok (.iload 4, 2) := by decide +kernel
theorem dX1_bestRoot_15 : decode cX1_bestRoot 15 = .ok (.aload_n 0, 1) := by decide +kernel
theorem dX1_bestRoot_16 : decode cX1_bestRoot 16 = .ok (.getfield 27, 3) := by decide +kernel
theorem dX1_bestRoot_19 : decode cX1_bestRoot 19 = .ok (.if_icmp .ge 53, 3) := by decide +kernel
theorem dX1_bestRoot_22 : decode cX1_bestRoot 22 = .ok (.aload_n 0, 1) := by decide +kernel
theorem dX1_bestRoot_23 : decode cX1_bestRoot 23 = .ok (.getfield 33, 3) := by decide +kernel
theorem dX1_bestRoot_26 : decode cX1_bestRoot 26 = .ok (.iload 4, 2) := by decide +kernel
theorem dX1_bestRoot_28 : decode cX1_bestRoot 28 = .ok (.iaload, 1) := by decide +kernel
theorem dX1_bestRoot_29 : decode cX1_bestRoot 29 = .ok (.ifCond .lt 6, 3) := by decide +kernel
theorem dX1_bestRoot_32 : decode cX1_bestRoot 32 = .ok (.goto 34, 3) := by decide +kernel
theorem dX1_bestRoot_35 : decode cX1_bestRoot 35 = .ok (.aload_n 0, 1) := by decide +kernel
theorem dX1_bestRoot_36 : decode cX1_bestRoot 36 = .ok (.iload 4, 2) := by decide +kernel
theorem dX1_bestRoot_38 : decode cX1_bestRoot 38 = .ok (.invokestatic 44, 3) := by decide +kernel
theorem dX1_bestRoot_41 : decode cX1_bestRoot 41 = .ok (.iload_n 1, 1) := by decide +kernel
theorem dX1_bestRoot_42 : decode cX1_bestRoot 42 = .ok (.iand, 1) := by decide +kernel
theorem dX1_bestRoot_43 : decode cX1_bestRoot 43 = .ok (.invokestatic 15, 3) := by decide +kernel
theorem dX1_bestRoot_46 : decode cX1_bestRoot 46 = .ok (.istore 5, 2) := by decide +kernel
theorem dX1_bestRoot_48 : decode cX1_bestRoot 48 = .ok (.iload_n 2, 1) := by decide +kernel
theorem dX1_bestRoot_49 : decode cX1_bestRoot 49 = .ok (.bipush (-9), 2) := by decide +kernel
theorem dX1_bestRoot_51 : decode cX1_bestRoot 51 = .ok (.if_icmp .eq 9, 3) := by decide +kernel
theorem dX1_bestRoot_54 : decode cX1_bestRoot 54 = .ok (.iload 5, 2) := by decide +kernel
theorem dX1_bestRoot_56 : decode cX1_bestRoot 56 = .ok (.iload_n 3, 1) := by decide +kernel
theorem dX1_bestRoot_57 : decode cX1_bestRoot 57 = .ok (.if_icmp .le 9, 3) := by decide +kernel
theorem dX1_bestRoot_60 : decode cX1_bestRoot 60 = .ok (.iload 4, 2) := by decide +kernel
theorem dX1_bestRoot_62 : decode cX1_bestRoot 62 = .ok (.istore_n 2, 1) := by decide +kernel
theorem dX1_bestRoot_63 : decode cX1_bestRoot 63 = .ok (.iload 5, 2) := by decide +kernel
theorem dX1_bestRoot_65 : decode cX1_bestRoot 65 = .ok (.istore_n 3, 1) := by decide +kernel
theorem dX1_bestRoot_66 : decode cX1_bestRoot 66 = .ok (.iinc 4 1, 3) := by decide +kernel
theorem dX1_bestRoot_69 : decode cX1_bestRoot 69 = .ok (.goto (-56), 3) := by decide +kernel
theorem dX1_bestRoot_72 : decode cX1_bestRoot 72 = .ok (.iload_n 2, 1) := by decide +kernel
theorem dX1_bestRoot_73 : decode cX1_bestRoot 73 = .ok (.ireturn, 1) := by decide +kernel
theorem dX1_whomToAsk_0 : decode cX1_whomToAsk 0 = .ok (.aload_n 0, 1) := by decide +kernel
theorem dX1_whomToAsk_1 : decode cX1_whomToAsk 1 = .ok (.iload_n 1, 1) := by decide +kernel
theorem dX1_whomToAsk_2 : decode cX1_whomToAsk 2 = .ok (.invokestatic 24, 3) := by decide +kernel
theorem dX1_whomToAsk_5 : decode cX1_whomToAsk 5 = .ok (.istore_n 2, 1) := by decide +kernel
theorem dX1_whomToAsk_6 : decode cX1_whomToAsk 6 = .ok (.aload_n 0, 1) := by decide +kernel
theorem dX1_whomToAsk_7 : decode cX1_whomToAsk 7 = .ok (.getfield 33, 3) := by decide +kernel
theorem dX1_whomToAsk_10 : decode cX1_whomToAsk 10 = .ok (.iload_n 1, 1) := by decide +kernel
theorem dX1_whomToAsk_11 : decode cX1_whomToAsk 11 = .ok (.iaload, 1) := by decide +kernel
theorem dX1_whomToAsk_12 : decode cX1_whomToAsk 12 = .ok (.istore_n 3, 1) := by decide +kernel
theorem dX1_whomToAsk_13 : decode cX1_whomToAsk 13 = .ok (.iload_n 3, 1) := by decide +kernel
theorem dX1_whomToAsk_14 : decode cX1_whomToAsk 14 = .ok (.ifCond .lt 15, 3) := by decide +kernel
theorem dX1_whomToAsk_17 : decode cX1_whomToAsk 17 = .ok (.iload_n 2, 1) := by decide +kernel
theorem dX1_whomToAsk_18 : decode cX1_whomToAsk 18 = .ok (.iconst 1, 1) := by decide +kernel
theorem dX1_whomToAsk_19 : decode cX1_whomToAsk 19 = .ok (.iload_n 3, 1) := by decide +kernel
theorem dX1_whomToAsk_20 : decode cX1_whomToAsk 20 = .ok (.ishl, 1) := by decide +kernel
theorem dX1_whomToAsk_21 : decode cX1_whomToAsk 21 = .ok (.aload_n 0, 1) := by decide +kernel
theorem dX1_whomToAsk_22 : decode cX1_whomToAsk 22 = .ok (.iload_n 3, 1) := by decide +kernel
theorem dX1_whomToAsk_23 : decode cX1_whomToAsk 23 = .ok (.invokestatic 24, 3) := by decide +kernel
theorem dX1_whomToAsk_26 : decode cX1_whomToAsk 26 = .ok (.ior, 1) := by decide +kernel
theorem dX1_whomToAsk_27 : decode cX1_whomToAsk 27 = .ok (.ior, 1) := by decide +kernel
theorem dX1_whomToAsk_28 : decode cX1_whomToAsk 28 = .ok (.istore_n 2, 1) := by decide +kernel
theorem dX1_whomToAsk_29 : decode cX1_whomToAsk 29 = .ok (.aload_n 0, 1) := by decide +kernel
theorem dX1_whomToAsk_30 : decode cX1_whomToAsk 30 = .ok (.iload_n 2, 1) := by decide +kernel
theorem dX1_whomToAsk_31 : decode cX1_whomToAsk 31 = .ok (.iconst 1, 1) := by decide +kernel
theorem dX1_whomToAsk_32 : decode cX1_whomToAsk 32 = .ok (.iload_n 1, 1) := by decide +kernel
theorem dX1_whomToAsk_33 : decode cX1_whomToAsk 33 = .ok (.ishl, 1) := by decide +kernel
theorem dX1_whomToAsk_34 : decode cX1_whomToAsk 34 = .ok (.iconst (-1), 1) := by decide +kernel
theorem dX1_whomToAsk_35 : decode cX1_whomToAsk 35 = .ok (.ixor, 1) := by decide +kernel
theorem dX1_whomToAsk_36 : decode cX1_whomToAsk 36 = .ok (.iand, 1) := by decide +kernel
theorem dX1_whomToAsk_37 : decode cX1_whomToAsk 37 = .ok (.aload_n 0, 1) := by decide +kernel
theorem dX1_whomToAsk_38 : decode cX1_whomToAsk 38 = .ok (.invokevirtual 47, 3) := by decide +kernel
theorem dX1_whomToAsk_41 : decode cX1_whomToAsk 41 = .ok (.iand, 1) := by decide +kernel
theorem dX1_whomToAsk_42 : decode cX1_whomToAsk 42 = .ok (.invokevirtual 51, 3) := by decide +kernel
theorem dX1_whomToAsk_45 : decode cX1_whomToAsk 45 = .ok (.ireturn, 1) := by decide +kernel
theorem dX1_childBits_0 : decode cX1_childBits 0 = .ok (.iconst 0, 1) := by decide +kernel
theorem dX1_childBits_1 : decode cX1_childBits 1 = .ok (.istore_n 2, 1) := by decide +kernel
theorem dX1_childBits_2 : decode cX1_childBits 2 = .ok (.iload_n 1, 1) := by decide +kernel
theorem dX1_childBits_3 : decode cX1_childBits 3 = .ok (.iconst 1, 1) := by decide +kernel
theorem dX1_childBits_4 : decode cX1_childBits 4 = .ok (.iadd, 1) := by decide +kernel
theorem dX1_childBits_5 : decode cX1_childBits 5 = .ok (.istore_n 3, 1) := by decide +kernel
theorem dX1_childBits_6 : decode cX1_childBits 6 = .ok (.iload_n 3, 1) := by decide +kernel
theorem dX1_childBits_7 : decode cX1_childBits 7 = .ok (.aload_n 0, 1) := by decide +kernel
theorem dX1_childBits_8 : decode cX1_childBits 8 = .ok (.getfield 27, 3) := by decide +kernel
theorem dX1_childBits_11 : decode cX1_childBits 11 = .ok (.if_icmp .ge 29, 3) := by decide +kernel
theorem dX1_childBits_14 : decode cX1_childBits 14 = .ok (.iload_n 2, 1) := by decide +kernel
theorem dX1_childBits_15 : decode cX1_childBits 15 = .ok (.aload_n 0, 1) := by decide +kernel
theorem dX1_childBits_16 : decode cX1_childBits 16 = .ok (.getfield 33, 3) := by decide +kernel
theorem dX1_childBits_19 : decode cX1_childBits 19 = .ok (.iload_n 3, 1) := by decide +kernel
theorem dX1_childBits_20 : decode cX1_childBits 20 = .ok (.iaload, 1) := by decide +kernel
theorem dX1_childBits_21 : decode cX1_childBits 21 = .ok (.iload_n 1, 1) := by decide +kernel
theorem dX1_childBits_22 : decode cX1_childBits 22 = .ok (.if_icmp .ne 9, 3) := by decide +kernel
theorem dX1_childBits_25 : decode cX1_childBits 25 = .ok (.iconst 1, 1) := by decide +kernel
theorem dX1_childBits_26 : decode cX1_childBits 26 = .ok (.iload_n 3, 1) := by decide +kernel
theorem dX1_childBits_27 : decode cX1_childBits 27 = .ok (.ishl, 1) := by decide +kernel
theorem dX1_childBits_28 : decode cX1_childBits 28 = .ok (.goto 4, 3) := by decide +kernel
theorem dX1_childBits_31 : decode cX1_childBits 31 = .ok (.iconst 0, 1) := by decide +kernel
theorem dX1_childBits_32 : decode cX1_childBits 32 = .ok (.ior, 1) := by decide +kernel
theorem dX1_childBits_33 : decode cX1_childBits 33 = .ok (.istore_n 2, 1) := by decide +kernel
theorem dX1_childBits_34 : decode cX1_childBits 34 = .ok (.iinc 3 1, 3) := by decide +kernel
theorem dX1_childBits_37 : decode cX1_childBits 37 = .ok (.goto (-31), 3) := by decide +kernel
theorem dX1_childBits_40 : decode cX1_childBits 40 = .ok (.iload_n 2, 1) := by decide +kernel
theorem dX1_childBits_41 : decode cX1_childBits 41 = .ok (.ireturn, 1) := by decide +kernel
theorem dX1_elders_0 : decode cX1_elders 0 = .ok (.iconst 0, 1) := by decide +kernel
theorem dX1_elders_1 : decode cX1_elders 1 = .ok (.istore_n 2, 1) := by decide +kernel
theorem dX1_elders_2 : decode cX1_elders 2 = .ok (.iload_n 1, 1) := by decide +kernel
theorem dX1_elders_3 : decode cX1_elders 3 = .ok (.istore_n 3, 1) := by decide +kernel
theorem dX1_elders_4 : decode cX1_elders 4 = .ok (.iconst 0, 1) := by decide +kernel
theorem dX1_elders_5 : decode cX1_elders 5 = .ok (.istore 4, 2) := by decide +kernel
theorem dX1_elders_7 : decode cX1_elders 7 = .ok (.iload 4, 2) := by decide +kernel
theorem dX1_elders_9 : decode cX1_elders 9 = .ok (.bipush 10, 2) := by decide +kernel
theorem dX1_elders_11 : decode cX1_elders 11 = .ok (.if_icmp .ge 30, 3) := by decide +kernel
theorem dX1_elders_14 : decode cX1_elders 14 = .ok (.aload_n 0, 1) := by decide +kernel
theorem dX1_elders_15 : decode cX1_elders 15 = .ok (.iload_n 3, 1) := by decide +kernel
theorem dX1_elders_16 : decode cX1_elders 16 = .ok (.invokevirtual 54, 3) := by decide +kernel
theorem dX1_elders_19 : decode cX1_elders 19 = .ok (.ifCond .eq 22, 3) := by decide +kernel
theorem dX1_elders_22 : decode cX1_elders 22 = .ok (.iload_n 2, 1) := by decide +kernel
theorem dX1_elders_23 : decode cX1_elders 23 = .ok (.iconst 1, 1) := by decide +kernel
theorem dX1_elders_24 : decode cX1_elders 24 = .ok (.iload_n 3, 1) := by decide +kernel
theorem dX1_elders_25 : decode cX1_elders 25 = .ok (.ishl, 1) := by decide +kernel
theorem dX1_elders_26 : decode cX1_elders 26 = .ok (.ior, 1) := by decide +kernel
theorem dX1_elders_27 : decode cX1_elders 27 = .ok (.istore_n 2, 1) := by decide +kernel
theorem dX1_elders_28 : decode cX1_elders 28 = .ok (.aload_n 0, 1) := by decide +kernel
theorem dX1_elders_29 : decode cX1_elders 29 = .ok (.getfield 33, 3) := by decide +kernel
theorem dX1_elders_32 : decode cX1_elders 32 = .ok (.iload_n 3, 1) := by decide +kernel
theorem dX1_elders_33 : decode cX1_elders 33 = .ok (.iaload, 1) := by decide +kernel
theorem dX1_elders_34 : decode cX1_elders 34 = .ok (.istore_n 3, 1) := by decide +kernel
theorem dX1_elders_35 : decode cX1_elders 35 = .ok (.iinc 4 1, 3) := by decide +kernel
theorem dX1_elders_38 : decode cX1_elders 38 = .ok (.goto (-31), 3) := by decide +kernel
theorem dX1_elders_41 : decode cX1_elders 41 = .ok (.iload_n 2, 1) := by decide +kernel
theorem dX1_elders_42 : decode cX1_elders 42 = .ok (.ireturn, 1) := by decide +kernel
theorem dX2_init_0 : decode cX2_init 0 = .ok (.aload_n 0, 1) := by decide +kernel
theorem dX2_init_1 : decode cX2_init 1 = .ok (.invokespecial 3, 3) := by decide +kernel
theorem dX2_init_4 : decode cX2_init 4 = .ok (.aload_n 0, 1) := by decide +kernel
theorem dX2_init_5 : decode cX2_init 5 = .ok (.iconst 5, 1) := by decide +kernel
theorem dX2_init_6 : decode cX2_init 6 = .ok (.newarray .int, 2) := by decide +kernel
theorem dX2_init_8 : decode cX2_init 8 = .ok (.putfield 9, 3) := by decide +kernel
theorem dX2_init_11 : decode cX2_init 11 = .ok (.aload_n 0, 1) := by decide +kernel
theorem dX2_init_12 : decode cX2_init 12 = .ok (.bipush 10, 2) := by decide +kernel
theorem dX2_init_14 : decode cX2_init 14 = .ok (.newarray .int, 2) := by decide +kernel
theorem dX2_init_16 : decode cX2_init 16 = .ok (.putfield 15, 3) := by decide +kernel
theorem dX2_init_19 : decode cX2_init 19 = .ok (.aload_n 0, 1) := by decide +kernel
theorem dX2_init_20 : decode cX2_init 20 = .ok (.iconst 0, 1) := by decide +kernel
theorem dX2_init_21 : decode cX2_init 21 = .ok (.putfield 18, 3) := by decide +kernel
theorem dX2_init_24 : decode cX2_init 24 = .ok (.return_, 1) := by decide +kernel
theorem dX2_takeKey_0 : decode cX2_takeKey 0 = .ok (.aload_n 1, 1) := by decide +kernel
theorem dX2_takeKey_1 : decode cX2_takeKey 1 = .ok (.getfield 22, 3) := by decide +kernel
theorem dX2_takeKey_4 : decode cX2_takeKey 4 = .ok (.iload_n 2, 1) := by decide +kernel
theorem dX2_takeKey_5 : decode cX2_takeKey 5 = .ok (.aaload, 1) := by decide +kernel
theorem dX2_takeKey_6 : decode cX2_takeKey 6 = .ok (.iconst 0, 1) := by decide +kernel
theorem dX2_takeKey_7 : decode cX2_takeKey 7 = .ok (.aload_n 0, 1) := by decide +kernel
theorem dX2_takeKey_8 : decode cX2_takeKey 8 = .ok (.getfield 9, 3) := by decide +kernel
theorem dX2_takeKey_11 : decode cX2_takeKey 11 = .ok (.iconst 0, 1) := by decide +kernel
theorem dX2_takeKey_12 : decode cX2_takeKey 12 = .ok (.iconst 5, 1) := by decide +kernel
theorem dX2_takeKey_13 : decode cX2_takeKey 13 = .ok (.invokestatic 28, 3) := by decide +kernel
theorem dX2_takeKey_16 : decode cX2_takeKey 16 = .ok (.return_, 1) := by decide +kernel
theorem dX2_cutCopy_0 : decode cX2_cutCopy 0 = .ok (.iconst 0, 1) := by decide +kernel
theorem dX2_cutCopy_1 : decode cX2_cutCopy 1 = .ok (.istore_n 3, 1) := by decide +kernel
theorem dX2_cutCopy_2 : decode cX2_cutCopy 2 = .ok (.iload_n 3, 1) := by decide +kernel
theorem dX2_cutCopy_3 : decode cX2_cutCopy 3 = .ok (.iconst 5, 1) := by decide +kernel
theorem dX2_cutCopy_4 : decode cX2_cutCopy 4 = .ok (.if_icmp .ge 27, 3) := by decide +kernel
theorem dX2_cutCopy_7 : decode cX2_cutCopy 7 = .ok (.aload_n 0, 1) := by decide +kernel
theorem dX2_cutCopy_8 : decode cX2_cutCopy 8 = .ok (.getfield 9, 3) := by decide +kernel
theorem dX2_cutCopy_11 : decode cX2_cutCopy 11 = .ok (.iload_n 3, 1) := by decide +kernel
theorem dX2_cutCopy_12 : decode cX2_cutCopy 12 = .ok (.iload_n 1, 1) := by decide +kernel
theorem dX2_cutCopy_13 : decode cX2_cutCopy 13 = .ok (.iload_n 2, 1) := by decide +kernel
theorem dX2_cutCopy_14 : decode cX2_cutCopy 14 = .ok (.aload_n 0, 1) := by decide +kernel
theorem dX2_cutCopy_15 : decode cX2_cutCopy 15 = .ok (.getfield 9, 3) := by decide +kernel
theorem dX2_cutCopy_18 : decode cX2_cutCopy 18 = .ok (.iload_n 3, 1) := by decide +kernel
theorem dX2_cutCopy_19 : decode cX2_cutCopy 19 = .ok (.iaload, 1) := by decide +kernel
theorem dX2_cutCopy_20 : decode cX2_cutCopy 20 = .ok (.iload_n 3, 1) := by decide +kernel
theorem dX2_cutCopy_21 : decode cX2_cutCopy 21 = .ok (.invokestatic 34, 3) := by decide +kernel
theorem dX2_cutCopy_24 : decode cX2_cutCopy 24 = .ok (.iastore, 1) := by decide +kernel
theorem dX2_cutCopy_25 : decode cX2_cutCopy 25 = .ok (.iinc 3 1, 3) := by decide +kernel
theorem dX2_cutCopy_28 : decode cX2_cutCopy 28 = .ok (.goto (-26), 3) := by decide +kernel
theorem dX2_cutCopy_31 : decode cX2_cutCopy 31 = .ok (.return_, 1) := by decide +kernel
theorem dX2_cutCopyBy_0 : decode cX2_cutCopyBy 0 = .ok (.aload_n 0, 1) := by decide +kernel
theorem dX2_cutCopyBy_1 : decode cX2_cutCopyBy 1 = .ok (.aload_n 1, 1) := by decide +kernel
theorem dX2_cutCopyBy_2 : decode cX2_cutCopyBy 2 = .ok (.getfield 40, 3) := by decide +kernel
theorem dX2_cutCopyBy_5 : decode cX2_cutCopyBy 5 = .ok (.iload_n 2, 1) := by decide +kernel
theorem dX2_cutCopyBy_6 : decode cX2_cutCopyBy 6 = .ok (.iaload, 1) := by decide +kernel
theorem dX2_cutCopyBy_7 : decode cX2_cutCopyBy 7 = .ok (.aload_n 1, 1) := by decide +kernel
theorem dX2_cutCopyBy_8 : decode cX2_cutCopyBy 8 = .ok (.getfield 43, 3) := by decide +kernel
theorem dX2_cutCopyBy_11 : decode cX2_cutCopyBy 11 = .ok (.iload_n 2, 1) := by decide +kernel
theorem dX2_cutCopyBy_12 : decode cX2_cutCopyBy 12 = .ok (.iaload, 1) := by decide +kernel
theorem dX2_cutCopyBy_13 : decode cX2_cutCopyBy 13 = .ok (.invokevirtual 46, 3) := by decide +kernel
theorem dX2_cutCopyBy_16 : decode cX2_cutCopyBy 16 = .ok (.return_, 1) := by decide +kernel
theorem dX2_bestNext_0 : decode cX2_bestNext 0 = .ok (.bipush (-9), 2) := by decide +kernel
theorem dX2_bestNext_2 : decode cX2_bestNext 2 = .ok (.istore_n 3, 1) := by decide +kernel
theorem dX2_bestNext_3 : decode cX2_bestNext 3 = .ok (.bipush (-9), 2) := by decide +kernel
theorem dX2_bestNext_5 : decode cX2_bestNext 5 = .ok (.istore 4, 2) := by decide +kernel
theorem dX2_bestNext_7 : decode cX2_bestNext 7 = .ok (.iconst 0, 1) := by decide +kernel
theorem dX2_bestNext_8 : decode cX2_bestNext 8 = .ok (.istore 5, 2) := by decide +kernel
theorem dX2_bestNext_10 : decode cX2_bestNext 10 = .ok (.iload 5, 2) := by decide +kernel
theorem dX2_bestNext_12 : decode cX2_bestNext 12 = .ok (.aload_n 1, 1) := by decide +kernel
theorem dX2_bestNext_13 : decode cX2_bestNext 13 = .ok (.getfield 50, 3) := by decide +kernel
theorem dX2_bestNext_16 : decode cX2_bestNext 16 = .ok (.if_icmp .ge 87, 3) := by decide +kernel
theorem dX2_bestNext_19 : decode cX2_bestNext 19 = .ok (.iconst 0, 1) := by decide +kernel
theorem dX2_bestNext_20 : decode cX2_bestNext 20 = .ok (.istore 6, 2) := by decide +kernel
theorem dX2_bestNext_22 : decode cX2_bestNext 22 = .ok (.iload 6, 2) := by decide +kernel
theorem dX2_bestNext_24 : decode cX2_bestNext 24 = .ok (.aload_n 1, 1) := by decide +kernel
theorem dX2_bestNext_25 : decode cX2_bestNext 25 = .ok (.getfield 53, 3) := by decide +kernel
theorem dX2_bestNext_28 : decode cX2_bestNext 28 = .ok (.if_icmp .ge 69, 3) := by decide +kernel
theorem dX2_bestNext_31 : decode cX2_bestNext 31 = .ok (.aload_n 1, 1) := by decide +kernel
theorem dX2_bestNext_32 : decode cX2_bestNext 32 = .ok (.getfield 56, 3) := by decide +kernel
theorem dX2_bestNext_35 : decode cX2_bestNext 35 = .ok (.iload 5, 2) := by decide +kernel
theorem dX2_bestNext_37 : decode cX2_bestNext 37 = .ok (.baload, 1) := by decide +kernel
theorem dX2_bestNext_38 : decode cX2_bestNext 38 = .ok (.ifCond .ne 59, 3) := by decide +kernel
theorem dX2_bestNext_41 : decode cX2_bestNext 41 = .ok (.aload_n 0, 1) := by decide +kernel
theorem dX2_bestNext_42 : decode cX2_bestNext 42 = .ok (.aload_n 1, 1) := by decide +kernel
theorem dX2_bestNext_43 : decode cX2_bestNext 43 = .ok (.iload 5, 2) := by decide +kernel
theorem dX2_bestNext_45 : decode cX2_bestNext 45 = .ok (.invokevirtual 60, 3) := by decide +kernel
theorem dX2_bestNext_48 : decode cX2_bestNext 48 = .ok (.aload_n 0, 1) := by decide +kernel
theorem dX2_bestNext_49 : decode cX2_bestNext 49 = .ok (.aload_n 1, 1) := by decide +kernel
theorem dX2_bestNext_50 : decode cX2_bestNext 50 = .ok (.iload 6, 2) := by decide +kernel
theorem dX2_bestNext_52 : decode cX2_bestNext 52 = .ok (.invokevirtual 64, 3) := by decide +kernel
theorem dX2_bestNext_55 : decode cX2_bestNext 55 = .ok (.aload_n 1, 1) := by decide +kernel
theorem dX2_bestNext_56 : decode cX2_bestNext 56 = .ok (.aload_n 0, 1) := by decide +kernel
theorem dX2_bestNext_57 : decode cX2_bestNext 57 = .ok (.getfield 9, 3) := by decide +kernel
theorem dX2_bestNext_60 : decode cX2_bestNext 60 = .ok (.invokevirtual 67, 3) := by decide +kernel
theorem dX2_bestNext_63 : decode cX2_bestNext 63 = .ok (.istore 7, 2) := by decide +kernel
theorem dX2_bestNext_65 : decode cX2_bestNext 65 = .ok (.iload_n 3, 1) := by decide +kernel
theorem dX2_bestNext_66 : decode cX2_bestNext 66 = .ok (.bipush (-9), 2) := by decide +kernel
theorem dX2_bestNext_68 : decode cX2_bestNext 68 = .ok (.if_icmp .eq 10, 3) := by decide +kernel
theorem dX2_bestNext_71 : decode cX2_bestNext 71 = .ok (.iload 7, 2) := by decide +kernel
theorem dX2_bestNext_73 : decode cX2_bestNext 73 = .ok (.iload 4, 2) := by decide +kernel
theorem dX2_bestNext_75 : decode cX2_bestNext 75 = .ok (.if_icmp .ge 16, 3) := by decide +kernel
theorem dX2_bestNext_78 : decode cX2_bestNext 78 = .ok (.bipush 10, 2) := by decide +kernel
theorem dX2_bestNext_80 : decode cX2_bestNext 80 = .ok (.iload 5, 2) := by decide +kernel
theorem dX2_bestNext_82 : decode cX2_bestNext 82 = .ok (.imul, 1) := by decide +kernel
theorem dX2_bestNext_83 : decode cX2_bestNext 83 = .ok (.iload 6, 2) := by decide +kernel
theorem dX2_bestNext_85 : decode cX2_bestNext 85 = .ok (.iadd, 1) := by decide +kernel
theorem dX2_bestNext_86 : decode cX2_bestNext 86 = .ok (.istore_n 3, 1) := by decide +kernel
theorem dX2_bestNext_87 : decode cX2_bestNext 87 = .ok (.iload 7, 2) := by decide +kernel
theorem dX2_bestNext_89 : decode cX2_bestNext 89 = .ok (.istore 4, 2) := by decide +kernel
theorem dX2_bestNext_91 : decode cX2_bestNext 91 = .ok (.iinc 6 1, 3) := by decide +kernel
theorem dX2_bestNext_94 : decode cX2_bestNext 94 = .ok (.goto (-72), 3) := by decide +kernel
theorem dX2_bestNext_97 : decode cX2_bestNext 97 = .ok (.iinc 5 1, 3) := by decide +kernel
theorem dX2_bestNext_100 : decode cX2_bestNext 100 = .ok (.goto (-90), 3) := by decide +kernel
theorem dX2_bestNext_103 : decode cX2_bestNext 103 = .ok (.iload_n 2, 1) := by decide +kernel
theorem dX2_bestNext_104 : decode cX2_bestNext 104 = .ok (.ifCond .eq 8, 3) := by decide +kernel
theorem dX2_bestNext_107 : decode cX2_bestNext 107 = .ok (.iload 4, 2) := by decide +kernel
theorem dX2_bestNext_109 : decode cX2_bestNext 109 = .ok (.goto 4, 3) := by decide +kernel
theorem dX2_bestNext_112 : decode cX2_bestNext 112 = .ok (.iload_n 3, 1) := by decide +kernel
theorem dX2_bestNext_113 : decode cX2_bestNext 113 = .ok (.ireturn, 1) := by decide +kernel
theorem dX2_copiesThatOpen_0 : decode cX2_copiesThatOpen 0 = .ok (.aload_n 0, 1) := by decide +kernel
theorem dX2_copiesThatOpen_1 : decode cX2_copiesThatOpen 1 = .ok (.aload_n 1, 1) := by decide +kernel
theorem dX2_copiesThatOpen_2 : decode cX2_copiesThatOpen 2 = .ok (.iload_n 2, 1) := by decide +kernel
theorem dX2_copiesThatOpen_3 : decode cX2_copiesThatOpen 3 = .ok (.invokevirtual 60, 3) := by decide +kernel
theorem dX2_copiesThatOpen_6 : decode cX2_copiesThatOpen 6 = .ok (.iconst 0, 1) := by decide +kernel
theorem dX2_copiesThatOpen_7 : decode cX2_copiesThatOpen 7 = .ok (.istore 4, 2) := by decide +kernel
theorem dX2_copiesThatOpen_9 : decode cX2_copiesThatOpen 9 = .ok (.iload 4, 2) := by decide +kernel
theorem dX2_copiesThatOpen_11 : decode cX2_copiesThatOpen 11 = .ok (.bipush 30, 2) := by decide +kernel
theorem dX2_copiesThatOpen_13 : decode cX2_copiesThatOpen 13 = .ok (.if_icmp .ge 29, 3) := by decide +kernel
theorem dX2_copiesThatOpen_16 : decode cX2_copiesThatOpen 16 = .ok (.aload_n 0, 1) := by decide +kernel
theorem dX2_copiesThatOpen_17 : decode cX2_copiesThatOpen 17 = .ok (.aload_n 1, 1) := by decide +kernel
theorem dX2_copiesThatOpen_18 : decode cX2_copiesThatOpen 18 = .ok (.iload_n 3, 1) := by decide +kernel
theorem dX2_copiesThatOpen_19 : decode cX2_copiesThatOpen 19 = .ok (.invokevirtual 64, 3) := by decide +kernel
theorem dX2_copiesThatOpen_22 : decode cX2_copiesThatOpen 22 = .ok (.aload_n 1, 1) := by decide +kernel
theorem dX2_copiesThatOpen_23 : decode cX2_copiesThatOpen 23 = .ok (.aload_n 0, 1) := by decide +kernel
theorem dX2_copiesThatOpen_24 : decode cX2_copiesThatOpen 24 = .ok (.getfield 9, 3) := by decide +kernel
theorem dX2_copiesThatOpen_27 : decode cX2_copiesThatOpen 27 = .ok (.invokevirtual 71, 3) := by decide +kernel
theorem dX2_copiesThatOpen_30 : decode cX2_copiesThatOpen 30 = .ok (.ifCond .ne 6, 3) := by decide +kernel
theorem dX2_copiesThatOpen_33 : decode cX2_copiesThatOpen 33 = .ok (.iload 4, 2) := by decide +kernel
theorem dX2_copiesThatOpen_35 : decode cX2_copiesThatOpen 35 = .ok (.ireturn, 1) := by decide +kernel
theorem dX2_copiesThatOpen_36 : decode cX2_copiesThatOpen 36 = .ok (.iinc 4 1, 3) := by decide +kernel
theorem dX2_copiesThatOpen_39 : decode cX2_copiesThatOpen 39 = .ok (.goto (-30), 3) := by decide +kernel
theorem dX2_copiesThatOpen_42 : decode cX2_copiesThatOpen 42 = .ok (.bipush 30, 2) := by decide +kernel
theorem dX2_copiesThatOpen_44 : decode cX2_copiesThatOpen 44 = .ok (.ireturn, 1) := by decide +kernel
theorem dX2_toothThatGoesFirst_0 : decode cX2_toothThatGoesFirst 0 = .ok (.aload_n 0, 1) := by decide +kernel
theorem dX2_toothThatGoesFirst_1 : decode cX2_toothThatGoesFirst 1 = .ok (.aload_n 1, 1) := by decide +kernel
theorem dX2_toothThatGoesFirst_2 : decode cX2_toothThatGoesFirst 2 = .ok (.iload_n 2, 1) := by decide +kernel
theorem dX2_toothThatGoesFirst_3 : decode cX2_toothThatGoesFirst 3 = .ok (.invokevirtual 60, 3) := by decide +kernel
theorem dX2_toothThatGoesFirst_6 : decode cX2_toothThatGoesFirst 6 = .ok (.iconst 0, 1) := by decide +kernel
theorem dX2_toothThatGoesFirst_7 : decode cX2_toothThatGoesFirst 7 = .ok (.istore 4, 2) := by decide +kernel
theorem dX2_toothThatGoesFirst_9 : decode cX2_toothThatGoesFirst 9 = .ok (.iload 4, 2) := by decide +kernel
theorem dX2_toothThatGoesFirst_11 : decode cX2_toothThatGoesFirst 11 = .ok (.bipush 30, 2) := by decide +kernel
theorem dX2_toothThatGoesFirst_13 : decode cX2_toothThatGoesFirst 13 = .ok (.if_icmp .ge 35, 3) := by decide +kernel
theorem dX2_toothThatGoesFirst_16 : decode cX2_toothThatGoesFirst 16 = .ok (.aload_n 0, 1) := by decide +kernel
theorem dX2_toothThatGoesFirst_17 : decode cX2_toothThatGoesFirst 17 = .ok (.aload_n 1, 1) := by decide +kernel
theorem dX2_toothThatGoesFirst_18 : decode cX2_toothThatGoesFirst 18 = .ok (.iload_n 3, 1) := by decide +kernel
theorem dX2_toothThatGoesFirst_19 : decode cX2_toothThatGoesFirst 19 = .ok (.invokevirtual 64, 3) := by decide +kernel
theorem dX2_toothThatGoesFirst_22 : decode cX2_toothThatGoesFirst 22 = .ok (.aload_n 1, 1) := by decide +kernel
theorem dX2_toothThatGoesFirst_23 : decode cX2_toothThatGoesFirst 23 = .ok (.aload_n 0, 1) := by decide +kernel
theorem dX2_toothThatGoesFirst_24 : decode cX2_toothThatGoesFirst 24 = .ok (.getfield 9, 3) := by decide +kernel
theorem dX2_toothThatGoesFirst_27 : decode cX2_toothThatGoesFirst 27 = .ok (.invokevirtual 75, 3) := by decide +kernel
theorem dX2_toothThatGoesFirst_30 : decode cX2_toothThatGoesFirst 30 = .ok (.istore 5, 2) := by decide +kernel
theorem dX2_toothThatGoesFirst_32 : decode cX2_toothThatGoesFirst 32 = .ok (.iload 5, 2) := by decide +kernel
theorem dX2_toothThatGoesFirst_34 : decode cX2_toothThatGoesFirst 34 = .ok (.bipush (-9), 2) := by decide +kernel
theorem dX2_toothThatGoesFirst_36 : decode cX2_toothThatGoesFirst 36 = .ok (.if_icmp .eq 6, 3) := by decide +kernel
theorem dX2_toothThatGoesFirst_39 : decode cX2_toothThatGoesFirst 39 = .ok (.iload 5, 2) := by decide +kernel
theorem dX2_toothThatGoesFirst_41 : decode cX2_toothThatGoesFirst 41 = .ok (.ireturn, 1) := by decide +kernel
theorem dX2_toothThatGoesFirst_42 : decode cX2_toothThatGoesFirst 42 = .ok (.iinc 4 1, 3) := by decide +kernel
theorem dX2_toothThatGoesFirst_45 : decode cX2_toothThatGoesFirst 45 = .ok (.goto (-36), 3) := by decide +kernel
theorem dX2_toothThatGoesFirst_48 : decode cX2_toothThatGoesFirst 48 = .ok (.bipush (-9), 2) := by decide +kernel
theorem dX2_toothThatGoesFirst_50 : decode cX2_toothThatGoesFirst 50 = .ok (.ireturn, 1) := by decide +kernel
theorem dX2_usesTillShut_0 : decode cX2_usesTillShut 0 = .ok (.iconst 0, 1) := by decide +kernel
theorem dX2_usesTillShut_1 : decode cX2_usesTillShut 1 = .ok (.istore_n 3, 1) := by decide +kernel
theorem dX2_usesTillShut_2 : decode cX2_usesTillShut 2 = .ok (.iload_n 3, 1) := by decide +kernel
theorem dX2_usesTillShut_3 : decode cX2_usesTillShut 3 = .ok (.sipush 999, 3) := by decide +kernel
theorem dX2_usesTillShut_6 : decode cX2_usesTillShut 6 = .ok (.if_icmp .gt 30, 3) := by decide +kernel
theorem dX2_usesTillShut_9 : decode cX2_usesTillShut 9 = .ok (.aload_n 1, 1) := by decide +kernel
theorem dX2_usesTillShut_10 : decode cX2_usesTillShut 10 = .ok (.getfield 56, 3) := by decide +kernel
theorem dX2_usesTillShut_13 : decode cX2_usesTillShut 13 = .ok (.iload_n 2, 1) := by decide +kernel
theorem dX2_usesTillShut_14 : decode cX2_usesTillShut 14 = .ok (.baload, 1) := by decide +kernel
theorem dX2_usesTillShut_15 : decode cX2_usesTillShut 15 = .ok (.ifCond .ne 13, 3) := by decide +kernel
theorem dX2_usesTillShut_18 : decode cX2_usesTillShut 18 = .ok (.aload_n 0, 1) := by decide +kernel
theorem dX2_usesTillShut_19 : decode cX2_usesTillShut 19 = .ok (.aload_n 1, 1) := by decide +kernel
theorem dX2_usesTillShut_20 : decode cX2_usesTillShut 20 = .ok (.iload_n 2, 1) := by decide +kernel
theorem dX2_usesTillShut_21 : decode cX2_usesTillShut 21 = .ok (.iload_n 3, 1) := by decide +kernel
theorem dX2_usesTillShut_22 : decode cX2_usesTillShut 22 = .ok (.invokevirtual 78, 3) := by decide +kernel
theorem dX2_usesTillShut_25 : decode cX2_usesTillShut 25 = .ok (.ifCond .ne 5, 3) := by decide +kernel
theorem dX2_usesTillShut_28 : decode cX2_usesTillShut 28 = .ok (.iload_n 3, 1) := by decide +kernel
theorem dX2_usesTillShut_29 : decode cX2_usesTillShut 29 = .ok (.ireturn, 1) := by decide +kernel
theorem dX2_usesTillShut_30 : decode cX2_usesTillShut 30 = .ok (.iinc 3 1, 3) := by decide +kernel
theorem dX2_usesTillShut_33 : decode cX2_usesTillShut 33 = .ok (.goto (-31), 3) := by decide +kernel
theorem dX2_usesTillShut_36 : decode cX2_usesTillShut 36 = .ok (.bipush (-9), 2) := by decide +kernel
theorem dX2_usesTillShut_38 : decode cX2_usesTillShut 38 = .ok (.ireturn, 1) := by decide +kernel
theorem dX2_opensWorn_0 : decode cX2_opensWorn 0 = .ok (.iconst 0, 1) := by decide +kernel
theorem dX2_opensWorn_1 : decode cX2_opensWorn 1 = .ok (.istore 4, 2) := by decide +kernel
theorem dX2_opensWorn_3 : decode cX2_opensWorn 3 = .ok (.iload 4, 2) := by decide +kernel
theorem dX2_opensWorn_5 : decode cX2_opensWorn 5 = .ok (.iconst 5, 1) := by decide +kernel
theorem dX2_opensWorn_6 : decode cX2_opensWorn 6 = .ok (.if_icmp .ge 54, 3) := by decide +kernel
theorem dX2_opensWorn_9 : decode cX2_opensWorn 9 = .ok (.aload_n 1, 1) := by decide +kernel
theorem dX2_opensWorn_10 : decode cX2_opensWorn 10 = .ok (.getfield 22, 3) := by decide +kernel
theorem dX2_opensWorn_13 : decode cX2_opensWorn 13 = .ok (.iload_n 2, 1) := by decide +kernel
theorem dX2_opensWorn_14 : decode cX2_opensWorn 14 = .ok (.aaload, 1) := by decide +kernel
theorem dX2_opensWorn_15 : decode cX2_opensWorn 15 = .ok (.iload 4, 2) := by decide +kernel
theorem dX2_opensWorn_17 : decode cX2_opensWorn 17 = .ok (.iaload, 1) := by decide +kernel
theorem dX2_opensWorn_18 : decode cX2_opensWorn 18 = .ok (.iload_n 3, 1) := by decide +kernel
theorem dX2_opensWorn_19 : decode cX2_opensWorn 19 = .ok (.invokestatic 82, 3) := by decide +kernel
theorem dX2_opensWorn_22 : decode cX2_opensWorn 22 = .ok (.istore 5, 2) := by decide +kernel
theorem dX2_opensWorn_24 : decode cX2_opensWorn 24 = .ok (.aload_n 1, 1) := by decide +kernel
theorem dX2_opensWorn_25 : decode cX2_opensWorn 25 = .ok (.getfield 86, 3) := by decide +kernel
theorem dX2_opensWorn_28 : decode cX2_opensWorn 28 = .ok (.iload 4, 2) := by decide +kernel
theorem dX2_opensWorn_30 : decode cX2_opensWorn 30 = .ok (.iaload, 1) := by decide +kernel
theorem dX2_opensWorn_31 : decode cX2_opensWorn 31 = .ok (.iload_n 3, 1) := by decide +kernel
theorem dX2_opensWorn_32 : decode cX2_opensWorn 32 = .ok (.invokestatic 89, 3) := by decide +kernel
theorem dX2_opensWorn_35 : decode cX2_opensWorn 35 = .ok (.istore 6, 2) := by decide +kernel
theorem dX2_opensWorn_37 : decode cX2_opensWorn 37 = .ok (.iload 5, 2) := by decide +kernel
theorem dX2_opensWorn_39 : decode cX2_opensWorn 39 = .ok (.iload 6, 2) := by decide +kernel
theorem dX2_opensWorn_41 : decode cX2_opensWorn 41 = .ok (.isub, 1) := by decide +kernel
theorem dX2_opensWorn_42 : decode cX2_opensWorn 42 = .ok (.invokestatic 92, 3) := by decide +kernel
theorem dX2_opensWorn_45 : decode cX2_opensWorn 45 = .ok (.aload_n 1, 1) := by decide +kernel
theorem dX2_opensWorn_46 : decode cX2_opensWorn 46 = .ok (.getfield 98, 3) := by decide +kernel
theorem dX2_opensWorn_49 : decode cX2_opensWorn 49 = .ok (.if_icmp .le 5, 3) := by decide +kernel
theorem dX2_opensWorn_52 : decode cX2_opensWorn 52 = .ok (.iconst 0, 1) := by decide +kernel
theorem dX2_opensWorn_53 : decode cX2_opensWorn 53 = .ok (.ireturn, 1) := by decide +kernel
theorem dX2_opensWorn_54 : decode cX2_opensWorn 54 = .ok (.iinc 4 1, 3) := by decide +kernel
theorem dX2_opensWorn_57 : decode cX2_opensWorn 57 = .ok (.goto (-54), 3) := by decide +kernel
theorem dX2_opensWorn_60 : decode cX2_opensWorn 60 = .ok (.iconst 1, 1) := by decide +kernel
theorem dX2_opensWorn_61 : decode cX2_opensWorn 61 = .ok (.ireturn, 1) := by decide +kernel
theorem dX2_pinAnew_0 : decode cX2_pinAnew 0 = .ok (.iconst 0, 1) := by decide +kernel
theorem dX2_pinAnew_1 : decode cX2_pinAnew 1 = .ok (.istore_n 3, 1) := by decide +kernel
theorem dX2_pinAnew_2 : decode cX2_pinAnew 2 = .ok (.iconst 0, 1) := by decide +kernel
theorem dX2_pinAnew_3 : decode cX2_pinAnew 3 = .ok (.istore 4, 2) := by decide +kernel
theorem dX2_pinAnew_5 : decode cX2_pinAnew 5 = .ok (.iconst 0, 1) := by decide +kernel
theorem dX2_pinAnew_6 : decode cX2_pinAnew 6 = .ok (.istore 5, 2) := by decide +kernel
theorem dX2_pinAnew_8 : decode cX2_pinAnew 8 = .ok (.iload 5, 2) := by decide +kernel
theorem dX2_pinAnew_10 : decode cX2_pinAnew 10 = .ok (.bipush 99, 2) := by decide +kernel
theorem dX2_pinAnew_12 : decode cX2_pinAnew 12 = .ok (.if_icmp .gt 33, 3) := by decide +kernel
theorem dX2_pinAnew_15 : decode cX2_pinAnew 15 = .ok (.aload_n 0, 1) := by decide +kernel
theorem dX2_pinAnew_16 : decode cX2_pinAnew 16 = .ok (.aload_n 1, 1) := by decide +kernel
theorem dX2_pinAnew_17 : decode cX2_pinAnew 17 = .ok (.iload_n 2, 1) := by decide +kernel
theorem dX2_pinAnew_18 : decode cX2_pinAnew 18 = .ok (.iload 5, 2) := by decide +kernel
theorem dX2_pinAnew_20 : decode cX2_pinAnew 20 = .ok (.invokevirtual 101, 3) := by decide +kernel
theorem dX2_pinAnew_23 : decode cX2_pinAnew 23 = .ok (.istore 6, 2) := by decide +kernel
theorem dX2_pinAnew_25 : decode cX2_pinAnew 25 = .ok (.iload 6, 2) := by decide +kernel
theorem dX2_pinAnew_27 : decode cX2_pinAnew 27 = .ok (.iload 4, 2) := by decide +kernel
theorem dX2_pinAnew_29 : decode cX2_pinAnew 29 = .ok (.if_icmp .le 10, 3) := by decide +kernel
theorem dX2_pinAnew_32 : decode cX2_pinAnew 32 = .ok (.iload 5, 2) := by decide +kernel
theorem dX2_pinAnew_34 : decode cX2_pinAnew 34 = .ok (.istore_n 3, 1) := by decide +kernel
theorem dX2_pinAnew_35 : decode cX2_pinAnew 35 = .ok (.iload 6, 2) := by decide +kernel
theorem dX2_pinAnew_37 : decode cX2_pinAnew 37 = .ok (.istore 4, 2) := by decide +kernel
theorem dX2_pinAnew_39 : decode cX2_pinAnew 39 = .ok (.iinc 5 1, 3) := by decide +kernel
theorem dX2_pinAnew_42 : decode cX2_pinAnew 42 = .ok (.goto (-34), 3) := by decide +kernel
theorem dX2_pinAnew_45 : decode cX2_pinAnew 45 = .ok (.iload_n 3, 1) := by decide +kernel
theorem dX2_pinAnew_46 : decode cX2_pinAnew 46 = .ok (.ireturn, 1) := by decide +kernel
theorem dX2_wholeKeysWithin_0 : decode cX2_wholeKeysWithin 0 = .ok (.iconst 0, 1) := by decide +kernel
theorem dX2_wholeKeysWithin_1 : decode cX2_wholeKeysWithin 1 = .ok (.istore 4, 2) := by decide +kernel
theorem dX2_wholeKeysWithin_3 : decode cX2_wholeKeysWithin 3 = .ok (.iconst 0, 1) := by decide +kernel
theorem dX2_wholeKeysWithin_4 : decode cX2_wholeKeysWithin 4 = .ok (.istore 5, 2) := by decide +kernel
theorem dX2_wholeKeysWithin_6 : decode cX2_wholeKeysWithin 6 = .ok (.iload 5, 2) := by decide +kernel
theorem dX2_wholeKeysWithin_8 : decode cX2_wholeKeysWithin 8 = .ok (.aload_n 1, 1) := by decide +kernel
theorem dX2_wholeKeysWithin_9 : decode cX2_wholeKeysWithin 9 = .ok (.getfield 50, 3) := by decide +kernel
theorem dX2_wholeKeysWithin_12 : decode cX2_wholeKeysWithin 12 = .ok (.if_icmp .ge 43, 3) := by decide +kernel
theorem dX2_wholeKeysWithin_15 : decode cX2_wholeKeysWithin 15 = .ok (.aload_n 1, 1) := by decide +kernel
theorem dX2_wholeKeysWithin_16 : decode cX2_wholeKeysWithin 16 = .ok (.getfield 56, 3) := by decide +kernel
theorem dX2_wholeKeysWithin_19 : decode cX2_wholeKeysWithin 19 = .ok (.iload 5, 2) := by decide +kernel
theorem dX2_wholeKeysWithin_21 : decode cX2_wholeKeysWithin 21 = .ok (.baload, 1) := by decide +kernel
theorem dX2_wholeKeysWithin_22 : decode cX2_wholeKeysWithin 22 = .ok (.ifCond .ne 27, 3) := by decide +kernel
theorem dX2_wholeKeysWithin_25 : decode cX2_wholeKeysWithin 25 = .ok (.aload_n 1, 1) := by decide +kernel
theorem dX2_wholeKeysWithin_26 : decode cX2_wholeKeysWithin 26 = .ok (.getfield 22, 3) := by decide +kernel
theorem dX2_wholeKeysWithin_29 : decode cX2_wholeKeysWithin 29 = .ok (.iload 5, 2) := by decide +kernel
theorem dX2_wholeKeysWithin_31 : decode cX2_wholeKeysWithin 31 = .ok (.aaload, 1) := by decide +kernel
theorem dX2_wholeKeysWithin_32 : decode cX2_wholeKeysWithin 32 = .ok (.iload_n 2, 1) := by decide +kernel
theorem dX2_wholeKeysWithin_33 : decode cX2_wholeKeysWithin 33 = .ok (.iaload, 1) := by decide +kernel
theorem dX2_wholeKeysWithin_34 : decode cX2_wholeKeysWithin 34 = .ok (.iload_n 3, 1) := by decide +kernel
theorem dX2_wholeKeysWithin_35 : decode cX2_wholeKeysWithin 35 = .ok (.isub, 1) := by decide +kernel
theorem dX2_wholeKeysWithin_36 : decode cX2_wholeKeysWithin 36 = .ok (.invokestatic 92, 3) := by decide +kernel
theorem dX2_wholeKeysWithin_39 : decode cX2_wholeKeysWithin 39 = .ok (.aload_n 1, 1) := by decide +kernel
theorem dX2_wholeKeysWithin_40 : decode cX2_wholeKeysWithin 40 = .ok (.getfield 98, 3) := by decide +kernel
theorem dX2_wholeKeysWithin_43 : decode cX2_wholeKeysWithin 43 = .ok (.if_icmp .gt 6, 3) := by decide +kernel
theorem dX2_wholeKeysWithin_46 : decode cX2_wholeKeysWithin 46 = .ok (.iinc 4 1, 3) := by decide +kernel
theorem dX2_wholeKeysWithin_49 : decode cX2_wholeKeysWithin 49 = .ok (.iinc 5 1, 3) := by decide +kernel
theorem dX2_wholeKeysWithin_52 : decode cX2_wholeKeysWithin 52 = .ok (.goto (-46), 3) := by decide +kernel
theorem dX2_wholeKeysWithin_55 : decode cX2_wholeKeysWithin 55 = .ok (.iload 4, 2) := by decide +kernel
theorem dX2_wholeKeysWithin_57 : decode cX2_wholeKeysWithin 57 = .ok (.ireturn, 1) := by decide +kernel
theorem dX2_openAnew_0 : decode cX2_openAnew 0 = .ok (.iconst 0, 1) := by decide +kernel
theorem dX2_openAnew_1 : decode cX2_openAnew 1 = .ok (.istore_n 2, 1) := by decide +kernel
theorem dX2_openAnew_2 : decode cX2_openAnew 2 = .ok (.iload_n 2, 1) := by decide +kernel
theorem dX2_openAnew_3 : decode cX2_openAnew 3 = .ok (.iconst 5, 1) := by decide +kernel
theorem dX2_openAnew_4 : decode cX2_openAnew 4 = .ok (.if_icmp .ge 21, 3) := by decide +kernel
theorem dX2_openAnew_7 : decode cX2_openAnew 7 = .ok (.aload_n 0, 1) := by decide +kernel
theorem dX2_openAnew_8 : decode cX2_openAnew 8 = .ok (.getfield 9, 3) := by decide +kernel
theorem dX2_openAnew_11 : decode cX2_openAnew 11 = .ok (.iload_n 2, 1) := by decide +kernel
theorem dX2_openAnew_12 : decode cX2_openAnew 12 = .ok (.aload_n 0, 1) := by decide +kernel
theorem dX2_openAnew_13 : decode cX2_openAnew 13 = .ok (.aload_n 1, 1) := by decide +kernel
theorem dX2_openAnew_14 : decode cX2_openAnew 14 = .ok (.iload_n 2, 1) := by decide +kernel
theorem dX2_openAnew_15 : decode cX2_openAnew 15 = .ok (.invokevirtual 105, 3) := by decide +kernel
theorem dX2_openAnew_18 : decode cX2_openAnew 18 = .ok (.iastore, 1) := by decide +kernel
theorem dX2_openAnew_19 : decode cX2_openAnew 19 = .ok (.iinc 2 1, 3) := by decide +kernel
theorem dX2_openAnew_22 : decode cX2_openAnew 22 = .ok (.goto (-20), 3) := by decide +kernel
theorem dX2_openAnew_25 : decode cX2_openAnew 25 = .ok (.iconst 0, 1) := by decide +kernel
theorem dX2_openAnew_26 : decode cX2_openAnew 26 = .ok (.istore_n 2, 1) := by decide +kernel
theorem dX2_openAnew_27 : decode cX2_openAnew 27 = .ok (.iconst 0, 1) := by decide +kernel
theorem dX2_openAnew_28 : decode cX2_openAnew 28 = .ok (.istore_n 3, 1) := by decide +kernel
theorem dX2_openAnew_29 : decode cX2_openAnew 29 = .ok (.iload_n 3, 1) := by decide +kernel
theorem dX2_openAnew_30 : decode cX2_openAnew 30 = .ok (.aload_n 1, 1) := by decide +kernel
theorem dX2_openAnew_31 : decode cX2_openAnew 31 = .ok (.getfield 50, 3) := by decide +kernel
theorem dX2_openAnew_34 : decode cX2_openAnew 34 = .ok (.if_icmp .ge 36, 3) := by decide +kernel
theorem dX2_openAnew_37 : decode cX2_openAnew 37 = .ok (.aload_n 1, 1) := by decide +kernel
theorem dX2_openAnew_38 : decode cX2_openAnew 38 = .ok (.getfield 56, 3) := by decide +kernel
theorem dX2_openAnew_41 : decode cX2_openAnew 41 = .ok (.iload_n 3, 1) := by decide +kernel
theorem dX2_openAnew_42 : decode cX2_openAnew 42 = .ok (.baload, 1) := by decide +kernel
theorem dX2_openAnew_43 : decode cX2_openAnew 43 = .ok (.ifCond .ne 21, 3) := by decide +kernel
theorem dX2_openAnew_46 : decode cX2_openAnew 46 = .ok (.aload_n 0, 1) := by decide +kernel
theorem dX2_openAnew_47 : decode cX2_openAnew 47 = .ok (.aload_n 1, 1) := by decide +kernel
theorem dX2_openAnew_48 : decode cX2_openAnew 48 = .ok (.iload_n 3, 1) := by decide +kernel
theorem dX2_openAnew_49 : decode cX2_openAnew 49 = .ok (.aload_n 0, 1) := by decide +kernel
theorem dX2_openAnew_50 : decode cX2_openAnew 50 = .ok (.getfield 9, 3) := by decide +kernel
theorem dX2_openAnew_53 : decode cX2_openAnew 53 = .ok (.invokevirtual 109, 3) := by decide +kernel
theorem dX2_openAnew_56 : decode cX2_openAnew 56 = .ok (.bipush 31, 2) := by decide +kernel
theorem dX2_openAnew_58 : decode cX2_openAnew 58 = .ok (.if_icmp .ne 6, 3) := by decide +kernel
theorem dX2_openAnew_61 : decode cX2_openAnew 61 = .ok (.iinc 2 1, 3) := by decide +kernel
theorem dX2_openAnew_64 : decode cX2_openAnew 64 = .ok (.iinc 3 1, 3) := by decide +kernel
theorem dX2_openAnew_67 : decode cX2_openAnew 67 = .ok (.goto (-38), 3) := by decide +kernel
theorem dX2_openAnew_70 : decode cX2_openAnew 70 = .ok (.iload_n 2, 1) := by decide +kernel
theorem dX2_openAnew_71 : decode cX2_openAnew 71 = .ok (.ireturn, 1) := by decide +kernel
theorem dX2_teethWithin_0 : decode cX2_teethWithin 0 = .ok (.iconst 0, 1) := by decide +kernel
theorem dX2_teethWithin_1 : decode cX2_teethWithin 1 = .ok (.istore 4, 2) := by decide +kernel
theorem dX2_teethWithin_3 : decode cX2_teethWithin 3 = .ok (.iconst 0, 1) := by decide +kernel
theorem dX2_teethWithin_4 : decode cX2_teethWithin 4 = .ok (.istore 5, 2) := by decide +kernel
theorem dX2_teethWithin_6 : decode cX2_teethWithin 6 = .ok (.iload 5, 2) := by decide +kernel
theorem dX2_teethWithin_8 : decode cX2_teethWithin 8 = .ok (.iconst 5, 1) := by decide +kernel
theorem dX2_teethWithin_9 : decode cX2_teethWithin 9 = .ok (.if_icmp .ge 46, 3) := by decide +kernel
theorem dX2_teethWithin_12 : decode cX2_teethWithin 12 = .ok (.iload 4, 2) := by decide +kernel
theorem dX2_teethWithin_14 : decode cX2_teethWithin 14 = .ok (.aload_n 1, 1) := by decide +kernel
theorem dX2_teethWithin_15 : decode cX2_teethWithin 15 = .ok (.getfield 22, 3) := by decide +kernel
theorem dX2_teethWithin_18 : decode cX2_teethWithin 18 = .ok (.iload_n 2, 1) := by decide +kernel
theorem dX2_teethWithin_19 : decode cX2_teethWithin 19 = .ok (.aaload, 1) := by decide +kernel
theorem dX2_teethWithin_20 : decode cX2_teethWithin 20 = .ok (.iload 5, 2) := by decide +kernel
theorem dX2_teethWithin_22 : decode cX2_teethWithin 22 = .ok (.iaload, 1) := by decide +kernel
theorem dX2_teethWithin_23 : decode cX2_teethWithin 23 = .ok (.aload_n 3, 1) := by decide +kernel
theorem dX2_teethWithin_24 : decode cX2_teethWithin 24 = .ok (.iload 5, 2) := by decide +kernel
theorem dX2_teethWithin_26 : decode cX2_teethWithin 26 = .ok (.iaload, 1) := by decide +kernel
theorem dX2_teethWithin_27 : decode cX2_teethWithin 27 = .ok (.isub, 1) := by decide +kernel
theorem dX2_teethWithin_28 : decode cX2_teethWithin 28 = .ok (.invokestatic 92, 3) := by decide +kernel
theorem dX2_teethWithin_31 : decode cX2_teethWithin 31 = .ok (.aload_n 1, 1) := by decide +kernel
theorem dX2_teethWithin_32 : decode cX2_teethWithin 32 = .ok (.getfield 98, 3) := by decide +kernel
theorem dX2_teethWithin_35 : decode cX2_teethWithin 35 = .ok (.if_icmp .gt 10, 3) := by decide +kernel
theorem dX2_teethWithin_38 : decode cX2_teethWithin 38 = .ok (.iconst 1, 1) := by decide +kernel
theorem dX2_teethWithin_39 : decode cX2_teethWithin 39 = .ok (.iload 5, 2) := by decide +kernel
theorem dX2_teethWithin_41 : decode cX2_teethWithin 41 = .ok (.ishl, 1) := by decide +kernel
theorem dX2_teethWithin_42 : decode cX2_teethWithin 42 = .ok (.goto 4, 3) := by decide +kernel
theorem dX2_teethWithin_45 : decode cX2_teethWithin 45 = .ok (.iconst 0, 1) := by decide +kernel
theorem dX2_teethWithin_46 : decode cX2_teethWithin 46 = .ok (.ior, 1) := by decide +kernel
theorem dX2_teethWithin_47 : decode cX2_teethWithin 47 = .ok (.istore 4, 2) := by decide +kernel
theorem dX2_teethWithin_49 : decode cX2_teethWithin 49 = .ok (.iinc 5 1, 3) := by decide +kernel
theorem dX2_teethWithin_52 : decode cX2_teethWithin 52 = .ok (.goto (-46), 3) := by decide +kernel
theorem dX2_teethWithin_55 : decode cX2_teethWithin 55 = .ok (.iload 4, 2) := by decide +kernel
theorem dX2_teethWithin_57 : decode cX2_teethWithin 57 = .ok (.ireturn, 1) := by decide +kernel
theorem dX2_codeOfSet_0 : decode cX2_codeOfSet 0 = .ok (.aload_n 0, 1) := by decide +kernel
theorem dX2_codeOfSet_1 : decode cX2_codeOfSet 1 = .ok (.aload_n 1, 1) := by decide +kernel
theorem dX2_codeOfSet_2 : decode cX2_codeOfSet 2 = .ok (.iload_n 2, 1) := by decide +kernel
theorem dX2_codeOfSet_3 : decode cX2_codeOfSet 3 = .ok (.iload_n 3, 1) := by decide +kernel
theorem dX2_codeOfSet_4 : decode cX2_codeOfSet 4 = .ok (.invokevirtual 113, 3) := by decide +kernel
theorem dX2_codeOfSet_7 : decode cX2_codeOfSet 7 = .ok (.invokestatic 116, 3) := by decide +kernel
theorem dX2_codeOfSet_10 : decode cX2_codeOfSet 10 = .ok (.ireturn, 1) := by decide +kernel
theorem dX2_middleHeight_0 : decode cX2_middleHeight 0 = .ok (.iconst 0, 1) := by decide +kernel
theorem dX2_middleHeight_1 : decode cX2_middleHeight 1 = .ok (.istore 4, 2) := by decide +kernel
theorem dX2_middleHeight_3 : decode cX2_middleHeight 3 = .ok (.iload 4, 2) := by decide +kernel
theorem dX2_middleHeight_5 : decode cX2_middleHeight 5 = .ok (.bipush 99, 2) := by decide +kernel
theorem dX2_middleHeight_7 : decode cX2_middleHeight 7 = .ok (.if_icmp .ge 70, 3) := by decide +kernel
theorem dX2_middleHeight_10 : decode cX2_middleHeight 10 = .ok (.iconst 0, 1) := by decide +kernel
theorem dX2_middleHeight_11 : decode cX2_middleHeight 11 = .ok (.istore 5, 2) := by decide +kernel
theorem dX2_middleHeight_13 : decode cX2_middleHeight 13 = .ok (.iconst 0, 1) := by decide +kernel
theorem dX2_middleHeight_14 : decode cX2_middleHeight 14 = .ok (.istore 6, 2) := by decide +kernel
theorem dX2_middleHeight_16 : decode cX2_middleHeight 16 = .ok (.iload 6, 2) := by decide +kernel
theorem dX2_middleHeight_18 : decode cX2_middleHeight 18 = .ok (.aload_n 1, 1) := by decide +kernel
theorem dX2_middleHeight_19 : decode cX2_middleHeight 19 = .ok (.getfield 50, 3) := by decide +kernel
theorem dX2_middleHeight_22 : decode cX2_middleHeight 22 = .ok (.if_icmp .ge 35, 3) := by decide +kernel
theorem dX2_middleHeight_25 : decode cX2_middleHeight 25 = .ok (.iload_n 2, 1) := by decide +kernel
theorem dX2_middleHeight_26 : decode cX2_middleHeight 26 = .ok (.iload 6, 2) := by decide +kernel
theorem dX2_middleHeight_28 : decode cX2_middleHeight 28 = .ok (.invokestatic 119, 3) := by decide +kernel
theorem dX2_middleHeight_31 : decode cX2_middleHeight 31 = .ok (.ifCond .eq 20, 3) := by decide +kernel
theorem dX2_middleHeight_34 : decode cX2_middleHeight 34 = .ok (.aload_n 1, 1) := by decide +kernel
theorem dX2_middleHeight_35 : decode cX2_middleHeight 35 = .ok (.getfield 22, 3) := by decide +kernel
theorem dX2_middleHeight_38 : decode cX2_middleHeight 38 = .ok (.iload 6, 2) := by decide +kernel
theorem dX2_middleHeight_40 : decode cX2_middleHeight 40 = .ok (.aaload, 1) := by decide +kernel
theorem dX2_middleHeight_41 : decode cX2_middleHeight 41 = .ok (.iload_n 3, 1) := by decide +kernel
theorem dX2_middleHeight_42 : decode cX2_middleHeight 42 = .ok (.iaload, 1) := by decide +kernel
theorem dX2_middleHeight_43 : decode cX2_middleHeight 43 = .ok (.iload 4, 2) := by decide +kernel
theorem dX2_middleHeight_45 : decode cX2_middleHeight 45 = .ok (.if_icmp .gt 6, 3) := by decide +kernel
theorem dX2_middleHeight_48 : decode cX2_middleHeight 48 = .ok (.iinc 5 1, 3) := by decide +kernel
theorem dX2_middleHeight_51 : decode cX2_middleHeight 51 = .ok (.iinc 6 1, 3) := by decide +kernel
theorem dX2_middleHeight_54 : decode cX2_middleHeight 54 = .ok (.goto (-38), 3) := by decide +kernel
theorem dX2_middleHeight_57 : decode cX2_middleHeight 57 = .ok (.iconst 2, 1) := by decide +kernel
theorem dX2_middleHeight_58 : decode cX2_middleHeight 58 = .ok (.iload 5, 2) := by decide +kernel
theorem dX2_middleHeight_60 : decode cX2_middleHeight 60 = .ok (.imul, 1) := by decide +kernel
theorem dX2_middleHeight_61 : decode cX2_middleHeight 61 = .ok (.iload_n 2, 1) := by decide +kernel
theorem dX2_middleHeight_62 : decode cX2_middleHeight 62 = .ok (.invokestatic 123, 3) := by decide +kernel
theorem dX2_middleHeight_65 : decode cX2_middleHeight 65 = .ok (.if_icmp .lt 6, 3) := by decide +kernel
theorem dX2_middleHeight_68 : decode cX2_middleHeight 68 = .ok (.iload 4, 2) := by decide +kernel
theorem dX2_middleHeight_70 : decode cX2_middleHeight 70 = .ok (.ireturn, 1) := by decide +kernel
theorem dX2_middleHeight_71 : decode cX2_middleHeight 71 = .ok (.iinc 4 1, 3) := by decide +kernel
theorem dX2_middleHeight_74 : decode cX2_middleHeight 74 = .ok (.goto (-71), 3) := by decide +kernel
theorem dX2_middleHeight_77 : decode cX2_middleHeight 77 = .ok (.bipush 99, 2) := by decide +kernel
theorem dX2_middleHeight_79 : decode cX2_middleHeight 79 = .ok (.ireturn, 1) := by decide +kernel
theorem dX2_unlikeTeeth_0 : decode cX2_unlikeTeeth 0 = .ok (.iconst 0, 1) := by decide +kernel
theorem dX2_unlikeTeeth_1 : decode cX2_unlikeTeeth 1 = .ok (.istore 4, 2) := by decide +kernel
theorem dX2_unlikeTeeth_3 : decode cX2_unlikeTeeth 3 = .ok (.iconst 0, 1) := by decide +kernel
theorem dX2_unlikeTeeth_4 : decode cX2_unlikeTeeth 4 = .ok (.istore 5, 2) := by decide +kernel
theorem dX2_unlikeTeeth_6 : decode cX2_unlikeTeeth 6 = .ok (.iload 5, 2) := by decide +kernel
theorem dX2_unlikeTeeth_8 : decode cX2_unlikeTeeth 8 = .ok (.iconst 5, 1) := by decide +kernel
theorem dX2_unlikeTeeth_9 : decode cX2_unlikeTeeth 9 = .ok (.if_icmp .ge 35, 3) := by decide +kernel
theorem dX2_unlikeTeeth_12 : decode cX2_unlikeTeeth 12 = .ok (.aload_n 0, 1) := by decide +kernel
theorem dX2_unlikeTeeth_13 : decode cX2_unlikeTeeth 13 = .ok (.aload_n 1, 1) := by decide +kernel
theorem dX2_unlikeTeeth_14 : decode cX2_unlikeTeeth 14 = .ok (.iload_n 2, 1) := by decide +kernel
theorem dX2_unlikeTeeth_15 : decode cX2_unlikeTeeth 15 = .ok (.iload 5, 2) := by decide +kernel
theorem dX2_unlikeTeeth_17 : decode cX2_unlikeTeeth 17 = .ok (.invokevirtual 128, 3) := by decide +kernel
theorem dX2_unlikeTeeth_20 : decode cX2_unlikeTeeth 20 = .ok (.aload_n 1, 1) := by decide +kernel
theorem dX2_unlikeTeeth_21 : decode cX2_unlikeTeeth 21 = .ok (.getfield 22, 3) := by decide +kernel
theorem dX2_unlikeTeeth_24 : decode cX2_unlikeTeeth 24 = .ok (.iload_n 3, 1) := by decide +kernel
theorem dX2_unlikeTeeth_25 : decode cX2_unlikeTeeth 25 = .ok (.aaload, 1) := by decide +kernel
theorem dX2_unlikeTeeth_26 : decode cX2_unlikeTeeth 26 = .ok (.iload 5, 2) := by decide +kernel
theorem dX2_unlikeTeeth_28 : decode cX2_unlikeTeeth 28 = .ok (.iaload, 1) := by decide +kernel
theorem dX2_unlikeTeeth_29 : decode cX2_unlikeTeeth 29 = .ok (.invokestatic 116, 3) := by decide +kernel
theorem dX2_unlikeTeeth_32 : decode cX2_unlikeTeeth 32 = .ok (.if_icmp .eq 6, 3) := by decide +kernel
theorem dX2_unlikeTeeth_35 : decode cX2_unlikeTeeth 35 = .ok (.iinc 4 1, 3) := by decide +kernel
theorem dX2_unlikeTeeth_38 : decode cX2_unlikeTeeth 38 = .ok (.iinc 5 1, 3) := by decide +kernel
theorem dX2_unlikeTeeth_41 : decode cX2_unlikeTeeth 41 = .ok (.goto (-35), 3) := by decide +kernel
theorem dX2_unlikeTeeth_44 : decode cX2_unlikeTeeth 44 = .ok (.iload 4, 2) := by decide +kernel
theorem dX2_unlikeTeeth_46 : decode cX2_unlikeTeeth 46 = .ok (.ireturn, 1) := by decide +kernel
theorem dX2_lessByMending_0 : decode cX2_lessByMending 0 = .ok (.iconst 0, 1) := by decide +kernel
theorem dX2_lessByMending_1 : decode cX2_lessByMending 1 = .ok (.istore_n 3, 1) := by decide +kernel
theorem dX2_lessByMending_2 : decode cX2_lessByMending 2 = .ok (.iload_n 3, 1) := by decide +kernel
theorem dX2_lessByMending_3 : decode cX2_lessByMending 3 = .ok (.iconst 5, 1) := by decide +kernel
theorem dX2_lessByMending_4 : decode cX2_lessByMending 4 = .ok (.if_icmp .ge 26, 3) := by decide +kernel
theorem dX2_lessByMending_7 : decode cX2_lessByMending 7 = .ok (.aload_n 0, 1) := by decide +kernel
theorem dX2_lessByMending_8 : decode cX2_lessByMending 8 = .ok (.getfield 9, 3) := by decide +kernel
theorem dX2_lessByMending_11 : decode cX2_lessByMending 11 = .ok (.iload_n 3, 1) := by decide +kernel
theorem dX2_lessByMending_12 : decode cX2_lessByMending 12 = .ok (.aload_n 1, 1) := by decide +kernel
theorem dX2_lessByMending_13 : decode cX2_lessByMending 13 = .ok (.getfield 22, 3) := by decide +kernel
theorem dX2_lessByMending_16 : decode cX2_lessByMending 16 = .ok (.iload_n 2, 1) := by decide +kernel
theorem dX2_lessByMending_17 : decode cX2_lessByMending 17 = .ok (.aaload, 1) := by decide +kernel
theorem dX2_lessByMending_18 : decode cX2_lessByMending 18 = .ok (.iload_n 3, 1) := by decide +kernel
theorem dX2_lessByMending_19 : decode cX2_lessByMending 19 = .ok (.iaload, 1) := by decide +kernel
theorem dX2_lessByMending_20 : decode cX2_lessByMending 20 = .ok (.invokestatic 116, 3) := by decide +kernel
theorem dX2_lessByMending_23 : decode cX2_lessByMending 23 = .ok (.iastore, 1) := by decide +kernel
theorem dX2_lessByMending_24 : decode cX2_lessByMending 24 = .ok (.iinc 3 1, 3) := by decide +kernel
theorem dX2_lessByMending_27 : decode cX2_lessByMending 27 = .ok (.goto (-25), 3) := by decide +kernel
theorem dX2_lessByMending_30 : decode cX2_lessByMending 30 = .ok (.aload_n 1, 1) := by decide +kernel
theorem dX2_lessByMending_31 : decode cX2_lessByMending 31 = .ok (.aload_n 1, 1) := by decide +kernel
theorem dX2_lessByMending_32 : decode cX2_lessByMending 32 = .ok (.getfield 22, 3) := by decide +kernel
theorem dX2_lessByMending_35 : decode cX2_lessByMending 35 = .ok (.iload_n 2, 1) := by decide +kernel
theorem dX2_lessByMending_36 : decode cX2_lessByMending 36 = .ok (.aaload, 1) := by decide +kernel
theorem dX2_lessByMending_37 : decode cX2_lessByMending 37 = .ok (.invokevirtual 67, 3) := by decide +kernel
theorem dX2_lessByMending_40 : decode cX2_lessByMending 40 = .ok (.aload_n 1, 1) := by decide +kernel
theorem dX2_lessByMending_41 : decode cX2_lessByMending 41 = .ok (.aload_n 0, 1) := by decide +kernel
theorem dX2_lessByMending_42 : decode cX2_lessByMending 42 = .ok (.getfield 9, 3) := by decide +kernel
theorem dX2_lessByMending_45 : decode cX2_lessByMending 45 = .ok (.invokevirtual 67, 3) := by decide +kernel
theorem dX2_lessByMending_48 : decode cX2_lessByMending 48 = .ok (.isub, 1) := by decide +kernel
theorem dX2_lessByMending_49 : decode cX2_lessByMending 49 = .ok (.ireturn, 1) := by decide +kernel
theorem dX2_fewestEnough_0 : decode cX2_fewestEnough 0 = .ok (.iconst 0, 1) := by decide +kernel
theorem dX2_fewestEnough_1 : decode cX2_fewestEnough 1 = .ok (.istore_n 2, 1) := by decide +kernel
theorem dX2_fewestEnough_2 : decode cX2_fewestEnough 2 = .ok (.iload_n 2, 1) := by decide +kernel
theorem dX2_fewestEnough_3 : decode cX2_fewestEnough 3 = .ok (.aload_n 1, 1) := by decide +kernel
theorem dX2_fewestEnough_4 : decode cX2_fewestEnough 4 = .ok (.getfield 50, 3) := by decide +kernel
theorem dX2_fewestEnough_7 : decode cX2_fewestEnough 7 = .ok (.if_icmp .ge 25, 3) := by decide +kernel
theorem dX2_fewestEnough_10 : decode cX2_fewestEnough 10 = .ok (.aload_n 0, 1) := by decide +kernel
theorem dX2_fewestEnough_11 : decode cX2_fewestEnough 11 = .ok (.getfield 15, 3) := by decide +kernel
theorem dX2_fewestEnough_14 : decode cX2_fewestEnough 14 = .ok (.iload_n 2, 1) := by decide +kernel
theorem dX2_fewestEnough_15 : decode cX2_fewestEnough 15 = .ok (.aload_n 0, 1) := by decide +kernel
theorem dX2_fewestEnough_16 : decode cX2_fewestEnough 16 = .ok (.aload_n 1, 1) := by decide +kernel
theorem dX2_fewestEnough_17 : decode cX2_fewestEnough 17 = .ok (.iload_n 2, 1) := by decide +kernel
theorem dX2_fewestEnough_18 : decode cX2_fewestEnough 18 = .ok (.aload_n 1, 1) := by decide +kernel
theorem dX2_fewestEnough_19 : decode cX2_fewestEnough 19 = .ok (.getfield 86, 3) := by decide +kernel
theorem dX2_fewestEnough_22 : decode cX2_fewestEnough 22 = .ok (.invokevirtual 109, 3) := by decide +kernel
theorem dX2_fewestEnough_25 : decode cX2_fewestEnough 25 = .ok (.iastore, 1) := by decide +kernel
theorem dX2_fewestEnough_26 : decode cX2_fewestEnough 26 = .ok (.iinc 2 1, 3) := by decide +kernel
theorem dX2_fewestEnough_29 : decode cX2_fewestEnough 29 = .ok (.goto (-27), 3) := by decide +kernel
theorem dX2_fewestEnough_32 : decode cX2_fewestEnough 32 = .ok (.aload_n 1, 1) := by decide +kernel
theorem dX2_fewestEnough_33 : decode cX2_fewestEnough 33 = .ok (.invokevirtual 131, 3) := by decide +kernel
theorem dX2_fewestEnough_36 : decode cX2_fewestEnough 36 = .ok (.istore_n 2, 1) := by decide +kernel
theorem dX2_fewestEnough_37 : decode cX2_fewestEnough 37 = .ok (.bipush (-9), 2) := by decide +kernel
theorem dX2_fewestEnough_39 : decode cX2_fewestEnough 39 = .ok (.istore_n 3, 1) := by decide +kernel
theorem dX2_fewestEnough_40 : decode cX2_fewestEnough 40 = .ok (.iconst 1, 1) := by decide +kernel
theorem dX2_fewestEnough_41 : decode cX2_fewestEnough 41 = .ok (.istore 4, 2) := by decide +kernel
theorem dX2_fewestEnough_43 : decode cX2_fewestEnough 43 = .ok (.iload 4, 2) := by decide +kernel
theorem dX2_fewestEnough_45 : decode cX2_fewestEnough 45 = .ok (.aload_n 1, 1) := by decide +kernel
theorem dX2_fewestEnough_46 : decode cX2_fewestEnough 46 = .ok (.invokevirtual 135, 3) := by decide +kernel
theorem dX2_fewestEnough_49 : decode cX2_fewestEnough 49 = .ok (.if_icmp .gt 59, 3) := by decide +kernel
theorem dX2_fewestEnough_52 : decode cX2_fewestEnough 52 = .ok (.iload_n 3, 1) := by decide +kernel
theorem dX2_fewestEnough_53 : decode cX2_fewestEnough 53 = .ok (.bipush (-9), 2) := by decide +kernel
theorem dX2_fewestEnough_55 : decode cX2_fewestEnough 55 = .ok (.if_icmp .eq 15, 3) := by decide +kernel
theorem dX2_fewestEnough_58 : decode cX2_fewestEnough 58 = .ok (.iload 4, 2) := by decide +kernel
theorem dX2_fewestEnough_60 : decode cX2_fewestEnough 60 = .ok (.invokestatic 123, 3) := by decide +kernel
theorem dX2_fewestEnough_63 : decode cX2_fewestEnough 63 = .ok (.iload_n 3, 1) := by decide +kernel
theorem dX2_fewestEnough_64 : decode cX2_fewestEnough 64 = .ok (.invokestatic 123, 3) := by decide +kernel
theorem dX2_fewestEnough_67 : decode cX2_fewestEnough 67 = .ok (.if_icmp .ge 7, 3) := by decide +kernel
theorem dX2_fewestEnough_70 : decode cX2_fewestEnough 70 = .ok (.iconst 1, 1) := by decide +kernel
theorem dX2_fewestEnough_71 : decode cX2_fewestEnough 71 = .ok (.goto 4, 3) := by decide +kernel
theorem dX2_fewestEnough_74 : decode cX2_fewestEnough 74 = .ok (.iconst 0, 1) := by decide +kernel
theorem dX2_fewestEnough_75 : decode cX2_fewestEnough 75 = .ok (.istore 5, 2) := by decide +kernel
theorem dX2_fewestEnough_77 : decode cX2_fewestEnough 77 = .ok (.iload 5, 2) := by decide +kernel
theorem dX2_fewestEnough_79 : decode cX2_fewestEnough 79 = .ok (.ifCond .eq 23, 3) := by decide +kernel
theorem dX2_fewestEnough_82 : decode cX2_fewestEnough 82 = .ok (.iload 4, 2) := by decide +kernel
theorem dX2_fewestEnough_84 : decode cX2_fewestEnough 84 = .ok (.iload_n 2, 1) := by decide +kernel
theorem dX2_fewestEnough_85 : decode cX2_fewestEnough 85 = .ok (.iand, 1) := by decide +kernel
theorem dX2_fewestEnough_86 : decode cX2_fewestEnough 86 = .ok (.ifCond .ne 16, 3) := by decide +kernel
theorem dX2_fewestEnough_89 : decode cX2_fewestEnough 89 = .ok (.aload_n 0, 1) := by decide +kernel
theorem dX2_fewestEnough_90 : decode cX2_fewestEnough 90 = .ok (.aload_n 1, 1) := by decide +kernel
theorem dX2_fewestEnough_91 : decode cX2_fewestEnough 91 = .ok (.iload 4, 2) := by decide +kernel
theorem dX2_fewestEnough_93 : decode cX2_fewestEnough 93 = .ok (.invokevirtual 138, 3) := by decide +kernel
theorem dX2_fewestEnough_96 : decode cX2_fewestEnough 96 = .ok (.ifCond .eq 6, 3) := by decide +kernel
theorem dX2_fewestEnough_99 : decode cX2_fewestEnough 99 = .ok (.iload 4, 2) := by decide +kernel
theorem dX2_fewestEnough_101 : decode cX2_fewestEnough 101 = .ok (.istore_n 3, 1) := by decide +kernel
theorem dX2_fewestEnough_102 : decode cX2_fewestEnough 102 = .ok (.iinc 4 1, 3) := by decide +kernel
theorem dX2_fewestEnough_105 : decode cX2_fewestEnough 105 = .ok (.goto (-62), 3) := by decide +kernel
theorem dX2_fewestEnough_108 : decode cX2_fewestEnough 108 = .ok (.iload_n 3, 1) := by decide +kernel
theorem dX2_fewestEnough_109 : decode cX2_fewestEnough 109 = .ok (.ireturn, 1) := by decide +kernel
theorem dX2_isEnough_0 : decode cX2_isEnough 0 = .ok (.iconst 0, 1) := by decide +kernel
theorem dX2_isEnough_1 : decode cX2_isEnough 1 = .ok (.istore_n 3, 1) := by decide +kernel
theorem dX2_isEnough_2 : decode cX2_isEnough 2 = .ok (.iconst 0, 1) := by decide +kernel
theorem dX2_isEnough_3 : decode cX2_isEnough 3 = .ok (.istore 4, 2) := by decide +kernel
theorem dX2_isEnough_5 : decode cX2_isEnough 5 = .ok (.iload 4, 2) := by decide +kernel
theorem dX2_isEnough_7 : decode cX2_isEnough 7 = .ok (.aload_n 1, 1) := by decide +kernel
theorem dX2_isEnough_8 : decode cX2_isEnough 8 = .ok (.getfield 50, 3) := by decide +kernel
theorem dX2_isEnough_11 : decode cX2_isEnough 11 = .ok (.if_icmp .ge 32, 3) := by decide +kernel
theorem dX2_isEnough_14 : decode cX2_isEnough 14 = .ok (.iload_n 3, 1) := by decide +kernel
theorem dX2_isEnough_15 : decode cX2_isEnough 15 = .ok (.iload_n 2, 1) := by decide +kernel
theorem dX2_isEnough_16 : decode cX2_isEnough 16 = .ok (.iload 4, 2) := by decide +kernel
theorem dX2_isEnough_18 : decode cX2_isEnough 18 = .ok (.invokestatic 119, 3) := by decide +kernel
theorem dX2_isEnough_21 : decode cX2_isEnough 21 = .ok (.ifCond .eq 13, 3) := by decide +kernel
theorem dX2_isEnough_24 : decode cX2_isEnough 24 = .ok (.aload_n 0, 1) := by decide +kernel
theorem dX2_isEnough_25 : decode cX2_isEnough 25 = .ok (.getfield 15, 3) := by decide +kernel
theorem dX2_isEnough_28 : decode cX2_isEnough 28 = .ok (.iload 4, 2) := by decide +kernel
theorem dX2_isEnough_30 : decode cX2_isEnough 30 = .ok (.iaload, 1) := by decide +kernel
theorem dX2_isEnough_31 : decode cX2_isEnough 31 = .ok (.goto 4, 3) := by decide +kernel
theorem dX2_isEnough_34 : decode cX2_isEnough 34 = .ok (.iconst 0, 1) := by decide +kernel
theorem dX2_isEnough_35 : decode cX2_isEnough 35 = .ok (.ior, 1) := by decide +kernel
theorem dX2_isEnough_36 : decode cX2_isEnough 36 = .ok (.istore_n 3, 1) := by decide +kernel
theorem dX2_isEnough_37 : decode cX2_isEnough 37 = .ok (.iinc 4 1, 3) := by decide +kernel
theorem dX2_isEnough_40 : decode cX2_isEnough 40 = .ok (.goto (-35), 3) := by decide +kernel
theorem dX2_isEnough_43 : decode cX2_isEnough 43 = .ok (.iload_n 3, 1) := by decide +kernel
theorem dX2_isEnough_44 : decode cX2_isEnough 44 = .ok (.bipush 31, 2) := by decide +kernel
theorem dX2_isEnough_46 : decode cX2_isEnough 46 = .ok (.if_icmp .ne 7, 3) := by decide +kernel
theorem dX2_isEnough_49 : decode cX2_isEnough 49 = .ok (.iconst 1, 1) := by decide +kernel
theorem dX2_isEnough_50 : decode cX2_isEnough 50 = .ok (.goto 4, 3) := by decide +kernel
theorem dX2_isEnough_53 : decode cX2_isEnough 53 = .ok (.iconst 0, 1) := by decide +kernel
theorem dX2_isEnough_54 : decode cX2_isEnough 54 = .ok (.ireturn, 1) := by decide +kernel
theorem dX2_waysToOpen_0 : decode cX2_waysToOpen 0 = .ok (.iload 4, 2) := by decide +kernel
theorem dX2_waysToOpen_2 : decode cX2_waysToOpen 2 = .ok (.ifCond .ne 17, 3) := by decide +kernel
theorem dX2_waysToOpen_5 : decode cX2_waysToOpen 5 = .ok (.aload_n 1, 1) := by decide +kernel
theorem dX2_waysToOpen_6 : decode cX2_waysToOpen 6 = .ok (.iload_n 2, 1) := by decide +kernel
theorem dX2_waysToOpen_7 : decode cX2_waysToOpen 7 = .ok (.invokevirtual 142, 3) := by decide +kernel
theorem dX2_waysToOpen_10 : decode cX2_waysToOpen 10 = .ok (.ifCond .eq 7, 3) := by decide +kernel
theorem dX2_waysToOpen_13 : decode cX2_waysToOpen 13 = .ok (.lconst 1, 1) := by decide +kernel
theorem dX2_waysToOpen_14 : decode cX2_waysToOpen 14 = .ok (.goto 4, 3) := by decide +kernel
theorem dX2_waysToOpen_17 : decode cX2_waysToOpen 17 = .ok (.lconst 0, 1) := by decide +kernel
theorem dX2_waysToOpen_18 : decode cX2_waysToOpen 18 = .ok (.lreturn, 1) := by decide +kernel
theorem dX2_waysToOpen_19 : decode cX2_waysToOpen 19 = .ok (.lconst 0, 1) := by decide +kernel
theorem dX2_waysToOpen_20 : decode cX2_waysToOpen 20 = .ok (.lstore 6, 2) := by decide +kernel
theorem dX2_waysToOpen_22 : decode cX2_waysToOpen 22 = .ok (.iconst 0, 1) := by decide +kernel
theorem dX2_waysToOpen_23 : decode cX2_waysToOpen 23 = .ok (.istore 8, 2) := by decide +kernel
theorem dX2_waysToOpen_25 : decode cX2_waysToOpen 25 = .ok (.iload 8, 2) := by decide +kernel
theorem dX2_waysToOpen_27 : decode cX2_waysToOpen 27 = .ok (.iconst 1, 1) := by decide +kernel
theorem dX2_waysToOpen_28 : decode cX2_waysToOpen 28 = .ok (.iload 4, 2) := by decide +kernel
theorem dX2_waysToOpen_30 : decode cX2_waysToOpen 30 = .ok (.ishl, 1) := by decide +kernel
theorem dX2_waysToOpen_31 : decode cX2_waysToOpen 31 = .ok (.if_icmp .ge 44, 3) := by decide +kernel
theorem dX2_waysToOpen_34 : decode cX2_waysToOpen 34 = .ok (.aload_n 0, 1) := by decide +kernel
theorem dX2_waysToOpen_35 : decode cX2_waysToOpen 35 = .ok (.aload_n 1, 1) := by decide +kernel
theorem dX2_waysToOpen_36 : decode cX2_waysToOpen 36 = .ok (.iload_n 2, 1) := by decide +kernel
theorem dX2_waysToOpen_37 : decode cX2_waysToOpen 37 = .ok (.iload_n 3, 1) := by decide +kernel
theorem dX2_waysToOpen_38 : decode cX2_waysToOpen 38 = .ok (.iload 4, 2) := by decide +kernel
theorem dX2_waysToOpen_40 : decode cX2_waysToOpen 40 = .ok (.iload 8, 2) := by decide +kernel
theorem dX2_waysToOpen_42 : decode cX2_waysToOpen 42 = .ok (.invokevirtual 146, 3) := by decide +kernel
theorem dX2_waysToOpen_45 : decode cX2_waysToOpen 45 = .ok (.ifCond .eq 24, 3) := by decide +kernel
theorem dX2_waysToOpen_48 : decode cX2_waysToOpen 48 = .ok (.lload 6, 2) := by decide +kernel
theorem dX2_waysToOpen_50 : decode cX2_waysToOpen 50 = .ok (.iload 5, 2) := by decide +kernel
theorem dX2_waysToOpen_52 : decode cX2_waysToOpen 52 = .ok (.iconst 1, 1) := by decide +kernel
theorem dX2_waysToOpen_53 : decode cX2_waysToOpen 53 = .ok (.isub, 1) := by decide +kernel
theorem dX2_waysToOpen_54 : decode cX2_waysToOpen 54 = .ok (.i2l, 1) := by decide +kernel
theorem dX2_waysToOpen_55 : decode cX2_waysToOpen 55 = .ok (.iload 4, 2) := by decide +kernel
theorem dX2_waysToOpen_57 : decode cX2_waysToOpen 57 = .ok (.iload 8, 2) := by decide +kernel
theorem dX2_waysToOpen_59 : decode cX2_waysToOpen 59 = .ok (.invokestatic 123, 3) := by decide +kernel
theorem dX2_waysToOpen_62 : decode cX2_waysToOpen 62 = .ok (.isub, 1) := by decide +kernel
theorem dX2_waysToOpen_63 : decode cX2_waysToOpen 63 = .ok (.invokestatic 150, 3) := by decide +kernel
theorem dX2_waysToOpen_66 : decode cX2_waysToOpen 66 = .ok (.ladd, 1) := by decide +kernel
theorem dX2_waysToOpen_67 : decode cX2_waysToOpen 67 = .ok (.lstore 6, 2) := by decide +kernel
theorem dX2_waysToOpen_69 : decode cX2_waysToOpen 69 = .ok (.iinc 8 1, 3) := by decide +kernel
theorem dX2_waysToOpen_72 : decode cX2_waysToOpen 72 = .ok (.goto (-47), 3) := by decide +kernel
theorem dX2_waysToOpen_75 : decode cX2_waysToOpen 75 = .ok (.lload 6, 2) := by decide +kernel
theorem dX2_waysToOpen_77 : decode cX2_waysToOpen 77 = .ok (.lreturn, 1) := by decide +kernel
theorem dX2_lastCopyFits_0 : decode cX2_lastCopyFits 0 = .ok (.aload_n 0, 1) := by decide +kernel
theorem dX2_lastCopyFits_1 : decode cX2_lastCopyFits 1 = .ok (.aload_n 1, 1) := by decide +kernel
theorem dX2_lastCopyFits_2 : decode cX2_lastCopyFits 2 = .ok (.iload_n 2, 1) := by decide +kernel
theorem dX2_lastCopyFits_3 : decode cX2_lastCopyFits 3 = .ok (.invokevirtual 60, 3) := by decide +kernel
theorem dX2_lastCopyFits_6 : decode cX2_lastCopyFits 6 = .ok (.iconst 0, 1) := by decide +kernel
theorem dX2_lastCopyFits_7 : decode cX2_lastCopyFits 7 = .ok (.istore 6, 2) := by decide +kernel
theorem dX2_lastCopyFits_9 : decode cX2_lastCopyFits 9 = .ok (.iload 6, 2) := by decide +kernel
theorem dX2_lastCopyFits_11 : decode cX2_lastCopyFits 11 = .ok (.iload 4, 2) := by decide +kernel
theorem dX2_lastCopyFits_13 : decode cX2_lastCopyFits 13 = .ok (.if_icmp .ge 33, 3) := by decide +kernel
theorem dX2_lastCopyFits_16 : decode cX2_lastCopyFits 16 = .ok (.aload_n 0, 1) := by decide +kernel
theorem dX2_lastCopyFits_17 : decode cX2_lastCopyFits 17 = .ok (.aload_n 1, 1) := by decide +kernel
theorem dX2_lastCopyFits_18 : decode cX2_lastCopyFits 18 = .ok (.getfield 40, 3) := by decide +kernel
theorem dX2_lastCopyFits_21 : decode cX2_lastCopyFits 21 = .ok (.iload_n 3, 1) := by decide +kernel
theorem dX2_lastCopyFits_22 : decode cX2_lastCopyFits 22 = .ok (.iaload, 1) := by decide +kernel
theorem dX2_lastCopyFits_23 : decode cX2_lastCopyFits 23 = .ok (.aload_n 1, 1) := by decide +kernel
theorem dX2_lastCopyFits_24 : decode cX2_lastCopyFits 24 = .ok (.getfield 43, 3) := by decide +kernel
theorem dX2_lastCopyFits_27 : decode cX2_lastCopyFits 27 = .ok (.iload_n 3, 1) := by decide +kernel
theorem dX2_lastCopyFits_28 : decode cX2_lastCopyFits 28 = .ok (.iaload, 1) := by decide +kernel
theorem dX2_lastCopyFits_29 : decode cX2_lastCopyFits 29 = .ok (.iload 5, 2) := by decide +kernel
theorem dX2_lastCopyFits_31 : decode cX2_lastCopyFits 31 = .ok (.iload 6, 2) := by decide +kernel
theorem dX2_lastCopyFits_33 : decode cX2_lastCopyFits 33 = .ok (.ishr, 1) := by decide +kernel
theorem dX2_lastCopyFits_34 : decode cX2_lastCopyFits 34 = .ok (.iconst 1, 1) := by decide +kernel
theorem dX2_lastCopyFits_35 : decode cX2_lastCopyFits 35 = .ok (.iand, 1) := by decide +kernel
theorem dX2_lastCopyFits_36 : decode cX2_lastCopyFits 36 = .ok (.iadd, 1) := by decide +kernel
theorem dX2_lastCopyFits_37 : decode cX2_lastCopyFits 37 = .ok (.invokevirtual 46, 3) := by decide +kernel
theorem dX2_lastCopyFits_40 : decode cX2_lastCopyFits 40 = .ok (.iinc 6 1, 3) := by decide +kernel
theorem dX2_lastCopyFits_43 : decode cX2_lastCopyFits 43 = .ok (.goto (-34), 3) := by decide +kernel
theorem dX2_lastCopyFits_46 : decode cX2_lastCopyFits 46 = .ok (.aload_n 1, 1) := by decide +kernel
theorem dX2_lastCopyFits_47 : decode cX2_lastCopyFits 47 = .ok (.aload_n 0, 1) := by decide +kernel
theorem dX2_lastCopyFits_48 : decode cX2_lastCopyFits 48 = .ok (.getfield 9, 3) := by decide +kernel
theorem dX2_lastCopyFits_51 : decode cX2_lastCopyFits 51 = .ok (.invokevirtual 71, 3) := by decide +kernel
theorem dX2_lastCopyFits_54 : decode cX2_lastCopyFits 54 = .ok (.ireturn, 1) := by decide +kernel
theorem dX2_steadyPair_0 : decode cX2_steadyPair 0 = .ok (.iconst 0, 1) := by decide +kernel
theorem dX2_steadyPair_1 : decode cX2_steadyPair 1 = .ok (.istore 4, 2) := by decide +kernel
theorem dX2_steadyPair_3 : decode cX2_steadyPair 3 = .ok (.iload 4, 2) := by decide +kernel
theorem dX2_steadyPair_5 : decode cX2_steadyPair 5 = .ok (.aload_n 1, 1) := by decide +kernel
theorem dX2_steadyPair_6 : decode cX2_steadyPair 6 = .ok (.getfield 53, 3) := by decide +kernel
theorem dX2_steadyPair_9 : decode cX2_steadyPair 9 = .ok (.if_icmp .ge 50, 3) := by decide +kernel
theorem dX2_steadyPair_12 : decode cX2_steadyPair 12 = .ok (.iconst 0, 1) := by decide +kernel
theorem dX2_steadyPair_13 : decode cX2_steadyPair 13 = .ok (.istore 5, 2) := by decide +kernel
theorem dX2_steadyPair_15 : decode cX2_steadyPair 15 = .ok (.iload 5, 2) := by decide +kernel
theorem dX2_steadyPair_17 : decode cX2_steadyPair 17 = .ok (.aload_n 1, 1) := by decide +kernel
theorem dX2_steadyPair_18 : decode cX2_steadyPair 18 = .ok (.getfield 53, 3) := by decide +kernel
theorem dX2_steadyPair_21 : decode cX2_steadyPair 21 = .ok (.if_icmp .ge 32, 3) := by decide +kernel
theorem dX2_steadyPair_24 : decode cX2_steadyPair 24 = .ok (.aload_n 0, 1) := by decide +kernel
theorem dX2_steadyPair_25 : decode cX2_steadyPair 25 = .ok (.aload_n 1, 1) := by decide +kernel
theorem dX2_steadyPair_26 : decode cX2_steadyPair 26 = .ok (.iload_n 2, 1) := by decide +kernel
theorem dX2_steadyPair_27 : decode cX2_steadyPair 27 = .ok (.iload_n 3, 1) := by decide +kernel
theorem dX2_steadyPair_28 : decode cX2_steadyPair 28 = .ok (.iload 4, 2) := by decide +kernel
theorem dX2_steadyPair_30 : decode cX2_steadyPair 30 = .ok (.iload 5, 2) := by decide +kernel
theorem dX2_steadyPair_32 : decode cX2_steadyPair 32 = .ok (.invokevirtual 154, 3) := by decide +kernel
theorem dX2_steadyPair_35 : decode cX2_steadyPair 35 = .ok (.ifCond .eq 12, 3) := by decide +kernel
theorem dX2_steadyPair_38 : decode cX2_steadyPair 38 = .ok (.bipush 10, 2) := by decide +kernel
theorem dX2_steadyPair_40 : decode cX2_steadyPair 40 = .ok (.iload 4, 2) := by decide +kernel
theorem dX2_steadyPair_42 : decode cX2_steadyPair 42 = .ok (.imul, 1) := by decide +kernel
theorem dX2_steadyPair_43 : decode cX2_steadyPair 43 = .ok (.iload 5, 2) := by decide +kernel
theorem dX2_steadyPair_45 : decode cX2_steadyPair 45 = .ok (.iadd, 1) := by decide +kernel
theorem dX2_steadyPair_46 : decode cX2_steadyPair 46 = .ok (.ireturn, 1) := by decide +kernel
theorem dX2_steadyPair_47 : decode cX2_steadyPair 47 = .ok (.iinc 5 1, 3) := by decide +kernel
theorem dX2_steadyPair_50 : decode cX2_steadyPair 50 = .ok (.goto (-35), 3) := by decide +kernel
theorem dX2_steadyPair_53 : decode cX2_steadyPair 53 = .ok (.iinc 4 1, 3) := by decide +kernel
theorem dX2_steadyPair_56 : decode cX2_steadyPair 56 = .ok (.goto (-53), 3) := by decide +kernel
theorem dX2_steadyPair_59 : decode cX2_steadyPair 59 = .ok (.bipush (-9), 2) := by decide +kernel
theorem dX2_steadyPair_61 : decode cX2_steadyPair 61 = .ok (.ireturn, 1) := by decide +kernel
theorem dX2_isSteady_0 : decode cX2_isSteady 0 = .ok (.aload_n 0, 1) := by decide +kernel
theorem dX2_isSteady_1 : decode cX2_isSteady 1 = .ok (.aload_n 1, 1) := by decide +kernel
theorem dX2_isSteady_2 : decode cX2_isSteady 2 = .ok (.iload_n 2, 1) := by decide +kernel
theorem dX2_isSteady_3 : decode cX2_isSteady 3 = .ok (.iload_n 3, 1) := by decide +kernel
theorem dX2_isSteady_4 : decode cX2_isSteady 4 = .ok (.iload 4, 2) := by decide +kernel
theorem dX2_isSteady_6 : decode cX2_isSteady 6 = .ok (.iload 5, 2) := by decide +kernel
theorem dX2_isSteady_8 : decode cX2_isSteady 8 = .ok (.invokevirtual 157, 3) := by decide +kernel
theorem dX2_isSteady_11 : decode cX2_isSteady 11 = .ok (.istore 6, 2) := by decide +kernel
theorem dX2_isSteady_13 : decode cX2_isSteady 13 = .ok (.iconst 0, 1) := by decide +kernel
theorem dX2_isSteady_14 : decode cX2_isSteady 14 = .ok (.istore 7, 2) := by decide +kernel
theorem dX2_isSteady_16 : decode cX2_isSteady 16 = .ok (.iload 7, 2) := by decide +kernel
theorem dX2_isSteady_18 : decode cX2_isSteady 18 = .ok (.aload_n 1, 1) := by decide +kernel
theorem dX2_isSteady_19 : decode cX2_isSteady 19 = .ok (.getfield 53, 3) := by decide +kernel
theorem dX2_isSteady_22 : decode cX2_isSteady 22 = .ok (.if_icmp .ge 67, 3) := by decide +kernel
theorem dX2_isSteady_25 : decode cX2_isSteady 25 = .ok (.aload_n 0, 1) := by decide +kernel
theorem dX2_isSteady_26 : decode cX2_isSteady 26 = .ok (.aload_n 1, 1) := by decide +kernel
theorem dX2_isSteady_27 : decode cX2_isSteady 27 = .ok (.iload_n 2, 1) := by decide +kernel
theorem dX2_isSteady_28 : decode cX2_isSteady 28 = .ok (.iload_n 3, 1) := by decide +kernel
theorem dX2_isSteady_29 : decode cX2_isSteady 29 = .ok (.iload 7, 2) := by decide +kernel
theorem dX2_isSteady_31 : decode cX2_isSteady 31 = .ok (.iload 5, 2) := by decide +kernel
theorem dX2_isSteady_33 : decode cX2_isSteady 33 = .ok (.invokevirtual 157, 3) := by decide +kernel
theorem dX2_isSteady_36 : decode cX2_isSteady 36 = .ok (.iload 6, 2) := by decide +kernel
theorem dX2_isSteady_38 : decode cX2_isSteady 38 = .ok (.if_icmp .le 7, 3) := by decide +kernel
theorem dX2_isSteady_41 : decode cX2_isSteady 41 = .ok (.iconst 1, 1) := by decide +kernel
theorem dX2_isSteady_42 : decode cX2_isSteady 42 = .ok (.goto 4, 3) := by decide +kernel
theorem dX2_isSteady_45 : decode cX2_isSteady 45 = .ok (.iconst 0, 1) := by decide +kernel
theorem dX2_isSteady_46 : decode cX2_isSteady 46 = .ok (.istore 8, 2) := by decide +kernel
theorem dX2_isSteady_48 : decode cX2_isSteady 48 = .ok (.aload_n 0, 1) := by decide +kernel
theorem dX2_isSteady_49 : decode cX2_isSteady 49 = .ok (.aload_n 1, 1) := by decide +kernel
theorem dX2_isSteady_50 : decode cX2_isSteady 50 = .ok (.iload_n 2, 1) := by decide +kernel
theorem dX2_isSteady_51 : decode cX2_isSteady 51 = .ok (.iload_n 3, 1) := by decide +kernel
theorem dX2_isSteady_52 : decode cX2_isSteady 52 = .ok (.iload 4, 2) := by decide +kernel
theorem dX2_isSteady_54 : decode cX2_isSteady 54 = .ok (.iload 7, 2) := by decide +kernel
theorem dX2_isSteady_56 : decode cX2_isSteady 56 = .ok (.invokevirtual 157, 3) := by decide +kernel
theorem dX2_isSteady_59 : decode cX2_isSteady 59 = .ok (.iload 6, 2) := by decide +kernel
theorem dX2_isSteady_61 : decode cX2_isSteady 61 = .ok (.if_icmp .ge 7, 3) := by decide +kernel
theorem dX2_isSteady_64 : decode cX2_isSteady 64 = .ok (.iconst 1, 1) := by decide +kernel
theorem dX2_isSteady_65 : decode cX2_isSteady 65 = .ok (.goto 4, 3) := by decide +kernel
theorem dX2_isSteady_68 : decode cX2_isSteady 68 = .ok (.iconst 0, 1) := by decide +kernel
theorem dX2_isSteady_69 : decode cX2_isSteady 69 = .ok (.istore 9, 2) := by decide +kernel
theorem dX2_isSteady_71 : decode cX2_isSteady 71 = .ok (.iload 8, 2) := by decide +kernel
theorem dX2_isSteady_73 : decode cX2_isSteady 73 = .ok (.ifCond .ne 8, 3) := by decide +kernel
theorem dX2_isSteady_76 : decode cX2_isSteady 76 = .ok (.iload 9, 2) := by decide +kernel
theorem dX2_isSteady_78 : decode cX2_isSteady 78 = .ok (.ifCond .eq 5, 3) := by decide +kernel
theorem dX2_isSteady_81 : decode cX2_isSteady 81 = .ok (.iconst 0, 1) := by decide +kernel
theorem dX2_isSteady_82 : decode cX2_isSteady 82 = .ok (.ireturn, 1) := by decide +kernel
theorem dX2_isSteady_83 : decode cX2_isSteady 83 = .ok (.iinc 7 1, 3) := by decide +kernel
theorem dX2_isSteady_86 : decode cX2_isSteady 86 = .ok (.goto (-70), 3) := by decide +kernel
theorem dX2_isSteady_89 : decode cX2_isSteady 89 = .ok (.iconst 1, 1) := by decide +kernel
theorem dX2_isSteady_90 : decode cX2_isSteady 90 = .ok (.ireturn, 1) := by decide +kernel
theorem dX2_cutTwice_0 : decode cX2_cutTwice 0 = .ok (.aload_n 1, 1) := by decide +kernel
theorem dX2_cutTwice_1 : decode cX2_cutTwice 1 = .ok (.iload 5, 2) := by decide +kernel
theorem dX2_cutTwice_3 : decode cX2_cutTwice 3 = .ok (.aload_n 1, 1) := by decide +kernel
theorem dX2_cutTwice_4 : decode cX2_cutTwice 4 = .ok (.iload 4, 2) := by decide +kernel
theorem dX2_cutTwice_6 : decode cX2_cutTwice 6 = .ok (.iload_n 2, 1) := by decide +kernel
theorem dX2_cutTwice_7 : decode cX2_cutTwice 7 = .ok (.iload_n 3, 1) := by decide +kernel
theorem dX2_cutTwice_8 : decode cX2_cutTwice 8 = .ok (.invokevirtual 161, 3) := by decide +kernel
theorem dX2_cutTwice_11 : decode cX2_cutTwice 11 = .ok (.iload_n 3, 1) := by decide +kernel
theorem dX2_cutTwice_12 : decode cX2_cutTwice 12 = .ok (.invokevirtual 161, 3) := by decide +kernel
theorem dX2_cutTwice_15 : decode cX2_cutTwice 15 = .ok (.ireturn, 1) := by decide +kernel
theorem dX2_machinesThatCut_0 : decode cX2_machinesThatCut 0 = .ok (.iconst 0, 1) := by decide +kernel
theorem dX2_machinesThatCut_1 : decode cX2_machinesThatCut 1 = .ok (.istore 4, 2) := by decide +kernel
theorem dX2_machinesThatCut_3 : decode cX2_machinesThatCut 3 = .ok (.iconst 0, 1) := by decide +kernel
theorem dX2_machinesThatCut_4 : decode cX2_machinesThatCut 4 = .ok (.istore 5, 2) := by decide +kernel
theorem dX2_machinesThatCut_6 : decode cX2_machinesThatCut 6 = .ok (.iload 5, 2) := by decide +kernel
theorem dX2_machinesThatCut_8 : decode cX2_machinesThatCut 8 = .ok (.aload_n 1, 1) := by decide +kernel
theorem dX2_machinesThatCut_9 : decode cX2_machinesThatCut 9 = .ok (.getfield 53, 3) := by decide +kernel
theorem dX2_machinesThatCut_12 : decode cX2_machinesThatCut 12 = .ok (.if_icmp .ge 46, 3) := by decide +kernel
theorem dX2_machinesThatCut_15 : decode cX2_machinesThatCut 15 = .ok (.iload 4, 2) := by decide +kernel
theorem dX2_machinesThatCut_17 : decode cX2_machinesThatCut 17 = .ok (.aload_n 0, 1) := by decide +kernel
theorem dX2_machinesThatCut_18 : decode cX2_machinesThatCut 18 = .ok (.aload_n 1, 1) := by decide +kernel
theorem dX2_machinesThatCut_19 : decode cX2_machinesThatCut 19 = .ok (.iload_n 2, 1) := by decide +kernel
theorem dX2_machinesThatCut_20 : decode cX2_machinesThatCut 20 = .ok (.aload_n 1, 1) := by decide +kernel
theorem dX2_machinesThatCut_21 : decode cX2_machinesThatCut 21 = .ok (.getfield 40, 3) := by decide +kernel
theorem dX2_machinesThatCut_24 : decode cX2_machinesThatCut 24 = .ok (.iload 5, 2) := by decide +kernel
theorem dX2_machinesThatCut_26 : decode cX2_machinesThatCut 26 = .ok (.iaload, 1) := by decide +kernel
theorem dX2_machinesThatCut_27 : decode cX2_machinesThatCut 27 = .ok (.aload_n 1, 1) := by decide +kernel
theorem dX2_machinesThatCut_28 : decode cX2_machinesThatCut 28 = .ok (.getfield 43, 3) := by decide +kernel
theorem dX2_machinesThatCut_31 : decode cX2_machinesThatCut 31 = .ok (.iload 5, 2) := by decide +kernel
theorem dX2_machinesThatCut_33 : decode cX2_machinesThatCut 33 = .ok (.iaload, 1) := by decide +kernel
theorem dX2_machinesThatCut_34 : decode cX2_machinesThatCut 34 = .ok (.aload_n 3, 1) := by decide +kernel
theorem dX2_machinesThatCut_35 : decode cX2_machinesThatCut 35 = .ok (.invokevirtual 165, 3) := by decide +kernel
theorem dX2_machinesThatCut_38 : decode cX2_machinesThatCut 38 = .ok (.ifCond .eq 10, 3) := by decide +kernel
theorem dX2_machinesThatCut_41 : decode cX2_machinesThatCut 41 = .ok (.iconst 1, 1) := by decide +kernel
theorem dX2_machinesThatCut_42 : decode cX2_machinesThatCut 42 = .ok (.iload 5, 2) := by decide +kernel
theorem dX2_machinesThatCut_44 : decode cX2_machinesThatCut 44 = .ok (.ishl, 1) := by decide +kernel
theorem dX2_machinesThatCut_45 : decode cX2_machinesThatCut 45 = .ok (.goto 4, 3) := by decide +kernel
theorem dX2_machinesThatCut_48 : decode cX2_machinesThatCut 48 = .ok (.iconst 0, 1) := by decide +kernel
theorem dX2_machinesThatCut_49 : decode cX2_machinesThatCut 49 = .ok (.ior, 1) := by decide +kernel
theorem dX2_machinesThatCut_50 : decode cX2_machinesThatCut 50 = .ok (.istore 4, 2) := by decide +kernel
theorem dX2_machinesThatCut_52 : decode cX2_machinesThatCut 52 = .ok (.iinc 5 1, 3) := by decide +kernel
theorem dX2_machinesThatCut_55 : decode cX2_machinesThatCut 55 = .ok (.goto (-49), 3) := by decide +kernel
theorem dX2_machinesThatCut_58 : decode cX2_machinesThatCut 58 = .ok (.iload 4, 2) := by decide +kernel
theorem dX2_machinesThatCut_60 : decode cX2_machinesThatCut 60 = .ok (.ireturn, 1) := by decide +kernel
theorem dX2_kindsThatCut_0 : decode cX2_kindsThatCut 0 = .ok (.iconst 0, 1) := by decide +kernel
theorem dX2_kindsThatCut_1 : decode cX2_kindsThatCut 1 = .ok (.istore 5, 2) := by decide +kernel
theorem dX2_kindsThatCut_3 : decode cX2_kindsThatCut 3 = .ok (.iconst 0, 1) := by decide +kernel
theorem dX2_kindsThatCut_4 : decode cX2_kindsThatCut 4 = .ok (.istore 6, 2) := by decide +kernel
theorem dX2_kindsThatCut_6 : decode cX2_kindsThatCut 6 = .ok (.iload 6, 2) := by decide +kernel
theorem dX2_kindsThatCut_8 : decode cX2_kindsThatCut 8 = .ok (.bipush 6, 2) := by decide +kernel
theorem dX2_kindsThatCut_10 : decode cX2_kindsThatCut 10 = .ok (.if_icmp .ge 36, 3) := by decide +kernel
theorem dX2_kindsThatCut_13 : decode cX2_kindsThatCut 13 = .ok (.iload 5, 2) := by decide +kernel
theorem dX2_kindsThatCut_15 : decode cX2_kindsThatCut 15 = .ok (.aload_n 0, 1) := by decide +kernel
theorem dX2_kindsThatCut_16 : decode cX2_kindsThatCut 16 = .ok (.aload_n 1, 1) := by decide +kernel
theorem dX2_kindsThatCut_17 : decode cX2_kindsThatCut 17 = .ok (.iload_n 2, 1) := by decide +kernel
theorem dX2_kindsThatCut_18 : decode cX2_kindsThatCut 18 = .ok (.iload 6, 2) := by decide +kernel
theorem dX2_kindsThatCut_20 : decode cX2_kindsThatCut 20 = .ok (.iload_n 3, 1) := by decide +kernel
theorem dX2_kindsThatCut_21 : decode cX2_kindsThatCut 21 = .ok (.aload 4, 2) := by decide +kernel
theorem dX2_kindsThatCut_23 : decode cX2_kindsThatCut 23 = .ok (.invokevirtual 165, 3) := by decide +kernel
theorem dX2_kindsThatCut_26 : decode cX2_kindsThatCut 26 = .ok (.ifCond .eq 10, 3) := by decide +kernel
theorem dX2_kindsThatCut_29 : decode cX2_kindsThatCut 29 = .ok (.iconst 1, 1) := by decide +kernel
theorem dX2_kindsThatCut_30 : decode cX2_kindsThatCut 30 = .ok (.iload 6, 2) := by decide +kernel
theorem dX2_kindsThatCut_32 : decode cX2_kindsThatCut 32 = .ok (.ishl, 1) := by decide +kernel
theorem dX2_kindsThatCut_33 : decode cX2_kindsThatCut 33 = .ok (.goto 4, 3) := by decide +kernel
theorem dX2_kindsThatCut_36 : decode cX2_kindsThatCut 36 = .ok (.iconst 0, 1) := by decide +kernel
theorem dX2_kindsThatCut_37 : decode cX2_kindsThatCut 37 = .ok (.ior, 1) := by decide +kernel
theorem dX2_kindsThatCut_38 : decode cX2_kindsThatCut 38 = .ok (.istore 5, 2) := by decide +kernel
theorem dX2_kindsThatCut_40 : decode cX2_kindsThatCut 40 = .ok (.iinc 6 1, 3) := by decide +kernel
theorem dX2_kindsThatCut_43 : decode cX2_kindsThatCut 43 = .ok (.goto (-37), 3) := by decide +kernel
theorem dX2_kindsThatCut_46 : decode cX2_kindsThatCut 46 = .ok (.iload 5, 2) := by decide +kernel
theorem dX2_kindsThatCut_48 : decode cX2_kindsThatCut 48 = .ok (.ireturn, 1) := by decide +kernel
theorem dX2_cutsSo_0 : decode cX2_cutsSo 0 = .ok (.aload_n 0, 1) := by decide +kernel
theorem dX2_cutsSo_1 : decode cX2_cutsSo 1 = .ok (.aload_n 1, 1) := by decide +kernel
theorem dX2_cutsSo_2 : decode cX2_cutsSo 2 = .ok (.iload_n 2, 1) := by decide +kernel
theorem dX2_cutsSo_3 : decode cX2_cutsSo 3 = .ok (.invokevirtual 60, 3) := by decide +kernel
theorem dX2_cutsSo_6 : decode cX2_cutsSo 6 = .ok (.aload_n 0, 1) := by decide +kernel
theorem dX2_cutsSo_7 : decode cX2_cutsSo 7 = .ok (.iload_n 3, 1) := by decide +kernel
theorem dX2_cutsSo_8 : decode cX2_cutsSo 8 = .ok (.iload 4, 2) := by decide +kernel
theorem dX2_cutsSo_10 : decode cX2_cutsSo 10 = .ok (.invokevirtual 46, 3) := by decide +kernel
theorem dX2_cutsSo_13 : decode cX2_cutsSo 13 = .ok (.iconst 0, 1) := by decide +kernel
theorem dX2_cutsSo_14 : decode cX2_cutsSo 14 = .ok (.istore 6, 2) := by decide +kernel
theorem dX2_cutsSo_16 : decode cX2_cutsSo 16 = .ok (.iload 6, 2) := by decide +kernel
theorem dX2_cutsSo_18 : decode cX2_cutsSo 18 = .ok (.iconst 5, 1) := by decide +kernel
theorem dX2_cutsSo_19 : decode cX2_cutsSo 19 = .ok (.if_icmp .ge 26, 3) := by decide +kernel
theorem dX2_cutsSo_22 : decode cX2_cutsSo 22 = .ok (.aload_n 0, 1) := by decide +kernel
theorem dX2_cutsSo_23 : decode cX2_cutsSo 23 = .ok (.getfield 9, 3) := by decide +kernel
theorem dX2_cutsSo_26 : decode cX2_cutsSo 26 = .ok (.iload 6, 2) := by decide +kernel
theorem dX2_cutsSo_28 : decode cX2_cutsSo 28 = .ok (.iaload, 1) := by decide +kernel
theorem dX2_cutsSo_29 : decode cX2_cutsSo 29 = .ok (.aload 5, 2) := by decide +kernel
theorem dX2_cutsSo_31 : decode cX2_cutsSo 31 = .ok (.iload 6, 2) := by decide +kernel
theorem dX2_cutsSo_33 : decode cX2_cutsSo 33 = .ok (.iaload, 1) := by decide +kernel
theorem dX2_cutsSo_34 : decode cX2_cutsSo 34 = .ok (.if_icmp .eq 5, 3) := by decide +kernel
theorem dX2_cutsSo_37 : decode cX2_cutsSo 37 = .ok (.iconst 0, 1) := by decide +kernel
theorem dX2_cutsSo_38 : decode cX2_cutsSo 38 = .ok (.ireturn, 1) := by decide +kernel
theorem dX2_cutsSo_39 : decode cX2_cutsSo 39 = .ok (.iinc 6 1, 3) := by decide +kernel
theorem dX2_cutsSo_42 : decode cX2_cutsSo 42 = .ok (.goto (-26), 3) := by decide +kernel
theorem dX2_cutsSo_45 : decode cX2_cutsSo 45 = .ok (.iconst 1, 1) := by decide +kernel
theorem dX2_cutsSo_46 : decode cX2_cutsSo 46 = .ok (.ireturn, 1) := by decide +kernel
theorem dX2_drawLots_0 : decode cX2_drawLots 0 = .ok (.aload_n 0, 1) := by decide +kernel
theorem dX2_drawLots_1 : decode cX2_drawLots 1 = .ok (.iload_n 3, 1) := by decide +kernel
theorem dX2_drawLots_2 : decode cX2_drawLots 2 = .ok (.putfield 18, 3) := by decide +kernel
theorem dX2_drawLots_5 : decode cX2_drawLots 5 = .ok (.iconst 0, 1) := by decide +kernel
theorem dX2_drawLots_6 : decode cX2_drawLots 6 = .ok (.istore 5, 2) := by decide +kernel
theorem dX2_drawLots_8 : decode cX2_drawLots 8 = .ok (.iconst 0, 1) := by decide +kernel
theorem dX2_drawLots_9 : decode cX2_drawLots 9 = .ok (.istore 6, 2) := by decide +kernel
theorem dX2_drawLots_11 : decode cX2_drawLots 11 = .ok (.iconst 0, 1) := by decide +kernel
theorem dX2_drawLots_12 : decode cX2_drawLots 12 = .ok (.istore 7, 2) := by decide +kernel
theorem dX2_drawLots_14 : decode cX2_drawLots 14 = .ok (.iload 7, 2) := by decide +kernel
theorem dX2_drawLots_16 : decode cX2_drawLots 16 = .ok (.iload_n 2, 1) := by decide +kernel
theorem dX2_drawLots_17 : decode cX2_drawLots 17 = .ok (.if_icmp .ge 82, 3) := by decide +kernel
theorem dX2_drawLots_20 : decode cX2_drawLots 20 = .ok (.aload_n 0, 1) := by decide +kernel
theorem dX2_drawLots_21 : decode cX2_drawLots 21 = .ok (.aload_n 1, 1) := by decide +kernel
theorem dX2_drawLots_22 : decode cX2_drawLots 22 = .ok (.aload_n 0, 1) := by decide +kernel
theorem dX2_drawLots_23 : decode cX2_drawLots 23 = .ok (.aload_n 1, 1) := by decide +kernel
theorem dX2_drawLots_24 : decode cX2_drawLots 24 = .ok (.getfield 50, 3) := by decide +kernel
theorem dX2_drawLots_27 : decode cX2_drawLots 27 = .ok (.invokevirtual 169, 3) := by decide +kernel
theorem dX2_drawLots_30 : decode cX2_drawLots 30 = .ok (.invokevirtual 60, 3) := by decide +kernel
theorem dX2_drawLots_33 : decode cX2_drawLots 33 = .ok (.aload_n 0, 1) := by decide +kernel
theorem dX2_drawLots_34 : decode cX2_drawLots 34 = .ok (.aload_n 1, 1) := by decide +kernel
theorem dX2_drawLots_35 : decode cX2_drawLots 35 = .ok (.aload_n 0, 1) := by decide +kernel
theorem dX2_drawLots_36 : decode cX2_drawLots 36 = .ok (.aload_n 1, 1) := by decide +kernel
theorem dX2_drawLots_37 : decode cX2_drawLots 37 = .ok (.getfield 53, 3) := by decide +kernel
theorem dX2_drawLots_40 : decode cX2_drawLots 40 = .ok (.invokevirtual 169, 3) := by decide +kernel
theorem dX2_drawLots_43 : decode cX2_drawLots 43 = .ok (.invokevirtual 64, 3) := by decide +kernel
theorem dX2_drawLots_46 : decode cX2_drawLots 46 = .ok (.aload_n 0, 1) := by decide +kernel
theorem dX2_drawLots_47 : decode cX2_drawLots 47 = .ok (.aload_n 1, 1) := by decide +kernel
theorem dX2_drawLots_48 : decode cX2_drawLots 48 = .ok (.aload_n 0, 1) := by decide +kernel
theorem dX2_drawLots_49 : decode cX2_drawLots 49 = .ok (.aload_n 1, 1) := by decide +kernel
theorem dX2_drawLots_50 : decode cX2_drawLots 50 = .ok (.getfield 53, 3) := by decide +kernel
theorem dX2_drawLots_53 : decode cX2_drawLots 53 = .ok (.invokevirtual 169, 3) := by decide +kernel
theorem dX2_drawLots_56 : decode cX2_drawLots 56 = .ok (.invokevirtual 64, 3) := by decide +kernel
theorem dX2_drawLots_59 : decode cX2_drawLots 59 = .ok (.iload 5, 2) := by decide +kernel
theorem dX2_drawLots_61 : decode cX2_drawLots 61 = .ok (.aload_n 1, 1) := by decide +kernel
theorem dX2_drawLots_62 : decode cX2_drawLots 62 = .ok (.aload_n 0, 1) := by decide +kernel
theorem dX2_drawLots_63 : decode cX2_drawLots 63 = .ok (.getfield 9, 3) := by decide +kernel
theorem dX2_drawLots_66 : decode cX2_drawLots 66 = .ok (.invokevirtual 71, 3) := by decide +kernel
theorem dX2_drawLots_69 : decode cX2_drawLots 69 = .ok (.ifCond .eq 7, 3) := by decide +kernel
theorem dX2_drawLots_72 : decode cX2_drawLots 72 = .ok (.iconst 1, 1) := by decide +kernel
theorem dX2_drawLots_73 : decode cX2_drawLots 73 = .ok (.goto 4, 3) := by decide +kernel
theorem dX2_drawLots_76 : decode cX2_drawLots 76 = .ok (.iconst 0, 1) := by decide +kernel
theorem dX2_drawLots_77 : decode cX2_drawLots 77 = .ok (.iadd, 1) := by decide +kernel
theorem dX2_drawLots_78 : decode cX2_drawLots 78 = .ok (.istore 5, 2) := by decide +kernel
theorem dX2_drawLots_80 : decode cX2_drawLots 80 = .ok (.iload 6, 2) := by decide +kernel
theorem dX2_drawLots_82 : decode cX2_drawLots 82 = .ok (.aload_n 1, 1) := by decide +kernel
theorem dX2_drawLots_83 : decode cX2_drawLots 83 = .ok (.aload_n 0, 1) := by decide +kernel
theorem dX2_drawLots_84 : decode cX2_drawLots 84 = .ok (.getfield 9, 3) := by decide +kernel
theorem dX2_drawLots_87 : decode cX2_drawLots 87 = .ok (.invokevirtual 67, 3) := by decide +kernel
theorem dX2_drawLots_90 : decode cX2_drawLots 90 = .ok (.iadd, 1) := by decide +kernel
theorem dX2_drawLots_91 : decode cX2_drawLots 91 = .ok (.istore 6, 2) := by decide +kernel
theorem dX2_drawLots_93 : decode cX2_drawLots 93 = .ok (.iinc 7 1, 3) := by decide +kernel
theorem dX2_drawLots_96 : decode cX2_drawLots 96 = .ok (.goto (-82), 3) := by decide +kernel
theorem dX2_drawLots_99 : decode cX2_drawLots 99 = .ok (.iload 4, 2) := by decide +kernel
theorem dX2_drawLots_101 : decode cX2_drawLots 101 = .ok (.ifCond .eq 8, 3) := by decide +kernel
theorem dX2_drawLots_104 : decode cX2_drawLots 104 = .ok (.iload 6, 2) := by decide +kernel
theorem dX2_drawLots_106 : decode cX2_drawLots 106 = .ok (.goto 5, 3) := by decide +kernel
theorem dX2_drawLots_109 : decode cX2_drawLots 109 = .ok (.iload 5, 2) := by decide +kernel
theorem dX2_drawLots_111 : decode cX2_drawLots 111 = .ok (.ireturn, 1) := by decide +kernel
theorem dX2_drawBelow_0 : decode cX2_drawBelow 0 = .ok (.aload_n 0, 1) := by decide +kernel
theorem dX2_drawBelow_1 : decode cX2_drawBelow 1 = .ok (.aload_n 0, 1) := by decide +kernel
theorem dX2_drawBelow_2 : decode cX2_drawBelow 2 = .ok (.getfield 18, 3) := by decide +kernel
theorem dX2_drawBelow_5 : decode cX2_drawBelow 5 = .ok (.ldc 172, 2) := by decide +kernel
theorem dX2_drawBelow_7 : decode cX2_drawBelow 7 = .ok (.imul, 1) := by decide +kernel
theorem dX2_drawBelow_8 : decode cX2_drawBelow 8 = .ok (.ldc 173, 2) := by decide +kernel
theorem dX2_drawBelow_10 : decode cX2_drawBelow 10 = .ok (.iadd, 1) := by decide +kernel
theorem dX2_drawBelow_11 : decode cX2_drawBelow 11 = .ok (.putfield 18, 3) := by decide +kernel
theorem dX2_drawBelow_14 : decode cX2_drawBelow 14 = .ok (.iload_n 1, 1) := by decide +kernel
theorem dX2_drawBelow_15 : decode cX2_drawBelow 15 = .ok (.iconst 1, 1) := by decide +kernel
theorem dX2_drawBelow_16 : decode cX2_drawBelow 16 = .ok (.if_icmp .ge 7, 3) := by decide +kernel
theorem dX2_drawBelow_19 : decode cX2_drawBelow 19 = .ok (.iconst 0, 1) := by decide +kernel
theorem dX2_drawBelow_20 : decode cX2_drawBelow 20 = .ok (.goto 16, 3) := by decide +kernel
theorem dX2_drawBelow_23 : decode cX2_drawBelow 23 = .ok (.aload_n 0, 1) := by decide +kernel
theorem dX2_drawBelow_24 : decode cX2_drawBelow 24 = .ok (.getfield 18, 3) := by decide +kernel
theorem dX2_drawBelow_27 : decode cX2_drawBelow 27 = .ok (.ldc 174, 2) := by decide +kernel
theorem dX2_drawBelow_29 : decode cX2_drawBelow 29 = .ok (.iand, 1) := by decide +kernel
theorem dX2_drawBelow_30 : decode cX2_drawBelow 30 = .ok (.sipush 256, 3) := by decide +kernel
theorem dX2_drawBelow_33 : decode cX2_drawBelow 33 = .ok (.idiv, 1) := by decide +kernel
theorem dX2_drawBelow_34 : decode cX2_drawBelow 34 = .ok (.iload_n 1, 1) := by decide +kernel
theorem dX2_drawBelow_35 : decode cX2_drawBelow 35 = .ok (.irem, 1) := by decide +kernel
theorem dX2_drawBelow_36 : decode cX2_drawBelow 36 = .ok (.ireturn, 1) := by decide +kernel
theorem dX3_init_0 : decode cX3_init 0 = .ok (.aload_n 0, 1) := by decide +kernel
theorem dX3_init_1 : decode cX3_init 1 = .ok (.invokespecial 3, 3) := by decide +kernel
theorem dX3_init_4 : decode cX3_init 4 = .ok (.aload_n 0, 1) := by decide +kernel
theorem dX3_init_5 : decode cX3_init 5 = .ok (.iconst 5, 1) := by decide +kernel
theorem dX3_init_6 : decode cX3_init 6 = .ok (.newarray .int, 2) := by decide +kernel
theorem dX3_init_8 : decode cX3_init 8 = .ok (.putfield 9, 3) := by decide +kernel
theorem dX3_init_11 : decode cX3_init 11 = .ok (.aload_n 0, 1) := by decide +kernel
theorem dX3_init_12 : decode cX3_init 12 = .ok (.getfield 9, 3) := by decide +kernel
theorem dX3_init_15 : decode cX3_init 15 = .ok (.bipush 50, 2) := by decide +kernel
theorem dX3_init_17 : decode cX3_init 17 = .ok (.invokestatic 15, 3) := by decide +kernel
theorem dX3_init_20 : decode cX3_init 20 = .ok (.aload_n 0, 1) := by decide +kernel
theorem dX3_init_21 : decode cX3_init 21 = .ok (.iconst 2, 1) := by decide +kernel
theorem dX3_init_22 : decode cX3_init 22 = .ok (.putfield 21, 3) := by decide +kernel
theorem dX3_init_25 : decode cX3_init 25 = .ok (.aload_n 0, 1) := by decide +kernel
theorem dX3_init_26 : decode cX3_init 26 = .ok (.iconst 0, 1) := by decide +kernel
theorem dX3_init_27 : decode cX3_init 27 = .ok (.putfield 25, 3) := by decide +kernel
theorem dX3_init_30 : decode cX3_init 30 = .ok (.aload_n 0, 1) := by decide +kernel
theorem dX3_init_31 : decode cX3_init 31 = .ok (.bipush 10, 2) := by decide +kernel
theorem dX3_init_33 : decode cX3_init 33 = .ok (.iconst 5, 1) := by decide +kernel
theorem dX3_init_34 : decode cX3_init 34 = .ok (.multianewarray 28 2, 4) := by decide +kernel
theorem dX3_init_38 : decode cX3_init 38 = .ok (.putfield 30, 3) := by decide +kernel
theorem dX3_init_41 : decode cX3_init 41 = .ok (.aload_n 0, 1) := by decide +kernel
theorem dX3_init_42 : decode cX3_init 42 = .ok (.bipush 10, 2) := by decide +kernel
theorem dX3_init_44 : decode cX3_init 44 = .ok (.newarray .int, 2) := by decide +kernel
theorem dX3_init_46 : decode cX3_init 46 = .ok (.putfield 33, 3) := by decide +kernel
theorem dX3_init_49 : decode cX3_init 49 = .ok (.aload_n 0, 1) := by decide +kernel
theorem dX3_init_50 : decode cX3_init 50 = .ok (.bipush 10, 2) := by decide +kernel
theorem dX3_init_52 : decode cX3_init 52 = .ok (.newarray .boolean, 2) := by decide +kernel
theorem dX3_init_54 : decode cX3_init 54 = .ok (.putfield 36, 3) := by decide +kernel
theorem dX3_init_57 : decode cX3_init 57 = .ok (.aload_n 0, 1) := by decide +kernel
theorem dX3_init_58 : decode cX3_init 58 = .ok (.iconst 0, 1) := by decide +kernel
theorem dX3_init_59 : decode cX3_init 59 = .ok (.putfield 40, 3) := by decide +kernel
theorem dX3_init_62 : decode cX3_init 62 = .ok (.aload_n 0, 1) := by decide +kernel
theorem dX3_init_63 : decode cX3_init 63 = .ok (.iconst 5, 1) := by decide +kernel
theorem dX3_init_64 : decode cX3_init 64 = .ok (.newarray .int, 2) := by decide +kernel
theorem dX3_init_66 : decode cX3_init 66 = .ok (.putfield 43, 3) := by decide +kernel
theorem dX3_init_69 : decode cX3_init 69 = .ok (.aload_n 0, 1) := by decide +kernel
theorem dX3_init_70 : decode cX3_init 70 = .ok (.iconst 5, 1) := by decide +kernel
theorem dX3_init_71 : decode cX3_init 71 = .ok (.newarray .int, 2) := by decide +kernel
theorem dX3_init_73 : decode cX3_init 73 = .ok (.putfield 46, 3) := by decide +kernel
theorem dX3_init_76 : decode cX3_init 76 = .ok (.aload_n 0, 1) := by decide +kernel
theorem dX3_init_77 : decode cX3_init 77 = .ok (.iconst 0, 1) := by decide +kernel
theorem dX3_init_78 : decode cX3_init 78 = .ok (.putfield 49, 3) := by decide +kernel
theorem dX3_init_81 : decode cX3_init 81 = .ok (.return_, 1) := by decide +kernel
theorem dX3_becomes_0 : decode cX3_becomes 0 = .ok (.aload_n 1, 1) := by decide +kernel
theorem dX3_becomes_1 : decode cX3_becomes 1 = .ok (.getfield 9, 3) := by decide +kernel
theorem dX3_becomes_4 : decode cX3_becomes 4 = .ok (.iconst 0, 1) := by decide +kernel
theorem dX3_becomes_5 : decode cX3_becomes 5 = .ok (.aload_n 0, 1) := by decide +kernel
theorem dX3_becomes_6 : decode cX3_becomes 6 = .ok (.getfield 9, 3) := by decide +kernel
theorem dX3_becomes_9 : decode cX3_becomes 9 = .ok (.iconst 0, 1) := by decide +kernel
theorem dX3_becomes_10 : decode cX3_becomes 10 = .ok (.iconst 5, 1) := by decide +kernel
theorem dX3_becomes_11 : decode cX3_becomes 11 = .ok (.invokestatic 52, 3) := by decide +kernel
theorem dX3_becomes_14 : decode cX3_becomes 14 = .ok (.aload_n 0, 1) := by decide +kernel
theorem dX3_becomes_15 : decode cX3_becomes 15 = .ok (.aload_n 1, 1) := by decide +kernel
theorem dX3_becomes_16 : decode cX3_becomes 16 = .ok (.getfield 21, 3) := by decide +kernel
theorem dX3_becomes_19 : decode cX3_becomes 19 = .ok (.putfield 21, 3) := by decide +kernel
theorem dX3_becomes_22 : decode cX3_becomes 22 = .ok (.aload_n 0, 1) := by decide +kernel
theorem dX3_becomes_23 : decode cX3_becomes 23 = .ok (.aload_n 1, 1) := by decide +kernel
theorem dX3_becomes_24 : decode cX3_becomes 24 = .ok (.getfield 25, 3) := by decide +kernel
theorem dX3_becomes_27 : decode cX3_becomes 27 = .ok (.putfield 25, 3) := by decide +kernel
theorem dX3_becomes_30 : decode cX3_becomes 30 = .ok (.iconst 0, 1) := by decide +kernel
theorem dX3_becomes_31 : decode cX3_becomes 31 = .ok (.istore_n 2, 1) := by decide +kernel
theorem dX3_becomes_32 : decode cX3_becomes 32 = .ok (.iload_n 2, 1) := by decide +kernel
theorem dX3_becomes_33 : decode cX3_becomes 33 = .ok (.bipush 10, 2) := by decide +kernel
theorem dX3_becomes_35 : decode cX3_becomes 35 = .ok (.if_icmp .ge 51, 3) := by decide +kernel
theorem dX3_becomes_38 : decode cX3_becomes 38 = .ok (.aload_n 1, 1) := by decide +kernel
theorem dX3_becomes_39 : decode cX3_becomes 39 = .ok (.getfield 30, 3) := by decide +kernel
theorem dX3_becomes_42 : decode cX3_becomes 42 = .ok (.iload_n 2, 1) := by decide +kernel
theorem dX3_becomes_43 : decode cX3_becomes 43 = .ok (.aaload, 1) := by decide +kernel
theorem dX3_becomes_44 : decode cX3_becomes 44 = .ok (.iconst 0, 1) := by decide +kernel
theorem dX3_becomes_45 : decode cX3_becomes 45 = .ok (.aload_n 0, 1) := by decide +kernel
theorem dX3_becomes_46 : decode cX3_becomes 46 = .ok (.getfield 30, 3) := by decide +kernel
theorem dX3_becomes_49 : decode cX3_becomes 49 = .ok (.iload_n 2, 1) := by decide +kernel
theorem dX3_becomes_50 : decode cX3_becomes 50 = .ok (.aaload, 1) := by decide +kernel
theorem dX3_becomes_51 : decode cX3_becomes 51 = .ok (.iconst 0, 1) := by decide +kernel
theorem dX3_becomes_52 : decode cX3_becomes 52 = .ok (.iconst 5, 1) := by decide +kernel
theorem dX3_becomes_53 : decode cX3_becomes 53 = .ok (.invokestatic 52, 3) := by decide +kernel
theorem dX3_becomes_56 : decode cX3_becomes 56 = .ok (.aload_n 0, 1) := by decide +kernel
theorem dX3_becomes_57 : decode cX3_becomes 57 = .ok (.getfield 33, 3) := by decide +kernel
theorem dX3_becomes_60 : decode cX3_becomes 60 = .ok (.iload_n 2, 1) := by decide +kernel
theorem dX3_becomes_61 : decode cX3_becomes 61 = .ok (.aload_n 1, 1) := by decide +kernel
theorem dX3_becomes_62 : decode cX3_becomes 62 = .ok (.getfield 33, 3) := by decide +kernel
theorem dX3_becomes_65 : decode cX3_becomes 65 = .ok (.iload_n 2, 1) := by decide +kernel
theorem dX3_becomes_66 : decode cX3_becomes 66 = .ok (.iaload, 1) := by decide +kernel
theorem dX3_becomes_67 : decode cX3_becomes 67 = .ok (.iastore, 1) := by decide +kernel
theorem dX3_becomes_68 : decode cX3_becomes 68 = .ok (.aload_n 0, 1) := by decide +kernel
theorem dX3_becomes_69 : decode cX3_becomes 69 = .ok (.getfield 36, 3) := by decide +kernel
theorem dX3_becomes_72 : decode cX3_becomes 72 = .ok (.iload_n 2, 1) := by decide +kernel
theorem dX3_becomes_73 : decode cX3_becomes 73 = .ok (.aload_n 1, 1) := by decide +kernel
theorem dX3_becomes_74 : decode cX3_becomes 74 = .ok (.getfield 36, 3) := by decide +kernel
theorem dX3_becomes_77 : decode cX3_becomes 77 = .ok (.iload_n 2, 1) := by decide +kernel
theorem dX3_becomes_78 : decode cX3_becomes 78 = .ok (.baload, 1) := by decide +kernel
theorem dX3_becomes_79 : decode cX3_becomes 79 = .ok (.bastore, 1) := by decide +kernel
theorem dX3_becomes_80 : decode cX3_becomes 80 = .ok (.iinc 2 1, 3) := by decide +kernel
theorem dX3_becomes_83 : decode cX3_becomes 83 = .ok (.goto (-51), 3) := by decide +kernel
theorem dX3_becomes_86 : decode cX3_becomes 86 = .ok (.aload_n 0, 1) := by decide +kernel
theorem dX3_becomes_87 : decode cX3_becomes 87 = .ok (.aload_n 1, 1) := by decide +kernel
theorem dX3_becomes_88 : decode cX3_becomes 88 = .ok (.getfield 40, 3) := by decide +kernel
theorem dX3_becomes_91 : decode cX3_becomes 91 = .ok (.putfield 40, 3) := by decide +kernel
theorem dX3_becomes_94 : decode cX3_becomes 94 = .ok (.aload_n 1, 1) := by decide +kernel
theorem dX3_becomes_95 : decode cX3_becomes 95 = .ok (.getfield 43, 3) := by decide +kernel
theorem dX3_becomes_98 : decode cX3_becomes 98 = .ok (.iconst 0, 1) := by decide +kernel
theorem dX3_becomes_99 : decode cX3_becomes 99 = .ok (.aload_n 0, 1) := by decide +kernel
theorem dX3_becomes_100 : decode cX3_becomes 100 = .ok (.getfield 43, 3) := by decide +kernel
theorem dX3_becomes_103 : decode cX3_becomes 103 = .ok (.iconst 0, 1) := by decide +kernel
theorem dX3_becomes_104 : decode cX3_becomes 104 = .ok (.iconst 5, 1) := by decide +kernel
theorem dX3_becomes_105 : decode cX3_becomes 105 = .ok (.invokestatic 52, 3) := by decide +kernel
theorem dX3_becomes_108 : decode cX3_becomes 108 = .ok (.aload_n 1, 1) := by decide +kernel
theorem dX3_becomes_109 : decode cX3_becomes 109 = .ok (.getfield 46, 3) := by decide +kernel
theorem dX3_becomes_112 : decode cX3_becomes 112 = .ok (.iconst 0, 1) := by decide +kernel
theorem dX3_becomes_113 : decode cX3_becomes 113 = .ok (.aload_n 0, 1) := by decide +kernel
theorem dX3_becomes_114 : decode cX3_becomes 114 = .ok (.getfield 46, 3) := by decide +kernel
theorem dX3_becomes_117 : decode cX3_becomes 117 = .ok (.iconst 0, 1) := by decide +kernel
theorem dX3_becomes_118 : decode cX3_becomes 118 = .ok (.iconst 5, 1) := by decide +kernel
theorem dX3_becomes_119 : decode cX3_becomes 119 = .ok (.invokestatic 52, 3) := by decide +kernel
theorem dX3_becomes_122 : decode cX3_becomes 122 = .ok (.aload_n 0, 1) := by decide +kernel
theorem dX3_becomes_123 : decode cX3_becomes 123 = .ok (.aload_n 1, 1) := by decide +kernel
theorem dX3_becomes_124 : decode cX3_becomes 124 = .ok (.getfield 49, 3) := by decide +kernel
theorem dX3_becomes_127 : decode cX3_becomes 127 = .ok (.putfield 49, 3) := by decide +kernel
theorem dX3_becomes_130 : decode cX3_becomes 130 = .ok (.return_, 1) := by decide +kernel
theorem dX3_hasKey_0 : decode cX3_hasKey 0 = .ok (.iload_n 1, 1) := by decide +kernel
theorem dX3_hasKey_1 : decode cX3_hasKey 1 = .ok (.ifCond .lt 15, 3) := by decide +kernel
theorem dX3_hasKey_4 : decode cX3_hasKey 4 = .ok (.iload_n 1, 1) := by decide +kernel
theorem dX3_hasKey_5 : decode cX3_hasKey 5 = .ok (.aload_n 0, 1) := by decide +kernel
theorem dX3_hasKey_6 : decode cX3_hasKey 6 = .ok (.getfield 25, 3) := by decide +kernel
theorem dX3_hasKey_9 : decode cX3_hasKey 9 = .ok (.if_icmp .ge 7, 3) := by decide +kernel
theorem dX3_hasKey_12 : decode cX3_hasKey 12 = .ok (.iconst 1, 1) := by decide +kernel
theorem dX3_hasKey_13 : decode cX3_hasKey 13 = .ok (.goto 4, 3) := by decide +kernel
theorem dX3_hasKey_16 : decode cX3_hasKey 16 = .ok (.iconst 0, 1) := by decide +kernel
theorem dX3_hasKey_17 : decode cX3_hasKey 17 = .ok (.ireturn, 1) := by decide +kernel
theorem dX3_hasMachine_0 : decode cX3_hasMachine 0 = .ok (.iload_n 1, 1) := by decide +kernel
theorem dX3_hasMachine_1 : decode cX3_hasMachine 1 = .ok (.ifCond .lt 15, 3) := by decide +kernel
theorem dX3_hasMachine_4 : decode cX3_hasMachine 4 = .ok (.iload_n 1, 1) := by decide +kernel
theorem dX3_hasMachine_5 : decode cX3_hasMachine 5 = .ok (.aload_n 0, 1) := by decide +kernel
theorem dX3_hasMachine_6 : decode cX3_hasMachine 6 = .ok (.getfield 40, 3) := by decide +kernel
theorem dX3_hasMachine_9 : decode cX3_hasMachine 9 = .ok (.if_icmp .ge 7, 3) := by decide +kernel
theorem dX3_hasMachine_12 : decode cX3_hasMachine 12 = .ok (.iconst 1, 1) := by decide +kernel
theorem dX3_hasMachine_13 : decode cX3_hasMachine 13 = .ok (.goto 4, 3) := by decide +kernel
theorem dX3_hasMachine_16 : decode cX3_hasMachine 16 = .ok (.iconst 0, 1) := by decide +kernel
theorem dX3_hasMachine_17 : decode cX3_hasMachine 17 = .ok (.ireturn, 1) := by decide +kernel
theorem dX3_hasWholeKey_0 : decode cX3_hasWholeKey 0 = .ok (.aload_n 0, 1) := by decide +kernel
theorem dX3_hasWholeKey_1 : decode cX3_hasWholeKey 1 = .ok (.iload_n 1, 1) := by decide +kernel
theorem dX3_hasWholeKey_2 : decode cX3_hasWholeKey 2 = .ok (.invokevirtual 58, 3) := by decide +kernel
theorem dX3_hasWholeKey_5 : decode cX3_hasWholeKey 5 = .ok (.ifCond .eq 16, 3) := by decide +kernel
theorem dX3_hasWholeKey_8 : decode cX3_hasWholeKey 8 = .ok (.aload_n 0, 1) := by decide +kernel
theorem dX3_hasWholeKey_9 : decode cX3_hasWholeKey 9 = .ok (.getfield 36, 3) := by decide +kernel
theorem dX3_hasWholeKey_12 : decode cX3_hasWholeKey 12 = .ok (.iload_n 1, 1) := by decide +kernel
theorem dX3_hasWholeKey_13 : decode cX3_hasWholeKey 13 = .ok (.baload, 1) := by decide +kernel
theorem dX3_hasWholeKey_14 : decode cX3_hasWholeKey 14 = .ok (.ifCond .ne 7, 3) := by decide +kernel
theorem dX3_hasWholeKey_17 : decode cX3_hasWholeKey 17 = .ok (.iconst 1, 1) := by decide +kernel
theorem dX3_hasWholeKey_18 : decode cX3_hasWholeKey 18 = .ok (.goto 4, 3) := by decide +kernel
theorem dX3_hasWholeKey_21 : decode cX3_hasWholeKey 21 = .ok (.iconst 0, 1) := by decide +kernel
theorem dX3_hasWholeKey_22 : decode cX3_hasWholeKey 22 = .ok (.ireturn, 1) := by decide +kernel
theorem dX3_addKey_0 : decode cX3_addKey 0 = .ok (.aload_n 0, 1) := by decide +kernel
theorem dX3_addKey_1 : decode cX3_addKey 1 = .ok (.getfield 25, 3) := by decide +kernel
theorem dX3_addKey_4 : decode cX3_addKey 4 = .ok (.bipush 10, 2) := by decide +kernel
theorem dX3_addKey_6 : decode cX3_addKey 6 = .ok (.if_icmp .lt 6, 3) := by decide +kernel
theorem dX3_addKey_9 : decode cX3_addKey 9 = .ok (.bipush (-9), 2) := by decide +kernel
theorem dX3_addKey_11 : decode cX3_addKey 11 = .ok (.ireturn, 1) := by decide +kernel
theorem dX3_addKey_12 : decode cX3_addKey 12 = .ok (.aload_n 0, 1) := by decide +kernel
theorem dX3_addKey_13 : decode cX3_addKey 13 = .ok (.getfield 33, 3) := by decide +kernel
theorem dX3_addKey_16 : decode cX3_addKey 16 = .ok (.aload_n 0, 1) := by decide +kernel
theorem dX3_addKey_17 : decode cX3_addKey 17 = .ok (.getfield 25, 3) := by decide +kernel
theorem dX3_addKey_20 : decode cX3_addKey 20 = .ok (.iload_n 1, 1) := by decide +kernel
theorem dX3_addKey_21 : decode cX3_addKey 21 = .ok (.iastore, 1) := by decide +kernel
theorem dX3_addKey_22 : decode cX3_addKey 22 = .ok (.aload_n 0, 1) := by decide +kernel
theorem dX3_addKey_23 : decode cX3_addKey 23 = .ok (.getfield 36, 3) := by decide +kernel
theorem dX3_addKey_26 : decode cX3_addKey 26 = .ok (.aload_n 0, 1) := by decide +kernel
theorem dX3_addKey_27 : decode cX3_addKey 27 = .ok (.getfield 25, 3) := by decide +kernel
theorem dX3_addKey_30 : decode cX3_addKey 30 = .ok (.iconst 0, 1) := by decide +kernel
theorem dX3_addKey_31 : decode cX3_addKey 31 = .ok (.bastore, 1) := by decide +kernel
theorem dX3_addKey_32 : decode cX3_addKey 32 = .ok (.aload_n 0, 1) := by decide +kernel
theorem dX3_addKey_33 : decode cX3_addKey 33 = .ok (.dup, 1) := by decide +kernel
theorem dX3_addKey_34 : decode cX3_addKey 34 = .ok (.getfield 25, 3) := by decide +kernel
theorem dX3_addKey_37 : decode cX3_addKey 37 = .ok (.iconst 1, 1) := by decide +kernel
theorem dX3_addKey_38 : decode cX3_addKey 38 = .ok (.iadd, 1) := by decide +kernel
theorem dX3_addKey_39 : decode cX3_addKey 39 = .ok (.putfield 25, 3) := by decide +kernel
theorem dX3_addKey_42 : decode cX3_addKey 42 = .ok (.aload_n 0, 1) := by decide +kernel
theorem dX3_addKey_43 : decode cX3_addKey 43 = .ok (.getfield 25, 3) := by decide +kernel
theorem dX3_addKey_46 : decode cX3_addKey 46 = .ok (.iconst 1, 1) := by decide +kernel
theorem dX3_addKey_47 : decode cX3_addKey 47 = .ok (.isub, 1) := by decide +kernel
theorem dX3_addKey_48 : decode cX3_addKey 48 = .ok (.ireturn, 1) := by decide +kernel
theorem dX3_addCopy_0 : decode cX3_addCopy 0 = .ok (.aload_n 0, 1) := by decide +kernel
theorem dX3_addCopy_1 : decode cX3_addCopy 1 = .ok (.iload_n 1, 1) := by decide +kernel
theorem dX3_addCopy_2 : decode cX3_addCopy 2 = .ok (.invokevirtual 58, 3) := by decide +kernel
theorem dX3_addCopy_5 : decode cX3_addCopy 5 = .ok (.ifCond .eq 11, 3) := by decide +kernel
theorem dX3_addCopy_8 : decode cX3_addCopy 8 = .ok (.aload_n 0, 1) := by decide +kernel
theorem dX3_addCopy_9 : decode cX3_addCopy 9 = .ok (.iload_n 2, 1) := by decide +kernel
theorem dX3_addCopy_10 : decode cX3_addCopy 10 = .ok (.invokevirtual 62, 3) := by decide +kernel
theorem dX3_addCopy_13 : decode cX3_addCopy 13 = .ok (.ifCond .ne 6, 3) := by decide +kernel
theorem dX3_addCopy_16 : decode cX3_addCopy 16 = .ok (.bipush (-9), 2) := by decide +kernel
theorem dX3_addCopy_18 : decode cX3_addCopy 18 = .ok (.ireturn, 1) := by decide +kernel
theorem dX3_addCopy_19 : decode cX3_addCopy 19 = .ok (.aload_n 0, 1) := by decide +kernel
theorem dX3_addCopy_20 : decode cX3_addCopy 20 = .ok (.iload_n 1, 1) := by decide +kernel
theorem dX3_addCopy_21 : decode cX3_addCopy 21 = .ok (.invokevirtual 65, 3) := by decide +kernel
theorem dX3_addCopy_24 : decode cX3_addCopy 24 = .ok (.istore_n 3, 1) := by decide +kernel
theorem dX3_addCopy_25 : decode cX3_addCopy 25 = .ok (.iload_n 3, 1) := by decide +kernel
theorem dX3_addCopy_26 : decode cX3_addCopy 26 = .ok (.bipush (-9), 2) := by decide +kernel
theorem dX3_addCopy_28 : decode cX3_addCopy 28 = .ok (.if_icmp .ne 6, 3) := by decide +kernel
theorem dX3_addCopy_31 : decode cX3_addCopy 31 = .ok (.bipush (-9), 2) := by decide +kernel
theorem dX3_addCopy_33 : decode cX3_addCopy 33 = .ok (.ireturn, 1) := by decide +kernel
theorem dX3_addCopy_34 : decode cX3_addCopy 34 = .ok (.iconst 0, 1) := by decide +kernel
theorem dX3_addCopy_35 : decode cX3_addCopy 35 = .ok (.istore 4, 2) := by decide +kernel
theorem dX3_addCopy_37 : decode cX3_addCopy 37 = .ok (.iload 4, 2) := by decide +kernel
theorem dX3_addCopy_39 : decode cX3_addCopy 39 = .ok (.iconst 5, 1) := by decide +kernel
theorem dX3_addCopy_40 : decode cX3_addCopy 40 = .ok (.if_icmp .ge 34, 3) := by decide +kernel
theorem dX3_addCopy_43 : decode cX3_addCopy 43 = .ok (.aload_n 0, 1) := by decide +kernel
theorem dX3_addCopy_44 : decode cX3_addCopy 44 = .ok (.getfield 30, 3) := by decide +kernel
theorem dX3_addCopy_47 : decode cX3_addCopy 47 = .ok (.iload_n 3, 1) := by decide +kernel
theorem dX3_addCopy_48 : decode cX3_addCopy 48 = .ok (.aaload, 1) := by decide +kernel
theorem dX3_addCopy_49 : decode cX3_addCopy 49 = .ok (.iload 4, 2) := by decide +kernel
theorem dX3_addCopy_51 : decode cX3_addCopy 51 = .ok (.aload_n 0, 1) := by decide +kernel
theorem dX3_addCopy_52 : decode cX3_addCopy 52 = .ok (.iload_n 2, 1) := by decide +kernel
theorem dX3_addCopy_53 : decode cX3_addCopy 53 = .ok (.aload_n 0, 1) := by decide +kernel
theorem dX3_addCopy_54 : decode cX3_addCopy 54 = .ok (.getfield 30, 3) := by decide +kernel
theorem dX3_addCopy_57 : decode cX3_addCopy 57 = .ok (.iload_n 1, 1) := by decide +kernel
theorem dX3_addCopy_58 : decode cX3_addCopy 58 = .ok (.aaload, 1) := by decide +kernel
theorem dX3_addCopy_59 : decode cX3_addCopy 59 = .ok (.iload 4, 2) := by decide +kernel
theorem dX3_addCopy_61 : decode cX3_addCopy 61 = .ok (.iaload, 1) := by decide +kernel
theorem dX3_addCopy_62 : decode cX3_addCopy 62 = .ok (.iload 4, 2) := by decide +kernel
theorem dX3_addCopy_64 : decode cX3_addCopy 64 = .ok (.invokevirtual 69, 3) := by decide +kernel
theorem dX3_addCopy_67 : decode cX3_addCopy 67 = .ok (.iastore, 1) := by decide +kernel
theorem dX3_addCopy_68 : decode cX3_addCopy 68 = .ok (.iinc 4 1, 3) := by decide +kernel
theorem dX3_addCopy_71 : decode cX3_addCopy 71 = .ok (.goto (-34), 3) := by decide +kernel
theorem dX3_addCopy_74 : decode cX3_addCopy 74 = .ok (.iload_n 3, 1) := by decide +kernel
theorem dX3_addCopy_75 : decode cX3_addCopy 75 = .ok (.ireturn, 1) := by decide +kernel
theorem dX3_addMachine_0 : decode cX3_addMachine 0 = .ok (.aload_n 0, 1) := by decide +kernel
theorem dX3_addMachine_1 : decode cX3_addMachine 1 = .ok (.getfield 40, 3) := by decide +kernel
theorem dX3_addMachine_4 : decode cX3_addMachine 4 = .ok (.iconst 5, 1) := by decide +kernel
theorem dX3_addMachine_5 : decode cX3_addMachine 5 = .ok (.if_icmp .lt 5, 3) := by decide +kernel
theorem dX3_addMachine_8 : decode cX3_addMachine 8 = .ok (.iconst 0, 1) := by decide +kernel
theorem dX3_addMachine_9 : decode cX3_addMachine 9 = .ok (.ireturn, 1) := by decide +kernel
theorem dX3_addMachine_10 : decode cX3_addMachine 10 = .ok (.aload_n 0, 1) := by decide +kernel
theorem dX3_addMachine_11 : decode cX3_addMachine 11 = .ok (.getfield 43, 3) := by decide +kernel
theorem dX3_addMachine_14 : decode cX3_addMachine 14 = .ok (.aload_n 0, 1) := by decide +kernel
theorem dX3_addMachine_15 : decode cX3_addMachine 15 = .ok (.getfield 40, 3) := by decide +kernel
theorem dX3_addMachine_18 : decode cX3_addMachine 18 = .ok (.iload_n 1, 1) := by decide +kernel
theorem dX3_addMachine_19 : decode cX3_addMachine 19 = .ok (.iastore, 1) := by decide +kernel
theorem dX3_addMachine_20 : decode cX3_addMachine 20 = .ok (.aload_n 0, 1) := by decide +kernel
theorem dX3_addMachine_21 : decode cX3_addMachine 21 = .ok (.getfield 46, 3) := by decide +kernel
theorem dX3_addMachine_24 : decode cX3_addMachine 24 = .ok (.aload_n 0, 1) := by decide +kernel
theorem dX3_addMachine_25 : decode cX3_addMachine 25 = .ok (.getfield 40, 3) := by decide +kernel
theorem dX3_addMachine_28 : decode cX3_addMachine 28 = .ok (.iload_n 2, 1) := by decide +kernel
theorem dX3_addMachine_29 : decode cX3_addMachine 29 = .ok (.iastore, 1) := by decide +kernel
theorem dX3_addMachine_30 : decode cX3_addMachine 30 = .ok (.aload_n 0, 1) := by decide +kernel
theorem dX3_addMachine_31 : decode cX3_addMachine 31 = .ok (.dup, 1) := by decide +kernel
theorem dX3_addMachine_32 : decode cX3_addMachine 32 = .ok (.getfield 40, 3) := by decide +kernel
theorem dX3_addMachine_35 : decode cX3_addMachine 35 = .ok (.iconst 1, 1) := by decide +kernel
theorem dX3_addMachine_36 : decode cX3_addMachine 36 = .ok (.iadd, 1) := by decide +kernel
theorem dX3_addMachine_37 : decode cX3_addMachine 37 = .ok (.putfield 40, 3) := by decide +kernel
theorem dX3_addMachine_40 : decode cX3_addMachine 40 = .ok (.iconst 1, 1) := by decide +kernel
theorem dX3_addMachine_41 : decode cX3_addMachine 41 = .ok (.ireturn, 1) := by decide +kernel
theorem dX3_cutBy_0 : decode cX3_cutBy 0 = .ok (.aload_n 0, 1) := by decide +kernel
theorem dX3_cutBy_1 : decode cX3_cutBy 1 = .ok (.getfield 43, 3) := by decide +kernel
theorem dX3_cutBy_4 : decode cX3_cutBy 4 = .ok (.iload_n 1, 1) := by decide +kernel
theorem dX3_cutBy_5 : decode cX3_cutBy 5 = .ok (.iaload, 1) := by decide +kernel
theorem dX3_cutBy_6 : decode cX3_cutBy 6 = .ok (.aload_n 0, 1) := by decide +kernel
theorem dX3_cutBy_7 : decode cX3_cutBy 7 = .ok (.getfield 46, 3) := by decide +kernel
theorem dX3_cutBy_10 : decode cX3_cutBy 10 = .ok (.iload_n 1, 1) := by decide +kernel
theorem dX3_cutBy_11 : decode cX3_cutBy 11 = .ok (.iaload, 1) := by decide +kernel
theorem dX3_cutBy_12 : decode cX3_cutBy 12 = .ok (.iload_n 2, 1) := by decide +kernel
theorem dX3_cutBy_13 : decode cX3_cutBy 13 = .ok (.iload_n 3, 1) := by decide +kernel
theorem dX3_cutBy_14 : decode cX3_cutBy 14 = .ok (.invokestatic 73, 3) := by decide +kernel
theorem dX3_cutBy_17 : decode cX3_cutBy 17 = .ok (.ireturn, 1) := by decide +kernel
theorem dX3_wear_0 : decode cX3_wear 0 = .ok (.iconst 0, 1) := by decide +kernel
theorem dX3_wear_1 : decode cX3_wear 1 = .ok (.istore_n 3, 1) := by decide +kernel
theorem dX3_wear_2 : decode cX3_wear 2 = .ok (.iload_n 3, 1) := by decide +kernel
theorem dX3_wear_3 : decode cX3_wear 3 = .ok (.iconst 5, 1) := by decide +kernel
theorem dX3_wear_4 : decode cX3_wear 4 = .ok (.if_icmp .ge 45, 3) := by decide +kernel
theorem dX3_wear_7 : decode cX3_wear 7 = .ok (.aload_n 0, 1) := by decide +kernel
theorem dX3_wear_8 : decode cX3_wear 8 = .ok (.getfield 30, 3) := by decide +kernel
theorem dX3_wear_11 : decode cX3_wear 11 = .ok (.iload_n 1, 1) := by decide +kernel
theorem dX3_wear_12 : decode cX3_wear 12 = .ok (.aaload, 1) := by decide +kernel
theorem dX3_wear_13 : decode cX3_wear 13 = .ok (.iload_n 3, 1) := by decide +kernel
theorem dX3_wear_14 : decode cX3_wear 14 = .ok (.aload_n 0, 1) := by decide +kernel
theorem dX3_wear_15 : decode cX3_wear 15 = .ok (.getfield 30, 3) := by decide +kernel
theorem dX3_wear_18 : decode cX3_wear 18 = .ok (.iload_n 1, 1) := by decide +kernel
theorem dX3_wear_19 : decode cX3_wear 19 = .ok (.aaload, 1) := by decide +kernel
theorem dX3_wear_20 : decode cX3_wear 20 = .ok (.iload_n 3, 1) := by decide +kernel
theorem dX3_wear_21 : decode cX3_wear 21 = .ok (.iaload, 1) := by decide +kernel
theorem dX3_wear_22 : decode cX3_wear 22 = .ok (.iload_n 2, 1) := by decide +kernel
theorem dX3_wear_23 : decode cX3_wear 23 = .ok (.invokestatic 79, 3) := by decide +kernel
theorem dX3_wear_26 : decode cX3_wear 26 = .ok (.iastore, 1) := by decide +kernel
theorem dX3_wear_27 : decode cX3_wear 27 = .ok (.aload_n 0, 1) := by decide +kernel
theorem dX3_wear_28 : decode cX3_wear 28 = .ok (.getfield 9, 3) := by decide +kernel
theorem dX3_wear_31 : decode cX3_wear 31 = .ok (.iload_n 3, 1) := by decide +kernel
theorem dX3_wear_32 : decode cX3_wear 32 = .ok (.aload_n 0, 1) := by decide +kernel
theorem dX3_wear_33 : decode cX3_wear 33 = .ok (.getfield 9, 3) := by decide +kernel
theorem dX3_wear_36 : decode cX3_wear 36 = .ok (.iload_n 3, 1) := by decide +kernel
theorem dX3_wear_37 : decode cX3_wear 37 = .ok (.iaload, 1) := by decide +kernel
theorem dX3_wear_38 : decode cX3_wear 38 = .ok (.iload_n 2, 1) := by decide +kernel
theorem dX3_wear_39 : decode cX3_wear 39 = .ok (.invokestatic 83, 3) := by decide +kernel
theorem dX3_wear_42 : decode cX3_wear 42 = .ok (.iastore, 1) := by decide +kernel
theorem dX3_wear_43 : decode cX3_wear 43 = .ok (.iinc 3 1, 3) := by decide +kernel
theorem dX3_wear_46 : decode cX3_wear 46 = .ok (.goto (-44), 3) := by decide +kernel
theorem dX3_wear_49 : decode cX3_wear 49 = .ok (.aload_n 0, 1) := by decide +kernel
theorem dX3_wear_50 : decode cX3_wear 50 = .ok (.dup, 1) := by decide +kernel
theorem dX3_wear_51 : decode cX3_wear 51 = .ok (.getfield 49, 3) := by decide +kernel
theorem dX3_wear_54 : decode cX3_wear 54 = .ok (.iload_n 2, 1) := by decide +kernel
theorem dX3_wear_55 : decode cX3_wear 55 = .ok (.iadd, 1) := by decide +kernel
theorem dX3_wear_56 : decode cX3_wear 56 = .ok (.putfield 49, 3) := by decide +kernel
theorem dX3_wear_59 : decode cX3_wear 59 = .ok (.return_, 1) := by decide +kernel
theorem dX3_wornHeight_0 : decode cX3_wornHeight 0 = .ok (.iconst 0, 1) := by decide +kernel
theorem dX3_wornHeight_1 : decode cX3_wornHeight 1 = .ok (.iload_n 0, 1) := by decide +kernel
theorem dX3_wornHeight_2 : decode cX3_wornHeight 2 = .ok (.iload_n 1, 1) := by decide +kernel
theorem dX3_wornHeight_3 : decode cX3_wornHeight 3 = .ok (.bipush 10, 2) := by decide +kernel
theorem dX3_wornHeight_5 : decode cX3_wornHeight 5 = .ok (.idiv, 1) := by decide +kernel
theorem dX3_wornHeight_6 : decode cX3_wornHeight 6 = .ok (.isub, 1) := by decide +kernel
theorem dX3_wornHeight_7 : decode cX3_wornHeight 7 = .ok (.invokestatic 86, 3) := by decide +kernel
theorem dX3_wornHeight_10 : decode cX3_wornHeight 10 = .ok (.ireturn, 1) := by decide +kernel
theorem dX3_wornPin_0 : decode cX3_wornPin 0 = .ok (.iconst 0, 1) := by decide +kernel
theorem dX3_wornPin_1 : decode cX3_wornPin 1 = .ok (.iload_n 0, 1) := by decide +kernel
theorem dX3_wornPin_2 : decode cX3_wornPin 2 = .ok (.iload_n 1, 1) := by decide +kernel
theorem dX3_wornPin_3 : decode cX3_wornPin 3 = .ok (.bipush 20, 2) := by decide +kernel
theorem dX3_wornPin_5 : decode cX3_wornPin 5 = .ok (.idiv, 1) := by decide +kernel
theorem dX3_wornPin_6 : decode cX3_wornPin 6 = .ok (.isub, 1) := by decide +kernel
theorem dX3_wornPin_7 : decode cX3_wornPin 7 = .ok (.invokestatic 86, 3) := by decide +kernel
theorem dX3_wornPin_10 : decode cX3_wornPin 10 = .ok (.ireturn, 1) := by decide +kernel
theorem dX3_opens_0 : decode cX3_opens 0 = .ok (.aload_n 0, 1) := by decide +kernel
theorem dX3_opens_1 : decode cX3_opens 1 = .ok (.getfield 36, 3) := by decide +kernel
theorem dX3_opens_4 : decode cX3_opens 4 = .ok (.iload_n 1, 1) := by decide +kernel
theorem dX3_opens_5 : decode cX3_opens 5 = .ok (.baload, 1) := by decide +kernel
theorem dX3_opens_6 : decode cX3_opens 6 = .ok (.ifCond .ne 20, 3) := by decide +kernel
theorem dX3_opens_9 : decode cX3_opens 9 = .ok (.aload_n 0, 1) := by decide +kernel
theorem dX3_opens_10 : decode cX3_opens 10 = .ok (.aload_n 0, 1) := by decide +kernel
theorem dX3_opens_11 : decode cX3_opens 11 = .ok (.getfield 30, 3) := by decide +kernel
theorem dX3_opens_14 : decode cX3_opens 14 = .ok (.iload_n 1, 1) := by decide +kernel
theorem dX3_opens_15 : decode cX3_opens 15 = .ok (.aaload, 1) := by decide +kernel
theorem dX3_opens_16 : decode cX3_opens 16 = .ok (.invokevirtual 91, 3) := by decide +kernel
theorem dX3_opens_19 : decode cX3_opens 19 = .ok (.ifCond .eq 7, 3) := by decide +kernel
theorem dX3_opens_22 : decode cX3_opens 22 = .ok (.iconst 1, 1) := by decide +kernel
theorem dX3_opens_23 : decode cX3_opens 23 = .ok (.goto 4, 3) := by decide +kernel
theorem dX3_opens_26 : decode cX3_opens 26 = .ok (.iconst 0, 1) := by decide +kernel
theorem dX3_opens_27 : decode cX3_opens 27 = .ok (.ireturn, 1) := by decide +kernel
theorem dX3_fits_0 : decode cX3_fits 0 = .ok (.aload_n 0, 1) := by decide +kernel
theorem dX3_fits_1 : decode cX3_fits 1 = .ok (.aload_n 1, 1) := by decide +kernel
theorem dX3_fits_2 : decode cX3_fits 2 = .ok (.invokevirtual 95, 3) := by decide +kernel
theorem dX3_fits_5 : decode cX3_fits 5 = .ok (.bipush (-9), 2) := by decide +kernel
theorem dX3_fits_7 : decode cX3_fits 7 = .ok (.if_icmp .ne 7, 3) := by decide +kernel
theorem dX3_fits_10 : decode cX3_fits 10 = .ok (.iconst 1, 1) := by decide +kernel
theorem dX3_fits_11 : decode cX3_fits 11 = .ok (.goto 4, 3) := by decide +kernel
theorem dX3_fits_14 : decode cX3_fits 14 = .ok (.iconst 0, 1) := by decide +kernel
theorem dX3_fits_15 : decode cX3_fits 15 = .ok (.ireturn, 1) := by decide +kernel
theorem dX3_leastTooFar_0 : decode cX3_leastTooFar 0 = .ok (.iconst 0, 1) := by decide +kernel
theorem dX3_leastTooFar_1 : decode cX3_leastTooFar 1 = .ok (.istore_n 2, 1) := by decide +kernel
theorem dX3_leastTooFar_2 : decode cX3_leastTooFar 2 = .ok (.iload_n 2, 1) := by decide +kernel
theorem dX3_leastTooFar_3 : decode cX3_leastTooFar 3 = .ok (.iconst 5, 1) := by decide +kernel
theorem dX3_leastTooFar_4 : decode cX3_leastTooFar 4 = .ok (.if_icmp .ge 31, 3) := by decide +kernel
theorem dX3_leastTooFar_7 : decode cX3_leastTooFar 7 = .ok (.aload_n 1, 1) := by decide +kernel
theorem dX3_leastTooFar_8 : decode cX3_leastTooFar 8 = .ok (.iload_n 2, 1) := by decide +kernel
theorem dX3_leastTooFar_9 : decode cX3_leastTooFar 9 = .ok (.iaload, 1) := by decide +kernel
theorem dX3_leastTooFar_10 : decode cX3_leastTooFar 10 = .ok (.aload_n 0, 1) := by decide +kernel
theorem dX3_leastTooFar_11 : decode cX3_leastTooFar 11 = .ok (.getfield 9, 3) := by decide +kernel
theorem dX3_leastTooFar_14 : decode cX3_leastTooFar 14 = .ok (.iload_n 2, 1) := by decide +kernel
theorem dX3_leastTooFar_15 : decode cX3_leastTooFar 15 = .ok (.iaload, 1) := by decide +kernel
theorem dX3_leastTooFar_16 : decode cX3_leastTooFar 16 = .ok (.isub, 1) := by decide +kernel
theorem dX3_leastTooFar_17 : decode cX3_leastTooFar 17 = .ok (.invokestatic 99, 3) := by decide +kernel
theorem dX3_leastTooFar_20 : decode cX3_leastTooFar 20 = .ok (.aload_n 0, 1) := by decide +kernel
theorem dX3_leastTooFar_21 : decode cX3_leastTooFar 21 = .ok (.getfield 21, 3) := by decide +kernel
theorem dX3_leastTooFar_24 : decode cX3_leastTooFar 24 = .ok (.if_icmp .le 5, 3) := by decide +kernel
theorem dX3_leastTooFar_27 : decode cX3_leastTooFar 27 = .ok (.iload_n 2, 1) := by decide +kernel
theorem dX3_leastTooFar_28 : decode cX3_leastTooFar 28 = .ok (.ireturn, 1) := by decide +kernel
theorem dX3_leastTooFar_29 : decode cX3_leastTooFar 29 = .ok (.iinc 2 1, 3) := by decide +kernel
theorem dX3_leastTooFar_32 : decode cX3_leastTooFar 32 = .ok (.goto (-30), 3) := by decide +kernel
theorem dX3_leastTooFar_35 : decode cX3_leastTooFar 35 = .ok (.bipush (-9), 2) := by decide +kernel
theorem dX3_leastTooFar_37 : decode cX3_leastTooFar 37 = .ok (.ireturn, 1) := by decide +kernel
theorem dX3_wiggleOf_0 : decode cX3_wiggleOf 0 = .ok (.iconst 0, 1) := by decide +kernel
theorem dX3_wiggleOf_1 : decode cX3_wiggleOf 1 = .ok (.istore_n 2, 1) := by decide +kernel
theorem dX3_wiggleOf_2 : decode cX3_wiggleOf 2 = .ok (.iconst 0, 1) := by decide +kernel
theorem dX3_wiggleOf_3 : decode cX3_wiggleOf 3 = .ok (.istore_n 3, 1) := by decide +kernel
theorem dX3_wiggleOf_4 : decode cX3_wiggleOf 4 = .ok (.iload_n 3, 1) := by decide +kernel
theorem dX3_wiggleOf_5 : decode cX3_wiggleOf 5 = .ok (.iconst 5, 1) := by decide +kernel
theorem dX3_wiggleOf_6 : decode cX3_wiggleOf 6 = .ok (.if_icmp .ge 25, 3) := by decide +kernel
theorem dX3_wiggleOf_9 : decode cX3_wiggleOf 9 = .ok (.iload_n 2, 1) := by decide +kernel
theorem dX3_wiggleOf_10 : decode cX3_wiggleOf 10 = .ok (.aload_n 1, 1) := by decide +kernel
theorem dX3_wiggleOf_11 : decode cX3_wiggleOf 11 = .ok (.iload_n 3, 1) := by decide +kernel
theorem dX3_wiggleOf_12 : decode cX3_wiggleOf 12 = .ok (.iaload, 1) := by decide +kernel
theorem dX3_wiggleOf_13 : decode cX3_wiggleOf 13 = .ok (.aload_n 0, 1) := by decide +kernel
theorem dX3_wiggleOf_14 : decode cX3_wiggleOf 14 = .ok (.getfield 9, 3) := by decide +kernel
theorem dX3_wiggleOf_17 : decode cX3_wiggleOf 17 = .ok (.iload_n 3, 1) := by decide +kernel
theorem dX3_wiggleOf_18 : decode cX3_wiggleOf 18 = .ok (.iaload, 1) := by decide +kernel
theorem dX3_wiggleOf_19 : decode cX3_wiggleOf 19 = .ok (.isub, 1) := by decide +kernel
theorem dX3_wiggleOf_20 : decode cX3_wiggleOf 20 = .ok (.invokestatic 99, 3) := by decide +kernel
theorem dX3_wiggleOf_23 : decode cX3_wiggleOf 23 = .ok (.iadd, 1) := by decide +kernel
theorem dX3_wiggleOf_24 : decode cX3_wiggleOf 24 = .ok (.istore_n 2, 1) := by decide +kernel
theorem dX3_wiggleOf_25 : decode cX3_wiggleOf 25 = .ok (.iinc 3 1, 3) := by decide +kernel
theorem dX3_wiggleOf_28 : decode cX3_wiggleOf 28 = .ok (.goto (-24), 3) := by decide +kernel
theorem dX3_wiggleOf_31 : decode cX3_wiggleOf 31 = .ok (.iload_n 2, 1) := by decide +kernel
theorem dX3_wiggleOf_32 : decode cX3_wiggleOf 32 = .ok (.ireturn, 1) := by decide +kernel
theorem dX3_worstTooth_0 : decode cX3_worstTooth 0 = .ok (.iconst 0, 1) := by decide +kernel
theorem dX3_worstTooth_1 : decode cX3_worstTooth 1 = .ok (.istore_n 2, 1) := by decide +kernel
theorem dX3_worstTooth_2 : decode cX3_worstTooth 2 = .ok (.iconst 1, 1) := by decide +kernel
theorem dX3_worstTooth_3 : decode cX3_worstTooth 3 = .ok (.istore_n 3, 1) := by decide +kernel
theorem dX3_worstTooth_4 : decode cX3_worstTooth 4 = .ok (.iload_n 3, 1) := by decide +kernel
theorem dX3_worstTooth_5 : decode cX3_worstTooth 5 = .ok (.iconst 5, 1) := by decide +kernel
theorem dX3_worstTooth_6 : decode cX3_worstTooth 6 = .ok (.if_icmp .ge 40, 3) := by decide +kernel
theorem dX3_worstTooth_9 : decode cX3_worstTooth 9 = .ok (.aload_n 1, 1) := by decide +kernel
theorem dX3_worstTooth_10 : decode cX3_worstTooth 10 = .ok (.iload_n 3, 1) := by decide +kernel
theorem dX3_worstTooth_11 : decode cX3_worstTooth 11 = .ok (.iaload, 1) := by decide +kernel
theorem dX3_worstTooth_12 : decode cX3_worstTooth 12 = .ok (.aload_n 0, 1) := by decide +kernel
theorem dX3_worstTooth_13 : decode cX3_worstTooth 13 = .ok (.getfield 9, 3) := by decide +kernel
theorem dX3_worstTooth_16 : decode cX3_worstTooth 16 = .ok (.iload_n 3, 1) := by decide +kernel
theorem dX3_worstTooth_17 : decode cX3_worstTooth 17 = .ok (.iaload, 1) := by decide +kernel
theorem dX3_worstTooth_18 : decode cX3_worstTooth 18 = .ok (.isub, 1) := by decide +kernel
theorem dX3_worstTooth_19 : decode cX3_worstTooth 19 = .ok (.invokestatic 99, 3) := by decide +kernel
theorem dX3_worstTooth_22 : decode cX3_worstTooth 22 = .ok (.aload_n 1, 1) := by decide +kernel
theorem dX3_worstTooth_23 : decode cX3_worstTooth 23 = .ok (.iload_n 2, 1) := by decide +kernel
theorem dX3_worstTooth_24 : decode cX3_worstTooth 24 = .ok (.iaload, 1) := by decide +kernel
theorem dX3_worstTooth_25 : decode cX3_worstTooth 25 = .ok (.aload_n 0, 1) := by decide +kernel
theorem dX3_worstTooth_26 : decode cX3_worstTooth 26 = .ok (.getfield 9, 3) := by decide +kernel
theorem dX3_worstTooth_29 : decode cX3_worstTooth 29 = .ok (.iload_n 2, 1) := by decide +kernel
theorem dX3_worstTooth_30 : decode cX3_worstTooth 30 = .ok (.iaload, 1) := by decide +kernel
theorem dX3_worstTooth_31 : decode cX3_worstTooth 31 = .ok (.isub, 1) := by decide +kernel
theorem dX3_worstTooth_32 : decode cX3_worstTooth 32 = .ok (.invokestatic 99, 3) := by decide +kernel
theorem dX3_worstTooth_35 : decode cX3_worstTooth 35 = .ok (.if_icmp .le 5, 3) := by decide +kernel
theorem dX3_worstTooth_38 : decode cX3_worstTooth 38 = .ok (.iload_n 3, 1) := by decide +kernel
theorem dX3_worstTooth_39 : decode cX3_worstTooth 39 = .ok (.istore_n 2, 1) := by decide +kernel
theorem dX3_worstTooth_40 : decode cX3_worstTooth 40 = .ok (.iinc 3 1, 3) := by decide +kernel
theorem dX3_worstTooth_43 : decode cX3_worstTooth 43 = .ok (.goto (-39), 3) := by decide +kernel
theorem dX3_worstTooth_46 : decode cX3_worstTooth 46 = .ok (.iload_n 2, 1) := by decide +kernel
theorem dX3_worstTooth_47 : decode cX3_worstTooth 47 = .ok (.ireturn, 1) := by decide +kernel
theorem dX3_allKeysBits_0 : decode cX3_allKeysBits 0 = .ok (.iconst 1, 1) := by decide +kernel
theorem dX3_allKeysBits_1 : decode cX3_allKeysBits 1 = .ok (.aload_n 0, 1) := by decide +kernel
theorem dX3_allKeysBits_2 : decode cX3_allKeysBits 2 = .ok (.getfield 25, 3) := by decide +kernel
theorem dX3_allKeysBits_5 : decode cX3_allKeysBits 5 = .ok (.ishl, 1) := by decide +kernel
theorem dX3_allKeysBits_6 : decode cX3_allKeysBits 6 = .ok (.iconst 1, 1) := by decide +kernel
theorem dX3_allKeysBits_7 : decode cX3_allKeysBits 7 = .ok (.isub, 1) := by decide +kernel
theorem dX3_allKeysBits_8 : decode cX3_allKeysBits 8 = .ok (.ireturn, 1) := by decide +kernel
theorem dX3_openingBits_0 : decode cX3_openingBits 0 = .ok (.iconst 0, 1) := by decide +kernel
theorem dX3_openingBits_1 : decode cX3_openingBits 1 = .ok (.istore_n 1, 1) := by decide +kernel
theorem dX3_openingBits_2 : decode cX3_openingBits 2 = .ok (.iconst 0, 1) := by decide +kernel
theorem dX3_openingBits_3 : decode cX3_openingBits 3 = .ok (.istore_n 2, 1) := by decide +kernel
theorem dX3_openingBits_4 : decode cX3_openingBits 4 = .ok (.iload_n 2, 1) := by decide +kernel
theorem dX3_openingBits_5 : decode cX3_openingBits 5 = .ok (.aload_n 0, 1) := by decide +kernel
theorem dX3_openingBits_6 : decode cX3_openingBits 6 = .ok (.getfield 25, 3) := by decide +kernel
theorem dX3_openingBits_9 : decode cX3_openingBits 9 = .ok (.if_icmp .ge 27, 3) := by decide +kernel
theorem dX3_openingBits_12 : decode cX3_openingBits 12 = .ok (.iload_n 1, 1) := by decide +kernel
theorem dX3_openingBits_13 : decode cX3_openingBits 13 = .ok (.aload_n 0, 1) := by decide +kernel
theorem dX3_openingBits_14 : decode cX3_openingBits 14 = .ok (.iload_n 2, 1) := by decide +kernel
theorem dX3_openingBits_15 : decode cX3_openingBits 15 = .ok (.invokevirtual 102, 3) := by decide +kernel
theorem dX3_openingBits_18 : decode cX3_openingBits 18 = .ok (.ifCond .eq 9, 3) := by decide +kernel
theorem dX3_openingBits_21 : decode cX3_openingBits 21 = .ok (.iconst 1, 1) := by decide +kernel
theorem dX3_openingBits_22 : decode cX3_openingBits 22 = .ok (.iload_n 2, 1) := by decide +kernel
theorem dX3_openingBits_23 : decode cX3_openingBits 23 = .ok (.ishl, 1) := by decide +kernel
theorem dX3_openingBits_24 : decode cX3_openingBits 24 = .ok (.goto 4, 3) := by decide +kernel
theorem dX3_openingBits_27 : decode cX3_openingBits 27 = .ok (.iconst 0, 1) := by decide +kernel
theorem dX3_openingBits_28 : decode cX3_openingBits 28 = .ok (.ior, 1) := by decide +kernel
theorem dX3_openingBits_29 : decode cX3_openingBits 29 = .ok (.istore_n 1, 1) := by decide +kernel
theorem dX3_openingBits_30 : decode cX3_openingBits 30 = .ok (.iinc 2 1, 3) := by decide +kernel
theorem dX3_openingBits_33 : decode cX3_openingBits 33 = .ok (.goto (-29), 3) := by decide +kernel
theorem dX3_openingBits_36 : decode cX3_openingBits 36 = .ok (.iload_n 1, 1) := by decide +kernel
theorem dX3_openingBits_37 : decode cX3_openingBits 37 = .ok (.ireturn, 1) := by decide +kernel
theorem dX3_snappedBits_0 : decode cX3_snappedBits 0 = .ok (.iconst 0, 1) := by decide +kernel
theorem dX3_snappedBits_1 : decode cX3_snappedBits 1 = .ok (.istore_n 1, 1) := by decide +kernel
theorem dX3_snappedBits_2 : decode cX3_snappedBits 2 = .ok (.iconst 0, 1) := by decide +kernel
theorem dX3_snappedBits_3 : decode cX3_snappedBits 3 = .ok (.istore_n 2, 1) := by decide +kernel
theorem dX3_snappedBits_4 : decode cX3_snappedBits 4 = .ok (.iload_n 2, 1) := by decide +kernel
theorem dX3_snappedBits_5 : decode cX3_snappedBits 5 = .ok (.aload_n 0, 1) := by decide +kernel
theorem dX3_snappedBits_6 : decode cX3_snappedBits 6 = .ok (.getfield 25, 3) := by decide +kernel
theorem dX3_snappedBits_9 : decode cX3_snappedBits 9 = .ok (.if_icmp .ge 28, 3) := by decide +kernel
theorem dX3_snappedBits_12 : decode cX3_snappedBits 12 = .ok (.iload_n 1, 1) := by decide +kernel
theorem dX3_snappedBits_13 : decode cX3_snappedBits 13 = .ok (.aload_n 0, 1) := by decide +kernel
theorem dX3_snappedBits_14 : decode cX3_snappedBits 14 = .ok (.getfield 36, 3) := by decide +kernel
theorem dX3_snappedBits_17 : decode cX3_snappedBits 17 = .ok (.iload_n 2, 1) := by decide +kernel
theorem dX3_snappedBits_18 : decode cX3_snappedBits 18 = .ok (.baload, 1) := by decide +kernel
theorem dX3_snappedBits_19 : decode cX3_snappedBits 19 = .ok (.ifCond .eq 9, 3) := by decide +kernel
theorem dX3_snappedBits_22 : decode cX3_snappedBits 22 = .ok (.iconst 1, 1) := by decide +kernel
theorem dX3_snappedBits_23 : decode cX3_snappedBits 23 = .ok (.iload_n 2, 1) := by decide +kernel
theorem dX3_snappedBits_24 : decode cX3_snappedBits 24 = .ok (.ishl, 1) := by decide +kernel
theorem dX3_snappedBits_25 : decode cX3_snappedBits 25 = .ok (.goto 4, 3) := by decide +kernel
theorem dX3_snappedBits_28 : decode cX3_snappedBits 28 = .ok (.iconst 0, 1) := by decide +kernel
theorem dX3_snappedBits_29 : decode cX3_snappedBits 29 = .ok (.ior, 1) := by decide +kernel
theorem dX3_snappedBits_30 : decode cX3_snappedBits 30 = .ok (.istore_n 1, 1) := by decide +kernel
theorem dX3_snappedBits_31 : decode cX3_snappedBits 31 = .ok (.iinc 2 1, 3) := by decide +kernel
theorem dX3_snappedBits_34 : decode cX3_snappedBits 34 = .ok (.goto (-30), 3) := by decide +kernel
theorem dX3_snappedBits_37 : decode cX3_snappedBits 37 = .ok (.iload_n 1, 1) := by decide +kernel
theorem dX3_snappedBits_38 : decode cX3_snappedBits 38 = .ok (.ireturn, 1) := by decide +kernel
theorem dX3_nearestKey_0 : decode cX3_nearestKey 0 = .ok (.aload_n 0, 1) := by decide +kernel
theorem dX3_nearestKey_1 : decode cX3_nearestKey 1 = .ok (.aload_n 0, 1) := by decide +kernel
theorem dX3_nearestKey_2 : decode cX3_nearestKey 2 = .ok (.invokevirtual 105, 3) := by decide +kernel
theorem dX3_nearestKey_5 : decode cX3_nearestKey 5 = .ok (.aload_n 0, 1) := by decide +kernel
theorem dX3_nearestKey_6 : decode cX3_nearestKey 6 = .ok (.invokevirtual 109, 3) := by decide +kernel
theorem dX3_nearestKey_9 : decode cX3_nearestKey 9 = .ok (.iconst (-1), 1) := by decide +kernel
theorem dX3_nearestKey_10 : decode cX3_nearestKey 10 = .ok (.ixor, 1) := by decide +kernel
theorem dX3_nearestKey_11 : decode cX3_nearestKey 11 = .ok (.iand, 1) := by decide +kernel
theorem dX3_nearestKey_12 : decode cX3_nearestKey 12 = .ok (.invokevirtual 112, 3) := by decide +kernel
theorem dX3_nearestKey_15 : decode cX3_nearestKey 15 = .ok (.ireturn, 1) := by decide +kernel
theorem dX3_leastWiggleOf_0 : decode cX3_leastWiggleOf 0 = .ok (.bipush (-9), 2) := by decide +kernel
theorem dX3_leastWiggleOf_2 : decode cX3_leastWiggleOf 2 = .ok (.istore_n 2, 1) := by decide +kernel
theorem dX3_leastWiggleOf_3 : decode cX3_leastWiggleOf 3 = .ok (.iconst 0, 1) := by decide +kernel
theorem dX3_leastWiggleOf_4 : decode cX3_leastWiggleOf 4 = .ok (.istore_n 3, 1) := by decide +kernel
theorem dX3_leastWiggleOf_5 : decode cX3_leastWiggleOf 5 = .ok (.iconst 0, 1) := by decide +kernel
theorem dX3_leastWiggleOf_6 : decode cX3_leastWiggleOf 6 = .ok (.istore 4, 2) := by decide +kernel
theorem dX3_leastWiggleOf_8 : decode cX3_leastWiggleOf 8 = .ok (.iload 4, 2) := by decide +kernel
theorem dX3_leastWiggleOf_10 : decode cX3_leastWiggleOf 10 = .ok (.aload_n 0, 1) := by decide +kernel
theorem dX3_leastWiggleOf_11 : decode cX3_leastWiggleOf 11 = .ok (.getfield 25, 3) := by decide +kernel
theorem dX3_leastWiggleOf_14 : decode cX3_leastWiggleOf 14 = .ok (.if_icmp .ge 52, 3) := by decide +kernel
theorem dX3_leastWiggleOf_17 : decode cX3_leastWiggleOf 17 = .ok (.iload_n 1, 1) := by decide +kernel
theorem dX3_leastWiggleOf_18 : decode cX3_leastWiggleOf 18 = .ok (.iload 4, 2) := by decide +kernel
theorem dX3_leastWiggleOf_20 : decode cX3_leastWiggleOf 20 = .ok (.invokestatic 115, 3) := by decide +kernel
theorem dX3_leastWiggleOf_23 : decode cX3_leastWiggleOf 23 = .ok (.ifCond .ne 6, 3) := by decide +kernel
theorem dX3_leastWiggleOf_26 : decode cX3_leastWiggleOf 26 = .ok (.goto 34, 3) := by decide +kernel
theorem dX3_leastWiggleOf_29 : decode cX3_leastWiggleOf 29 = .ok (.aload_n 0, 1) := by decide +kernel
theorem dX3_leastWiggleOf_30 : decode cX3_leastWiggleOf 30 = .ok (.aload_n 0, 1) := by decide +kernel
theorem dX3_leastWiggleOf_31 : decode cX3_leastWiggleOf 31 = .ok (.getfield 30, 3) := by decide +kernel
theorem dX3_leastWiggleOf_34 : decode cX3_leastWiggleOf 34 = .ok (.iload 4, 2) := by decide +kernel
theorem dX3_leastWiggleOf_36 : decode cX3_leastWiggleOf 36 = .ok (.aaload, 1) := by decide +kernel
theorem dX3_leastWiggleOf_37 : decode cX3_leastWiggleOf 37 = .ok (.invokevirtual 119, 3) := by decide +kernel
theorem dX3_leastWiggleOf_40 : decode cX3_leastWiggleOf 40 = .ok (.istore 5, 2) := by decide +kernel
theorem dX3_leastWiggleOf_42 : decode cX3_leastWiggleOf 42 = .ok (.iload_n 2, 1) := by decide +kernel
theorem dX3_leastWiggleOf_43 : decode cX3_leastWiggleOf 43 = .ok (.bipush (-9), 2) := by decide +kernel
theorem dX3_leastWiggleOf_45 : decode cX3_leastWiggleOf 45 = .ok (.if_icmp .eq 9, 3) := by decide +kernel
theorem dX3_leastWiggleOf_48 : decode cX3_leastWiggleOf 48 = .ok (.iload 5, 2) := by decide +kernel
theorem dX3_leastWiggleOf_50 : decode cX3_leastWiggleOf 50 = .ok (.iload_n 3, 1) := by decide +kernel
theorem dX3_leastWiggleOf_51 : decode cX3_leastWiggleOf 51 = .ok (.if_icmp .ge 9, 3) := by decide +kernel
theorem dX3_leastWiggleOf_54 : decode cX3_leastWiggleOf 54 = .ok (.iload 4, 2) := by decide +kernel
theorem dX3_leastWiggleOf_56 : decode cX3_leastWiggleOf 56 = .ok (.istore_n 2, 1) := by decide +kernel
theorem dX3_leastWiggleOf_57 : decode cX3_leastWiggleOf 57 = .ok (.iload 5, 2) := by decide +kernel
theorem dX3_leastWiggleOf_59 : decode cX3_leastWiggleOf 59 = .ok (.istore_n 3, 1) := by decide +kernel
theorem dX3_leastWiggleOf_60 : decode cX3_leastWiggleOf 60 = .ok (.iinc 4 1, 3) := by decide +kernel
theorem dX3_leastWiggleOf_63 : decode cX3_leastWiggleOf 63 = .ok (.goto (-55), 3) := by decide +kernel
theorem dX3_leastWiggleOf_66 : decode cX3_leastWiggleOf 66 = .ok (.iload_n 2, 1) := by decide +kernel
theorem dX3_leastWiggleOf_67 : decode cX3_leastWiggleOf 67 = .ok (.ireturn, 1) := by decide +kernel
theorem dX4_init_0 : decode cX4_init 0 = .ok (.aload_n 0, 1) := by decide +kernel
theorem dX4_init_1 : decode cX4_init 1 = .ok (.invokespecial 3, 3) := by decide +kernel
theorem dX4_init_4 : decode cX4_init 4 = .ok (.aload_n 0, 1) := by decide +kernel
theorem dX4_init_5 : decode cX4_init 5 = .ok (.bipush 96, 2) := by decide +kernel
theorem dX4_init_7 : decode cX4_init 7 = .ok (.newarray .int, 2) := by decide +kernel
theorem dX4_init_9 : decode cX4_init 9 = .ok (.putfield 9, 3) := by decide +kernel
theorem dX4_init_12 : decode cX4_init 12 = .ok (.aload_n 0, 1) := by decide +kernel
theorem dX4_init_13 : decode cX4_init 13 = .ok (.iconst 0, 1) := by decide +kernel
theorem dX4_init_14 : decode cX4_init 14 = .ok (.putfield 15, 3) := by decide +kernel
theorem dX4_init_17 : decode cX4_init 17 = .ok (.return_, 1) := by decide +kernel
theorem dX4_size_0 : decode cX4_size 0 = .ok (.aload_n 0, 1) := by decide +kernel
theorem dX4_size_1 : decode cX4_size 1 = .ok (.getfield 15, 3) := by decide +kernel
theorem dX4_size_4 : decode cX4_size 4 = .ok (.ireturn, 1) := by decide +kernel
theorem dX4_isFull_0 : decode cX4_isFull 0 = .ok (.aload_n 0, 1) := by decide +kernel
theorem dX4_isFull_1 : decode cX4_isFull 1 = .ok (.getfield 15, 3) := by decide +kernel
theorem dX4_isFull_4 : decode cX4_isFull 4 = .ok (.bipush 96, 2) := by decide +kernel
theorem dX4_isFull_6 : decode cX4_isFull 6 = .ok (.if_icmp .lt 7, 3) := by decide +kernel
theorem dX4_isFull_9 : decode cX4_isFull 9 = .ok (.iconst 1, 1) := by decide +kernel
theorem dX4_isFull_10 : decode cX4_isFull 10 = .ok (.goto 4, 3) := by decide +kernel
theorem dX4_isFull_13 : decode cX4_isFull 13 = .ok (.iconst 0, 1) := by decide +kernel
theorem dX4_isFull_14 : decode cX4_isFull 14 = .ok (.ireturn, 1) := by decide +kernel
theorem dX4_take_0 : decode cX4_take 0 = .ok (.aload_n 0, 1) := by decide +kernel
theorem dX4_take_1 : decode cX4_take 1 = .ok (.getfield 15, 3) := by decide +kernel
theorem dX4_take_4 : decode cX4_take 4 = .ok (.bipush 96, 2) := by decide +kernel
theorem dX4_take_6 : decode cX4_take 6 = .ok (.if_icmp .ge 23, 3) := by decide +kernel
theorem dX4_take_9 : decode cX4_take 9 = .ok (.aload_n 0, 1) := by decide +kernel
theorem dX4_take_10 : decode cX4_take 10 = .ok (.getfield 9, 3) := by decide +kernel
theorem dX4_take_13 : decode cX4_take 13 = .ok (.aload_n 0, 1) := by decide +kernel
theorem dX4_take_14 : decode cX4_take 14 = .ok (.getfield 15, 3) := by decide +kernel
theorem dX4_take_17 : decode cX4_take 17 = .ok (.iload_n 1, 1) := by decide +kernel
theorem dX4_take_18 : decode cX4_take 18 = .ok (.iastore, 1) := by decide +kernel
theorem dX4_take_19 : decode cX4_take 19 = .ok (.aload_n 0, 1) := by decide +kernel
theorem dX4_take_20 : decode cX4_take 20 = .ok (.dup, 1) := by decide +kernel
theorem dX4_take_21 : decode cX4_take 21 = .ok (.getfield 15, 3) := by decide +kernel
theorem dX4_take_24 : decode cX4_take 24 = .ok (.iconst 1, 1) := by decide +kernel
theorem dX4_take_25 : decode cX4_take 25 = .ok (.iadd, 1) := by decide +kernel
theorem dX4_take_26 : decode cX4_take 26 = .ok (.putfield 15, 3) := by decide +kernel
theorem dX4_take_29 : decode cX4_take 29 = .ok (.aload_n 0, 1) := by decide +kernel
theorem dX4_take_30 : decode cX4_take 30 = .ok (.getfield 15, 3) := by decide +kernel
theorem dX4_take_33 : decode cX4_take 33 = .ok (.ireturn, 1) := by decide +kernel
theorem dX4_forget_0 : decode cX4_forget 0 = .ok (.aload_n 0, 1) := by decide +kernel
theorem dX4_forget_1 : decode cX4_forget 1 = .ok (.iconst 0, 1) := by decide +kernel
theorem dX4_forget_2 : decode cX4_forget 2 = .ok (.putfield 15, 3) := by decide +kernel
theorem dX4_forget_5 : decode cX4_forget 5 = .ok (.return_, 1) := by decide +kernel
theorem dX4_misshapenPlace_0 : decode cX4_misshapenPlace 0 = .ok (.aload_n 0, 1) := by decide +kernel
theorem dX4_misshapenPlace_1 : decode cX4_misshapenPlace 1 = .ok (.getfield 15, 3) := by decide +kernel
theorem dX4_misshapenPlace_4 : decode cX4_misshapenPlace 4 = .ok (.ifCond .ne 5, 3) := by decide +kernel
theorem dX4_misshapenPlace_7 : decode cX4_misshapenPlace 7 = .ok (.iconst 0, 1) := by decide +kernel
theorem dX4_misshapenPlace_8 : decode cX4_misshapenPlace 8 = .ok (.ireturn, 1) := by decide +kernel
theorem dX4_misshapenPlace_9 : decode cX4_misshapenPlace 9 = .ok (.iconst 0, 1) := by decide +kernel
theorem dX4_misshapenPlace_10 : decode cX4_misshapenPlace 10 = .ok (.istore_n 1, 1) := by decide +kernel
theorem dX4_misshapenPlace_11 : decode cX4_misshapenPlace 11 = .ok (.iload_n 1, 1) := by decide +kernel
theorem dX4_misshapenPlace_12 : decode cX4_misshapenPlace 12 = .ok (.aload_n 0, 1) := by decide +kernel
theorem dX4_misshapenPlace_13 : decode cX4_misshapenPlace 13 = .ok (.getfield 15, 3) := by decide +kernel
theorem dX4_misshapenPlace_16 : decode cX4_misshapenPlace 16 = .ok (.if_icmp .ge 74, 3) := by decide +kernel
theorem dX4_misshapenPlace_19 : decode cX4_misshapenPlace 19 = .ok (.aload_n 0, 1) := by decide +kernel
theorem dX4_misshapenPlace_20 : decode cX4_misshapenPlace 20 = .ok (.getfield 9, 3) := by decide +kernel
theorem dX4_misshapenPlace_23 : decode cX4_misshapenPlace 23 = .ok (.iload_n 1, 1) := by decide +kernel
theorem dX4_misshapenPlace_24 : decode cX4_misshapenPlace 24 = .ok (.iaload, 1) := by decide +kernel
theorem dX4_misshapenPlace_25 : decode cX4_misshapenPlace 25 = .ok (.invokestatic 19, 3) := by decide +kernel
theorem dX4_misshapenPlace_28 : decode cX4_misshapenPlace 28 = .ok (.astore_n 2, 1) := by decide +kernel
theorem dX4_misshapenPlace_29 : decode cX4_misshapenPlace 29 = .ok (.aload_n 2, 1) := by decide +kernel
theorem dX4_misshapenPlace_30 : decode cX4_misshapenPlace 30 = .ok (.invokevirtual 23, 3) := by decide +kernel
theorem dX4_misshapenPlace_33 : decode cX4_misshapenPlace 33 = .ok (.ifCond .eq 5, 3) := by decide +kernel
theorem dX4_misshapenPlace_36 : decode cX4_misshapenPlace 36 = .ok (.iload_n 1, 1) := by decide +kernel
theorem dX4_misshapenPlace_37 : decode cX4_misshapenPlace 37 = .ok (.ireturn, 1) := by decide +kernel
theorem dX4_misshapenPlace_38 : decode cX4_misshapenPlace 38 = .ok (.iinc 1 1, 3) := by decide +kernel
theorem dX4_misshapenPlace_41 : decode cX4_misshapenPlace 41 = .ok (.iconst 0, 1) := by decide +kernel
theorem dX4_misshapenPlace_42 : decode cX4_misshapenPlace 42 = .ok (.istore_n 3, 1) := by decide +kernel
theorem dX4_misshapenPlace_43 : decode cX4_misshapenPlace 43 = .ok (.iload_n 3, 1) := by decide +kernel
theorem dX4_misshapenPlace_44 : decode cX4_misshapenPlace 44 = .ok (.aload_n 2, 1) := by decide +kernel
theorem dX4_misshapenPlace_45 : decode cX4_misshapenPlace 45 = .ok (.invokevirtual 29, 3) := by decide +kernel
theorem dX4_misshapenPlace_48 : decode cX4_misshapenPlace 48 = .ok (.if_icmp .ge 39, 3) := by decide +kernel
theorem dX4_misshapenPlace_51 : decode cX4_misshapenPlace 51 = .ok (.iload_n 1, 1) := by decide +kernel
theorem dX4_misshapenPlace_52 : decode cX4_misshapenPlace 52 = .ok (.aload_n 0, 1) := by decide +kernel
theorem dX4_misshapenPlace_53 : decode cX4_misshapenPlace 53 = .ok (.getfield 15, 3) := by decide +kernel
theorem dX4_misshapenPlace_56 : decode cX4_misshapenPlace 56 = .ok (.if_icmp .ge 20, 3) := by decide +kernel
theorem dX4_misshapenPlace_59 : decode cX4_misshapenPlace 59 = .ok (.aload_n 2, 1) := by decide +kernel
theorem dX4_misshapenPlace_60 : decode cX4_misshapenPlace 60 = .ok (.iload_n 3, 1) := by decide +kernel
theorem dX4_misshapenPlace_61 : decode cX4_misshapenPlace 61 = .ok (.invokevirtual 33, 3) := by decide +kernel
theorem dX4_misshapenPlace_64 : decode cX4_misshapenPlace 64 = .ok (.aload_n 0, 1) := by decide +kernel
theorem dX4_misshapenPlace_65 : decode cX4_misshapenPlace 65 = .ok (.getfield 9, 3) := by decide +kernel
theorem dX4_misshapenPlace_68 : decode cX4_misshapenPlace 68 = .ok (.iload_n 1, 1) := by decide +kernel
theorem dX4_misshapenPlace_69 : decode cX4_misshapenPlace 69 = .ok (.iaload, 1) := by decide +kernel
theorem dX4_misshapenPlace_70 : decode cX4_misshapenPlace 70 = .ok (.invokestatic 37, 3) := by decide +kernel
theorem dX4_misshapenPlace_73 : decode cX4_misshapenPlace 73 = .ok (.ifCond .ne 5, 3) := by decide +kernel
theorem dX4_misshapenPlace_76 : decode cX4_misshapenPlace 76 = .ok (.iload_n 1, 1) := by decide +kernel
theorem dX4_misshapenPlace_77 : decode cX4_misshapenPlace 77 = .ok (.ireturn, 1) := by decide +kernel
theorem dX4_misshapenPlace_78 : decode cX4_misshapenPlace 78 = .ok (.iinc 1 1, 3) := by decide +kernel
theorem dX4_misshapenPlace_81 : decode cX4_misshapenPlace 81 = .ok (.iinc 3 1, 3) := by decide +kernel
theorem dX4_misshapenPlace_84 : decode cX4_misshapenPlace 84 = .ok (.goto (-41), 3) := by decide +kernel
theorem dX4_misshapenPlace_87 : decode cX4_misshapenPlace 87 = .ok (.goto (-76), 3) := by decide +kernel
theorem dX4_misshapenPlace_90 : decode cX4_misshapenPlace 90 = .ok (.bipush (-9), 2) := by decide +kernel
theorem dX4_misshapenPlace_92 : decode cX4_misshapenPlace 92 = .ok (.ireturn, 1) := by decide +kernel
theorem dX4_happenIn_0 : decode cX4_happenIn 0 = .ok (.iconst 0, 1) := by decide +kernel
theorem dX4_happenIn_1 : decode cX4_happenIn 1 = .ok (.istore_n 2, 1) := by decide +kernel
theorem dX4_happenIn_2 : decode cX4_happenIn 2 = .ok (.iconst 0, 1) := by decide +kernel
theorem dX4_happenIn_3 : decode cX4_happenIn 3 = .ok (.istore_n 3, 1) := by decide +kernel
theorem dX4_happenIn_4 : decode cX4_happenIn 4 = .ok (.iload_n 3, 1) := by decide +kernel
theorem dX4_happenIn_5 : decode cX4_happenIn 5 = .ok (.aload_n 0, 1) := by decide +kernel
theorem dX4_happenIn_6 : decode cX4_happenIn 6 = .ok (.getfield 15, 3) := by decide +kernel
theorem dX4_happenIn_9 : decode cX4_happenIn 9 = .ok (.if_icmp .ge 41, 3) := by decide +kernel
theorem dX4_happenIn_12 : decode cX4_happenIn 12 = .ok (.aload_n 0, 1) := by decide +kernel
theorem dX4_happenIn_13 : decode cX4_happenIn 13 = .ok (.aload_n 1, 1) := by decide +kernel
theorem dX4_happenIn_14 : decode cX4_happenIn 14 = .ok (.iload_n 3, 1) := by decide +kernel
theorem dX4_happenIn_15 : decode cX4_happenIn 15 = .ok (.invokevirtual 41, 3) := by decide +kernel
theorem dX4_happenIn_18 : decode cX4_happenIn 18 = .ok (.ifCond .ne 9, 3) := by decide +kernel
theorem dX4_happenIn_21 : decode cX4_happenIn 21 = .ok (.sipush (-2000), 3) := by decide +kernel
theorem dX4_happenIn_24 : decode cX4_happenIn 24 = .ok (.iload_n 3, 1) := by decide +kernel
theorem dX4_happenIn_25 : decode cX4_happenIn 25 = .ok (.isub, 1) := by decide +kernel
theorem dX4_happenIn_26 : decode cX4_happenIn 26 = .ok (.ireturn, 1) := by decide +kernel
theorem dX4_happenIn_27 : decode cX4_happenIn 27 = .ok (.iinc 2 1, 3) := by decide +kernel
theorem dX4_happenIn_30 : decode cX4_happenIn 30 = .ok (.iload_n 3, 1) := by decide +kernel
theorem dX4_happenIn_31 : decode cX4_happenIn 31 = .ok (.iconst 1, 1) := by decide +kernel
theorem dX4_happenIn_32 : decode cX4_happenIn 32 = .ok (.aload_n 0, 1) := by decide +kernel
theorem dX4_happenIn_33 : decode cX4_happenIn 33 = .ok (.getfield 9, 3) := by decide +kernel
theorem dX4_happenIn_36 : decode cX4_happenIn 36 = .ok (.iload_n 3, 1) := by decide +kernel
theorem dX4_happenIn_37 : decode cX4_happenIn 37 = .ok (.iaload, 1) := by decide +kernel
theorem dX4_happenIn_38 : decode cX4_happenIn 38 = .ok (.invokestatic 19, 3) := by decide +kernel
theorem dX4_happenIn_41 : decode cX4_happenIn 41 = .ok (.invokevirtual 29, 3) := by decide +kernel
theorem dX4_happenIn_44 : decode cX4_happenIn 44 = .ok (.iadd, 1) := by decide +kernel
theorem dX4_happenIn_45 : decode cX4_happenIn 45 = .ok (.iadd, 1) := by decide +kernel
theorem dX4_happenIn_46 : decode cX4_happenIn 46 = .ok (.istore_n 3, 1) := by decide +kernel
theorem dX4_happenIn_47 : decode cX4_happenIn 47 = .ok (.goto (-43), 3) := by decide +kernel
theorem dX4_happenIn_50 : decode cX4_happenIn 50 = .ok (.iload_n 2, 1) := by decide +kernel
theorem dX4_happenIn_51 : decode cX4_happenIn 51 = .ok (.ireturn, 1) := by decide +kernel
theorem dX4_happens_0 : decode cX4_happens 0 = .ok (.aload_n 0, 1) := by decide +kernel
theorem dX4_happens_1 : decode cX4_happens 1 = .ok (.iload_n 2, 1) := by decide +kernel
theorem dX4_happens_2 : decode cX4_happens 2 = .ok (.iconst 1, 1) := by decide +kernel
theorem dX4_happens_3 : decode cX4_happens 3 = .ok (.iadd, 1) := by decide +kernel
theorem dX4_happens_4 : decode cX4_happens 4 = .ok (.invokevirtual 45, 3) := by decide +kernel
theorem dX4_happens_7 : decode cX4_happens 7 = .ok (.istore_n 3, 1) := by decide +kernel
theorem dX4_happens_8 : decode cX4_happens 8 = .ok (.aload_n 0, 1) := by decide +kernel
theorem dX4_happens_9 : decode cX4_happens 9 = .ok (.iload_n 2, 1) := by decide +kernel
theorem dX4_happens_10 : decode cX4_happens 10 = .ok (.invokevirtual 49, 3) := by decide +kernel
theorem dX4_happens_13 : decode cX4_happens 13 = .ok (.tableswitch 201 99 120 #[144, 201, 201, 201, 201, 201, 201, 201, 116, 103, 125, 201, 201, 201, 201, 201, 188, 201, 175, 201, 201, 195], 103) := by decide +kernel
theorem dX4_happens_116 : decode cX4_happens 116 = .ok (.aload_n 0, 1) := by decide +kernel
theorem dX4_happens_117 : decode cX4_happens 117 = .ok (.iload_n 2, 1) := by decide +kernel
theorem dX4_happens_118 : decode cX4_happens 118 = .ok (.iconst 1, 1) := by decide +kernel
theorem dX4_happens_119 : decode cX4_happens 119 = .ok (.iadd, 1) := by decide +kernel
theorem dX4_happens_120 : decode cX4_happens 120 = .ok (.aload_n 1, 1) := by decide +kernel
theorem dX4_happens_121 : decode cX4_happens 121 = .ok (.getfield 52, 3) := by decide +kernel
theorem dX4_happens_124 : decode cX4_happens 124 = .ok (.invokevirtual 57, 3) := by decide +kernel
theorem dX4_happens_127 : decode cX4_happens 127 = .ok (.iconst 1, 1) := by decide +kernel
theorem dX4_happens_128 : decode cX4_happens 128 = .ok (.ireturn, 1) := by decide +kernel
theorem dX4_happens_129 : decode cX4_happens 129 = .ok (.aload_n 0, 1) := by decide +kernel
theorem dX4_happens_130 : decode cX4_happens 130 = .ok (.aload_n 1, 1) := by decide +kernel
theorem dX4_happens_131 : decode cX4_happens 131 = .ok (.iload_n 2, 1) := by decide +kernel
theorem dX4_happens_132 : decode cX4_happens 132 = .ok (.iconst 1, 1) := by decide +kernel
theorem dX4_happens_133 : decode cX4_happens 133 = .ok (.iadd, 1) := by decide +kernel
theorem dX4_happens_134 : decode cX4_happens 134 = .ok (.invokevirtual 61, 3) := by decide +kernel
theorem dX4_happens_137 : decode cX4_happens 137 = .ok (.ireturn, 1) := by decide +kernel
theorem dX4_happens_138 : decode cX4_happens 138 = .ok (.aload_n 1, 1) := by decide +kernel
theorem dX4_happens_139 : decode cX4_happens 139 = .ok (.aload_n 0, 1) := by decide +kernel
theorem dX4_happens_140 : decode cX4_happens 140 = .ok (.iload_n 2, 1) := by decide +kernel
theorem dX4_happens_141 : decode cX4_happens 141 = .ok (.iconst 1, 1) := by decide +kernel
theorem dX4_happens_142 : decode cX4_happens 142 = .ok (.iadd, 1) := by decide +kernel
theorem dX4_happens_143 : decode cX4_happens 143 = .ok (.invokevirtual 64, 3) := by decide +kernel
theorem dX4_happens_146 : decode cX4_happens 146 = .ok (.aload_n 0, 1) := by decide +kernel
theorem dX4_happens_147 : decode cX4_happens 147 = .ok (.iload_n 2, 1) := by decide +kernel
theorem dX4_happens_148 : decode cX4_happens 148 = .ok (.iconst 2, 1) := by decide +kernel
theorem dX4_happens_149 : decode cX4_happens 149 = .ok (.iadd, 1) := by decide +kernel
theorem dX4_happens_150 : decode cX4_happens 150 = .ok (.invokevirtual 45, 3) := by decide +kernel
theorem dX4_happens_153 : decode cX4_happens 153 = .ok (.invokevirtual 67, 3) := by decide +kernel
theorem dX4_happens_156 : decode cX4_happens 156 = .ok (.ireturn, 1) := by decide +kernel
theorem dX4_happens_157 : decode cX4_happens 157 = .ok (.aload_n 1, 1) := by decide +kernel
theorem dX4_happens_158 : decode cX4_happens 158 = .ok (.iload_n 3, 1) := by decide +kernel
theorem dX4_happens_159 : decode cX4_happens 159 = .ok (.invokevirtual 71, 3) := by decide +kernel
theorem dX4_happens_162 : decode cX4_happens 162 = .ok (.ifCond .eq 24, 3) := by decide +kernel
theorem dX4_happens_165 : decode cX4_happens 165 = .ok (.aload_n 1, 1) := by decide +kernel
theorem dX4_happens_166 : decode cX4_happens 166 = .ok (.iload_n 3, 1) := by decide +kernel
theorem dX4_happens_167 : decode cX4_happens 167 = .ok (.aload_n 0, 1) := by decide +kernel
theorem dX4_happens_168 : decode cX4_happens 168 = .ok (.iload_n 2, 1) := by decide +kernel
theorem dX4_happens_169 : decode cX4_happens 169 = .ok (.iconst 2, 1) := by decide +kernel
theorem dX4_happens_170 : decode cX4_happens 170 = .ok (.iadd, 1) := by decide +kernel
theorem dX4_happens_171 : decode cX4_happens 171 = .ok (.invokevirtual 45, 3) := by decide +kernel
theorem dX4_happens_174 : decode cX4_happens 174 = .ok (.invokevirtual 75, 3) := by decide +kernel
theorem dX4_happens_177 : decode cX4_happens 177 = .ok (.bipush (-9), 2) := by decide +kernel
theorem dX4_happens_179 : decode cX4_happens 179 = .ok (.if_icmp .eq 7, 3) := by decide +kernel
theorem dX4_happens_182 : decode cX4_happens 182 = .ok (.iconst 1, 1) := by decide +kernel
theorem dX4_happens_183 : decode cX4_happens 183 = .ok (.goto 4, 3) := by decide +kernel
theorem dX4_happens_186 : decode cX4_happens 186 = .ok (.iconst 0, 1) := by decide +kernel
theorem dX4_happens_187 : decode cX4_happens 187 = .ok (.ireturn, 1) := by decide +kernel
theorem dX4_happens_188 : decode cX4_happens 188 = .ok (.aload_n 1, 1) := by decide +kernel
theorem dX4_happens_189 : decode cX4_happens 189 = .ok (.iload_n 3, 1) := by decide +kernel
theorem dX4_happens_190 : decode cX4_happens 190 = .ok (.aload_n 0, 1) := by decide +kernel
theorem dX4_happens_191 : decode cX4_happens 191 = .ok (.iload_n 2, 1) := by decide +kernel
theorem dX4_happens_192 : decode cX4_happens 192 = .ok (.iconst 2, 1) := by decide +kernel
theorem dX4_happens_193 : decode cX4_happens 193 = .ok (.iadd, 1) := by decide +kernel
theorem dX4_happens_194 : decode cX4_happens 194 = .ok (.invokevirtual 79, 3) := by decide +kernel
theorem dX4_happens_197 : decode cX4_happens 197 = .ok (.invokestatic 82, 3) := by decide +kernel
theorem dX4_happens_200 : decode cX4_happens 200 = .ok (.ireturn, 1) := by decide +kernel
theorem dX4_happens_201 : decode cX4_happens 201 = .ok (.aload_n 1, 1) := by decide +kernel
theorem dX4_happens_202 : decode cX4_happens 202 = .ok (.iload_n 3, 1) := by decide +kernel
theorem dX4_happens_203 : decode cX4_happens 203 = .ok (.putfield 86, 3) := by decide +kernel
theorem dX4_happens_206 : decode cX4_happens 206 = .ok (.iconst 1, 1) := by decide +kernel
theorem dX4_happens_207 : decode cX4_happens 207 = .ok (.ireturn, 1) := by decide +kernel
theorem dX4_happens_208 : decode cX4_happens 208 = .ok (.aload_n 1, 1) := by decide +kernel
theorem dX4_happens_209 : decode cX4_happens 209 = .ok (.iload_n 3, 1) := by decide +kernel
theorem dX4_happens_210 : decode cX4_happens 210 = .ok (.invokestatic 89, 3) := by decide +kernel
theorem dX4_happens_213 : decode cX4_happens 213 = .ok (.ireturn, 1) := by decide +kernel
theorem dX4_happens_214 : decode cX4_happens 214 = .ok (.iconst 0, 1) := by decide +kernel
theorem dX4_happens_215 : decode cX4_happens 215 = .ok (.ireturn, 1) := by decide +kernel
theorem dX4_keyComes_0 : decode cX4_keyComes 0 = .ok (.aload_n 1, 1) := by decide +kernel
theorem dX4_keyComes_1 : decode cX4_keyComes 1 = .ok (.bipush (-9), 2) := by decide +kernel
theorem dX4_keyComes_3 : decode cX4_keyComes 3 = .ok (.invokevirtual 92, 3) := by decide +kernel
theorem dX4_keyComes_6 : decode cX4_keyComes 6 = .ok (.istore_n 3, 1) := by decide +kernel
theorem dX4_keyComes_7 : decode cX4_keyComes 7 = .ok (.iload_n 3, 1) := by decide +kernel
theorem dX4_keyComes_8 : decode cX4_keyComes 8 = .ok (.bipush (-9), 2) := by decide +kernel
theorem dX4_keyComes_10 : decode cX4_keyComes 10 = .ok (.if_icmp .ne 5, 3) := by decide +kernel
theorem dX4_keyComes_13 : decode cX4_keyComes 13 = .ok (.iconst 0, 1) := by decide +kernel
theorem dX4_keyComes_14 : decode cX4_keyComes 14 = .ok (.ireturn, 1) := by decide +kernel
theorem dX4_keyComes_15 : decode cX4_keyComes 15 = .ok (.aload_n 0, 1) := by decide +kernel
theorem dX4_keyComes_16 : decode cX4_keyComes 16 = .ok (.iload_n 2, 1) := by decide +kernel
theorem dX4_keyComes_17 : decode cX4_keyComes 17 = .ok (.aload_n 1, 1) := by decide +kernel
theorem dX4_keyComes_18 : decode cX4_keyComes 18 = .ok (.getfield 95, 3) := by decide +kernel
theorem dX4_keyComes_21 : decode cX4_keyComes 21 = .ok (.iload_n 3, 1) := by decide +kernel
theorem dX4_keyComes_22 : decode cX4_keyComes 22 = .ok (.aaload, 1) := by decide +kernel
theorem dX4_keyComes_23 : decode cX4_keyComes 23 = .ok (.invokevirtual 57, 3) := by decide +kernel
theorem dX4_keyComes_26 : decode cX4_keyComes 26 = .ok (.iconst 1, 1) := by decide +kernel
theorem dX4_keyComes_27 : decode cX4_keyComes 27 = .ok (.ireturn, 1) := by decide +kernel
theorem dX4_isUsed_0 : decode cX4_isUsed 0 = .ok (.aload_n 0, 1) := by decide +kernel
theorem dX4_isUsed_1 : decode cX4_isUsed 1 = .ok (.iload_n 1, 1) := by decide +kernel
theorem dX4_isUsed_2 : decode cX4_isUsed 2 = .ok (.invokevirtual 71, 3) := by decide +kernel
theorem dX4_isUsed_5 : decode cX4_isUsed 5 = .ok (.ifCond .eq 15, 3) := by decide +kernel
theorem dX4_isUsed_8 : decode cX4_isUsed 8 = .ok (.aload_n 0, 1) := by decide +kernel
theorem dX4_isUsed_9 : decode cX4_isUsed 9 = .ok (.getfield 99, 3) := by decide +kernel
theorem dX4_isUsed_12 : decode cX4_isUsed 12 = .ok (.iload_n 2, 1) := by decide +kernel
theorem dX4_isUsed_13 : decode cX4_isUsed 13 = .ok (.iadd, 1) := by decide +kernel
theorem dX4_isUsed_14 : decode cX4_isUsed 14 = .ok (.sipush 9999, 3) := by decide +kernel
theorem dX4_isUsed_17 : decode cX4_isUsed 17 = .ok (.if_icmp .le 5, 3) := by decide +kernel
theorem dX4_isUsed_20 : decode cX4_isUsed 20 = .ok (.iconst 0, 1) := by decide +kernel
theorem dX4_isUsed_21 : decode cX4_isUsed 21 = .ok (.ireturn, 1) := by decide +kernel
theorem dX4_isUsed_22 : decode cX4_isUsed 22 = .ok (.aload_n 0, 1) := by decide +kernel
theorem dX4_isUsed_23 : decode cX4_isUsed 23 = .ok (.iload_n 1, 1) := by decide +kernel
theorem dX4_isUsed_24 : decode cX4_isUsed 24 = .ok (.iload_n 2, 1) := by decide +kernel
theorem dX4_isUsed_25 : decode cX4_isUsed 25 = .ok (.invokevirtual 102, 3) := by decide +kernel
theorem dX4_isUsed_28 : decode cX4_isUsed 28 = .ok (.iconst 1, 1) := by decide +kernel
theorem dX4_isUsed_29 : decode cX4_isUsed 29 = .ok (.ireturn, 1) := by decide +kernel
theorem dX4_isSnapped_0 : decode cX4_isSnapped 0 = .ok (.aload_n 0, 1) := by decide +kernel
theorem dX4_isSnapped_1 : decode cX4_isSnapped 1 = .ok (.iload_n 1, 1) := by decide +kernel
theorem dX4_isSnapped_2 : decode cX4_isSnapped 2 = .ok (.invokevirtual 71, 3) := by decide +kernel
theorem dX4_isSnapped_5 : decode cX4_isSnapped 5 = .ok (.ifCond .ne 5, 3) := by decide +kernel
theorem dX4_isSnapped_8 : decode cX4_isSnapped 8 = .ok (.iconst 0, 1) := by decide +kernel
theorem dX4_isSnapped_9 : decode cX4_isSnapped 9 = .ok (.ireturn, 1) := by decide +kernel
theorem dX4_isSnapped_10 : decode cX4_isSnapped 10 = .ok (.aload_n 0, 1) := by decide +kernel
theorem dX4_isSnapped_11 : decode cX4_isSnapped 11 = .ok (.getfield 106, 3) := by decide +kernel
theorem dX4_isSnapped_14 : decode cX4_isSnapped 14 = .ok (.iload_n 1, 1) := by decide +kernel
theorem dX4_isSnapped_15 : decode cX4_isSnapped 15 = .ok (.iconst 1, 1) := by decide +kernel
theorem dX4_isSnapped_16 : decode cX4_isSnapped 16 = .ok (.bastore, 1) := by decide +kernel
theorem dX4_isSnapped_17 : decode cX4_isSnapped 17 = .ok (.iconst 1, 1) := by decide +kernel
theorem dX4_isSnapped_18 : decode cX4_isSnapped 18 = .ok (.ireturn, 1) := by decide +kernel
theorem dX4_readFive_0 : decode cX4_readFive 0 = .ok (.iconst 0, 1) := by decide +kernel
theorem dX4_readFive_1 : decode cX4_readFive 1 = .ok (.istore_n 3, 1) := by decide +kernel
theorem dX4_readFive_2 : decode cX4_readFive 2 = .ok (.iload_n 3, 1) := by decide +kernel
theorem dX4_readFive_3 : decode cX4_readFive 3 = .ok (.iconst 5, 1) := by decide +kernel
theorem dX4_readFive_4 : decode cX4_readFive 4 = .ok (.if_icmp .ge 21, 3) := by decide +kernel
theorem dX4_readFive_7 : decode cX4_readFive 7 = .ok (.aload_n 2, 1) := by decide +kernel
theorem dX4_readFive_8 : decode cX4_readFive 8 = .ok (.iload_n 3, 1) := by decide +kernel
theorem dX4_readFive_9 : decode cX4_readFive 9 = .ok (.aload_n 0, 1) := by decide +kernel
theorem dX4_readFive_10 : decode cX4_readFive 10 = .ok (.iload_n 1, 1) := by decide +kernel
theorem dX4_readFive_11 : decode cX4_readFive 11 = .ok (.iconst 2, 1) := by decide +kernel
theorem dX4_readFive_12 : decode cX4_readFive 12 = .ok (.iload_n 3, 1) := by decide +kernel
theorem dX4_readFive_13 : decode cX4_readFive 13 = .ok (.imul, 1) := by decide +kernel
theorem dX4_readFive_14 : decode cX4_readFive 14 = .ok (.iadd, 1) := by decide +kernel
theorem dX4_readFive_15 : decode cX4_readFive 15 = .ok (.invokevirtual 79, 3) := by decide +kernel
theorem dX4_readFive_18 : decode cX4_readFive 18 = .ok (.iastore, 1) := by decide +kernel
theorem dX4_readFive_19 : decode cX4_readFive 19 = .ok (.iinc 3 1, 3) := by decide +kernel
theorem dX4_readFive_22 : decode cX4_readFive 22 = .ok (.goto (-20), 3) := by decide +kernel
theorem dX4_readFive_25 : decode cX4_readFive 25 = .ok (.return_, 1) := by decide +kernel
theorem dX4_letterAt_0 : decode cX4_letterAt 0 = .ok (.iload_n 1, 1) := by decide +kernel
theorem dX4_letterAt_1 : decode cX4_letterAt 1 = .ok (.ifCond .lt 20, 3) := by decide +kernel
theorem dX4_letterAt_4 : decode cX4_letterAt 4 = .ok (.iload_n 1, 1) := by decide +kernel
theorem dX4_letterAt_5 : decode cX4_letterAt 5 = .ok (.aload_n 0, 1) := by decide +kernel
theorem dX4_letterAt_6 : decode cX4_letterAt 6 = .ok (.getfield 15, 3) := by decide +kernel
theorem dX4_letterAt_9 : decode cX4_letterAt 9 = .ok (.if_icmp .ge 12, 3) := by decide +kernel
theorem dX4_letterAt_12 : decode cX4_letterAt 12 = .ok (.aload_n 0, 1) := by decide +kernel
theorem dX4_letterAt_13 : decode cX4_letterAt 13 = .ok (.getfield 9, 3) := by decide +kernel
theorem dX4_letterAt_16 : decode cX4_letterAt 16 = .ok (.iload_n 1, 1) := by decide +kernel
theorem dX4_letterAt_17 : decode cX4_letterAt 17 = .ok (.iaload, 1) := by decide +kernel
theorem dX4_letterAt_18 : decode cX4_letterAt 18 = .ok (.goto 4, 3) := by decide +kernel
theorem dX4_letterAt_21 : decode cX4_letterAt 21 = .ok (.iconst 0, 1) := by decide +kernel
theorem dX4_letterAt_22 : decode cX4_letterAt 22 = .ok (.ireturn, 1) := by decide +kernel
theorem dX4_digitAt_0 : decode cX4_digitAt 0 = .ok (.iconst 0, 1) := by decide +kernel
theorem dX4_digitAt_1 : decode cX4_digitAt 1 = .ok (.bipush 9, 2) := by decide +kernel
theorem dX4_digitAt_3 : decode cX4_digitAt 3 = .ok (.aload_n 0, 1) := by decide +kernel
theorem dX4_digitAt_4 : decode cX4_digitAt 4 = .ok (.iload_n 1, 1) := by decide +kernel
theorem dX4_digitAt_5 : decode cX4_digitAt 5 = .ok (.invokevirtual 49, 3) := by decide +kernel
theorem dX4_digitAt_8 : decode cX4_digitAt 8 = .ok (.bipush 48, 2) := by decide +kernel
theorem dX4_digitAt_10 : decode cX4_digitAt 10 = .ok (.isub, 1) := by decide +kernel
theorem dX4_digitAt_11 : decode cX4_digitAt 11 = .ok (.invokestatic 110, 3) := by decide +kernel
theorem dX4_digitAt_14 : decode cX4_digitAt 14 = .ok (.invokestatic 115, 3) := by decide +kernel
theorem dX4_digitAt_17 : decode cX4_digitAt 17 = .ok (.ireturn, 1) := by decide +kernel
theorem dX4_twoDigitsAt_0 : decode cX4_twoDigitsAt 0 = .ok (.bipush 10, 2) := by decide +kernel
theorem dX4_twoDigitsAt_2 : decode cX4_twoDigitsAt 2 = .ok (.aload_n 0, 1) := by decide +kernel
theorem dX4_twoDigitsAt_3 : decode cX4_twoDigitsAt 3 = .ok (.iload_n 1, 1) := by decide +kernel
theorem dX4_twoDigitsAt_4 : decode cX4_twoDigitsAt 4 = .ok (.invokevirtual 45, 3) := by decide +kernel
theorem dX4_twoDigitsAt_7 : decode cX4_twoDigitsAt 7 = .ok (.imul, 1) := by decide +kernel
theorem dX4_twoDigitsAt_8 : decode cX4_twoDigitsAt 8 = .ok (.aload_n 0, 1) := by decide +kernel
theorem dX4_twoDigitsAt_9 : decode cX4_twoDigitsAt 9 = .ok (.iload_n 1, 1) := by decide +kernel
theorem dX4_twoDigitsAt_10 : decode cX4_twoDigitsAt 10 = .ok (.iconst 1, 1) := by decide +kernel
theorem dX4_twoDigitsAt_11 : decode cX4_twoDigitsAt 11 = .ok (.iadd, 1) := by decide +kernel
theorem dX4_twoDigitsAt_12 : decode cX4_twoDigitsAt 12 = .ok (.invokevirtual 45, 3) := by decide +kernel
theorem dX4_twoDigitsAt_15 : decode cX4_twoDigitsAt 15 = .ok (.iadd, 1) := by decide +kernel
theorem dX4_twoDigitsAt_16 : decode cX4_twoDigitsAt 16 = .ok (.ireturn, 1) := by decide +kernel
theorem dX4_kindAt_0 : decode cX4_kindAt 0 = .ok (.iconst 0, 1) := by decide +kernel
theorem dX4_kindAt_1 : decode cX4_kindAt 1 = .ok (.ldc 120, 2) := by decide +kernel
theorem dX4_kindAt_3 : decode cX4_kindAt 3 = .ok (.aload_n 0, 1) := by decide +kernel
theorem dX4_kindAt_4 : decode cX4_kindAt 4 = .ok (.iload_n 1, 1) := by decide +kernel
theorem dX4_kindAt_5 : decode cX4_kindAt 5 = .ok (.invokevirtual 49, 3) := by decide +kernel
theorem dX4_kindAt_8 : decode cX4_kindAt 8 = .ok (.i2c, 1) := by decide +kernel
theorem dX4_kindAt_9 : decode cX4_kindAt 9 = .ok (.invokevirtual 122, 3) := by decide +kernel
theorem dX4_kindAt_12 : decode cX4_kindAt 12 = .ok (.invokestatic 115, 3) := by decide +kernel
theorem dX4_kindAt_15 : decode cX4_kindAt 15 = .ok (.ireturn, 1) := by decide +kernel
theorem dX4_shapeBehind_0 : decode cX4_shapeBehind 0 = .ok (.iload_n 0, 1) := by decide +kernel
theorem dX4_shapeBehind_1 : decode cX4_shapeBehind 1 = .ok (.tableswitch 118 99 120 #[109, 118, 118, 118, 118, 118, 118, 118, 103, 103, 106, 118, 118, 118, 118, 118, 115, 118, 112, 118, 118, 115], 103) := by decide +kernel
theorem dX4_shapeBehind_104 : decode cX4_shapeBehind 104 = .ok (.ldc 125, 2) := by decide +kernel
theorem dX4_shapeBehind_106 : decode cX4_shapeBehind 106 = .ok (.areturn, 1) := by decide +kernel
theorem dX4_shapeBehind_107 : decode cX4_shapeBehind 107 = .ok (.ldc 127, 2) := by decide +kernel
theorem dX4_shapeBehind_109 : decode cX4_shapeBehind 109 = .ok (.areturn, 1) := by decide +kernel
theorem dX4_shapeBehind_110 : decode cX4_shapeBehind 110 = .ok (.ldc 129, 2) := by decide +kernel
theorem dX4_shapeBehind_112 : decode cX4_shapeBehind 112 = .ok (.areturn, 1) := by decide +kernel
theorem dX4_shapeBehind_113 : decode cX4_shapeBehind 113 = .ok (.ldc 131, 2) := by decide +kernel
theorem dX4_shapeBehind_115 : decode cX4_shapeBehind 115 = .ok (.areturn, 1) := by decide +kernel
theorem dX4_shapeBehind_116 : decode cX4_shapeBehind 116 = .ok (.ldc 133, 2) := by decide +kernel
theorem dX4_shapeBehind_118 : decode cX4_shapeBehind 118 = .ok (.areturn, 1) := by decide +kernel
theorem dX4_shapeBehind_119 : decode cX4_shapeBehind 119 = .ok (.ldc 135, 2) := by decide +kernel
theorem dX4_shapeBehind_121 : decode cX4_shapeBehind 121 = .ok (.areturn, 1) := by decide +kernel
theorem dX4_fitsShape_0 : decode cX4_fitsShape 0 = .ok (.iload_n 0, 1) := by decide +kernel
theorem dX4_fitsShape_1 : decode cX4_fitsShape 1 = .ok (.lookupswitch 61 #[(48, 27), (107, 45)], 27) := by decide +kernel
theorem dX4_fitsShape_28 : decode cX4_fitsShape 28 = .ok (.iload_n 1, 1) := by decide +kernel
theorem dX4_fitsShape_29 : decode cX4_fitsShape 29 = .ok (.bipush 48, 2) := by decide +kernel
theorem dX4_fitsShape_31 : decode cX4_fitsShape 31 = .ok (.if_icmp .lt 13, 3) := by decide +kernel
theorem dX4_fitsShape_34 : decode cX4_fitsShape 34 = .ok (.iload_n 1, 1) := by decide +kernel
theorem dX4_fitsShape_35 : decode cX4_fitsShape 35 = .ok (.bipush 57, 2) := by decide +kernel
theorem dX4_fitsShape_37 : decode cX4_fitsShape 37 = .ok (.if_icmp .gt 7, 3) := by decide +kernel
theorem dX4_fitsShape_40 : decode cX4_fitsShape 40 = .ok (.iconst 1, 1) := by decide +kernel
theorem dX4_fitsShape_41 : decode cX4_fitsShape 41 = .ok (.goto 4, 3) := by decide +kernel
theorem dX4_fitsShape_44 : decode cX4_fitsShape 44 = .ok (.iconst 0, 1) := by decide +kernel
theorem dX4_fitsShape_45 : decode cX4_fitsShape 45 = .ok (.ireturn, 1) := by decide +kernel
theorem dX4_fitsShape_46 : decode cX4_fitsShape 46 = .ok (.ldc 120, 2) := by decide +kernel
theorem dX4_fitsShape_48 : decode cX4_fitsShape 48 = .ok (.iload_n 1, 1) := by decide +kernel
theorem dX4_fitsShape_49 : decode cX4_fitsShape 49 = .ok (.i2c, 1) := by decide +kernel
theorem dX4_fitsShape_50 : decode cX4_fitsShape 50 = .ok (.invokevirtual 122, 3) := by decide +kernel
theorem dX4_fitsShape_53 : decode cX4_fitsShape 53 = .ok (.ifCond .lt 7, 3) := by decide +kernel
theorem dX4_fitsShape_56 : decode cX4_fitsShape 56 = .ok (.iconst 1, 1) := by decide +kernel
theorem dX4_fitsShape_57 : decode cX4_fitsShape 57 = .ok (.goto 4, 3) := by decide +kernel
theorem dX4_fitsShape_60 : decode cX4_fitsShape 60 = .ok (.iconst 0, 1) := by decide +kernel
theorem dX4_fitsShape_61 : decode cX4_fitsShape 61 = .ok (.ireturn, 1) := by decide +kernel
theorem dX4_fitsShape_62 : decode cX4_fitsShape 62 = .ok (.iload_n 1, 1) := by decide +kernel
theorem dX4_fitsShape_63 : decode cX4_fitsShape 63 = .ok (.iload_n 0, 1) := by decide +kernel
theorem dX4_fitsShape_64 : decode cX4_fitsShape 64 = .ok (.if_icmp .ne 7, 3) := by decide +kernel
theorem dX4_fitsShape_67 : decode cX4_fitsShape 67 = .ok (.iconst 1, 1) := by decide +kernel
theorem dX4_fitsShape_68 : decode cX4_fitsShape 68 = .ok (.goto 4, 3) := by decide +kernel
theorem dX4_fitsShape_71 : decode cX4_fitsShape 71 = .ok (.iconst 0, 1) := by decide +kernel
theorem dX4_fitsShape_72 : decode cX4_fitsShape 72 = .ok (.ireturn, 1) := by decide +kernel
theorem dX5_init_0 : decode cX5_init 0 = .ok (.aload_n 0, 1) := by decide +kernel
theorem dX5_init_1 : decode cX5_init 1 = .ok (.invokespecial 1, 3) := by decide +kernel
theorem dX5_init_4 : decode cX5_init 4 = .ok (.aload_n 0, 1) := by decide +kernel
theorem dX5_init_5 : decode cX5_init 5 = .ok (.new 7, 3) := by decide +kernel
theorem dX5_init_8 : decode cX5_init 8 = .ok (.dup, 1) := by decide +kernel
theorem dX5_init_9 : decode cX5_init 9 = .ok (.invokespecial 9, 3) := by decide +kernel
theorem dX5_init_12 : decode cX5_init 12 = .ok (.putfield 10, 3) := by decide +kernel
theorem dX5_init_15 : decode cX5_init 15 = .ok (.aload_n 0, 1) := by decide +kernel
theorem dX5_init_16 : decode cX5_init 16 = .ok (.new 7, 3) := by decide +kernel
theorem dX5_init_19 : decode cX5_init 19 = .ok (.dup, 1) := by decide +kernel
theorem dX5_init_20 : decode cX5_init 20 = .ok (.invokespecial 9, 3) := by decide +kernel
theorem dX5_init_23 : decode cX5_init 23 = .ok (.putfield 16, 3) := by decide +kernel
theorem dX5_init_26 : decode cX5_init 26 = .ok (.aload_n 0, 1) := by decide +kernel
theorem dX5_init_27 : decode cX5_init 27 = .ok (.new 7, 3) := by decide +kernel
theorem dX5_init_30 : decode cX5_init 30 = .ok (.dup, 1) := by decide +kernel
theorem dX5_init_31 : decode cX5_init 31 = .ok (.invokespecial 9, 3) := by decide +kernel
theorem dX5_init_34 : decode cX5_init 34 = .ok (.putfield 19, 3) := by decide +kernel
theorem dX5_init_37 : decode cX5_init 37 = .ok (.aload_n 0, 1) := by decide +kernel
theorem dX5_init_38 : decode cX5_init 38 = .ok (.iconst 0, 1) := by decide +kernel
theorem dX5_init_39 : decode cX5_init 39 = .ok (.putfield 22, 3) := by decide +kernel
theorem dX5_init_42 : decode cX5_init 42 = .ok (.aload_n 0, 1) := by decide +kernel
theorem dX5_init_43 : decode cX5_init 43 = .ok (.new 26, 3) := by decide +kernel
theorem dX5_init_46 : decode cX5_init 46 = .ok (.dup, 1) := by decide +kernel
theorem dX5_init_47 : decode cX5_init 47 = .ok (.invokespecial 28, 3) := by decide +kernel
theorem dX5_init_50 : decode cX5_init 50 = .ok (.putfield 29, 3) := by decide +kernel
theorem dX5_init_53 : decode cX5_init 53 = .ok (.aload_n 0, 1) := by decide +kernel
theorem dX5_init_54 : decode cX5_init 54 = .ok (.new 33, 3) := by decide +kernel
theorem dX5_init_57 : decode cX5_init 57 = .ok (.dup, 1) := by decide +kernel
theorem dX5_init_58 : decode cX5_init 58 = .ok (.invokespecial 35, 3) := by decide +kernel
theorem dX5_init_61 : decode cX5_init 61 = .ok (.putfield 36, 3) := by decide +kernel
theorem dX5_init_64 : decode cX5_init 64 = .ok (.aload_n 0, 1) := by decide +kernel
theorem dX5_init_65 : decode cX5_init 65 = .ok (.bipush 12, 2) := by decide +kernel
theorem dX5_init_67 : decode cX5_init 67 = .ok (.newarray .int, 2) := by decide +kernel
theorem dX5_init_69 : decode cX5_init 69 = .ok (.putfield 40, 3) := by decide +kernel
theorem dX5_init_72 : decode cX5_init 72 = .ok (.aload_n 0, 1) := by decide +kernel
theorem dX5_init_73 : decode cX5_init 73 = .ok (.iconst 0, 1) := by decide +kernel
theorem dX5_init_74 : decode cX5_init 74 = .ok (.putfield 44, 3) := by decide +kernel
theorem dX5_init_77 : decode cX5_init 77 = .ok (.aload_n 0, 1) := by decide +kernel
theorem dX5_init_78 : decode cX5_init 78 = .ok (.bipush 7, 2) := by decide +kernel
theorem dX5_init_80 : decode cX5_init 80 = .ok (.newarray .int, 2) := by decide +kernel
theorem dX5_init_82 : decode cX5_init 82 = .ok (.putfield 48, 3) := by decide +kernel
theorem dX5_init_85 : decode cX5_init 85 = .ok (.return_, 1) := by decide +kernel
theorem dX5_letter_0 : decode cX5_letter 0 = .ok (.iload_n 1, 1) := by decide +kernel
theorem dX5_letter_1 : decode cX5_letter 1 = .ok (.ifCond .ge 10, 3) := by decide +kernel
theorem dX5_letter_4 : decode cX5_letter 4 = .ok (.aload_n 0, 1) := by decide +kernel
theorem dX5_letter_5 : decode cX5_letter 5 = .ok (.bipush (-4), 2) := by decide +kernel
theorem dX5_letter_7 : decode cX5_letter 7 = .ok (.invokevirtual 51, 3) := by decide +kernel
theorem dX5_letter_10 : decode cX5_letter 10 = .ok (.ireturn, 1) := by decide +kernel
theorem dX5_letter_11 : decode cX5_letter 11 = .ok (.iload_n 1, 1) := by decide +kernel
theorem dX5_letter_12 : decode cX5_letter 12 = .ok (.sipush 255, 3) := by decide +kernel
theorem dX5_letter_15 : decode cX5_letter 15 = .ok (.if_icmp .gt 13, 3) := by decide +kernel
theorem dX5_letter_18 : decode cX5_letter 18 = .ok (.aload_n 0, 1) := by decide +kernel
theorem dX5_letter_19 : decode cX5_letter 19 = .ok (.getfield 36, 3) := by decide +kernel
theorem dX5_letter_22 : decode cX5_letter 22 = .ok (.invokevirtual 55, 3) := by decide +kernel
theorem dX5_letter_25 : decode cX5_letter 25 = .ok (.ifCond .eq 10, 3) := by decide +kernel
theorem dX5_letter_28 : decode cX5_letter 28 = .ok (.aload_n 0, 1) := by decide +kernel
theorem dX5_letter_29 : decode cX5_letter 29 = .ok (.bipush (-6), 2) := by decide +kernel
theorem dX5_letter_31 : decode cX5_letter 31 = .ok (.invokevirtual 51, 3) := by decide +kernel
theorem dX5_letter_34 : decode cX5_letter 34 = .ok (.ireturn, 1) := by decide +kernel
theorem dX5_letter_35 : decode cX5_letter 35 = .ok (.aload_n 0, 1) := by decide +kernel
theorem dX5_letter_36 : decode cX5_letter 36 = .ok (.getfield 36, 3) := by decide +kernel
theorem dX5_letter_39 : decode cX5_letter 39 = .ok (.iload_n 1, 1) := by decide +kernel
theorem dX5_letter_40 : decode cX5_letter 40 = .ok (.invokevirtual 59, 3) := by decide +kernel
theorem dX5_letter_43 : decode cX5_letter 43 = .ok (.ireturn, 1) := by decide +kernel
theorem dX5_lock_0 : decode cX5_lock 0 = .ok (.aload_n 0, 1) := by decide +kernel
theorem dX5_lock_1 : decode cX5_lock 1 = .ok (.getfield 36, 3) := by decide +kernel
theorem dX5_lock_4 : decode cX5_lock 4 = .ok (.invokevirtual 62, 3) := by decide +kernel
theorem dX5_lock_7 : decode cX5_lock 7 = .ok (.istore_n 2, 1) := by decide +kernel
theorem dX5_lock_8 : decode cX5_lock 8 = .ok (.iload_n 2, 1) := by decide +kernel
theorem dX5_lock_9 : decode cX5_lock 9 = .ok (.bipush (-9), 2) := by decide +kernel
theorem dX5_lock_11 : decode cX5_lock 11 = .ok (.if_icmp .eq 12, 3) := by decide +kernel
theorem dX5_lock_14 : decode cX5_lock 14 = .ok (.sipush (-1000), 3) := by decide +kernel
theorem dX5_lock_17 : decode cX5_lock 17 = .ok (.iload_n 2, 1) := by decide +kernel
theorem dX5_lock_18 : decode cX5_lock 18 = .ok (.isub, 1) := by decide +kernel
theorem dX5_lock_19 : decode cX5_lock 19 = .ok (.istore_n 1, 1) := by decide +kernel
theorem dX5_lock_20 : decode cX5_lock 20 = .ok (.goto 41, 3) := by decide +kernel
theorem dX5_lock_23 : decode cX5_lock 23 = .ok (.aload_n 0, 1) := by decide +kernel
theorem dX5_lock_24 : decode cX5_lock 24 = .ok (.getfield 16, 3) := by decide +kernel
theorem dX5_lock_27 : decode cX5_lock 27 = .ok (.aload_n 0, 1) := by decide +kernel
theorem dX5_lock_28 : decode cX5_lock 28 = .ok (.getfield 10, 3) := by decide +kernel
theorem dX5_lock_31 : decode cX5_lock 31 = .ok (.invokevirtual 66, 3) := by decide +kernel
theorem dX5_lock_34 : decode cX5_lock 34 = .ok (.aload_n 0, 1) := by decide +kernel
theorem dX5_lock_35 : decode cX5_lock 35 = .ok (.getfield 36, 3) := by decide +kernel
theorem dX5_lock_38 : decode cX5_lock 38 = .ok (.aload_n 0, 1) := by decide +kernel
theorem dX5_lock_39 : decode cX5_lock 39 = .ok (.getfield 16, 3) := by decide +kernel
theorem dX5_lock_42 : decode cX5_lock 42 = .ok (.invokevirtual 70, 3) := by decide +kernel
theorem dX5_lock_45 : decode cX5_lock 45 = .ok (.istore_n 1, 1) := by decide +kernel
theorem dX5_lock_46 : decode cX5_lock 46 = .ok (.iload_n 1, 1) := by decide +kernel
theorem dX5_lock_47 : decode cX5_lock 47 = .ok (.ifCond .lt 14, 3) := by decide +kernel
theorem dX5_lock_50 : decode cX5_lock 50 = .ok (.aload_n 0, 1) := by decide +kernel
theorem dX5_lock_51 : decode cX5_lock 51 = .ok (.getfield 10, 3) := by decide +kernel
theorem dX5_lock_54 : decode cX5_lock 54 = .ok (.aload_n 0, 1) := by decide +kernel
theorem dX5_lock_55 : decode cX5_lock 55 = .ok (.getfield 16, 3) := by decide +kernel
theorem dX5_lock_58 : decode cX5_lock 58 = .ok (.invokevirtual 66, 3) := by decide +kernel
theorem dX5_lock_61 : decode cX5_lock 61 = .ok (.aload_n 0, 1) := by decide +kernel
theorem dX5_lock_62 : decode cX5_lock 62 = .ok (.getfield 36, 3) := by decide +kernel
theorem dX5_lock_65 : decode cX5_lock 65 = .ok (.invokevirtual 74, 3) := by decide +kernel
theorem dX5_lock_68 : decode cX5_lock 68 = .ok (.iload_n 1, 1) := by decide +kernel
theorem dX5_lock_69 : decode cX5_lock 69 = .ok (.ireturn, 1) := by decide +kernel
theorem dX5_pin_0 : decode cX5_pin 0 = .ok (.iload_n 1, 1) := by decide +kernel
theorem dX5_pin_1 : decode cX5_pin 1 = .ok (.invokestatic 77, 3) := by decide +kernel
theorem dX5_pin_4 : decode cX5_pin 4 = .ok (.ifCond .ne 9, 3) := by decide +kernel
theorem dX5_pin_7 : decode cX5_pin 7 = .ok (.aload_n 0, 1) := by decide +kernel
theorem dX5_pin_8 : decode cX5_pin 8 = .ok (.iconst (-1), 1) := by decide +kernel
theorem dX5_pin_9 : decode cX5_pin 9 = .ok (.invokevirtual 51, 3) := by decide +kernel
theorem dX5_pin_12 : decode cX5_pin 12 = .ok (.ireturn, 1) := by decide +kernel
theorem dX5_pin_13 : decode cX5_pin 13 = .ok (.aload_n 0, 1) := by decide +kernel
theorem dX5_pin_14 : decode cX5_pin 14 = .ok (.getfield 10, 3) := by decide +kernel
theorem dX5_pin_17 : decode cX5_pin 17 = .ok (.getfield 81, 3) := by decide +kernel
theorem dX5_pin_20 : decode cX5_pin 20 = .ok (.iload_n 1, 1) := by decide +kernel
theorem dX5_pin_21 : decode cX5_pin 21 = .ok (.iaload, 1) := by decide +kernel
theorem dX5_pin_22 : decode cX5_pin 22 = .ok (.ireturn, 1) := by decide +kernel
theorem dX5_key_0 : decode cX5_key 0 = .ok (.aload_n 0, 1) := by decide +kernel
theorem dX5_key_1 : decode cX5_key 1 = .ok (.getfield 10, 3) := by decide +kernel
theorem dX5_key_4 : decode cX5_key 4 = .ok (.iload_n 1, 1) := by decide +kernel
theorem dX5_key_5 : decode cX5_key 5 = .ok (.invokevirtual 84, 3) := by decide +kernel
theorem dX5_key_8 : decode cX5_key 8 = .ok (.ifCond .ne 9, 3) := by decide +kernel
theorem dX5_key_11 : decode cX5_key 11 = .ok (.aload_n 0, 1) := by decide +kernel
theorem dX5_key_12 : decode cX5_key 12 = .ok (.iconst (-1), 1) := by decide +kernel
theorem dX5_key_13 : decode cX5_key 13 = .ok (.invokevirtual 51, 3) := by decide +kernel
theorem dX5_key_16 : decode cX5_key 16 = .ok (.ireturn, 1) := by decide +kernel
theorem dX5_key_17 : decode cX5_key 17 = .ok (.iload_n 2, 1) := by decide +kernel
theorem dX5_key_18 : decode cX5_key 18 = .ok (.invokestatic 77, 3) := by decide +kernel
theorem dX5_key_21 : decode cX5_key 21 = .ok (.ifCond .eq 15, 3) := by decide +kernel
theorem dX5_key_24 : decode cX5_key 24 = .ok (.aload_n 0, 1) := by decide +kernel
theorem dX5_key_25 : decode cX5_key 25 = .ok (.getfield 10, 3) := by decide +kernel
theorem dX5_key_28 : decode cX5_key 28 = .ok (.getfield 87, 3) := by decide +kernel
theorem dX5_key_31 : decode cX5_key 31 = .ok (.iload_n 1, 1) := by decide +kernel
theorem dX5_key_32 : decode cX5_key 32 = .ok (.aaload, 1) := by decide +kernel
theorem dX5_key_33 : decode cX5_key 33 = .ok (.iload_n 2, 1) := by decide +kernel
theorem dX5_key_34 : decode cX5_key 34 = .ok (.iaload, 1) := by decide +kernel
theorem dX5_key_35 : decode cX5_key 35 = .ok (.ireturn, 1) := by decide +kernel
theorem dX5_key_36 : decode cX5_key 36 = .ok (.iload_n 2, 1) := by decide +kernel
theorem dX5_key_37 : decode cX5_key 37 = .ok (.tableswitch 114 5 9 #[35, 45, 63, 80, 97], 35) := by decide +kernel
theorem dX5_key_72 : decode cX5_key 72 = .ok (.aload_n 0, 1) := by decide +kernel
theorem dX5_key_73 : decode cX5_key 73 = .ok (.getfield 10, 3) := by decide +kernel
theorem dX5_key_76 : decode cX5_key 76 = .ok (.getfield 91, 3) := by decide +kernel
theorem dX5_key_79 : decode cX5_key 79 = .ok (.iload_n 1, 1) := by decide +kernel
theorem dX5_key_80 : decode cX5_key 80 = .ok (.iaload, 1) := by decide +kernel
theorem dX5_key_81 : decode cX5_key 81 = .ok (.ireturn, 1) := by decide +kernel
theorem dX5_key_82 : decode cX5_key 82 = .ok (.aload_n 0, 1) := by decide +kernel
theorem dX5_key_83 : decode cX5_key 83 = .ok (.getfield 10, 3) := by decide +kernel
theorem dX5_key_86 : decode cX5_key 86 = .ok (.getfield 94, 3) := by decide +kernel
theorem dX5_key_89 : decode cX5_key 89 = .ok (.iload_n 1, 1) := by decide +kernel
theorem dX5_key_90 : decode cX5_key 90 = .ok (.baload, 1) := by decide +kernel
theorem dX5_key_91 : decode cX5_key 91 = .ok (.ifCond .eq 7, 3) := by decide +kernel
theorem dX5_key_94 : decode cX5_key 94 = .ok (.iconst 1, 1) := by decide +kernel
theorem dX5_key_95 : decode cX5_key 95 = .ok (.goto 4, 3) := by decide +kernel
theorem dX5_key_98 : decode cX5_key 98 = .ok (.iconst 0, 1) := by decide +kernel
theorem dX5_key_99 : decode cX5_key 99 = .ok (.ireturn, 1) := by decide +kernel
theorem dX5_key_100 : decode cX5_key 100 = .ok (.aload_n 0, 1) := by decide +kernel
theorem dX5_key_101 : decode cX5_key 101 = .ok (.getfield 10, 3) := by decide +kernel
theorem dX5_key_104 : decode cX5_key 104 = .ok (.iload_n 1, 1) := by decide +kernel
theorem dX5_key_105 : decode cX5_key 105 = .ok (.invokevirtual 98, 3) := by decide +kernel
theorem dX5_key_108 : decode cX5_key 108 = .ok (.ifCond .eq 7, 3) := by decide +kernel
theorem dX5_key_111 : decode cX5_key 111 = .ok (.iconst 1, 1) := by decide +kernel
theorem dX5_key_112 : decode cX5_key 112 = .ok (.goto 4, 3) := by decide +kernel
theorem dX5_key_115 : decode cX5_key 115 = .ok (.iconst 0, 1) := by decide +kernel
theorem dX5_key_116 : decode cX5_key 116 = .ok (.ireturn, 1) := by decide +kernel
theorem dX5_key_117 : decode cX5_key 117 = .ok (.aload_n 0, 1) := by decide +kernel
theorem dX5_key_118 : decode cX5_key 118 = .ok (.getfield 10, 3) := by decide +kernel
theorem dX5_key_121 : decode cX5_key 121 = .ok (.aload_n 0, 1) := by decide +kernel
theorem dX5_key_122 : decode cX5_key 122 = .ok (.getfield 10, 3) := by decide +kernel
theorem dX5_key_125 : decode cX5_key 125 = .ok (.getfield 87, 3) := by decide +kernel
theorem dX5_key_128 : decode cX5_key 128 = .ok (.iload_n 1, 1) := by decide +kernel
theorem dX5_key_129 : decode cX5_key 129 = .ok (.aaload, 1) := by decide +kernel
theorem dX5_key_130 : decode cX5_key 130 = .ok (.invokevirtual 101, 3) := by decide +kernel
theorem dX5_key_133 : decode cX5_key 133 = .ok (.ireturn, 1) := by decide +kernel
theorem dX5_key_134 : decode cX5_key 134 = .ok (.aload_n 0, 1) := by decide +kernel
theorem dX5_key_135 : decode cX5_key 135 = .ok (.getfield 10, 3) := by decide +kernel
theorem dX5_key_138 : decode cX5_key 138 = .ok (.aload_n 0, 1) := by decide +kernel
theorem dX5_key_139 : decode cX5_key 139 = .ok (.getfield 10, 3) := by decide +kernel
theorem dX5_key_142 : decode cX5_key 142 = .ok (.getfield 87, 3) := by decide +kernel
theorem dX5_key_145 : decode cX5_key 145 = .ok (.iload_n 1, 1) := by decide +kernel
theorem dX5_key_146 : decode cX5_key 146 = .ok (.aaload, 1) := by decide +kernel
theorem dX5_key_147 : decode cX5_key 147 = .ok (.invokevirtual 105, 3) := by decide +kernel
theorem dX5_key_150 : decode cX5_key 150 = .ok (.ireturn, 1) := by decide +kernel
theorem dX5_key_151 : decode cX5_key 151 = .ok (.aload_n 0, 1) := by decide +kernel
theorem dX5_key_152 : decode cX5_key 152 = .ok (.bipush (-2), 2) := by decide +kernel
theorem dX5_key_154 : decode cX5_key 154 = .ok (.invokevirtual 51, 3) := by decide +kernel
theorem dX5_key_157 : decode cX5_key 157 = .ok (.ireturn, 1) := by decide +kernel
theorem dX5_machine_0 : decode cX5_machine 0 = .ok (.aload_n 0, 1) := by decide +kernel
theorem dX5_machine_1 : decode cX5_machine 1 = .ok (.getfield 10, 3) := by decide +kernel
theorem dX5_machine_4 : decode cX5_machine 4 = .ok (.iload_n 1, 1) := by decide +kernel
theorem dX5_machine_5 : decode cX5_machine 5 = .ok (.invokevirtual 108, 3) := by decide +kernel
theorem dX5_machine_8 : decode cX5_machine 8 = .ok (.ifCond .ne 9, 3) := by decide +kernel
theorem dX5_machine_11 : decode cX5_machine 11 = .ok (.aload_n 0, 1) := by decide +kernel
theorem dX5_machine_12 : decode cX5_machine 12 = .ok (.iconst (-1), 1) := by decide +kernel
theorem dX5_machine_13 : decode cX5_machine 13 = .ok (.invokevirtual 51, 3) := by decide +kernel
theorem dX5_machine_16 : decode cX5_machine 16 = .ok (.ireturn, 1) := by decide +kernel
theorem dX5_machine_17 : decode cX5_machine 17 = .ok (.iload_n 2, 1) := by decide +kernel
theorem dX5_machine_18 : decode cX5_machine 18 = .ok (.invokestatic 111, 3) := by decide +kernel
theorem dX5_machine_21 : decode cX5_machine 21 = .ok (.ifCond .ne 10, 3) := by decide +kernel
theorem dX5_machine_24 : decode cX5_machine 24 = .ok (.aload_n 0, 1) := by decide +kernel
theorem dX5_machine_25 : decode cX5_machine 25 = .ok (.bipush (-2), 2) := by decide +kernel
theorem dX5_machine_27 : decode cX5_machine 27 = .ok (.invokevirtual 51, 3) := by decide +kernel
theorem dX5_machine_30 : decode cX5_machine 30 = .ok (.ireturn, 1) := by decide +kernel
theorem dX5_machine_31 : decode cX5_machine 31 = .ok (.iload_n 2, 1) := by decide +kernel
theorem dX5_machine_32 : decode cX5_machine 32 = .ok (.ifCond .ne 15, 3) := by decide +kernel
theorem dX5_machine_35 : decode cX5_machine 35 = .ok (.aload_n 0, 1) := by decide +kernel
theorem dX5_machine_36 : decode cX5_machine 36 = .ok (.getfield 10, 3) := by decide +kernel
theorem dX5_machine_39 : decode cX5_machine 39 = .ok (.getfield 114, 3) := by decide +kernel
theorem dX5_machine_42 : decode cX5_machine 42 = .ok (.iload_n 1, 1) := by decide +kernel
theorem dX5_machine_43 : decode cX5_machine 43 = .ok (.iaload, 1) := by decide +kernel
theorem dX5_machine_44 : decode cX5_machine 44 = .ok (.goto 12, 3) := by decide +kernel
theorem dX5_machine_47 : decode cX5_machine 47 = .ok (.aload_n 0, 1) := by decide +kernel
theorem dX5_machine_48 : decode cX5_machine 48 = .ok (.getfield 10, 3) := by decide +kernel
theorem dX5_machine_51 : decode cX5_machine 51 = .ok (.getfield 117, 3) := by decide +kernel
theorem dX5_machine_54 : decode cX5_machine 54 = .ok (.iload_n 1, 1) := by decide +kernel
theorem dX5_machine_55 : decode cX5_machine 55 = .ok (.iaload, 1) := by decide +kernel
theorem dX5_machine_56 : decode cX5_machine 56 = .ok (.ireturn, 1) := by decide +kernel
theorem dX5_sets_0 : decode cX5_sets 0 = .ok (.iload_n 1, 1) := by decide +kernel
theorem dX5_sets_1 : decode cX5_sets 1 = .ok (.invokestatic 77, 3) := by decide +kernel
theorem dX5_sets_4 : decode cX5_sets 4 = .ok (.ifCond .ne 9, 3) := by decide +kernel
theorem dX5_sets_7 : decode cX5_sets 7 = .ok (.aload_n 0, 1) := by decide +kernel
theorem dX5_sets_8 : decode cX5_sets 8 = .ok (.iconst (-1), 1) := by decide +kernel
theorem dX5_sets_9 : decode cX5_sets 9 = .ok (.invokevirtual 51, 3) := by decide +kernel
theorem dX5_sets_12 : decode cX5_sets 12 = .ok (.ireturn, 1) := by decide +kernel
theorem dX5_sets_13 : decode cX5_sets 13 = .ok (.iload_n 2, 1) := by decide +kernel
theorem dX5_sets_14 : decode cX5_sets 14 = .ok (.iconst 0, 1) := by decide +kernel
theorem dX5_sets_15 : decode cX5_sets 15 = .ok (.bipush 99, 2) := by decide +kernel
theorem dX5_sets_17 : decode cX5_sets 17 = .ok (.invokestatic 120, 3) := by decide +kernel
theorem dX5_sets_20 : decode cX5_sets 20 = .ok (.istore_n 3, 1) := by decide +kernel
theorem dX5_sets_21 : decode cX5_sets 21 = .ok (.iload_n 3, 1) := by decide +kernel
theorem dX5_sets_22 : decode cX5_sets 22 = .ok (.ifCond .eq 9, 3) := by decide +kernel
theorem dX5_sets_25 : decode cX5_sets 25 = .ok (.aload_n 0, 1) := by decide +kernel
theorem dX5_sets_26 : decode cX5_sets 26 = .ok (.iload_n 3, 1) := by decide +kernel
theorem dX5_sets_27 : decode cX5_sets 27 = .ok (.invokevirtual 51, 3) := by decide +kernel
theorem dX5_sets_30 : decode cX5_sets 30 = .ok (.ireturn, 1) := by decide +kernel
theorem dX5_sets_31 : decode cX5_sets 31 = .ok (.aload_n 0, 1) := by decide +kernel
theorem dX5_sets_32 : decode cX5_sets 32 = .ok (.getfield 10, 3) := by decide +kernel
theorem dX5_sets_35 : decode cX5_sets 35 = .ok (.getfield 81, 3) := by decide +kernel
theorem dX5_sets_38 : decode cX5_sets 38 = .ok (.iload_n 1, 1) := by decide +kernel
theorem dX5_sets_39 : decode cX5_sets 39 = .ok (.iaload, 1) := by decide +kernel
theorem dX5_sets_40 : decode cX5_sets 40 = .ok (.istore 4, 2) := by decide +kernel
theorem dX5_sets_42 : decode cX5_sets 42 = .ok (.aload_n 0, 1) := by decide +kernel
theorem dX5_sets_43 : decode cX5_sets 43 = .ok (.getfield 10, 3) := by decide +kernel
theorem dX5_sets_46 : decode cX5_sets 46 = .ok (.getfield 81, 3) := by decide +kernel
theorem dX5_sets_49 : decode cX5_sets 49 = .ok (.iload_n 1, 1) := by decide +kernel
theorem dX5_sets_50 : decode cX5_sets 50 = .ok (.iload_n 2, 1) := by decide +kernel
theorem dX5_sets_51 : decode cX5_sets 51 = .ok (.iastore, 1) := by decide +kernel
theorem dX5_sets_52 : decode cX5_sets 52 = .ok (.iload 4, 2) := by decide +kernel
theorem dX5_sets_54 : decode cX5_sets 54 = .ok (.ireturn, 1) := by decide +kernel
theorem dX5_slack_0 : decode cX5_slack 0 = .ok (.iload_n 1, 1) := by decide +kernel
theorem dX5_slack_1 : decode cX5_slack 1 = .ok (.iconst 0, 1) := by decide +kernel
theorem dX5_slack_2 : decode cX5_slack 2 = .ok (.bipush 9, 2) := by decide +kernel
theorem dX5_slack_4 : decode cX5_slack 4 = .ok (.invokestatic 120, 3) := by decide +kernel
theorem dX5_slack_7 : decode cX5_slack 7 = .ok (.istore_n 2, 1) := by decide +kernel
theorem dX5_slack_8 : decode cX5_slack 8 = .ok (.iload_n 2, 1) := by decide +kernel
theorem dX5_slack_9 : decode cX5_slack 9 = .ok (.ifCond .eq 9, 3) := by decide +kernel
theorem dX5_slack_12 : decode cX5_slack 12 = .ok (.aload_n 0, 1) := by decide +kernel
theorem dX5_slack_13 : decode cX5_slack 13 = .ok (.iload_n 2, 1) := by decide +kernel
theorem dX5_slack_14 : decode cX5_slack 14 = .ok (.invokevirtual 51, 3) := by decide +kernel
theorem dX5_slack_17 : decode cX5_slack 17 = .ok (.ireturn, 1) := by decide +kernel
theorem dX5_slack_18 : decode cX5_slack 18 = .ok (.aload_n 0, 1) := by decide +kernel
theorem dX5_slack_19 : decode cX5_slack 19 = .ok (.getfield 10, 3) := by decide +kernel
theorem dX5_slack_22 : decode cX5_slack 22 = .ok (.getfield 124, 3) := by decide +kernel
theorem dX5_slack_25 : decode cX5_slack 25 = .ok (.istore_n 3, 1) := by decide +kernel
theorem dX5_slack_26 : decode cX5_slack 26 = .ok (.aload_n 0, 1) := by decide +kernel
theorem dX5_slack_27 : decode cX5_slack 27 = .ok (.getfield 10, 3) := by decide +kernel
theorem dX5_slack_30 : decode cX5_slack 30 = .ok (.iload_n 1, 1) := by decide +kernel
theorem dX5_slack_31 : decode cX5_slack 31 = .ok (.putfield 124, 3) := by decide +kernel
theorem dX5_slack_34 : decode cX5_slack 34 = .ok (.iload_n 3, 1) := by decide +kernel
theorem dX5_slack_35 : decode cX5_slack 35 = .ok (.ireturn, 1) := by decide +kernel
theorem dX5_files_0 : decode cX5_files 0 = .ok (.aload_n 0, 1) := by decide +kernel
theorem dX5_files_1 : decode cX5_files 1 = .ok (.getfield 10, 3) := by decide +kernel
theorem dX5_files_4 : decode cX5_files 4 = .ok (.iload_n 1, 1) := by decide +kernel
theorem dX5_files_5 : decode cX5_files 5 = .ok (.invokevirtual 84, 3) := by decide +kernel
theorem dX5_files_8 : decode cX5_files 8 = .ok (.ifCond .eq 10, 3) := by decide +kernel
theorem dX5_files_11 : decode cX5_files 11 = .ok (.iload_n 2, 1) := by decide +kernel
theorem dX5_files_12 : decode cX5_files 12 = .ok (.invokestatic 77, 3) := by decide +kernel
theorem dX5_files_15 : decode cX5_files 15 = .ok (.ifCond .ne 9, 3) := by decide +kernel
theorem dX5_files_18 : decode cX5_files 18 = .ok (.aload_n 0, 1) := by decide +kernel
theorem dX5_files_19 : decode cX5_files 19 = .ok (.iconst (-1), 1) := by decide +kernel
theorem dX5_files_20 : decode cX5_files 20 = .ok (.invokevirtual 51, 3) := by decide +kernel
theorem dX5_files_23 : decode cX5_files 23 = .ok (.ireturn, 1) := by decide +kernel
theorem dX5_files_24 : decode cX5_files 24 = .ok (.iload_n 3, 1) := by decide +kernel
theorem dX5_files_25 : decode cX5_files 25 = .ok (.iconst 0, 1) := by decide +kernel
theorem dX5_files_26 : decode cX5_files 26 = .ok (.bipush 99, 2) := by decide +kernel
theorem dX5_files_28 : decode cX5_files 28 = .ok (.invokestatic 120, 3) := by decide +kernel
theorem dX5_files_31 : decode cX5_files 31 = .ok (.istore 4, 2) := by decide +kernel
theorem dX5_files_33 : decode cX5_files 33 = .ok (.iload 4, 2) := by decide +kernel
theorem dX5_files_35 : decode cX5_files 35 = .ok (.ifCond .eq 10, 3) := by decide +kernel
theorem dX5_files_38 : decode cX5_files 38 = .ok (.aload_n 0, 1) := by decide +kernel
theorem dX5_files_39 : decode cX5_files 39 = .ok (.iload 4, 2) := by decide +kernel
theorem dX5_files_41 : decode cX5_files 41 = .ok (.invokevirtual 51, 3) := by decide +kernel
theorem dX5_files_44 : decode cX5_files 44 = .ok (.ireturn, 1) := by decide +kernel
theorem dX5_files_45 : decode cX5_files 45 = .ok (.aload_n 0, 1) := by decide +kernel
theorem dX5_files_46 : decode cX5_files 46 = .ok (.getfield 10, 3) := by decide +kernel
theorem dX5_files_49 : decode cX5_files 49 = .ok (.getfield 87, 3) := by decide +kernel
theorem dX5_files_52 : decode cX5_files 52 = .ok (.iload_n 1, 1) := by decide +kernel
theorem dX5_files_53 : decode cX5_files 53 = .ok (.aaload, 1) := by decide +kernel
theorem dX5_files_54 : decode cX5_files 54 = .ok (.iload_n 2, 1) := by decide +kernel
theorem dX5_files_55 : decode cX5_files 55 = .ok (.iaload, 1) := by decide +kernel
theorem dX5_files_56 : decode cX5_files 56 = .ok (.istore 5, 2) := by decide +kernel
theorem dX5_files_58 : decode cX5_files 58 = .ok (.aload_n 0, 1) := by decide +kernel
theorem dX5_files_59 : decode cX5_files 59 = .ok (.getfield 10, 3) := by decide +kernel
theorem dX5_files_62 : decode cX5_files 62 = .ok (.getfield 87, 3) := by decide +kernel
theorem dX5_files_65 : decode cX5_files 65 = .ok (.iload_n 1, 1) := by decide +kernel
theorem dX5_files_66 : decode cX5_files 66 = .ok (.aaload, 1) := by decide +kernel
theorem dX5_files_67 : decode cX5_files 67 = .ok (.iload_n 2, 1) := by decide +kernel
theorem dX5_files_68 : decode cX5_files 68 = .ok (.iload_n 3, 1) := by decide +kernel
theorem dX5_files_69 : decode cX5_files 69 = .ok (.iastore, 1) := by decide +kernel
theorem dX5_files_70 : decode cX5_files 70 = .ok (.iload 5, 2) := by decide +kernel
theorem dX5_files_72 : decode cX5_files 72 = .ok (.ireturn, 1) := by decide +kernel
theorem dX5_turn_0 : decode cX5_turn 0 = .ok (.aload_n 0, 1) := by decide +kernel
theorem dX5_turn_1 : decode cX5_turn 1 = .ok (.getfield 10, 3) := by decide +kernel
theorem dX5_turn_4 : decode cX5_turn 4 = .ok (.iload_n 1, 1) := by decide +kernel
theorem dX5_turn_5 : decode cX5_turn 5 = .ok (.invokevirtual 108, 3) := by decide +kernel
theorem dX5_turn_8 : decode cX5_turn 8 = .ok (.ifCond .ne 9, 3) := by decide +kernel
theorem dX5_turn_11 : decode cX5_turn 11 = .ok (.aload_n 0, 1) := by decide +kernel
theorem dX5_turn_12 : decode cX5_turn 12 = .ok (.iconst (-1), 1) := by decide +kernel
theorem dX5_turn_13 : decode cX5_turn 13 = .ok (.invokevirtual 51, 3) := by decide +kernel
theorem dX5_turn_16 : decode cX5_turn 16 = .ok (.ireturn, 1) := by decide +kernel
theorem dX5_turn_17 : decode cX5_turn 17 = .ok (.iload_n 2, 1) := by decide +kernel
theorem dX5_turn_18 : decode cX5_turn 18 = .ok (.ifCond .lt 9, 3) := by decide +kernel
theorem dX5_turn_21 : decode cX5_turn 21 = .ok (.iload_n 2, 1) := by decide +kernel
theorem dX5_turn_22 : decode cX5_turn 22 = .ok (.bipush 6, 2) := by decide +kernel
theorem dX5_turn_24 : decode cX5_turn 24 = .ok (.if_icmp .lt 10, 3) := by decide +kernel
theorem dX5_turn_27 : decode cX5_turn 27 = .ok (.aload_n 0, 1) := by decide +kernel
theorem dX5_turn_28 : decode cX5_turn 28 = .ok (.bipush (-2), 2) := by decide +kernel
theorem dX5_turn_30 : decode cX5_turn 30 = .ok (.invokevirtual 51, 3) := by decide +kernel
theorem dX5_turn_33 : decode cX5_turn 33 = .ok (.ireturn, 1) := by decide +kernel
theorem dX5_turn_34 : decode cX5_turn 34 = .ok (.iload_n 3, 1) := by decide +kernel
theorem dX5_turn_35 : decode cX5_turn 35 = .ok (.iconst 0, 1) := by decide +kernel
theorem dX5_turn_36 : decode cX5_turn 36 = .ok (.bipush 9, 2) := by decide +kernel
theorem dX5_turn_38 : decode cX5_turn 38 = .ok (.invokestatic 120, 3) := by decide +kernel
theorem dX5_turn_41 : decode cX5_turn 41 = .ok (.istore 4, 2) := by decide +kernel
theorem dX5_turn_43 : decode cX5_turn 43 = .ok (.iload 4, 2) := by decide +kernel
theorem dX5_turn_45 : decode cX5_turn 45 = .ok (.ifCond .eq 10, 3) := by decide +kernel
theorem dX5_turn_48 : decode cX5_turn 48 = .ok (.aload_n 0, 1) := by decide +kernel
theorem dX5_turn_49 : decode cX5_turn 49 = .ok (.iload 4, 2) := by decide +kernel
theorem dX5_turn_51 : decode cX5_turn 51 = .ok (.invokevirtual 51, 3) := by decide +kernel
theorem dX5_turn_54 : decode cX5_turn 54 = .ok (.ireturn, 1) := by decide +kernel
theorem dX5_turn_55 : decode cX5_turn 55 = .ok (.bipush 10, 2) := by decide +kernel
theorem dX5_turn_57 : decode cX5_turn 57 = .ok (.aload_n 0, 1) := by decide +kernel
theorem dX5_turn_58 : decode cX5_turn 58 = .ok (.getfield 10, 3) := by decide +kernel
theorem dX5_turn_61 : decode cX5_turn 61 = .ok (.getfield 114, 3) := by decide +kernel
theorem dX5_turn_64 : decode cX5_turn 64 = .ok (.iload_n 1, 1) := by decide +kernel
theorem dX5_turn_65 : decode cX5_turn 65 = .ok (.iaload, 1) := by decide +kernel
theorem dX5_turn_66 : decode cX5_turn 66 = .ok (.imul, 1) := by decide +kernel
theorem dX5_turn_67 : decode cX5_turn 67 = .ok (.aload_n 0, 1) := by decide +kernel
theorem dX5_turn_68 : decode cX5_turn 68 = .ok (.getfield 10, 3) := by decide +kernel
theorem dX5_turn_71 : decode cX5_turn 71 = .ok (.getfield 117, 3) := by decide +kernel
theorem dX5_turn_74 : decode cX5_turn 74 = .ok (.iload_n 1, 1) := by decide +kernel
theorem dX5_turn_75 : decode cX5_turn 75 = .ok (.iaload, 1) := by decide +kernel
theorem dX5_turn_76 : decode cX5_turn 76 = .ok (.iadd, 1) := by decide +kernel
theorem dX5_turn_77 : decode cX5_turn 77 = .ok (.istore 5, 2) := by decide +kernel
theorem dX5_turn_79 : decode cX5_turn 79 = .ok (.aload_n 0, 1) := by decide +kernel
theorem dX5_turn_80 : decode cX5_turn 80 = .ok (.getfield 10, 3) := by decide +kernel
theorem dX5_turn_83 : decode cX5_turn 83 = .ok (.getfield 114, 3) := by decide +kernel
theorem dX5_turn_86 : decode cX5_turn 86 = .ok (.iload_n 1, 1) := by decide +kernel
theorem dX5_turn_87 : decode cX5_turn 87 = .ok (.iload_n 2, 1) := by decide +kernel
theorem dX5_turn_88 : decode cX5_turn 88 = .ok (.iastore, 1) := by decide +kernel
theorem dX5_turn_89 : decode cX5_turn 89 = .ok (.aload_n 0, 1) := by decide +kernel
theorem dX5_turn_90 : decode cX5_turn 90 = .ok (.getfield 10, 3) := by decide +kernel
theorem dX5_turn_93 : decode cX5_turn 93 = .ok (.getfield 117, 3) := by decide +kernel
theorem dX5_turn_96 : decode cX5_turn 96 = .ok (.iload_n 1, 1) := by decide +kernel
theorem dX5_turn_97 : decode cX5_turn 97 = .ok (.iload_n 3, 1) := by decide +kernel
theorem dX5_turn_98 : decode cX5_turn 98 = .ok (.iastore, 1) := by decide +kernel
theorem dX5_turn_99 : decode cX5_turn 99 = .ok (.iload 5, 2) := by decide +kernel
theorem dX5_turn_101 : decode cX5_turn 101 = .ok (.ireturn, 1) := by decide +kernel
theorem dX5_cut_0 : decode cX5_cut 0 = .ok (.aload_n 0, 1) := by decide +kernel
theorem dX5_cut_1 : decode cX5_cut 1 = .ok (.getfield 10, 3) := by decide +kernel
theorem dX5_cut_4 : decode cX5_cut 4 = .ok (.iload_n 1, 1) := by decide +kernel
theorem dX5_cut_5 : decode cX5_cut 5 = .ok (.invokevirtual 84, 3) := by decide +kernel
theorem dX5_cut_8 : decode cX5_cut 8 = .ok (.ifCond .eq 14, 3) := by decide +kernel
theorem dX5_cut_11 : decode cX5_cut 11 = .ok (.aload_n 0, 1) := by decide +kernel
theorem dX5_cut_12 : decode cX5_cut 12 = .ok (.getfield 10, 3) := by decide +kernel
theorem dX5_cut_15 : decode cX5_cut 15 = .ok (.iload_n 2, 1) := by decide +kernel
theorem dX5_cut_16 : decode cX5_cut 16 = .ok (.invokevirtual 108, 3) := by decide +kernel
theorem dX5_cut_19 : decode cX5_cut 19 = .ok (.ifCond .ne 9, 3) := by decide +kernel
theorem dX5_cut_22 : decode cX5_cut 22 = .ok (.aload_n 0, 1) := by decide +kernel
theorem dX5_cut_23 : decode cX5_cut 23 = .ok (.iconst (-1), 1) := by decide +kernel
theorem dX5_cut_24 : decode cX5_cut 24 = .ok (.invokevirtual 51, 3) := by decide +kernel
theorem dX5_cut_27 : decode cX5_cut 27 = .ok (.ireturn, 1) := by decide +kernel
theorem dX5_cut_28 : decode cX5_cut 28 = .ok (.aload_n 0, 1) := by decide +kernel
theorem dX5_cut_29 : decode cX5_cut 29 = .ok (.getfield 10, 3) := by decide +kernel
theorem dX5_cut_32 : decode cX5_cut 32 = .ok (.getfield 94, 3) := by decide +kernel
theorem dX5_cut_35 : decode cX5_cut 35 = .ok (.iload_n 1, 1) := by decide +kernel
theorem dX5_cut_36 : decode cX5_cut 36 = .ok (.baload, 1) := by decide +kernel
theorem dX5_cut_37 : decode cX5_cut 37 = .ok (.ifCond .eq 10, 3) := by decide +kernel
theorem dX5_cut_40 : decode cX5_cut 40 = .ok (.aload_n 0, 1) := by decide +kernel
theorem dX5_cut_41 : decode cX5_cut 41 = .ok (.bipush (-3), 2) := by decide +kernel
theorem dX5_cut_43 : decode cX5_cut 43 = .ok (.invokevirtual 51, 3) := by decide +kernel
theorem dX5_cut_46 : decode cX5_cut 46 = .ok (.ireturn, 1) := by decide +kernel
theorem dX5_cut_47 : decode cX5_cut 47 = .ok (.aload_n 0, 1) := by decide +kernel
theorem dX5_cut_48 : decode cX5_cut 48 = .ok (.getfield 10, 3) := by decide +kernel
theorem dX5_cut_51 : decode cX5_cut 51 = .ok (.getfield 127, 3) := by decide +kernel
theorem dX5_cut_54 : decode cX5_cut 54 = .ok (.bipush 10, 2) := by decide +kernel
theorem dX5_cut_56 : decode cX5_cut 56 = .ok (.if_icmp .lt 10, 3) := by decide +kernel
theorem dX5_cut_59 : decode cX5_cut 59 = .ok (.aload_n 0, 1) := by decide +kernel
theorem dX5_cut_60 : decode cX5_cut 60 = .ok (.bipush (-6), 2) := by decide +kernel
theorem dX5_cut_62 : decode cX5_cut 62 = .ok (.invokevirtual 51, 3) := by decide +kernel
theorem dX5_cut_65 : decode cX5_cut 65 = .ok (.ireturn, 1) := by decide +kernel
theorem dX5_cut_66 : decode cX5_cut 66 = .ok (.aload_n 0, 1) := by decide +kernel
theorem dX5_cut_67 : decode cX5_cut 67 = .ok (.getfield 10, 3) := by decide +kernel
theorem dX5_cut_70 : decode cX5_cut 70 = .ok (.iload_n 1, 1) := by decide +kernel
theorem dX5_cut_71 : decode cX5_cut 71 = .ok (.iload_n 2, 1) := by decide +kernel
theorem dX5_cut_72 : decode cX5_cut 72 = .ok (.invokevirtual 130, 3) := by decide +kernel
theorem dX5_cut_75 : decode cX5_cut 75 = .ok (.ireturn, 1) := by decide +kernel
theorem dX5_uses_0 : decode cX5_uses 0 = .ok (.aload_n 0, 1) := by decide +kernel
theorem dX5_uses_1 : decode cX5_uses 1 = .ok (.getfield 10, 3) := by decide +kernel
theorem dX5_uses_4 : decode cX5_uses 4 = .ok (.iload_n 1, 1) := by decide +kernel
theorem dX5_uses_5 : decode cX5_uses 5 = .ok (.invokevirtual 84, 3) := by decide +kernel
theorem dX5_uses_8 : decode cX5_uses 8 = .ok (.ifCond .ne 9, 3) := by decide +kernel
theorem dX5_uses_11 : decode cX5_uses 11 = .ok (.aload_n 0, 1) := by decide +kernel
theorem dX5_uses_12 : decode cX5_uses 12 = .ok (.iconst (-1), 1) := by decide +kernel
theorem dX5_uses_13 : decode cX5_uses 13 = .ok (.invokevirtual 51, 3) := by decide +kernel
theorem dX5_uses_16 : decode cX5_uses 16 = .ok (.ireturn, 1) := by decide +kernel
theorem dX5_uses_17 : decode cX5_uses 17 = .ok (.iload_n 2, 1) := by decide +kernel
theorem dX5_uses_18 : decode cX5_uses 18 = .ok (.iconst 1, 1) := by decide +kernel
theorem dX5_uses_19 : decode cX5_uses 19 = .ok (.if_icmp .ge 10, 3) := by decide +kernel
theorem dX5_uses_22 : decode cX5_uses 22 = .ok (.aload_n 0, 1) := by decide +kernel
theorem dX5_uses_23 : decode cX5_uses 23 = .ok (.bipush (-4), 2) := by decide +kernel
theorem dX5_uses_25 : decode cX5_uses 25 = .ok (.invokevirtual 51, 3) := by decide +kernel
theorem dX5_uses_28 : decode cX5_uses 28 = .ok (.ireturn, 1) := by decide +kernel
theorem dX5_uses_29 : decode cX5_uses 29 = .ok (.iload_n 2, 1) := by decide +kernel
theorem dX5_uses_30 : decode cX5_uses 30 = .ok (.bipush 99, 2) := by decide +kernel
theorem dX5_uses_32 : decode cX5_uses 32 = .ok (.if_icmp .gt 18, 3) := by decide +kernel
theorem dX5_uses_35 : decode cX5_uses 35 = .ok (.aload_n 0, 1) := by decide +kernel
theorem dX5_uses_36 : decode cX5_uses 36 = .ok (.getfield 10, 3) := by decide +kernel
theorem dX5_uses_39 : decode cX5_uses 39 = .ok (.getfield 134, 3) := by decide +kernel
theorem dX5_uses_42 : decode cX5_uses 42 = .ok (.iload_n 2, 1) := by decide +kernel
theorem dX5_uses_43 : decode cX5_uses 43 = .ok (.iadd, 1) := by decide +kernel
theorem dX5_uses_44 : decode cX5_uses 44 = .ok (.sipush 9999, 3) := by decide +kernel
theorem dX5_uses_47 : decode cX5_uses 47 = .ok (.if_icmp .le 10, 3) := by decide +kernel
theorem dX5_uses_50 : decode cX5_uses 50 = .ok (.aload_n 0, 1) := by decide +kernel
theorem dX5_uses_51 : decode cX5_uses 51 = .ok (.bipush (-6), 2) := by decide +kernel
theorem dX5_uses_53 : decode cX5_uses 53 = .ok (.invokevirtual 51, 3) := by decide +kernel
theorem dX5_uses_56 : decode cX5_uses 56 = .ok (.ireturn, 1) := by decide +kernel
theorem dX5_uses_57 : decode cX5_uses 57 = .ok (.aload_n 0, 1) := by decide +kernel
theorem dX5_uses_58 : decode cX5_uses 58 = .ok (.getfield 10, 3) := by decide +kernel
theorem dX5_uses_61 : decode cX5_uses 61 = .ok (.getfield 94, 3) := by decide +kernel
theorem dX5_uses_64 : decode cX5_uses 64 = .ok (.iload_n 1, 1) := by decide +kernel
theorem dX5_uses_65 : decode cX5_uses 65 = .ok (.baload, 1) := by decide +kernel
theorem dX5_uses_66 : decode cX5_uses 66 = .ok (.ifCond .eq 10, 3) := by decide +kernel
theorem dX5_uses_69 : decode cX5_uses 69 = .ok (.aload_n 0, 1) := by decide +kernel
theorem dX5_uses_70 : decode cX5_uses 70 = .ok (.bipush (-3), 2) := by decide +kernel
theorem dX5_uses_72 : decode cX5_uses 72 = .ok (.invokevirtual 51, 3) := by decide +kernel
theorem dX5_uses_75 : decode cX5_uses 75 = .ok (.ireturn, 1) := by decide +kernel
theorem dX5_uses_76 : decode cX5_uses 76 = .ok (.aload_n 0, 1) := by decide +kernel
theorem dX5_uses_77 : decode cX5_uses 77 = .ok (.getfield 10, 3) := by decide +kernel
theorem dX5_uses_80 : decode cX5_uses 80 = .ok (.iload_n 1, 1) := by decide +kernel
theorem dX5_uses_81 : decode cX5_uses 81 = .ok (.iload_n 2, 1) := by decide +kernel
theorem dX5_uses_82 : decode cX5_uses 82 = .ok (.invokevirtual 137, 3) := by decide +kernel
theorem dX5_uses_85 : decode cX5_uses 85 = .ok (.aload_n 0, 1) := by decide +kernel
theorem dX5_uses_86 : decode cX5_uses 86 = .ok (.getfield 10, 3) := by decide +kernel
theorem dX5_uses_89 : decode cX5_uses 89 = .ok (.iload_n 1, 1) := by decide +kernel
theorem dX5_uses_90 : decode cX5_uses 90 = .ok (.invokevirtual 98, 3) := by decide +kernel
theorem dX5_uses_93 : decode cX5_uses 93 = .ok (.ifCond .eq 7, 3) := by decide +kernel
theorem dX5_uses_96 : decode cX5_uses 96 = .ok (.iconst 1, 1) := by decide +kernel
theorem dX5_uses_97 : decode cX5_uses 97 = .ok (.goto 4, 3) := by decide +kernel
theorem dX5_uses_100 : decode cX5_uses 100 = .ok (.iconst 0, 1) := by decide +kernel
theorem dX5_uses_101 : decode cX5_uses 101 = .ok (.ireturn, 1) := by decide +kernel
theorem dX5_snaps_0 : decode cX5_snaps 0 = .ok (.aload_n 0, 1) := by decide +kernel
theorem dX5_snaps_1 : decode cX5_snaps 1 = .ok (.getfield 10, 3) := by decide +kernel
theorem dX5_snaps_4 : decode cX5_snaps 4 = .ok (.iload_n 1, 1) := by decide +kernel
theorem dX5_snaps_5 : decode cX5_snaps 5 = .ok (.invokevirtual 84, 3) := by decide +kernel
theorem dX5_snaps_8 : decode cX5_snaps 8 = .ok (.ifCond .ne 9, 3) := by decide +kernel
theorem dX5_snaps_11 : decode cX5_snaps 11 = .ok (.aload_n 0, 1) := by decide +kernel
theorem dX5_snaps_12 : decode cX5_snaps 12 = .ok (.iconst (-1), 1) := by decide +kernel
theorem dX5_snaps_13 : decode cX5_snaps 13 = .ok (.invokevirtual 51, 3) := by decide +kernel
theorem dX5_snaps_16 : decode cX5_snaps 16 = .ok (.ireturn, 1) := by decide +kernel
theorem dX5_snaps_17 : decode cX5_snaps 17 = .ok (.aload_n 0, 1) := by decide +kernel
theorem dX5_snaps_18 : decode cX5_snaps 18 = .ok (.getfield 10, 3) := by decide +kernel
theorem dX5_snaps_21 : decode cX5_snaps 21 = .ok (.getfield 94, 3) := by decide +kernel
theorem dX5_snaps_24 : decode cX5_snaps 24 = .ok (.iload_n 1, 1) := by decide +kernel
theorem dX5_snaps_25 : decode cX5_snaps 25 = .ok (.baload, 1) := by decide +kernel
theorem dX5_snaps_26 : decode cX5_snaps 26 = .ok (.ifCond .eq 10, 3) := by decide +kernel
theorem dX5_snaps_29 : decode cX5_snaps 29 = .ok (.aload_n 0, 1) := by decide +kernel
theorem dX5_snaps_30 : decode cX5_snaps 30 = .ok (.bipush (-3), 2) := by decide +kernel
theorem dX5_snaps_32 : decode cX5_snaps 32 = .ok (.invokevirtual 51, 3) := by decide +kernel
theorem dX5_snaps_35 : decode cX5_snaps 35 = .ok (.ireturn, 1) := by decide +kernel
theorem dX5_snaps_36 : decode cX5_snaps 36 = .ok (.aload_n 0, 1) := by decide +kernel
theorem dX5_snaps_37 : decode cX5_snaps 37 = .ok (.getfield 10, 3) := by decide +kernel
theorem dX5_snaps_40 : decode cX5_snaps 40 = .ok (.getfield 94, 3) := by decide +kernel
theorem dX5_snaps_43 : decode cX5_snaps 43 = .ok (.iload_n 1, 1) := by decide +kernel
theorem dX5_snaps_44 : decode cX5_snaps 44 = .ok (.iconst 1, 1) := by decide +kernel
theorem dX5_snaps_45 : decode cX5_snaps 45 = .ok (.bastore, 1) := by decide +kernel
theorem dX5_snaps_46 : decode cX5_snaps 46 = .ok (.aload_n 0, 1) := by decide +kernel
theorem dX5_snaps_47 : decode cX5_snaps 47 = .ok (.getfield 10, 3) := by decide +kernel
theorem dX5_snaps_50 : decode cX5_snaps 50 = .ok (.getfield 127, 3) := by decide +kernel
theorem dX5_snaps_53 : decode cX5_snaps 53 = .ok (.aload_n 0, 1) := by decide +kernel
theorem dX5_snaps_54 : decode cX5_snaps 54 = .ok (.getfield 10, 3) := by decide +kernel
theorem dX5_snaps_57 : decode cX5_snaps 57 = .ok (.invokevirtual 141, 3) := by decide +kernel
theorem dX5_snaps_60 : decode cX5_snaps 60 = .ok (.invokestatic 144, 3) := by decide +kernel
theorem dX5_snaps_63 : decode cX5_snaps 63 = .ok (.isub, 1) := by decide +kernel
theorem dX5_snaps_64 : decode cX5_snaps 64 = .ok (.ireturn, 1) := by decide +kernel
theorem dX5_opening_0 : decode cX5_opening 0 = .ok (.aload_n 0, 1) := by decide +kernel
theorem dX5_opening_1 : decode cX5_opening 1 = .ok (.getfield 10, 3) := by decide +kernel
theorem dX5_opening_4 : decode cX5_opening 4 = .ok (.invokevirtual 149, 3) := by decide +kernel
theorem dX5_opening_7 : decode cX5_opening 7 = .ok (.ireturn, 1) := by decide +kernel
theorem dX5_family_0 : decode cX5_family 0 = .ok (.aload_n 0, 1) := by decide +kernel
theorem dX5_family_1 : decode cX5_family 1 = .ok (.getfield 10, 3) := by decide +kernel
theorem dX5_family_4 : decode cX5_family 4 = .ok (.iload_n 1, 1) := by decide +kernel
theorem dX5_family_5 : decode cX5_family 5 = .ok (.invokevirtual 84, 3) := by decide +kernel
theorem dX5_family_8 : decode cX5_family 8 = .ok (.ifCond .ne 9, 3) := by decide +kernel
theorem dX5_family_11 : decode cX5_family 11 = .ok (.aload_n 0, 1) := by decide +kernel
theorem dX5_family_12 : decode cX5_family 12 = .ok (.iconst (-1), 1) := by decide +kernel
theorem dX5_family_13 : decode cX5_family 13 = .ok (.invokevirtual 51, 3) := by decide +kernel
theorem dX5_family_16 : decode cX5_family 16 = .ok (.ireturn, 1) := by decide +kernel
theorem dX5_family_17 : decode cX5_family 17 = .ok (.iload_n 2, 1) := by decide +kernel
theorem dX5_family_18 : decode cX5_family 18 = .ok (.tableswitch 66 0 3 #[30, 39, 48, 57], 30) := by decide +kernel
theorem dX5_family_48 : decode cX5_family 48 = .ok (.aload_n 0, 1) := by decide +kernel
theorem dX5_family_49 : decode cX5_family 49 = .ok (.getfield 10, 3) := by decide +kernel
theorem dX5_family_52 : decode cX5_family 52 = .ok (.iload_n 1, 1) := by decide +kernel
theorem dX5_family_53 : decode cX5_family 53 = .ok (.invokestatic 152, 3) := by decide +kernel
theorem dX5_family_56 : decode cX5_family 56 = .ok (.ireturn, 1) := by decide +kernel
theorem dX5_family_57 : decode cX5_family 57 = .ok (.aload_n 0, 1) := by decide +kernel
theorem dX5_family_58 : decode cX5_family 58 = .ok (.getfield 10, 3) := by decide +kernel
theorem dX5_family_61 : decode cX5_family 61 = .ok (.iload_n 1, 1) := by decide +kernel
theorem dX5_family_62 : decode cX5_family 62 = .ok (.invokestatic 158, 3) := by decide +kernel
theorem dX5_family_65 : decode cX5_family 65 = .ok (.ireturn, 1) := by decide +kernel
theorem dX5_family_66 : decode cX5_family 66 = .ok (.aload_n 0, 1) := by decide +kernel
theorem dX5_family_67 : decode cX5_family 67 = .ok (.getfield 10, 3) := by decide +kernel
theorem dX5_family_70 : decode cX5_family 70 = .ok (.iload_n 1, 1) := by decide +kernel
theorem dX5_family_71 : decode cX5_family 71 = .ok (.invokestatic 161, 3) := by decide +kernel
theorem dX5_family_74 : decode cX5_family 74 = .ok (.ireturn, 1) := by decide +kernel
theorem dX5_family_75 : decode cX5_family 75 = .ok (.aload_n 0, 1) := by decide +kernel
theorem dX5_family_76 : decode cX5_family 76 = .ok (.getfield 10, 3) := by decide +kernel
theorem dX5_family_79 : decode cX5_family 79 = .ok (.iload_n 1, 1) := by decide +kernel
theorem dX5_family_80 : decode cX5_family 80 = .ok (.invokestatic 164, 3) := by decide +kernel
theorem dX5_family_83 : decode cX5_family 83 = .ok (.ireturn, 1) := by decide +kernel
theorem dX5_family_84 : decode cX5_family 84 = .ok (.aload_n 0, 1) := by decide +kernel
theorem dX5_family_85 : decode cX5_family 85 = .ok (.bipush (-2), 2) := by decide +kernel
theorem dX5_family_87 : decode cX5_family 87 = .ok (.invokevirtual 51, 3) := by decide +kernel
theorem dX5_family_90 : decode cX5_family 90 = .ok (.ireturn, 1) := by decide +kernel
theorem dX5_common_0 : decode cX5_common 0 = .ok (.aload_n 0, 1) := by decide +kernel
theorem dX5_common_1 : decode cX5_common 1 = .ok (.getfield 10, 3) := by decide +kernel
theorem dX5_common_4 : decode cX5_common 4 = .ok (.iload_n 1, 1) := by decide +kernel
theorem dX5_common_5 : decode cX5_common 5 = .ok (.invokevirtual 84, 3) := by decide +kernel
theorem dX5_common_8 : decode cX5_common 8 = .ok (.ifCond .eq 14, 3) := by decide +kernel
theorem dX5_common_11 : decode cX5_common 11 = .ok (.aload_n 0, 1) := by decide +kernel
theorem dX5_common_12 : decode cX5_common 12 = .ok (.getfield 10, 3) := by decide +kernel
theorem dX5_common_15 : decode cX5_common 15 = .ok (.iload_n 2, 1) := by decide +kernel
theorem dX5_common_16 : decode cX5_common 16 = .ok (.invokevirtual 84, 3) := by decide +kernel
theorem dX5_common_19 : decode cX5_common 19 = .ok (.ifCond .ne 9, 3) := by decide +kernel
theorem dX5_common_22 : decode cX5_common 22 = .ok (.aload_n 0, 1) := by decide +kernel
theorem dX5_common_23 : decode cX5_common 23 = .ok (.iconst (-1), 1) := by decide +kernel
theorem dX5_common_24 : decode cX5_common 24 = .ok (.invokevirtual 51, 3) := by decide +kernel
theorem dX5_common_27 : decode cX5_common 27 = .ok (.ireturn, 1) := by decide +kernel
theorem dX5_common_28 : decode cX5_common 28 = .ok (.aload_n 0, 1) := by decide +kernel
theorem dX5_common_29 : decode cX5_common 29 = .ok (.getfield 10, 3) := by decide +kernel
theorem dX5_common_32 : decode cX5_common 32 = .ok (.iload_n 1, 1) := by decide +kernel
theorem dX5_common_33 : decode cX5_common 33 = .ok (.iload_n 2, 1) := by decide +kernel
theorem dX5_common_34 : decode cX5_common 34 = .ok (.invokestatic 167, 3) := by decide +kernel
theorem dX5_common_37 : decode cX5_common 37 = .ok (.ireturn, 1) := by decide +kernel
theorem dX5_nearest_0 : decode cX5_nearest 0 = .ok (.aload_n 0, 1) := by decide +kernel
theorem dX5_nearest_1 : decode cX5_nearest 1 = .ok (.getfield 10, 3) := by decide +kernel
theorem dX5_nearest_4 : decode cX5_nearest 4 = .ok (.invokevirtual 171, 3) := by decide +kernel
theorem dX5_nearest_7 : decode cX5_nearest 7 = .ok (.ireturn, 1) := by decide +kernel
theorem dX5_next_0 : decode cX5_next 0 = .ok (.iload_n 1, 1) := by decide +kernel
theorem dX5_next_1 : decode cX5_next 1 = .ok (.invokestatic 111, 3) := by decide +kernel
theorem dX5_next_4 : decode cX5_next 4 = .ok (.ifCond .ne 10, 3) := by decide +kernel
theorem dX5_next_7 : decode cX5_next 7 = .ok (.aload_n 0, 1) := by decide +kernel
theorem dX5_next_8 : decode cX5_next 8 = .ok (.bipush (-2), 2) := by decide +kernel
theorem dX5_next_10 : decode cX5_next 10 = .ok (.invokevirtual 51, 3) := by decide +kernel
theorem dX5_next_13 : decode cX5_next 13 = .ok (.ireturn, 1) := by decide +kernel
theorem dX5_next_14 : decode cX5_next 14 = .ok (.aload_n 0, 1) := by decide +kernel
theorem dX5_next_15 : decode cX5_next 15 = .ok (.getfield 29, 3) := by decide +kernel
theorem dX5_next_18 : decode cX5_next 18 = .ok (.aload_n 0, 1) := by decide +kernel
theorem dX5_next_19 : decode cX5_next 19 = .ok (.getfield 10, 3) := by decide +kernel
theorem dX5_next_22 : decode cX5_next 22 = .ok (.iload_n 1, 1) := by decide +kernel
theorem dX5_next_23 : decode cX5_next 23 = .ok (.iconst 1, 1) := by decide +kernel
theorem dX5_next_24 : decode cX5_next 24 = .ok (.if_icmp .ne 7, 3) := by decide +kernel
theorem dX5_next_27 : decode cX5_next 27 = .ok (.iconst 1, 1) := by decide +kernel
theorem dX5_next_28 : decode cX5_next 28 = .ok (.goto 4, 3) := by decide +kernel
theorem dX5_next_31 : decode cX5_next 31 = .ok (.iconst 0, 1) := by decide +kernel
theorem dX5_next_32 : decode cX5_next 32 = .ok (.invokevirtual 174, 3) := by decide +kernel
theorem dX5_next_35 : decode cX5_next 35 = .ok (.ireturn, 1) := by decide +kernel
theorem dX5_inRow_0 : decode cX5_inRow 0 = .ok (.aload_n 0, 1) := by decide +kernel
theorem dX5_inRow_1 : decode cX5_inRow 1 = .ok (.getfield 10, 3) := by decide +kernel
theorem dX5_inRow_4 : decode cX5_inRow 4 = .ok (.iload_n 1, 1) := by decide +kernel
theorem dX5_inRow_5 : decode cX5_inRow 5 = .ok (.invokevirtual 84, 3) := by decide +kernel
theorem dX5_inRow_8 : decode cX5_inRow 8 = .ok (.ifCond .eq 14, 3) := by decide +kernel
theorem dX5_inRow_11 : decode cX5_inRow 11 = .ok (.aload_n 0, 1) := by decide +kernel
theorem dX5_inRow_12 : decode cX5_inRow 12 = .ok (.getfield 10, 3) := by decide +kernel
theorem dX5_inRow_15 : decode cX5_inRow 15 = .ok (.iload_n 2, 1) := by decide +kernel
theorem dX5_inRow_16 : decode cX5_inRow 16 = .ok (.invokevirtual 108, 3) := by decide +kernel
theorem dX5_inRow_19 : decode cX5_inRow 19 = .ok (.ifCond .ne 9, 3) := by decide +kernel
theorem dX5_inRow_22 : decode cX5_inRow 22 = .ok (.aload_n 0, 1) := by decide +kernel
theorem dX5_inRow_23 : decode cX5_inRow 23 = .ok (.iconst (-1), 1) := by decide +kernel
theorem dX5_inRow_24 : decode cX5_inRow 24 = .ok (.invokevirtual 51, 3) := by decide +kernel
theorem dX5_inRow_27 : decode cX5_inRow 27 = .ok (.ireturn, 1) := by decide +kernel
theorem dX5_inRow_28 : decode cX5_inRow 28 = .ok (.iload_n 3, 1) := by decide +kernel
theorem dX5_inRow_29 : decode cX5_inRow 29 = .ok (.invokestatic 111, 3) := by decide +kernel
theorem dX5_inRow_32 : decode cX5_inRow 32 = .ok (.ifCond .ne 10, 3) := by decide +kernel
theorem dX5_inRow_35 : decode cX5_inRow 35 = .ok (.aload_n 0, 1) := by decide +kernel
theorem dX5_inRow_36 : decode cX5_inRow 36 = .ok (.bipush (-2), 2) := by decide +kernel
theorem dX5_inRow_38 : decode cX5_inRow 38 = .ok (.invokevirtual 51, 3) := by decide +kernel
theorem dX5_inRow_41 : decode cX5_inRow 41 = .ok (.ireturn, 1) := by decide +kernel
theorem dX5_inRow_42 : decode cX5_inRow 42 = .ok (.iload_n 3, 1) := by decide +kernel
theorem dX5_inRow_43 : decode cX5_inRow 43 = .ok (.ifCond .ne 19, 3) := by decide +kernel
theorem dX5_inRow_46 : decode cX5_inRow 46 = .ok (.aload_n 0, 1) := by decide +kernel
theorem dX5_inRow_47 : decode cX5_inRow 47 = .ok (.getfield 29, 3) := by decide +kernel
theorem dX5_inRow_50 : decode cX5_inRow 50 = .ok (.aload_n 0, 1) := by decide +kernel
theorem dX5_inRow_51 : decode cX5_inRow 51 = .ok (.getfield 10, 3) := by decide +kernel
theorem dX5_inRow_54 : decode cX5_inRow 54 = .ok (.iload_n 1, 1) := by decide +kernel
theorem dX5_inRow_55 : decode cX5_inRow 55 = .ok (.iload_n 2, 1) := by decide +kernel
theorem dX5_inRow_56 : decode cX5_inRow 56 = .ok (.invokevirtual 178, 3) := by decide +kernel
theorem dX5_inRow_59 : decode cX5_inRow 59 = .ok (.goto 16, 3) := by decide +kernel
theorem dX5_inRow_62 : decode cX5_inRow 62 = .ok (.aload_n 0, 1) := by decide +kernel
theorem dX5_inRow_63 : decode cX5_inRow 63 = .ok (.getfield 29, 3) := by decide +kernel
theorem dX5_inRow_66 : decode cX5_inRow 66 = .ok (.aload_n 0, 1) := by decide +kernel
theorem dX5_inRow_67 : decode cX5_inRow 67 = .ok (.getfield 10, 3) := by decide +kernel
theorem dX5_inRow_70 : decode cX5_inRow 70 = .ok (.iload_n 1, 1) := by decide +kernel
theorem dX5_inRow_71 : decode cX5_inRow 71 = .ok (.iload_n 2, 1) := by decide +kernel
theorem dX5_inRow_72 : decode cX5_inRow 72 = .ok (.invokevirtual 181, 3) := by decide +kernel
theorem dX5_inRow_75 : decode cX5_inRow 75 = .ok (.ireturn, 1) := by decide +kernel
theorem dX5_lasts_0 : decode cX5_lasts 0 = .ok (.aload_n 0, 1) := by decide +kernel
theorem dX5_lasts_1 : decode cX5_lasts 1 = .ok (.getfield 10, 3) := by decide +kernel
theorem dX5_lasts_4 : decode cX5_lasts 4 = .ok (.iload_n 1, 1) := by decide +kernel
theorem dX5_lasts_5 : decode cX5_lasts 5 = .ok (.invokevirtual 84, 3) := by decide +kernel
theorem dX5_lasts_8 : decode cX5_lasts 8 = .ok (.ifCond .ne 9, 3) := by decide +kernel
theorem dX5_lasts_11 : decode cX5_lasts 11 = .ok (.aload_n 0, 1) := by decide +kernel
theorem dX5_lasts_12 : decode cX5_lasts 12 = .ok (.iconst (-1), 1) := by decide +kernel
theorem dX5_lasts_13 : decode cX5_lasts 13 = .ok (.invokevirtual 51, 3) := by decide +kernel
theorem dX5_lasts_16 : decode cX5_lasts 16 = .ok (.ireturn, 1) := by decide +kernel
theorem dX5_lasts_17 : decode cX5_lasts 17 = .ok (.aload_n 0, 1) := by decide +kernel
theorem dX5_lasts_18 : decode cX5_lasts 18 = .ok (.getfield 29, 3) := by decide +kernel
theorem dX5_lasts_21 : decode cX5_lasts 21 = .ok (.aload_n 0, 1) := by decide +kernel
theorem dX5_lasts_22 : decode cX5_lasts 22 = .ok (.getfield 10, 3) := by decide +kernel
theorem dX5_lasts_25 : decode cX5_lasts 25 = .ok (.iload_n 1, 1) := by decide +kernel
theorem dX5_lasts_26 : decode cX5_lasts 26 = .ok (.invokevirtual 184, 3) := by decide +kernel
theorem dX5_lasts_29 : decode cX5_lasts 29 = .ok (.ireturn, 1) := by decide +kernel
theorem dX5_fit_0 : decode cX5_fit 0 = .ok (.aload_n 0, 1) := by decide +kernel
theorem dX5_fit_1 : decode cX5_fit 1 = .ok (.getfield 10, 3) := by decide +kernel
theorem dX5_fit_4 : decode cX5_fit 4 = .ok (.iload_n 1, 1) := by decide +kernel
theorem dX5_fit_5 : decode cX5_fit 5 = .ok (.invokevirtual 84, 3) := by decide +kernel
theorem dX5_fit_8 : decode cX5_fit 8 = .ok (.ifCond .ne 9, 3) := by decide +kernel
theorem dX5_fit_11 : decode cX5_fit 11 = .ok (.aload_n 0, 1) := by decide +kernel
theorem dX5_fit_12 : decode cX5_fit 12 = .ok (.iconst (-1), 1) := by decide +kernel
theorem dX5_fit_13 : decode cX5_fit 13 = .ok (.invokevirtual 51, 3) := by decide +kernel
theorem dX5_fit_16 : decode cX5_fit 16 = .ok (.ireturn, 1) := by decide +kernel
theorem dX5_fit_17 : decode cX5_fit 17 = .ok (.aload_n 0, 1) := by decide +kernel
theorem dX5_fit_18 : decode cX5_fit 18 = .ok (.getfield 10, 3) := by decide +kernel
theorem dX5_fit_21 : decode cX5_fit 21 = .ok (.aload_n 0, 1) := by decide +kernel
theorem dX5_fit_22 : decode cX5_fit 22 = .ok (.getfield 10, 3) := by decide +kernel
theorem dX5_fit_25 : decode cX5_fit 25 = .ok (.getfield 87, 3) := by decide +kernel
theorem dX5_fit_28 : decode cX5_fit 28 = .ok (.iload_n 1, 1) := by decide +kernel
theorem dX5_fit_29 : decode cX5_fit 29 = .ok (.aaload, 1) := by decide +kernel
theorem dX5_fit_30 : decode cX5_fit 30 = .ok (.invokevirtual 105, 3) := by decide +kernel
theorem dX5_fit_33 : decode cX5_fit 33 = .ok (.istore_n 2, 1) := by decide +kernel
theorem dX5_fit_34 : decode cX5_fit 34 = .ok (.aload_n 0, 1) := by decide +kernel
theorem dX5_fit_35 : decode cX5_fit 35 = .ok (.getfield 10, 3) := by decide +kernel
theorem dX5_fit_38 : decode cX5_fit 38 = .ok (.getfield 87, 3) := by decide +kernel
theorem dX5_fit_41 : decode cX5_fit 41 = .ok (.iload_n 1, 1) := by decide +kernel
theorem dX5_fit_42 : decode cX5_fit 42 = .ok (.aaload, 1) := by decide +kernel
theorem dX5_fit_43 : decode cX5_fit 43 = .ok (.iload_n 2, 1) := by decide +kernel
theorem dX5_fit_44 : decode cX5_fit 44 = .ok (.iaload, 1) := by decide +kernel
theorem dX5_fit_45 : decode cX5_fit 45 = .ok (.aload_n 0, 1) := by decide +kernel
theorem dX5_fit_46 : decode cX5_fit 46 = .ok (.getfield 10, 3) := by decide +kernel
theorem dX5_fit_49 : decode cX5_fit 49 = .ok (.getfield 81, 3) := by decide +kernel
theorem dX5_fit_52 : decode cX5_fit 52 = .ok (.iload_n 2, 1) := by decide +kernel
theorem dX5_fit_53 : decode cX5_fit 53 = .ok (.iaload, 1) := by decide +kernel
theorem dX5_fit_54 : decode cX5_fit 54 = .ok (.isub, 1) := by decide +kernel
theorem dX5_fit_55 : decode cX5_fit 55 = .ok (.invokestatic 187, 3) := by decide +kernel
theorem dX5_fit_58 : decode cX5_fit 58 = .ok (.ireturn, 1) := by decide +kernel
theorem dX5_anew_0 : decode cX5_anew 0 = .ok (.iload_n 1, 1) := by decide +kernel
theorem dX5_anew_1 : decode cX5_anew 1 = .ok (.iconst (-1), 1) := by decide +kernel
theorem dX5_anew_2 : decode cX5_anew 2 = .ok (.if_icmp .ne 15, 3) := by decide +kernel
theorem dX5_anew_5 : decode cX5_anew 5 = .ok (.aload_n 0, 1) := by decide +kernel
theorem dX5_anew_6 : decode cX5_anew 6 = .ok (.getfield 29, 3) := by decide +kernel
theorem dX5_anew_9 : decode cX5_anew 9 = .ok (.aload_n 0, 1) := by decide +kernel
theorem dX5_anew_10 : decode cX5_anew 10 = .ok (.getfield 10, 3) := by decide +kernel
theorem dX5_anew_13 : decode cX5_anew 13 = .ok (.invokevirtual 192, 3) := by decide +kernel
theorem dX5_anew_16 : decode cX5_anew 16 = .ok (.ireturn, 1) := by decide +kernel
theorem dX5_anew_17 : decode cX5_anew 17 = .ok (.iload_n 1, 1) := by decide +kernel
theorem dX5_anew_18 : decode cX5_anew 18 = .ok (.invokestatic 77, 3) := by decide +kernel
theorem dX5_anew_21 : decode cX5_anew 21 = .ok (.ifCond .ne 9, 3) := by decide +kernel
theorem dX5_anew_24 : decode cX5_anew 24 = .ok (.aload_n 0, 1) := by decide +kernel
theorem dX5_anew_25 : decode cX5_anew 25 = .ok (.iconst (-1), 1) := by decide +kernel
theorem dX5_anew_26 : decode cX5_anew 26 = .ok (.invokevirtual 51, 3) := by decide +kernel
theorem dX5_anew_29 : decode cX5_anew 29 = .ok (.ireturn, 1) := by decide +kernel
theorem dX5_anew_30 : decode cX5_anew 30 = .ok (.aload_n 0, 1) := by decide +kernel
theorem dX5_anew_31 : decode cX5_anew 31 = .ok (.getfield 29, 3) := by decide +kernel
theorem dX5_anew_34 : decode cX5_anew 34 = .ok (.aload_n 0, 1) := by decide +kernel
theorem dX5_anew_35 : decode cX5_anew 35 = .ok (.getfield 10, 3) := by decide +kernel
theorem dX5_anew_38 : decode cX5_anew 38 = .ok (.iload_n 1, 1) := by decide +kernel
theorem dX5_anew_39 : decode cX5_anew 39 = .ok (.invokevirtual 195, 3) := by decide +kernel
theorem dX5_anew_42 : decode cX5_anew 42 = .ok (.ireturn, 1) := by decide +kernel
theorem dX5_first_0 : decode cX5_first 0 = .ok (.iload_n 1, 1) := by decide +kernel
theorem dX5_first_1 : decode cX5_first 1 = .ok (.iconst 1, 1) := by decide +kernel
theorem dX5_first_2 : decode cX5_first 2 = .ok (.aload_n 0, 1) := by decide +kernel
theorem dX5_first_3 : decode cX5_first 3 = .ok (.getfield 10, 3) := by decide +kernel
theorem dX5_first_6 : decode cX5_first 6 = .ok (.invokevirtual 198, 3) := by decide +kernel
theorem dX5_first_9 : decode cX5_first 9 = .ok (.invokestatic 120, 3) := by decide +kernel
theorem dX5_first_12 : decode cX5_first 12 = .ok (.istore_n 3, 1) := by decide +kernel
theorem dX5_first_13 : decode cX5_first 13 = .ok (.iload_n 3, 1) := by decide +kernel
theorem dX5_first_14 : decode cX5_first 14 = .ok (.ifCond .eq 9, 3) := by decide +kernel
theorem dX5_first_17 : decode cX5_first 17 = .ok (.aload_n 0, 1) := by decide +kernel
theorem dX5_first_18 : decode cX5_first 18 = .ok (.iload_n 3, 1) := by decide +kernel
theorem dX5_first_19 : decode cX5_first 19 = .ok (.invokevirtual 51, 3) := by decide +kernel
theorem dX5_first_22 : decode cX5_first 22 = .ok (.ireturn, 1) := by decide +kernel
theorem dX5_first_23 : decode cX5_first 23 = .ok (.iload_n 2, 1) := by decide +kernel
theorem dX5_first_24 : decode cX5_first 24 = .ok (.invokestatic 77, 3) := by decide +kernel
theorem dX5_first_27 : decode cX5_first 27 = .ok (.ifCond .ne 9, 3) := by decide +kernel
theorem dX5_first_30 : decode cX5_first 30 = .ok (.aload_n 0, 1) := by decide +kernel
theorem dX5_first_31 : decode cX5_first 31 = .ok (.iconst (-1), 1) := by decide +kernel
theorem dX5_first_32 : decode cX5_first 32 = .ok (.invokevirtual 51, 3) := by decide +kernel
theorem dX5_first_35 : decode cX5_first 35 = .ok (.ireturn, 1) := by decide +kernel
theorem dX5_first_36 : decode cX5_first 36 = .ok (.aload_n 0, 1) := by decide +kernel
theorem dX5_first_37 : decode cX5_first 37 = .ok (.getfield 29, 3) := by decide +kernel
theorem dX5_first_40 : decode cX5_first 40 = .ok (.aload_n 0, 1) := by decide +kernel
theorem dX5_first_41 : decode cX5_first 41 = .ok (.getfield 10, 3) := by decide +kernel
theorem dX5_first_44 : decode cX5_first 44 = .ok (.iload_n 1, 1) := by decide +kernel
theorem dX5_first_45 : decode cX5_first 45 = .ok (.iload_n 2, 1) := by decide +kernel
theorem dX5_first_46 : decode cX5_first 46 = .ok (.invokevirtual 201, 3) := by decide +kernel
theorem dX5_first_49 : decode cX5_first 49 = .ok (.ireturn, 1) := by decide +kernel
theorem dX5_unlike_0 : decode cX5_unlike 0 = .ok (.iload_n 1, 1) := by decide +kernel
theorem dX5_unlike_1 : decode cX5_unlike 1 = .ok (.iconst 1, 1) := by decide +kernel
theorem dX5_unlike_2 : decode cX5_unlike 2 = .ok (.aload_n 0, 1) := by decide +kernel
theorem dX5_unlike_3 : decode cX5_unlike 3 = .ok (.getfield 10, 3) := by decide +kernel
theorem dX5_unlike_6 : decode cX5_unlike 6 = .ok (.invokevirtual 198, 3) := by decide +kernel
theorem dX5_unlike_9 : decode cX5_unlike 9 = .ok (.invokestatic 120, 3) := by decide +kernel
theorem dX5_unlike_12 : decode cX5_unlike 12 = .ok (.istore_n 3, 1) := by decide +kernel
theorem dX5_unlike_13 : decode cX5_unlike 13 = .ok (.iload_n 3, 1) := by decide +kernel
theorem dX5_unlike_14 : decode cX5_unlike 14 = .ok (.ifCond .eq 9, 3) := by decide +kernel
theorem dX5_unlike_17 : decode cX5_unlike 17 = .ok (.aload_n 0, 1) := by decide +kernel
theorem dX5_unlike_18 : decode cX5_unlike 18 = .ok (.iload_n 3, 1) := by decide +kernel
theorem dX5_unlike_19 : decode cX5_unlike 19 = .ok (.invokevirtual 51, 3) := by decide +kernel
theorem dX5_unlike_22 : decode cX5_unlike 22 = .ok (.ireturn, 1) := by decide +kernel
theorem dX5_unlike_23 : decode cX5_unlike 23 = .ok (.aload_n 0, 1) := by decide +kernel
theorem dX5_unlike_24 : decode cX5_unlike 24 = .ok (.getfield 10, 3) := by decide +kernel
theorem dX5_unlike_27 : decode cX5_unlike 27 = .ok (.iload_n 2, 1) := by decide +kernel
theorem dX5_unlike_28 : decode cX5_unlike 28 = .ok (.invokevirtual 84, 3) := by decide +kernel
theorem dX5_unlike_31 : decode cX5_unlike 31 = .ok (.ifCond .ne 9, 3) := by decide +kernel
theorem dX5_unlike_34 : decode cX5_unlike 34 = .ok (.aload_n 0, 1) := by decide +kernel
theorem dX5_unlike_35 : decode cX5_unlike 35 = .ok (.iconst (-1), 1) := by decide +kernel
theorem dX5_unlike_36 : decode cX5_unlike 36 = .ok (.invokevirtual 51, 3) := by decide +kernel
theorem dX5_unlike_39 : decode cX5_unlike 39 = .ok (.ireturn, 1) := by decide +kernel
theorem dX5_unlike_40 : decode cX5_unlike 40 = .ok (.aload_n 0, 1) := by decide +kernel
theorem dX5_unlike_41 : decode cX5_unlike 41 = .ok (.getfield 29, 3) := by decide +kernel
theorem dX5_unlike_44 : decode cX5_unlike 44 = .ok (.aload_n 0, 1) := by decide +kernel
theorem dX5_unlike_45 : decode cX5_unlike 45 = .ok (.getfield 10, 3) := by decide +kernel
theorem dX5_unlike_48 : decode cX5_unlike 48 = .ok (.iload_n 1, 1) := by decide +kernel
theorem dX5_unlike_49 : decode cX5_unlike 49 = .ok (.iload_n 2, 1) := by decide +kernel
theorem dX5_unlike_50 : decode cX5_unlike 50 = .ok (.invokevirtual 204, 3) := by decide +kernel
theorem dX5_unlike_53 : decode cX5_unlike 53 = .ok (.ireturn, 1) := by decide +kernel
theorem dX5_mend_0 : decode cX5_mend 0 = .ok (.aload_n 0, 1) := by decide +kernel
theorem dX5_mend_1 : decode cX5_mend 1 = .ok (.getfield 10, 3) := by decide +kernel
theorem dX5_mend_4 : decode cX5_mend 4 = .ok (.iload_n 1, 1) := by decide +kernel
theorem dX5_mend_5 : decode cX5_mend 5 = .ok (.invokevirtual 84, 3) := by decide +kernel
theorem dX5_mend_8 : decode cX5_mend 8 = .ok (.ifCond .ne 12, 3) := by decide +kernel
theorem dX5_mend_11 : decode cX5_mend 11 = .ok (.ldc 207, 2) := by decide +kernel
theorem dX5_mend_13 : decode cX5_mend 13 = .ok (.aload_n 0, 1) := by decide +kernel
theorem dX5_mend_14 : decode cX5_mend 14 = .ok (.iconst (-1), 1) := by decide +kernel
theorem dX5_mend_15 : decode cX5_mend 15 = .ok (.invokevirtual 51, 3) := by decide +kernel
theorem dX5_mend_18 : decode cX5_mend 18 = .ok (.isub, 1) := by decide +kernel
theorem dX5_mend_19 : decode cX5_mend 19 = .ok (.ireturn, 1) := by decide +kernel
theorem dX5_mend_20 : decode cX5_mend 20 = .ok (.aload_n 0, 1) := by decide +kernel
theorem dX5_mend_21 : decode cX5_mend 21 = .ok (.getfield 29, 3) := by decide +kernel
theorem dX5_mend_24 : decode cX5_mend 24 = .ok (.aload_n 0, 1) := by decide +kernel
theorem dX5_mend_25 : decode cX5_mend 25 = .ok (.getfield 10, 3) := by decide +kernel
theorem dX5_mend_28 : decode cX5_mend 28 = .ok (.iload_n 1, 1) := by decide +kernel
theorem dX5_mend_29 : decode cX5_mend 29 = .ok (.invokevirtual 208, 3) := by decide +kernel
theorem dX5_mend_32 : decode cX5_mend 32 = .ok (.ireturn, 1) := by decide +kernel
theorem dX5_line_0 : decode cX5_line 0 = .ok (.aload_n 0, 1) := by decide +kernel
theorem dX5_line_1 : decode cX5_line 1 = .ok (.getfield 10, 3) := by decide +kernel
theorem dX5_line_4 : decode cX5_line 4 = .ok (.iload_n 1, 1) := by decide +kernel
theorem dX5_line_5 : decode cX5_line 5 = .ok (.invokevirtual 84, 3) := by decide +kernel
theorem dX5_line_8 : decode cX5_line 8 = .ok (.ifCond .ne 9, 3) := by decide +kernel
theorem dX5_line_11 : decode cX5_line 11 = .ok (.aload_n 0, 1) := by decide +kernel
theorem dX5_line_12 : decode cX5_line 12 = .ok (.iconst (-1), 1) := by decide +kernel
theorem dX5_line_13 : decode cX5_line 13 = .ok (.invokevirtual 51, 3) := by decide +kernel
theorem dX5_line_16 : decode cX5_line 16 = .ok (.ireturn, 1) := by decide +kernel
theorem dX5_line_17 : decode cX5_line 17 = .ok (.aload_n 0, 1) := by decide +kernel
theorem dX5_line_18 : decode cX5_line 18 = .ok (.getfield 10, 3) := by decide +kernel
theorem dX5_line_21 : decode cX5_line 21 = .ok (.iload_n 1, 1) := by decide +kernel
theorem dX5_line_22 : decode cX5_line 22 = .ok (.invokestatic 211, 3) := by decide +kernel
theorem dX5_line_25 : decode cX5_line 25 = .ok (.ireturn, 1) := by decide +kernel
theorem dX5_bestLine_0 : decode cX5_bestLine 0 = .ok (.aload_n 0, 1) := by decide +kernel
theorem dX5_bestLine_1 : decode cX5_bestLine 1 = .ok (.getfield 10, 3) := by decide +kernel
theorem dX5_bestLine_4 : decode cX5_bestLine 4 = .ok (.invokestatic 214, 3) := by decide +kernel
theorem dX5_bestLine_7 : decode cX5_bestLine 7 = .ok (.ireturn, 1) := by decide +kernel
theorem dX5_ask_0 : decode cX5_ask 0 = .ok (.aload_n 0, 1) := by decide +kernel
theorem dX5_ask_1 : decode cX5_ask 1 = .ok (.getfield 10, 3) := by decide +kernel
theorem dX5_ask_4 : decode cX5_ask 4 = .ok (.iload_n 1, 1) := by decide +kernel
theorem dX5_ask_5 : decode cX5_ask 5 = .ok (.invokevirtual 84, 3) := by decide +kernel
theorem dX5_ask_8 : decode cX5_ask 8 = .ok (.ifCond .ne 9, 3) := by decide +kernel
theorem dX5_ask_11 : decode cX5_ask 11 = .ok (.aload_n 0, 1) := by decide +kernel
theorem dX5_ask_12 : decode cX5_ask 12 = .ok (.iconst (-1), 1) := by decide +kernel
theorem dX5_ask_13 : decode cX5_ask 13 = .ok (.invokevirtual 51, 3) := by decide +kernel
theorem dX5_ask_16 : decode cX5_ask 16 = .ok (.ireturn, 1) := by decide +kernel
theorem dX5_ask_17 : decode cX5_ask 17 = .ok (.aload_n 0, 1) := by decide +kernel
theorem dX5_ask_18 : decode cX5_ask 18 = .ok (.getfield 10, 3) := by decide +kernel
theorem dX5_ask_21 : decode cX5_ask 21 = .ok (.iload_n 1, 1) := by decide +kernel
theorem dX5_ask_22 : decode cX5_ask 22 = .ok (.invokestatic 217, 3) := by decide +kernel
theorem dX5_ask_25 : decode cX5_ask 25 = .ok (.ireturn, 1) := by decide +kernel
theorem dX5_spare_0 : decode cX5_spare 0 = .ok (.aload_n 0, 1) := by decide +kernel
theorem dX5_spare_1 : decode cX5_spare 1 = .ok (.getfield 29, 3) := by decide +kernel
theorem dX5_spare_4 : decode cX5_spare 4 = .ok (.aload_n 0, 1) := by decide +kernel
theorem dX5_spare_5 : decode cX5_spare 5 = .ok (.getfield 10, 3) := by decide +kernel
theorem dX5_spare_8 : decode cX5_spare 8 = .ok (.invokevirtual 220, 3) := by decide +kernel
theorem dX5_spare_11 : decode cX5_spare 11 = .ok (.ireturn, 1) := by decide +kernel
theorem dX5_slip_0 : decode cX5_slip 0 = .ok (.aload_n 0, 1) := by decide +kernel
theorem dX5_slip_1 : decode cX5_slip 1 = .ok (.getfield 10, 3) := by decide +kernel
theorem dX5_slip_4 : decode cX5_slip 4 = .ok (.iload_n 1, 1) := by decide +kernel
theorem dX5_slip_5 : decode cX5_slip 5 = .ok (.invokevirtual 84, 3) := by decide +kernel
theorem dX5_slip_8 : decode cX5_slip 8 = .ok (.ifCond .eq 14, 3) := by decide +kernel
theorem dX5_slip_11 : decode cX5_slip 11 = .ok (.aload_n 0, 1) := by decide +kernel
theorem dX5_slip_12 : decode cX5_slip 12 = .ok (.getfield 10, 3) := by decide +kernel
theorem dX5_slip_15 : decode cX5_slip 15 = .ok (.iload_n 2, 1) := by decide +kernel
theorem dX5_slip_16 : decode cX5_slip 16 = .ok (.invokevirtual 108, 3) := by decide +kernel
theorem dX5_slip_19 : decode cX5_slip 19 = .ok (.ifCond .ne 14, 3) := by decide +kernel
theorem dX5_slip_22 : decode cX5_slip 22 = .ok (.ldc2_w 223, 3) := by decide +kernel
theorem dX5_slip_25 : decode cX5_slip 25 = .ok (.aload_n 0, 1) := by decide +kernel
theorem dX5_slip_26 : decode cX5_slip 26 = .ok (.iconst (-1), 1) := by decide +kernel
theorem dX5_slip_27 : decode cX5_slip 27 = .ok (.invokevirtual 51, 3) := by decide +kernel
theorem dX5_slip_30 : decode cX5_slip 30 = .ok (.i2l, 1) := by decide +kernel
theorem dX5_slip_31 : decode cX5_slip 31 = .ok (.lsub, 1) := by decide +kernel
theorem dX5_slip_32 : decode cX5_slip 32 = .ok (.lreturn, 1) := by decide +kernel
theorem dX5_slip_33 : decode cX5_slip 33 = .ok (.iload_n 3, 1) := by decide +kernel
theorem dX5_slip_34 : decode cX5_slip 34 = .ok (.ifCond .lt 9, 3) := by decide +kernel
theorem dX5_slip_37 : decode cX5_slip 37 = .ok (.iload 4, 2) := by decide +kernel
theorem dX5_slip_39 : decode cX5_slip 39 = .ok (.iconst 2, 1) := by decide +kernel
theorem dX5_slip_40 : decode cX5_slip 40 = .ok (.if_icmp .ge 15, 3) := by decide +kernel
theorem dX5_slip_43 : decode cX5_slip 43 = .ok (.ldc2_w 223, 3) := by decide +kernel
theorem dX5_slip_46 : decode cX5_slip 46 = .ok (.aload_n 0, 1) := by decide +kernel
theorem dX5_slip_47 : decode cX5_slip 47 = .ok (.bipush (-4), 2) := by decide +kernel
theorem dX5_slip_49 : decode cX5_slip 49 = .ok (.invokevirtual 51, 3) := by decide +kernel
theorem dX5_slip_52 : decode cX5_slip 52 = .ok (.i2l, 1) := by decide +kernel
theorem dX5_slip_53 : decode cX5_slip 53 = .ok (.lsub, 1) := by decide +kernel
theorem dX5_slip_54 : decode cX5_slip 54 = .ok (.lreturn, 1) := by decide +kernel
theorem dX5_slip_55 : decode cX5_slip 55 = .ok (.iload_n 3, 1) := by decide +kernel
theorem dX5_slip_56 : decode cX5_slip 56 = .ok (.bipush 6, 2) := by decide +kernel
theorem dX5_slip_58 : decode cX5_slip 58 = .ok (.if_icmp .gt 10, 3) := by decide +kernel
theorem dX5_slip_61 : decode cX5_slip 61 = .ok (.iload 4, 2) := by decide +kernel
theorem dX5_slip_63 : decode cX5_slip 63 = .ok (.bipush 20, 2) := by decide +kernel
theorem dX5_slip_65 : decode cX5_slip 65 = .ok (.if_icmp .le 15, 3) := by decide +kernel
theorem dX5_slip_68 : decode cX5_slip 68 = .ok (.ldc2_w 223, 3) := by decide +kernel
theorem dX5_slip_71 : decode cX5_slip 71 = .ok (.aload_n 0, 1) := by decide +kernel
theorem dX5_slip_72 : decode cX5_slip 72 = .ok (.bipush (-6), 2) := by decide +kernel
theorem dX5_slip_74 : decode cX5_slip 74 = .ok (.invokevirtual 51, 3) := by decide +kernel
theorem dX5_slip_77 : decode cX5_slip 77 = .ok (.i2l, 1) := by decide +kernel
theorem dX5_slip_78 : decode cX5_slip 78 = .ok (.lsub, 1) := by decide +kernel
theorem dX5_slip_79 : decode cX5_slip 79 = .ok (.lreturn, 1) := by decide +kernel
theorem dX5_slip_80 : decode cX5_slip 80 = .ok (.iload 5, 2) := by decide +kernel
theorem dX5_slip_82 : decode cX5_slip 82 = .ok (.invokestatic 111, 3) := by decide +kernel
theorem dX5_slip_85 : decode cX5_slip 85 = .ok (.ifCond .ne 15, 3) := by decide +kernel
theorem dX5_slip_88 : decode cX5_slip 88 = .ok (.ldc2_w 223, 3) := by decide +kernel
theorem dX5_slip_91 : decode cX5_slip 91 = .ok (.aload_n 0, 1) := by decide +kernel
theorem dX5_slip_92 : decode cX5_slip 92 = .ok (.bipush (-2), 2) := by decide +kernel
theorem dX5_slip_94 : decode cX5_slip 94 = .ok (.invokevirtual 51, 3) := by decide +kernel
theorem dX5_slip_97 : decode cX5_slip 97 = .ok (.i2l, 1) := by decide +kernel
theorem dX5_slip_98 : decode cX5_slip 98 = .ok (.lsub, 1) := by decide +kernel
theorem dX5_slip_99 : decode cX5_slip 99 = .ok (.lreturn, 1) := by decide +kernel
theorem dX5_slip_100 : decode cX5_slip 100 = .ok (.aload_n 0, 1) := by decide +kernel
theorem dX5_slip_101 : decode cX5_slip 101 = .ok (.getfield 29, 3) := by decide +kernel
theorem dX5_slip_104 : decode cX5_slip 104 = .ok (.aload_n 0, 1) := by decide +kernel
theorem dX5_slip_105 : decode cX5_slip 105 = .ok (.getfield 10, 3) := by decide +kernel
theorem dX5_slip_108 : decode cX5_slip 108 = .ok (.iload_n 1, 1) := by decide +kernel
theorem dX5_slip_109 : decode cX5_slip 109 = .ok (.iload_n 2, 1) := by decide +kernel
theorem dX5_slip_110 : decode cX5_slip 110 = .ok (.iload_n 3, 1) := by decide +kernel
theorem dX5_slip_111 : decode cX5_slip 111 = .ok (.iload 4, 2) := by decide +kernel
theorem dX5_slip_113 : decode cX5_slip 113 = .ok (.invokevirtual 225, 3) := by decide +kernel
theorem dX5_slip_116 : decode cX5_slip 116 = .ok (.lstore 6, 2) := by decide +kernel
theorem dX5_slip_118 : decode cX5_slip 118 = .ok (.iload 4, 2) := by decide +kernel
theorem dX5_slip_120 : decode cX5_slip 120 = .ok (.i2l, 1) := by decide +kernel
theorem dX5_slip_121 : decode cX5_slip 121 = .ok (.iload_n 3, 1) := by decide +kernel
theorem dX5_slip_122 : decode cX5_slip 122 = .ok (.invokestatic 229, 3) := by decide +kernel
theorem dX5_slip_125 : decode cX5_slip 125 = .ok (.lstore 8, 2) := by decide +kernel
theorem dX5_slip_127 : decode cX5_slip 127 = .ok (.lconst 1, 1) := by decide +kernel
theorem dX5_slip_128 : decode cX5_slip 128 = .ok (.lload 6, 2) := by decide +kernel
theorem dX5_slip_130 : decode cX5_slip 130 = .ok (.lload 8, 2) := by decide +kernel
theorem dX5_slip_132 : decode cX5_slip 132 = .ok (.invokestatic 233, 3) := by decide +kernel
theorem dX5_slip_135 : decode cX5_slip 135 = .ok (.invokestatic 237, 3) := by decide +kernel
theorem dX5_slip_138 : decode cX5_slip 138 = .ok (.lstore 10, 2) := by decide +kernel
theorem dX5_slip_140 : decode cX5_slip 140 = .ok (.iload 5, 2) := by decide +kernel
theorem dX5_slip_142 : decode cX5_slip 142 = .ok (.ifCond .ne 11, 3) := by decide +kernel
theorem dX5_slip_145 : decode cX5_slip 145 = .ok (.lload 6, 2) := by decide +kernel
theorem dX5_slip_147 : decode cX5_slip 147 = .ok (.lload 10, 2) := by decide +kernel
theorem dX5_slip_149 : decode cX5_slip 149 = .ok (.ldiv, 1) := by decide +kernel
theorem dX5_slip_150 : decode cX5_slip 150 = .ok (.goto 8, 3) := by decide +kernel
theorem dX5_slip_153 : decode cX5_slip 153 = .ok (.lload 8, 2) := by decide +kernel
theorem dX5_slip_155 : decode cX5_slip 155 = .ok (.lload 10, 2) := by decide +kernel
theorem dX5_slip_157 : decode cX5_slip 157 = .ok (.ldiv, 1) := by decide +kernel
theorem dX5_slip_158 : decode cX5_slip 158 = .ok (.lreturn, 1) := by decide +kernel
theorem dX5_two_0 : decode cX5_two 0 = .ok (.aload_n 0, 1) := by decide +kernel
theorem dX5_two_1 : decode cX5_two 1 = .ok (.getfield 10, 3) := by decide +kernel
theorem dX5_two_4 : decode cX5_two 4 = .ok (.iload_n 1, 1) := by decide +kernel
theorem dX5_two_5 : decode cX5_two 5 = .ok (.invokevirtual 84, 3) := by decide +kernel
theorem dX5_two_8 : decode cX5_two 8 = .ok (.ifCond .eq 10, 3) := by decide +kernel
theorem dX5_two_11 : decode cX5_two 11 = .ok (.iload_n 2, 1) := by decide +kernel
theorem dX5_two_12 : decode cX5_two 12 = .ok (.invokestatic 77, 3) := by decide +kernel
theorem dX5_two_15 : decode cX5_two 15 = .ok (.ifCond .ne 9, 3) := by decide +kernel
theorem dX5_two_18 : decode cX5_two 18 = .ok (.aload_n 0, 1) := by decide +kernel
theorem dX5_two_19 : decode cX5_two 19 = .ok (.iconst (-1), 1) := by decide +kernel
theorem dX5_two_20 : decode cX5_two 20 = .ok (.invokevirtual 51, 3) := by decide +kernel
theorem dX5_two_23 : decode cX5_two 23 = .ok (.ireturn, 1) := by decide +kernel
theorem dX5_two_24 : decode cX5_two 24 = .ok (.aload_n 0, 1) := by decide +kernel
theorem dX5_two_25 : decode cX5_two 25 = .ok (.getfield 29, 3) := by decide +kernel
theorem dX5_two_28 : decode cX5_two 28 = .ok (.aload_n 0, 1) := by decide +kernel
theorem dX5_two_29 : decode cX5_two 29 = .ok (.getfield 10, 3) := by decide +kernel
theorem dX5_two_32 : decode cX5_two 32 = .ok (.aload_n 0, 1) := by decide +kernel
theorem dX5_two_33 : decode cX5_two 33 = .ok (.getfield 10, 3) := by decide +kernel
theorem dX5_two_36 : decode cX5_two 36 = .ok (.getfield 87, 3) := by decide +kernel
theorem dX5_two_39 : decode cX5_two 39 = .ok (.iload_n 1, 1) := by decide +kernel
theorem dX5_two_40 : decode cX5_two 40 = .ok (.aaload, 1) := by decide +kernel
theorem dX5_two_41 : decode cX5_two 41 = .ok (.iload_n 2, 1) := by decide +kernel
theorem dX5_two_42 : decode cX5_two 42 = .ok (.iaload, 1) := by decide +kernel
theorem dX5_two_43 : decode cX5_two 43 = .ok (.iload_n 2, 1) := by decide +kernel
theorem dX5_two_44 : decode cX5_two 44 = .ok (.invokevirtual 240, 3) := by decide +kernel
theorem dX5_two_47 : decode cX5_two 47 = .ok (.ireturn, 1) := by decide +kernel
theorem dX5_which_0 : decode cX5_which 0 = .ok (.aload_n 0, 1) := by decide +kernel
theorem dX5_which_1 : decode cX5_which 1 = .ok (.getfield 10, 3) := by decide +kernel
theorem dX5_which_4 : decode cX5_which 4 = .ok (.iload_n 1, 1) := by decide +kernel
theorem dX5_which_5 : decode cX5_which 5 = .ok (.invokevirtual 84, 3) := by decide +kernel
theorem dX5_which_8 : decode cX5_which 8 = .ok (.ifCond .ne 9, 3) := by decide +kernel
theorem dX5_which_11 : decode cX5_which 11 = .ok (.aload_n 0, 1) := by decide +kernel
theorem dX5_which_12 : decode cX5_which 12 = .ok (.iconst (-1), 1) := by decide +kernel
theorem dX5_which_13 : decode cX5_which 13 = .ok (.invokevirtual 51, 3) := by decide +kernel
theorem dX5_which_16 : decode cX5_which 16 = .ok (.ireturn, 1) := by decide +kernel
theorem dX5_which_17 : decode cX5_which 17 = .ok (.iload_n 2, 1) := by decide +kernel
theorem dX5_which_18 : decode cX5_which 18 = .ok (.iconst 0, 1) := by decide +kernel
theorem dX5_which_19 : decode cX5_which 19 = .ok (.bipush 9, 2) := by decide +kernel
theorem dX5_which_21 : decode cX5_which 21 = .ok (.invokestatic 120, 3) := by decide +kernel
theorem dX5_which_24 : decode cX5_which 24 = .ok (.istore 4, 2) := by decide +kernel
theorem dX5_which_26 : decode cX5_which 26 = .ok (.iload 4, 2) := by decide +kernel
theorem dX5_which_28 : decode cX5_which 28 = .ok (.ifCond .eq 10, 3) := by decide +kernel
theorem dX5_which_31 : decode cX5_which 31 = .ok (.aload_n 0, 1) := by decide +kernel
theorem dX5_which_32 : decode cX5_which 32 = .ok (.iload 4, 2) := by decide +kernel
theorem dX5_which_34 : decode cX5_which 34 = .ok (.invokevirtual 51, 3) := by decide +kernel
theorem dX5_which_37 : decode cX5_which 37 = .ok (.ireturn, 1) := by decide +kernel
theorem dX5_which_38 : decode cX5_which 38 = .ok (.iload_n 3, 1) := by decide +kernel
theorem dX5_which_39 : decode cX5_which 39 = .ok (.invokestatic 111, 3) := by decide +kernel
theorem dX5_which_42 : decode cX5_which 42 = .ok (.ifCond .ne 10, 3) := by decide +kernel
theorem dX5_which_45 : decode cX5_which 45 = .ok (.aload_n 0, 1) := by decide +kernel
theorem dX5_which_46 : decode cX5_which 46 = .ok (.bipush (-2), 2) := by decide +kernel
theorem dX5_which_48 : decode cX5_which 48 = .ok (.invokevirtual 51, 3) := by decide +kernel
theorem dX5_which_51 : decode cX5_which 51 = .ok (.ireturn, 1) := by decide +kernel
theorem dX5_which_52 : decode cX5_which 52 = .ok (.aload_n 0, 1) := by decide +kernel
theorem dX5_which_53 : decode cX5_which 53 = .ok (.getfield 44, 3) := by decide +kernel
theorem dX5_which_56 : decode cX5_which 56 = .ok (.iconst 5, 1) := by decide +kernel
theorem dX5_which_57 : decode cX5_which 57 = .ok (.if_icmp .eq 10, 3) := by decide +kernel
theorem dX5_which_60 : decode cX5_which 60 = .ok (.aload_n 0, 1) := by decide +kernel
theorem dX5_which_61 : decode cX5_which 61 = .ok (.bipush (-3), 2) := by decide +kernel
theorem dX5_which_63 : decode cX5_which 63 = .ok (.invokevirtual 51, 3) := by decide +kernel
theorem dX5_which_66 : decode cX5_which 66 = .ok (.ireturn, 1) := by decide +kernel
theorem dX5_which_67 : decode cX5_which 67 = .ok (.iload_n 3, 1) := by decide +kernel
theorem dX5_which_68 : decode cX5_which 68 = .ok (.ifCond .ne 22, 3) := by decide +kernel
theorem dX5_which_71 : decode cX5_which 71 = .ok (.aload_n 0, 1) := by decide +kernel
theorem dX5_which_72 : decode cX5_which 72 = .ok (.getfield 29, 3) := by decide +kernel
theorem dX5_which_75 : decode cX5_which 75 = .ok (.aload_n 0, 1) := by decide +kernel
theorem dX5_which_76 : decode cX5_which 76 = .ok (.getfield 10, 3) := by decide +kernel
theorem dX5_which_79 : decode cX5_which 79 = .ok (.iload_n 1, 1) := by decide +kernel
theorem dX5_which_80 : decode cX5_which 80 = .ok (.aload_n 0, 1) := by decide +kernel
theorem dX5_which_81 : decode cX5_which 81 = .ok (.getfield 40, 3) := by decide +kernel
theorem dX5_which_84 : decode cX5_which 84 = .ok (.invokevirtual 243, 3) := by decide +kernel
theorem dX5_which_87 : decode cX5_which 87 = .ok (.goto 20, 3) := by decide +kernel
theorem dX5_which_90 : decode cX5_which 90 = .ok (.aload_n 0, 1) := by decide +kernel
theorem dX5_which_91 : decode cX5_which 91 = .ok (.getfield 29, 3) := by decide +kernel
theorem dX5_which_94 : decode cX5_which 94 = .ok (.aload_n 0, 1) := by decide +kernel
theorem dX5_which_95 : decode cX5_which 95 = .ok (.getfield 10, 3) := by decide +kernel
theorem dX5_which_98 : decode cX5_which 98 = .ok (.iload_n 1, 1) := by decide +kernel
theorem dX5_which_99 : decode cX5_which 99 = .ok (.iload_n 2, 1) := by decide +kernel
theorem dX5_which_100 : decode cX5_which 100 = .ok (.aload_n 0, 1) := by decide +kernel
theorem dX5_which_101 : decode cX5_which 101 = .ok (.getfield 40, 3) := by decide +kernel
theorem dX5_which_104 : decode cX5_which 104 = .ok (.invokevirtual 247, 3) := by decide +kernel
theorem dX5_which_107 : decode cX5_which 107 = .ok (.ireturn, 1) := by decide +kernel
theorem dX5_row_0 : decode cX5_row 0 = .ok (.iload_n 1, 1) := by decide +kernel
theorem dX5_row_1 : decode cX5_row 1 = .ok (.ifCond .ge 10, 3) := by decide +kernel
theorem dX5_row_4 : decode cX5_row 4 = .ok (.aload_n 0, 1) := by decide +kernel
theorem dX5_row_5 : decode cX5_row 5 = .ok (.bipush (-4), 2) := by decide +kernel
theorem dX5_row_7 : decode cX5_row 7 = .ok (.invokevirtual 51, 3) := by decide +kernel
theorem dX5_row_10 : decode cX5_row 10 = .ok (.ireturn, 1) := by decide +kernel
theorem dX5_row_11 : decode cX5_row 11 = .ok (.iload_n 1, 1) := by decide +kernel
theorem dX5_row_12 : decode cX5_row 12 = .ok (.bipush 99, 2) := by decide +kernel
theorem dX5_row_14 : decode cX5_row 14 = .ok (.if_icmp .gt 12, 3) := by decide +kernel
theorem dX5_row_17 : decode cX5_row 17 = .ok (.aload_n 0, 1) := by decide +kernel
theorem dX5_row_18 : decode cX5_row 18 = .ok (.getfield 44, 3) := by decide +kernel
theorem dX5_row_21 : decode cX5_row 21 = .ok (.bipush 12, 2) := by decide +kernel
theorem dX5_row_23 : decode cX5_row 23 = .ok (.if_icmp .lt 10, 3) := by decide +kernel
theorem dX5_row_26 : decode cX5_row 26 = .ok (.aload_n 0, 1) := by decide +kernel
theorem dX5_row_27 : decode cX5_row 27 = .ok (.bipush (-6), 2) := by decide +kernel
theorem dX5_row_29 : decode cX5_row 29 = .ok (.invokevirtual 51, 3) := by decide +kernel
theorem dX5_row_32 : decode cX5_row 32 = .ok (.ireturn, 1) := by decide +kernel
theorem dX5_row_33 : decode cX5_row 33 = .ok (.aload_n 0, 1) := by decide +kernel
theorem dX5_row_34 : decode cX5_row 34 = .ok (.getfield 40, 3) := by decide +kernel
theorem dX5_row_37 : decode cX5_row 37 = .ok (.aload_n 0, 1) := by decide +kernel
theorem dX5_row_38 : decode cX5_row 38 = .ok (.getfield 44, 3) := by decide +kernel
theorem dX5_row_41 : decode cX5_row 41 = .ok (.iload_n 1, 1) := by decide +kernel
theorem dX5_row_42 : decode cX5_row 42 = .ok (.iastore, 1) := by decide +kernel
theorem dX5_row_43 : decode cX5_row 43 = .ok (.aload_n 0, 1) := by decide +kernel
theorem dX5_row_44 : decode cX5_row 44 = .ok (.dup, 1) := by decide +kernel
theorem dX5_row_45 : decode cX5_row 45 = .ok (.getfield 44, 3) := by decide +kernel
theorem dX5_row_48 : decode cX5_row 48 = .ok (.iconst 1, 1) := by decide +kernel
theorem dX5_row_49 : decode cX5_row 49 = .ok (.iadd, 1) := by decide +kernel
theorem dX5_row_50 : decode cX5_row 50 = .ok (.putfield 44, 3) := by decide +kernel
theorem dX5_row_53 : decode cX5_row 53 = .ok (.aload_n 0, 1) := by decide +kernel
theorem dX5_row_54 : decode cX5_row 54 = .ok (.getfield 44, 3) := by decide +kernel
theorem dX5_row_57 : decode cX5_row 57 = .ok (.ireturn, 1) := by decide +kernel
theorem dX5_judge_0 : decode cX5_judge 0 = .ok (.aload_n 0, 1) := by decide +kernel
theorem dX5_judge_1 : decode cX5_judge 1 = .ok (.getfield 10, 3) := by decide +kernel
theorem dX5_judge_4 : decode cX5_judge 4 = .ok (.iload_n 1, 1) := by decide +kernel
theorem dX5_judge_5 : decode cX5_judge 5 = .ok (.invokevirtual 84, 3) := by decide +kernel
theorem dX5_judge_8 : decode cX5_judge 8 = .ok (.ifCond .ne 9, 3) := by decide +kernel
theorem dX5_judge_11 : decode cX5_judge 11 = .ok (.aload_n 0, 1) := by decide +kernel
theorem dX5_judge_12 : decode cX5_judge 12 = .ok (.iconst (-1), 1) := by decide +kernel
theorem dX5_judge_13 : decode cX5_judge 13 = .ok (.invokevirtual 51, 3) := by decide +kernel
theorem dX5_judge_16 : decode cX5_judge 16 = .ok (.ireturn, 1) := by decide +kernel
theorem dX5_judge_17 : decode cX5_judge 17 = .ok (.aload_n 0, 1) := by decide +kernel
theorem dX5_judge_18 : decode cX5_judge 18 = .ok (.aload_n 0, 1) := by decide +kernel
theorem dX5_judge_19 : decode cX5_judge 19 = .ok (.getfield 10, 3) := by decide +kernel
theorem dX5_judge_22 : decode cX5_judge 22 = .ok (.getfield 87, 3) := by decide +kernel
theorem dX5_judge_25 : decode cX5_judge 25 = .ok (.iload_n 1, 1) := by decide +kernel
theorem dX5_judge_26 : decode cX5_judge 26 = .ok (.aaload, 1) := by decide +kernel
theorem dX5_judge_27 : decode cX5_judge 27 = .ok (.invokevirtual 251, 3) := by decide +kernel
theorem dX5_judge_30 : decode cX5_judge 30 = .ok (.istore_n 2, 1) := by decide +kernel
theorem dX5_judge_31 : decode cX5_judge 31 = .ok (.aload_n 0, 1) := by decide +kernel
theorem dX5_judge_32 : decode cX5_judge 32 = .ok (.iconst 0, 1) := by decide +kernel
theorem dX5_judge_33 : decode cX5_judge 33 = .ok (.putfield 44, 3) := by decide +kernel
theorem dX5_judge_36 : decode cX5_judge 36 = .ok (.iload_n 2, 1) := by decide +kernel
theorem dX5_judge_37 : decode cX5_judge 37 = .ok (.ireturn, 1) := by decide +kernel
theorem dX5_clear_0 : decode cX5_clear 0 = .ok (.aload_n 0, 1) := by decide +kernel
theorem dX5_clear_1 : decode cX5_clear 1 = .ok (.getfield 44, 3) := by decide +kernel
theorem dX5_clear_4 : decode cX5_clear 4 = .ok (.istore_n 1, 1) := by decide +kernel
theorem dX5_clear_5 : decode cX5_clear 5 = .ok (.aload_n 0, 1) := by decide +kernel
theorem dX5_clear_6 : decode cX5_clear 6 = .ok (.iconst 0, 1) := by decide +kernel
theorem dX5_clear_7 : decode cX5_clear 7 = .ok (.putfield 44, 3) := by decide +kernel
theorem dX5_clear_10 : decode cX5_clear 10 = .ok (.iload_n 1, 1) := by decide +kernel
theorem dX5_clear_11 : decode cX5_clear 11 = .ok (.ireturn, 1) := by decide +kernel
theorem dX5_lots_0 : decode cX5_lots 0 = .ok (.iload_n 1, 1) := by decide +kernel
theorem dX5_lots_1 : decode cX5_lots 1 = .ok (.iconst 1, 1) := by decide +kernel
theorem dX5_lots_2 : decode cX5_lots 2 = .ok (.bipush 20, 2) := by decide +kernel
theorem dX5_lots_4 : decode cX5_lots 4 = .ok (.invokestatic 120, 3) := by decide +kernel
theorem dX5_lots_7 : decode cX5_lots 7 = .ok (.istore 4, 2) := by decide +kernel
theorem dX5_lots_9 : decode cX5_lots 9 = .ok (.iload 4, 2) := by decide +kernel
theorem dX5_lots_11 : decode cX5_lots 11 = .ok (.ifCond .eq 10, 3) := by decide +kernel
theorem dX5_lots_14 : decode cX5_lots 14 = .ok (.aload_n 0, 1) := by decide +kernel
theorem dX5_lots_15 : decode cX5_lots 15 = .ok (.iload 4, 2) := by decide +kernel
theorem dX5_lots_17 : decode cX5_lots 17 = .ok (.invokevirtual 51, 3) := by decide +kernel
theorem dX5_lots_20 : decode cX5_lots 20 = .ok (.ireturn, 1) := by decide +kernel
theorem dX5_lots_21 : decode cX5_lots 21 = .ok (.iload_n 3, 1) := by decide +kernel
theorem dX5_lots_22 : decode cX5_lots 22 = .ok (.invokestatic 111, 3) := by decide +kernel
theorem dX5_lots_25 : decode cX5_lots 25 = .ok (.ifCond .ne 10, 3) := by decide +kernel
theorem dX5_lots_28 : decode cX5_lots 28 = .ok (.aload_n 0, 1) := by decide +kernel
theorem dX5_lots_29 : decode cX5_lots 29 = .ok (.bipush (-2), 2) := by decide +kernel
theorem dX5_lots_31 : decode cX5_lots 31 = .ok (.invokevirtual 51, 3) := by decide +kernel
theorem dX5_lots_34 : decode cX5_lots 34 = .ok (.ireturn, 1) := by decide +kernel
theorem dX5_lots_35 : decode cX5_lots 35 = .ok (.aload_n 0, 1) := by decide +kernel
theorem dX5_lots_36 : decode cX5_lots 36 = .ok (.getfield 10, 3) := by decide +kernel
theorem dX5_lots_39 : decode cX5_lots 39 = .ok (.getfield 127, 3) := by decide +kernel
theorem dX5_lots_42 : decode cX5_lots 42 = .ok (.ifCond .eq 13, 3) := by decide +kernel
theorem dX5_lots_45 : decode cX5_lots 45 = .ok (.aload_n 0, 1) := by decide +kernel
theorem dX5_lots_46 : decode cX5_lots 46 = .ok (.getfield 10, 3) := by decide +kernel
theorem dX5_lots_49 : decode cX5_lots 49 = .ok (.getfield 254, 3) := by decide +kernel
theorem dX5_lots_52 : decode cX5_lots 52 = .ok (.ifCond .ne 10, 3) := by decide +kernel
theorem dX5_lots_55 : decode cX5_lots 55 = .ok (.aload_n 0, 1) := by decide +kernel
theorem dX5_lots_56 : decode cX5_lots 56 = .ok (.bipush (-3), 2) := by decide +kernel
theorem dX5_lots_58 : decode cX5_lots 58 = .ok (.invokevirtual 51, 3) := by decide +kernel
theorem dX5_lots_61 : decode cX5_lots 61 = .ok (.ireturn, 1) := by decide +kernel
theorem dX5_lots_62 : decode cX5_lots 62 = .ok (.aload_n 0, 1) := by decide +kernel
theorem dX5_lots_63 : decode cX5_lots 63 = .ok (.getfield 29, 3) := by decide +kernel
theorem dX5_lots_66 : decode cX5_lots 66 = .ok (.aload_n 0, 1) := by decide +kernel
theorem dX5_lots_67 : decode cX5_lots 67 = .ok (.getfield 10, 3) := by decide +kernel
theorem dX5_lots_70 : decode cX5_lots 70 = .ok (.iload_n 1, 1) := by decide +kernel
theorem dX5_lots_71 : decode cX5_lots 71 = .ok (.iload_n 2, 1) := by decide +kernel
theorem dX5_lots_72 : decode cX5_lots 72 = .ok (.iload_n 3, 1) := by decide +kernel
theorem dX5_lots_73 : decode cX5_lots 73 = .ok (.iconst 1, 1) := by decide +kernel
theorem dX5_lots_74 : decode cX5_lots 74 = .ok (.if_icmp .ne 7, 3) := by decide +kernel
theorem dX5_lots_77 : decode cX5_lots 77 = .ok (.iconst 1, 1) := by decide +kernel
theorem dX5_lots_78 : decode cX5_lots 78 = .ok (.goto 4, 3) := by decide +kernel
theorem dX5_lots_81 : decode cX5_lots 81 = .ok (.iconst 0, 1) := by decide +kernel
theorem dX5_lots_82 : decode cX5_lots 82 = .ok (.invokevirtual 257, 3) := by decide +kernel
theorem dX5_lots_85 : decode cX5_lots 85 = .ok (.ireturn, 1) := by decide +kernel
theorem dX5_image_0 : decode cX5_image 0 = .ok (.aload_n 0, 1) := by decide +kernel
theorem dX5_image_1 : decode cX5_image 1 = .ok (.getfield 19, 3) := by decide +kernel
theorem dX5_image_4 : decode cX5_image 4 = .ok (.aload_n 0, 1) := by decide +kernel
theorem dX5_image_5 : decode cX5_image 5 = .ok (.getfield 10, 3) := by decide +kernel
theorem dX5_image_8 : decode cX5_image 8 = .ok (.invokevirtual 66, 3) := by decide +kernel
theorem dX5_image_11 : decode cX5_image 11 = .ok (.aload_n 0, 1) := by decide +kernel
theorem dX5_image_12 : decode cX5_image 12 = .ok (.iconst 1, 1) := by decide +kernel
theorem dX5_image_13 : decode cX5_image 13 = .ok (.putfield 22, 3) := by decide +kernel
theorem dX5_image_16 : decode cX5_image 16 = .ok (.aload_n 0, 1) := by decide +kernel
theorem dX5_image_17 : decode cX5_image 17 = .ok (.getfield 10, 3) := by decide +kernel
theorem dX5_image_20 : decode cX5_image 20 = .ok (.getfield 134, 3) := by decide +kernel
theorem dX5_image_23 : decode cX5_image 23 = .ok (.ireturn, 1) := by decide +kernel
theorem dX5_on_0 : decode cX5_on 0 = .ok (.aload_n 0, 1) := by decide +kernel
theorem dX5_on_1 : decode cX5_on 1 = .ok (.getfield 22, 3) := by decide +kernel
theorem dX5_on_4 : decode cX5_on 4 = .ok (.ifCond .ne 10, 3) := by decide +kernel
theorem dX5_on_7 : decode cX5_on 7 = .ok (.aload_n 0, 1) := by decide +kernel
theorem dX5_on_8 : decode cX5_on 8 = .ok (.bipush (-3), 2) := by decide +kernel
theorem dX5_on_10 : decode cX5_on 10 = .ok (.invokevirtual 51, 3) := by decide +kernel
theorem dX5_on_13 : decode cX5_on 13 = .ok (.ireturn, 1) := by decide +kernel
theorem dX5_on_14 : decode cX5_on 14 = .ok (.aload_n 0, 1) := by decide +kernel
theorem dX5_on_15 : decode cX5_on 15 = .ok (.getfield 10, 3) := by decide +kernel
theorem dX5_on_18 : decode cX5_on 18 = .ok (.aload_n 0, 1) := by decide +kernel
theorem dX5_on_19 : decode cX5_on 19 = .ok (.getfield 19, 3) := by decide +kernel
theorem dX5_on_22 : decode cX5_on 22 = .ok (.invokevirtual 66, 3) := by decide +kernel
theorem dX5_on_25 : decode cX5_on 25 = .ok (.aload_n 0, 1) := by decide +kernel
theorem dX5_on_26 : decode cX5_on 26 = .ok (.getfield 10, 3) := by decide +kernel
theorem dX5_on_29 : decode cX5_on 29 = .ok (.getfield 134, 3) := by decide +kernel
theorem dX5_on_32 : decode cX5_on 32 = .ok (.ireturn, 1) := by decide +kernel
theorem dX5_count_0 : decode cX5_count 0 = .ok (.iload_n 1, 1) := by decide +kernel
theorem dX5_count_1 : decode cX5_count 1 = .ok (.tableswitch 111 0 7 #[47, 55, 63, 71, 79, 87, 98, 103], 47) := by decide +kernel
theorem dX5_count_48 : decode cX5_count 48 = .ok (.aload_n 0, 1) := by decide +kernel
theorem dX5_count_49 : decode cX5_count 49 = .ok (.getfield 10, 3) := by decide +kernel
theorem dX5_count_52 : decode cX5_count 52 = .ok (.getfield 127, 3) := by decide +kernel
theorem dX5_count_55 : decode cX5_count 55 = .ok (.ireturn, 1) := by decide +kernel
theorem dX5_count_56 : decode cX5_count 56 = .ok (.aload_n 0, 1) := by decide +kernel
theorem dX5_count_57 : decode cX5_count 57 = .ok (.getfield 10, 3) := by decide +kernel
theorem dX5_count_60 : decode cX5_count 60 = .ok (.getfield 254, 3) := by decide +kernel
theorem dX5_count_63 : decode cX5_count 63 = .ok (.ireturn, 1) := by decide +kernel
theorem dX5_count_64 : decode cX5_count 64 = .ok (.aload_n 0, 1) := by decide +kernel
theorem dX5_count_65 : decode cX5_count 65 = .ok (.getfield 10, 3) := by decide +kernel
theorem dX5_count_68 : decode cX5_count 68 = .ok (.getfield 134, 3) := by decide +kernel
theorem dX5_count_71 : decode cX5_count 71 = .ok (.ireturn, 1) := by decide +kernel
theorem dX5_count_72 : decode cX5_count 72 = .ok (.aload_n 0, 1) := by decide +kernel
theorem dX5_count_73 : decode cX5_count 73 = .ok (.getfield 10, 3) := by decide +kernel
theorem dX5_count_76 : decode cX5_count 76 = .ok (.getfield 124, 3) := by decide +kernel
theorem dX5_count_79 : decode cX5_count 79 = .ok (.ireturn, 1) := by decide +kernel
theorem dX5_count_80 : decode cX5_count 80 = .ok (.aload_n 0, 1) := by decide +kernel
theorem dX5_count_81 : decode cX5_count 81 = .ok (.getfield 10, 3) := by decide +kernel
theorem dX5_count_84 : decode cX5_count 84 = .ok (.invokevirtual 141, 3) := by decide +kernel
theorem dX5_count_87 : decode cX5_count 87 = .ok (.ireturn, 1) := by decide +kernel
theorem dX5_count_88 : decode cX5_count 88 = .ok (.aload_n 0, 1) := by decide +kernel
theorem dX5_count_89 : decode cX5_count 89 = .ok (.getfield 10, 3) := by decide +kernel
theorem dX5_count_92 : decode cX5_count 92 = .ok (.invokevirtual 149, 3) := by decide +kernel
theorem dX5_count_95 : decode cX5_count 95 = .ok (.invokestatic 144, 3) := by decide +kernel
theorem dX5_count_98 : decode cX5_count 98 = .ok (.ireturn, 1) := by decide +kernel
theorem dX5_count_99 : decode cX5_count 99 = .ok (.aload_n 0, 1) := by decide +kernel
theorem dX5_count_100 : decode cX5_count 100 = .ok (.getfield 44, 3) := by decide +kernel
theorem dX5_count_103 : decode cX5_count 103 = .ok (.ireturn, 1) := by decide +kernel
theorem dX5_count_104 : decode cX5_count 104 = .ok (.aload_n 0, 1) := by decide +kernel
theorem dX5_count_105 : decode cX5_count 105 = .ok (.getfield 36, 3) := by decide +kernel
theorem dX5_count_108 : decode cX5_count 108 = .ok (.invokevirtual 261, 3) := by decide +kernel
theorem dX5_count_111 : decode cX5_count 111 = .ok (.ireturn, 1) := by decide +kernel
theorem dX5_count_112 : decode cX5_count 112 = .ok (.iload_n 1, 1) := by decide +kernel
theorem dX5_count_113 : decode cX5_count 113 = .ok (.bipush 11, 2) := by decide +kernel
theorem dX5_count_115 : decode cX5_count 115 = .ok (.if_icmp .lt 21, 3) := by decide +kernel
theorem dX5_count_118 : decode cX5_count 118 = .ok (.iload_n 1, 1) := by decide +kernel
theorem dX5_count_119 : decode cX5_count 119 = .ok (.bipush 16, 2) := by decide +kernel
theorem dX5_count_121 : decode cX5_count 121 = .ok (.if_icmp .gt 15, 3) := by decide +kernel
theorem dX5_count_124 : decode cX5_count 124 = .ok (.aload_n 0, 1) := by decide +kernel
theorem dX5_count_125 : decode cX5_count 125 = .ok (.getfield 48, 3) := by decide +kernel
theorem dX5_count_128 : decode cX5_count 128 = .ok (.iload_n 1, 1) := by decide +kernel
theorem dX5_count_129 : decode cX5_count 129 = .ok (.bipush 10, 2) := by decide +kernel
theorem dX5_count_131 : decode cX5_count 131 = .ok (.isub, 1) := by decide +kernel
theorem dX5_count_132 : decode cX5_count 132 = .ok (.iaload, 1) := by decide +kernel
theorem dX5_count_133 : decode cX5_count 133 = .ok (.goto 5, 3) := by decide +kernel
theorem dX5_count_136 : decode cX5_count 136 = .ok (.bipush (-9), 2) := by decide +kernel
theorem dX5_count_138 : decode cX5_count 138 = .ok (.ireturn, 1) := by decide +kernel
theorem dX5_refuse_0 : decode cX5_refuse 0 = .ok (.iload_n 1, 1) := by decide +kernel
theorem dX5_refuse_1 : decode cX5_refuse 1 = .ok (.iconst (-1), 1) := by decide +kernel
theorem dX5_refuse_2 : decode cX5_refuse 2 = .ok (.if_icmp .gt 20, 3) := by decide +kernel
theorem dX5_refuse_5 : decode cX5_refuse 5 = .ok (.iload_n 1, 1) := by decide +kernel
theorem dX5_refuse_6 : decode cX5_refuse 6 = .ok (.bipush (-6), 2) := by decide +kernel
theorem dX5_refuse_8 : decode cX5_refuse 8 = .ok (.if_icmp .lt 14, 3) := by decide +kernel
theorem dX5_refuse_11 : decode cX5_refuse 11 = .ok (.aload_n 0, 1) := by decide +kernel
theorem dX5_refuse_12 : decode cX5_refuse 12 = .ok (.getfield 48, 3) := by decide +kernel
theorem dX5_refuse_15 : decode cX5_refuse 15 = .ok (.iload_n 1, 1) := by decide +kernel
theorem dX5_refuse_16 : decode cX5_refuse 16 = .ok (.ineg, 1) := by decide +kernel
theorem dX5_refuse_17 : decode cX5_refuse 17 = .ok (.dup2, 1) := by decide +kernel
theorem dX5_refuse_18 : decode cX5_refuse 18 = .ok (.iaload, 1) := by decide +kernel
theorem dX5_refuse_19 : decode cX5_refuse 19 = .ok (.iconst 1, 1) := by decide +kernel
theorem dX5_refuse_20 : decode cX5_refuse 20 = .ok (.iadd, 1) := by decide +kernel
theorem dX5_refuse_21 : decode cX5_refuse 21 = .ok (.iastore, 1) := by decide +kernel
theorem dX5_refuse_22 : decode cX5_refuse 22 = .ok (.iload_n 1, 1) := by decide +kernel
theorem dX5_refuse_23 : decode cX5_refuse 23 = .ok (.ireturn, 1) := by decide +kernel
theorem dX5_firstToldWrong_0 : decode cX5_firstToldWrong 0 = .ok (.iconst 0, 1) := by decide +kernel
theorem dX5_firstToldWrong_1 : decode cX5_firstToldWrong 1 = .ok (.istore_n 2, 1) := by decide +kernel
theorem dX5_firstToldWrong_2 : decode cX5_firstToldWrong 2 = .ok (.iload_n 2, 1) := by decide +kernel
theorem dX5_firstToldWrong_3 : decode cX5_firstToldWrong 3 = .ok (.aload_n 0, 1) := by decide +kernel
theorem dX5_firstToldWrong_4 : decode cX5_firstToldWrong 4 = .ok (.getfield 44, 3) := by decide +kernel
theorem dX5_firstToldWrong_7 : decode cX5_firstToldWrong 7 = .ok (.if_icmp .ge 28, 3) := by decide +kernel
theorem dX5_firstToldWrong_10 : decode cX5_firstToldWrong 10 = .ok (.iload_n 2, 1) := by decide +kernel
theorem dX5_firstToldWrong_11 : decode cX5_firstToldWrong 11 = .ok (.iconst 5, 1) := by decide +kernel
theorem dX5_firstToldWrong_12 : decode cX5_firstToldWrong 12 = .ok (.if_icmp .ge 15, 3) := by decide +kernel
theorem dX5_firstToldWrong_15 : decode cX5_firstToldWrong 15 = .ok (.aload_n 0, 1) := by decide +kernel
theorem dX5_firstToldWrong_16 : decode cX5_firstToldWrong 16 = .ok (.getfield 40, 3) := by decide +kernel
theorem dX5_firstToldWrong_19 : decode cX5_firstToldWrong 19 = .ok (.iload_n 2, 1) := by decide +kernel
theorem dX5_firstToldWrong_20 : decode cX5_firstToldWrong 20 = .ok (.iaload, 1) := by decide +kernel
theorem dX5_firstToldWrong_21 : decode cX5_firstToldWrong 21 = .ok (.aload_n 1, 1) := by decide +kernel
theorem dX5_firstToldWrong_22 : decode cX5_firstToldWrong 22 = .ok (.iload_n 2, 1) := by decide +kernel
theorem dX5_firstToldWrong_23 : decode cX5_firstToldWrong 23 = .ok (.iaload, 1) := by decide +kernel
theorem dX5_firstToldWrong_24 : decode cX5_firstToldWrong 24 = .ok (.if_icmp .eq 5, 3) := by decide +kernel
theorem dX5_firstToldWrong_27 : decode cX5_firstToldWrong 27 = .ok (.iload_n 2, 1) := by decide +kernel
theorem dX5_firstToldWrong_28 : decode cX5_firstToldWrong 28 = .ok (.ireturn, 1) := by decide +kernel
theorem dX5_firstToldWrong_29 : decode cX5_firstToldWrong 29 = .ok (.iinc 2 1, 3) := by decide +kernel
theorem dX5_firstToldWrong_32 : decode cX5_firstToldWrong 32 = .ok (.goto (-30), 3) := by decide +kernel
theorem dX5_firstToldWrong_35 : decode cX5_firstToldWrong 35 = .ok (.bipush (-9), 2) := by decide +kernel
theorem dX5_firstToldWrong_37 : decode cX5_firstToldWrong 37 = .ok (.ireturn, 1) := by decide +kernel
theorem dX5_isTooth_0 : decode cX5_isTooth 0 = .ok (.iload_n 0, 1) := by decide +kernel
theorem dX5_isTooth_1 : decode cX5_isTooth 1 = .ok (.ifCond .lt 12, 3) := by decide +kernel
theorem dX5_isTooth_4 : decode cX5_isTooth 4 = .ok (.iload_n 0, 1) := by decide +kernel
theorem dX5_isTooth_5 : decode cX5_isTooth 5 = .ok (.iconst 5, 1) := by decide +kernel
theorem dX5_isTooth_6 : decode cX5_isTooth 6 = .ok (.if_icmp .ge 7, 3) := by decide +kernel
theorem dX5_isTooth_9 : decode cX5_isTooth 9 = .ok (.iconst 1, 1) := by decide +kernel
theorem dX5_isTooth_10 : decode cX5_isTooth 10 = .ok (.goto 4, 3) := by decide +kernel
theorem dX5_isTooth_13 : decode cX5_isTooth 13 = .ok (.iconst 0, 1) := by decide +kernel
theorem dX5_isTooth_14 : decode cX5_isTooth 14 = .ok (.ireturn, 1) := by decide +kernel
theorem dX5_isZeroOrOne_0 : decode cX5_isZeroOrOne 0 = .ok (.iload_n 0, 1) := by decide +kernel
theorem dX5_isZeroOrOne_1 : decode cX5_isZeroOrOne 1 = .ok (.ifCond .eq 8, 3) := by decide +kernel
theorem dX5_isZeroOrOne_4 : decode cX5_isZeroOrOne 4 = .ok (.iload_n 0, 1) := by decide +kernel
theorem dX5_isZeroOrOne_5 : decode cX5_isZeroOrOne 5 = .ok (.iconst 1, 1) := by decide +kernel
theorem dX5_isZeroOrOne_6 : decode cX5_isZeroOrOne 6 = .ok (.if_icmp .ne 7, 3) := by decide +kernel
theorem dX5_isZeroOrOne_9 : decode cX5_isZeroOrOne 9 = .ok (.iconst 1, 1) := by decide +kernel
theorem dX5_isZeroOrOne_10 : decode cX5_isZeroOrOne 10 = .ok (.goto 4, 3) := by decide +kernel
theorem dX5_isZeroOrOne_13 : decode cX5_isZeroOrOne 13 = .ok (.iconst 0, 1) := by decide +kernel
theorem dX5_isZeroOrOne_14 : decode cX5_isZeroOrOne 14 = .ok (.ireturn, 1) := by decide +kernel
theorem dX5_outside_0 : decode cX5_outside 0 = .ok (.iload_n 0, 1) := by decide +kernel
theorem dX5_outside_1 : decode cX5_outside 1 = .ok (.iload_n 1, 1) := by decide +kernel
theorem dX5_outside_2 : decode cX5_outside 2 = .ok (.if_icmp .ge 6, 3) := by decide +kernel
theorem dX5_outside_5 : decode cX5_outside 5 = .ok (.bipush (-4), 2) := by decide +kernel
theorem dX5_outside_7 : decode cX5_outside 7 = .ok (.ireturn, 1) := by decide +kernel
theorem dX5_outside_8 : decode cX5_outside 8 = .ok (.iload_n 0, 1) := by decide +kernel
theorem dX5_outside_9 : decode cX5_outside 9 = .ok (.iload_n 2, 1) := by decide +kernel
theorem dX5_outside_10 : decode cX5_outside 10 = .ok (.if_icmp .le 8, 3) := by decide +kernel
theorem dX5_outside_13 : decode cX5_outside 13 = .ok (.bipush (-6), 2) := by decide +kernel
theorem dX5_outside_15 : decode cX5_outside 15 = .ok (.goto 4, 3) := by decide +kernel
theorem dX5_outside_18 : decode cX5_outside 18 = .ok (.iconst 0, 1) := by decide +kernel
theorem dX5_outside_19 : decode cX5_outside 19 = .ok (.ireturn, 1) := by decide +kernel
theorem dX5_holds_0 : decode cX5_holds 0 = .ok (.iload_n 0, 1) := by decide +kernel
theorem dX5_holds_1 : decode cX5_holds 1 = .ok (.iload_n 1, 1) := by decide +kernel
theorem dX5_holds_2 : decode cX5_holds 2 = .ok (.ishr, 1) := by decide +kernel
theorem dX5_holds_3 : decode cX5_holds 3 = .ok (.iconst 1, 1) := by decide +kernel
theorem dX5_holds_4 : decode cX5_holds 4 = .ok (.iand, 1) := by decide +kernel
theorem dX5_holds_5 : decode cX5_holds 5 = .ok (.iconst 1, 1) := by decide +kernel
theorem dX5_holds_6 : decode cX5_holds 6 = .ok (.if_icmp .ne 7, 3) := by decide +kernel
theorem dX5_holds_9 : decode cX5_holds 9 = .ok (.iconst 1, 1) := by decide +kernel
theorem dX5_holds_10 : decode cX5_holds 10 = .ok (.goto 4, 3) := by decide +kernel
theorem dX5_holds_13 : decode cX5_holds 13 = .ok (.iconst 0, 1) := by decide +kernel
theorem dX5_holds_14 : decode cX5_holds 14 = .ok (.ireturn, 1) := by decide +kernel
theorem dX5_power_0 : decode cX5_power 0 = .ok (.lconst 1, 1) := by decide +kernel
theorem dX5_power_1 : decode cX5_power 1 = .ok (.lstore_n 3, 1) := by decide +kernel
theorem dX5_power_2 : decode cX5_power 2 = .ok (.iconst 0, 1) := by decide +kernel
theorem dX5_power_3 : decode cX5_power 3 = .ok (.istore 5, 2) := by decide +kernel
theorem dX5_power_5 : decode cX5_power 5 = .ok (.iload 5, 2) := by decide +kernel
theorem dX5_power_7 : decode cX5_power 7 = .ok (.iload_n 2, 1) := by decide +kernel
theorem dX5_power_8 : decode cX5_power 8 = .ok (.if_icmp .ge 13, 3) := by decide +kernel
theorem dX5_power_11 : decode cX5_power 11 = .ok (.lload_n 3, 1) := by decide +kernel
theorem dX5_power_12 : decode cX5_power 12 = .ok (.lload_n 0, 1) := by decide +kernel
theorem dX5_power_13 : decode cX5_power 13 = .ok (.lmul, 1) := by decide +kernel
theorem dX5_power_14 : decode cX5_power 14 = .ok (.lstore_n 3, 1) := by decide +kernel
theorem dX5_power_15 : decode cX5_power 15 = .ok (.iinc 5 1, 3) := by decide +kernel
theorem dX5_power_18 : decode cX5_power 18 = .ok (.goto (-13), 3) := by decide +kernel
theorem dX5_power_21 : decode cX5_power 21 = .ok (.lload_n 3, 1) := by decide +kernel
theorem dX5_power_22 : decode cX5_power 22 = .ok (.lreturn, 1) := by decide +kernel
theorem dX5_greatestDivisor_0 : decode cX5_greatestDivisor 0 = .ok (.lload_n 0, 1) := by decide +kernel
theorem dX5_greatestDivisor_1 : decode cX5_greatestDivisor 1 = .ok (.lstore 4, 2) := by decide +kernel
theorem dX5_greatestDivisor_3 : decode cX5_greatestDivisor 3 = .ok (.lload_n 2, 1) := by decide +kernel
theorem dX5_greatestDivisor_4 : decode cX5_greatestDivisor 4 = .ok (.lstore 6, 2) := by decide +kernel
theorem dX5_greatestDivisor_6 : decode cX5_greatestDivisor 6 = .ok (.iconst 0, 1) := by decide +kernel
theorem dX5_greatestDivisor_7 : decode cX5_greatestDivisor 7 = .ok (.istore 8, 2) := by decide +kernel
theorem dX5_greatestDivisor_9 : decode cX5_greatestDivisor 9 = .ok (.iload 8, 2) := by decide +kernel
theorem dX5_greatestDivisor_11 : decode cX5_greatestDivisor 11 = .ok (.bipush 100, 2) := by decide +kernel
theorem dX5_greatestDivisor_13 : decode cX5_greatestDivisor 13 = .ok (.if_icmp .ge 31, 3) := by decide +kernel
theorem dX5_greatestDivisor_16 : decode cX5_greatestDivisor 16 = .ok (.lload 6, 2) := by decide +kernel
theorem dX5_greatestDivisor_18 : decode cX5_greatestDivisor 18 = .ok (.lconst 0, 1) := by decide +kernel
theorem dX5_greatestDivisor_19 : decode cX5_greatestDivisor 19 = .ok (.lcmp, 1) := by decide +kernel
theorem dX5_greatestDivisor_20 : decode cX5_greatestDivisor 20 = .ok (.ifCond .eq 24, 3) := by decide +kernel
theorem dX5_greatestDivisor_23 : decode cX5_greatestDivisor 23 = .ok (.lload 4, 2) := by decide +kernel
theorem dX5_greatestDivisor_25 : decode cX5_greatestDivisor 25 = .ok (.lload 6, 2) := by decide +kernel
theorem dX5_greatestDivisor_27 : decode cX5_greatestDivisor 27 = .ok (.lrem, 1) := by decide +kernel
theorem dX5_greatestDivisor_28 : decode cX5_greatestDivisor 28 = .ok (.lstore 9, 2) := by decide +kernel
theorem dX5_greatestDivisor_30 : decode cX5_greatestDivisor 30 = .ok (.lload 6, 2) := by decide +kernel
theorem dX5_greatestDivisor_32 : decode cX5_greatestDivisor 32 = .ok (.lstore 4, 2) := by decide +kernel
theorem dX5_greatestDivisor_34 : decode cX5_greatestDivisor 34 = .ok (.lload 9, 2) := by decide +kernel
theorem dX5_greatestDivisor_36 : decode cX5_greatestDivisor 36 = .ok (.lstore 6, 2) := by decide +kernel
theorem dX5_greatestDivisor_38 : decode cX5_greatestDivisor 38 = .ok (.iinc 8 1, 3) := by decide +kernel
theorem dX5_greatestDivisor_41 : decode cX5_greatestDivisor 41 = .ok (.goto (-32), 3) := by decide +kernel
theorem dX5_greatestDivisor_44 : decode cX5_greatestDivisor 44 = .ok (.lload 4, 2) := by decide +kernel
theorem dX5_greatestDivisor_46 : decode cX5_greatestDivisor 46 = .ok (.lreturn, 1) := by decide +kernel
theorem dX6_init_0 : decode cX6_init 0 = .ok (.aload_n 0, 1) := by decide +kernel
theorem dX6_init_1 : decode cX6_init 1 = .ok (.invokespecial 1, 3) := by decide +kernel
theorem dX6_init_4 : decode cX6_init 4 = .ok (.aload_n 0, 1) := by decide +kernel
theorem dX6_init_5 : decode cX6_init 5 = .ok (.bipush 89, 2) := by decide +kernel
theorem dX6_init_7 : decode cX6_init 7 = .ok (.newarray .int, 2) := by decide +kernel
theorem dX6_init_9 : decode cX6_init 9 = .ok (.putfield 9, 3) := by decide +kernel
theorem dX6_init_12 : decode cX6_init 12 = .ok (.aload_n 0, 1) := by decide +kernel
theorem dX6_init_13 : decode cX6_init 13 = .ok (.bipush 89, 2) := by decide +kernel
theorem dX6_init_15 : decode cX6_init 15 = .ok (.newarray .int, 2) := by decide +kernel
theorem dX6_init_17 : decode cX6_init 17 = .ok (.putfield 13, 3) := by decide +kernel
theorem dX6_init_20 : decode cX6_init 20 = .ok (.aload_n 0, 1) := by decide +kernel
theorem dX6_init_21 : decode cX6_init 21 = .ok (.bipush 89, 2) := by decide +kernel
theorem dX6_init_23 : decode cX6_init 23 = .ok (.newarray .int, 2) := by decide +kernel
theorem dX6_init_25 : decode cX6_init 25 = .ok (.putfield 16, 3) := by decide +kernel
theorem dX6_init_28 : decode cX6_init 28 = .ok (.aload_n 0, 1) := by decide +kernel
theorem dX6_init_29 : decode cX6_init 29 = .ok (.bipush 96, 2) := by decide +kernel
theorem dX6_init_31 : decode cX6_init 31 = .ok (.newarray .int, 2) := by decide +kernel
theorem dX6_init_33 : decode cX6_init 33 = .ok (.putfield 19, 3) := by decide +kernel
theorem dX6_init_36 : decode cX6_init 36 = .ok (.aload_n 0, 1) := by decide +kernel
theorem dX6_init_37 : decode cX6_init 37 = .ok (.bipush 12, 2) := by decide +kernel
theorem dX6_init_39 : decode cX6_init 39 = .ok (.newarray .int, 2) := by decide +kernel
theorem dX6_init_41 : decode cX6_init 41 = .ok (.putfield 22, 3) := by decide +kernel
theorem dX6_init_44 : decode cX6_init 44 = .ok (.aload_n 0, 1) := by decide +kernel
theorem dX6_init_45 : decode cX6_init 45 = .ok (.bipush 7, 2) := by decide +kernel
theorem dX6_init_47 : decode cX6_init 47 = .ok (.newarray .int, 2) := by decide +kernel
theorem dX6_init_49 : decode cX6_init 49 = .ok (.putfield 25, 3) := by decide +kernel
theorem dX6_init_52 : decode cX6_init 52 = .ok (.aload_n 0, 1) := by decide +kernel
theorem dX6_init_53 : decode cX6_init 53 = .ok (.iconst 5, 1) := by decide +kernel
theorem dX6_init_54 : decode cX6_init 54 = .ok (.newarray .int, 2) := by decide +kernel
theorem dX6_init_56 : decode cX6_init 56 = .ok (.putfield 28, 3) := by decide +kernel
theorem dX6_init_59 : decode cX6_init 59 = .ok (.aload_n 0, 1) := by decide +kernel
theorem dX6_init_60 : decode cX6_init 60 = .ok (.iconst 5, 1) := by decide +kernel
theorem dX6_init_61 : decode cX6_init 61 = .ok (.newarray .int, 2) := by decide +kernel
theorem dX6_init_63 : decode cX6_init 63 = .ok (.putfield 31, 3) := by decide +kernel
theorem dX6_init_66 : decode cX6_init 66 = .ok (.aload_n 0, 1) := by decide +kernel
theorem dX6_init_67 : decode cX6_init 67 = .ok (.getfield 9, 3) := by decide +kernel
theorem dX6_init_70 : decode cX6_init 70 = .ok (.iconst 3, 1) := by decide +kernel
theorem dX6_init_71 : decode cX6_init 71 = .ok (.iconst 2, 1) := by decide +kernel
theorem dX6_init_72 : decode cX6_init 72 = .ok (.iastore, 1) := by decide +kernel
theorem dX6_init_73 : decode cX6_init 73 = .ok (.iconst 0, 1) := by decide +kernel
theorem dX6_init_74 : decode cX6_init 74 = .ok (.istore_n 1, 1) := by decide +kernel
theorem dX6_init_75 : decode cX6_init 75 = .ok (.iload_n 1, 1) := by decide +kernel
theorem dX6_init_76 : decode cX6_init 76 = .ok (.iconst 5, 1) := by decide +kernel
theorem dX6_init_77 : decode cX6_init 77 = .ok (.if_icmp .ge 19, 3) := by decide +kernel
theorem dX6_init_80 : decode cX6_init 80 = .ok (.aload_n 0, 1) := by decide +kernel
theorem dX6_init_81 : decode cX6_init 81 = .ok (.getfield 9, 3) := by decide +kernel
theorem dX6_init_84 : decode cX6_init 84 = .ok (.iconst 4, 1) := by decide +kernel
theorem dX6_init_85 : decode cX6_init 85 = .ok (.iload_n 1, 1) := by decide +kernel
theorem dX6_init_86 : decode cX6_init 86 = .ok (.iadd, 1) := by decide +kernel
theorem dX6_init_87 : decode cX6_init 87 = .ok (.bipush 50, 2) := by decide +kernel
theorem dX6_init_89 : decode cX6_init 89 = .ok (.iastore, 1) := by decide +kernel
theorem dX6_init_90 : decode cX6_init 90 = .ok (.iinc 1 1, 3) := by decide +kernel
theorem dX6_init_93 : decode cX6_init 93 = .ok (.goto (-18), 3) := by decide +kernel
theorem dX6_init_96 : decode cX6_init 96 = .ok (.return_, 1) := by decide +kernel
theorem dX6_isIn_0 : decode cX6_isIn 0 = .ok (.iload_n 0, 1) := by decide +kernel
theorem dX6_isIn_1 : decode cX6_isIn 1 = .ok (.iload_n 1, 1) := by decide +kernel
theorem dX6_isIn_2 : decode cX6_isIn 2 = .ok (.if_icmp .lt 12, 3) := by decide +kernel
theorem dX6_isIn_5 : decode cX6_isIn 5 = .ok (.iload_n 0, 1) := by decide +kernel
theorem dX6_isIn_6 : decode cX6_isIn 6 = .ok (.iload_n 2, 1) := by decide +kernel
theorem dX6_isIn_7 : decode cX6_isIn 7 = .ok (.if_icmp .gt 7, 3) := by decide +kernel
theorem dX6_isIn_10 : decode cX6_isIn 10 = .ok (.iconst 1, 1) := by decide +kernel
theorem dX6_isIn_11 : decode cX6_isIn 11 = .ok (.goto 4, 3) := by decide +kernel
theorem dX6_isIn_14 : decode cX6_isIn 14 = .ok (.iconst 0, 1) := by decide +kernel
theorem dX6_isIn_15 : decode cX6_isIn 15 = .ok (.ireturn, 1) := by decide +kernel
theorem dX6_least_0 : decode cX6_least 0 = .ok (.iload_n 0, 1) := by decide +kernel
theorem dX6_least_1 : decode cX6_least 1 = .ok (.iload_n 1, 1) := by decide +kernel
theorem dX6_least_2 : decode cX6_least 2 = .ok (.if_icmp .ge 7, 3) := by decide +kernel
theorem dX6_least_5 : decode cX6_least 5 = .ok (.iload_n 0, 1) := by decide +kernel
theorem dX6_least_6 : decode cX6_least 6 = .ok (.goto 4, 3) := by decide +kernel
theorem dX6_least_9 : decode cX6_least 9 = .ok (.iload_n 1, 1) := by decide +kernel
theorem dX6_least_10 : decode cX6_least 10 = .ok (.ireturn, 1) := by decide +kernel
theorem dX6_most_0 : decode cX6_most 0 = .ok (.iload_n 0, 1) := by decide +kernel
theorem dX6_most_1 : decode cX6_most 1 = .ok (.iload_n 1, 1) := by decide +kernel
theorem dX6_most_2 : decode cX6_most 2 = .ok (.if_icmp .le 7, 3) := by decide +kernel
theorem dX6_most_5 : decode cX6_most 5 = .ok (.iload_n 0, 1) := by decide +kernel
theorem dX6_most_6 : decode cX6_most 6 = .ok (.goto 4, 3) := by decide +kernel
theorem dX6_most_9 : decode cX6_most 9 = .ok (.iload_n 1, 1) := by decide +kernel
theorem dX6_most_10 : decode cX6_most 10 = .ok (.ireturn, 1) := by decide +kernel
theorem dX6_lays_0 : decode cX6_lays 0 = .ok (.iconst 0, 1) := by decide +kernel
theorem dX6_lays_1 : decode cX6_lays 1 = .ok (.istore_n 2, 1) := by decide +kernel
theorem dX6_lays_2 : decode cX6_lays 2 = .ok (.iload_n 2, 1) := by decide +kernel
theorem dX6_lays_3 : decode cX6_lays 3 = .ok (.bipush 89, 2) := by decide +kernel
theorem dX6_lays_5 : decode cX6_lays 5 = .ok (.if_icmp .ge 15, 3) := by decide +kernel
theorem dX6_lays_8 : decode cX6_lays 8 = .ok (.aload_n 1, 1) := by decide +kernel
theorem dX6_lays_9 : decode cX6_lays 9 = .ok (.iload_n 2, 1) := by decide +kernel
theorem dX6_lays_10 : decode cX6_lays 10 = .ok (.aload_n 0, 1) := by decide +kernel
theorem dX6_lays_11 : decode cX6_lays 11 = .ok (.iload_n 2, 1) := by decide +kernel
theorem dX6_lays_12 : decode cX6_lays 12 = .ok (.iaload, 1) := by decide +kernel
theorem dX6_lays_13 : decode cX6_lays 13 = .ok (.iastore, 1) := by decide +kernel
theorem dX6_lays_14 : decode cX6_lays 14 = .ok (.iinc 2 1, 3) := by decide +kernel
theorem dX6_lays_17 : decode cX6_lays 17 = .ok (.goto (-15), 3) := by decide +kernel
theorem dX6_lays_20 : decode cX6_lays 20 = .ok (.return_, 1) := by decide +kernel
theorem dX6_no_0 : decode cX6_no 0 = .ok (.aload_n 0, 1) := by decide +kernel
theorem dX6_no_1 : decode cX6_no 1 = .ok (.getfield 25, 3) := by decide +kernel
theorem dX6_no_4 : decode cX6_no 4 = .ok (.iload_n 1, 1) := by decide +kernel
theorem dX6_no_5 : decode cX6_no 5 = .ok (.ineg, 1) := by decide +kernel
theorem dX6_no_6 : decode cX6_no 6 = .ok (.dup2, 1) := by decide +kernel
theorem dX6_no_7 : decode cX6_no 7 = .ok (.iaload, 1) := by decide +kernel
theorem dX6_no_8 : decode cX6_no 8 = .ok (.iconst 1, 1) := by decide +kernel
theorem dX6_no_9 : decode cX6_no 9 = .ok (.iadd, 1) := by decide +kernel
theorem dX6_no_10 : decode cX6_no 10 = .ok (.iastore, 1) := by decide +kernel
theorem dX6_no_11 : decode cX6_no 11 = .ok (.iload_n 1, 1) := by decide +kernel
theorem dX6_no_12 : decode cX6_no 12 = .ok (.ireturn, 1) := by decide +kernel
theorem dX6_noFar_0 : decode cX6_noFar 0 = .ok (.ldc 34, 2) := by decide +kernel
theorem dX6_noFar_2 : decode cX6_noFar 2 = .ok (.aload_n 0, 1) := by decide +kernel
theorem dX6_noFar_3 : decode cX6_noFar 3 = .ok (.iload_n 1, 1) := by decide +kernel
theorem dX6_noFar_4 : decode cX6_noFar 4 = .ok (.invokevirtual 35, 3) := by decide +kernel
theorem dX6_noFar_7 : decode cX6_noFar 7 = .ok (.isub, 1) := by decide +kernel
theorem dX6_noFar_8 : decode cX6_noFar 8 = .ok (.ireturn, 1) := by decide +kernel
theorem dX6_noWide_0 : decode cX6_noWide 0 = .ok (.ldc2_w 39, 3) := by decide +kernel
theorem dX6_noWide_3 : decode cX6_noWide 3 = .ok (.aload_n 0, 1) := by decide +kernel
theorem dX6_noWide_4 : decode cX6_noWide 4 = .ok (.iload_n 1, 1) := by decide +kernel
theorem dX6_noWide_5 : decode cX6_noWide 5 = .ok (.invokevirtual 35, 3) := by decide +kernel
theorem dX6_noWide_8 : decode cX6_noWide 8 = .ok (.i2l, 1) := by decide +kernel
theorem dX6_noWide_9 : decode cX6_noWide 9 = .ok (.lsub, 1) := by decide +kernel
theorem dX6_noWide_10 : decode cX6_noWide 10 = .ok (.lreturn, 1) := by decide +kernel
theorem dX6_of_0 : decode cX6_of 0 = .ok (.bipush 9, 2) := by decide +kernel
theorem dX6_of_2 : decode cX6_of 2 = .ok (.bipush 7, 2) := by decide +kernel
theorem dX6_of_4 : decode cX6_of 4 = .ok (.iload_n 0, 1) := by decide +kernel
theorem dX6_of_5 : decode cX6_of 5 = .ok (.imul, 1) := by decide +kernel
theorem dX6_of_6 : decode cX6_of 6 = .ok (.iadd, 1) := by decide +kernel
theorem dX6_of_7 : decode cX6_of 7 = .ok (.iload_n 1, 1) := by decide +kernel
theorem dX6_of_8 : decode cX6_of 8 = .ok (.iadd, 1) := by decide +kernel
theorem dX6_of_9 : decode cX6_of 9 = .ok (.ireturn, 1) := by decide +kernel
theorem dX6_isKey_0 : decode cX6_isKey 0 = .ok (.iload_n 1, 1) := by decide +kernel
theorem dX6_isKey_1 : decode cX6_isKey 1 = .ok (.iconst 0, 1) := by decide +kernel
theorem dX6_isKey_2 : decode cX6_isKey 2 = .ok (.aload_n 0, 1) := by decide +kernel
theorem dX6_isKey_3 : decode cX6_isKey 3 = .ok (.getfield 9, 3) := by decide +kernel
theorem dX6_isKey_6 : decode cX6_isKey 6 = .ok (.iconst 0, 1) := by decide +kernel
theorem dX6_isKey_7 : decode cX6_isKey 7 = .ok (.iaload, 1) := by decide +kernel
theorem dX6_isKey_8 : decode cX6_isKey 8 = .ok (.iconst 1, 1) := by decide +kernel
theorem dX6_isKey_9 : decode cX6_isKey 9 = .ok (.isub, 1) := by decide +kernel
theorem dX6_isKey_10 : decode cX6_isKey 10 = .ok (.invokestatic 41, 3) := by decide +kernel
theorem dX6_isKey_13 : decode cX6_isKey 13 = .ok (.ireturn, 1) := by decide +kernel
theorem dX6_isMachine_0 : decode cX6_isMachine 0 = .ok (.iload_n 1, 1) := by decide +kernel
theorem dX6_isMachine_1 : decode cX6_isMachine 1 = .ok (.iconst 0, 1) := by decide +kernel
theorem dX6_isMachine_2 : decode cX6_isMachine 2 = .ok (.aload_n 0, 1) := by decide +kernel
theorem dX6_isMachine_3 : decode cX6_isMachine 3 = .ok (.getfield 9, 3) := by decide +kernel
theorem dX6_isMachine_6 : decode cX6_isMachine 6 = .ok (.iconst 1, 1) := by decide +kernel
theorem dX6_isMachine_7 : decode cX6_isMachine 7 = .ok (.iaload, 1) := by decide +kernel
theorem dX6_isMachine_8 : decode cX6_isMachine 8 = .ok (.iconst 1, 1) := by decide +kernel
theorem dX6_isMachine_9 : decode cX6_isMachine 9 = .ok (.isub, 1) := by decide +kernel
theorem dX6_isMachine_10 : decode cX6_isMachine 10 = .ok (.invokestatic 41, 3) := by decide +kernel
theorem dX6_isMachine_13 : decode cX6_isMachine 13 = .ok (.ireturn, 1) := by decide +kernel
theorem dX6_isTooth_0 : decode cX6_isTooth 0 = .ok (.iload_n 0, 1) := by decide +kernel
theorem dX6_isTooth_1 : decode cX6_isTooth 1 = .ok (.iconst 0, 1) := by decide +kernel
theorem dX6_isTooth_2 : decode cX6_isTooth 2 = .ok (.iconst 4, 1) := by decide +kernel
theorem dX6_isTooth_3 : decode cX6_isTooth 3 = .ok (.invokestatic 41, 3) := by decide +kernel
theorem dX6_isTooth_6 : decode cX6_isTooth 6 = .ok (.ireturn, 1) := by decide +kernel
theorem dX6_isSnapped_0 : decode cX6_isSnapped 0 = .ok (.aload_n 0, 1) := by decide +kernel
theorem dX6_isSnapped_1 : decode cX6_isSnapped 1 = .ok (.getfield 9, 3) := by decide +kernel
theorem dX6_isSnapped_4 : decode cX6_isSnapped 4 = .ok (.iload_n 1, 1) := by decide +kernel
theorem dX6_isSnapped_5 : decode cX6_isSnapped 5 = .ok (.bipush 6, 2) := by decide +kernel
theorem dX6_isSnapped_7 : decode cX6_isSnapped 7 = .ok (.invokestatic 45, 3) := by decide +kernel
theorem dX6_isSnapped_10 : decode cX6_isSnapped 10 = .ok (.iaload, 1) := by decide +kernel
theorem dX6_isSnapped_11 : decode cX6_isSnapped 11 = .ok (.iconst 1, 1) := by decide +kernel
theorem dX6_isSnapped_12 : decode cX6_isSnapped 12 = .ok (.if_icmp .ne 7, 3) := by decide +kernel
theorem dX6_isSnapped_15 : decode cX6_isSnapped 15 = .ok (.iconst 1, 1) := by decide +kernel
theorem dX6_isSnapped_16 : decode cX6_isSnapped 16 = .ok (.goto 4, 3) := by decide +kernel
theorem dX6_isSnapped_19 : decode cX6_isSnapped 19 = .ok (.iconst 0, 1) := by decide +kernel
theorem dX6_isSnapped_20 : decode cX6_isSnapped 20 = .ok (.ireturn, 1) := by decide +kernel
theorem dX6_apart_0 : decode cX6_apart 0 = .ok (.iload_n 0, 1) := by decide +kernel
theorem dX6_apart_1 : decode cX6_apart 1 = .ok (.iload_n 1, 1) := by decide +kernel
theorem dX6_apart_2 : decode cX6_apart 2 = .ok (.if_icmp .le 9, 3) := by decide +kernel
theorem dX6_apart_5 : decode cX6_apart 5 = .ok (.iload_n 0, 1) := by decide +kernel
theorem dX6_apart_6 : decode cX6_apart 6 = .ok (.iload_n 1, 1) := by decide +kernel
theorem dX6_apart_7 : decode cX6_apart 7 = .ok (.isub, 1) := by decide +kernel
theorem dX6_apart_8 : decode cX6_apart 8 = .ok (.goto 6, 3) := by decide +kernel
theorem dX6_apart_11 : decode cX6_apart 11 = .ok (.iload_n 1, 1) := by decide +kernel
theorem dX6_apart_12 : decode cX6_apart 12 = .ok (.iload_n 0, 1) := by decide +kernel
theorem dX6_apart_13 : decode cX6_apart 13 = .ok (.isub, 1) := by decide +kernel
theorem dX6_apart_14 : decode cX6_apart 14 = .ok (.ireturn, 1) := by decide +kernel
theorem dX6_bits_0 : decode cX6_bits 0 = .ok (.iconst 0, 1) := by decide +kernel
theorem dX6_bits_1 : decode cX6_bits 1 = .ok (.istore_n 1, 1) := by decide +kernel
theorem dX6_bits_2 : decode cX6_bits 2 = .ok (.iconst 0, 1) := by decide +kernel
theorem dX6_bits_3 : decode cX6_bits 3 = .ok (.istore_n 2, 1) := by decide +kernel
theorem dX6_bits_4 : decode cX6_bits 4 = .ok (.iload_n 2, 1) := by decide +kernel
theorem dX6_bits_5 : decode cX6_bits 5 = .ok (.bipush 10, 2) := by decide +kernel
theorem dX6_bits_7 : decode cX6_bits 7 = .ok (.if_icmp .ge 17, 3) := by decide +kernel
theorem dX6_bits_10 : decode cX6_bits 10 = .ok (.iload_n 1, 1) := by decide +kernel
theorem dX6_bits_11 : decode cX6_bits 11 = .ok (.iload_n 0, 1) := by decide +kernel
theorem dX6_bits_12 : decode cX6_bits 12 = .ok (.iload_n 2, 1) := by decide +kernel
theorem dX6_bits_13 : decode cX6_bits 13 = .ok (.ishr, 1) := by decide +kernel
theorem dX6_bits_14 : decode cX6_bits 14 = .ok (.iconst 1, 1) := by decide +kernel
theorem dX6_bits_15 : decode cX6_bits 15 = .ok (.iand, 1) := by decide +kernel
theorem dX6_bits_16 : decode cX6_bits 16 = .ok (.iadd, 1) := by decide +kernel
theorem dX6_bits_17 : decode cX6_bits 17 = .ok (.istore_n 1, 1) := by decide +kernel
theorem dX6_bits_18 : decode cX6_bits 18 = .ok (.iinc 2 1, 3) := by decide +kernel
theorem dX6_bits_21 : decode cX6_bits 21 = .ok (.goto (-17), 3) := by decide +kernel
theorem dX6_bits_24 : decode cX6_bits 24 = .ok (.iload_n 1, 1) := by decide +kernel
theorem dX6_bits_25 : decode cX6_bits 25 = .ok (.ireturn, 1) := by decide +kernel
theorem dX6_round_0 : decode cX6_round 0 = .ok (.iload_n 0, 1) := by decide +kernel
theorem dX6_round_1 : decode cX6_round 1 = .ok (.iconst 4, 1) := by decide +kernel
theorem dX6_round_2 : decode cX6_round 2 = .ok (.iadd, 1) := by decide +kernel
theorem dX6_round_3 : decode cX6_round 3 = .ok (.bipush 10, 2) := by decide +kernel
theorem dX6_round_5 : decode cX6_round 5 = .ok (.idiv, 1) := by decide +kernel
theorem dX6_round_6 : decode cX6_round 6 = .ok (.bipush 10, 2) := by decide +kernel
theorem dX6_round_8 : decode cX6_round 8 = .ok (.imul, 1) := by decide +kernel
theorem dX6_round_9 : decode cX6_round 9 = .ok (.ireturn, 1) := by decide +kernel
theorem dX6_held_0 : decode cX6_held 0 = .ok (.iconst 0, 1) := by decide +kernel
theorem dX6_held_1 : decode cX6_held 1 = .ok (.bipush 99, 2) := by decide +kernel
theorem dX6_held_3 : decode cX6_held 3 = .ok (.iload_n 0, 1) := by decide +kernel
theorem dX6_held_4 : decode cX6_held 4 = .ok (.invokestatic 49, 3) := by decide +kernel
theorem dX6_held_7 : decode cX6_held 7 = .ok (.invokestatic 52, 3) := by decide +kernel
theorem dX6_held_10 : decode cX6_held 10 = .ok (.ireturn, 1) := by decide +kernel
theorem dX6_cutBy_0 : decode cX6_cutBy 0 = .ok (.iload_n 0, 1) := by decide +kernel
theorem dX6_cutBy_1 : decode cX6_cutBy 1 = .ok (.tableswitch 92 1 5 #[35, 42, 59, 72, 84], 35) := by decide +kernel
theorem dX6_cutBy_36 : decode cX6_cutBy 36 = .ok (.iload_n 3, 1) := by decide +kernel
theorem dX6_cutBy_37 : decode cX6_cutBy 37 = .ok (.iload_n 1, 1) := by decide +kernel
theorem dX6_cutBy_38 : decode cX6_cutBy 38 = .ok (.iadd, 1) := by decide +kernel
theorem dX6_cutBy_39 : decode cX6_cutBy 39 = .ok (.invokestatic 55, 3) := by decide +kernel
theorem dX6_cutBy_42 : decode cX6_cutBy 42 = .ok (.ireturn, 1) := by decide +kernel
theorem dX6_cutBy_43 : decode cX6_cutBy 43 = .ok (.iload_n 2, 1) := by decide +kernel
theorem dX6_cutBy_44 : decode cX6_cutBy 44 = .ok (.iconst 2, 1) := by decide +kernel
theorem dX6_cutBy_45 : decode cX6_cutBy 45 = .ok (.irem, 1) := by decide +kernel
theorem dX6_cutBy_46 : decode cX6_cutBy 46 = .ok (.ifCond .ne 12, 3) := by decide +kernel
theorem dX6_cutBy_49 : decode cX6_cutBy 49 = .ok (.iload_n 3, 1) := by decide +kernel
theorem dX6_cutBy_50 : decode cX6_cutBy 50 = .ok (.iload_n 1, 1) := by decide +kernel
theorem dX6_cutBy_51 : decode cX6_cutBy 51 = .ok (.isub, 1) := by decide +kernel
theorem dX6_cutBy_52 : decode cX6_cutBy 52 = .ok (.invokestatic 55, 3) := by decide +kernel
theorem dX6_cutBy_55 : decode cX6_cutBy 55 = .ok (.goto 4, 3) := by decide +kernel
theorem dX6_cutBy_58 : decode cX6_cutBy 58 = .ok (.iload_n 3, 1) := by decide +kernel
theorem dX6_cutBy_59 : decode cX6_cutBy 59 = .ok (.ireturn, 1) := by decide +kernel
theorem dX6_cutBy_60 : decode cX6_cutBy 60 = .ok (.iload_n 3, 1) := by decide +kernel
theorem dX6_cutBy_61 : decode cX6_cutBy 61 = .ok (.iload_n 1, 1) := by decide +kernel
theorem dX6_cutBy_62 : decode cX6_cutBy 62 = .ok (.isub, 1) := by decide +kernel
theorem dX6_cutBy_63 : decode cX6_cutBy 63 = .ok (.invokestatic 55, 3) := by decide +kernel
theorem dX6_cutBy_66 : decode cX6_cutBy 66 = .ok (.invokestatic 58, 3) := by decide +kernel
theorem dX6_cutBy_69 : decode cX6_cutBy 69 = .ok (.invokestatic 55, 3) := by decide +kernel
theorem dX6_cutBy_72 : decode cX6_cutBy 72 = .ok (.ireturn, 1) := by decide +kernel
theorem dX6_cutBy_73 : decode cX6_cutBy 73 = .ok (.iload_n 3, 1) := by decide +kernel
theorem dX6_cutBy_74 : decode cX6_cutBy 74 = .ok (.iload_n 1, 1) := by decide +kernel
theorem dX6_cutBy_75 : decode cX6_cutBy 75 = .ok (.iadd, 1) := by decide +kernel
theorem dX6_cutBy_76 : decode cX6_cutBy 76 = .ok (.invokestatic 55, 3) := by decide +kernel
theorem dX6_cutBy_79 : decode cX6_cutBy 79 = .ok (.iload_n 2, 1) := by decide +kernel
theorem dX6_cutBy_80 : decode cX6_cutBy 80 = .ok (.iadd, 1) := by decide +kernel
theorem dX6_cutBy_81 : decode cX6_cutBy 81 = .ok (.invokestatic 55, 3) := by decide +kernel
theorem dX6_cutBy_84 : decode cX6_cutBy 84 = .ok (.ireturn, 1) := by decide +kernel
theorem dX6_cutBy_85 : decode cX6_cutBy 85 = .ok (.iload_n 3, 1) := by decide +kernel
theorem dX6_cutBy_86 : decode cX6_cutBy 86 = .ok (.invokestatic 58, 3) := by decide +kernel
theorem dX6_cutBy_89 : decode cX6_cutBy 89 = .ok (.invokestatic 55, 3) := by decide +kernel
theorem dX6_cutBy_92 : decode cX6_cutBy 92 = .ok (.ireturn, 1) := by decide +kernel
theorem dX6_cutBy_93 : decode cX6_cutBy 93 = .ok (.iload_n 3, 1) := by decide +kernel
theorem dX6_cutBy_94 : decode cX6_cutBy 94 = .ok (.iload_n 1, 1) := by decide +kernel
theorem dX6_cutBy_95 : decode cX6_cutBy 95 = .ok (.isub, 1) := by decide +kernel
theorem dX6_cutBy_96 : decode cX6_cutBy 96 = .ok (.invokestatic 55, 3) := by decide +kernel
theorem dX6_cutBy_99 : decode cX6_cutBy 99 = .ok (.ireturn, 1) := by decide +kernel
theorem dX6_takes_0 : decode cX6_takes 0 = .ok (.iconst 0, 1) := by decide +kernel
theorem dX6_takes_1 : decode cX6_takes 1 = .ok (.istore_n 2, 1) := by decide +kernel
theorem dX6_takes_2 : decode cX6_takes 2 = .ok (.iload_n 2, 1) := by decide +kernel
theorem dX6_takes_3 : decode cX6_takes 3 = .ok (.iconst 5, 1) := by decide +kernel
theorem dX6_takes_4 : decode cX6_takes 4 = .ok (.if_icmp .ge 25, 3) := by decide +kernel
theorem dX6_takes_7 : decode cX6_takes 7 = .ok (.aload_n 0, 1) := by decide +kernel
theorem dX6_takes_8 : decode cX6_takes 8 = .ok (.getfield 28, 3) := by decide +kernel
theorem dX6_takes_11 : decode cX6_takes 11 = .ok (.iload_n 2, 1) := by decide +kernel
theorem dX6_takes_12 : decode cX6_takes 12 = .ok (.aload_n 0, 1) := by decide +kernel
theorem dX6_takes_13 : decode cX6_takes 13 = .ok (.getfield 9, 3) := by decide +kernel
theorem dX6_takes_16 : decode cX6_takes 16 = .ok (.iload_n 1, 1) := by decide +kernel
theorem dX6_takes_17 : decode cX6_takes 17 = .ok (.iload_n 2, 1) := by decide +kernel
theorem dX6_takes_18 : decode cX6_takes 18 = .ok (.invokestatic 45, 3) := by decide +kernel
theorem dX6_takes_21 : decode cX6_takes 21 = .ok (.iaload, 1) := by decide +kernel
theorem dX6_takes_22 : decode cX6_takes 22 = .ok (.iastore, 1) := by decide +kernel
theorem dX6_takes_23 : decode cX6_takes 23 = .ok (.iinc 2 1, 3) := by decide +kernel
theorem dX6_takes_26 : decode cX6_takes 26 = .ok (.goto (-24), 3) := by decide +kernel
theorem dX6_takes_29 : decode cX6_takes 29 = .ok (.return_, 1) := by decide +kernel
theorem dX6_cutsIn_0 : decode cX6_cutsIn 0 = .ok (.iconst 0, 1) := by decide +kernel
theorem dX6_cutsIn_1 : decode cX6_cutsIn 1 = .ok (.istore_n 3, 1) := by decide +kernel
theorem dX6_cutsIn_2 : decode cX6_cutsIn 2 = .ok (.iload_n 3, 1) := by decide +kernel
theorem dX6_cutsIn_3 : decode cX6_cutsIn 3 = .ok (.iconst 5, 1) := by decide +kernel
theorem dX6_cutsIn_4 : decode cX6_cutsIn 4 = .ok (.if_icmp .ge 27, 3) := by decide +kernel
theorem dX6_cutsIn_7 : decode cX6_cutsIn 7 = .ok (.aload_n 0, 1) := by decide +kernel
theorem dX6_cutsIn_8 : decode cX6_cutsIn 8 = .ok (.getfield 28, 3) := by decide +kernel
theorem dX6_cutsIn_11 : decode cX6_cutsIn 11 = .ok (.iload_n 3, 1) := by decide +kernel
theorem dX6_cutsIn_12 : decode cX6_cutsIn 12 = .ok (.iload_n 1, 1) := by decide +kernel
theorem dX6_cutsIn_13 : decode cX6_cutsIn 13 = .ok (.iload_n 2, 1) := by decide +kernel
theorem dX6_cutsIn_14 : decode cX6_cutsIn 14 = .ok (.iload_n 3, 1) := by decide +kernel
theorem dX6_cutsIn_15 : decode cX6_cutsIn 15 = .ok (.aload_n 0, 1) := by decide +kernel
theorem dX6_cutsIn_16 : decode cX6_cutsIn 16 = .ok (.getfield 28, 3) := by decide +kernel
theorem dX6_cutsIn_19 : decode cX6_cutsIn 19 = .ok (.iload_n 3, 1) := by decide +kernel
theorem dX6_cutsIn_20 : decode cX6_cutsIn 20 = .ok (.iaload, 1) := by decide +kernel
theorem dX6_cutsIn_21 : decode cX6_cutsIn 21 = .ok (.invokestatic 61, 3) := by decide +kernel
theorem dX6_cutsIn_24 : decode cX6_cutsIn 24 = .ok (.iastore, 1) := by decide +kernel
theorem dX6_cutsIn_25 : decode cX6_cutsIn 25 = .ok (.iinc 3 1, 3) := by decide +kernel
theorem dX6_cutsIn_28 : decode cX6_cutsIn 28 = .ok (.goto (-26), 3) := by decide +kernel
theorem dX6_cutsIn_31 : decode cX6_cutsIn 31 = .ok (.return_, 1) := by decide +kernel
theorem dX6_cutsBy_0 : decode cX6_cutsBy 0 = .ok (.aload_n 0, 1) := by decide +kernel
theorem dX6_cutsBy_1 : decode cX6_cutsBy 1 = .ok (.aload_n 0, 1) := by decide +kernel
theorem dX6_cutsBy_2 : decode cX6_cutsBy 2 = .ok (.getfield 9, 3) := by decide +kernel
theorem dX6_cutsBy_5 : decode cX6_cutsBy 5 = .ok (.bipush 79, 2) := by decide +kernel
theorem dX6_cutsBy_7 : decode cX6_cutsBy 7 = .ok (.iconst 2, 1) := by decide +kernel
theorem dX6_cutsBy_8 : decode cX6_cutsBy 8 = .ok (.iload_n 1, 1) := by decide +kernel
theorem dX6_cutsBy_9 : decode cX6_cutsBy 9 = .ok (.imul, 1) := by decide +kernel
theorem dX6_cutsBy_10 : decode cX6_cutsBy 10 = .ok (.iadd, 1) := by decide +kernel
theorem dX6_cutsBy_11 : decode cX6_cutsBy 11 = .ok (.iaload, 1) := by decide +kernel
theorem dX6_cutsBy_12 : decode cX6_cutsBy 12 = .ok (.aload_n 0, 1) := by decide +kernel
theorem dX6_cutsBy_13 : decode cX6_cutsBy 13 = .ok (.getfield 9, 3) := by decide +kernel
theorem dX6_cutsBy_16 : decode cX6_cutsBy 16 = .ok (.bipush 79, 2) := by decide +kernel
theorem dX6_cutsBy_18 : decode cX6_cutsBy 18 = .ok (.iconst 2, 1) := by decide +kernel
theorem dX6_cutsBy_19 : decode cX6_cutsBy 19 = .ok (.iload_n 1, 1) := by decide +kernel
theorem dX6_cutsBy_20 : decode cX6_cutsBy 20 = .ok (.imul, 1) := by decide +kernel
theorem dX6_cutsBy_21 : decode cX6_cutsBy 21 = .ok (.iadd, 1) := by decide +kernel
theorem dX6_cutsBy_22 : decode cX6_cutsBy 22 = .ok (.iconst 1, 1) := by decide +kernel
theorem dX6_cutsBy_23 : decode cX6_cutsBy 23 = .ok (.iadd, 1) := by decide +kernel
theorem dX6_cutsBy_24 : decode cX6_cutsBy 24 = .ok (.iaload, 1) := by decide +kernel
theorem dX6_cutsBy_25 : decode cX6_cutsBy 25 = .ok (.iload_n 2, 1) := by decide +kernel
theorem dX6_cutsBy_26 : decode cX6_cutsBy 26 = .ok (.iadd, 1) := by decide +kernel
theorem dX6_cutsBy_27 : decode cX6_cutsBy 27 = .ok (.invokevirtual 65, 3) := by decide +kernel
theorem dX6_cutsBy_30 : decode cX6_cutsBy 30 = .ok (.return_, 1) := by decide +kernel
theorem dX6_wiggle_0 : decode cX6_wiggle 0 = .ok (.iconst 0, 1) := by decide +kernel
theorem dX6_wiggle_1 : decode cX6_wiggle 1 = .ok (.istore_n 1, 1) := by decide +kernel
theorem dX6_wiggle_2 : decode cX6_wiggle 2 = .ok (.iconst 0, 1) := by decide +kernel
theorem dX6_wiggle_3 : decode cX6_wiggle 3 = .ok (.istore_n 2, 1) := by decide +kernel
theorem dX6_wiggle_4 : decode cX6_wiggle 4 = .ok (.iload_n 2, 1) := by decide +kernel
theorem dX6_wiggle_5 : decode cX6_wiggle 5 = .ok (.iconst 5, 1) := by decide +kernel
theorem dX6_wiggle_6 : decode cX6_wiggle 6 = .ok (.if_icmp .ge 29, 3) := by decide +kernel
theorem dX6_wiggle_9 : decode cX6_wiggle 9 = .ok (.iload_n 1, 1) := by decide +kernel
theorem dX6_wiggle_10 : decode cX6_wiggle 10 = .ok (.aload_n 0, 1) := by decide +kernel
theorem dX6_wiggle_11 : decode cX6_wiggle 11 = .ok (.getfield 28, 3) := by decide +kernel
theorem dX6_wiggle_14 : decode cX6_wiggle 14 = .ok (.iload_n 2, 1) := by decide +kernel
theorem dX6_wiggle_15 : decode cX6_wiggle 15 = .ok (.iaload, 1) := by decide +kernel
theorem dX6_wiggle_16 : decode cX6_wiggle 16 = .ok (.aload_n 0, 1) := by decide +kernel
theorem dX6_wiggle_17 : decode cX6_wiggle 17 = .ok (.getfield 9, 3) := by decide +kernel
theorem dX6_wiggle_20 : decode cX6_wiggle 20 = .ok (.iconst 4, 1) := by decide +kernel
theorem dX6_wiggle_21 : decode cX6_wiggle 21 = .ok (.iload_n 2, 1) := by decide +kernel
theorem dX6_wiggle_22 : decode cX6_wiggle 22 = .ok (.iadd, 1) := by decide +kernel
theorem dX6_wiggle_23 : decode cX6_wiggle 23 = .ok (.iaload, 1) := by decide +kernel
theorem dX6_wiggle_24 : decode cX6_wiggle 24 = .ok (.invokestatic 69, 3) := by decide +kernel
theorem dX6_wiggle_27 : decode cX6_wiggle 27 = .ok (.iadd, 1) := by decide +kernel
theorem dX6_wiggle_28 : decode cX6_wiggle 28 = .ok (.istore_n 1, 1) := by decide +kernel
theorem dX6_wiggle_29 : decode cX6_wiggle 29 = .ok (.iinc 2 1, 3) := by decide +kernel
theorem dX6_wiggle_32 : decode cX6_wiggle 32 = .ok (.goto (-28), 3) := by decide +kernel
theorem dX6_wiggle_35 : decode cX6_wiggle 35 = .ok (.iload_n 1, 1) := by decide +kernel
theorem dX6_wiggle_36 : decode cX6_wiggle 36 = .ok (.ireturn, 1) := by decide +kernel
theorem dX6_fitIn_0 : decode cX6_fitIn 0 = .ok (.iconst 0, 1) := by decide +kernel
theorem dX6_fitIn_1 : decode cX6_fitIn 1 = .ok (.istore_n 1, 1) := by decide +kernel
theorem dX6_fitIn_2 : decode cX6_fitIn 2 = .ok (.iconst 0, 1) := by decide +kernel
theorem dX6_fitIn_3 : decode cX6_fitIn 3 = .ok (.istore_n 2, 1) := by decide +kernel
theorem dX6_fitIn_4 : decode cX6_fitIn 4 = .ok (.iload_n 2, 1) := by decide +kernel
theorem dX6_fitIn_5 : decode cX6_fitIn 5 = .ok (.iconst 5, 1) := by decide +kernel
theorem dX6_fitIn_6 : decode cX6_fitIn 6 = .ok (.if_icmp .ge 31, 3) := by decide +kernel
theorem dX6_fitIn_9 : decode cX6_fitIn 9 = .ok (.iload_n 1, 1) := by decide +kernel
theorem dX6_fitIn_10 : decode cX6_fitIn 10 = .ok (.aload_n 0, 1) := by decide +kernel
theorem dX6_fitIn_11 : decode cX6_fitIn 11 = .ok (.getfield 28, 3) := by decide +kernel
theorem dX6_fitIn_14 : decode cX6_fitIn 14 = .ok (.iload_n 2, 1) := by decide +kernel
theorem dX6_fitIn_15 : decode cX6_fitIn 15 = .ok (.iaload, 1) := by decide +kernel
theorem dX6_fitIn_16 : decode cX6_fitIn 16 = .ok (.aload_n 0, 1) := by decide +kernel
theorem dX6_fitIn_17 : decode cX6_fitIn 17 = .ok (.getfield 9, 3) := by decide +kernel
theorem dX6_fitIn_20 : decode cX6_fitIn 20 = .ok (.iconst 4, 1) := by decide +kernel
theorem dX6_fitIn_21 : decode cX6_fitIn 21 = .ok (.iload_n 2, 1) := by decide +kernel
theorem dX6_fitIn_22 : decode cX6_fitIn 22 = .ok (.iadd, 1) := by decide +kernel
theorem dX6_fitIn_23 : decode cX6_fitIn 23 = .ok (.iaload, 1) := by decide +kernel
theorem dX6_fitIn_24 : decode cX6_fitIn 24 = .ok (.invokestatic 69, 3) := by decide +kernel
theorem dX6_fitIn_27 : decode cX6_fitIn 27 = .ok (.invokestatic 52, 3) := by decide +kernel
theorem dX6_fitIn_30 : decode cX6_fitIn 30 = .ok (.istore_n 1, 1) := by decide +kernel
theorem dX6_fitIn_31 : decode cX6_fitIn 31 = .ok (.iinc 2 1, 3) := by decide +kernel
theorem dX6_fitIn_34 : decode cX6_fitIn 34 = .ok (.goto (-30), 3) := by decide +kernel
theorem dX6_fitIn_37 : decode cX6_fitIn 37 = .ok (.iload_n 1, 1) := by decide +kernel
theorem dX6_fitIn_38 : decode cX6_fitIn 38 = .ok (.ireturn, 1) := by decide +kernel
theorem dX6_opensIn_0 : decode cX6_opensIn 0 = .ok (.aload_n 0, 1) := by decide +kernel
theorem dX6_opensIn_1 : decode cX6_opensIn 1 = .ok (.invokevirtual 72, 3) := by decide +kernel
theorem dX6_opensIn_4 : decode cX6_opensIn 4 = .ok (.aload_n 0, 1) := by decide +kernel
theorem dX6_opensIn_5 : decode cX6_opensIn 5 = .ok (.getfield 9, 3) := by decide +kernel
theorem dX6_opensIn_8 : decode cX6_opensIn 8 = .ok (.iconst 3, 1) := by decide +kernel
theorem dX6_opensIn_9 : decode cX6_opensIn 9 = .ok (.iaload, 1) := by decide +kernel
theorem dX6_opensIn_10 : decode cX6_opensIn 10 = .ok (.if_icmp .gt 7, 3) := by decide +kernel
theorem dX6_opensIn_13 : decode cX6_opensIn 13 = .ok (.iconst 1, 1) := by decide +kernel
theorem dX6_opensIn_14 : decode cX6_opensIn 14 = .ok (.goto 4, 3) := by decide +kernel
theorem dX6_opensIn_17 : decode cX6_opensIn 17 = .ok (.iconst 0, 1) := by decide +kernel
theorem dX6_opensIn_18 : decode cX6_opensIn 18 = .ok (.ireturn, 1) := by decide +kernel
theorem dX6_wiggleOf_0 : decode cX6_wiggleOf 0 = .ok (.aload_n 0, 1) := by decide +kernel
theorem dX6_wiggleOf_1 : decode cX6_wiggleOf 1 = .ok (.iload_n 1, 1) := by decide +kernel
theorem dX6_wiggleOf_2 : decode cX6_wiggleOf 2 = .ok (.invokevirtual 76, 3) := by decide +kernel
theorem dX6_wiggleOf_5 : decode cX6_wiggleOf 5 = .ok (.aload_n 0, 1) := by decide +kernel
theorem dX6_wiggleOf_6 : decode cX6_wiggleOf 6 = .ok (.invokevirtual 80, 3) := by decide +kernel
theorem dX6_wiggleOf_9 : decode cX6_wiggleOf 9 = .ok (.ireturn, 1) := by decide +kernel
theorem dX6_opens_0 : decode cX6_opens 0 = .ok (.aload_n 0, 1) := by decide +kernel
theorem dX6_opens_1 : decode cX6_opens 1 = .ok (.iload_n 1, 1) := by decide +kernel
theorem dX6_opens_2 : decode cX6_opens 2 = .ok (.invokevirtual 76, 3) := by decide +kernel
theorem dX6_opens_5 : decode cX6_opens 5 = .ok (.aload_n 0, 1) := by decide +kernel
theorem dX6_opens_6 : decode cX6_opens 6 = .ok (.iload_n 1, 1) := by decide +kernel
theorem dX6_opens_7 : decode cX6_opens 7 = .ok (.invokevirtual 83, 3) := by decide +kernel
theorem dX6_opens_10 : decode cX6_opens 10 = .ok (.ifCond .ne 14, 3) := by decide +kernel
theorem dX6_opens_13 : decode cX6_opens 13 = .ok (.aload_n 0, 1) := by decide +kernel
theorem dX6_opens_14 : decode cX6_opens 14 = .ok (.invokevirtual 87, 3) := by decide +kernel
theorem dX6_opens_17 : decode cX6_opens 17 = .ok (.ifCond .eq 7, 3) := by decide +kernel
theorem dX6_opens_20 : decode cX6_opens 20 = .ok (.iconst 1, 1) := by decide +kernel
theorem dX6_opens_21 : decode cX6_opens 21 = .ok (.goto 4, 3) := by decide +kernel
theorem dX6_opens_24 : decode cX6_opens 24 = .ok (.iconst 0, 1) := by decide +kernel
theorem dX6_opens_25 : decode cX6_opens 25 = .ok (.ireturn, 1) := by decide +kernel
theorem dX6_openMany_0 : decode cX6_openMany 0 = .ok (.iconst 0, 1) := by decide +kernel
theorem dX6_openMany_1 : decode cX6_openMany 1 = .ok (.istore_n 1, 1) := by decide +kernel
theorem dX6_openMany_2 : decode cX6_openMany 2 = .ok (.iconst 0, 1) := by decide +kernel
theorem dX6_openMany_3 : decode cX6_openMany 3 = .ok (.istore_n 2, 1) := by decide +kernel
theorem dX6_openMany_4 : decode cX6_openMany 4 = .ok (.iload_n 2, 1) := by decide +kernel
theorem dX6_openMany_5 : decode cX6_openMany 5 = .ok (.aload_n 0, 1) := by decide +kernel
theorem dX6_openMany_6 : decode cX6_openMany 6 = .ok (.getfield 9, 3) := by decide +kernel
theorem dX6_openMany_9 : decode cX6_openMany 9 = .ok (.iconst 0, 1) := by decide +kernel
theorem dX6_openMany_10 : decode cX6_openMany 10 = .ok (.iaload, 1) := by decide +kernel
theorem dX6_openMany_11 : decode cX6_openMany 11 = .ok (.if_icmp .ge 25, 3) := by decide +kernel
theorem dX6_openMany_14 : decode cX6_openMany 14 = .ok (.iload_n 1, 1) := by decide +kernel
theorem dX6_openMany_15 : decode cX6_openMany 15 = .ok (.aload_n 0, 1) := by decide +kernel
theorem dX6_openMany_16 : decode cX6_openMany 16 = .ok (.iload_n 2, 1) := by decide +kernel
theorem dX6_openMany_17 : decode cX6_openMany 17 = .ok (.invokevirtual 91, 3) := by decide +kernel
theorem dX6_openMany_20 : decode cX6_openMany 20 = .ok (.ifCond .eq 7, 3) := by decide +kernel
theorem dX6_openMany_23 : decode cX6_openMany 23 = .ok (.iconst 1, 1) := by decide +kernel
theorem dX6_openMany_24 : decode cX6_openMany 24 = .ok (.goto 4, 3) := by decide +kernel
theorem dX6_openMany_27 : decode cX6_openMany 27 = .ok (.iconst 0, 1) := by decide +kernel
theorem dX6_openMany_28 : decode cX6_openMany 28 = .ok (.iadd, 1) := by decide +kernel
theorem dX6_openMany_29 : decode cX6_openMany 29 = .ok (.istore_n 1, 1) := by decide +kernel
theorem dX6_openMany_30 : decode cX6_openMany 30 = .ok (.iinc 2 1, 3) := by decide +kernel
theorem dX6_openMany_33 : decode cX6_openMany 33 = .ok (.goto (-29), 3) := by decide +kernel
theorem dX6_openMany_36 : decode cX6_openMany 36 = .ok (.iload_n 1, 1) := by decide +kernel
theorem dX6_openMany_37 : decode cX6_openMany 37 = .ok (.ireturn, 1) := by decide +kernel
theorem dX6_letter_0 : decode cX6_letter 0 = .ok (.iload_n 1, 1) := by decide +kernel
theorem dX6_letter_1 : decode cX6_letter 1 = .ok (.ifCond .ge 10, 3) := by decide +kernel
theorem dX6_letter_4 : decode cX6_letter 4 = .ok (.aload_n 0, 1) := by decide +kernel
theorem dX6_letter_5 : decode cX6_letter 5 = .ok (.bipush (-4), 2) := by decide +kernel
theorem dX6_letter_7 : decode cX6_letter 7 = .ok (.invokevirtual 35, 3) := by decide +kernel
theorem dX6_letter_10 : decode cX6_letter 10 = .ok (.ireturn, 1) := by decide +kernel
theorem dX6_letter_11 : decode cX6_letter 11 = .ok (.iload_n 1, 1) := by decide +kernel
theorem dX6_letter_12 : decode cX6_letter 12 = .ok (.sipush 255, 3) := by decide +kernel
theorem dX6_letter_15 : decode cX6_letter 15 = .ok (.if_icmp .gt 12, 3) := by decide +kernel
theorem dX6_letter_18 : decode cX6_letter 18 = .ok (.aload_n 0, 1) := by decide +kernel
theorem dX6_letter_19 : decode cX6_letter 19 = .ok (.getfield 94, 3) := by decide +kernel
theorem dX6_letter_22 : decode cX6_letter 22 = .ok (.bipush 96, 2) := by decide +kernel
theorem dX6_letter_24 : decode cX6_letter 24 = .ok (.if_icmp .ne 10, 3) := by decide +kernel
theorem dX6_letter_27 : decode cX6_letter 27 = .ok (.aload_n 0, 1) := by decide +kernel
theorem dX6_letter_28 : decode cX6_letter 28 = .ok (.bipush (-6), 2) := by decide +kernel
theorem dX6_letter_30 : decode cX6_letter 30 = .ok (.invokevirtual 35, 3) := by decide +kernel
theorem dX6_letter_33 : decode cX6_letter 33 = .ok (.ireturn, 1) := by decide +kernel
theorem dX6_letter_34 : decode cX6_letter 34 = .ok (.aload_n 0, 1) := by decide +kernel
theorem dX6_letter_35 : decode cX6_letter 35 = .ok (.getfield 19, 3) := by decide +kernel
theorem dX6_letter_38 : decode cX6_letter 38 = .ok (.aload_n 0, 1) := by decide +kernel
theorem dX6_letter_39 : decode cX6_letter 39 = .ok (.getfield 94, 3) := by decide +kernel
theorem dX6_letter_42 : decode cX6_letter 42 = .ok (.iload_n 1, 1) := by decide +kernel
theorem dX6_letter_43 : decode cX6_letter 43 = .ok (.iastore, 1) := by decide +kernel
theorem dX6_letter_44 : decode cX6_letter 44 = .ok (.aload_n 0, 1) := by decide +kernel
theorem dX6_letter_45 : decode cX6_letter 45 = .ok (.dup, 1) := by decide +kernel
theorem dX6_letter_46 : decode cX6_letter 46 = .ok (.getfield 94, 3) := by decide +kernel
theorem dX6_letter_49 : decode cX6_letter 49 = .ok (.iconst 1, 1) := by decide +kernel
theorem dX6_letter_50 : decode cX6_letter 50 = .ok (.iadd, 1) := by decide +kernel
theorem dX6_letter_51 : decode cX6_letter 51 = .ok (.putfield 94, 3) := by decide +kernel
theorem dX6_letter_54 : decode cX6_letter 54 = .ok (.aload_n 0, 1) := by decide +kernel
theorem dX6_letter_55 : decode cX6_letter 55 = .ok (.getfield 94, 3) := by decide +kernel
theorem dX6_letter_58 : decode cX6_letter 58 = .ok (.ireturn, 1) := by decide +kernel
theorem dX6_here_0 : decode cX6_here 0 = .ok (.aload_n 0, 1) := by decide +kernel
theorem dX6_here_1 : decode cX6_here 1 = .ok (.getfield 98, 3) := by decide +kernel
theorem dX6_here_4 : decode cX6_here 4 = .ok (.aload_n 0, 1) := by decide +kernel
theorem dX6_here_5 : decode cX6_here 5 = .ok (.getfield 94, 3) := by decide +kernel
theorem dX6_here_8 : decode cX6_here 8 = .ok (.if_icmp .ge 15, 3) := by decide +kernel
theorem dX6_here_11 : decode cX6_here 11 = .ok (.aload_n 0, 1) := by decide +kernel
theorem dX6_here_12 : decode cX6_here 12 = .ok (.getfield 19, 3) := by decide +kernel
theorem dX6_here_15 : decode cX6_here 15 = .ok (.aload_n 0, 1) := by decide +kernel
theorem dX6_here_16 : decode cX6_here 16 = .ok (.getfield 98, 3) := by decide +kernel
theorem dX6_here_19 : decode cX6_here 19 = .ok (.iaload, 1) := by decide +kernel
theorem dX6_here_20 : decode cX6_here 20 = .ok (.goto 4, 3) := by decide +kernel
theorem dX6_here_23 : decode cX6_here 23 = .ok (.iconst (-1), 1) := by decide +kernel
theorem dX6_here_24 : decode cX6_here 24 = .ok (.ireturn, 1) := by decide +kernel
theorem dX6_readsNumber_0 : decode cX6_readsNumber 0 = .ok (.aload_n 0, 1) := by decide +kernel
theorem dX6_readsNumber_1 : decode cX6_readsNumber 1 = .ok (.getfield 31, 3) := by decide +kernel
theorem dX6_readsNumber_4 : decode cX6_readsNumber 4 = .ok (.iload_n 1, 1) := by decide +kernel
theorem dX6_readsNumber_5 : decode cX6_readsNumber 5 = .ok (.iconst 0, 1) := by decide +kernel
theorem dX6_readsNumber_6 : decode cX6_readsNumber 6 = .ok (.iastore, 1) := by decide +kernel
theorem dX6_readsNumber_7 : decode cX6_readsNumber 7 = .ok (.iconst 0, 1) := by decide +kernel
theorem dX6_readsNumber_8 : decode cX6_readsNumber 8 = .ok (.istore_n 3, 1) := by decide +kernel
theorem dX6_readsNumber_9 : decode cX6_readsNumber 9 = .ok (.iload_n 3, 1) := by decide +kernel
theorem dX6_readsNumber_10 : decode cX6_readsNumber 10 = .ok (.iload_n 2, 1) := by decide +kernel
theorem dX6_readsNumber_11 : decode cX6_readsNumber 11 = .ok (.if_icmp .ge 58, 3) := by decide +kernel
theorem dX6_readsNumber_14 : decode cX6_readsNumber 14 = .ok (.aload_n 0, 1) := by decide +kernel
theorem dX6_readsNumber_15 : decode cX6_readsNumber 15 = .ok (.invokevirtual 101, 3) := by decide +kernel
theorem dX6_readsNumber_18 : decode cX6_readsNumber 18 = .ok (.bipush 48, 2) := by decide +kernel
theorem dX6_readsNumber_20 : decode cX6_readsNumber 20 = .ok (.bipush 57, 2) := by decide +kernel
theorem dX6_readsNumber_22 : decode cX6_readsNumber 22 = .ok (.invokestatic 41, 3) := by decide +kernel
theorem dX6_readsNumber_25 : decode cX6_readsNumber 25 = .ok (.ifCond .ne 5, 3) := by decide +kernel
theorem dX6_readsNumber_28 : decode cX6_readsNumber 28 = .ok (.iconst 0, 1) := by decide +kernel
theorem dX6_readsNumber_29 : decode cX6_readsNumber 29 = .ok (.ireturn, 1) := by decide +kernel
theorem dX6_readsNumber_30 : decode cX6_readsNumber 30 = .ok (.aload_n 0, 1) := by decide +kernel
theorem dX6_readsNumber_31 : decode cX6_readsNumber 31 = .ok (.getfield 31, 3) := by decide +kernel
theorem dX6_readsNumber_34 : decode cX6_readsNumber 34 = .ok (.iload_n 1, 1) := by decide +kernel
theorem dX6_readsNumber_35 : decode cX6_readsNumber 35 = .ok (.bipush 10, 2) := by decide +kernel
theorem dX6_readsNumber_37 : decode cX6_readsNumber 37 = .ok (.aload_n 0, 1) := by decide +kernel
theorem dX6_readsNumber_38 : decode cX6_readsNumber 38 = .ok (.getfield 31, 3) := by decide +kernel
theorem dX6_readsNumber_41 : decode cX6_readsNumber 41 = .ok (.iload_n 1, 1) := by decide +kernel
theorem dX6_readsNumber_42 : decode cX6_readsNumber 42 = .ok (.iaload, 1) := by decide +kernel
theorem dX6_readsNumber_43 : decode cX6_readsNumber 43 = .ok (.imul, 1) := by decide +kernel
theorem dX6_readsNumber_44 : decode cX6_readsNumber 44 = .ok (.aload_n 0, 1) := by decide +kernel
theorem dX6_readsNumber_45 : decode cX6_readsNumber 45 = .ok (.invokevirtual 101, 3) := by decide +kernel
theorem dX6_readsNumber_48 : decode cX6_readsNumber 48 = .ok (.iadd, 1) := by decide +kernel
theorem dX6_readsNumber_49 : decode cX6_readsNumber 49 = .ok (.bipush 48, 2) := by decide +kernel
theorem dX6_readsNumber_51 : decode cX6_readsNumber 51 = .ok (.isub, 1) := by decide +kernel
theorem dX6_readsNumber_52 : decode cX6_readsNumber 52 = .ok (.iastore, 1) := by decide +kernel
theorem dX6_readsNumber_53 : decode cX6_readsNumber 53 = .ok (.aload_n 0, 1) := by decide +kernel
theorem dX6_readsNumber_54 : decode cX6_readsNumber 54 = .ok (.dup, 1) := by decide +kernel
theorem dX6_readsNumber_55 : decode cX6_readsNumber 55 = .ok (.getfield 98, 3) := by decide +kernel
theorem dX6_readsNumber_58 : decode cX6_readsNumber 58 = .ok (.iconst 1, 1) := by decide +kernel
theorem dX6_readsNumber_59 : decode cX6_readsNumber 59 = .ok (.iadd, 1) := by decide +kernel
theorem dX6_readsNumber_60 : decode cX6_readsNumber 60 = .ok (.putfield 98, 3) := by decide +kernel
theorem dX6_readsNumber_63 : decode cX6_readsNumber 63 = .ok (.iinc 3 1, 3) := by decide +kernel
theorem dX6_readsNumber_66 : decode cX6_readsNumber 66 = .ok (.goto (-57), 3) := by decide +kernel
theorem dX6_readsNumber_69 : decode cX6_readsNumber 69 = .ok (.iconst 1, 1) := by decide +kernel
theorem dX6_readsNumber_70 : decode cX6_readsNumber 70 = .ok (.ireturn, 1) := by decide +kernel
theorem dX6_kindBy_0 : decode cX6_kindBy 0 = .ok (.iload_n 0, 1) := by decide +kernel
theorem dX6_kindBy_1 : decode cX6_kindBy 1 = .ok (.tableswitch 95 103 119 #[93, 85, 95, 95, 95, 95, 83, 95, 95, 95, 95, 89, 91, 95, 95, 95, 87], 83) := by decide +kernel
theorem dX6_kindBy_84 : decode cX6_kindBy 84 = .ok (.iconst 0, 1) := by decide +kernel
theorem dX6_kindBy_85 : decode cX6_kindBy 85 = .ok (.ireturn, 1) := by decide +kernel
theorem dX6_kindBy_86 : decode cX6_kindBy 86 = .ok (.iconst 1, 1) := by decide +kernel
theorem dX6_kindBy_87 : decode cX6_kindBy 87 = .ok (.ireturn, 1) := by decide +kernel
theorem dX6_kindBy_88 : decode cX6_kindBy 88 = .ok (.iconst 2, 1) := by decide +kernel
theorem dX6_kindBy_89 : decode cX6_kindBy 89 = .ok (.ireturn, 1) := by decide +kernel
theorem dX6_kindBy_90 : decode cX6_kindBy 90 = .ok (.iconst 3, 1) := by decide +kernel
theorem dX6_kindBy_91 : decode cX6_kindBy 91 = .ok (.ireturn, 1) := by decide +kernel
theorem dX6_kindBy_92 : decode cX6_kindBy 92 = .ok (.iconst 4, 1) := by decide +kernel
theorem dX6_kindBy_93 : decode cX6_kindBy 93 = .ok (.ireturn, 1) := by decide +kernel
theorem dX6_kindBy_94 : decode cX6_kindBy 94 = .ok (.iconst 5, 1) := by decide +kernel
theorem dX6_kindBy_95 : decode cX6_kindBy 95 = .ok (.ireturn, 1) := by decide +kernel
theorem dX6_kindBy_96 : decode cX6_kindBy 96 = .ok (.bipush (-9), 2) := by decide +kernel
theorem dX6_kindBy_98 : decode cX6_kindBy 98 = .ok (.ireturn, 1) := by decide +kernel
theorem dX6_readsKind_0 : decode cX6_readsKind 0 = .ok (.aload_n 0, 1) := by decide +kernel
theorem dX6_readsKind_1 : decode cX6_readsKind 1 = .ok (.getfield 31, 3) := by decide +kernel
theorem dX6_readsKind_4 : decode cX6_readsKind 4 = .ok (.iconst 0, 1) := by decide +kernel
theorem dX6_readsKind_5 : decode cX6_readsKind 5 = .ok (.aload_n 0, 1) := by decide +kernel
theorem dX6_readsKind_6 : decode cX6_readsKind 6 = .ok (.invokevirtual 101, 3) := by decide +kernel
theorem dX6_readsKind_9 : decode cX6_readsKind 9 = .ok (.invokestatic 104, 3) := by decide +kernel
theorem dX6_readsKind_12 : decode cX6_readsKind 12 = .ok (.iastore, 1) := by decide +kernel
theorem dX6_readsKind_13 : decode cX6_readsKind 13 = .ok (.aload_n 0, 1) := by decide +kernel
theorem dX6_readsKind_14 : decode cX6_readsKind 14 = .ok (.dup, 1) := by decide +kernel
theorem dX6_readsKind_15 : decode cX6_readsKind 15 = .ok (.getfield 98, 3) := by decide +kernel
theorem dX6_readsKind_18 : decode cX6_readsKind 18 = .ok (.aload_n 0, 1) := by decide +kernel
theorem dX6_readsKind_19 : decode cX6_readsKind 19 = .ok (.getfield 31, 3) := by decide +kernel
theorem dX6_readsKind_22 : decode cX6_readsKind 22 = .ok (.iconst 0, 1) := by decide +kernel
theorem dX6_readsKind_23 : decode cX6_readsKind 23 = .ok (.iaload, 1) := by decide +kernel
theorem dX6_readsKind_24 : decode cX6_readsKind 24 = .ok (.ifCond .ge 7, 3) := by decide +kernel
theorem dX6_readsKind_27 : decode cX6_readsKind 27 = .ok (.iconst 0, 1) := by decide +kernel
theorem dX6_readsKind_28 : decode cX6_readsKind 28 = .ok (.goto 4, 3) := by decide +kernel
theorem dX6_readsKind_31 : decode cX6_readsKind 31 = .ok (.iconst 1, 1) := by decide +kernel
theorem dX6_readsKind_32 : decode cX6_readsKind 32 = .ok (.iadd, 1) := by decide +kernel
theorem dX6_readsKind_33 : decode cX6_readsKind 33 = .ok (.putfield 98, 3) := by decide +kernel
theorem dX6_readsKind_36 : decode cX6_readsKind 36 = .ok (.aload_n 0, 1) := by decide +kernel
theorem dX6_readsKind_37 : decode cX6_readsKind 37 = .ok (.getfield 31, 3) := by decide +kernel
theorem dX6_readsKind_40 : decode cX6_readsKind 40 = .ok (.iconst 0, 1) := by decide +kernel
theorem dX6_readsKind_41 : decode cX6_readsKind 41 = .ok (.iaload, 1) := by decide +kernel
theorem dX6_readsKind_42 : decode cX6_readsKind 42 = .ok (.ifCond .lt 7, 3) := by decide +kernel
theorem dX6_readsKind_45 : decode cX6_readsKind 45 = .ok (.iconst 1, 1) := by decide +kernel
theorem dX6_readsKind_46 : decode cX6_readsKind 46 = .ok (.goto 4, 3) := by decide +kernel
theorem dX6_readsKind_49 : decode cX6_readsKind 49 = .ok (.iconst 0, 1) := by decide +kernel
theorem dX6_readsKind_50 : decode cX6_readsKind 50 = .ok (.ireturn, 1) := by decide +kernel
theorem dX6_readsFive_0 : decode cX6_readsFive 0 = .ok (.iconst 1, 1) := by decide +kernel
theorem dX6_readsFive_1 : decode cX6_readsFive 1 = .ok (.istore_n 1, 1) := by decide +kernel
theorem dX6_readsFive_2 : decode cX6_readsFive 2 = .ok (.iconst 0, 1) := by decide +kernel
theorem dX6_readsFive_3 : decode cX6_readsFive 3 = .ok (.istore_n 2, 1) := by decide +kernel
theorem dX6_readsFive_4 : decode cX6_readsFive 4 = .ok (.iload_n 2, 1) := by decide +kernel
theorem dX6_readsFive_5 : decode cX6_readsFive 5 = .ok (.iconst 5, 1) := by decide +kernel
theorem dX6_readsFive_6 : decode cX6_readsFive 6 = .ok (.if_icmp .ge 20, 3) := by decide +kernel
theorem dX6_readsFive_9 : decode cX6_readsFive 9 = .ok (.iload_n 1, 1) := by decide +kernel
theorem dX6_readsFive_10 : decode cX6_readsFive 10 = .ok (.ifCond .eq 16, 3) := by decide +kernel
theorem dX6_readsFive_13 : decode cX6_readsFive 13 = .ok (.aload_n 0, 1) := by decide +kernel
theorem dX6_readsFive_14 : decode cX6_readsFive 14 = .ok (.iload_n 2, 1) := by decide +kernel
theorem dX6_readsFive_15 : decode cX6_readsFive 15 = .ok (.iconst 2, 1) := by decide +kernel
theorem dX6_readsFive_16 : decode cX6_readsFive 16 = .ok (.invokevirtual 107, 3) := by decide +kernel
theorem dX6_readsFive_19 : decode cX6_readsFive 19 = .ok (.istore_n 1, 1) := by decide +kernel
theorem dX6_readsFive_20 : decode cX6_readsFive 20 = .ok (.iinc 2 1, 3) := by decide +kernel
theorem dX6_readsFive_23 : decode cX6_readsFive 23 = .ok (.goto (-19), 3) := by decide +kernel
theorem dX6_readsFive_26 : decode cX6_readsFive 26 = .ok (.iload_n 1, 1) := by decide +kernel
theorem dX6_readsFive_27 : decode cX6_readsFive 27 = .ok (.ireturn, 1) := by decide +kernel
theorem dX6_readsStatement_0 : decode cX6_readsStatement 0 = .ok (.aload_n 0, 1) := by decide +kernel
theorem dX6_readsStatement_1 : decode cX6_readsStatement 1 = .ok (.invokevirtual 101, 3) := by decide +kernel
theorem dX6_readsStatement_4 : decode cX6_readsStatement 4 = .ok (.istore_n 1, 1) := by decide +kernel
theorem dX6_readsStatement_5 : decode cX6_readsStatement 5 = .ok (.aload_n 0, 1) := by decide +kernel
theorem dX6_readsStatement_6 : decode cX6_readsStatement 6 = .ok (.dup, 1) := by decide +kernel
theorem dX6_readsStatement_7 : decode cX6_readsStatement 7 = .ok (.getfield 98, 3) := by decide +kernel
theorem dX6_readsStatement_10 : decode cX6_readsStatement 10 = .ok (.iconst 1, 1) := by decide +kernel
theorem dX6_readsStatement_11 : decode cX6_readsStatement 11 = .ok (.iadd, 1) := by decide +kernel
theorem dX6_readsStatement_12 : decode cX6_readsStatement 12 = .ok (.putfield 98, 3) := by decide +kernel
theorem dX6_readsStatement_15 : decode cX6_readsStatement 15 = .ok (.iload_n 1, 1) := by decide +kernel
theorem dX6_readsStatement_16 : decode cX6_readsStatement 16 = .ok (.tableswitch 201 99 120 #[137, 201, 201, 201, 201, 201, 201, 201, 104, 104, 112, 201, 201, 201, 201, 201, 191, 201, 164, 201, 201, 191], 104) := by decide +kernel
theorem dX6_readsStatement_120 : decode cX6_readsStatement 120 = .ok (.aload_n 0, 1) := by decide +kernel
theorem dX6_readsStatement_121 : decode cX6_readsStatement 121 = .ok (.invokevirtual 111, 3) := by decide +kernel
theorem dX6_readsStatement_124 : decode cX6_readsStatement 124 = .ok (.istore_n 2, 1) := by decide +kernel
theorem dX6_readsStatement_125 : decode cX6_readsStatement 125 = .ok (.goto 104, 3) := by decide +kernel
theorem dX6_readsStatement_128 : decode cX6_readsStatement 128 = .ok (.aload_n 0, 1) := by decide +kernel
theorem dX6_readsStatement_129 : decode cX6_readsStatement 129 = .ok (.invokevirtual 114, 3) := by decide +kernel
theorem dX6_readsStatement_132 : decode cX6_readsStatement 132 = .ok (.ifCond .eq 16, 3) := by decide +kernel
theorem dX6_readsStatement_135 : decode cX6_readsStatement 135 = .ok (.aload_n 0, 1) := by decide +kernel
theorem dX6_readsStatement_136 : decode cX6_readsStatement 136 = .ok (.iconst 1, 1) := by decide +kernel
theorem dX6_readsStatement_137 : decode cX6_readsStatement 137 = .ok (.iconst 1, 1) := by decide +kernel
theorem dX6_readsStatement_138 : decode cX6_readsStatement 138 = .ok (.invokevirtual 107, 3) := by decide +kernel
theorem dX6_readsStatement_141 : decode cX6_readsStatement 141 = .ok (.ifCond .eq 7, 3) := by decide +kernel
theorem dX6_readsStatement_144 : decode cX6_readsStatement 144 = .ok (.iconst 1, 1) := by decide +kernel
theorem dX6_readsStatement_145 : decode cX6_readsStatement 145 = .ok (.goto 4, 3) := by decide +kernel
theorem dX6_readsStatement_148 : decode cX6_readsStatement 148 = .ok (.iconst 0, 1) := by decide +kernel
theorem dX6_readsStatement_149 : decode cX6_readsStatement 149 = .ok (.istore_n 2, 1) := by decide +kernel
theorem dX6_readsStatement_150 : decode cX6_readsStatement 150 = .ok (.goto 79, 3) := by decide +kernel
theorem dX6_readsStatement_153 : decode cX6_readsStatement 153 = .ok (.aload_n 0, 1) := by decide +kernel
theorem dX6_readsStatement_154 : decode cX6_readsStatement 154 = .ok (.iconst 0, 1) := by decide +kernel
theorem dX6_readsStatement_155 : decode cX6_readsStatement 155 = .ok (.iconst 1, 1) := by decide +kernel
theorem dX6_readsStatement_156 : decode cX6_readsStatement 156 = .ok (.invokevirtual 107, 3) := by decide +kernel
theorem dX6_readsStatement_159 : decode cX6_readsStatement 159 = .ok (.ifCond .eq 16, 3) := by decide +kernel
theorem dX6_readsStatement_162 : decode cX6_readsStatement 162 = .ok (.aload_n 0, 1) := by decide +kernel
theorem dX6_readsStatement_163 : decode cX6_readsStatement 163 = .ok (.iconst 1, 1) := by decide +kernel
theorem dX6_readsStatement_164 : decode cX6_readsStatement 164 = .ok (.iconst 1, 1) := by decide +kernel
theorem dX6_readsStatement_165 : decode cX6_readsStatement 165 = .ok (.invokevirtual 107, 3) := by decide +kernel
theorem dX6_readsStatement_168 : decode cX6_readsStatement 168 = .ok (.ifCond .eq 7, 3) := by decide +kernel
theorem dX6_readsStatement_171 : decode cX6_readsStatement 171 = .ok (.iconst 1, 1) := by decide +kernel
theorem dX6_readsStatement_172 : decode cX6_readsStatement 172 = .ok (.goto 4, 3) := by decide +kernel
theorem dX6_readsStatement_175 : decode cX6_readsStatement 175 = .ok (.iconst 0, 1) := by decide +kernel
theorem dX6_readsStatement_176 : decode cX6_readsStatement 176 = .ok (.istore_n 2, 1) := by decide +kernel
theorem dX6_readsStatement_177 : decode cX6_readsStatement 177 = .ok (.goto 52, 3) := by decide +kernel
theorem dX6_readsStatement_180 : decode cX6_readsStatement 180 = .ok (.aload_n 0, 1) := by decide +kernel
theorem dX6_readsStatement_181 : decode cX6_readsStatement 181 = .ok (.iconst 0, 1) := by decide +kernel
theorem dX6_readsStatement_182 : decode cX6_readsStatement 182 = .ok (.iconst 1, 1) := by decide +kernel
theorem dX6_readsStatement_183 : decode cX6_readsStatement 183 = .ok (.invokevirtual 107, 3) := by decide +kernel
theorem dX6_readsStatement_186 : decode cX6_readsStatement 186 = .ok (.ifCond .eq 16, 3) := by decide +kernel
theorem dX6_readsStatement_189 : decode cX6_readsStatement 189 = .ok (.aload_n 0, 1) := by decide +kernel
theorem dX6_readsStatement_190 : decode cX6_readsStatement 190 = .ok (.iconst 1, 1) := by decide +kernel
theorem dX6_readsStatement_191 : decode cX6_readsStatement 191 = .ok (.iconst 2, 1) := by decide +kernel
theorem dX6_readsStatement_192 : decode cX6_readsStatement 192 = .ok (.invokevirtual 107, 3) := by decide +kernel
theorem dX6_readsStatement_195 : decode cX6_readsStatement 195 = .ok (.ifCond .eq 7, 3) := by decide +kernel
theorem dX6_readsStatement_198 : decode cX6_readsStatement 198 = .ok (.iconst 1, 1) := by decide +kernel
theorem dX6_readsStatement_199 : decode cX6_readsStatement 199 = .ok (.goto 4, 3) := by decide +kernel
theorem dX6_readsStatement_202 : decode cX6_readsStatement 202 = .ok (.iconst 0, 1) := by decide +kernel
theorem dX6_readsStatement_203 : decode cX6_readsStatement 203 = .ok (.istore_n 2, 1) := by decide +kernel
theorem dX6_readsStatement_204 : decode cX6_readsStatement 204 = .ok (.goto 25, 3) := by decide +kernel
theorem dX6_readsStatement_207 : decode cX6_readsStatement 207 = .ok (.aload_n 0, 1) := by decide +kernel
theorem dX6_readsStatement_208 : decode cX6_readsStatement 208 = .ok (.iconst 0, 1) := by decide +kernel
theorem dX6_readsStatement_209 : decode cX6_readsStatement 209 = .ok (.iconst 1, 1) := by decide +kernel
theorem dX6_readsStatement_210 : decode cX6_readsStatement 210 = .ok (.invokevirtual 107, 3) := by decide +kernel
theorem dX6_readsStatement_213 : decode cX6_readsStatement 213 = .ok (.istore_n 2, 1) := by decide +kernel
theorem dX6_readsStatement_214 : decode cX6_readsStatement 214 = .ok (.goto 15, 3) := by decide +kernel
theorem dX6_readsStatement_217 : decode cX6_readsStatement 217 = .ok (.aload_n 0, 1) := by decide +kernel
theorem dX6_readsStatement_218 : decode cX6_readsStatement 218 = .ok (.dup, 1) := by decide +kernel
theorem dX6_readsStatement_219 : decode cX6_readsStatement 219 = .ok (.getfield 98, 3) := by decide +kernel
theorem dX6_readsStatement_222 : decode cX6_readsStatement 222 = .ok (.iconst 1, 1) := by decide +kernel
theorem dX6_readsStatement_223 : decode cX6_readsStatement 223 = .ok (.isub, 1) := by decide +kernel
theorem dX6_readsStatement_224 : decode cX6_readsStatement 224 = .ok (.putfield 98, 3) := by decide +kernel
theorem dX6_readsStatement_227 : decode cX6_readsStatement 227 = .ok (.iconst 0, 1) := by decide +kernel
theorem dX6_readsStatement_228 : decode cX6_readsStatement 228 = .ok (.ireturn, 1) := by decide +kernel
theorem dX6_readsStatement_229 : decode cX6_readsStatement 229 = .ok (.iload_n 2, 1) := by decide +kernel
theorem dX6_readsStatement_230 : decode cX6_readsStatement 230 = .ok (.ifCond .eq 12, 3) := by decide +kernel
theorem dX6_readsStatement_233 : decode cX6_readsStatement 233 = .ok (.aload_n 0, 1) := by decide +kernel
theorem dX6_readsStatement_234 : decode cX6_readsStatement 234 = .ok (.invokevirtual 101, 3) := by decide +kernel
theorem dX6_readsStatement_237 : decode cX6_readsStatement 237 = .ok (.bipush 59, 2) := by decide +kernel
theorem dX6_readsStatement_239 : decode cX6_readsStatement 239 = .ok (.if_icmp .eq 5, 3) := by decide +kernel
theorem dX6_readsStatement_242 : decode cX6_readsStatement 242 = .ok (.iconst 0, 1) := by decide +kernel
theorem dX6_readsStatement_243 : decode cX6_readsStatement 243 = .ok (.ireturn, 1) := by decide +kernel
theorem dX6_readsStatement_244 : decode cX6_readsStatement 244 = .ok (.aload_n 0, 1) := by decide +kernel
theorem dX6_readsStatement_245 : decode cX6_readsStatement 245 = .ok (.dup, 1) := by decide +kernel
theorem dX6_readsStatement_246 : decode cX6_readsStatement 246 = .ok (.getfield 98, 3) := by decide +kernel
theorem dX6_readsStatement_249 : decode cX6_readsStatement 249 = .ok (.iconst 1, 1) := by decide +kernel
theorem dX6_readsStatement_250 : decode cX6_readsStatement 250 = .ok (.iadd, 1) := by decide +kernel
theorem dX6_readsStatement_251 : decode cX6_readsStatement 251 = .ok (.putfield 98, 3) := by decide +kernel
theorem dX6_readsStatement_254 : decode cX6_readsStatement 254 = .ok (.iconst 1, 1) := by decide +kernel
theorem dX6_readsStatement_255 : decode cX6_readsStatement 255 = .ok (.ireturn, 1) := by decide +kernel
theorem dX6_cuts_0 : decode cX6_cuts 0 = .ok (.aload_n 0, 1) := by decide +kernel
theorem dX6_cuts_1 : decode cX6_cuts 1 = .ok (.iload_n 1, 1) := by decide +kernel
theorem dX6_cuts_2 : decode cX6_cuts 2 = .ok (.invokevirtual 76, 3) := by decide +kernel
theorem dX6_cuts_5 : decode cX6_cuts 5 = .ok (.aload_n 0, 1) := by decide +kernel
theorem dX6_cuts_6 : decode cX6_cuts 6 = .ok (.iload_n 2, 1) := by decide +kernel
theorem dX6_cuts_7 : decode cX6_cuts 7 = .ok (.iconst 0, 1) := by decide +kernel
theorem dX6_cuts_8 : decode cX6_cuts 8 = .ok (.invokevirtual 117, 3) := by decide +kernel
theorem dX6_cuts_11 : decode cX6_cuts 11 = .ok (.iconst 0, 1) := by decide +kernel
theorem dX6_cuts_12 : decode cX6_cuts 12 = .ok (.istore_n 3, 1) := by decide +kernel
theorem dX6_cuts_13 : decode cX6_cuts 13 = .ok (.iload_n 3, 1) := by decide +kernel
theorem dX6_cuts_14 : decode cX6_cuts 14 = .ok (.iconst 5, 1) := by decide +kernel
theorem dX6_cuts_15 : decode cX6_cuts 15 = .ok (.if_icmp .ge 30, 3) := by decide +kernel
theorem dX6_cuts_18 : decode cX6_cuts 18 = .ok (.aload_n 0, 1) := by decide +kernel
theorem dX6_cuts_19 : decode cX6_cuts 19 = .ok (.getfield 9, 3) := by decide +kernel
theorem dX6_cuts_22 : decode cX6_cuts 22 = .ok (.aload_n 0, 1) := by decide +kernel
theorem dX6_cuts_23 : decode cX6_cuts 23 = .ok (.getfield 9, 3) := by decide +kernel
theorem dX6_cuts_26 : decode cX6_cuts 26 = .ok (.iconst 0, 1) := by decide +kernel
theorem dX6_cuts_27 : decode cX6_cuts 27 = .ok (.iaload, 1) := by decide +kernel
theorem dX6_cuts_28 : decode cX6_cuts 28 = .ok (.iload_n 3, 1) := by decide +kernel
theorem dX6_cuts_29 : decode cX6_cuts 29 = .ok (.invokestatic 45, 3) := by decide +kernel
theorem dX6_cuts_32 : decode cX6_cuts 32 = .ok (.aload_n 0, 1) := by decide +kernel
theorem dX6_cuts_33 : decode cX6_cuts 33 = .ok (.getfield 28, 3) := by decide +kernel
theorem dX6_cuts_36 : decode cX6_cuts 36 = .ok (.iload_n 3, 1) := by decide +kernel
theorem dX6_cuts_37 : decode cX6_cuts 37 = .ok (.iaload, 1) := by decide +kernel
theorem dX6_cuts_38 : decode cX6_cuts 38 = .ok (.iastore, 1) := by decide +kernel
theorem dX6_cuts_39 : decode cX6_cuts 39 = .ok (.iinc 3 1, 3) := by decide +kernel
theorem dX6_cuts_42 : decode cX6_cuts 42 = .ok (.goto (-29), 3) := by decide +kernel
theorem dX6_cuts_45 : decode cX6_cuts 45 = .ok (.aload_n 0, 1) := by decide +kernel
theorem dX6_cuts_46 : decode cX6_cuts 46 = .ok (.getfield 9, 3) := by decide +kernel
theorem dX6_cuts_49 : decode cX6_cuts 49 = .ok (.aload_n 0, 1) := by decide +kernel
theorem dX6_cuts_50 : decode cX6_cuts 50 = .ok (.getfield 9, 3) := by decide +kernel
theorem dX6_cuts_53 : decode cX6_cuts 53 = .ok (.iconst 0, 1) := by decide +kernel
theorem dX6_cuts_54 : decode cX6_cuts 54 = .ok (.iaload, 1) := by decide +kernel
theorem dX6_cuts_55 : decode cX6_cuts 55 = .ok (.iconst 5, 1) := by decide +kernel
theorem dX6_cuts_56 : decode cX6_cuts 56 = .ok (.invokestatic 45, 3) := by decide +kernel
theorem dX6_cuts_59 : decode cX6_cuts 59 = .ok (.iload_n 1, 1) := by decide +kernel
theorem dX6_cuts_60 : decode cX6_cuts 60 = .ok (.iastore, 1) := by decide +kernel
theorem dX6_cuts_61 : decode cX6_cuts 61 = .ok (.aload_n 0, 1) := by decide +kernel
theorem dX6_cuts_62 : decode cX6_cuts 62 = .ok (.getfield 9, 3) := by decide +kernel
theorem dX6_cuts_65 : decode cX6_cuts 65 = .ok (.aload_n 0, 1) := by decide +kernel
theorem dX6_cuts_66 : decode cX6_cuts 66 = .ok (.getfield 9, 3) := by decide +kernel
theorem dX6_cuts_69 : decode cX6_cuts 69 = .ok (.iconst 0, 1) := by decide +kernel
theorem dX6_cuts_70 : decode cX6_cuts 70 = .ok (.iaload, 1) := by decide +kernel
theorem dX6_cuts_71 : decode cX6_cuts 71 = .ok (.bipush 6, 2) := by decide +kernel
theorem dX6_cuts_73 : decode cX6_cuts 73 = .ok (.invokestatic 45, 3) := by decide +kernel
theorem dX6_cuts_76 : decode cX6_cuts 76 = .ok (.iconst 0, 1) := by decide +kernel
theorem dX6_cuts_77 : decode cX6_cuts 77 = .ok (.iastore, 1) := by decide +kernel
theorem dX6_cuts_78 : decode cX6_cuts 78 = .ok (.aload_n 0, 1) := by decide +kernel
theorem dX6_cuts_79 : decode cX6_cuts 79 = .ok (.getfield 9, 3) := by decide +kernel
theorem dX6_cuts_82 : decode cX6_cuts 82 = .ok (.iconst 0, 1) := by decide +kernel
theorem dX6_cuts_83 : decode cX6_cuts 83 = .ok (.dup2, 1) := by decide +kernel
theorem dX6_cuts_84 : decode cX6_cuts 84 = .ok (.iaload, 1) := by decide +kernel
theorem dX6_cuts_85 : decode cX6_cuts 85 = .ok (.iconst 1, 1) := by decide +kernel
theorem dX6_cuts_86 : decode cX6_cuts 86 = .ok (.iadd, 1) := by decide +kernel
theorem dX6_cuts_87 : decode cX6_cuts 87 = .ok (.iastore, 1) := by decide +kernel
theorem dX6_cuts_88 : decode cX6_cuts 88 = .ok (.aload_n 0, 1) := by decide +kernel
theorem dX6_cuts_89 : decode cX6_cuts 89 = .ok (.getfield 9, 3) := by decide +kernel
theorem dX6_cuts_92 : decode cX6_cuts 92 = .ok (.iconst 0, 1) := by decide +kernel
theorem dX6_cuts_93 : decode cX6_cuts 93 = .ok (.iaload, 1) := by decide +kernel
theorem dX6_cuts_94 : decode cX6_cuts 94 = .ok (.iconst 1, 1) := by decide +kernel
theorem dX6_cuts_95 : decode cX6_cuts 95 = .ok (.isub, 1) := by decide +kernel
theorem dX6_cuts_96 : decode cX6_cuts 96 = .ok (.ireturn, 1) := by decide +kernel
theorem dX6_used_0 : decode cX6_used 0 = .ok (.iconst 0, 1) := by decide +kernel
theorem dX6_used_1 : decode cX6_used 1 = .ok (.istore_n 3, 1) := by decide +kernel
theorem dX6_used_2 : decode cX6_used 2 = .ok (.iload_n 3, 1) := by decide +kernel
theorem dX6_used_3 : decode cX6_used 3 = .ok (.iconst 5, 1) := by decide +kernel
theorem dX6_used_4 : decode cX6_used 4 = .ok (.if_icmp .ge 63, 3) := by decide +kernel
theorem dX6_used_7 : decode cX6_used 7 = .ok (.aload_n 0, 1) := by decide +kernel
theorem dX6_used_8 : decode cX6_used 8 = .ok (.getfield 9, 3) := by decide +kernel
theorem dX6_used_11 : decode cX6_used 11 = .ok (.iload_n 1, 1) := by decide +kernel
theorem dX6_used_12 : decode cX6_used 12 = .ok (.iload_n 3, 1) := by decide +kernel
theorem dX6_used_13 : decode cX6_used 13 = .ok (.invokestatic 45, 3) := by decide +kernel
theorem dX6_used_16 : decode cX6_used 16 = .ok (.iconst 0, 1) := by decide +kernel
theorem dX6_used_17 : decode cX6_used 17 = .ok (.aload_n 0, 1) := by decide +kernel
theorem dX6_used_18 : decode cX6_used 18 = .ok (.getfield 9, 3) := by decide +kernel
theorem dX6_used_21 : decode cX6_used 21 = .ok (.iload_n 1, 1) := by decide +kernel
theorem dX6_used_22 : decode cX6_used 22 = .ok (.iload_n 3, 1) := by decide +kernel
theorem dX6_used_23 : decode cX6_used 23 = .ok (.invokestatic 45, 3) := by decide +kernel
theorem dX6_used_26 : decode cX6_used 26 = .ok (.iaload, 1) := by decide +kernel
theorem dX6_used_27 : decode cX6_used 27 = .ok (.iload_n 2, 1) := by decide +kernel
theorem dX6_used_28 : decode cX6_used 28 = .ok (.bipush 10, 2) := by decide +kernel
theorem dX6_used_30 : decode cX6_used 30 = .ok (.idiv, 1) := by decide +kernel
theorem dX6_used_31 : decode cX6_used 31 = .ok (.isub, 1) := by decide +kernel
theorem dX6_used_32 : decode cX6_used 32 = .ok (.invokestatic 52, 3) := by decide +kernel
theorem dX6_used_35 : decode cX6_used 35 = .ok (.iastore, 1) := by decide +kernel
theorem dX6_used_36 : decode cX6_used 36 = .ok (.aload_n 0, 1) := by decide +kernel
theorem dX6_used_37 : decode cX6_used 37 = .ok (.getfield 9, 3) := by decide +kernel
theorem dX6_used_40 : decode cX6_used 40 = .ok (.iconst 4, 1) := by decide +kernel
theorem dX6_used_41 : decode cX6_used 41 = .ok (.iload_n 3, 1) := by decide +kernel
theorem dX6_used_42 : decode cX6_used 42 = .ok (.iadd, 1) := by decide +kernel
theorem dX6_used_43 : decode cX6_used 43 = .ok (.iconst 0, 1) := by decide +kernel
theorem dX6_used_44 : decode cX6_used 44 = .ok (.aload_n 0, 1) := by decide +kernel
theorem dX6_used_45 : decode cX6_used 45 = .ok (.getfield 9, 3) := by decide +kernel
theorem dX6_used_48 : decode cX6_used 48 = .ok (.iconst 4, 1) := by decide +kernel
theorem dX6_used_49 : decode cX6_used 49 = .ok (.iload_n 3, 1) := by decide +kernel
theorem dX6_used_50 : decode cX6_used 50 = .ok (.iadd, 1) := by decide +kernel
theorem dX6_used_51 : decode cX6_used 51 = .ok (.iaload, 1) := by decide +kernel
theorem dX6_used_52 : decode cX6_used 52 = .ok (.iload_n 2, 1) := by decide +kernel
theorem dX6_used_53 : decode cX6_used 53 = .ok (.bipush 20, 2) := by decide +kernel
theorem dX6_used_55 : decode cX6_used 55 = .ok (.idiv, 1) := by decide +kernel
theorem dX6_used_56 : decode cX6_used 56 = .ok (.isub, 1) := by decide +kernel
theorem dX6_used_57 : decode cX6_used 57 = .ok (.invokestatic 52, 3) := by decide +kernel
theorem dX6_used_60 : decode cX6_used 60 = .ok (.iastore, 1) := by decide +kernel
theorem dX6_used_61 : decode cX6_used 61 = .ok (.iinc 3 1, 3) := by decide +kernel
theorem dX6_used_64 : decode cX6_used 64 = .ok (.goto (-62), 3) := by decide +kernel
theorem dX6_used_67 : decode cX6_used 67 = .ok (.aload_n 0, 1) := by decide +kernel
theorem dX6_used_68 : decode cX6_used 68 = .ok (.getfield 9, 3) := by decide +kernel
theorem dX6_used_71 : decode cX6_used 71 = .ok (.iconst 2, 1) := by decide +kernel
theorem dX6_used_72 : decode cX6_used 72 = .ok (.dup2, 1) := by decide +kernel
theorem dX6_used_73 : decode cX6_used 73 = .ok (.iaload, 1) := by decide +kernel
theorem dX6_used_74 : decode cX6_used 74 = .ok (.iload_n 2, 1) := by decide +kernel
theorem dX6_used_75 : decode cX6_used 75 = .ok (.iadd, 1) := by decide +kernel
theorem dX6_used_76 : decode cX6_used 76 = .ok (.iastore, 1) := by decide +kernel
theorem dX6_used_77 : decode cX6_used 77 = .ok (.return_, 1) := by decide +kernel
theorem dX6_isDone_0 : decode cX6_isDone 0 = .ok (.aload_n 0, 1) := by decide +kernel
theorem dX6_isDone_1 : decode cX6_isDone 1 = .ok (.getfield 31, 3) := by decide +kernel
theorem dX6_isDone_4 : decode cX6_isDone 4 = .ok (.iconst 0, 1) := by decide +kernel
theorem dX6_isDone_5 : decode cX6_isDone 5 = .ok (.iaload, 1) := by decide +kernel
theorem dX6_isDone_6 : decode cX6_isDone 6 = .ok (.istore_n 2, 1) := by decide +kernel
theorem dX6_isDone_7 : decode cX6_isDone 7 = .ok (.aload_n 0, 1) := by decide +kernel
theorem dX6_isDone_8 : decode cX6_isDone 8 = .ok (.getfield 31, 3) := by decide +kernel
theorem dX6_isDone_11 : decode cX6_isDone 11 = .ok (.iconst 1, 1) := by decide +kernel
theorem dX6_isDone_12 : decode cX6_isDone 12 = .ok (.iaload, 1) := by decide +kernel
theorem dX6_isDone_13 : decode cX6_isDone 13 = .ok (.istore_n 3, 1) := by decide +kernel
theorem dX6_isDone_14 : decode cX6_isDone 14 = .ok (.iload_n 1, 1) := by decide +kernel
theorem dX6_isDone_15 : decode cX6_isDone 15 = .ok (.tableswitch 375 99 117 #[279, 375, 375, 375, 375, 375, 375, 375, 122, 89, 219, 375, 375, 375, 375, 375, 366, 375, 326], 89) := by decide +kernel
theorem dX6_isDone_104 : decode cX6_isDone 104 = .ok (.iconst 0, 1) := by decide +kernel
theorem dX6_isDone_105 : decode cX6_isDone 105 = .ok (.istore 4, 2) := by decide +kernel
theorem dX6_isDone_107 : decode cX6_isDone 107 = .ok (.iload 4, 2) := by decide +kernel
theorem dX6_isDone_109 : decode cX6_isDone 109 = .ok (.iconst 5, 1) := by decide +kernel
theorem dX6_isDone_110 : decode cX6_isDone 110 = .ok (.if_icmp .ge 25, 3) := by decide +kernel
theorem dX6_isDone_113 : decode cX6_isDone 113 = .ok (.aload_n 0, 1) := by decide +kernel
theorem dX6_isDone_114 : decode cX6_isDone 114 = .ok (.getfield 9, 3) := by decide +kernel
theorem dX6_isDone_117 : decode cX6_isDone 117 = .ok (.iconst 4, 1) := by decide +kernel
theorem dX6_isDone_118 : decode cX6_isDone 118 = .ok (.iload 4, 2) := by decide +kernel
theorem dX6_isDone_120 : decode cX6_isDone 120 = .ok (.iadd, 1) := by decide +kernel
theorem dX6_isDone_121 : decode cX6_isDone 121 = .ok (.aload_n 0, 1) := by decide +kernel
theorem dX6_isDone_122 : decode cX6_isDone 122 = .ok (.getfield 31, 3) := by decide +kernel
theorem dX6_isDone_125 : decode cX6_isDone 125 = .ok (.iload 4, 2) := by decide +kernel
theorem dX6_isDone_127 : decode cX6_isDone 127 = .ok (.iaload, 1) := by decide +kernel
theorem dX6_isDone_128 : decode cX6_isDone 128 = .ok (.iastore, 1) := by decide +kernel
theorem dX6_isDone_129 : decode cX6_isDone 129 = .ok (.iinc 4 1, 3) := by decide +kernel
theorem dX6_isDone_132 : decode cX6_isDone 132 = .ok (.goto (-25), 3) := by decide +kernel
theorem dX6_isDone_135 : decode cX6_isDone 135 = .ok (.iconst 1, 1) := by decide +kernel
theorem dX6_isDone_136 : decode cX6_isDone 136 = .ok (.ireturn, 1) := by decide +kernel
theorem dX6_isDone_137 : decode cX6_isDone 137 = .ok (.aload_n 0, 1) := by decide +kernel
theorem dX6_isDone_138 : decode cX6_isDone 138 = .ok (.getfield 9, 3) := by decide +kernel
theorem dX6_isDone_141 : decode cX6_isDone 141 = .ok (.iconst 0, 1) := by decide +kernel
theorem dX6_isDone_142 : decode cX6_isDone 142 = .ok (.iaload, 1) := by decide +kernel
theorem dX6_isDone_143 : decode cX6_isDone 143 = .ok (.bipush 10, 2) := by decide +kernel
theorem dX6_isDone_145 : decode cX6_isDone 145 = .ok (.if_icmp .ne 5, 3) := by decide +kernel
theorem dX6_isDone_148 : decode cX6_isDone 148 = .ok (.iconst 0, 1) := by decide +kernel
theorem dX6_isDone_149 : decode cX6_isDone 149 = .ok (.ireturn, 1) := by decide +kernel
theorem dX6_isDone_150 : decode cX6_isDone 150 = .ok (.iconst 0, 1) := by decide +kernel
theorem dX6_isDone_151 : decode cX6_isDone 151 = .ok (.istore 4, 2) := by decide +kernel
theorem dX6_isDone_153 : decode cX6_isDone 153 = .ok (.iload 4, 2) := by decide +kernel
theorem dX6_isDone_155 : decode cX6_isDone 155 = .ok (.iconst 5, 1) := by decide +kernel
theorem dX6_isDone_156 : decode cX6_isDone 156 = .ok (.if_icmp .ge 32, 3) := by decide +kernel
theorem dX6_isDone_159 : decode cX6_isDone 159 = .ok (.aload_n 0, 1) := by decide +kernel
theorem dX6_isDone_160 : decode cX6_isDone 160 = .ok (.getfield 9, 3) := by decide +kernel
theorem dX6_isDone_163 : decode cX6_isDone 163 = .ok (.aload_n 0, 1) := by decide +kernel
theorem dX6_isDone_164 : decode cX6_isDone 164 = .ok (.getfield 9, 3) := by decide +kernel
theorem dX6_isDone_167 : decode cX6_isDone 167 = .ok (.iconst 0, 1) := by decide +kernel
theorem dX6_isDone_168 : decode cX6_isDone 168 = .ok (.iaload, 1) := by decide +kernel
theorem dX6_isDone_169 : decode cX6_isDone 169 = .ok (.iload 4, 2) := by decide +kernel
theorem dX6_isDone_171 : decode cX6_isDone 171 = .ok (.invokestatic 45, 3) := by decide +kernel
theorem dX6_isDone_174 : decode cX6_isDone 174 = .ok (.aload_n 0, 1) := by decide +kernel
theorem dX6_isDone_175 : decode cX6_isDone 175 = .ok (.getfield 31, 3) := by decide +kernel
theorem dX6_isDone_178 : decode cX6_isDone 178 = .ok (.iload 4, 2) := by decide +kernel
theorem dX6_isDone_180 : decode cX6_isDone 180 = .ok (.iaload, 1) := by decide +kernel
theorem dX6_isDone_181 : decode cX6_isDone 181 = .ok (.iastore, 1) := by decide +kernel
theorem dX6_isDone_182 : decode cX6_isDone 182 = .ok (.iinc 4 1, 3) := by decide +kernel
theorem dX6_isDone_185 : decode cX6_isDone 185 = .ok (.goto (-32), 3) := by decide +kernel
theorem dX6_isDone_188 : decode cX6_isDone 188 = .ok (.aload_n 0, 1) := by decide +kernel
theorem dX6_isDone_189 : decode cX6_isDone 189 = .ok (.getfield 9, 3) := by decide +kernel
theorem dX6_isDone_192 : decode cX6_isDone 192 = .ok (.aload_n 0, 1) := by decide +kernel
theorem dX6_isDone_193 : decode cX6_isDone 193 = .ok (.getfield 9, 3) := by decide +kernel
theorem dX6_isDone_196 : decode cX6_isDone 196 = .ok (.iconst 0, 1) := by decide +kernel
theorem dX6_isDone_197 : decode cX6_isDone 197 = .ok (.iaload, 1) := by decide +kernel
theorem dX6_isDone_198 : decode cX6_isDone 198 = .ok (.iconst 5, 1) := by decide +kernel
theorem dX6_isDone_199 : decode cX6_isDone 199 = .ok (.invokestatic 45, 3) := by decide +kernel
theorem dX6_isDone_202 : decode cX6_isDone 202 = .ok (.bipush (-9), 2) := by decide +kernel
theorem dX6_isDone_204 : decode cX6_isDone 204 = .ok (.iastore, 1) := by decide +kernel
theorem dX6_isDone_205 : decode cX6_isDone 205 = .ok (.aload_n 0, 1) := by decide +kernel
theorem dX6_isDone_206 : decode cX6_isDone 206 = .ok (.getfield 9, 3) := by decide +kernel
theorem dX6_isDone_209 : decode cX6_isDone 209 = .ok (.aload_n 0, 1) := by decide +kernel
theorem dX6_isDone_210 : decode cX6_isDone 210 = .ok (.getfield 9, 3) := by decide +kernel
theorem dX6_isDone_213 : decode cX6_isDone 213 = .ok (.iconst 0, 1) := by decide +kernel
theorem dX6_isDone_214 : decode cX6_isDone 214 = .ok (.iaload, 1) := by decide +kernel
theorem dX6_isDone_215 : decode cX6_isDone 215 = .ok (.bipush 6, 2) := by decide +kernel
theorem dX6_isDone_217 : decode cX6_isDone 217 = .ok (.invokestatic 45, 3) := by decide +kernel
theorem dX6_isDone_220 : decode cX6_isDone 220 = .ok (.iconst 0, 1) := by decide +kernel
theorem dX6_isDone_221 : decode cX6_isDone 221 = .ok (.iastore, 1) := by decide +kernel
theorem dX6_isDone_222 : decode cX6_isDone 222 = .ok (.aload_n 0, 1) := by decide +kernel
theorem dX6_isDone_223 : decode cX6_isDone 223 = .ok (.getfield 9, 3) := by decide +kernel
theorem dX6_isDone_226 : decode cX6_isDone 226 = .ok (.iconst 0, 1) := by decide +kernel
theorem dX6_isDone_227 : decode cX6_isDone 227 = .ok (.dup2, 1) := by decide +kernel
theorem dX6_isDone_228 : decode cX6_isDone 228 = .ok (.iaload, 1) := by decide +kernel
theorem dX6_isDone_229 : decode cX6_isDone 229 = .ok (.iconst 1, 1) := by decide +kernel
theorem dX6_isDone_230 : decode cX6_isDone 230 = .ok (.iadd, 1) := by decide +kernel
theorem dX6_isDone_231 : decode cX6_isDone 231 = .ok (.iastore, 1) := by decide +kernel
theorem dX6_isDone_232 : decode cX6_isDone 232 = .ok (.iconst 1, 1) := by decide +kernel
theorem dX6_isDone_233 : decode cX6_isDone 233 = .ok (.ireturn, 1) := by decide +kernel
theorem dX6_isDone_234 : decode cX6_isDone 234 = .ok (.aload_n 0, 1) := by decide +kernel
theorem dX6_isDone_235 : decode cX6_isDone 235 = .ok (.getfield 9, 3) := by decide +kernel
theorem dX6_isDone_238 : decode cX6_isDone 238 = .ok (.iconst 1, 1) := by decide +kernel
theorem dX6_isDone_239 : decode cX6_isDone 239 = .ok (.iaload, 1) := by decide +kernel
theorem dX6_isDone_240 : decode cX6_isDone 240 = .ok (.iconst 5, 1) := by decide +kernel
theorem dX6_isDone_241 : decode cX6_isDone 241 = .ok (.if_icmp .ne 5, 3) := by decide +kernel
theorem dX6_isDone_244 : decode cX6_isDone 244 = .ok (.iconst 0, 1) := by decide +kernel
theorem dX6_isDone_245 : decode cX6_isDone 245 = .ok (.ireturn, 1) := by decide +kernel
theorem dX6_isDone_246 : decode cX6_isDone 246 = .ok (.aload_n 0, 1) := by decide +kernel
theorem dX6_isDone_247 : decode cX6_isDone 247 = .ok (.getfield 9, 3) := by decide +kernel
theorem dX6_isDone_250 : decode cX6_isDone 250 = .ok (.bipush 79, 2) := by decide +kernel
theorem dX6_isDone_252 : decode cX6_isDone 252 = .ok (.iconst 2, 1) := by decide +kernel
theorem dX6_isDone_253 : decode cX6_isDone 253 = .ok (.aload_n 0, 1) := by decide +kernel
theorem dX6_isDone_254 : decode cX6_isDone 254 = .ok (.getfield 9, 3) := by decide +kernel
theorem dX6_isDone_257 : decode cX6_isDone 257 = .ok (.iconst 1, 1) := by decide +kernel
theorem dX6_isDone_258 : decode cX6_isDone 258 = .ok (.iaload, 1) := by decide +kernel
theorem dX6_isDone_259 : decode cX6_isDone 259 = .ok (.imul, 1) := by decide +kernel
theorem dX6_isDone_260 : decode cX6_isDone 260 = .ok (.iadd, 1) := by decide +kernel
theorem dX6_isDone_261 : decode cX6_isDone 261 = .ok (.iload_n 2, 1) := by decide +kernel
theorem dX6_isDone_262 : decode cX6_isDone 262 = .ok (.iastore, 1) := by decide +kernel
theorem dX6_isDone_263 : decode cX6_isDone 263 = .ok (.aload_n 0, 1) := by decide +kernel
theorem dX6_isDone_264 : decode cX6_isDone 264 = .ok (.getfield 9, 3) := by decide +kernel
theorem dX6_isDone_267 : decode cX6_isDone 267 = .ok (.bipush 79, 2) := by decide +kernel
theorem dX6_isDone_269 : decode cX6_isDone 269 = .ok (.iconst 2, 1) := by decide +kernel
theorem dX6_isDone_270 : decode cX6_isDone 270 = .ok (.aload_n 0, 1) := by decide +kernel
theorem dX6_isDone_271 : decode cX6_isDone 271 = .ok (.getfield 9, 3) := by decide +kernel
theorem dX6_isDone_274 : decode cX6_isDone 274 = .ok (.iconst 1, 1) := by decide +kernel
theorem dX6_isDone_275 : decode cX6_isDone 275 = .ok (.iaload, 1) := by decide +kernel
theorem dX6_isDone_276 : decode cX6_isDone 276 = .ok (.imul, 1) := by decide +kernel
theorem dX6_isDone_277 : decode cX6_isDone 277 = .ok (.iadd, 1) := by decide +kernel
theorem dX6_isDone_278 : decode cX6_isDone 278 = .ok (.iconst 1, 1) := by decide +kernel
theorem dX6_isDone_279 : decode cX6_isDone 279 = .ok (.iadd, 1) := by decide +kernel
theorem dX6_isDone_280 : decode cX6_isDone 280 = .ok (.iload_n 3, 1) := by decide +kernel
theorem dX6_isDone_281 : decode cX6_isDone 281 = .ok (.iastore, 1) := by decide +kernel
theorem dX6_isDone_282 : decode cX6_isDone 282 = .ok (.aload_n 0, 1) := by decide +kernel
theorem dX6_isDone_283 : decode cX6_isDone 283 = .ok (.getfield 9, 3) := by decide +kernel
theorem dX6_isDone_286 : decode cX6_isDone 286 = .ok (.iconst 1, 1) := by decide +kernel
theorem dX6_isDone_287 : decode cX6_isDone 287 = .ok (.dup2, 1) := by decide +kernel
theorem dX6_isDone_288 : decode cX6_isDone 288 = .ok (.iaload, 1) := by decide +kernel
theorem dX6_isDone_289 : decode cX6_isDone 289 = .ok (.iconst 1, 1) := by decide +kernel
theorem dX6_isDone_290 : decode cX6_isDone 290 = .ok (.iadd, 1) := by decide +kernel
theorem dX6_isDone_291 : decode cX6_isDone 291 = .ok (.iastore, 1) := by decide +kernel
theorem dX6_isDone_292 : decode cX6_isDone 292 = .ok (.iconst 1, 1) := by decide +kernel
theorem dX6_isDone_293 : decode cX6_isDone 293 = .ok (.ireturn, 1) := by decide +kernel
theorem dX6_isDone_294 : decode cX6_isDone 294 = .ok (.aload_n 0, 1) := by decide +kernel
theorem dX6_isDone_295 : decode cX6_isDone 295 = .ok (.iload_n 2, 1) := by decide +kernel
theorem dX6_isDone_296 : decode cX6_isDone 296 = .ok (.invokevirtual 120, 3) := by decide +kernel
theorem dX6_isDone_299 : decode cX6_isDone 299 = .ok (.ifCond .eq 30, 3) := by decide +kernel
theorem dX6_isDone_302 : decode cX6_isDone 302 = .ok (.aload_n 0, 1) := by decide +kernel
theorem dX6_isDone_303 : decode cX6_isDone 303 = .ok (.iload_n 2, 1) := by decide +kernel
theorem dX6_isDone_304 : decode cX6_isDone 304 = .ok (.invokevirtual 83, 3) := by decide +kernel
theorem dX6_isDone_307 : decode cX6_isDone 307 = .ok (.ifCond .ne 22, 3) := by decide +kernel
theorem dX6_isDone_310 : decode cX6_isDone 310 = .ok (.aload_n 0, 1) := by decide +kernel
theorem dX6_isDone_311 : decode cX6_isDone 311 = .ok (.iload_n 3, 1) := by decide +kernel
theorem dX6_isDone_312 : decode cX6_isDone 312 = .ok (.invokevirtual 123, 3) := by decide +kernel
theorem dX6_isDone_315 : decode cX6_isDone 315 = .ok (.ifCond .eq 14, 3) := by decide +kernel
theorem dX6_isDone_318 : decode cX6_isDone 318 = .ok (.aload_n 0, 1) := by decide +kernel
theorem dX6_isDone_319 : decode cX6_isDone 319 = .ok (.getfield 9, 3) := by decide +kernel
theorem dX6_isDone_322 : decode cX6_isDone 322 = .ok (.iconst 0, 1) := by decide +kernel
theorem dX6_isDone_323 : decode cX6_isDone 323 = .ok (.iaload, 1) := by decide +kernel
theorem dX6_isDone_324 : decode cX6_isDone 324 = .ok (.bipush 10, 2) := by decide +kernel
theorem dX6_isDone_326 : decode cX6_isDone 326 = .ok (.if_icmp .ne 5, 3) := by decide +kernel
theorem dX6_isDone_329 : decode cX6_isDone 329 = .ok (.iconst 0, 1) := by decide +kernel
theorem dX6_isDone_330 : decode cX6_isDone 330 = .ok (.ireturn, 1) := by decide +kernel
theorem dX6_isDone_331 : decode cX6_isDone 331 = .ok (.aload_n 0, 1) := by decide +kernel
theorem dX6_isDone_332 : decode cX6_isDone 332 = .ok (.iload_n 2, 1) := by decide +kernel
theorem dX6_isDone_333 : decode cX6_isDone 333 = .ok (.iload_n 3, 1) := by decide +kernel
theorem dX6_isDone_334 : decode cX6_isDone 334 = .ok (.invokevirtual 126, 3) := by decide +kernel
theorem dX6_isDone_337 : decode cX6_isDone 337 = .ok (.istore 4, 2) := by decide +kernel
theorem dX6_isDone_339 : decode cX6_isDone 339 = .ok (.iconst 1, 1) := by decide +kernel
theorem dX6_isDone_340 : decode cX6_isDone 340 = .ok (.ireturn, 1) := by decide +kernel
theorem dX6_isDone_341 : decode cX6_isDone 341 = .ok (.aload_n 0, 1) := by decide +kernel
theorem dX6_isDone_342 : decode cX6_isDone 342 = .ok (.iload_n 2, 1) := by decide +kernel
theorem dX6_isDone_343 : decode cX6_isDone 343 = .ok (.invokevirtual 120, 3) := by decide +kernel
theorem dX6_isDone_346 : decode cX6_isDone 346 = .ok (.ifCond .eq 25, 3) := by decide +kernel
theorem dX6_isDone_349 : decode cX6_isDone 349 = .ok (.aload_n 0, 1) := by decide +kernel
theorem dX6_isDone_350 : decode cX6_isDone 350 = .ok (.iload_n 2, 1) := by decide +kernel
theorem dX6_isDone_351 : decode cX6_isDone 351 = .ok (.invokevirtual 83, 3) := by decide +kernel
theorem dX6_isDone_354 : decode cX6_isDone 354 = .ok (.ifCond .ne 17, 3) := by decide +kernel
theorem dX6_isDone_357 : decode cX6_isDone 357 = .ok (.aload_n 0, 1) := by decide +kernel
theorem dX6_isDone_358 : decode cX6_isDone 358 = .ok (.getfield 9, 3) := by decide +kernel
theorem dX6_isDone_361 : decode cX6_isDone 361 = .ok (.iconst 2, 1) := by decide +kernel
theorem dX6_isDone_362 : decode cX6_isDone 362 = .ok (.iaload, 1) := by decide +kernel
theorem dX6_isDone_363 : decode cX6_isDone 363 = .ok (.iload_n 3, 1) := by decide +kernel
theorem dX6_isDone_364 : decode cX6_isDone 364 = .ok (.iadd, 1) := by decide +kernel
theorem dX6_isDone_365 : decode cX6_isDone 365 = .ok (.sipush 9999, 3) := by decide +kernel
theorem dX6_isDone_368 : decode cX6_isDone 368 = .ok (.if_icmp .le 5, 3) := by decide +kernel
theorem dX6_isDone_371 : decode cX6_isDone 371 = .ok (.iconst 0, 1) := by decide +kernel
theorem dX6_isDone_372 : decode cX6_isDone 372 = .ok (.ireturn, 1) := by decide +kernel
theorem dX6_isDone_373 : decode cX6_isDone 373 = .ok (.aload_n 0, 1) := by decide +kernel
theorem dX6_isDone_374 : decode cX6_isDone 374 = .ok (.iload_n 2, 1) := by decide +kernel
theorem dX6_isDone_375 : decode cX6_isDone 375 = .ok (.iload_n 3, 1) := by decide +kernel
theorem dX6_isDone_376 : decode cX6_isDone 376 = .ok (.invokevirtual 129, 3) := by decide +kernel
theorem dX6_isDone_379 : decode cX6_isDone 379 = .ok (.iconst 1, 1) := by decide +kernel
theorem dX6_isDone_380 : decode cX6_isDone 380 = .ok (.ireturn, 1) := by decide +kernel
theorem dX6_isDone_381 : decode cX6_isDone 381 = .ok (.aload_n 0, 1) := by decide +kernel
theorem dX6_isDone_382 : decode cX6_isDone 382 = .ok (.getfield 9, 3) := by decide +kernel
theorem dX6_isDone_385 : decode cX6_isDone 385 = .ok (.iconst 3, 1) := by decide +kernel
theorem dX6_isDone_386 : decode cX6_isDone 386 = .ok (.iload_n 2, 1) := by decide +kernel
theorem dX6_isDone_387 : decode cX6_isDone 387 = .ok (.iastore, 1) := by decide +kernel
theorem dX6_isDone_388 : decode cX6_isDone 388 = .ok (.iconst 1, 1) := by decide +kernel
theorem dX6_isDone_389 : decode cX6_isDone 389 = .ok (.ireturn, 1) := by decide +kernel
theorem dX6_isDone_390 : decode cX6_isDone 390 = .ok (.aload_n 0, 1) := by decide +kernel
theorem dX6_isDone_391 : decode cX6_isDone 391 = .ok (.iload_n 2, 1) := by decide +kernel
theorem dX6_isDone_392 : decode cX6_isDone 392 = .ok (.invokevirtual 120, 3) := by decide +kernel
theorem dX6_isDone_395 : decode cX6_isDone 395 = .ok (.ifCond .eq 11, 3) := by decide +kernel
theorem dX6_isDone_398 : decode cX6_isDone 398 = .ok (.aload_n 0, 1) := by decide +kernel
theorem dX6_isDone_399 : decode cX6_isDone 399 = .ok (.iload_n 2, 1) := by decide +kernel
theorem dX6_isDone_400 : decode cX6_isDone 400 = .ok (.invokevirtual 83, 3) := by decide +kernel
theorem dX6_isDone_403 : decode cX6_isDone 403 = .ok (.ifCond .eq 5, 3) := by decide +kernel
theorem dX6_isDone_406 : decode cX6_isDone 406 = .ok (.iconst 0, 1) := by decide +kernel
theorem dX6_isDone_407 : decode cX6_isDone 407 = .ok (.ireturn, 1) := by decide +kernel
theorem dX6_isDone_408 : decode cX6_isDone 408 = .ok (.aload_n 0, 1) := by decide +kernel
theorem dX6_isDone_409 : decode cX6_isDone 409 = .ok (.getfield 9, 3) := by decide +kernel
theorem dX6_isDone_412 : decode cX6_isDone 412 = .ok (.iload_n 2, 1) := by decide +kernel
theorem dX6_isDone_413 : decode cX6_isDone 413 = .ok (.bipush 6, 2) := by decide +kernel
theorem dX6_isDone_415 : decode cX6_isDone 415 = .ok (.invokestatic 45, 3) := by decide +kernel
theorem dX6_isDone_418 : decode cX6_isDone 418 = .ok (.iconst 1, 1) := by decide +kernel
theorem dX6_isDone_419 : decode cX6_isDone 419 = .ok (.iastore, 1) := by decide +kernel
theorem dX6_isDone_420 : decode cX6_isDone 420 = .ok (.iconst 1, 1) := by decide +kernel
theorem dX6_isDone_421 : decode cX6_isDone 421 = .ok (.ireturn, 1) := by decide +kernel
theorem dX6_lock_0 : decode cX6_lock 0 = .ok (.aload_n 0, 1) := by decide +kernel
theorem dX6_lock_1 : decode cX6_lock 1 = .ok (.iconst 0, 1) := by decide +kernel
theorem dX6_lock_2 : decode cX6_lock 2 = .ok (.putfield 98, 3) := by decide +kernel
theorem dX6_lock_5 : decode cX6_lock 5 = .ok (.iconst 0, 1) := by decide +kernel
theorem dX6_lock_6 : decode cX6_lock 6 = .ok (.istore_n 1, 1) := by decide +kernel
theorem dX6_lock_7 : decode cX6_lock 7 = .ok (.bipush (-9), 2) := by decide +kernel
theorem dX6_lock_9 : decode cX6_lock 9 = .ok (.istore_n 2, 1) := by decide +kernel
theorem dX6_lock_10 : decode cX6_lock 10 = .ok (.aload_n 0, 1) := by decide +kernel
theorem dX6_lock_11 : decode cX6_lock 11 = .ok (.invokevirtual 132, 3) := by decide +kernel
theorem dX6_lock_14 : decode cX6_lock 14 = .ok (.ifCond .ne 12, 3) := by decide +kernel
theorem dX6_lock_17 : decode cX6_lock 17 = .ok (.sipush (-1000), 3) := by decide +kernel
theorem dX6_lock_20 : decode cX6_lock 20 = .ok (.aload_n 0, 1) := by decide +kernel
theorem dX6_lock_21 : decode cX6_lock 21 = .ok (.getfield 98, 3) := by decide +kernel
theorem dX6_lock_24 : decode cX6_lock 24 = .ok (.isub, 1) := by decide +kernel
theorem dX6_lock_25 : decode cX6_lock 25 = .ok (.istore_n 2, 1) := by decide +kernel
theorem dX6_lock_26 : decode cX6_lock 26 = .ok (.iinc 1 1, 3) := by decide +kernel
theorem dX6_lock_29 : decode cX6_lock 29 = .ok (.iload_n 2, 1) := by decide +kernel
theorem dX6_lock_30 : decode cX6_lock 30 = .ok (.bipush (-9), 2) := by decide +kernel
theorem dX6_lock_32 : decode cX6_lock 32 = .ok (.if_icmp .ne 14, 3) := by decide +kernel
theorem dX6_lock_35 : decode cX6_lock 35 = .ok (.aload_n 0, 1) := by decide +kernel
theorem dX6_lock_36 : decode cX6_lock 36 = .ok (.getfield 98, 3) := by decide +kernel
theorem dX6_lock_39 : decode cX6_lock 39 = .ok (.aload_n 0, 1) := by decide +kernel
theorem dX6_lock_40 : decode cX6_lock 40 = .ok (.getfield 94, 3) := by decide +kernel
theorem dX6_lock_43 : decode cX6_lock 43 = .ok (.if_icmp .lt (-33), 3) := by decide +kernel
theorem dX6_lock_46 : decode cX6_lock 46 = .ok (.aload_n 0, 1) := by decide +kernel
theorem dX6_lock_47 : decode cX6_lock 47 = .ok (.getfield 9, 3) := by decide +kernel
theorem dX6_lock_50 : decode cX6_lock 50 = .ok (.aload_n 0, 1) := by decide +kernel
theorem dX6_lock_51 : decode cX6_lock 51 = .ok (.getfield 16, 3) := by decide +kernel
theorem dX6_lock_54 : decode cX6_lock 54 = .ok (.invokestatic 135, 3) := by decide +kernel
theorem dX6_lock_57 : decode cX6_lock 57 = .ok (.aload_n 0, 1) := by decide +kernel
theorem dX6_lock_58 : decode cX6_lock 58 = .ok (.iconst 0, 1) := by decide +kernel
theorem dX6_lock_59 : decode cX6_lock 59 = .ok (.putfield 98, 3) := by decide +kernel
theorem dX6_lock_62 : decode cX6_lock 62 = .ok (.iload_n 2, 1) := by decide +kernel
theorem dX6_lock_63 : decode cX6_lock 63 = .ok (.bipush (-9), 2) := by decide +kernel
theorem dX6_lock_65 : decode cX6_lock 65 = .ok (.if_icmp .ne 63, 3) := by decide +kernel
theorem dX6_lock_68 : decode cX6_lock 68 = .ok (.aload_n 0, 1) := by decide +kernel
theorem dX6_lock_69 : decode cX6_lock 69 = .ok (.getfield 98, 3) := by decide +kernel
theorem dX6_lock_72 : decode cX6_lock 72 = .ok (.aload_n 0, 1) := by decide +kernel
theorem dX6_lock_73 : decode cX6_lock 73 = .ok (.getfield 94, 3) := by decide +kernel
theorem dX6_lock_76 : decode cX6_lock 76 = .ok (.if_icmp .ge 52, 3) := by decide +kernel
theorem dX6_lock_79 : decode cX6_lock 79 = .ok (.aload_n 0, 1) := by decide +kernel
theorem dX6_lock_80 : decode cX6_lock 80 = .ok (.getfield 98, 3) := by decide +kernel
theorem dX6_lock_83 : decode cX6_lock 83 = .ok (.istore_n 3, 1) := by decide +kernel
theorem dX6_lock_84 : decode cX6_lock 84 = .ok (.aload_n 0, 1) := by decide +kernel
theorem dX6_lock_85 : decode cX6_lock 85 = .ok (.invokevirtual 101, 3) := by decide +kernel
theorem dX6_lock_88 : decode cX6_lock 88 = .ok (.istore 4, 2) := by decide +kernel
theorem dX6_lock_90 : decode cX6_lock 90 = .ok (.aload_n 0, 1) := by decide +kernel
theorem dX6_lock_91 : decode cX6_lock 91 = .ok (.invokevirtual 132, 3) := by decide +kernel
theorem dX6_lock_94 : decode cX6_lock 94 = .ok (.istore 5, 2) := by decide +kernel
theorem dX6_lock_96 : decode cX6_lock 96 = .ok (.aload_n 0, 1) := by decide +kernel
theorem dX6_lock_97 : decode cX6_lock 97 = .ok (.iload 4, 2) := by decide +kernel
theorem dX6_lock_99 : decode cX6_lock 99 = .ok (.invokevirtual 139, 3) := by decide +kernel
theorem dX6_lock_102 : decode cX6_lock 102 = .ok (.ifCond .eq 6, 3) := by decide +kernel
theorem dX6_lock_105 : decode cX6_lock 105 = .ok (.goto (-43), 3) := by decide +kernel
theorem dX6_lock_108 : decode cX6_lock 108 = .ok (.sipush (-2000), 3) := by decide +kernel
theorem dX6_lock_111 : decode cX6_lock 111 = .ok (.iload_n 3, 1) := by decide +kernel
theorem dX6_lock_112 : decode cX6_lock 112 = .ok (.isub, 1) := by decide +kernel
theorem dX6_lock_113 : decode cX6_lock 113 = .ok (.istore_n 2, 1) := by decide +kernel
theorem dX6_lock_114 : decode cX6_lock 114 = .ok (.aload_n 0, 1) := by decide +kernel
theorem dX6_lock_115 : decode cX6_lock 115 = .ok (.getfield 16, 3) := by decide +kernel
theorem dX6_lock_118 : decode cX6_lock 118 = .ok (.aload_n 0, 1) := by decide +kernel
theorem dX6_lock_119 : decode cX6_lock 119 = .ok (.getfield 9, 3) := by decide +kernel
theorem dX6_lock_122 : decode cX6_lock 122 = .ok (.invokestatic 135, 3) := by decide +kernel
theorem dX6_lock_125 : decode cX6_lock 125 = .ok (.goto (-63), 3) := by decide +kernel
theorem dX6_lock_128 : decode cX6_lock 128 = .ok (.aload_n 0, 1) := by decide +kernel
theorem dX6_lock_129 : decode cX6_lock 129 = .ok (.iconst 0, 1) := by decide +kernel
theorem dX6_lock_130 : decode cX6_lock 130 = .ok (.putfield 94, 3) := by decide +kernel
theorem dX6_lock_133 : decode cX6_lock 133 = .ok (.iload_n 2, 1) := by decide +kernel
theorem dX6_lock_134 : decode cX6_lock 134 = .ok (.bipush (-9), 2) := by decide +kernel
theorem dX6_lock_136 : decode cX6_lock 136 = .ok (.if_icmp .ne 7, 3) := by decide +kernel
theorem dX6_lock_139 : decode cX6_lock 139 = .ok (.iload_n 1, 1) := by decide +kernel
theorem dX6_lock_140 : decode cX6_lock 140 = .ok (.goto 4, 3) := by decide +kernel
theorem dX6_lock_143 : decode cX6_lock 143 = .ok (.iload_n 2, 1) := by decide +kernel
theorem dX6_lock_144 : decode cX6_lock 144 = .ok (.ireturn, 1) := by decide +kernel
theorem dX6_pin_0 : decode cX6_pin 0 = .ok (.iload_n 1, 1) := by decide +kernel
theorem dX6_pin_1 : decode cX6_pin 1 = .ok (.invokestatic 142, 3) := by decide +kernel
theorem dX6_pin_4 : decode cX6_pin 4 = .ok (.ifCond .eq 14, 3) := by decide +kernel
theorem dX6_pin_7 : decode cX6_pin 7 = .ok (.aload_n 0, 1) := by decide +kernel
theorem dX6_pin_8 : decode cX6_pin 8 = .ok (.getfield 9, 3) := by decide +kernel
theorem dX6_pin_11 : decode cX6_pin 11 = .ok (.iconst 4, 1) := by decide +kernel
theorem dX6_pin_12 : decode cX6_pin 12 = .ok (.iload_n 1, 1) := by decide +kernel
theorem dX6_pin_13 : decode cX6_pin 13 = .ok (.iadd, 1) := by decide +kernel
theorem dX6_pin_14 : decode cX6_pin 14 = .ok (.iaload, 1) := by decide +kernel
theorem dX6_pin_15 : decode cX6_pin 15 = .ok (.goto 8, 3) := by decide +kernel
theorem dX6_pin_18 : decode cX6_pin 18 = .ok (.aload_n 0, 1) := by decide +kernel
theorem dX6_pin_19 : decode cX6_pin 19 = .ok (.iconst (-1), 1) := by decide +kernel
theorem dX6_pin_20 : decode cX6_pin 20 = .ok (.invokevirtual 35, 3) := by decide +kernel
theorem dX6_pin_23 : decode cX6_pin 23 = .ok (.ireturn, 1) := by decide +kernel
theorem dX6_worstOf_0 : decode cX6_worstOf 0 = .ok (.iconst 0, 1) := by decide +kernel
theorem dX6_worstOf_1 : decode cX6_worstOf 1 = .ok (.istore_n 2, 1) := by decide +kernel
theorem dX6_worstOf_2 : decode cX6_worstOf 2 = .ok (.iconst 1, 1) := by decide +kernel
theorem dX6_worstOf_3 : decode cX6_worstOf 3 = .ok (.istore_n 3, 1) := by decide +kernel
theorem dX6_worstOf_4 : decode cX6_worstOf 4 = .ok (.iload_n 3, 1) := by decide +kernel
theorem dX6_worstOf_5 : decode cX6_worstOf 5 = .ok (.iconst 5, 1) := by decide +kernel
theorem dX6_worstOf_6 : decode cX6_worstOf 6 = .ok (.if_icmp .ge 56, 3) := by decide +kernel
theorem dX6_worstOf_9 : decode cX6_worstOf 9 = .ok (.aload_n 0, 1) := by decide +kernel
theorem dX6_worstOf_10 : decode cX6_worstOf 10 = .ok (.getfield 9, 3) := by decide +kernel
theorem dX6_worstOf_13 : decode cX6_worstOf 13 = .ok (.iload_n 1, 1) := by decide +kernel
theorem dX6_worstOf_14 : decode cX6_worstOf 14 = .ok (.iload_n 3, 1) := by decide +kernel
theorem dX6_worstOf_15 : decode cX6_worstOf 15 = .ok (.invokestatic 45, 3) := by decide +kernel
theorem dX6_worstOf_18 : decode cX6_worstOf 18 = .ok (.iaload, 1) := by decide +kernel
theorem dX6_worstOf_19 : decode cX6_worstOf 19 = .ok (.aload_n 0, 1) := by decide +kernel
theorem dX6_worstOf_20 : decode cX6_worstOf 20 = .ok (.getfield 9, 3) := by decide +kernel
theorem dX6_worstOf_23 : decode cX6_worstOf 23 = .ok (.iconst 4, 1) := by decide +kernel
theorem dX6_worstOf_24 : decode cX6_worstOf 24 = .ok (.iload_n 3, 1) := by decide +kernel
theorem dX6_worstOf_25 : decode cX6_worstOf 25 = .ok (.iadd, 1) := by decide +kernel
theorem dX6_worstOf_26 : decode cX6_worstOf 26 = .ok (.iaload, 1) := by decide +kernel
theorem dX6_worstOf_27 : decode cX6_worstOf 27 = .ok (.invokestatic 69, 3) := by decide +kernel
theorem dX6_worstOf_30 : decode cX6_worstOf 30 = .ok (.aload_n 0, 1) := by decide +kernel
theorem dX6_worstOf_31 : decode cX6_worstOf 31 = .ok (.getfield 9, 3) := by decide +kernel
theorem dX6_worstOf_34 : decode cX6_worstOf 34 = .ok (.iload_n 1, 1) := by decide +kernel
theorem dX6_worstOf_35 : decode cX6_worstOf 35 = .ok (.iload_n 2, 1) := by decide +kernel
theorem dX6_worstOf_36 : decode cX6_worstOf 36 = .ok (.invokestatic 45, 3) := by decide +kernel
theorem dX6_worstOf_39 : decode cX6_worstOf 39 = .ok (.iaload, 1) := by decide +kernel
theorem dX6_worstOf_40 : decode cX6_worstOf 40 = .ok (.aload_n 0, 1) := by decide +kernel
theorem dX6_worstOf_41 : decode cX6_worstOf 41 = .ok (.getfield 9, 3) := by decide +kernel
theorem dX6_worstOf_44 : decode cX6_worstOf 44 = .ok (.iconst 4, 1) := by decide +kernel
theorem dX6_worstOf_45 : decode cX6_worstOf 45 = .ok (.iload_n 2, 1) := by decide +kernel
theorem dX6_worstOf_46 : decode cX6_worstOf 46 = .ok (.iadd, 1) := by decide +kernel
theorem dX6_worstOf_47 : decode cX6_worstOf 47 = .ok (.iaload, 1) := by decide +kernel
theorem dX6_worstOf_48 : decode cX6_worstOf 48 = .ok (.invokestatic 69, 3) := by decide +kernel
theorem dX6_worstOf_51 : decode cX6_worstOf 51 = .ok (.if_icmp .le 5, 3) := by decide +kernel
theorem dX6_worstOf_54 : decode cX6_worstOf 54 = .ok (.iload_n 3, 1) := by decide +kernel
theorem dX6_worstOf_55 : decode cX6_worstOf 55 = .ok (.istore_n 2, 1) := by decide +kernel
theorem dX6_worstOf_56 : decode cX6_worstOf 56 = .ok (.iinc 3 1, 3) := by decide +kernel
theorem dX6_worstOf_59 : decode cX6_worstOf 59 = .ok (.goto (-55), 3) := by decide +kernel
theorem dX6_worstOf_62 : decode cX6_worstOf 62 = .ok (.iload_n 2, 1) := by decide +kernel
theorem dX6_worstOf_63 : decode cX6_worstOf 63 = .ok (.ireturn, 1) := by decide +kernel
theorem dX6_key_0 : decode cX6_key 0 = .ok (.aload_n 0, 1) := by decide +kernel
theorem dX6_key_1 : decode cX6_key 1 = .ok (.iload_n 1, 1) := by decide +kernel
theorem dX6_key_2 : decode cX6_key 2 = .ok (.invokevirtual 120, 3) := by decide +kernel
theorem dX6_key_5 : decode cX6_key 5 = .ok (.ifCond .ne 9, 3) := by decide +kernel
theorem dX6_key_8 : decode cX6_key 8 = .ok (.aload_n 0, 1) := by decide +kernel
theorem dX6_key_9 : decode cX6_key 9 = .ok (.iconst (-1), 1) := by decide +kernel
theorem dX6_key_10 : decode cX6_key 10 = .ok (.invokevirtual 35, 3) := by decide +kernel
theorem dX6_key_13 : decode cX6_key 13 = .ok (.ireturn, 1) := by decide +kernel
theorem dX6_key_14 : decode cX6_key 14 = .ok (.iload_n 2, 1) := by decide +kernel
theorem dX6_key_15 : decode cX6_key 15 = .ok (.iconst 0, 1) := by decide +kernel
theorem dX6_key_16 : decode cX6_key 16 = .ok (.bipush 6, 2) := by decide +kernel
theorem dX6_key_18 : decode cX6_key 18 = .ok (.invokestatic 41, 3) := by decide +kernel
theorem dX6_key_21 : decode cX6_key 21 = .ok (.ifCond .eq 14, 3) := by decide +kernel
theorem dX6_key_24 : decode cX6_key 24 = .ok (.aload_n 0, 1) := by decide +kernel
theorem dX6_key_25 : decode cX6_key 25 = .ok (.getfield 9, 3) := by decide +kernel
theorem dX6_key_28 : decode cX6_key 28 = .ok (.iload_n 1, 1) := by decide +kernel
theorem dX6_key_29 : decode cX6_key 29 = .ok (.iload_n 2, 1) := by decide +kernel
theorem dX6_key_30 : decode cX6_key 30 = .ok (.invokestatic 45, 3) := by decide +kernel
theorem dX6_key_33 : decode cX6_key 33 = .ok (.iaload, 1) := by decide +kernel
theorem dX6_key_34 : decode cX6_key 34 = .ok (.ireturn, 1) := by decide +kernel
theorem dX6_key_35 : decode cX6_key 35 = .ok (.iload_n 2, 1) := by decide +kernel
theorem dX6_key_36 : decode cX6_key 36 = .ok (.tableswitch 54 7 9 #[28, 42, 48], 28) := by decide +kernel
theorem dX6_key_64 : decode cX6_key 64 = .ok (.aload_n 0, 1) := by decide +kernel
theorem dX6_key_65 : decode cX6_key 65 = .ok (.iload_n 1, 1) := by decide +kernel
theorem dX6_key_66 : decode cX6_key 66 = .ok (.invokevirtual 91, 3) := by decide +kernel
theorem dX6_key_69 : decode cX6_key 69 = .ok (.ifCond .eq 7, 3) := by decide +kernel
theorem dX6_key_72 : decode cX6_key 72 = .ok (.iconst 1, 1) := by decide +kernel
theorem dX6_key_73 : decode cX6_key 73 = .ok (.goto 4, 3) := by decide +kernel
theorem dX6_key_76 : decode cX6_key 76 = .ok (.iconst 0, 1) := by decide +kernel
theorem dX6_key_77 : decode cX6_key 77 = .ok (.ireturn, 1) := by decide +kernel
theorem dX6_key_78 : decode cX6_key 78 = .ok (.aload_n 0, 1) := by decide +kernel
theorem dX6_key_79 : decode cX6_key 79 = .ok (.iload_n 1, 1) := by decide +kernel
theorem dX6_key_80 : decode cX6_key 80 = .ok (.invokevirtual 145, 3) := by decide +kernel
theorem dX6_key_83 : decode cX6_key 83 = .ok (.ireturn, 1) := by decide +kernel
theorem dX6_key_84 : decode cX6_key 84 = .ok (.aload_n 0, 1) := by decide +kernel
theorem dX6_key_85 : decode cX6_key 85 = .ok (.iload_n 1, 1) := by decide +kernel
theorem dX6_key_86 : decode cX6_key 86 = .ok (.invokevirtual 148, 3) := by decide +kernel
theorem dX6_key_89 : decode cX6_key 89 = .ok (.ireturn, 1) := by decide +kernel
theorem dX6_key_90 : decode cX6_key 90 = .ok (.aload_n 0, 1) := by decide +kernel
theorem dX6_key_91 : decode cX6_key 91 = .ok (.bipush (-2), 2) := by decide +kernel
theorem dX6_key_93 : decode cX6_key 93 = .ok (.invokevirtual 35, 3) := by decide +kernel
theorem dX6_key_96 : decode cX6_key 96 = .ok (.ireturn, 1) := by decide +kernel
theorem dX6_machine_0 : decode cX6_machine 0 = .ok (.aload_n 0, 1) := by decide +kernel
theorem dX6_machine_1 : decode cX6_machine 1 = .ok (.iload_n 1, 1) := by decide +kernel
theorem dX6_machine_2 : decode cX6_machine 2 = .ok (.invokevirtual 123, 3) := by decide +kernel
theorem dX6_machine_5 : decode cX6_machine 5 = .ok (.ifCond .ne 9, 3) := by decide +kernel
theorem dX6_machine_8 : decode cX6_machine 8 = .ok (.aload_n 0, 1) := by decide +kernel
theorem dX6_machine_9 : decode cX6_machine 9 = .ok (.iconst (-1), 1) := by decide +kernel
theorem dX6_machine_10 : decode cX6_machine 10 = .ok (.invokevirtual 35, 3) := by decide +kernel
theorem dX6_machine_13 : decode cX6_machine 13 = .ok (.ireturn, 1) := by decide +kernel
theorem dX6_machine_14 : decode cX6_machine 14 = .ok (.iload_n 2, 1) := by decide +kernel
theorem dX6_machine_15 : decode cX6_machine 15 = .ok (.iconst 0, 1) := by decide +kernel
theorem dX6_machine_16 : decode cX6_machine 16 = .ok (.iconst 1, 1) := by decide +kernel
theorem dX6_machine_17 : decode cX6_machine 17 = .ok (.invokestatic 41, 3) := by decide +kernel
theorem dX6_machine_20 : decode cX6_machine 20 = .ok (.ifCond .eq 19, 3) := by decide +kernel
theorem dX6_machine_23 : decode cX6_machine 23 = .ok (.aload_n 0, 1) := by decide +kernel
theorem dX6_machine_24 : decode cX6_machine 24 = .ok (.getfield 9, 3) := by decide +kernel
theorem dX6_machine_27 : decode cX6_machine 27 = .ok (.bipush 79, 2) := by decide +kernel
theorem dX6_machine_29 : decode cX6_machine 29 = .ok (.iconst 2, 1) := by decide +kernel
theorem dX6_machine_30 : decode cX6_machine 30 = .ok (.iload_n 1, 1) := by decide +kernel
theorem dX6_machine_31 : decode cX6_machine 31 = .ok (.imul, 1) := by decide +kernel
theorem dX6_machine_32 : decode cX6_machine 32 = .ok (.iadd, 1) := by decide +kernel
theorem dX6_machine_33 : decode cX6_machine 33 = .ok (.iload_n 2, 1) := by decide +kernel
theorem dX6_machine_34 : decode cX6_machine 34 = .ok (.iadd, 1) := by decide +kernel
theorem dX6_machine_35 : decode cX6_machine 35 = .ok (.iaload, 1) := by decide +kernel
theorem dX6_machine_36 : decode cX6_machine 36 = .ok (.goto 9, 3) := by decide +kernel
theorem dX6_machine_39 : decode cX6_machine 39 = .ok (.aload_n 0, 1) := by decide +kernel
theorem dX6_machine_40 : decode cX6_machine 40 = .ok (.bipush (-2), 2) := by decide +kernel
theorem dX6_machine_42 : decode cX6_machine 42 = .ok (.invokevirtual 35, 3) := by decide +kernel
theorem dX6_machine_45 : decode cX6_machine 45 = .ok (.ireturn, 1) := by decide +kernel
theorem dX6_wrong_0 : decode cX6_wrong 0 = .ok (.iload_n 0, 1) := by decide +kernel
theorem dX6_wrong_1 : decode cX6_wrong 1 = .ok (.ifCond .ge 8, 3) := by decide +kernel
theorem dX6_wrong_4 : decode cX6_wrong 4 = .ok (.bipush (-4), 2) := by decide +kernel
theorem dX6_wrong_6 : decode cX6_wrong 6 = .ok (.goto 14, 3) := by decide +kernel
theorem dX6_wrong_9 : decode cX6_wrong 9 = .ok (.iload_n 0, 1) := by decide +kernel
theorem dX6_wrong_10 : decode cX6_wrong 10 = .ok (.iload_n 1, 1) := by decide +kernel
theorem dX6_wrong_11 : decode cX6_wrong 11 = .ok (.if_icmp .le 8, 3) := by decide +kernel
theorem dX6_wrong_14 : decode cX6_wrong 14 = .ok (.bipush (-6), 2) := by decide +kernel
theorem dX6_wrong_16 : decode cX6_wrong 16 = .ok (.goto 4, 3) := by decide +kernel
theorem dX6_wrong_19 : decode cX6_wrong 19 = .ok (.iconst 0, 1) := by decide +kernel
theorem dX6_wrong_20 : decode cX6_wrong 20 = .ok (.ireturn, 1) := by decide +kernel
theorem dX6_sets_0 : decode cX6_sets 0 = .ok (.iload_n 1, 1) := by decide +kernel
theorem dX6_sets_1 : decode cX6_sets 1 = .ok (.invokestatic 142, 3) := by decide +kernel
theorem dX6_sets_4 : decode cX6_sets 4 = .ok (.ifCond .eq 12, 3) := by decide +kernel
theorem dX6_sets_7 : decode cX6_sets 7 = .ok (.iload_n 2, 1) := by decide +kernel
theorem dX6_sets_8 : decode cX6_sets 8 = .ok (.bipush 99, 2) := by decide +kernel
theorem dX6_sets_10 : decode cX6_sets 10 = .ok (.invokestatic 151, 3) := by decide +kernel
theorem dX6_sets_13 : decode cX6_sets 13 = .ok (.goto 4, 3) := by decide +kernel
theorem dX6_sets_16 : decode cX6_sets 16 = .ok (.iconst (-1), 1) := by decide +kernel
theorem dX6_sets_17 : decode cX6_sets 17 = .ok (.istore_n 3, 1) := by decide +kernel
theorem dX6_sets_18 : decode cX6_sets 18 = .ok (.iload_n 3, 1) := by decide +kernel
theorem dX6_sets_19 : decode cX6_sets 19 = .ok (.ifCond .eq 9, 3) := by decide +kernel
theorem dX6_sets_22 : decode cX6_sets 22 = .ok (.aload_n 0, 1) := by decide +kernel
theorem dX6_sets_23 : decode cX6_sets 23 = .ok (.iload_n 3, 1) := by decide +kernel
theorem dX6_sets_24 : decode cX6_sets 24 = .ok (.invokevirtual 35, 3) := by decide +kernel
theorem dX6_sets_27 : decode cX6_sets 27 = .ok (.ireturn, 1) := by decide +kernel
theorem dX6_sets_28 : decode cX6_sets 28 = .ok (.aload_n 0, 1) := by decide +kernel
theorem dX6_sets_29 : decode cX6_sets 29 = .ok (.getfield 9, 3) := by decide +kernel
theorem dX6_sets_32 : decode cX6_sets 32 = .ok (.iconst 4, 1) := by decide +kernel
theorem dX6_sets_33 : decode cX6_sets 33 = .ok (.iload_n 1, 1) := by decide +kernel
theorem dX6_sets_34 : decode cX6_sets 34 = .ok (.iadd, 1) := by decide +kernel
theorem dX6_sets_35 : decode cX6_sets 35 = .ok (.iaload, 1) := by decide +kernel
theorem dX6_sets_36 : decode cX6_sets 36 = .ok (.istore 4, 2) := by decide +kernel
theorem dX6_sets_38 : decode cX6_sets 38 = .ok (.aload_n 0, 1) := by decide +kernel
theorem dX6_sets_39 : decode cX6_sets 39 = .ok (.getfield 9, 3) := by decide +kernel
theorem dX6_sets_42 : decode cX6_sets 42 = .ok (.iconst 4, 1) := by decide +kernel
theorem dX6_sets_43 : decode cX6_sets 43 = .ok (.iload_n 1, 1) := by decide +kernel
theorem dX6_sets_44 : decode cX6_sets 44 = .ok (.iadd, 1) := by decide +kernel
theorem dX6_sets_45 : decode cX6_sets 45 = .ok (.iload_n 2, 1) := by decide +kernel
theorem dX6_sets_46 : decode cX6_sets 46 = .ok (.iastore, 1) := by decide +kernel
theorem dX6_sets_47 : decode cX6_sets 47 = .ok (.iload 4, 2) := by decide +kernel
theorem dX6_sets_49 : decode cX6_sets 49 = .ok (.ireturn, 1) := by decide +kernel
theorem dX6_slack_0 : decode cX6_slack 0 = .ok (.iload_n 1, 1) := by decide +kernel
theorem dX6_slack_1 : decode cX6_slack 1 = .ok (.bipush 9, 2) := by decide +kernel
theorem dX6_slack_3 : decode cX6_slack 3 = .ok (.invokestatic 151, 3) := by decide +kernel
theorem dX6_slack_6 : decode cX6_slack 6 = .ok (.istore_n 2, 1) := by decide +kernel
theorem dX6_slack_7 : decode cX6_slack 7 = .ok (.iload_n 2, 1) := by decide +kernel
theorem dX6_slack_8 : decode cX6_slack 8 = .ok (.ifCond .eq 9, 3) := by decide +kernel
theorem dX6_slack_11 : decode cX6_slack 11 = .ok (.aload_n 0, 1) := by decide +kernel
theorem dX6_slack_12 : decode cX6_slack 12 = .ok (.iload_n 2, 1) := by decide +kernel
theorem dX6_slack_13 : decode cX6_slack 13 = .ok (.invokevirtual 35, 3) := by decide +kernel
theorem dX6_slack_16 : decode cX6_slack 16 = .ok (.ireturn, 1) := by decide +kernel
theorem dX6_slack_17 : decode cX6_slack 17 = .ok (.aload_n 0, 1) := by decide +kernel
theorem dX6_slack_18 : decode cX6_slack 18 = .ok (.getfield 9, 3) := by decide +kernel
theorem dX6_slack_21 : decode cX6_slack 21 = .ok (.iconst 3, 1) := by decide +kernel
theorem dX6_slack_22 : decode cX6_slack 22 = .ok (.iaload, 1) := by decide +kernel
theorem dX6_slack_23 : decode cX6_slack 23 = .ok (.istore_n 3, 1) := by decide +kernel
theorem dX6_slack_24 : decode cX6_slack 24 = .ok (.aload_n 0, 1) := by decide +kernel
theorem dX6_slack_25 : decode cX6_slack 25 = .ok (.getfield 9, 3) := by decide +kernel
theorem dX6_slack_28 : decode cX6_slack 28 = .ok (.iconst 3, 1) := by decide +kernel
theorem dX6_slack_29 : decode cX6_slack 29 = .ok (.iload_n 1, 1) := by decide +kernel
theorem dX6_slack_30 : decode cX6_slack 30 = .ok (.iastore, 1) := by decide +kernel
theorem dX6_slack_31 : decode cX6_slack 31 = .ok (.iload_n 3, 1) := by decide +kernel
theorem dX6_slack_32 : decode cX6_slack 32 = .ok (.ireturn, 1) := by decide +kernel
theorem dX6_files_0 : decode cX6_files 0 = .ok (.aload_n 0, 1) := by decide +kernel
theorem dX6_files_1 : decode cX6_files 1 = .ok (.iload_n 1, 1) := by decide +kernel
theorem dX6_files_2 : decode cX6_files 2 = .ok (.invokevirtual 120, 3) := by decide +kernel
theorem dX6_files_5 : decode cX6_files 5 = .ok (.ifCond .eq 19, 3) := by decide +kernel
theorem dX6_files_8 : decode cX6_files 8 = .ok (.iload_n 2, 1) := by decide +kernel
theorem dX6_files_9 : decode cX6_files 9 = .ok (.invokestatic 142, 3) := by decide +kernel
theorem dX6_files_12 : decode cX6_files 12 = .ok (.ifCond .eq 12, 3) := by decide +kernel
theorem dX6_files_15 : decode cX6_files 15 = .ok (.iload_n 3, 1) := by decide +kernel
theorem dX6_files_16 : decode cX6_files 16 = .ok (.bipush 99, 2) := by decide +kernel
theorem dX6_files_18 : decode cX6_files 18 = .ok (.invokestatic 151, 3) := by decide +kernel
theorem dX6_files_21 : decode cX6_files 21 = .ok (.goto 4, 3) := by decide +kernel
theorem dX6_files_24 : decode cX6_files 24 = .ok (.iconst (-1), 1) := by decide +kernel
theorem dX6_files_25 : decode cX6_files 25 = .ok (.istore 4, 2) := by decide +kernel
theorem dX6_files_27 : decode cX6_files 27 = .ok (.iload 4, 2) := by decide +kernel
theorem dX6_files_29 : decode cX6_files 29 = .ok (.ifCond .eq 10, 3) := by decide +kernel
theorem dX6_files_32 : decode cX6_files 32 = .ok (.aload_n 0, 1) := by decide +kernel
theorem dX6_files_33 : decode cX6_files 33 = .ok (.iload 4, 2) := by decide +kernel
theorem dX6_files_35 : decode cX6_files 35 = .ok (.invokevirtual 35, 3) := by decide +kernel
theorem dX6_files_38 : decode cX6_files 38 = .ok (.ireturn, 1) := by decide +kernel
theorem dX6_files_39 : decode cX6_files 39 = .ok (.aload_n 0, 1) := by decide +kernel
theorem dX6_files_40 : decode cX6_files 40 = .ok (.getfield 9, 3) := by decide +kernel
theorem dX6_files_43 : decode cX6_files 43 = .ok (.iload_n 1, 1) := by decide +kernel
theorem dX6_files_44 : decode cX6_files 44 = .ok (.iload_n 2, 1) := by decide +kernel
theorem dX6_files_45 : decode cX6_files 45 = .ok (.invokestatic 45, 3) := by decide +kernel
theorem dX6_files_48 : decode cX6_files 48 = .ok (.iaload, 1) := by decide +kernel
theorem dX6_files_49 : decode cX6_files 49 = .ok (.istore 5, 2) := by decide +kernel
theorem dX6_files_51 : decode cX6_files 51 = .ok (.aload_n 0, 1) := by decide +kernel
theorem dX6_files_52 : decode cX6_files 52 = .ok (.getfield 9, 3) := by decide +kernel
theorem dX6_files_55 : decode cX6_files 55 = .ok (.iload_n 1, 1) := by decide +kernel
theorem dX6_files_56 : decode cX6_files 56 = .ok (.iload_n 2, 1) := by decide +kernel
theorem dX6_files_57 : decode cX6_files 57 = .ok (.invokestatic 45, 3) := by decide +kernel
theorem dX6_files_60 : decode cX6_files 60 = .ok (.iload_n 3, 1) := by decide +kernel
theorem dX6_files_61 : decode cX6_files 61 = .ok (.iastore, 1) := by decide +kernel
theorem dX6_files_62 : decode cX6_files 62 = .ok (.iload 5, 2) := by decide +kernel
theorem dX6_files_64 : decode cX6_files 64 = .ok (.ireturn, 1) := by decide +kernel
theorem dX6_turn_0 : decode cX6_turn 0 = .ok (.aload_n 0, 1) := by decide +kernel
theorem dX6_turn_1 : decode cX6_turn 1 = .ok (.iload_n 1, 1) := by decide +kernel
theorem dX6_turn_2 : decode cX6_turn 2 = .ok (.invokevirtual 123, 3) := by decide +kernel
theorem dX6_turn_5 : decode cX6_turn 5 = .ok (.ifCond .ne 7, 3) := by decide +kernel
theorem dX6_turn_8 : decode cX6_turn 8 = .ok (.iconst (-1), 1) := by decide +kernel
theorem dX6_turn_9 : decode cX6_turn 9 = .ok (.goto 23, 3) := by decide +kernel
theorem dX6_turn_12 : decode cX6_turn 12 = .ok (.iload_n 2, 1) := by decide +kernel
theorem dX6_turn_13 : decode cX6_turn 13 = .ok (.iconst 0, 1) := by decide +kernel
theorem dX6_turn_14 : decode cX6_turn 14 = .ok (.iconst 5, 1) := by decide +kernel
theorem dX6_turn_15 : decode cX6_turn 15 = .ok (.invokestatic 41, 3) := by decide +kernel
theorem dX6_turn_18 : decode cX6_turn 18 = .ok (.ifCond .ne 8, 3) := by decide +kernel
theorem dX6_turn_21 : decode cX6_turn 21 = .ok (.bipush (-2), 2) := by decide +kernel
theorem dX6_turn_23 : decode cX6_turn 23 = .ok (.goto 9, 3) := by decide +kernel
theorem dX6_turn_26 : decode cX6_turn 26 = .ok (.iload_n 3, 1) := by decide +kernel
theorem dX6_turn_27 : decode cX6_turn 27 = .ok (.bipush 9, 2) := by decide +kernel
theorem dX6_turn_29 : decode cX6_turn 29 = .ok (.invokestatic 151, 3) := by decide +kernel
theorem dX6_turn_32 : decode cX6_turn 32 = .ok (.istore 4, 2) := by decide +kernel
theorem dX6_turn_34 : decode cX6_turn 34 = .ok (.iload 4, 2) := by decide +kernel
theorem dX6_turn_36 : decode cX6_turn 36 = .ok (.ifCond .eq 10, 3) := by decide +kernel
theorem dX6_turn_39 : decode cX6_turn 39 = .ok (.aload_n 0, 1) := by decide +kernel
theorem dX6_turn_40 : decode cX6_turn 40 = .ok (.iload 4, 2) := by decide +kernel
theorem dX6_turn_42 : decode cX6_turn 42 = .ok (.invokevirtual 35, 3) := by decide +kernel
theorem dX6_turn_45 : decode cX6_turn 45 = .ok (.ireturn, 1) := by decide +kernel
theorem dX6_turn_46 : decode cX6_turn 46 = .ok (.bipush 10, 2) := by decide +kernel
theorem dX6_turn_48 : decode cX6_turn 48 = .ok (.aload_n 0, 1) := by decide +kernel
theorem dX6_turn_49 : decode cX6_turn 49 = .ok (.getfield 9, 3) := by decide +kernel
theorem dX6_turn_52 : decode cX6_turn 52 = .ok (.bipush 79, 2) := by decide +kernel
theorem dX6_turn_54 : decode cX6_turn 54 = .ok (.iconst 2, 1) := by decide +kernel
theorem dX6_turn_55 : decode cX6_turn 55 = .ok (.iload_n 1, 1) := by decide +kernel
theorem dX6_turn_56 : decode cX6_turn 56 = .ok (.imul, 1) := by decide +kernel
theorem dX6_turn_57 : decode cX6_turn 57 = .ok (.iadd, 1) := by decide +kernel
theorem dX6_turn_58 : decode cX6_turn 58 = .ok (.iaload, 1) := by decide +kernel
theorem dX6_turn_59 : decode cX6_turn 59 = .ok (.imul, 1) := by decide +kernel
theorem dX6_turn_60 : decode cX6_turn 60 = .ok (.aload_n 0, 1) := by decide +kernel
theorem dX6_turn_61 : decode cX6_turn 61 = .ok (.getfield 9, 3) := by decide +kernel
theorem dX6_turn_64 : decode cX6_turn 64 = .ok (.bipush 79, 2) := by decide +kernel
theorem dX6_turn_66 : decode cX6_turn 66 = .ok (.iconst 2, 1) := by decide +kernel
theorem dX6_turn_67 : decode cX6_turn 67 = .ok (.iload_n 1, 1) := by decide +kernel
theorem dX6_turn_68 : decode cX6_turn 68 = .ok (.imul, 1) := by decide +kernel
theorem dX6_turn_69 : decode cX6_turn 69 = .ok (.iadd, 1) := by decide +kernel
theorem dX6_turn_70 : decode cX6_turn 70 = .ok (.iconst 1, 1) := by decide +kernel
theorem dX6_turn_71 : decode cX6_turn 71 = .ok (.iadd, 1) := by decide +kernel
theorem dX6_turn_72 : decode cX6_turn 72 = .ok (.iaload, 1) := by decide +kernel
theorem dX6_turn_73 : decode cX6_turn 73 = .ok (.iadd, 1) := by decide +kernel
theorem dX6_turn_74 : decode cX6_turn 74 = .ok (.istore 5, 2) := by decide +kernel
theorem dX6_turn_76 : decode cX6_turn 76 = .ok (.aload_n 0, 1) := by decide +kernel
theorem dX6_turn_77 : decode cX6_turn 77 = .ok (.getfield 9, 3) := by decide +kernel
theorem dX6_turn_80 : decode cX6_turn 80 = .ok (.bipush 79, 2) := by decide +kernel
theorem dX6_turn_82 : decode cX6_turn 82 = .ok (.iconst 2, 1) := by decide +kernel
theorem dX6_turn_83 : decode cX6_turn 83 = .ok (.iload_n 1, 1) := by decide +kernel
theorem dX6_turn_84 : decode cX6_turn 84 = .ok (.imul, 1) := by decide +kernel
theorem dX6_turn_85 : decode cX6_turn 85 = .ok (.iadd, 1) := by decide +kernel
theorem dX6_turn_86 : decode cX6_turn 86 = .ok (.iload_n 2, 1) := by decide +kernel
theorem dX6_turn_87 : decode cX6_turn 87 = .ok (.iastore, 1) := by decide +kernel
theorem dX6_turn_88 : decode cX6_turn 88 = .ok (.aload_n 0, 1) := by decide +kernel
theorem dX6_turn_89 : decode cX6_turn 89 = .ok (.getfield 9, 3) := by decide +kernel
theorem dX6_turn_92 : decode cX6_turn 92 = .ok (.bipush 79, 2) := by decide +kernel
theorem dX6_turn_94 : decode cX6_turn 94 = .ok (.iconst 2, 1) := by decide +kernel
theorem dX6_turn_95 : decode cX6_turn 95 = .ok (.iload_n 1, 1) := by decide +kernel
theorem dX6_turn_96 : decode cX6_turn 96 = .ok (.imul, 1) := by decide +kernel
theorem dX6_turn_97 : decode cX6_turn 97 = .ok (.iadd, 1) := by decide +kernel
theorem dX6_turn_98 : decode cX6_turn 98 = .ok (.iconst 1, 1) := by decide +kernel
theorem dX6_turn_99 : decode cX6_turn 99 = .ok (.iadd, 1) := by decide +kernel
theorem dX6_turn_100 : decode cX6_turn 100 = .ok (.iload_n 3, 1) := by decide +kernel
theorem dX6_turn_101 : decode cX6_turn 101 = .ok (.iastore, 1) := by decide +kernel
theorem dX6_turn_102 : decode cX6_turn 102 = .ok (.iload 5, 2) := by decide +kernel
theorem dX6_turn_104 : decode cX6_turn 104 = .ok (.ireturn, 1) := by decide +kernel
theorem dX6_cut_0 : decode cX6_cut 0 = .ok (.aload_n 0, 1) := by decide +kernel
theorem dX6_cut_1 : decode cX6_cut 1 = .ok (.iload_n 1, 1) := by decide +kernel
theorem dX6_cut_2 : decode cX6_cut 2 = .ok (.invokevirtual 120, 3) := by decide +kernel
theorem dX6_cut_5 : decode cX6_cut 5 = .ok (.ifCond .eq 11, 3) := by decide +kernel
theorem dX6_cut_8 : decode cX6_cut 8 = .ok (.aload_n 0, 1) := by decide +kernel
theorem dX6_cut_9 : decode cX6_cut 9 = .ok (.iload_n 2, 1) := by decide +kernel
theorem dX6_cut_10 : decode cX6_cut 10 = .ok (.invokevirtual 123, 3) := by decide +kernel
theorem dX6_cut_13 : decode cX6_cut 13 = .ok (.ifCond .ne 9, 3) := by decide +kernel
theorem dX6_cut_16 : decode cX6_cut 16 = .ok (.aload_n 0, 1) := by decide +kernel
theorem dX6_cut_17 : decode cX6_cut 17 = .ok (.iconst (-1), 1) := by decide +kernel
theorem dX6_cut_18 : decode cX6_cut 18 = .ok (.invokevirtual 35, 3) := by decide +kernel
theorem dX6_cut_21 : decode cX6_cut 21 = .ok (.ireturn, 1) := by decide +kernel
theorem dX6_cut_22 : decode cX6_cut 22 = .ok (.aload_n 0, 1) := by decide +kernel
theorem dX6_cut_23 : decode cX6_cut 23 = .ok (.iload_n 1, 1) := by decide +kernel
theorem dX6_cut_24 : decode cX6_cut 24 = .ok (.invokevirtual 83, 3) := by decide +kernel
theorem dX6_cut_27 : decode cX6_cut 27 = .ok (.ifCond .eq 10, 3) := by decide +kernel
theorem dX6_cut_30 : decode cX6_cut 30 = .ok (.aload_n 0, 1) := by decide +kernel
theorem dX6_cut_31 : decode cX6_cut 31 = .ok (.bipush (-3), 2) := by decide +kernel
theorem dX6_cut_33 : decode cX6_cut 33 = .ok (.invokevirtual 35, 3) := by decide +kernel
theorem dX6_cut_36 : decode cX6_cut 36 = .ok (.ireturn, 1) := by decide +kernel
theorem dX6_cut_37 : decode cX6_cut 37 = .ok (.aload_n 0, 1) := by decide +kernel
theorem dX6_cut_38 : decode cX6_cut 38 = .ok (.getfield 9, 3) := by decide +kernel
theorem dX6_cut_41 : decode cX6_cut 41 = .ok (.iconst 0, 1) := by decide +kernel
theorem dX6_cut_42 : decode cX6_cut 42 = .ok (.iaload, 1) := by decide +kernel
theorem dX6_cut_43 : decode cX6_cut 43 = .ok (.bipush 10, 2) := by decide +kernel
theorem dX6_cut_45 : decode cX6_cut 45 = .ok (.if_icmp .ne 10, 3) := by decide +kernel
theorem dX6_cut_48 : decode cX6_cut 48 = .ok (.aload_n 0, 1) := by decide +kernel
theorem dX6_cut_49 : decode cX6_cut 49 = .ok (.bipush (-6), 2) := by decide +kernel
theorem dX6_cut_51 : decode cX6_cut 51 = .ok (.invokevirtual 35, 3) := by decide +kernel
theorem dX6_cut_54 : decode cX6_cut 54 = .ok (.ireturn, 1) := by decide +kernel
theorem dX6_cut_55 : decode cX6_cut 55 = .ok (.aload_n 0, 1) := by decide +kernel
theorem dX6_cut_56 : decode cX6_cut 56 = .ok (.iload_n 1, 1) := by decide +kernel
theorem dX6_cut_57 : decode cX6_cut 57 = .ok (.iload_n 2, 1) := by decide +kernel
theorem dX6_cut_58 : decode cX6_cut 58 = .ok (.invokevirtual 126, 3) := by decide +kernel
theorem dX6_cut_61 : decode cX6_cut 61 = .ok (.ireturn, 1) := by decide +kernel
theorem dX6_uses_0 : decode cX6_uses 0 = .ok (.aload_n 0, 1) := by decide +kernel
theorem dX6_uses_1 : decode cX6_uses 1 = .ok (.iload_n 1, 1) := by decide +kernel
theorem dX6_uses_2 : decode cX6_uses 2 = .ok (.invokevirtual 120, 3) := by decide +kernel
theorem dX6_uses_5 : decode cX6_uses 5 = .ok (.ifCond .ne 9, 3) := by decide +kernel
theorem dX6_uses_8 : decode cX6_uses 8 = .ok (.aload_n 0, 1) := by decide +kernel
theorem dX6_uses_9 : decode cX6_uses 9 = .ok (.iconst (-1), 1) := by decide +kernel
theorem dX6_uses_10 : decode cX6_uses 10 = .ok (.invokevirtual 35, 3) := by decide +kernel
theorem dX6_uses_13 : decode cX6_uses 13 = .ok (.ireturn, 1) := by decide +kernel
theorem dX6_uses_14 : decode cX6_uses 14 = .ok (.iload_n 2, 1) := by decide +kernel
theorem dX6_uses_15 : decode cX6_uses 15 = .ok (.iconst 1, 1) := by decide +kernel
theorem dX6_uses_16 : decode cX6_uses 16 = .ok (.if_icmp .ge 10, 3) := by decide +kernel
theorem dX6_uses_19 : decode cX6_uses 19 = .ok (.aload_n 0, 1) := by decide +kernel
theorem dX6_uses_20 : decode cX6_uses 20 = .ok (.bipush (-4), 2) := by decide +kernel
theorem dX6_uses_22 : decode cX6_uses 22 = .ok (.invokevirtual 35, 3) := by decide +kernel
theorem dX6_uses_25 : decode cX6_uses 25 = .ok (.ireturn, 1) := by decide +kernel
theorem dX6_uses_26 : decode cX6_uses 26 = .ok (.iload_n 2, 1) := by decide +kernel
theorem dX6_uses_27 : decode cX6_uses 27 = .ok (.bipush 99, 2) := by decide +kernel
theorem dX6_uses_29 : decode cX6_uses 29 = .ok (.if_icmp .gt 17, 3) := by decide +kernel
theorem dX6_uses_32 : decode cX6_uses 32 = .ok (.aload_n 0, 1) := by decide +kernel
theorem dX6_uses_33 : decode cX6_uses 33 = .ok (.getfield 9, 3) := by decide +kernel
theorem dX6_uses_36 : decode cX6_uses 36 = .ok (.iconst 2, 1) := by decide +kernel
theorem dX6_uses_37 : decode cX6_uses 37 = .ok (.iaload, 1) := by decide +kernel
theorem dX6_uses_38 : decode cX6_uses 38 = .ok (.iload_n 2, 1) := by decide +kernel
theorem dX6_uses_39 : decode cX6_uses 39 = .ok (.iadd, 1) := by decide +kernel
theorem dX6_uses_40 : decode cX6_uses 40 = .ok (.sipush 9999, 3) := by decide +kernel
theorem dX6_uses_43 : decode cX6_uses 43 = .ok (.if_icmp .le 10, 3) := by decide +kernel
theorem dX6_uses_46 : decode cX6_uses 46 = .ok (.aload_n 0, 1) := by decide +kernel
theorem dX6_uses_47 : decode cX6_uses 47 = .ok (.bipush (-6), 2) := by decide +kernel
theorem dX6_uses_49 : decode cX6_uses 49 = .ok (.invokevirtual 35, 3) := by decide +kernel
theorem dX6_uses_52 : decode cX6_uses 52 = .ok (.ireturn, 1) := by decide +kernel
theorem dX6_uses_53 : decode cX6_uses 53 = .ok (.aload_n 0, 1) := by decide +kernel
theorem dX6_uses_54 : decode cX6_uses 54 = .ok (.iload_n 1, 1) := by decide +kernel
theorem dX6_uses_55 : decode cX6_uses 55 = .ok (.invokevirtual 83, 3) := by decide +kernel
theorem dX6_uses_58 : decode cX6_uses 58 = .ok (.ifCond .eq 10, 3) := by decide +kernel
theorem dX6_uses_61 : decode cX6_uses 61 = .ok (.aload_n 0, 1) := by decide +kernel
theorem dX6_uses_62 : decode cX6_uses 62 = .ok (.bipush (-3), 2) := by decide +kernel
theorem dX6_uses_64 : decode cX6_uses 64 = .ok (.invokevirtual 35, 3) := by decide +kernel
theorem dX6_uses_67 : decode cX6_uses 67 = .ok (.ireturn, 1) := by decide +kernel
theorem dX6_uses_68 : decode cX6_uses 68 = .ok (.aload_n 0, 1) := by decide +kernel
theorem dX6_uses_69 : decode cX6_uses 69 = .ok (.iload_n 1, 1) := by decide +kernel
theorem dX6_uses_70 : decode cX6_uses 70 = .ok (.iload_n 2, 1) := by decide +kernel
theorem dX6_uses_71 : decode cX6_uses 71 = .ok (.invokevirtual 129, 3) := by decide +kernel
theorem dX6_uses_74 : decode cX6_uses 74 = .ok (.aload_n 0, 1) := by decide +kernel
theorem dX6_uses_75 : decode cX6_uses 75 = .ok (.iload_n 1, 1) := by decide +kernel
theorem dX6_uses_76 : decode cX6_uses 76 = .ok (.invokevirtual 91, 3) := by decide +kernel
theorem dX6_uses_79 : decode cX6_uses 79 = .ok (.ifCond .eq 7, 3) := by decide +kernel
theorem dX6_uses_82 : decode cX6_uses 82 = .ok (.iconst 1, 1) := by decide +kernel
theorem dX6_uses_83 : decode cX6_uses 83 = .ok (.goto 4, 3) := by decide +kernel
theorem dX6_uses_86 : decode cX6_uses 86 = .ok (.iconst 0, 1) := by decide +kernel
theorem dX6_uses_87 : decode cX6_uses 87 = .ok (.ireturn, 1) := by decide +kernel
theorem dX6_snaps_0 : decode cX6_snaps 0 = .ok (.aload_n 0, 1) := by decide +kernel
theorem dX6_snaps_1 : decode cX6_snaps 1 = .ok (.iload_n 1, 1) := by decide +kernel
theorem dX6_snaps_2 : decode cX6_snaps 2 = .ok (.invokevirtual 120, 3) := by decide +kernel
theorem dX6_snaps_5 : decode cX6_snaps 5 = .ok (.ifCond .ne 9, 3) := by decide +kernel
theorem dX6_snaps_8 : decode cX6_snaps 8 = .ok (.aload_n 0, 1) := by decide +kernel
theorem dX6_snaps_9 : decode cX6_snaps 9 = .ok (.iconst (-1), 1) := by decide +kernel
theorem dX6_snaps_10 : decode cX6_snaps 10 = .ok (.invokevirtual 35, 3) := by decide +kernel
theorem dX6_snaps_13 : decode cX6_snaps 13 = .ok (.ireturn, 1) := by decide +kernel
theorem dX6_snaps_14 : decode cX6_snaps 14 = .ok (.aload_n 0, 1) := by decide +kernel
theorem dX6_snaps_15 : decode cX6_snaps 15 = .ok (.iload_n 1, 1) := by decide +kernel
theorem dX6_snaps_16 : decode cX6_snaps 16 = .ok (.invokevirtual 83, 3) := by decide +kernel
theorem dX6_snaps_19 : decode cX6_snaps 19 = .ok (.ifCond .eq 10, 3) := by decide +kernel
theorem dX6_snaps_22 : decode cX6_snaps 22 = .ok (.aload_n 0, 1) := by decide +kernel
theorem dX6_snaps_23 : decode cX6_snaps 23 = .ok (.bipush (-3), 2) := by decide +kernel
theorem dX6_snaps_25 : decode cX6_snaps 25 = .ok (.invokevirtual 35, 3) := by decide +kernel
theorem dX6_snaps_28 : decode cX6_snaps 28 = .ok (.ireturn, 1) := by decide +kernel
theorem dX6_snaps_29 : decode cX6_snaps 29 = .ok (.aload_n 0, 1) := by decide +kernel
theorem dX6_snaps_30 : decode cX6_snaps 30 = .ok (.getfield 9, 3) := by decide +kernel
theorem dX6_snaps_33 : decode cX6_snaps 33 = .ok (.iload_n 1, 1) := by decide +kernel
theorem dX6_snaps_34 : decode cX6_snaps 34 = .ok (.bipush 6, 2) := by decide +kernel
theorem dX6_snaps_36 : decode cX6_snaps 36 = .ok (.invokestatic 45, 3) := by decide +kernel
theorem dX6_snaps_39 : decode cX6_snaps 39 = .ok (.iconst 1, 1) := by decide +kernel
theorem dX6_snaps_40 : decode cX6_snaps 40 = .ok (.iastore, 1) := by decide +kernel
theorem dX6_snaps_41 : decode cX6_snaps 41 = .ok (.iconst 0, 1) := by decide +kernel
theorem dX6_snaps_42 : decode cX6_snaps 42 = .ok (.istore_n 2, 1) := by decide +kernel
theorem dX6_snaps_43 : decode cX6_snaps 43 = .ok (.iconst 0, 1) := by decide +kernel
theorem dX6_snaps_44 : decode cX6_snaps 44 = .ok (.istore_n 3, 1) := by decide +kernel
theorem dX6_snaps_45 : decode cX6_snaps 45 = .ok (.iload_n 3, 1) := by decide +kernel
theorem dX6_snaps_46 : decode cX6_snaps 46 = .ok (.aload_n 0, 1) := by decide +kernel
theorem dX6_snaps_47 : decode cX6_snaps 47 = .ok (.getfield 9, 3) := by decide +kernel
theorem dX6_snaps_50 : decode cX6_snaps 50 = .ok (.iconst 0, 1) := by decide +kernel
theorem dX6_snaps_51 : decode cX6_snaps 51 = .ok (.iaload, 1) := by decide +kernel
theorem dX6_snaps_52 : decode cX6_snaps 52 = .ok (.if_icmp .ge 25, 3) := by decide +kernel
theorem dX6_snaps_55 : decode cX6_snaps 55 = .ok (.iload_n 2, 1) := by decide +kernel
theorem dX6_snaps_56 : decode cX6_snaps 56 = .ok (.aload_n 0, 1) := by decide +kernel
theorem dX6_snaps_57 : decode cX6_snaps 57 = .ok (.iload_n 3, 1) := by decide +kernel
theorem dX6_snaps_58 : decode cX6_snaps 58 = .ok (.invokevirtual 83, 3) := by decide +kernel
theorem dX6_snaps_61 : decode cX6_snaps 61 = .ok (.ifCond .eq 7, 3) := by decide +kernel
theorem dX6_snaps_64 : decode cX6_snaps 64 = .ok (.iconst 0, 1) := by decide +kernel
theorem dX6_snaps_65 : decode cX6_snaps 65 = .ok (.goto 4, 3) := by decide +kernel
theorem dX6_snaps_68 : decode cX6_snaps 68 = .ok (.iconst 1, 1) := by decide +kernel
theorem dX6_snaps_69 : decode cX6_snaps 69 = .ok (.iadd, 1) := by decide +kernel
theorem dX6_snaps_70 : decode cX6_snaps 70 = .ok (.istore_n 2, 1) := by decide +kernel
theorem dX6_snaps_71 : decode cX6_snaps 71 = .ok (.iinc 3 1, 3) := by decide +kernel
theorem dX6_snaps_74 : decode cX6_snaps 74 = .ok (.goto (-29), 3) := by decide +kernel
theorem dX6_snaps_77 : decode cX6_snaps 77 = .ok (.iload_n 2, 1) := by decide +kernel
theorem dX6_snaps_78 : decode cX6_snaps 78 = .ok (.ireturn, 1) := by decide +kernel
theorem dX6_opening_0 : decode cX6_opening 0 = .ok (.iconst 0, 1) := by decide +kernel
theorem dX6_opening_1 : decode cX6_opening 1 = .ok (.istore_n 1, 1) := by decide +kernel
theorem dX6_opening_2 : decode cX6_opening 2 = .ok (.iconst 0, 1) := by decide +kernel
theorem dX6_opening_3 : decode cX6_opening 3 = .ok (.istore_n 2, 1) := by decide +kernel
theorem dX6_opening_4 : decode cX6_opening 4 = .ok (.iload_n 2, 1) := by decide +kernel
theorem dX6_opening_5 : decode cX6_opening 5 = .ok (.aload_n 0, 1) := by decide +kernel
theorem dX6_opening_6 : decode cX6_opening 6 = .ok (.getfield 9, 3) := by decide +kernel
theorem dX6_opening_9 : decode cX6_opening 9 = .ok (.iconst 0, 1) := by decide +kernel
theorem dX6_opening_10 : decode cX6_opening 10 = .ok (.iaload, 1) := by decide +kernel
theorem dX6_opening_11 : decode cX6_opening 11 = .ok (.if_icmp .ge 27, 3) := by decide +kernel
theorem dX6_opening_14 : decode cX6_opening 14 = .ok (.iload_n 1, 1) := by decide +kernel
theorem dX6_opening_15 : decode cX6_opening 15 = .ok (.aload_n 0, 1) := by decide +kernel
theorem dX6_opening_16 : decode cX6_opening 16 = .ok (.iload_n 2, 1) := by decide +kernel
theorem dX6_opening_17 : decode cX6_opening 17 = .ok (.invokevirtual 91, 3) := by decide +kernel
theorem dX6_opening_20 : decode cX6_opening 20 = .ok (.ifCond .eq 9, 3) := by decide +kernel
theorem dX6_opening_23 : decode cX6_opening 23 = .ok (.iconst 1, 1) := by decide +kernel
theorem dX6_opening_24 : decode cX6_opening 24 = .ok (.iload_n 2, 1) := by decide +kernel
theorem dX6_opening_25 : decode cX6_opening 25 = .ok (.ishl, 1) := by decide +kernel
theorem dX6_opening_26 : decode cX6_opening 26 = .ok (.goto 4, 3) := by decide +kernel
theorem dX6_opening_29 : decode cX6_opening 29 = .ok (.iconst 0, 1) := by decide +kernel
theorem dX6_opening_30 : decode cX6_opening 30 = .ok (.ior, 1) := by decide +kernel
theorem dX6_opening_31 : decode cX6_opening 31 = .ok (.istore_n 1, 1) := by decide +kernel
theorem dX6_opening_32 : decode cX6_opening 32 = .ok (.iinc 2 1, 3) := by decide +kernel
theorem dX6_opening_35 : decode cX6_opening 35 = .ok (.goto (-31), 3) := by decide +kernel
theorem dX6_opening_38 : decode cX6_opening 38 = .ok (.iload_n 1, 1) := by decide +kernel
theorem dX6_opening_39 : decode cX6_opening 39 = .ok (.ireturn, 1) := by decide +kernel
theorem dX6_fromOf_0 : decode cX6_fromOf 0 = .ok (.aload_n 0, 1) := by decide +kernel
theorem dX6_fromOf_1 : decode cX6_fromOf 1 = .ok (.getfield 9, 3) := by decide +kernel
theorem dX6_fromOf_4 : decode cX6_fromOf 4 = .ok (.iload_n 1, 1) := by decide +kernel
theorem dX6_fromOf_5 : decode cX6_fromOf 5 = .ok (.iconst 5, 1) := by decide +kernel
theorem dX6_fromOf_6 : decode cX6_fromOf 6 = .ok (.invokestatic 45, 3) := by decide +kernel
theorem dX6_fromOf_9 : decode cX6_fromOf 9 = .ok (.iaload, 1) := by decide +kernel
theorem dX6_fromOf_10 : decode cX6_fromOf 10 = .ok (.ireturn, 1) := by decide +kernel
theorem dX6_isHeir_0 : decode cX6_isHeir 0 = .ok (.iload_n 1, 1) := by decide +kernel
theorem dX6_isHeir_1 : decode cX6_isHeir 1 = .ok (.istore_n 3, 1) := by decide +kernel
theorem dX6_isHeir_2 : decode cX6_isHeir 2 = .ok (.iload_n 3, 1) := by decide +kernel
theorem dX6_isHeir_3 : decode cX6_isHeir 3 = .ok (.ifCond .lt 17, 3) := by decide +kernel
theorem dX6_isHeir_6 : decode cX6_isHeir 6 = .ok (.iload_n 3, 1) := by decide +kernel
theorem dX6_isHeir_7 : decode cX6_isHeir 7 = .ok (.iload_n 2, 1) := by decide +kernel
theorem dX6_isHeir_8 : decode cX6_isHeir 8 = .ok (.if_icmp .eq 12, 3) := by decide +kernel
theorem dX6_isHeir_11 : decode cX6_isHeir 11 = .ok (.aload_n 0, 1) := by decide +kernel
theorem dX6_isHeir_12 : decode cX6_isHeir 12 = .ok (.iload_n 3, 1) := by decide +kernel
theorem dX6_isHeir_13 : decode cX6_isHeir 13 = .ok (.invokevirtual 154, 3) := by decide +kernel
theorem dX6_isHeir_16 : decode cX6_isHeir 16 = .ok (.istore_n 3, 1) := by decide +kernel
theorem dX6_isHeir_17 : decode cX6_isHeir 17 = .ok (.goto (-15), 3) := by decide +kernel
theorem dX6_isHeir_20 : decode cX6_isHeir 20 = .ok (.iload_n 3, 1) := by decide +kernel
theorem dX6_isHeir_21 : decode cX6_isHeir 21 = .ok (.ifCond .lt 7, 3) := by decide +kernel
theorem dX6_isHeir_24 : decode cX6_isHeir 24 = .ok (.iconst 1, 1) := by decide +kernel
theorem dX6_isHeir_25 : decode cX6_isHeir 25 = .ok (.goto 4, 3) := by decide +kernel
theorem dX6_isHeir_28 : decode cX6_isHeir 28 = .ok (.iconst 0, 1) := by decide +kernel
theorem dX6_isHeir_29 : decode cX6_isHeir 29 = .ok (.ireturn, 1) := by decide +kernel
theorem dX6_heirs_0 : decode cX6_heirs 0 = .ok (.iconst 0, 1) := by decide +kernel
theorem dX6_heirs_1 : decode cX6_heirs 1 = .ok (.istore_n 2, 1) := by decide +kernel
theorem dX6_heirs_2 : decode cX6_heirs 2 = .ok (.iconst 0, 1) := by decide +kernel
theorem dX6_heirs_3 : decode cX6_heirs 3 = .ok (.istore_n 3, 1) := by decide +kernel
theorem dX6_heirs_4 : decode cX6_heirs 4 = .ok (.iload_n 3, 1) := by decide +kernel
theorem dX6_heirs_5 : decode cX6_heirs 5 = .ok (.aload_n 0, 1) := by decide +kernel
theorem dX6_heirs_6 : decode cX6_heirs 6 = .ok (.getfield 9, 3) := by decide +kernel
theorem dX6_heirs_9 : decode cX6_heirs 9 = .ok (.iconst 0, 1) := by decide +kernel
theorem dX6_heirs_10 : decode cX6_heirs 10 = .ok (.iaload, 1) := by decide +kernel
theorem dX6_heirs_11 : decode cX6_heirs 11 = .ok (.if_icmp .ge 28, 3) := by decide +kernel
theorem dX6_heirs_14 : decode cX6_heirs 14 = .ok (.iload_n 2, 1) := by decide +kernel
theorem dX6_heirs_15 : decode cX6_heirs 15 = .ok (.aload_n 0, 1) := by decide +kernel
theorem dX6_heirs_16 : decode cX6_heirs 16 = .ok (.iload_n 3, 1) := by decide +kernel
theorem dX6_heirs_17 : decode cX6_heirs 17 = .ok (.iload_n 1, 1) := by decide +kernel
theorem dX6_heirs_18 : decode cX6_heirs 18 = .ok (.invokevirtual 157, 3) := by decide +kernel
theorem dX6_heirs_21 : decode cX6_heirs 21 = .ok (.ifCond .eq 9, 3) := by decide +kernel
theorem dX6_heirs_24 : decode cX6_heirs 24 = .ok (.iconst 1, 1) := by decide +kernel
theorem dX6_heirs_25 : decode cX6_heirs 25 = .ok (.iload_n 3, 1) := by decide +kernel
theorem dX6_heirs_26 : decode cX6_heirs 26 = .ok (.ishl, 1) := by decide +kernel
theorem dX6_heirs_27 : decode cX6_heirs 27 = .ok (.goto 4, 3) := by decide +kernel
theorem dX6_heirs_30 : decode cX6_heirs 30 = .ok (.iconst 0, 1) := by decide +kernel
theorem dX6_heirs_31 : decode cX6_heirs 31 = .ok (.ior, 1) := by decide +kernel
theorem dX6_heirs_32 : decode cX6_heirs 32 = .ok (.istore_n 2, 1) := by decide +kernel
theorem dX6_heirs_33 : decode cX6_heirs 33 = .ok (.iinc 3 1, 3) := by decide +kernel
theorem dX6_heirs_36 : decode cX6_heirs 36 = .ok (.goto (-32), 3) := by decide +kernel
theorem dX6_heirs_39 : decode cX6_heirs 39 = .ok (.iload_n 2, 1) := by decide +kernel
theorem dX6_heirs_40 : decode cX6_heirs 40 = .ok (.ireturn, 1) := by decide +kernel
theorem dX6_depthOf_0 : decode cX6_depthOf 0 = .ok (.iconst 0, 1) := by decide +kernel
theorem dX6_depthOf_1 : decode cX6_depthOf 1 = .ok (.istore_n 2, 1) := by decide +kernel
theorem dX6_depthOf_2 : decode cX6_depthOf 2 = .ok (.aload_n 0, 1) := by decide +kernel
theorem dX6_depthOf_3 : decode cX6_depthOf 3 = .ok (.iload_n 1, 1) := by decide +kernel
theorem dX6_depthOf_4 : decode cX6_depthOf 4 = .ok (.invokevirtual 154, 3) := by decide +kernel
theorem dX6_depthOf_7 : decode cX6_depthOf 7 = .ok (.istore_n 3, 1) := by decide +kernel
theorem dX6_depthOf_8 : decode cX6_depthOf 8 = .ok (.iload_n 3, 1) := by decide +kernel
theorem dX6_depthOf_9 : decode cX6_depthOf 9 = .ok (.ifCond .lt 15, 3) := by decide +kernel
theorem dX6_depthOf_12 : decode cX6_depthOf 12 = .ok (.iinc 2 1, 3) := by decide +kernel
theorem dX6_depthOf_15 : decode cX6_depthOf 15 = .ok (.aload_n 0, 1) := by decide +kernel
theorem dX6_depthOf_16 : decode cX6_depthOf 16 = .ok (.iload_n 3, 1) := by decide +kernel
theorem dX6_depthOf_17 : decode cX6_depthOf 17 = .ok (.invokevirtual 154, 3) := by decide +kernel
theorem dX6_depthOf_20 : decode cX6_depthOf 20 = .ok (.istore_n 3, 1) := by decide +kernel
theorem dX6_depthOf_21 : decode cX6_depthOf 21 = .ok (.goto (-13), 3) := by decide +kernel
theorem dX6_depthOf_24 : decode cX6_depthOf 24 = .ok (.iload_n 2, 1) := by decide +kernel
theorem dX6_depthOf_25 : decode cX6_depthOf 25 = .ok (.ireturn, 1) := by decide +kernel
theorem dX6_family_0 : decode cX6_family 0 = .ok (.aload_n 0, 1) := by decide +kernel
theorem dX6_family_1 : decode cX6_family 1 = .ok (.iload_n 1, 1) := by decide +kernel
theorem dX6_family_2 : decode cX6_family 2 = .ok (.invokevirtual 120, 3) := by decide +kernel
theorem dX6_family_5 : decode cX6_family 5 = .ok (.ifCond .ne 9, 3) := by decide +kernel
theorem dX6_family_8 : decode cX6_family 8 = .ok (.aload_n 0, 1) := by decide +kernel
theorem dX6_family_9 : decode cX6_family 9 = .ok (.iconst (-1), 1) := by decide +kernel
theorem dX6_family_10 : decode cX6_family 10 = .ok (.invokevirtual 35, 3) := by decide +kernel
theorem dX6_family_13 : decode cX6_family 13 = .ok (.ireturn, 1) := by decide +kernel
theorem dX6_family_14 : decode cX6_family 14 = .ok (.iload_n 2, 1) := by decide +kernel
theorem dX6_family_15 : decode cX6_family 15 = .ok (.iconst 0, 1) := by decide +kernel
theorem dX6_family_16 : decode cX6_family 16 = .ok (.iconst 3, 1) := by decide +kernel
theorem dX6_family_17 : decode cX6_family 17 = .ok (.invokestatic 41, 3) := by decide +kernel
theorem dX6_family_20 : decode cX6_family 20 = .ok (.ifCond .ne 10, 3) := by decide +kernel
theorem dX6_family_23 : decode cX6_family 23 = .ok (.aload_n 0, 1) := by decide +kernel
theorem dX6_family_24 : decode cX6_family 24 = .ok (.bipush (-2), 2) := by decide +kernel
theorem dX6_family_26 : decode cX6_family 26 = .ok (.invokevirtual 35, 3) := by decide +kernel
theorem dX6_family_29 : decode cX6_family 29 = .ok (.ireturn, 1) := by decide +kernel
theorem dX6_family_30 : decode cX6_family 30 = .ok (.iload_n 2, 1) := by decide +kernel
theorem dX6_family_31 : decode cX6_family 31 = .ok (.ifCond .ne 9, 3) := by decide +kernel
theorem dX6_family_34 : decode cX6_family 34 = .ok (.aload_n 0, 1) := by decide +kernel
theorem dX6_family_35 : decode cX6_family 35 = .ok (.iload_n 1, 1) := by decide +kernel
theorem dX6_family_36 : decode cX6_family 36 = .ok (.invokevirtual 160, 3) := by decide +kernel
theorem dX6_family_39 : decode cX6_family 39 = .ok (.ireturn, 1) := by decide +kernel
theorem dX6_family_40 : decode cX6_family 40 = .ok (.iload_n 2, 1) := by decide +kernel
theorem dX6_family_41 : decode cX6_family 41 = .ok (.iconst 3, 1) := by decide +kernel
theorem dX6_family_42 : decode cX6_family 42 = .ok (.if_icmp .ne 9, 3) := by decide +kernel
theorem dX6_family_45 : decode cX6_family 45 = .ok (.aload_n 0, 1) := by decide +kernel
theorem dX6_family_46 : decode cX6_family 46 = .ok (.iload_n 1, 1) := by decide +kernel
theorem dX6_family_47 : decode cX6_family 47 = .ok (.invokevirtual 163, 3) := by decide +kernel
theorem dX6_family_50 : decode cX6_family 50 = .ok (.ireturn, 1) := by decide +kernel
theorem dX6_family_51 : decode cX6_family 51 = .ok (.iload_n 1, 1) := by decide +kernel
theorem dX6_family_52 : decode cX6_family 52 = .ok (.istore_n 3, 1) := by decide +kernel
theorem dX6_family_53 : decode cX6_family 53 = .ok (.iconst 0, 1) := by decide +kernel
theorem dX6_family_54 : decode cX6_family 54 = .ok (.istore 4, 2) := by decide +kernel
theorem dX6_family_56 : decode cX6_family 56 = .ok (.aload_n 0, 1) := by decide +kernel
theorem dX6_family_57 : decode cX6_family 57 = .ok (.iload_n 3, 1) := by decide +kernel
theorem dX6_family_58 : decode cX6_family 58 = .ok (.invokevirtual 154, 3) := by decide +kernel
theorem dX6_family_61 : decode cX6_family 61 = .ok (.ifCond .lt 12, 3) := by decide +kernel
theorem dX6_family_64 : decode cX6_family 64 = .ok (.aload_n 0, 1) := by decide +kernel
theorem dX6_family_65 : decode cX6_family 65 = .ok (.iload_n 3, 1) := by decide +kernel
theorem dX6_family_66 : decode cX6_family 66 = .ok (.invokevirtual 154, 3) := by decide +kernel
theorem dX6_family_69 : decode cX6_family 69 = .ok (.istore_n 3, 1) := by decide +kernel
theorem dX6_family_70 : decode cX6_family 70 = .ok (.goto (-14), 3) := by decide +kernel
theorem dX6_family_73 : decode cX6_family 73 = .ok (.iconst 0, 1) := by decide +kernel
theorem dX6_family_74 : decode cX6_family 74 = .ok (.istore 5, 2) := by decide +kernel
theorem dX6_family_76 : decode cX6_family 76 = .ok (.iload 5, 2) := by decide +kernel
theorem dX6_family_78 : decode cX6_family 78 = .ok (.aload_n 0, 1) := by decide +kernel
theorem dX6_family_79 : decode cX6_family 79 = .ok (.getfield 9, 3) := by decide +kernel
theorem dX6_family_82 : decode cX6_family 82 = .ok (.iconst 0, 1) := by decide +kernel
theorem dX6_family_83 : decode cX6_family 83 = .ok (.iaload, 1) := by decide +kernel
theorem dX6_family_84 : decode cX6_family 84 = .ok (.if_icmp .ge 29, 3) := by decide +kernel
theorem dX6_family_87 : decode cX6_family 87 = .ok (.iload 4, 2) := by decide +kernel
theorem dX6_family_89 : decode cX6_family 89 = .ok (.aload_n 0, 1) := by decide +kernel
theorem dX6_family_90 : decode cX6_family 90 = .ok (.iload 5, 2) := by decide +kernel
theorem dX6_family_92 : decode cX6_family 92 = .ok (.invokevirtual 154, 3) := by decide +kernel
theorem dX6_family_95 : decode cX6_family 95 = .ok (.iload_n 1, 1) := by decide +kernel
theorem dX6_family_96 : decode cX6_family 96 = .ok (.if_icmp .ne 7, 3) := by decide +kernel
theorem dX6_family_99 : decode cX6_family 99 = .ok (.iconst 1, 1) := by decide +kernel
theorem dX6_family_100 : decode cX6_family 100 = .ok (.goto 4, 3) := by decide +kernel
theorem dX6_family_103 : decode cX6_family 103 = .ok (.iconst 0, 1) := by decide +kernel
theorem dX6_family_104 : decode cX6_family 104 = .ok (.iadd, 1) := by decide +kernel
theorem dX6_family_105 : decode cX6_family 105 = .ok (.istore 4, 2) := by decide +kernel
theorem dX6_family_107 : decode cX6_family 107 = .ok (.iinc 5 1, 3) := by decide +kernel
theorem dX6_family_110 : decode cX6_family 110 = .ok (.goto (-34), 3) := by decide +kernel
theorem dX6_family_113 : decode cX6_family 113 = .ok (.iload_n 2, 1) := by decide +kernel
theorem dX6_family_114 : decode cX6_family 114 = .ok (.iconst 1, 1) := by decide +kernel
theorem dX6_family_115 : decode cX6_family 115 = .ok (.if_icmp .ne 7, 3) := by decide +kernel
theorem dX6_family_118 : decode cX6_family 118 = .ok (.iload_n 3, 1) := by decide +kernel
theorem dX6_family_119 : decode cX6_family 119 = .ok (.goto 5, 3) := by decide +kernel
theorem dX6_family_122 : decode cX6_family 122 = .ok (.iload 4, 2) := by decide +kernel
theorem dX6_family_124 : decode cX6_family 124 = .ok (.ireturn, 1) := by decide +kernel
theorem dX6_common_0 : decode cX6_common 0 = .ok (.aload_n 0, 1) := by decide +kernel
theorem dX6_common_1 : decode cX6_common 1 = .ok (.iload_n 1, 1) := by decide +kernel
theorem dX6_common_2 : decode cX6_common 2 = .ok (.invokevirtual 120, 3) := by decide +kernel
theorem dX6_common_5 : decode cX6_common 5 = .ok (.ifCond .eq 11, 3) := by decide +kernel
theorem dX6_common_8 : decode cX6_common 8 = .ok (.aload_n 0, 1) := by decide +kernel
theorem dX6_common_9 : decode cX6_common 9 = .ok (.iload_n 2, 1) := by decide +kernel
theorem dX6_common_10 : decode cX6_common 10 = .ok (.invokevirtual 120, 3) := by decide +kernel
theorem dX6_common_13 : decode cX6_common 13 = .ok (.ifCond .ne 9, 3) := by decide +kernel
theorem dX6_common_16 : decode cX6_common 16 = .ok (.aload_n 0, 1) := by decide +kernel
theorem dX6_common_17 : decode cX6_common 17 = .ok (.iconst (-1), 1) := by decide +kernel
theorem dX6_common_18 : decode cX6_common 18 = .ok (.invokevirtual 35, 3) := by decide +kernel
theorem dX6_common_21 : decode cX6_common 21 = .ok (.ireturn, 1) := by decide +kernel
theorem dX6_common_22 : decode cX6_common 22 = .ok (.iload_n 1, 1) := by decide +kernel
theorem dX6_common_23 : decode cX6_common 23 = .ok (.istore_n 3, 1) := by decide +kernel
theorem dX6_common_24 : decode cX6_common 24 = .ok (.iload_n 3, 1) := by decide +kernel
theorem dX6_common_25 : decode cX6_common 25 = .ok (.ifCond .lt 21, 3) := by decide +kernel
theorem dX6_common_28 : decode cX6_common 28 = .ok (.aload_n 0, 1) := by decide +kernel
theorem dX6_common_29 : decode cX6_common 29 = .ok (.iload_n 2, 1) := by decide +kernel
theorem dX6_common_30 : decode cX6_common 30 = .ok (.iload_n 3, 1) := by decide +kernel
theorem dX6_common_31 : decode cX6_common 31 = .ok (.invokevirtual 157, 3) := by decide +kernel
theorem dX6_common_34 : decode cX6_common 34 = .ok (.ifCond .ne 12, 3) := by decide +kernel
theorem dX6_common_37 : decode cX6_common 37 = .ok (.aload_n 0, 1) := by decide +kernel
theorem dX6_common_38 : decode cX6_common 38 = .ok (.iload_n 3, 1) := by decide +kernel
theorem dX6_common_39 : decode cX6_common 39 = .ok (.invokevirtual 154, 3) := by decide +kernel
theorem dX6_common_42 : decode cX6_common 42 = .ok (.istore_n 3, 1) := by decide +kernel
theorem dX6_common_43 : decode cX6_common 43 = .ok (.goto (-19), 3) := by decide +kernel
theorem dX6_common_46 : decode cX6_common 46 = .ok (.iload_n 3, 1) := by decide +kernel
theorem dX6_common_47 : decode cX6_common 47 = .ok (.ifCond .ge 8, 3) := by decide +kernel
theorem dX6_common_50 : decode cX6_common 50 = .ok (.bipush (-9), 2) := by decide +kernel
theorem dX6_common_52 : decode cX6_common 52 = .ok (.goto 4, 3) := by decide +kernel
theorem dX6_common_55 : decode cX6_common 55 = .ok (.iload_n 3, 1) := by decide +kernel
theorem dX6_common_56 : decode cX6_common 56 = .ok (.ireturn, 1) := by decide +kernel
theorem dX6_nearest_0 : decode cX6_nearest 0 = .ok (.bipush (-9), 2) := by decide +kernel
theorem dX6_nearest_2 : decode cX6_nearest 2 = .ok (.istore_n 1, 1) := by decide +kernel
theorem dX6_nearest_3 : decode cX6_nearest 3 = .ok (.iconst 0, 1) := by decide +kernel
theorem dX6_nearest_4 : decode cX6_nearest 4 = .ok (.istore_n 2, 1) := by decide +kernel
theorem dX6_nearest_5 : decode cX6_nearest 5 = .ok (.iload_n 2, 1) := by decide +kernel
theorem dX6_nearest_6 : decode cX6_nearest 6 = .ok (.aload_n 0, 1) := by decide +kernel
theorem dX6_nearest_7 : decode cX6_nearest 7 = .ok (.getfield 9, 3) := by decide +kernel
theorem dX6_nearest_10 : decode cX6_nearest 10 = .ok (.iconst 0, 1) := by decide +kernel
theorem dX6_nearest_11 : decode cX6_nearest 11 = .ok (.iaload, 1) := by decide +kernel
theorem dX6_nearest_12 : decode cX6_nearest 12 = .ok (.if_icmp .ge 36, 3) := by decide +kernel
theorem dX6_nearest_15 : decode cX6_nearest 15 = .ok (.aload_n 0, 1) := by decide +kernel
theorem dX6_nearest_16 : decode cX6_nearest 16 = .ok (.iload_n 2, 1) := by decide +kernel
theorem dX6_nearest_17 : decode cX6_nearest 17 = .ok (.invokevirtual 83, 3) := by decide +kernel
theorem dX6_nearest_20 : decode cX6_nearest 20 = .ok (.ifCond .ne 22, 3) := by decide +kernel
theorem dX6_nearest_23 : decode cX6_nearest 23 = .ok (.iload_n 1, 1) := by decide +kernel
theorem dX6_nearest_24 : decode cX6_nearest 24 = .ok (.ifCond .lt 16, 3) := by decide +kernel
theorem dX6_nearest_27 : decode cX6_nearest 27 = .ok (.aload_n 0, 1) := by decide +kernel
theorem dX6_nearest_28 : decode cX6_nearest 28 = .ok (.iload_n 2, 1) := by decide +kernel
theorem dX6_nearest_29 : decode cX6_nearest 29 = .ok (.invokevirtual 145, 3) := by decide +kernel
theorem dX6_nearest_32 : decode cX6_nearest 32 = .ok (.aload_n 0, 1) := by decide +kernel
theorem dX6_nearest_33 : decode cX6_nearest 33 = .ok (.iload_n 1, 1) := by decide +kernel
theorem dX6_nearest_34 : decode cX6_nearest 34 = .ok (.invokevirtual 145, 3) := by decide +kernel
theorem dX6_nearest_37 : decode cX6_nearest 37 = .ok (.if_icmp .ge 5, 3) := by decide +kernel
theorem dX6_nearest_40 : decode cX6_nearest 40 = .ok (.iload_n 2, 1) := by decide +kernel
theorem dX6_nearest_41 : decode cX6_nearest 41 = .ok (.istore_n 1, 1) := by decide +kernel
theorem dX6_nearest_42 : decode cX6_nearest 42 = .ok (.iinc 2 1, 3) := by decide +kernel
theorem dX6_nearest_45 : decode cX6_nearest 45 = .ok (.goto (-40), 3) := by decide +kernel
theorem dX6_nearest_48 : decode cX6_nearest 48 = .ok (.iload_n 1, 1) := by decide +kernel
theorem dX6_nearest_49 : decode cX6_nearest 49 = .ok (.ireturn, 1) := by decide +kernel
theorem dX6_next_0 : decode cX6_next 0 = .ok (.iload_n 1, 1) := by decide +kernel
theorem dX6_next_1 : decode cX6_next 1 = .ok (.iconst 0, 1) := by decide +kernel
theorem dX6_next_2 : decode cX6_next 2 = .ok (.iconst 1, 1) := by decide +kernel
theorem dX6_next_3 : decode cX6_next 3 = .ok (.invokestatic 41, 3) := by decide +kernel
theorem dX6_next_6 : decode cX6_next 6 = .ok (.ifCond .ne 10, 3) := by decide +kernel
theorem dX6_next_9 : decode cX6_next 9 = .ok (.aload_n 0, 1) := by decide +kernel
theorem dX6_next_10 : decode cX6_next 10 = .ok (.bipush (-2), 2) := by decide +kernel
theorem dX6_next_12 : decode cX6_next 12 = .ok (.invokevirtual 35, 3) := by decide +kernel
theorem dX6_next_15 : decode cX6_next 15 = .ok (.ireturn, 1) := by decide +kernel
theorem dX6_next_16 : decode cX6_next 16 = .ok (.bipush (-9), 2) := by decide +kernel
theorem dX6_next_18 : decode cX6_next 18 = .ok (.istore_n 2, 1) := by decide +kernel
theorem dX6_next_19 : decode cX6_next 19 = .ok (.ldc 34, 2) := by decide +kernel
theorem dX6_next_21 : decode cX6_next 21 = .ok (.istore_n 3, 1) := by decide +kernel
theorem dX6_next_22 : decode cX6_next 22 = .ok (.iconst 0, 1) := by decide +kernel
theorem dX6_next_23 : decode cX6_next 23 = .ok (.istore 4, 2) := by decide +kernel
theorem dX6_next_25 : decode cX6_next 25 = .ok (.iload 4, 2) := by decide +kernel
theorem dX6_next_27 : decode cX6_next 27 = .ok (.aload_n 0, 1) := by decide +kernel
theorem dX6_next_28 : decode cX6_next 28 = .ok (.getfield 9, 3) := by decide +kernel
theorem dX6_next_31 : decode cX6_next 31 = .ok (.iconst 0, 1) := by decide +kernel
theorem dX6_next_32 : decode cX6_next 32 = .ok (.iaload, 1) := by decide +kernel
theorem dX6_next_33 : decode cX6_next 33 = .ok (.if_icmp .ge 76, 3) := by decide +kernel
theorem dX6_next_36 : decode cX6_next 36 = .ok (.iconst 0, 1) := by decide +kernel
theorem dX6_next_37 : decode cX6_next 37 = .ok (.istore 5, 2) := by decide +kernel
theorem dX6_next_39 : decode cX6_next 39 = .ok (.iload 5, 2) := by decide +kernel
theorem dX6_next_41 : decode cX6_next 41 = .ok (.aload_n 0, 1) := by decide +kernel
theorem dX6_next_42 : decode cX6_next 42 = .ok (.getfield 9, 3) := by decide +kernel
theorem dX6_next_45 : decode cX6_next 45 = .ok (.iconst 1, 1) := by decide +kernel
theorem dX6_next_46 : decode cX6_next 46 = .ok (.iaload, 1) := by decide +kernel
theorem dX6_next_47 : decode cX6_next 47 = .ok (.if_icmp .ge 56, 3) := by decide +kernel
theorem dX6_next_50 : decode cX6_next 50 = .ok (.aload_n 0, 1) := by decide +kernel
theorem dX6_next_51 : decode cX6_next 51 = .ok (.iload 4, 2) := by decide +kernel
theorem dX6_next_53 : decode cX6_next 53 = .ok (.invokevirtual 76, 3) := by decide +kernel
theorem dX6_next_56 : decode cX6_next 56 = .ok (.aload_n 0, 1) := by decide +kernel
theorem dX6_next_57 : decode cX6_next 57 = .ok (.iload 5, 2) := by decide +kernel
theorem dX6_next_59 : decode cX6_next 59 = .ok (.iconst 0, 1) := by decide +kernel
theorem dX6_next_60 : decode cX6_next 60 = .ok (.invokevirtual 117, 3) := by decide +kernel
theorem dX6_next_63 : decode cX6_next 63 = .ok (.aload_n 0, 1) := by decide +kernel
theorem dX6_next_64 : decode cX6_next 64 = .ok (.iload 4, 2) := by decide +kernel
theorem dX6_next_66 : decode cX6_next 66 = .ok (.invokevirtual 83, 3) := by decide +kernel
theorem dX6_next_69 : decode cX6_next 69 = .ok (.ifCond .ne 28, 3) := by decide +kernel
theorem dX6_next_72 : decode cX6_next 72 = .ok (.aload_n 0, 1) := by decide +kernel
theorem dX6_next_73 : decode cX6_next 73 = .ok (.invokevirtual 80, 3) := by decide +kernel
theorem dX6_next_76 : decode cX6_next 76 = .ok (.iload_n 3, 1) := by decide +kernel
theorem dX6_next_77 : decode cX6_next 77 = .ok (.if_icmp .lt 6, 3) := by decide +kernel
theorem dX6_next_80 : decode cX6_next 80 = .ok (.goto 17, 3) := by decide +kernel
theorem dX6_next_83 : decode cX6_next 83 = .ok (.bipush 10, 2) := by decide +kernel
theorem dX6_next_85 : decode cX6_next 85 = .ok (.iload 4, 2) := by decide +kernel
theorem dX6_next_87 : decode cX6_next 87 = .ok (.imul, 1) := by decide +kernel
theorem dX6_next_88 : decode cX6_next 88 = .ok (.iload 5, 2) := by decide +kernel
theorem dX6_next_90 : decode cX6_next 90 = .ok (.iadd, 1) := by decide +kernel
theorem dX6_next_91 : decode cX6_next 91 = .ok (.istore_n 2, 1) := by decide +kernel
theorem dX6_next_92 : decode cX6_next 92 = .ok (.aload_n 0, 1) := by decide +kernel
theorem dX6_next_93 : decode cX6_next 93 = .ok (.invokevirtual 80, 3) := by decide +kernel
theorem dX6_next_96 : decode cX6_next 96 = .ok (.istore_n 3, 1) := by decide +kernel
theorem dX6_next_97 : decode cX6_next 97 = .ok (.iinc 5 1, 3) := by decide +kernel
theorem dX6_next_100 : decode cX6_next 100 = .ok (.goto (-61), 3) := by decide +kernel
theorem dX6_next_103 : decode cX6_next 103 = .ok (.iinc 4 1, 3) := by decide +kernel
theorem dX6_next_106 : decode cX6_next 106 = .ok (.goto (-81), 3) := by decide +kernel
theorem dX6_next_109 : decode cX6_next 109 = .ok (.iload_n 2, 1) := by decide +kernel
theorem dX6_next_110 : decode cX6_next 110 = .ok (.ifCond .lt 7, 3) := by decide +kernel
theorem dX6_next_113 : decode cX6_next 113 = .ok (.iload_n 1, 1) := by decide +kernel
theorem dX6_next_114 : decode cX6_next 114 = .ok (.ifCond .ne 7, 3) := by decide +kernel
theorem dX6_next_117 : decode cX6_next 117 = .ok (.iload_n 2, 1) := by decide +kernel
theorem dX6_next_118 : decode cX6_next 118 = .ok (.goto 4, 3) := by decide +kernel
theorem dX6_next_121 : decode cX6_next 121 = .ok (.iload_n 3, 1) := by decide +kernel
theorem dX6_next_122 : decode cX6_next 122 = .ok (.ireturn, 1) := by decide +kernel
theorem dX6_inRow_0 : decode cX6_inRow 0 = .ok (.aload_n 0, 1) := by decide +kernel
theorem dX6_inRow_1 : decode cX6_inRow 1 = .ok (.iload_n 1, 1) := by decide +kernel
theorem dX6_inRow_2 : decode cX6_inRow 2 = .ok (.invokevirtual 120, 3) := by decide +kernel
theorem dX6_inRow_5 : decode cX6_inRow 5 = .ok (.ifCond .eq 11, 3) := by decide +kernel
theorem dX6_inRow_8 : decode cX6_inRow 8 = .ok (.aload_n 0, 1) := by decide +kernel
theorem dX6_inRow_9 : decode cX6_inRow 9 = .ok (.iload_n 2, 1) := by decide +kernel
theorem dX6_inRow_10 : decode cX6_inRow 10 = .ok (.invokevirtual 123, 3) := by decide +kernel
theorem dX6_inRow_13 : decode cX6_inRow 13 = .ok (.ifCond .ne 9, 3) := by decide +kernel
theorem dX6_inRow_16 : decode cX6_inRow 16 = .ok (.aload_n 0, 1) := by decide +kernel
theorem dX6_inRow_17 : decode cX6_inRow 17 = .ok (.iconst (-1), 1) := by decide +kernel
theorem dX6_inRow_18 : decode cX6_inRow 18 = .ok (.invokevirtual 35, 3) := by decide +kernel
theorem dX6_inRow_21 : decode cX6_inRow 21 = .ok (.ireturn, 1) := by decide +kernel
theorem dX6_inRow_22 : decode cX6_inRow 22 = .ok (.iload_n 3, 1) := by decide +kernel
theorem dX6_inRow_23 : decode cX6_inRow 23 = .ok (.iconst 0, 1) := by decide +kernel
theorem dX6_inRow_24 : decode cX6_inRow 24 = .ok (.iconst 1, 1) := by decide +kernel
theorem dX6_inRow_25 : decode cX6_inRow 25 = .ok (.invokestatic 41, 3) := by decide +kernel
theorem dX6_inRow_28 : decode cX6_inRow 28 = .ok (.ifCond .ne 10, 3) := by decide +kernel
theorem dX6_inRow_31 : decode cX6_inRow 31 = .ok (.aload_n 0, 1) := by decide +kernel
theorem dX6_inRow_32 : decode cX6_inRow 32 = .ok (.bipush (-2), 2) := by decide +kernel
theorem dX6_inRow_34 : decode cX6_inRow 34 = .ok (.invokevirtual 35, 3) := by decide +kernel
theorem dX6_inRow_37 : decode cX6_inRow 37 = .ok (.ireturn, 1) := by decide +kernel
theorem dX6_inRow_38 : decode cX6_inRow 38 = .ok (.aload_n 0, 1) := by decide +kernel
theorem dX6_inRow_39 : decode cX6_inRow 39 = .ok (.iload_n 1, 1) := by decide +kernel
theorem dX6_inRow_40 : decode cX6_inRow 40 = .ok (.invokevirtual 76, 3) := by decide +kernel
theorem dX6_inRow_43 : decode cX6_inRow 43 = .ok (.iconst 0, 1) := by decide +kernel
theorem dX6_inRow_44 : decode cX6_inRow 44 = .ok (.istore 4, 2) := by decide +kernel
theorem dX6_inRow_46 : decode cX6_inRow 46 = .ok (.iload 4, 2) := by decide +kernel
theorem dX6_inRow_48 : decode cX6_inRow 48 = .ok (.bipush 30, 2) := by decide +kernel
theorem dX6_inRow_50 : decode cX6_inRow 50 = .ok (.if_icmp .ge 70, 3) := by decide +kernel
theorem dX6_inRow_53 : decode cX6_inRow 53 = .ok (.aload_n 0, 1) := by decide +kernel
theorem dX6_inRow_54 : decode cX6_inRow 54 = .ok (.iload_n 2, 1) := by decide +kernel
theorem dX6_inRow_55 : decode cX6_inRow 55 = .ok (.iconst 0, 1) := by decide +kernel
theorem dX6_inRow_56 : decode cX6_inRow 56 = .ok (.invokevirtual 117, 3) := by decide +kernel
theorem dX6_inRow_59 : decode cX6_inRow 59 = .ok (.iconst 0, 1) := by decide +kernel
theorem dX6_inRow_60 : decode cX6_inRow 60 = .ok (.istore 5, 2) := by decide +kernel
theorem dX6_inRow_62 : decode cX6_inRow 62 = .ok (.iload 5, 2) := by decide +kernel
theorem dX6_inRow_64 : decode cX6_inRow 64 = .ok (.iconst 5, 1) := by decide +kernel
theorem dX6_inRow_65 : decode cX6_inRow 65 = .ok (.if_icmp .ge 49, 3) := by decide +kernel
theorem dX6_inRow_68 : decode cX6_inRow 68 = .ok (.aload_n 0, 1) := by decide +kernel
theorem dX6_inRow_69 : decode cX6_inRow 69 = .ok (.getfield 28, 3) := by decide +kernel
theorem dX6_inRow_72 : decode cX6_inRow 72 = .ok (.iload 5, 2) := by decide +kernel
theorem dX6_inRow_74 : decode cX6_inRow 74 = .ok (.iaload, 1) := by decide +kernel
theorem dX6_inRow_75 : decode cX6_inRow 75 = .ok (.aload_n 0, 1) := by decide +kernel
theorem dX6_inRow_76 : decode cX6_inRow 76 = .ok (.getfield 9, 3) := by decide +kernel
theorem dX6_inRow_79 : decode cX6_inRow 79 = .ok (.iconst 4, 1) := by decide +kernel
theorem dX6_inRow_80 : decode cX6_inRow 80 = .ok (.iload 5, 2) := by decide +kernel
theorem dX6_inRow_82 : decode cX6_inRow 82 = .ok (.iadd, 1) := by decide +kernel
theorem dX6_inRow_83 : decode cX6_inRow 83 = .ok (.iaload, 1) := by decide +kernel
theorem dX6_inRow_84 : decode cX6_inRow 84 = .ok (.invokestatic 69, 3) := by decide +kernel
theorem dX6_inRow_87 : decode cX6_inRow 87 = .ok (.aload_n 0, 1) := by decide +kernel
theorem dX6_inRow_88 : decode cX6_inRow 88 = .ok (.getfield 9, 3) := by decide +kernel
theorem dX6_inRow_91 : decode cX6_inRow 91 = .ok (.iconst 3, 1) := by decide +kernel
theorem dX6_inRow_92 : decode cX6_inRow 92 = .ok (.iaload, 1) := by decide +kernel
theorem dX6_inRow_93 : decode cX6_inRow 93 = .ok (.if_icmp .le 15, 3) := by decide +kernel
theorem dX6_inRow_96 : decode cX6_inRow 96 = .ok (.iload_n 3, 1) := by decide +kernel
theorem dX6_inRow_97 : decode cX6_inRow 97 = .ok (.ifCond .ne 8, 3) := by decide +kernel
theorem dX6_inRow_100 : decode cX6_inRow 100 = .ok (.iload 4, 2) := by decide +kernel
theorem dX6_inRow_102 : decode cX6_inRow 102 = .ok (.goto 5, 3) := by decide +kernel
theorem dX6_inRow_105 : decode cX6_inRow 105 = .ok (.iload 5, 2) := by decide +kernel
theorem dX6_inRow_107 : decode cX6_inRow 107 = .ok (.ireturn, 1) := by decide +kernel
theorem dX6_inRow_108 : decode cX6_inRow 108 = .ok (.iinc 5 1, 3) := by decide +kernel
theorem dX6_inRow_111 : decode cX6_inRow 111 = .ok (.goto (-49), 3) := by decide +kernel
theorem dX6_inRow_114 : decode cX6_inRow 114 = .ok (.iinc 4 1, 3) := by decide +kernel
theorem dX6_inRow_117 : decode cX6_inRow 117 = .ok (.goto (-71), 3) := by decide +kernel
theorem dX6_inRow_120 : decode cX6_inRow 120 = .ok (.iload_n 3, 1) := by decide +kernel
theorem dX6_inRow_121 : decode cX6_inRow 121 = .ok (.ifCond .ne 8, 3) := by decide +kernel
theorem dX6_inRow_124 : decode cX6_inRow 124 = .ok (.bipush 30, 2) := by decide +kernel
theorem dX6_inRow_126 : decode cX6_inRow 126 = .ok (.goto 5, 3) := by decide +kernel
theorem dX6_inRow_129 : decode cX6_inRow 129 = .ok (.bipush (-9), 2) := by decide +kernel
theorem dX6_inRow_131 : decode cX6_inRow 131 = .ok (.ireturn, 1) := by decide +kernel
theorem dX6_lasts_0 : decode cX6_lasts 0 = .ok (.aload_n 0, 1) := by decide +kernel
theorem dX6_lasts_1 : decode cX6_lasts 1 = .ok (.iload_n 1, 1) := by decide +kernel
theorem dX6_lasts_2 : decode cX6_lasts 2 = .ok (.invokevirtual 120, 3) := by decide +kernel
theorem dX6_lasts_5 : decode cX6_lasts 5 = .ok (.ifCond .ne 9, 3) := by decide +kernel
theorem dX6_lasts_8 : decode cX6_lasts 8 = .ok (.aload_n 0, 1) := by decide +kernel
theorem dX6_lasts_9 : decode cX6_lasts 9 = .ok (.iconst (-1), 1) := by decide +kernel
theorem dX6_lasts_10 : decode cX6_lasts 10 = .ok (.invokevirtual 35, 3) := by decide +kernel
theorem dX6_lasts_13 : decode cX6_lasts 13 = .ok (.ireturn, 1) := by decide +kernel
theorem dX6_lasts_14 : decode cX6_lasts 14 = .ok (.iconst 0, 1) := by decide +kernel
theorem dX6_lasts_15 : decode cX6_lasts 15 = .ok (.istore_n 2, 1) := by decide +kernel
theorem dX6_lasts_16 : decode cX6_lasts 16 = .ok (.iload_n 2, 1) := by decide +kernel
theorem dX6_lasts_17 : decode cX6_lasts 17 = .ok (.sipush 999, 3) := by decide +kernel
theorem dX6_lasts_20 : decode cX6_lasts 20 = .ok (.if_icmp .gt 102, 3) := by decide +kernel
theorem dX6_lasts_23 : decode cX6_lasts 23 = .ok (.aload_n 0, 1) := by decide +kernel
theorem dX6_lasts_24 : decode cX6_lasts 24 = .ok (.iload_n 1, 1) := by decide +kernel
theorem dX6_lasts_25 : decode cX6_lasts 25 = .ok (.invokevirtual 83, 3) := by decide +kernel
theorem dX6_lasts_28 : decode cX6_lasts 28 = .ok (.ifCond .ne 7, 3) := by decide +kernel
theorem dX6_lasts_31 : decode cX6_lasts 31 = .ok (.iconst 1, 1) := by decide +kernel
theorem dX6_lasts_32 : decode cX6_lasts 32 = .ok (.goto 4, 3) := by decide +kernel
theorem dX6_lasts_35 : decode cX6_lasts 35 = .ok (.iconst 0, 1) := by decide +kernel
theorem dX6_lasts_36 : decode cX6_lasts 36 = .ok (.istore_n 3, 1) := by decide +kernel
theorem dX6_lasts_37 : decode cX6_lasts 37 = .ok (.iconst 0, 1) := by decide +kernel
theorem dX6_lasts_38 : decode cX6_lasts 38 = .ok (.istore 4, 2) := by decide +kernel
theorem dX6_lasts_40 : decode cX6_lasts 40 = .ok (.iload 4, 2) := by decide +kernel
theorem dX6_lasts_42 : decode cX6_lasts 42 = .ok (.iconst 5, 1) := by decide +kernel
theorem dX6_lasts_43 : decode cX6_lasts 43 = .ok (.if_icmp .ge 67, 3) := by decide +kernel
theorem dX6_lasts_46 : decode cX6_lasts 46 = .ok (.iload_n 3, 1) := by decide +kernel
theorem dX6_lasts_47 : decode cX6_lasts 47 = .ok (.iconst 0, 1) := by decide +kernel
theorem dX6_lasts_48 : decode cX6_lasts 48 = .ok (.aload_n 0, 1) := by decide +kernel
theorem dX6_lasts_49 : decode cX6_lasts 49 = .ok (.getfield 9, 3) := by decide +kernel
theorem dX6_lasts_52 : decode cX6_lasts 52 = .ok (.iload_n 1, 1) := by decide +kernel
theorem dX6_lasts_53 : decode cX6_lasts 53 = .ok (.iload 4, 2) := by decide +kernel
theorem dX6_lasts_55 : decode cX6_lasts 55 = .ok (.invokestatic 45, 3) := by decide +kernel
theorem dX6_lasts_58 : decode cX6_lasts 58 = .ok (.iaload, 1) := by decide +kernel
theorem dX6_lasts_59 : decode cX6_lasts 59 = .ok (.iload_n 2, 1) := by decide +kernel
theorem dX6_lasts_60 : decode cX6_lasts 60 = .ok (.bipush 10, 2) := by decide +kernel
theorem dX6_lasts_62 : decode cX6_lasts 62 = .ok (.idiv, 1) := by decide +kernel
theorem dX6_lasts_63 : decode cX6_lasts 63 = .ok (.isub, 1) := by decide +kernel
theorem dX6_lasts_64 : decode cX6_lasts 64 = .ok (.invokestatic 52, 3) := by decide +kernel
theorem dX6_lasts_67 : decode cX6_lasts 67 = .ok (.iconst 0, 1) := by decide +kernel
theorem dX6_lasts_68 : decode cX6_lasts 68 = .ok (.aload_n 0, 1) := by decide +kernel
theorem dX6_lasts_69 : decode cX6_lasts 69 = .ok (.getfield 9, 3) := by decide +kernel
theorem dX6_lasts_72 : decode cX6_lasts 72 = .ok (.iconst 4, 1) := by decide +kernel
theorem dX6_lasts_73 : decode cX6_lasts 73 = .ok (.iload 4, 2) := by decide +kernel
theorem dX6_lasts_75 : decode cX6_lasts 75 = .ok (.iadd, 1) := by decide +kernel
theorem dX6_lasts_76 : decode cX6_lasts 76 = .ok (.iaload, 1) := by decide +kernel
theorem dX6_lasts_77 : decode cX6_lasts 77 = .ok (.iload_n 2, 1) := by decide +kernel
theorem dX6_lasts_78 : decode cX6_lasts 78 = .ok (.bipush 20, 2) := by decide +kernel
theorem dX6_lasts_80 : decode cX6_lasts 80 = .ok (.idiv, 1) := by decide +kernel
theorem dX6_lasts_81 : decode cX6_lasts 81 = .ok (.isub, 1) := by decide +kernel
theorem dX6_lasts_82 : decode cX6_lasts 82 = .ok (.invokestatic 52, 3) := by decide +kernel
theorem dX6_lasts_85 : decode cX6_lasts 85 = .ok (.invokestatic 69, 3) := by decide +kernel
theorem dX6_lasts_88 : decode cX6_lasts 88 = .ok (.aload_n 0, 1) := by decide +kernel
theorem dX6_lasts_89 : decode cX6_lasts 89 = .ok (.getfield 9, 3) := by decide +kernel
theorem dX6_lasts_92 : decode cX6_lasts 92 = .ok (.iconst 3, 1) := by decide +kernel
theorem dX6_lasts_93 : decode cX6_lasts 93 = .ok (.iaload, 1) := by decide +kernel
theorem dX6_lasts_94 : decode cX6_lasts 94 = .ok (.if_icmp .gt 7, 3) := by decide +kernel
theorem dX6_lasts_97 : decode cX6_lasts 97 = .ok (.iconst 1, 1) := by decide +kernel
theorem dX6_lasts_98 : decode cX6_lasts 98 = .ok (.goto 4, 3) := by decide +kernel
theorem dX6_lasts_101 : decode cX6_lasts 101 = .ok (.iconst 0, 1) := by decide +kernel
theorem dX6_lasts_102 : decode cX6_lasts 102 = .ok (.iand, 1) := by decide +kernel
theorem dX6_lasts_103 : decode cX6_lasts 103 = .ok (.istore_n 3, 1) := by decide +kernel
theorem dX6_lasts_104 : decode cX6_lasts 104 = .ok (.iinc 4 1, 3) := by decide +kernel
theorem dX6_lasts_107 : decode cX6_lasts 107 = .ok (.goto (-67), 3) := by decide +kernel
theorem dX6_lasts_110 : decode cX6_lasts 110 = .ok (.iload_n 3, 1) := by decide +kernel
theorem dX6_lasts_111 : decode cX6_lasts 111 = .ok (.ifCond .ne 5, 3) := by decide +kernel
theorem dX6_lasts_114 : decode cX6_lasts 114 = .ok (.iload_n 2, 1) := by decide +kernel
theorem dX6_lasts_115 : decode cX6_lasts 115 = .ok (.ireturn, 1) := by decide +kernel
theorem dX6_lasts_116 : decode cX6_lasts 116 = .ok (.iinc 2 1, 3) := by decide +kernel
theorem dX6_lasts_119 : decode cX6_lasts 119 = .ok (.goto (-103), 3) := by decide +kernel
theorem dX6_lasts_122 : decode cX6_lasts 122 = .ok (.bipush (-9), 2) := by decide +kernel
theorem dX6_lasts_124 : decode cX6_lasts 124 = .ok (.ireturn, 1) := by decide +kernel
theorem dX6_fit_0 : decode cX6_fit 0 = .ok (.aload_n 0, 1) := by decide +kernel
theorem dX6_fit_1 : decode cX6_fit 1 = .ok (.iload_n 1, 1) := by decide +kernel
theorem dX6_fit_2 : decode cX6_fit 2 = .ok (.invokevirtual 120, 3) := by decide +kernel
theorem dX6_fit_5 : decode cX6_fit 5 = .ok (.ifCond .ne 9, 3) := by decide +kernel
theorem dX6_fit_8 : decode cX6_fit 8 = .ok (.aload_n 0, 1) := by decide +kernel
theorem dX6_fit_9 : decode cX6_fit 9 = .ok (.iconst (-1), 1) := by decide +kernel
theorem dX6_fit_10 : decode cX6_fit 10 = .ok (.invokevirtual 35, 3) := by decide +kernel
theorem dX6_fit_13 : decode cX6_fit 13 = .ok (.ireturn, 1) := by decide +kernel
theorem dX6_fit_14 : decode cX6_fit 14 = .ok (.aload_n 0, 1) := by decide +kernel
theorem dX6_fit_15 : decode cX6_fit 15 = .ok (.iload_n 1, 1) := by decide +kernel
theorem dX6_fit_16 : decode cX6_fit 16 = .ok (.invokevirtual 76, 3) := by decide +kernel
theorem dX6_fit_19 : decode cX6_fit 19 = .ok (.aload_n 0, 1) := by decide +kernel
theorem dX6_fit_20 : decode cX6_fit 20 = .ok (.invokevirtual 72, 3) := by decide +kernel
theorem dX6_fit_23 : decode cX6_fit 23 = .ok (.ireturn, 1) := by decide +kernel
theorem dX6_anewOf_0 : decode cX6_anewOf 0 = .ok (.iconst 0, 1) := by decide +kernel
theorem dX6_anewOf_1 : decode cX6_anewOf 1 = .ok (.istore_n 2, 1) := by decide +kernel
theorem dX6_anewOf_2 : decode cX6_anewOf 2 = .ok (.iconst (-1), 1) := by decide +kernel
theorem dX6_anewOf_3 : decode cX6_anewOf 3 = .ok (.istore_n 3, 1) := by decide +kernel
theorem dX6_anewOf_4 : decode cX6_anewOf 4 = .ok (.iconst 0, 1) := by decide +kernel
theorem dX6_anewOf_5 : decode cX6_anewOf 5 = .ok (.istore 4, 2) := by decide +kernel
theorem dX6_anewOf_7 : decode cX6_anewOf 7 = .ok (.iload 4, 2) := by decide +kernel
theorem dX6_anewOf_9 : decode cX6_anewOf 9 = .ok (.bipush 99, 2) := by decide +kernel
theorem dX6_anewOf_11 : decode cX6_anewOf 11 = .ok (.if_icmp .gt 91, 3) := by decide +kernel
theorem dX6_anewOf_14 : decode cX6_anewOf 14 = .ok (.iconst 0, 1) := by decide +kernel
theorem dX6_anewOf_15 : decode cX6_anewOf 15 = .ok (.istore 5, 2) := by decide +kernel
theorem dX6_anewOf_17 : decode cX6_anewOf 17 = .ok (.iconst 0, 1) := by decide +kernel
theorem dX6_anewOf_18 : decode cX6_anewOf 18 = .ok (.istore 6, 2) := by decide +kernel
theorem dX6_anewOf_20 : decode cX6_anewOf 20 = .ok (.iload 6, 2) := by decide +kernel
theorem dX6_anewOf_22 : decode cX6_anewOf 22 = .ok (.aload_n 0, 1) := by decide +kernel
theorem dX6_anewOf_23 : decode cX6_anewOf 23 = .ok (.getfield 9, 3) := by decide +kernel
theorem dX6_anewOf_26 : decode cX6_anewOf 26 = .ok (.iconst 0, 1) := by decide +kernel
theorem dX6_anewOf_27 : decode cX6_anewOf 27 = .ok (.iaload, 1) := by decide +kernel
theorem dX6_anewOf_28 : decode cX6_anewOf 28 = .ok (.if_icmp .ge 53, 3) := by decide +kernel
theorem dX6_anewOf_31 : decode cX6_anewOf 31 = .ok (.iload 5, 2) := by decide +kernel
theorem dX6_anewOf_33 : decode cX6_anewOf 33 = .ok (.aload_n 0, 1) := by decide +kernel
theorem dX6_anewOf_34 : decode cX6_anewOf 34 = .ok (.iload 6, 2) := by decide +kernel
theorem dX6_anewOf_36 : decode cX6_anewOf 36 = .ok (.invokevirtual 83, 3) := by decide +kernel
theorem dX6_anewOf_39 : decode cX6_anewOf 39 = .ok (.ifCond .ne 32, 3) := by decide +kernel
theorem dX6_anewOf_42 : decode cX6_anewOf 42 = .ok (.iload 4, 2) := by decide +kernel
theorem dX6_anewOf_44 : decode cX6_anewOf 44 = .ok (.aload_n 0, 1) := by decide +kernel
theorem dX6_anewOf_45 : decode cX6_anewOf 45 = .ok (.getfield 9, 3) := by decide +kernel
theorem dX6_anewOf_48 : decode cX6_anewOf 48 = .ok (.iload 6, 2) := by decide +kernel
theorem dX6_anewOf_50 : decode cX6_anewOf 50 = .ok (.iload_n 1, 1) := by decide +kernel
theorem dX6_anewOf_51 : decode cX6_anewOf 51 = .ok (.invokestatic 45, 3) := by decide +kernel
theorem dX6_anewOf_54 : decode cX6_anewOf 54 = .ok (.iaload, 1) := by decide +kernel
theorem dX6_anewOf_55 : decode cX6_anewOf 55 = .ok (.invokestatic 69, 3) := by decide +kernel
theorem dX6_anewOf_58 : decode cX6_anewOf 58 = .ok (.aload_n 0, 1) := by decide +kernel
theorem dX6_anewOf_59 : decode cX6_anewOf 59 = .ok (.getfield 9, 3) := by decide +kernel
theorem dX6_anewOf_62 : decode cX6_anewOf 62 = .ok (.iconst 3, 1) := by decide +kernel
theorem dX6_anewOf_63 : decode cX6_anewOf 63 = .ok (.iaload, 1) := by decide +kernel
theorem dX6_anewOf_64 : decode cX6_anewOf 64 = .ok (.if_icmp .gt 7, 3) := by decide +kernel
theorem dX6_anewOf_67 : decode cX6_anewOf 67 = .ok (.iconst 1, 1) := by decide +kernel
theorem dX6_anewOf_68 : decode cX6_anewOf 68 = .ok (.goto 4, 3) := by decide +kernel
theorem dX6_anewOf_71 : decode cX6_anewOf 71 = .ok (.iconst 0, 1) := by decide +kernel
theorem dX6_anewOf_72 : decode cX6_anewOf 72 = .ok (.iadd, 1) := by decide +kernel
theorem dX6_anewOf_73 : decode cX6_anewOf 73 = .ok (.istore 5, 2) := by decide +kernel
theorem dX6_anewOf_75 : decode cX6_anewOf 75 = .ok (.iinc 6 1, 3) := by decide +kernel
theorem dX6_anewOf_78 : decode cX6_anewOf 78 = .ok (.goto (-58), 3) := by decide +kernel
theorem dX6_anewOf_81 : decode cX6_anewOf 81 = .ok (.iload 5, 2) := by decide +kernel
theorem dX6_anewOf_83 : decode cX6_anewOf 83 = .ok (.iload_n 3, 1) := by decide +kernel
theorem dX6_anewOf_84 : decode cX6_anewOf 84 = .ok (.if_icmp .gt 6, 3) := by decide +kernel
theorem dX6_anewOf_87 : decode cX6_anewOf 87 = .ok (.goto 9, 3) := by decide +kernel
theorem dX6_anewOf_90 : decode cX6_anewOf 90 = .ok (.iload 4, 2) := by decide +kernel
theorem dX6_anewOf_92 : decode cX6_anewOf 92 = .ok (.istore_n 2, 1) := by decide +kernel
theorem dX6_anewOf_93 : decode cX6_anewOf 93 = .ok (.iload 5, 2) := by decide +kernel
theorem dX6_anewOf_95 : decode cX6_anewOf 95 = .ok (.istore_n 3, 1) := by decide +kernel
theorem dX6_anewOf_96 : decode cX6_anewOf 96 = .ok (.iinc 4 1, 3) := by decide +kernel
theorem dX6_anewOf_99 : decode cX6_anewOf 99 = .ok (.goto (-92), 3) := by decide +kernel
theorem dX6_anewOf_102 : decode cX6_anewOf 102 = .ok (.iload_n 2, 1) := by decide +kernel
theorem dX6_anewOf_103 : decode cX6_anewOf 103 = .ok (.ireturn, 1) := by decide +kernel
theorem dX6_anew_0 : decode cX6_anew 0 = .ok (.iload_n 1, 1) := by decide +kernel
theorem dX6_anew_1 : decode cX6_anew 1 = .ok (.iconst (-1), 1) := by decide +kernel
theorem dX6_anew_2 : decode cX6_anew 2 = .ok (.if_icmp .eq 16, 3) := by decide +kernel
theorem dX6_anew_5 : decode cX6_anew 5 = .ok (.iload_n 1, 1) := by decide +kernel
theorem dX6_anew_6 : decode cX6_anew 6 = .ok (.invokestatic 142, 3) := by decide +kernel
theorem dX6_anew_9 : decode cX6_anew 9 = .ok (.ifCond .ne 9, 3) := by decide +kernel
theorem dX6_anew_12 : decode cX6_anew 12 = .ok (.aload_n 0, 1) := by decide +kernel
theorem dX6_anew_13 : decode cX6_anew 13 = .ok (.iconst (-1), 1) := by decide +kernel
theorem dX6_anew_14 : decode cX6_anew 14 = .ok (.invokevirtual 35, 3) := by decide +kernel
theorem dX6_anew_17 : decode cX6_anew 17 = .ok (.ireturn, 1) := by decide +kernel
theorem dX6_anew_18 : decode cX6_anew 18 = .ok (.iload_n 1, 1) := by decide +kernel
theorem dX6_anew_19 : decode cX6_anew 19 = .ok (.ifCond .lt 9, 3) := by decide +kernel
theorem dX6_anew_22 : decode cX6_anew 22 = .ok (.aload_n 0, 1) := by decide +kernel
theorem dX6_anew_23 : decode cX6_anew 23 = .ok (.iload_n 1, 1) := by decide +kernel
theorem dX6_anew_24 : decode cX6_anew 24 = .ok (.invokevirtual 166, 3) := by decide +kernel
theorem dX6_anew_27 : decode cX6_anew 27 = .ok (.ireturn, 1) := by decide +kernel
theorem dX6_anew_28 : decode cX6_anew 28 = .ok (.iconst 0, 1) := by decide +kernel
theorem dX6_anew_29 : decode cX6_anew 29 = .ok (.istore_n 2, 1) := by decide +kernel
theorem dX6_anew_30 : decode cX6_anew 30 = .ok (.iconst 0, 1) := by decide +kernel
theorem dX6_anew_31 : decode cX6_anew 31 = .ok (.istore_n 3, 1) := by decide +kernel
theorem dX6_anew_32 : decode cX6_anew 32 = .ok (.iload_n 3, 1) := by decide +kernel
theorem dX6_anew_33 : decode cX6_anew 33 = .ok (.iconst 5, 1) := by decide +kernel
theorem dX6_anew_34 : decode cX6_anew 34 = .ok (.if_icmp .ge 20, 3) := by decide +kernel
theorem dX6_anew_37 : decode cX6_anew 37 = .ok (.aload_n 0, 1) := by decide +kernel
theorem dX6_anew_38 : decode cX6_anew 38 = .ok (.getfield 28, 3) := by decide +kernel
theorem dX6_anew_41 : decode cX6_anew 41 = .ok (.iload_n 3, 1) := by decide +kernel
theorem dX6_anew_42 : decode cX6_anew 42 = .ok (.aload_n 0, 1) := by decide +kernel
theorem dX6_anew_43 : decode cX6_anew 43 = .ok (.iload_n 3, 1) := by decide +kernel
theorem dX6_anew_44 : decode cX6_anew 44 = .ok (.invokevirtual 166, 3) := by decide +kernel
theorem dX6_anew_47 : decode cX6_anew 47 = .ok (.iastore, 1) := by decide +kernel
theorem dX6_anew_48 : decode cX6_anew 48 = .ok (.iinc 3 1, 3) := by decide +kernel
theorem dX6_anew_51 : decode cX6_anew 51 = .ok (.goto (-19), 3) := by decide +kernel
theorem dX6_anew_54 : decode cX6_anew 54 = .ok (.iconst 0, 1) := by decide +kernel
theorem dX6_anew_55 : decode cX6_anew 55 = .ok (.istore_n 3, 1) := by decide +kernel
theorem dX6_anew_56 : decode cX6_anew 56 = .ok (.iload_n 3, 1) := by decide +kernel
theorem dX6_anew_57 : decode cX6_anew 57 = .ok (.aload_n 0, 1) := by decide +kernel
theorem dX6_anew_58 : decode cX6_anew 58 = .ok (.getfield 9, 3) := by decide +kernel
theorem dX6_anew_61 : decode cX6_anew 61 = .ok (.iconst 0, 1) := by decide +kernel
theorem dX6_anew_62 : decode cX6_anew 62 = .ok (.iaload, 1) := by decide +kernel
theorem dX6_anew_63 : decode cX6_anew 63 = .ok (.if_icmp .ge 92, 3) := by decide +kernel
theorem dX6_anew_66 : decode cX6_anew 66 = .ok (.aload_n 0, 1) := by decide +kernel
theorem dX6_anew_67 : decode cX6_anew 67 = .ok (.iload_n 3, 1) := by decide +kernel
theorem dX6_anew_68 : decode cX6_anew 68 = .ok (.invokevirtual 83, 3) := by decide +kernel
theorem dX6_anew_71 : decode cX6_anew 71 = .ok (.ifCond .ne 7, 3) := by decide +kernel
theorem dX6_anew_74 : decode cX6_anew 74 = .ok (.iconst 1, 1) := by decide +kernel
theorem dX6_anew_75 : decode cX6_anew 75 = .ok (.goto 4, 3) := by decide +kernel
theorem dX6_anew_78 : decode cX6_anew 78 = .ok (.iconst 0, 1) := by decide +kernel
theorem dX6_anew_79 : decode cX6_anew 79 = .ok (.istore 4, 2) := by decide +kernel
theorem dX6_anew_81 : decode cX6_anew 81 = .ok (.iconst 0, 1) := by decide +kernel
theorem dX6_anew_82 : decode cX6_anew 82 = .ok (.istore 5, 2) := by decide +kernel
theorem dX6_anew_84 : decode cX6_anew 84 = .ok (.iload 5, 2) := by decide +kernel
theorem dX6_anew_86 : decode cX6_anew 86 = .ok (.iconst 5, 1) := by decide +kernel
theorem dX6_anew_87 : decode cX6_anew 87 = .ok (.if_icmp .ge 49, 3) := by decide +kernel
theorem dX6_anew_90 : decode cX6_anew 90 = .ok (.iload 4, 2) := by decide +kernel
theorem dX6_anew_92 : decode cX6_anew 92 = .ok (.aload_n 0, 1) := by decide +kernel
theorem dX6_anew_93 : decode cX6_anew 93 = .ok (.getfield 28, 3) := by decide +kernel
theorem dX6_anew_96 : decode cX6_anew 96 = .ok (.iload 5, 2) := by decide +kernel
theorem dX6_anew_98 : decode cX6_anew 98 = .ok (.iaload, 1) := by decide +kernel
theorem dX6_anew_99 : decode cX6_anew 99 = .ok (.aload_n 0, 1) := by decide +kernel
theorem dX6_anew_100 : decode cX6_anew 100 = .ok (.getfield 9, 3) := by decide +kernel
theorem dX6_anew_103 : decode cX6_anew 103 = .ok (.iload_n 3, 1) := by decide +kernel
theorem dX6_anew_104 : decode cX6_anew 104 = .ok (.iload 5, 2) := by decide +kernel
theorem dX6_anew_106 : decode cX6_anew 106 = .ok (.invokestatic 45, 3) := by decide +kernel
theorem dX6_anew_109 : decode cX6_anew 109 = .ok (.iaload, 1) := by decide +kernel
theorem dX6_anew_110 : decode cX6_anew 110 = .ok (.invokestatic 69, 3) := by decide +kernel
theorem dX6_anew_113 : decode cX6_anew 113 = .ok (.aload_n 0, 1) := by decide +kernel
theorem dX6_anew_114 : decode cX6_anew 114 = .ok (.getfield 9, 3) := by decide +kernel
theorem dX6_anew_117 : decode cX6_anew 117 = .ok (.iconst 3, 1) := by decide +kernel
theorem dX6_anew_118 : decode cX6_anew 118 = .ok (.iaload, 1) := by decide +kernel
theorem dX6_anew_119 : decode cX6_anew 119 = .ok (.if_icmp .gt 7, 3) := by decide +kernel
theorem dX6_anew_122 : decode cX6_anew 122 = .ok (.iconst 1, 1) := by decide +kernel
theorem dX6_anew_123 : decode cX6_anew 123 = .ok (.goto 4, 3) := by decide +kernel
theorem dX6_anew_126 : decode cX6_anew 126 = .ok (.iconst 0, 1) := by decide +kernel
theorem dX6_anew_127 : decode cX6_anew 127 = .ok (.iand, 1) := by decide +kernel
theorem dX6_anew_128 : decode cX6_anew 128 = .ok (.istore 4, 2) := by decide +kernel
theorem dX6_anew_130 : decode cX6_anew 130 = .ok (.iinc 5 1, 3) := by decide +kernel
theorem dX6_anew_133 : decode cX6_anew 133 = .ok (.goto (-49), 3) := by decide +kernel
theorem dX6_anew_136 : decode cX6_anew 136 = .ok (.iload_n 2, 1) := by decide +kernel
theorem dX6_anew_137 : decode cX6_anew 137 = .ok (.iload 4, 2) := by decide +kernel
theorem dX6_anew_139 : decode cX6_anew 139 = .ok (.ifCond .eq 7, 3) := by decide +kernel
theorem dX6_anew_142 : decode cX6_anew 142 = .ok (.iconst 1, 1) := by decide +kernel
theorem dX6_anew_143 : decode cX6_anew 143 = .ok (.goto 4, 3) := by decide +kernel
theorem dX6_anew_146 : decode cX6_anew 146 = .ok (.iconst 0, 1) := by decide +kernel
theorem dX6_anew_147 : decode cX6_anew 147 = .ok (.iadd, 1) := by decide +kernel
theorem dX6_anew_148 : decode cX6_anew 148 = .ok (.istore_n 2, 1) := by decide +kernel
theorem dX6_anew_149 : decode cX6_anew 149 = .ok (.iinc 3 1, 3) := by decide +kernel
theorem dX6_anew_152 : decode cX6_anew 152 = .ok (.goto (-96), 3) := by decide +kernel
theorem dX6_anew_155 : decode cX6_anew 155 = .ok (.iload_n 2, 1) := by decide +kernel
theorem dX6_anew_156 : decode cX6_anew 156 = .ok (.ireturn, 1) := by decide +kernel
theorem dX6_code_0 : decode cX6_code 0 = .ok (.bipush 90, 2) := by decide +kernel
theorem dX6_code_2 : decode cX6_code 2 = .ok (.iload_n 0, 1) := by decide +kernel
theorem dX6_code_3 : decode cX6_code 3 = .ok (.invokestatic 58, 3) := by decide +kernel
theorem dX6_code_6 : decode cX6_code 6 = .ok (.invokestatic 49, 3) := by decide +kernel
theorem dX6_code_9 : decode cX6_code 9 = .ok (.ireturn, 1) := by decide +kernel
theorem dX6_middle_0 : decode cX6_middle 0 = .ok (.iload_n 1, 1) := by decide +kernel
theorem dX6_middle_1 : decode cX6_middle 1 = .ok (.invokestatic 169, 3) := by decide +kernel
theorem dX6_middle_4 : decode cX6_middle 4 = .ok (.iconst 1, 1) := by decide +kernel
theorem dX6_middle_5 : decode cX6_middle 5 = .ok (.iadd, 1) := by decide +kernel
theorem dX6_middle_6 : decode cX6_middle 6 = .ok (.iconst 2, 1) := by decide +kernel
theorem dX6_middle_7 : decode cX6_middle 7 = .ok (.idiv, 1) := by decide +kernel
theorem dX6_middle_8 : decode cX6_middle 8 = .ok (.istore_n 3, 1) := by decide +kernel
theorem dX6_middle_9 : decode cX6_middle 9 = .ok (.iconst 0, 1) := by decide +kernel
theorem dX6_middle_10 : decode cX6_middle 10 = .ok (.istore 4, 2) := by decide +kernel
theorem dX6_middle_12 : decode cX6_middle 12 = .ok (.iload 4, 2) := by decide +kernel
theorem dX6_middle_14 : decode cX6_middle 14 = .ok (.bipush 99, 2) := by decide +kernel
theorem dX6_middle_16 : decode cX6_middle 16 = .ok (.if_icmp .gt 77, 3) := by decide +kernel
theorem dX6_middle_19 : decode cX6_middle 19 = .ok (.iconst 0, 1) := by decide +kernel
theorem dX6_middle_20 : decode cX6_middle 20 = .ok (.istore 5, 2) := by decide +kernel
theorem dX6_middle_22 : decode cX6_middle 22 = .ok (.iconst 0, 1) := by decide +kernel
theorem dX6_middle_23 : decode cX6_middle 23 = .ok (.istore 6, 2) := by decide +kernel
theorem dX6_middle_25 : decode cX6_middle 25 = .ok (.iload 6, 2) := by decide +kernel
theorem dX6_middle_27 : decode cX6_middle 27 = .ok (.aload_n 0, 1) := by decide +kernel
theorem dX6_middle_28 : decode cX6_middle 28 = .ok (.getfield 9, 3) := by decide +kernel
theorem dX6_middle_31 : decode cX6_middle 31 = .ok (.iconst 0, 1) := by decide +kernel
theorem dX6_middle_32 : decode cX6_middle 32 = .ok (.iaload, 1) := by decide +kernel
theorem dX6_middle_33 : decode cX6_middle 33 = .ok (.if_icmp .ge 45, 3) := by decide +kernel
theorem dX6_middle_36 : decode cX6_middle 36 = .ok (.iload 5, 2) := by decide +kernel
theorem dX6_middle_38 : decode cX6_middle 38 = .ok (.iload_n 1, 1) := by decide +kernel
theorem dX6_middle_39 : decode cX6_middle 39 = .ok (.iload 6, 2) := by decide +kernel
theorem dX6_middle_41 : decode cX6_middle 41 = .ok (.ishr, 1) := by decide +kernel
theorem dX6_middle_42 : decode cX6_middle 42 = .ok (.iconst 1, 1) := by decide +kernel
theorem dX6_middle_43 : decode cX6_middle 43 = .ok (.iand, 1) := by decide +kernel
theorem dX6_middle_44 : decode cX6_middle 44 = .ok (.iconst 1, 1) := by decide +kernel
theorem dX6_middle_45 : decode cX6_middle 45 = .ok (.if_icmp .ne 23, 3) := by decide +kernel
theorem dX6_middle_48 : decode cX6_middle 48 = .ok (.aload_n 0, 1) := by decide +kernel
theorem dX6_middle_49 : decode cX6_middle 49 = .ok (.getfield 9, 3) := by decide +kernel
theorem dX6_middle_52 : decode cX6_middle 52 = .ok (.iload 6, 2) := by decide +kernel
theorem dX6_middle_54 : decode cX6_middle 54 = .ok (.iload_n 2, 1) := by decide +kernel
theorem dX6_middle_55 : decode cX6_middle 55 = .ok (.invokestatic 45, 3) := by decide +kernel
theorem dX6_middle_58 : decode cX6_middle 58 = .ok (.iaload, 1) := by decide +kernel
theorem dX6_middle_59 : decode cX6_middle 59 = .ok (.iload 4, 2) := by decide +kernel
theorem dX6_middle_61 : decode cX6_middle 61 = .ok (.if_icmp .gt 7, 3) := by decide +kernel
theorem dX6_middle_64 : decode cX6_middle 64 = .ok (.iconst 1, 1) := by decide +kernel
theorem dX6_middle_65 : decode cX6_middle 65 = .ok (.goto 4, 3) := by decide +kernel
theorem dX6_middle_68 : decode cX6_middle 68 = .ok (.iconst 0, 1) := by decide +kernel
theorem dX6_middle_69 : decode cX6_middle 69 = .ok (.iadd, 1) := by decide +kernel
theorem dX6_middle_70 : decode cX6_middle 70 = .ok (.istore 5, 2) := by decide +kernel
theorem dX6_middle_72 : decode cX6_middle 72 = .ok (.iinc 6 1, 3) := by decide +kernel
theorem dX6_middle_75 : decode cX6_middle 75 = .ok (.goto (-50), 3) := by decide +kernel
theorem dX6_middle_78 : decode cX6_middle 78 = .ok (.iload 5, 2) := by decide +kernel
theorem dX6_middle_80 : decode cX6_middle 80 = .ok (.iload_n 3, 1) := by decide +kernel
theorem dX6_middle_81 : decode cX6_middle 81 = .ok (.if_icmp .lt 6, 3) := by decide +kernel
theorem dX6_middle_84 : decode cX6_middle 84 = .ok (.iload 4, 2) := by decide +kernel
theorem dX6_middle_86 : decode cX6_middle 86 = .ok (.ireturn, 1) := by decide +kernel
theorem dX6_middle_87 : decode cX6_middle 87 = .ok (.iinc 4 1, 3) := by decide +kernel
theorem dX6_middle_90 : decode cX6_middle 90 = .ok (.goto (-78), 3) := by decide +kernel
theorem dX6_middle_93 : decode cX6_middle 93 = .ok (.bipush 99, 2) := by decide +kernel
theorem dX6_middle_95 : decode cX6_middle 95 = .ok (.ireturn, 1) := by decide +kernel
theorem dX6_wrongSet_0 : decode cX6_wrongSet 0 = .ok (.iload_n 1, 1) := by decide +kernel
theorem dX6_wrongSet_1 : decode cX6_wrongSet 1 = .ok (.iconst 1, 1) := by decide +kernel
theorem dX6_wrongSet_2 : decode cX6_wrongSet 2 = .ok (.if_icmp .ge 8, 3) := by decide +kernel
theorem dX6_wrongSet_5 : decode cX6_wrongSet 5 = .ok (.bipush (-4), 2) := by decide +kernel
theorem dX6_wrongSet_7 : decode cX6_wrongSet 7 = .ok (.goto 21, 3) := by decide +kernel
theorem dX6_wrongSet_10 : decode cX6_wrongSet 10 = .ok (.iload_n 1, 1) := by decide +kernel
theorem dX6_wrongSet_11 : decode cX6_wrongSet 11 = .ok (.iconst 1, 1) := by decide +kernel
theorem dX6_wrongSet_12 : decode cX6_wrongSet 12 = .ok (.aload_n 0, 1) := by decide +kernel
theorem dX6_wrongSet_13 : decode cX6_wrongSet 13 = .ok (.getfield 9, 3) := by decide +kernel
theorem dX6_wrongSet_16 : decode cX6_wrongSet 16 = .ok (.iconst 0, 1) := by decide +kernel
theorem dX6_wrongSet_17 : decode cX6_wrongSet 17 = .ok (.iaload, 1) := by decide +kernel
theorem dX6_wrongSet_18 : decode cX6_wrongSet 18 = .ok (.ishl, 1) := by decide +kernel
theorem dX6_wrongSet_19 : decode cX6_wrongSet 19 = .ok (.if_icmp .lt 8, 3) := by decide +kernel
theorem dX6_wrongSet_22 : decode cX6_wrongSet 22 = .ok (.bipush (-6), 2) := by decide +kernel
theorem dX6_wrongSet_24 : decode cX6_wrongSet 24 = .ok (.goto 4, 3) := by decide +kernel
theorem dX6_wrongSet_27 : decode cX6_wrongSet 27 = .ok (.iconst 0, 1) := by decide +kernel
theorem dX6_wrongSet_28 : decode cX6_wrongSet 28 = .ok (.ireturn, 1) := by decide +kernel
theorem dX6_first_0 : decode cX6_first 0 = .ok (.aload_n 0, 1) := by decide +kernel
theorem dX6_first_1 : decode cX6_first 1 = .ok (.iload_n 1, 1) := by decide +kernel
theorem dX6_first_2 : decode cX6_first 2 = .ok (.invokevirtual 172, 3) := by decide +kernel
theorem dX6_first_5 : decode cX6_first 5 = .ok (.istore_n 3, 1) := by decide +kernel
theorem dX6_first_6 : decode cX6_first 6 = .ok (.iload_n 3, 1) := by decide +kernel
theorem dX6_first_7 : decode cX6_first 7 = .ok (.ifCond .ne 12, 3) := by decide +kernel
theorem dX6_first_10 : decode cX6_first 10 = .ok (.iload_n 2, 1) := by decide +kernel
theorem dX6_first_11 : decode cX6_first 11 = .ok (.invokestatic 142, 3) := by decide +kernel
theorem dX6_first_14 : decode cX6_first 14 = .ok (.ifCond .ne 5, 3) := by decide +kernel
theorem dX6_first_17 : decode cX6_first 17 = .ok (.iconst (-1), 1) := by decide +kernel
theorem dX6_first_18 : decode cX6_first 18 = .ok (.istore_n 3, 1) := by decide +kernel
theorem dX6_first_19 : decode cX6_first 19 = .ok (.iload_n 3, 1) := by decide +kernel
theorem dX6_first_20 : decode cX6_first 20 = .ok (.ifCond .eq 11, 3) := by decide +kernel
theorem dX6_first_23 : decode cX6_first 23 = .ok (.aload_n 0, 1) := by decide +kernel
theorem dX6_first_24 : decode cX6_first 24 = .ok (.iload_n 3, 1) := by decide +kernel
theorem dX6_first_25 : decode cX6_first 25 = .ok (.invokevirtual 35, 3) := by decide +kernel
theorem dX6_first_28 : decode cX6_first 28 = .ok (.goto 12, 3) := by decide +kernel
theorem dX6_first_31 : decode cX6_first 31 = .ok (.aload_n 0, 1) := by decide +kernel
theorem dX6_first_32 : decode cX6_first 32 = .ok (.iload_n 1, 1) := by decide +kernel
theorem dX6_first_33 : decode cX6_first 33 = .ok (.iload_n 2, 1) := by decide +kernel
theorem dX6_first_34 : decode cX6_first 34 = .ok (.invokevirtual 175, 3) := by decide +kernel
theorem dX6_first_37 : decode cX6_first 37 = .ok (.invokestatic 178, 3) := by decide +kernel
theorem dX6_first_40 : decode cX6_first 40 = .ok (.ireturn, 1) := by decide +kernel
theorem dX6_unlike_0 : decode cX6_unlike 0 = .ok (.aload_n 0, 1) := by decide +kernel
theorem dX6_unlike_1 : decode cX6_unlike 1 = .ok (.iload_n 1, 1) := by decide +kernel
theorem dX6_unlike_2 : decode cX6_unlike 2 = .ok (.invokevirtual 172, 3) := by decide +kernel
theorem dX6_unlike_5 : decode cX6_unlike 5 = .ok (.istore_n 3, 1) := by decide +kernel
theorem dX6_unlike_6 : decode cX6_unlike 6 = .ok (.iload_n 3, 1) := by decide +kernel
theorem dX6_unlike_7 : decode cX6_unlike 7 = .ok (.ifCond .ne 13, 3) := by decide +kernel
theorem dX6_unlike_10 : decode cX6_unlike 10 = .ok (.aload_n 0, 1) := by decide +kernel
theorem dX6_unlike_11 : decode cX6_unlike 11 = .ok (.iload_n 2, 1) := by decide +kernel
theorem dX6_unlike_12 : decode cX6_unlike 12 = .ok (.invokevirtual 120, 3) := by decide +kernel
theorem dX6_unlike_15 : decode cX6_unlike 15 = .ok (.ifCond .ne 5, 3) := by decide +kernel
theorem dX6_unlike_18 : decode cX6_unlike 18 = .ok (.iconst (-1), 1) := by decide +kernel
theorem dX6_unlike_19 : decode cX6_unlike 19 = .ok (.istore_n 3, 1) := by decide +kernel
theorem dX6_unlike_20 : decode cX6_unlike 20 = .ok (.iload_n 3, 1) := by decide +kernel
theorem dX6_unlike_21 : decode cX6_unlike 21 = .ok (.ifCond .eq 9, 3) := by decide +kernel
theorem dX6_unlike_24 : decode cX6_unlike 24 = .ok (.aload_n 0, 1) := by decide +kernel
theorem dX6_unlike_25 : decode cX6_unlike 25 = .ok (.iload_n 3, 1) := by decide +kernel
theorem dX6_unlike_26 : decode cX6_unlike 26 = .ok (.invokevirtual 35, 3) := by decide +kernel
theorem dX6_unlike_29 : decode cX6_unlike 29 = .ok (.ireturn, 1) := by decide +kernel
theorem dX6_unlike_30 : decode cX6_unlike 30 = .ok (.iconst 0, 1) := by decide +kernel
theorem dX6_unlike_31 : decode cX6_unlike 31 = .ok (.istore 4, 2) := by decide +kernel
theorem dX6_unlike_33 : decode cX6_unlike 33 = .ok (.iconst 0, 1) := by decide +kernel
theorem dX6_unlike_34 : decode cX6_unlike 34 = .ok (.istore 5, 2) := by decide +kernel
theorem dX6_unlike_36 : decode cX6_unlike 36 = .ok (.iload 5, 2) := by decide +kernel
theorem dX6_unlike_38 : decode cX6_unlike 38 = .ok (.iconst 5, 1) := by decide +kernel
theorem dX6_unlike_39 : decode cX6_unlike 39 = .ok (.if_icmp .ge 46, 3) := by decide +kernel
theorem dX6_unlike_42 : decode cX6_unlike 42 = .ok (.iload 4, 2) := by decide +kernel
theorem dX6_unlike_44 : decode cX6_unlike 44 = .ok (.aload_n 0, 1) := by decide +kernel
theorem dX6_unlike_45 : decode cX6_unlike 45 = .ok (.iload_n 1, 1) := by decide +kernel
theorem dX6_unlike_46 : decode cX6_unlike 46 = .ok (.iload 5, 2) := by decide +kernel
theorem dX6_unlike_48 : decode cX6_unlike 48 = .ok (.invokevirtual 175, 3) := by decide +kernel
theorem dX6_unlike_51 : decode cX6_unlike 51 = .ok (.invokestatic 178, 3) := by decide +kernel
theorem dX6_unlike_54 : decode cX6_unlike 54 = .ok (.aload_n 0, 1) := by decide +kernel
theorem dX6_unlike_55 : decode cX6_unlike 55 = .ok (.getfield 9, 3) := by decide +kernel
theorem dX6_unlike_58 : decode cX6_unlike 58 = .ok (.iload_n 2, 1) := by decide +kernel
theorem dX6_unlike_59 : decode cX6_unlike 59 = .ok (.iload 5, 2) := by decide +kernel
theorem dX6_unlike_61 : decode cX6_unlike 61 = .ok (.invokestatic 45, 3) := by decide +kernel
theorem dX6_unlike_64 : decode cX6_unlike 64 = .ok (.iaload, 1) := by decide +kernel
theorem dX6_unlike_65 : decode cX6_unlike 65 = .ok (.invokestatic 178, 3) := by decide +kernel
theorem dX6_unlike_68 : decode cX6_unlike 68 = .ok (.if_icmp .eq 7, 3) := by decide +kernel
theorem dX6_unlike_71 : decode cX6_unlike 71 = .ok (.iconst 1, 1) := by decide +kernel
theorem dX6_unlike_72 : decode cX6_unlike 72 = .ok (.goto 4, 3) := by decide +kernel
theorem dX6_unlike_75 : decode cX6_unlike 75 = .ok (.iconst 0, 1) := by decide +kernel
theorem dX6_unlike_76 : decode cX6_unlike 76 = .ok (.iadd, 1) := by decide +kernel
theorem dX6_unlike_77 : decode cX6_unlike 77 = .ok (.istore 4, 2) := by decide +kernel
theorem dX6_unlike_79 : decode cX6_unlike 79 = .ok (.iinc 5 1, 3) := by decide +kernel
theorem dX6_unlike_82 : decode cX6_unlike 82 = .ok (.goto (-46), 3) := by decide +kernel
theorem dX6_unlike_85 : decode cX6_unlike 85 = .ok (.iload 4, 2) := by decide +kernel
theorem dX6_unlike_87 : decode cX6_unlike 87 = .ok (.ireturn, 1) := by decide +kernel
theorem dX6_mend_0 : decode cX6_mend 0 = .ok (.aload_n 0, 1) := by decide +kernel
theorem dX6_mend_1 : decode cX6_mend 1 = .ok (.iload_n 1, 1) := by decide +kernel
theorem dX6_mend_2 : decode cX6_mend 2 = .ok (.invokevirtual 120, 3) := by decide +kernel
theorem dX6_mend_5 : decode cX6_mend 5 = .ok (.ifCond .ne 9, 3) := by decide +kernel
theorem dX6_mend_8 : decode cX6_mend 8 = .ok (.aload_n 0, 1) := by decide +kernel
theorem dX6_mend_9 : decode cX6_mend 9 = .ok (.iconst (-1), 1) := by decide +kernel
theorem dX6_mend_10 : decode cX6_mend 10 = .ok (.invokevirtual 181, 3) := by decide +kernel
theorem dX6_mend_13 : decode cX6_mend 13 = .ok (.ireturn, 1) := by decide +kernel
theorem dX6_mend_14 : decode cX6_mend 14 = .ok (.aload_n 0, 1) := by decide +kernel
theorem dX6_mend_15 : decode cX6_mend 15 = .ok (.iload_n 1, 1) := by decide +kernel
theorem dX6_mend_16 : decode cX6_mend 16 = .ok (.invokevirtual 145, 3) := by decide +kernel
theorem dX6_mend_19 : decode cX6_mend 19 = .ok (.istore_n 2, 1) := by decide +kernel
theorem dX6_mend_20 : decode cX6_mend 20 = .ok (.iconst 0, 1) := by decide +kernel
theorem dX6_mend_21 : decode cX6_mend 21 = .ok (.istore_n 3, 1) := by decide +kernel
theorem dX6_mend_22 : decode cX6_mend 22 = .ok (.iload_n 3, 1) := by decide +kernel
theorem dX6_mend_23 : decode cX6_mend 23 = .ok (.iconst 5, 1) := by decide +kernel
theorem dX6_mend_24 : decode cX6_mend 24 = .ok (.if_icmp .ge 24, 3) := by decide +kernel
theorem dX6_mend_27 : decode cX6_mend 27 = .ok (.aload_n 0, 1) := by decide +kernel
theorem dX6_mend_28 : decode cX6_mend 28 = .ok (.getfield 28, 3) := by decide +kernel
theorem dX6_mend_31 : decode cX6_mend 31 = .ok (.iload_n 3, 1) := by decide +kernel
theorem dX6_mend_32 : decode cX6_mend 32 = .ok (.aload_n 0, 1) := by decide +kernel
theorem dX6_mend_33 : decode cX6_mend 33 = .ok (.getfield 28, 3) := by decide +kernel
theorem dX6_mend_36 : decode cX6_mend 36 = .ok (.iload_n 3, 1) := by decide +kernel
theorem dX6_mend_37 : decode cX6_mend 37 = .ok (.iaload, 1) := by decide +kernel
theorem dX6_mend_38 : decode cX6_mend 38 = .ok (.invokestatic 178, 3) := by decide +kernel
theorem dX6_mend_41 : decode cX6_mend 41 = .ok (.iastore, 1) := by decide +kernel
theorem dX6_mend_42 : decode cX6_mend 42 = .ok (.iinc 3 1, 3) := by decide +kernel
theorem dX6_mend_45 : decode cX6_mend 45 = .ok (.goto (-23), 3) := by decide +kernel
theorem dX6_mend_48 : decode cX6_mend 48 = .ok (.iload_n 2, 1) := by decide +kernel
theorem dX6_mend_49 : decode cX6_mend 49 = .ok (.aload_n 0, 1) := by decide +kernel
theorem dX6_mend_50 : decode cX6_mend 50 = .ok (.invokevirtual 80, 3) := by decide +kernel
theorem dX6_mend_53 : decode cX6_mend 53 = .ok (.isub, 1) := by decide +kernel
theorem dX6_mend_54 : decode cX6_mend 54 = .ok (.ireturn, 1) := by decide +kernel
theorem dX6_lineOf_0 : decode cX6_lineOf 0 = .ok (.iconst 0, 1) := by decide +kernel
theorem dX6_lineOf_1 : decode cX6_lineOf 1 = .ok (.istore_n 2, 1) := by decide +kernel
theorem dX6_lineOf_2 : decode cX6_lineOf 2 = .ok (.iconst 0, 1) := by decide +kernel
theorem dX6_lineOf_3 : decode cX6_lineOf 3 = .ok (.istore_n 3, 1) := by decide +kernel
theorem dX6_lineOf_4 : decode cX6_lineOf 4 = .ok (.iload_n 3, 1) := by decide +kernel
theorem dX6_lineOf_5 : decode cX6_lineOf 5 = .ok (.aload_n 0, 1) := by decide +kernel
theorem dX6_lineOf_6 : decode cX6_lineOf 6 = .ok (.getfield 9, 3) := by decide +kernel
theorem dX6_lineOf_9 : decode cX6_lineOf 9 = .ok (.iconst 0, 1) := by decide +kernel
theorem dX6_lineOf_10 : decode cX6_lineOf 10 = .ok (.iaload, 1) := by decide +kernel
theorem dX6_lineOf_11 : decode cX6_lineOf 11 = .ok (.if_icmp .ge 34, 3) := by decide +kernel
theorem dX6_lineOf_14 : decode cX6_lineOf 14 = .ok (.iload_n 2, 1) := by decide +kernel
theorem dX6_lineOf_15 : decode cX6_lineOf 15 = .ok (.aload_n 0, 1) := by decide +kernel
theorem dX6_lineOf_16 : decode cX6_lineOf 16 = .ok (.iload_n 3, 1) := by decide +kernel
theorem dX6_lineOf_17 : decode cX6_lineOf 17 = .ok (.iload_n 1, 1) := by decide +kernel
theorem dX6_lineOf_18 : decode cX6_lineOf 18 = .ok (.invokevirtual 157, 3) := by decide +kernel
theorem dX6_lineOf_21 : decode cX6_lineOf 21 = .ok (.ifCond .eq 15, 3) := by decide +kernel
theorem dX6_lineOf_24 : decode cX6_lineOf 24 = .ok (.aload_n 0, 1) := by decide +kernel
theorem dX6_lineOf_25 : decode cX6_lineOf 25 = .ok (.iload_n 3, 1) := by decide +kernel
theorem dX6_lineOf_26 : decode cX6_lineOf 26 = .ok (.invokevirtual 91, 3) := by decide +kernel
theorem dX6_lineOf_29 : decode cX6_lineOf 29 = .ok (.ifCond .eq 7, 3) := by decide +kernel
theorem dX6_lineOf_32 : decode cX6_lineOf 32 = .ok (.iconst 1, 1) := by decide +kernel
theorem dX6_lineOf_33 : decode cX6_lineOf 33 = .ok (.goto 4, 3) := by decide +kernel
theorem dX6_lineOf_36 : decode cX6_lineOf 36 = .ok (.iconst 0, 1) := by decide +kernel
theorem dX6_lineOf_37 : decode cX6_lineOf 37 = .ok (.iadd, 1) := by decide +kernel
theorem dX6_lineOf_38 : decode cX6_lineOf 38 = .ok (.istore_n 2, 1) := by decide +kernel
theorem dX6_lineOf_39 : decode cX6_lineOf 39 = .ok (.iinc 3 1, 3) := by decide +kernel
theorem dX6_lineOf_42 : decode cX6_lineOf 42 = .ok (.goto (-38), 3) := by decide +kernel
theorem dX6_lineOf_45 : decode cX6_lineOf 45 = .ok (.iload_n 2, 1) := by decide +kernel
theorem dX6_lineOf_46 : decode cX6_lineOf 46 = .ok (.ireturn, 1) := by decide +kernel
theorem dX6_line_0 : decode cX6_line 0 = .ok (.aload_n 0, 1) := by decide +kernel
theorem dX6_line_1 : decode cX6_line 1 = .ok (.iload_n 1, 1) := by decide +kernel
theorem dX6_line_2 : decode cX6_line 2 = .ok (.invokevirtual 120, 3) := by decide +kernel
theorem dX6_line_5 : decode cX6_line 5 = .ok (.ifCond .eq 11, 3) := by decide +kernel
theorem dX6_line_8 : decode cX6_line 8 = .ok (.aload_n 0, 1) := by decide +kernel
theorem dX6_line_9 : decode cX6_line 9 = .ok (.iload_n 1, 1) := by decide +kernel
theorem dX6_line_10 : decode cX6_line 10 = .ok (.invokevirtual 184, 3) := by decide +kernel
theorem dX6_line_13 : decode cX6_line 13 = .ok (.goto 8, 3) := by decide +kernel
theorem dX6_line_16 : decode cX6_line 16 = .ok (.aload_n 0, 1) := by decide +kernel
theorem dX6_line_17 : decode cX6_line 17 = .ok (.iconst (-1), 1) := by decide +kernel
theorem dX6_line_18 : decode cX6_line 18 = .ok (.invokevirtual 35, 3) := by decide +kernel
theorem dX6_line_21 : decode cX6_line 21 = .ok (.ireturn, 1) := by decide +kernel
theorem dX6_bestLine_0 : decode cX6_bestLine 0 = .ok (.bipush (-9), 2) := by decide +kernel
theorem dX6_bestLine_2 : decode cX6_bestLine 2 = .ok (.istore_n 1, 1) := by decide +kernel
theorem dX6_bestLine_3 : decode cX6_bestLine 3 = .ok (.iconst 0, 1) := by decide +kernel
theorem dX6_bestLine_4 : decode cX6_bestLine 4 = .ok (.istore_n 2, 1) := by decide +kernel
theorem dX6_bestLine_5 : decode cX6_bestLine 5 = .ok (.iload_n 2, 1) := by decide +kernel
theorem dX6_bestLine_6 : decode cX6_bestLine 6 = .ok (.aload_n 0, 1) := by decide +kernel
theorem dX6_bestLine_7 : decode cX6_bestLine 7 = .ok (.getfield 9, 3) := by decide +kernel
theorem dX6_bestLine_10 : decode cX6_bestLine 10 = .ok (.iconst 0, 1) := by decide +kernel
theorem dX6_bestLine_11 : decode cX6_bestLine 11 = .ok (.iaload, 1) := by decide +kernel
theorem dX6_bestLine_12 : decode cX6_bestLine 12 = .ok (.if_icmp .ge 36, 3) := by decide +kernel
theorem dX6_bestLine_15 : decode cX6_bestLine 15 = .ok (.aload_n 0, 1) := by decide +kernel
theorem dX6_bestLine_16 : decode cX6_bestLine 16 = .ok (.iload_n 2, 1) := by decide +kernel
theorem dX6_bestLine_17 : decode cX6_bestLine 17 = .ok (.invokevirtual 154, 3) := by decide +kernel
theorem dX6_bestLine_20 : decode cX6_bestLine 20 = .ok (.ifCond .ge 22, 3) := by decide +kernel
theorem dX6_bestLine_23 : decode cX6_bestLine 23 = .ok (.iload_n 1, 1) := by decide +kernel
theorem dX6_bestLine_24 : decode cX6_bestLine 24 = .ok (.ifCond .lt 16, 3) := by decide +kernel
theorem dX6_bestLine_27 : decode cX6_bestLine 27 = .ok (.aload_n 0, 1) := by decide +kernel
theorem dX6_bestLine_28 : decode cX6_bestLine 28 = .ok (.iload_n 2, 1) := by decide +kernel
theorem dX6_bestLine_29 : decode cX6_bestLine 29 = .ok (.invokevirtual 184, 3) := by decide +kernel
theorem dX6_bestLine_32 : decode cX6_bestLine 32 = .ok (.aload_n 0, 1) := by decide +kernel
theorem dX6_bestLine_33 : decode cX6_bestLine 33 = .ok (.iload_n 1, 1) := by decide +kernel
theorem dX6_bestLine_34 : decode cX6_bestLine 34 = .ok (.invokevirtual 184, 3) := by decide +kernel
theorem dX6_bestLine_37 : decode cX6_bestLine 37 = .ok (.if_icmp .le 5, 3) := by decide +kernel
theorem dX6_bestLine_40 : decode cX6_bestLine 40 = .ok (.iload_n 2, 1) := by decide +kernel
theorem dX6_bestLine_41 : decode cX6_bestLine 41 = .ok (.istore_n 1, 1) := by decide +kernel
theorem dX6_bestLine_42 : decode cX6_bestLine 42 = .ok (.iinc 2 1, 3) := by decide +kernel
theorem dX6_bestLine_45 : decode cX6_bestLine 45 = .ok (.goto (-40), 3) := by decide +kernel
theorem dX6_bestLine_48 : decode cX6_bestLine 48 = .ok (.iload_n 1, 1) := by decide +kernel
theorem dX6_bestLine_49 : decode cX6_bestLine 49 = .ok (.ireturn, 1) := by decide +kernel
theorem dX6_ask_0 : decode cX6_ask 0 = .ok (.aload_n 0, 1) := by decide +kernel
theorem dX6_ask_1 : decode cX6_ask 1 = .ok (.iload_n 1, 1) := by decide +kernel
theorem dX6_ask_2 : decode cX6_ask 2 = .ok (.invokevirtual 120, 3) := by decide +kernel
theorem dX6_ask_5 : decode cX6_ask 5 = .ok (.ifCond .ne 9, 3) := by decide +kernel
theorem dX6_ask_8 : decode cX6_ask 8 = .ok (.aload_n 0, 1) := by decide +kernel
theorem dX6_ask_9 : decode cX6_ask 9 = .ok (.iconst (-1), 1) := by decide +kernel
theorem dX6_ask_10 : decode cX6_ask 10 = .ok (.invokevirtual 35, 3) := by decide +kernel
theorem dX6_ask_13 : decode cX6_ask 13 = .ok (.ireturn, 1) := by decide +kernel
theorem dX6_ask_14 : decode cX6_ask 14 = .ok (.bipush (-9), 2) := by decide +kernel
theorem dX6_ask_16 : decode cX6_ask 16 = .ok (.istore_n 2, 1) := by decide +kernel
theorem dX6_ask_17 : decode cX6_ask 17 = .ok (.aload_n 0, 1) := by decide +kernel
theorem dX6_ask_18 : decode cX6_ask 18 = .ok (.iload_n 1, 1) := by decide +kernel
theorem dX6_ask_19 : decode cX6_ask 19 = .ok (.invokevirtual 154, 3) := by decide +kernel
theorem dX6_ask_22 : decode cX6_ask 22 = .ok (.istore_n 3, 1) := by decide +kernel
theorem dX6_ask_23 : decode cX6_ask 23 = .ok (.iconst 0, 1) := by decide +kernel
theorem dX6_ask_24 : decode cX6_ask 24 = .ok (.istore 4, 2) := by decide +kernel
theorem dX6_ask_26 : decode cX6_ask 26 = .ok (.iload 4, 2) := by decide +kernel
theorem dX6_ask_28 : decode cX6_ask 28 = .ok (.aload_n 0, 1) := by decide +kernel
theorem dX6_ask_29 : decode cX6_ask 29 = .ok (.getfield 9, 3) := by decide +kernel
theorem dX6_ask_32 : decode cX6_ask 32 = .ok (.iconst 0, 1) := by decide +kernel
theorem dX6_ask_33 : decode cX6_ask 33 = .ok (.iaload, 1) := by decide +kernel
theorem dX6_ask_34 : decode cX6_ask 34 = .ok (.if_icmp .ge 90, 3) := by decide +kernel
theorem dX6_ask_37 : decode cX6_ask 37 = .ok (.iload 4, 2) := by decide +kernel
theorem dX6_ask_39 : decode cX6_ask 39 = .ok (.iload_n 3, 1) := by decide +kernel
theorem dX6_ask_40 : decode cX6_ask 40 = .ok (.if_icmp .eq 27, 3) := by decide +kernel
theorem dX6_ask_43 : decode cX6_ask 43 = .ok (.aload_n 0, 1) := by decide +kernel
theorem dX6_ask_44 : decode cX6_ask 44 = .ok (.iload 4, 2) := by decide +kernel
theorem dX6_ask_46 : decode cX6_ask 46 = .ok (.invokevirtual 154, 3) := by decide +kernel
theorem dX6_ask_49 : decode cX6_ask 49 = .ok (.iload_n 1, 1) := by decide +kernel
theorem dX6_ask_50 : decode cX6_ask 50 = .ok (.if_icmp .eq 17, 3) := by decide +kernel
theorem dX6_ask_53 : decode cX6_ask 53 = .ok (.iload_n 3, 1) := by decide +kernel
theorem dX6_ask_54 : decode cX6_ask 54 = .ok (.ifCond .lt 17, 3) := by decide +kernel
theorem dX6_ask_57 : decode cX6_ask 57 = .ok (.aload_n 0, 1) := by decide +kernel
theorem dX6_ask_58 : decode cX6_ask 58 = .ok (.iload 4, 2) := by decide +kernel
theorem dX6_ask_60 : decode cX6_ask 60 = .ok (.invokevirtual 154, 3) := by decide +kernel
theorem dX6_ask_63 : decode cX6_ask 63 = .ok (.iload_n 3, 1) := by decide +kernel
theorem dX6_ask_64 : decode cX6_ask 64 = .ok (.if_icmp .ne 7, 3) := by decide +kernel
theorem dX6_ask_67 : decode cX6_ask 67 = .ok (.iconst 1, 1) := by decide +kernel
theorem dX6_ask_68 : decode cX6_ask 68 = .ok (.goto 4, 3) := by decide +kernel
theorem dX6_ask_71 : decode cX6_ask 71 = .ok (.iconst 0, 1) := by decide +kernel
theorem dX6_ask_72 : decode cX6_ask 72 = .ok (.istore 5, 2) := by decide +kernel
theorem dX6_ask_74 : decode cX6_ask 74 = .ok (.iload 4, 2) := by decide +kernel
theorem dX6_ask_76 : decode cX6_ask 76 = .ok (.iload_n 1, 1) := by decide +kernel
theorem dX6_ask_77 : decode cX6_ask 77 = .ok (.if_icmp .eq 41, 3) := by decide +kernel
theorem dX6_ask_80 : decode cX6_ask 80 = .ok (.iload 5, 2) := by decide +kernel
theorem dX6_ask_82 : decode cX6_ask 82 = .ok (.ifCond .eq 36, 3) := by decide +kernel
theorem dX6_ask_85 : decode cX6_ask 85 = .ok (.aload_n 0, 1) := by decide +kernel
theorem dX6_ask_86 : decode cX6_ask 86 = .ok (.iload 4, 2) := by decide +kernel
theorem dX6_ask_88 : decode cX6_ask 88 = .ok (.invokevirtual 91, 3) := by decide +kernel
theorem dX6_ask_91 : decode cX6_ask 91 = .ok (.ifCond .ne 6, 3) := by decide +kernel
theorem dX6_ask_94 : decode cX6_ask 94 = .ok (.goto 24, 3) := by decide +kernel
theorem dX6_ask_97 : decode cX6_ask 97 = .ok (.iload_n 2, 1) := by decide +kernel
theorem dX6_ask_98 : decode cX6_ask 98 = .ok (.ifCond .lt 17, 3) := by decide +kernel
theorem dX6_ask_101 : decode cX6_ask 101 = .ok (.aload_n 0, 1) := by decide +kernel
theorem dX6_ask_102 : decode cX6_ask 102 = .ok (.iload 4, 2) := by decide +kernel
theorem dX6_ask_104 : decode cX6_ask 104 = .ok (.invokevirtual 145, 3) := by decide +kernel
theorem dX6_ask_107 : decode cX6_ask 107 = .ok (.aload_n 0, 1) := by decide +kernel
theorem dX6_ask_108 : decode cX6_ask 108 = .ok (.iload_n 2, 1) := by decide +kernel
theorem dX6_ask_109 : decode cX6_ask 109 = .ok (.invokevirtual 145, 3) := by decide +kernel
theorem dX6_ask_112 : decode cX6_ask 112 = .ok (.if_icmp .ge 6, 3) := by decide +kernel
theorem dX6_ask_115 : decode cX6_ask 115 = .ok (.iload 4, 2) := by decide +kernel
theorem dX6_ask_117 : decode cX6_ask 117 = .ok (.istore_n 2, 1) := by decide +kernel
theorem dX6_ask_118 : decode cX6_ask 118 = .ok (.iinc 4 1, 3) := by decide +kernel
theorem dX6_ask_121 : decode cX6_ask 121 = .ok (.goto (-95), 3) := by decide +kernel
theorem dX6_ask_124 : decode cX6_ask 124 = .ok (.iload_n 2, 1) := by decide +kernel
theorem dX6_ask_125 : decode cX6_ask 125 = .ok (.ireturn, 1) := by decide +kernel
theorem dX6_spare_0 : decode cX6_spare 0 = .ok (.bipush (-9), 2) := by decide +kernel
theorem dX6_spare_2 : decode cX6_spare 2 = .ok (.istore_n 1, 1) := by decide +kernel
theorem dX6_spare_3 : decode cX6_spare 3 = .ok (.iconst 0, 1) := by decide +kernel
theorem dX6_spare_4 : decode cX6_spare 4 = .ok (.istore_n 2, 1) := by decide +kernel
theorem dX6_spare_5 : decode cX6_spare 5 = .ok (.iload_n 2, 1) := by decide +kernel
theorem dX6_spare_6 : decode cX6_spare 6 = .ok (.iconst 1, 1) := by decide +kernel
theorem dX6_spare_7 : decode cX6_spare 7 = .ok (.aload_n 0, 1) := by decide +kernel
theorem dX6_spare_8 : decode cX6_spare 8 = .ok (.getfield 9, 3) := by decide +kernel
theorem dX6_spare_11 : decode cX6_spare 11 = .ok (.iconst 0, 1) := by decide +kernel
theorem dX6_spare_12 : decode cX6_spare 12 = .ok (.iaload, 1) := by decide +kernel
theorem dX6_spare_13 : decode cX6_spare 13 = .ok (.ishl, 1) := by decide +kernel
theorem dX6_spare_14 : decode cX6_spare 14 = .ok (.if_icmp .ge 155, 3) := by decide +kernel
theorem dX6_spare_17 : decode cX6_spare 17 = .ok (.iload_n 1, 1) := by decide +kernel
theorem dX6_spare_18 : decode cX6_spare 18 = .ok (.ifCond .lt 17, 3) := by decide +kernel
theorem dX6_spare_21 : decode cX6_spare 21 = .ok (.iload_n 2, 1) := by decide +kernel
theorem dX6_spare_22 : decode cX6_spare 22 = .ok (.invokestatic 169, 3) := by decide +kernel
theorem dX6_spare_25 : decode cX6_spare 25 = .ok (.iload_n 1, 1) := by decide +kernel
theorem dX6_spare_26 : decode cX6_spare 26 = .ok (.invokestatic 169, 3) := by decide +kernel
theorem dX6_spare_29 : decode cX6_spare 29 = .ok (.if_icmp .lt 6, 3) := by decide +kernel
theorem dX6_spare_32 : decode cX6_spare 32 = .ok (.goto 131, 3) := by decide +kernel
theorem dX6_spare_35 : decode cX6_spare 35 = .ok (.iconst 0, 1) := by decide +kernel
theorem dX6_spare_36 : decode cX6_spare 36 = .ok (.istore_n 3, 1) := by decide +kernel
theorem dX6_spare_37 : decode cX6_spare 37 = .ok (.iconst 1, 1) := by decide +kernel
theorem dX6_spare_38 : decode cX6_spare 38 = .ok (.istore 4, 2) := by decide +kernel
theorem dX6_spare_40 : decode cX6_spare 40 = .ok (.iconst 0, 1) := by decide +kernel
theorem dX6_spare_41 : decode cX6_spare 41 = .ok (.istore 5, 2) := by decide +kernel
theorem dX6_spare_43 : decode cX6_spare 43 = .ok (.iload 5, 2) := by decide +kernel
theorem dX6_spare_45 : decode cX6_spare 45 = .ok (.aload_n 0, 1) := by decide +kernel
theorem dX6_spare_46 : decode cX6_spare 46 = .ok (.getfield 9, 3) := by decide +kernel
theorem dX6_spare_49 : decode cX6_spare 49 = .ok (.iconst 0, 1) := by decide +kernel
theorem dX6_spare_50 : decode cX6_spare 50 = .ok (.iaload, 1) := by decide +kernel
theorem dX6_spare_51 : decode cX6_spare 51 = .ok (.if_icmp .ge 99, 3) := by decide +kernel
theorem dX6_spare_54 : decode cX6_spare 54 = .ok (.iload_n 2, 1) := by decide +kernel
theorem dX6_spare_55 : decode cX6_spare 55 = .ok (.iload 5, 2) := by decide +kernel
theorem dX6_spare_57 : decode cX6_spare 57 = .ok (.ishr, 1) := by decide +kernel
theorem dX6_spare_58 : decode cX6_spare 58 = .ok (.iconst 1, 1) := by decide +kernel
theorem dX6_spare_59 : decode cX6_spare 59 = .ok (.iand, 1) := by decide +kernel
theorem dX6_spare_60 : decode cX6_spare 60 = .ok (.ifCond .ne 6, 3) := by decide +kernel
theorem dX6_spare_63 : decode cX6_spare 63 = .ok (.goto 81, 3) := by decide +kernel
theorem dX6_spare_66 : decode cX6_spare 66 = .ok (.iload 4, 2) := by decide +kernel
theorem dX6_spare_68 : decode cX6_spare 68 = .ok (.aload_n 0, 1) := by decide +kernel
theorem dX6_spare_69 : decode cX6_spare 69 = .ok (.iload 5, 2) := by decide +kernel
theorem dX6_spare_71 : decode cX6_spare 71 = .ok (.invokevirtual 83, 3) := by decide +kernel
theorem dX6_spare_74 : decode cX6_spare 74 = .ok (.ifCond .ne 7, 3) := by decide +kernel
theorem dX6_spare_77 : decode cX6_spare 77 = .ok (.iconst 1, 1) := by decide +kernel
theorem dX6_spare_78 : decode cX6_spare 78 = .ok (.goto 4, 3) := by decide +kernel
theorem dX6_spare_81 : decode cX6_spare 81 = .ok (.iconst 0, 1) := by decide +kernel
theorem dX6_spare_82 : decode cX6_spare 82 = .ok (.iand, 1) := by decide +kernel
theorem dX6_spare_83 : decode cX6_spare 83 = .ok (.istore 4, 2) := by decide +kernel
theorem dX6_spare_85 : decode cX6_spare 85 = .ok (.iconst 0, 1) := by decide +kernel
theorem dX6_spare_86 : decode cX6_spare 86 = .ok (.istore 6, 2) := by decide +kernel
theorem dX6_spare_88 : decode cX6_spare 88 = .ok (.iload 6, 2) := by decide +kernel
theorem dX6_spare_90 : decode cX6_spare 90 = .ok (.iconst 5, 1) := by decide +kernel
theorem dX6_spare_91 : decode cX6_spare 91 = .ok (.if_icmp .ge 53, 3) := by decide +kernel
theorem dX6_spare_94 : decode cX6_spare 94 = .ok (.iload_n 3, 1) := by decide +kernel
theorem dX6_spare_95 : decode cX6_spare 95 = .ok (.aload_n 0, 1) := by decide +kernel
theorem dX6_spare_96 : decode cX6_spare 96 = .ok (.getfield 9, 3) := by decide +kernel
theorem dX6_spare_99 : decode cX6_spare 99 = .ok (.iload 5, 2) := by decide +kernel
theorem dX6_spare_101 : decode cX6_spare 101 = .ok (.iload 6, 2) := by decide +kernel
theorem dX6_spare_103 : decode cX6_spare 103 = .ok (.invokestatic 45, 3) := by decide +kernel
theorem dX6_spare_106 : decode cX6_spare 106 = .ok (.iaload, 1) := by decide +kernel
theorem dX6_spare_107 : decode cX6_spare 107 = .ok (.aload_n 0, 1) := by decide +kernel
theorem dX6_spare_108 : decode cX6_spare 108 = .ok (.getfield 9, 3) := by decide +kernel
theorem dX6_spare_111 : decode cX6_spare 111 = .ok (.iconst 4, 1) := by decide +kernel
theorem dX6_spare_112 : decode cX6_spare 112 = .ok (.iload 6, 2) := by decide +kernel
theorem dX6_spare_114 : decode cX6_spare 114 = .ok (.iadd, 1) := by decide +kernel
theorem dX6_spare_115 : decode cX6_spare 115 = .ok (.iaload, 1) := by decide +kernel
theorem dX6_spare_116 : decode cX6_spare 116 = .ok (.invokestatic 69, 3) := by decide +kernel
theorem dX6_spare_119 : decode cX6_spare 119 = .ok (.aload_n 0, 1) := by decide +kernel
theorem dX6_spare_120 : decode cX6_spare 120 = .ok (.getfield 9, 3) := by decide +kernel
theorem dX6_spare_123 : decode cX6_spare 123 = .ok (.iconst 3, 1) := by decide +kernel
theorem dX6_spare_124 : decode cX6_spare 124 = .ok (.iaload, 1) := by decide +kernel
theorem dX6_spare_125 : decode cX6_spare 125 = .ok (.if_icmp .gt 10, 3) := by decide +kernel
theorem dX6_spare_128 : decode cX6_spare 128 = .ok (.iconst 1, 1) := by decide +kernel
theorem dX6_spare_129 : decode cX6_spare 129 = .ok (.iload 6, 2) := by decide +kernel
theorem dX6_spare_131 : decode cX6_spare 131 = .ok (.ishl, 1) := by decide +kernel
theorem dX6_spare_132 : decode cX6_spare 132 = .ok (.goto 4, 3) := by decide +kernel
theorem dX6_spare_135 : decode cX6_spare 135 = .ok (.iconst 0, 1) := by decide +kernel
theorem dX6_spare_136 : decode cX6_spare 136 = .ok (.ior, 1) := by decide +kernel
theorem dX6_spare_137 : decode cX6_spare 137 = .ok (.istore_n 3, 1) := by decide +kernel
theorem dX6_spare_138 : decode cX6_spare 138 = .ok (.iinc 6 1, 3) := by decide +kernel
theorem dX6_spare_141 : decode cX6_spare 141 = .ok (.goto (-53), 3) := by decide +kernel
theorem dX6_spare_144 : decode cX6_spare 144 = .ok (.iinc 5 1, 3) := by decide +kernel
theorem dX6_spare_147 : decode cX6_spare 147 = .ok (.goto (-104), 3) := by decide +kernel
theorem dX6_spare_150 : decode cX6_spare 150 = .ok (.iload 4, 2) := by decide +kernel
theorem dX6_spare_152 : decode cX6_spare 152 = .ok (.ifCond .eq 11, 3) := by decide +kernel
theorem dX6_spare_155 : decode cX6_spare 155 = .ok (.iload_n 3, 1) := by decide +kernel
theorem dX6_spare_156 : decode cX6_spare 156 = .ok (.bipush 31, 2) := by decide +kernel
theorem dX6_spare_158 : decode cX6_spare 158 = .ok (.if_icmp .ne 5, 3) := by decide +kernel
theorem dX6_spare_161 : decode cX6_spare 161 = .ok (.iload_n 2, 1) := by decide +kernel
theorem dX6_spare_162 : decode cX6_spare 162 = .ok (.istore_n 1, 1) := by decide +kernel
theorem dX6_spare_163 : decode cX6_spare 163 = .ok (.iinc 2 1, 3) := by decide +kernel
theorem dX6_spare_166 : decode cX6_spare 166 = .ok (.goto (-161), 3) := by decide +kernel
theorem dX6_spare_169 : decode cX6_spare 169 = .ok (.iload_n 1, 1) := by decide +kernel
theorem dX6_spare_170 : decode cX6_spare 170 = .ok (.ireturn, 1) := by decide +kernel
theorem dX6_gcd_0 : decode cX6_gcd 0 = .ok (.lload_n 0, 1) := by decide +kernel
theorem dX6_gcd_1 : decode cX6_gcd 1 = .ok (.lstore 4, 2) := by decide +kernel
theorem dX6_gcd_3 : decode cX6_gcd 3 = .ok (.lload_n 2, 1) := by decide +kernel
theorem dX6_gcd_4 : decode cX6_gcd 4 = .ok (.lstore 6, 2) := by decide +kernel
theorem dX6_gcd_6 : decode cX6_gcd 6 = .ok (.lload 6, 2) := by decide +kernel
theorem dX6_gcd_8 : decode cX6_gcd 8 = .ok (.lconst 0, 1) := by decide +kernel
theorem dX6_gcd_9 : decode cX6_gcd 9 = .ok (.lcmp, 1) := by decide +kernel
theorem dX6_gcd_10 : decode cX6_gcd 10 = .ok (.ifCond .eq 21, 3) := by decide +kernel
theorem dX6_gcd_13 : decode cX6_gcd 13 = .ok (.lload 4, 2) := by decide +kernel
theorem dX6_gcd_15 : decode cX6_gcd 15 = .ok (.lload 6, 2) := by decide +kernel
theorem dX6_gcd_17 : decode cX6_gcd 17 = .ok (.lrem, 1) := by decide +kernel
theorem dX6_gcd_18 : decode cX6_gcd 18 = .ok (.lstore 8, 2) := by decide +kernel
theorem dX6_gcd_20 : decode cX6_gcd 20 = .ok (.lload 6, 2) := by decide +kernel
theorem dX6_gcd_22 : decode cX6_gcd 22 = .ok (.lstore 4, 2) := by decide +kernel
theorem dX6_gcd_24 : decode cX6_gcd 24 = .ok (.lload 8, 2) := by decide +kernel
theorem dX6_gcd_26 : decode cX6_gcd 26 = .ok (.lstore 6, 2) := by decide +kernel
theorem dX6_gcd_28 : decode cX6_gcd 28 = .ok (.goto (-22), 3) := by decide +kernel
theorem dX6_gcd_31 : decode cX6_gcd 31 = .ok (.lload 4, 2) := by decide +kernel
theorem dX6_gcd_33 : decode cX6_gcd 33 = .ok (.lreturn, 1) := by decide +kernel
theorem dX6_partOf_0 : decode cX6_partOf 0 = .ok (.lload_n 0, 1) := by decide +kernel
theorem dX6_partOf_1 : decode cX6_partOf 1 = .ok (.lconst 0, 1) := by decide +kernel
theorem dX6_partOf_2 : decode cX6_partOf 2 = .ok (.lcmp, 1) := by decide +kernel
theorem dX6_partOf_3 : decode cX6_partOf 3 = .ok (.ifCond .ne 7, 3) := by decide +kernel
theorem dX6_partOf_6 : decode cX6_partOf 6 = .ok (.iload 4, 2) := by decide +kernel
theorem dX6_partOf_8 : decode cX6_partOf 8 = .ok (.i2l, 1) := by decide +kernel
theorem dX6_partOf_9 : decode cX6_partOf 9 = .ok (.lreturn, 1) := by decide +kernel
theorem dX6_partOf_10 : decode cX6_partOf 10 = .ok (.iload 4, 2) := by decide +kernel
theorem dX6_partOf_12 : decode cX6_partOf 12 = .ok (.ifCond .ne 7, 3) := by decide +kernel
theorem dX6_partOf_15 : decode cX6_partOf 15 = .ok (.lload_n 0, 1) := by decide +kernel
theorem dX6_partOf_16 : decode cX6_partOf 16 = .ok (.goto 4, 3) := by decide +kernel
theorem dX6_partOf_19 : decode cX6_partOf 19 = .ok (.lload_n 2, 1) := by decide +kernel
theorem dX6_partOf_20 : decode cX6_partOf 20 = .ok (.lload_n 0, 1) := by decide +kernel
theorem dX6_partOf_21 : decode cX6_partOf 21 = .ok (.lload_n 2, 1) := by decide +kernel
theorem dX6_partOf_22 : decode cX6_partOf 22 = .ok (.invokestatic 187, 3) := by decide +kernel
theorem dX6_partOf_25 : decode cX6_partOf 25 = .ok (.ldiv, 1) := by decide +kernel
theorem dX6_partOf_26 : decode cX6_partOf 26 = .ok (.lreturn, 1) := by decide +kernel
theorem dX6_slip_0 : decode cX6_slip 0 = .ok (.aload_n 0, 1) := by decide +kernel
theorem dX6_slip_1 : decode cX6_slip 1 = .ok (.iload_n 1, 1) := by decide +kernel
theorem dX6_slip_2 : decode cX6_slip 2 = .ok (.invokevirtual 120, 3) := by decide +kernel
theorem dX6_slip_5 : decode cX6_slip 5 = .ok (.ifCond .eq 11, 3) := by decide +kernel
theorem dX6_slip_8 : decode cX6_slip 8 = .ok (.aload_n 0, 1) := by decide +kernel
theorem dX6_slip_9 : decode cX6_slip 9 = .ok (.iload_n 2, 1) := by decide +kernel
theorem dX6_slip_10 : decode cX6_slip 10 = .ok (.invokevirtual 123, 3) := by decide +kernel
theorem dX6_slip_13 : decode cX6_slip 13 = .ok (.ifCond .ne 9, 3) := by decide +kernel
theorem dX6_slip_16 : decode cX6_slip 16 = .ok (.aload_n 0, 1) := by decide +kernel
theorem dX6_slip_17 : decode cX6_slip 17 = .ok (.iconst (-1), 1) := by decide +kernel
theorem dX6_slip_18 : decode cX6_slip 18 = .ok (.invokevirtual 191, 3) := by decide +kernel
theorem dX6_slip_21 : decode cX6_slip 21 = .ok (.lreturn, 1) := by decide +kernel
theorem dX6_slip_22 : decode cX6_slip 22 = .ok (.iload_n 3, 1) := by decide +kernel
theorem dX6_slip_23 : decode cX6_slip 23 = .ok (.ifCond .lt 9, 3) := by decide +kernel
theorem dX6_slip_26 : decode cX6_slip 26 = .ok (.iload 4, 2) := by decide +kernel
theorem dX6_slip_28 : decode cX6_slip 28 = .ok (.iconst 2, 1) := by decide +kernel
theorem dX6_slip_29 : decode cX6_slip 29 = .ok (.if_icmp .ge 10, 3) := by decide +kernel
theorem dX6_slip_32 : decode cX6_slip 32 = .ok (.aload_n 0, 1) := by decide +kernel
theorem dX6_slip_33 : decode cX6_slip 33 = .ok (.bipush (-4), 2) := by decide +kernel
theorem dX6_slip_35 : decode cX6_slip 35 = .ok (.invokevirtual 191, 3) := by decide +kernel
theorem dX6_slip_38 : decode cX6_slip 38 = .ok (.lreturn, 1) := by decide +kernel
theorem dX6_slip_39 : decode cX6_slip 39 = .ok (.iload_n 3, 1) := by decide +kernel
theorem dX6_slip_40 : decode cX6_slip 40 = .ok (.bipush 6, 2) := by decide +kernel
theorem dX6_slip_42 : decode cX6_slip 42 = .ok (.if_icmp .gt 10, 3) := by decide +kernel
theorem dX6_slip_45 : decode cX6_slip 45 = .ok (.iload 4, 2) := by decide +kernel
theorem dX6_slip_47 : decode cX6_slip 47 = .ok (.bipush 20, 2) := by decide +kernel
theorem dX6_slip_49 : decode cX6_slip 49 = .ok (.if_icmp .le 10, 3) := by decide +kernel
theorem dX6_slip_52 : decode cX6_slip 52 = .ok (.aload_n 0, 1) := by decide +kernel
theorem dX6_slip_53 : decode cX6_slip 53 = .ok (.bipush (-6), 2) := by decide +kernel
theorem dX6_slip_55 : decode cX6_slip 55 = .ok (.invokevirtual 191, 3) := by decide +kernel
theorem dX6_slip_58 : decode cX6_slip 58 = .ok (.lreturn, 1) := by decide +kernel
theorem dX6_slip_59 : decode cX6_slip 59 = .ok (.iload 5, 2) := by decide +kernel
theorem dX6_slip_61 : decode cX6_slip 61 = .ok (.iconst 0, 1) := by decide +kernel
theorem dX6_slip_62 : decode cX6_slip 62 = .ok (.iconst 1, 1) := by decide +kernel
theorem dX6_slip_63 : decode cX6_slip 63 = .ok (.invokestatic 41, 3) := by decide +kernel
theorem dX6_slip_66 : decode cX6_slip 66 = .ok (.ifCond .ne 10, 3) := by decide +kernel
theorem dX6_slip_69 : decode cX6_slip 69 = .ok (.aload_n 0, 1) := by decide +kernel
theorem dX6_slip_70 : decode cX6_slip 70 = .ok (.bipush (-2), 2) := by decide +kernel
theorem dX6_slip_72 : decode cX6_slip 72 = .ok (.invokevirtual 191, 3) := by decide +kernel
theorem dX6_slip_75 : decode cX6_slip 75 = .ok (.lreturn, 1) := by decide +kernel
theorem dX6_slip_76 : decode cX6_slip 76 = .ok (.lconst 0, 1) := by decide +kernel
theorem dX6_slip_77 : decode cX6_slip 77 = .ok (.lstore 6, 2) := by decide +kernel
theorem dX6_slip_79 : decode cX6_slip 79 = .ok (.lconst 1, 1) := by decide +kernel
theorem dX6_slip_80 : decode cX6_slip 80 = .ok (.lstore 8, 2) := by decide +kernel
theorem dX6_slip_82 : decode cX6_slip 82 = .ok (.iconst 0, 1) := by decide +kernel
theorem dX6_slip_83 : decode cX6_slip 83 = .ok (.istore 10, 2) := by decide +kernel
theorem dX6_slip_85 : decode cX6_slip 85 = .ok (.iload 10, 2) := by decide +kernel
theorem dX6_slip_87 : decode cX6_slip 87 = .ok (.iload_n 3, 1) := by decide +kernel
theorem dX6_slip_88 : decode cX6_slip 88 = .ok (.if_icmp .ge 17, 3) := by decide +kernel
theorem dX6_slip_91 : decode cX6_slip 91 = .ok (.lload 8, 2) := by decide +kernel
theorem dX6_slip_93 : decode cX6_slip 93 = .ok (.iload 4, 2) := by decide +kernel
theorem dX6_slip_95 : decode cX6_slip 95 = .ok (.i2l, 1) := by decide +kernel
theorem dX6_slip_96 : decode cX6_slip 96 = .ok (.lmul, 1) := by decide +kernel
theorem dX6_slip_97 : decode cX6_slip 97 = .ok (.lstore 8, 2) := by decide +kernel
theorem dX6_slip_99 : decode cX6_slip 99 = .ok (.iinc 10 1, 3) := by decide +kernel
theorem dX6_slip_102 : decode cX6_slip 102 = .ok (.goto (-17), 3) := by decide +kernel
theorem dX6_slip_105 : decode cX6_slip 105 = .ok (.iconst 0, 1) := by decide +kernel
theorem dX6_slip_106 : decode cX6_slip 106 = .ok (.istore 10, 2) := by decide +kernel
theorem dX6_slip_108 : decode cX6_slip 108 = .ok (.iload 10, 2) := by decide +kernel
theorem dX6_slip_110 : decode cX6_slip 110 = .ok (.iconst 1, 1) := by decide +kernel
theorem dX6_slip_111 : decode cX6_slip 111 = .ok (.iload_n 3, 1) := by decide +kernel
theorem dX6_slip_112 : decode cX6_slip 112 = .ok (.ishl, 1) := by decide +kernel
theorem dX6_slip_113 : decode cX6_slip 113 = .ok (.if_icmp .ge 114, 3) := by decide +kernel
theorem dX6_slip_116 : decode cX6_slip 116 = .ok (.lconst 1, 1) := by decide +kernel
theorem dX6_slip_117 : decode cX6_slip 117 = .ok (.lstore 11, 2) := by decide +kernel
theorem dX6_slip_119 : decode cX6_slip 119 = .ok (.aload_n 0, 1) := by decide +kernel
theorem dX6_slip_120 : decode cX6_slip 120 = .ok (.iload_n 1, 1) := by decide +kernel
theorem dX6_slip_121 : decode cX6_slip 121 = .ok (.invokevirtual 76, 3) := by decide +kernel
theorem dX6_slip_124 : decode cX6_slip 124 = .ok (.iconst 0, 1) := by decide +kernel
theorem dX6_slip_125 : decode cX6_slip 125 = .ok (.istore 13, 2) := by decide +kernel
theorem dX6_slip_127 : decode cX6_slip 127 = .ok (.iload 13, 2) := by decide +kernel
theorem dX6_slip_129 : decode cX6_slip 129 = .ok (.iload_n 3, 1) := by decide +kernel
theorem dX6_slip_130 : decode cX6_slip 130 = .ok (.if_icmp .ge 61, 3) := by decide +kernel
theorem dX6_slip_133 : decode cX6_slip 133 = .ok (.iload 10, 2) := by decide +kernel
theorem dX6_slip_135 : decode cX6_slip 135 = .ok (.iload 13, 2) := by decide +kernel
theorem dX6_slip_137 : decode cX6_slip 137 = .ok (.ishr, 1) := by decide +kernel
theorem dX6_slip_138 : decode cX6_slip 138 = .ok (.iconst 1, 1) := by decide +kernel
theorem dX6_slip_139 : decode cX6_slip 139 = .ok (.iand, 1) := by decide +kernel
theorem dX6_slip_140 : decode cX6_slip 140 = .ok (.iconst 1, 1) := by decide +kernel
theorem dX6_slip_141 : decode cX6_slip 141 = .ok (.if_icmp .ne 7, 3) := by decide +kernel
theorem dX6_slip_144 : decode cX6_slip 144 = .ok (.iconst 1, 1) := by decide +kernel
theorem dX6_slip_145 : decode cX6_slip 145 = .ok (.goto 4, 3) := by decide +kernel
theorem dX6_slip_148 : decode cX6_slip 148 = .ok (.iconst 0, 1) := by decide +kernel
theorem dX6_slip_149 : decode cX6_slip 149 = .ok (.istore 14, 2) := by decide +kernel
theorem dX6_slip_151 : decode cX6_slip 151 = .ok (.lload 11, 2) := by decide +kernel
theorem dX6_slip_153 : decode cX6_slip 153 = .ok (.iload 14, 2) := by decide +kernel
theorem dX6_slip_155 : decode cX6_slip 155 = .ok (.ifCond .eq 7, 3) := by decide +kernel
theorem dX6_slip_158 : decode cX6_slip 158 = .ok (.lconst 1, 1) := by decide +kernel
theorem dX6_slip_159 : decode cX6_slip 159 = .ok (.goto 8, 3) := by decide +kernel
theorem dX6_slip_162 : decode cX6_slip 162 = .ok (.iload 4, 2) := by decide +kernel
theorem dX6_slip_164 : decode cX6_slip 164 = .ok (.iconst 1, 1) := by decide +kernel
theorem dX6_slip_165 : decode cX6_slip 165 = .ok (.isub, 1) := by decide +kernel
theorem dX6_slip_166 : decode cX6_slip 166 = .ok (.i2l, 1) := by decide +kernel
theorem dX6_slip_167 : decode cX6_slip 167 = .ok (.lmul, 1) := by decide +kernel
theorem dX6_slip_168 : decode cX6_slip 168 = .ok (.lstore 11, 2) := by decide +kernel
theorem dX6_slip_170 : decode cX6_slip 170 = .ok (.aload_n 0, 1) := by decide +kernel
theorem dX6_slip_171 : decode cX6_slip 171 = .ok (.iload_n 2, 1) := by decide +kernel
theorem dX6_slip_172 : decode cX6_slip 172 = .ok (.iload 14, 2) := by decide +kernel
theorem dX6_slip_174 : decode cX6_slip 174 = .ok (.ifCond .eq 7, 3) := by decide +kernel
theorem dX6_slip_177 : decode cX6_slip 177 = .ok (.iconst 1, 1) := by decide +kernel
theorem dX6_slip_178 : decode cX6_slip 178 = .ok (.goto 4, 3) := by decide +kernel
theorem dX6_slip_181 : decode cX6_slip 181 = .ok (.iconst 0, 1) := by decide +kernel
theorem dX6_slip_182 : decode cX6_slip 182 = .ok (.invokevirtual 117, 3) := by decide +kernel
theorem dX6_slip_185 : decode cX6_slip 185 = .ok (.iinc 13 1, 3) := by decide +kernel
theorem dX6_slip_188 : decode cX6_slip 188 = .ok (.goto (-61), 3) := by decide +kernel
theorem dX6_slip_191 : decode cX6_slip 191 = .ok (.lload 6, 2) := by decide +kernel
theorem dX6_slip_193 : decode cX6_slip 193 = .ok (.aload_n 0, 1) := by decide +kernel
theorem dX6_slip_194 : decode cX6_slip 194 = .ok (.invokevirtual 87, 3) := by decide +kernel
theorem dX6_slip_197 : decode cX6_slip 197 = .ok (.ifCond .eq 20, 3) := by decide +kernel
theorem dX6_slip_200 : decode cX6_slip 200 = .ok (.iload_n 3, 1) := by decide +kernel
theorem dX6_slip_201 : decode cX6_slip 201 = .ok (.ifCond .gt 11, 3) := by decide +kernel
theorem dX6_slip_204 : decode cX6_slip 204 = .ok (.aload_n 0, 1) := by decide +kernel
theorem dX6_slip_205 : decode cX6_slip 205 = .ok (.iload_n 1, 1) := by decide +kernel
theorem dX6_slip_206 : decode cX6_slip 206 = .ok (.invokevirtual 83, 3) := by decide +kernel
theorem dX6_slip_209 : decode cX6_slip 209 = .ok (.ifCond .ne 8, 3) := by decide +kernel
theorem dX6_slip_212 : decode cX6_slip 212 = .ok (.lload 11, 2) := by decide +kernel
theorem dX6_slip_214 : decode cX6_slip 214 = .ok (.goto 4, 3) := by decide +kernel
theorem dX6_slip_217 : decode cX6_slip 217 = .ok (.lconst 0, 1) := by decide +kernel
theorem dX6_slip_218 : decode cX6_slip 218 = .ok (.ladd, 1) := by decide +kernel
theorem dX6_slip_219 : decode cX6_slip 219 = .ok (.lstore 6, 2) := by decide +kernel
theorem dX6_slip_221 : decode cX6_slip 221 = .ok (.iinc 10 1, 3) := by decide +kernel
theorem dX6_slip_224 : decode cX6_slip 224 = .ok (.goto (-116), 3) := by decide +kernel
theorem dX6_slip_227 : decode cX6_slip 227 = .ok (.lload 6, 2) := by decide +kernel
theorem dX6_slip_229 : decode cX6_slip 229 = .ok (.lload 8, 2) := by decide +kernel
theorem dX6_slip_231 : decode cX6_slip 231 = .ok (.iload 5, 2) := by decide +kernel
theorem dX6_slip_233 : decode cX6_slip 233 = .ok (.invokestatic 195, 3) := by decide +kernel
theorem dX6_slip_236 : decode cX6_slip 236 = .ok (.lreturn, 1) := by decide +kernel
theorem dX6_lastHeight_0 : decode cX6_lastHeight 0 = .ok (.aload_n 0, 1) := by decide +kernel
theorem dX6_lastHeight_1 : decode cX6_lastHeight 1 = .ok (.iload_n 1, 1) := by decide +kernel
theorem dX6_lastHeight_2 : decode cX6_lastHeight 2 = .ok (.invokevirtual 76, 3) := by decide +kernel
theorem dX6_lastHeight_5 : decode cX6_lastHeight 5 = .ok (.aload_n 0, 1) := by decide +kernel
theorem dX6_lastHeight_6 : decode cX6_lastHeight 6 = .ok (.iload_n 3, 1) := by decide +kernel
theorem dX6_lastHeight_7 : decode cX6_lastHeight 7 = .ok (.iconst 0, 1) := by decide +kernel
theorem dX6_lastHeight_8 : decode cX6_lastHeight 8 = .ok (.invokevirtual 117, 3) := by decide +kernel
theorem dX6_lastHeight_11 : decode cX6_lastHeight 11 = .ok (.aload_n 0, 1) := by decide +kernel
theorem dX6_lastHeight_12 : decode cX6_lastHeight 12 = .ok (.iload 4, 2) := by decide +kernel
theorem dX6_lastHeight_14 : decode cX6_lastHeight 14 = .ok (.iconst 0, 1) := by decide +kernel
theorem dX6_lastHeight_15 : decode cX6_lastHeight 15 = .ok (.invokevirtual 117, 3) := by decide +kernel
theorem dX6_lastHeight_18 : decode cX6_lastHeight 18 = .ok (.aload_n 0, 1) := by decide +kernel
theorem dX6_lastHeight_19 : decode cX6_lastHeight 19 = .ok (.getfield 28, 3) := by decide +kernel
theorem dX6_lastHeight_22 : decode cX6_lastHeight 22 = .ok (.iload_n 2, 1) := by decide +kernel
theorem dX6_lastHeight_23 : decode cX6_lastHeight 23 = .ok (.iaload, 1) := by decide +kernel
theorem dX6_lastHeight_24 : decode cX6_lastHeight 24 = .ok (.ireturn, 1) := by decide +kernel
theorem dX6_two_0 : decode cX6_two 0 = .ok (.aload_n 0, 1) := by decide +kernel
theorem dX6_two_1 : decode cX6_two 1 = .ok (.iload_n 1, 1) := by decide +kernel
theorem dX6_two_2 : decode cX6_two 2 = .ok (.invokevirtual 120, 3) := by decide +kernel
theorem dX6_two_5 : decode cX6_two 5 = .ok (.ifCond .eq 10, 3) := by decide +kernel
theorem dX6_two_8 : decode cX6_two 8 = .ok (.iload_n 2, 1) := by decide +kernel
theorem dX6_two_9 : decode cX6_two 9 = .ok (.invokestatic 142, 3) := by decide +kernel
theorem dX6_two_12 : decode cX6_two 12 = .ok (.ifCond .ne 9, 3) := by decide +kernel
theorem dX6_two_15 : decode cX6_two 15 = .ok (.aload_n 0, 1) := by decide +kernel
theorem dX6_two_16 : decode cX6_two 16 = .ok (.iconst (-1), 1) := by decide +kernel
theorem dX6_two_17 : decode cX6_two 17 = .ok (.invokevirtual 35, 3) := by decide +kernel
theorem dX6_two_20 : decode cX6_two 20 = .ok (.ireturn, 1) := by decide +kernel
theorem dX6_two_21 : decode cX6_two 21 = .ok (.iconst 0, 1) := by decide +kernel
theorem dX6_two_22 : decode cX6_two 22 = .ok (.istore_n 3, 1) := by decide +kernel
theorem dX6_two_23 : decode cX6_two 23 = .ok (.iload_n 3, 1) := by decide +kernel
theorem dX6_two_24 : decode cX6_two 24 = .ok (.aload_n 0, 1) := by decide +kernel
theorem dX6_two_25 : decode cX6_two 25 = .ok (.getfield 9, 3) := by decide +kernel
theorem dX6_two_28 : decode cX6_two 28 = .ok (.iconst 1, 1) := by decide +kernel
theorem dX6_two_29 : decode cX6_two 29 = .ok (.iaload, 1) := by decide +kernel
theorem dX6_two_30 : decode cX6_two 30 = .ok (.if_icmp .ge 115, 3) := by decide +kernel
theorem dX6_two_33 : decode cX6_two 33 = .ok (.iconst 0, 1) := by decide +kernel
theorem dX6_two_34 : decode cX6_two 34 = .ok (.istore 4, 2) := by decide +kernel
theorem dX6_two_36 : decode cX6_two 36 = .ok (.iload 4, 2) := by decide +kernel
theorem dX6_two_38 : decode cX6_two 38 = .ok (.aload_n 0, 1) := by decide +kernel
theorem dX6_two_39 : decode cX6_two 39 = .ok (.getfield 9, 3) := by decide +kernel
theorem dX6_two_42 : decode cX6_two 42 = .ok (.iconst 1, 1) := by decide +kernel
theorem dX6_two_43 : decode cX6_two 43 = .ok (.iaload, 1) := by decide +kernel
theorem dX6_two_44 : decode cX6_two 44 = .ok (.if_icmp .ge 95, 3) := by decide +kernel
theorem dX6_two_47 : decode cX6_two 47 = .ok (.aload_n 0, 1) := by decide +kernel
theorem dX6_two_48 : decode cX6_two 48 = .ok (.iload_n 1, 1) := by decide +kernel
theorem dX6_two_49 : decode cX6_two 49 = .ok (.iload_n 2, 1) := by decide +kernel
theorem dX6_two_50 : decode cX6_two 50 = .ok (.iload_n 3, 1) := by decide +kernel
theorem dX6_two_51 : decode cX6_two 51 = .ok (.iload 4, 2) := by decide +kernel
theorem dX6_two_53 : decode cX6_two 53 = .ok (.invokevirtual 199, 3) := by decide +kernel
theorem dX6_two_56 : decode cX6_two 56 = .ok (.istore 5, 2) := by decide +kernel
theorem dX6_two_58 : decode cX6_two 58 = .ok (.iconst 1, 1) := by decide +kernel
theorem dX6_two_59 : decode cX6_two 59 = .ok (.istore 6, 2) := by decide +kernel
theorem dX6_two_61 : decode cX6_two 61 = .ok (.iconst 0, 1) := by decide +kernel
theorem dX6_two_62 : decode cX6_two 62 = .ok (.istore 7, 2) := by decide +kernel
theorem dX6_two_64 : decode cX6_two 64 = .ok (.iload 7, 2) := by decide +kernel
theorem dX6_two_66 : decode cX6_two 66 = .ok (.aload_n 0, 1) := by decide +kernel
theorem dX6_two_67 : decode cX6_two 67 = .ok (.getfield 9, 3) := by decide +kernel
theorem dX6_two_70 : decode cX6_two 70 = .ok (.iconst 1, 1) := by decide +kernel
theorem dX6_two_71 : decode cX6_two 71 = .ok (.iaload, 1) := by decide +kernel
theorem dX6_two_72 : decode cX6_two 72 = .ok (.if_icmp .ge 48, 3) := by decide +kernel
theorem dX6_two_75 : decode cX6_two 75 = .ok (.iload 6, 2) := by decide +kernel
theorem dX6_two_77 : decode cX6_two 77 = .ok (.aload_n 0, 1) := by decide +kernel
theorem dX6_two_78 : decode cX6_two 78 = .ok (.iload_n 1, 1) := by decide +kernel
theorem dX6_two_79 : decode cX6_two 79 = .ok (.iload_n 2, 1) := by decide +kernel
theorem dX6_two_80 : decode cX6_two 80 = .ok (.iload 7, 2) := by decide +kernel
theorem dX6_two_82 : decode cX6_two 82 = .ok (.iload 4, 2) := by decide +kernel
theorem dX6_two_84 : decode cX6_two 84 = .ok (.invokevirtual 199, 3) := by decide +kernel
theorem dX6_two_87 : decode cX6_two 87 = .ok (.iload 5, 2) := by decide +kernel
theorem dX6_two_89 : decode cX6_two 89 = .ok (.if_icmp .gt 21, 3) := by decide +kernel
theorem dX6_two_92 : decode cX6_two 92 = .ok (.aload_n 0, 1) := by decide +kernel
theorem dX6_two_93 : decode cX6_two 93 = .ok (.iload_n 1, 1) := by decide +kernel
theorem dX6_two_94 : decode cX6_two 94 = .ok (.iload_n 2, 1) := by decide +kernel
theorem dX6_two_95 : decode cX6_two 95 = .ok (.iload_n 3, 1) := by decide +kernel
theorem dX6_two_96 : decode cX6_two 96 = .ok (.iload 7, 2) := by decide +kernel
theorem dX6_two_98 : decode cX6_two 98 = .ok (.invokevirtual 199, 3) := by decide +kernel
theorem dX6_two_101 : decode cX6_two 101 = .ok (.iload 5, 2) := by decide +kernel
theorem dX6_two_103 : decode cX6_two 103 = .ok (.if_icmp .lt 7, 3) := by decide +kernel
theorem dX6_two_106 : decode cX6_two 106 = .ok (.iconst 1, 1) := by decide +kernel
theorem dX6_two_107 : decode cX6_two 107 = .ok (.goto 4, 3) := by decide +kernel
theorem dX6_two_110 : decode cX6_two 110 = .ok (.iconst 0, 1) := by decide +kernel
theorem dX6_two_111 : decode cX6_two 111 = .ok (.iand, 1) := by decide +kernel
theorem dX6_two_112 : decode cX6_two 112 = .ok (.istore 6, 2) := by decide +kernel
theorem dX6_two_114 : decode cX6_two 114 = .ok (.iinc 7 1, 3) := by decide +kernel
theorem dX6_two_117 : decode cX6_two 117 = .ok (.goto (-53), 3) := by decide +kernel
theorem dX6_two_120 : decode cX6_two 120 = .ok (.iload 6, 2) := by decide +kernel
theorem dX6_two_122 : decode cX6_two 122 = .ok (.ifCond .eq 11, 3) := by decide +kernel
theorem dX6_two_125 : decode cX6_two 125 = .ok (.bipush 10, 2) := by decide +kernel
theorem dX6_two_127 : decode cX6_two 127 = .ok (.iload_n 3, 1) := by decide +kernel
theorem dX6_two_128 : decode cX6_two 128 = .ok (.imul, 1) := by decide +kernel
theorem dX6_two_129 : decode cX6_two 129 = .ok (.iload 4, 2) := by decide +kernel
theorem dX6_two_131 : decode cX6_two 131 = .ok (.iadd, 1) := by decide +kernel
theorem dX6_two_132 : decode cX6_two 132 = .ok (.ireturn, 1) := by decide +kernel
theorem dX6_two_133 : decode cX6_two 133 = .ok (.iinc 4 1, 3) := by decide +kernel
theorem dX6_two_136 : decode cX6_two 136 = .ok (.goto (-100), 3) := by decide +kernel
theorem dX6_two_139 : decode cX6_two 139 = .ok (.iinc 3 1, 3) := by decide +kernel
theorem dX6_two_142 : decode cX6_two 142 = .ok (.goto (-119), 3) := by decide +kernel
theorem dX6_two_145 : decode cX6_two 145 = .ok (.bipush (-9), 2) := by decide +kernel
theorem dX6_two_147 : decode cX6_two 147 = .ok (.ireturn, 1) := by decide +kernel
theorem dX6_isTold_0 : decode cX6_isTold 0 = .ok (.iconst 1, 1) := by decide +kernel
theorem dX6_isTold_1 : decode cX6_isTold 1 = .ok (.istore_n 1, 1) := by decide +kernel
theorem dX6_isTold_2 : decode cX6_isTold 2 = .ok (.iconst 0, 1) := by decide +kernel
theorem dX6_isTold_3 : decode cX6_isTold 3 = .ok (.istore_n 2, 1) := by decide +kernel
theorem dX6_isTold_4 : decode cX6_isTold 4 = .ok (.iload_n 2, 1) := by decide +kernel
theorem dX6_isTold_5 : decode cX6_isTold 5 = .ok (.iconst 5, 1) := by decide +kernel
theorem dX6_isTold_6 : decode cX6_isTold 6 = .ok (.if_icmp .ge 32, 3) := by decide +kernel
theorem dX6_isTold_9 : decode cX6_isTold 9 = .ok (.iload_n 1, 1) := by decide +kernel
theorem dX6_isTold_10 : decode cX6_isTold 10 = .ok (.aload_n 0, 1) := by decide +kernel
theorem dX6_isTold_11 : decode cX6_isTold 11 = .ok (.getfield 28, 3) := by decide +kernel
theorem dX6_isTold_14 : decode cX6_isTold 14 = .ok (.iload_n 2, 1) := by decide +kernel
theorem dX6_isTold_15 : decode cX6_isTold 15 = .ok (.iaload, 1) := by decide +kernel
theorem dX6_isTold_16 : decode cX6_isTold 16 = .ok (.aload_n 0, 1) := by decide +kernel
theorem dX6_isTold_17 : decode cX6_isTold 17 = .ok (.getfield 22, 3) := by decide +kernel
theorem dX6_isTold_20 : decode cX6_isTold 20 = .ok (.iload_n 2, 1) := by decide +kernel
theorem dX6_isTold_21 : decode cX6_isTold 21 = .ok (.iaload, 1) := by decide +kernel
theorem dX6_isTold_22 : decode cX6_isTold 22 = .ok (.if_icmp .ne 7, 3) := by decide +kernel
theorem dX6_isTold_25 : decode cX6_isTold 25 = .ok (.iconst 1, 1) := by decide +kernel
theorem dX6_isTold_26 : decode cX6_isTold 26 = .ok (.goto 4, 3) := by decide +kernel
theorem dX6_isTold_29 : decode cX6_isTold 29 = .ok (.iconst 0, 1) := by decide +kernel
theorem dX6_isTold_30 : decode cX6_isTold 30 = .ok (.iand, 1) := by decide +kernel
theorem dX6_isTold_31 : decode cX6_isTold 31 = .ok (.istore_n 1, 1) := by decide +kernel
theorem dX6_isTold_32 : decode cX6_isTold 32 = .ok (.iinc 2 1, 3) := by decide +kernel
theorem dX6_isTold_35 : decode cX6_isTold 35 = .ok (.goto (-31), 3) := by decide +kernel
theorem dX6_isTold_38 : decode cX6_isTold 38 = .ok (.iload_n 1, 1) := by decide +kernel
theorem dX6_isTold_39 : decode cX6_isTold 39 = .ok (.ireturn, 1) := by decide +kernel
theorem dX6_which_0 : decode cX6_which 0 = .ok (.aload_n 0, 1) := by decide +kernel
theorem dX6_which_1 : decode cX6_which 1 = .ok (.iload_n 1, 1) := by decide +kernel
theorem dX6_which_2 : decode cX6_which 2 = .ok (.invokevirtual 120, 3) := by decide +kernel
theorem dX6_which_5 : decode cX6_which 5 = .ok (.ifCond .eq 12, 3) := by decide +kernel
theorem dX6_which_8 : decode cX6_which 8 = .ok (.iload_n 2, 1) := by decide +kernel
theorem dX6_which_9 : decode cX6_which 9 = .ok (.bipush 9, 2) := by decide +kernel
theorem dX6_which_11 : decode cX6_which 11 = .ok (.invokestatic 151, 3) := by decide +kernel
theorem dX6_which_14 : decode cX6_which 14 = .ok (.goto 4, 3) := by decide +kernel
theorem dX6_which_17 : decode cX6_which 17 = .ok (.iconst (-1), 1) := by decide +kernel
theorem dX6_which_18 : decode cX6_which 18 = .ok (.istore 4, 2) := by decide +kernel
theorem dX6_which_20 : decode cX6_which 20 = .ok (.iload 4, 2) := by decide +kernel
theorem dX6_which_22 : decode cX6_which 22 = .ok (.ifCond .ne 33, 3) := by decide +kernel
theorem dX6_which_25 : decode cX6_which 25 = .ok (.iload_n 3, 1) := by decide +kernel
theorem dX6_which_26 : decode cX6_which 26 = .ok (.iconst 0, 1) := by decide +kernel
theorem dX6_which_27 : decode cX6_which 27 = .ok (.iconst 1, 1) := by decide +kernel
theorem dX6_which_28 : decode cX6_which 28 = .ok (.invokestatic 41, 3) := by decide +kernel
theorem dX6_which_31 : decode cX6_which 31 = .ok (.ifCond .ne 8, 3) := by decide +kernel
theorem dX6_which_34 : decode cX6_which 34 = .ok (.bipush (-2), 2) := by decide +kernel
theorem dX6_which_36 : decode cX6_which 36 = .ok (.goto 17, 3) := by decide +kernel
theorem dX6_which_39 : decode cX6_which 39 = .ok (.aload_n 0, 1) := by decide +kernel
theorem dX6_which_40 : decode cX6_which 40 = .ok (.getfield 202, 3) := by decide +kernel
theorem dX6_which_43 : decode cX6_which 43 = .ok (.iconst 5, 1) := by decide +kernel
theorem dX6_which_44 : decode cX6_which 44 = .ok (.if_icmp .eq 8, 3) := by decide +kernel
theorem dX6_which_47 : decode cX6_which 47 = .ok (.bipush (-3), 2) := by decide +kernel
theorem dX6_which_49 : decode cX6_which 49 = .ok (.goto 4, 3) := by decide +kernel
theorem dX6_which_52 : decode cX6_which 52 = .ok (.iconst 0, 1) := by decide +kernel
theorem dX6_which_53 : decode cX6_which 53 = .ok (.istore 4, 2) := by decide +kernel
theorem dX6_which_55 : decode cX6_which 55 = .ok (.iload 4, 2) := by decide +kernel
theorem dX6_which_57 : decode cX6_which 57 = .ok (.ifCond .eq 10, 3) := by decide +kernel
theorem dX6_which_60 : decode cX6_which 60 = .ok (.aload_n 0, 1) := by decide +kernel
theorem dX6_which_61 : decode cX6_which 61 = .ok (.iload 4, 2) := by decide +kernel
theorem dX6_which_63 : decode cX6_which 63 = .ok (.invokevirtual 35, 3) := by decide +kernel
theorem dX6_which_66 : decode cX6_which 66 = .ok (.ireturn, 1) := by decide +kernel
theorem dX6_which_67 : decode cX6_which 67 = .ok (.iconst 0, 1) := by decide +kernel
theorem dX6_which_68 : decode cX6_which 68 = .ok (.istore 5, 2) := by decide +kernel
theorem dX6_which_70 : decode cX6_which 70 = .ok (.iconst 0, 1) := by decide +kernel
theorem dX6_which_71 : decode cX6_which 71 = .ok (.istore 6, 2) := by decide +kernel
theorem dX6_which_73 : decode cX6_which 73 = .ok (.iload 6, 2) := by decide +kernel
theorem dX6_which_75 : decode cX6_which 75 = .ok (.iload_n 3, 1) := by decide +kernel
theorem dX6_which_76 : decode cX6_which 76 = .ok (.ifCond .ne 12, 3) := by decide +kernel
theorem dX6_which_79 : decode cX6_which 79 = .ok (.aload_n 0, 1) := by decide +kernel
theorem dX6_which_80 : decode cX6_which 80 = .ok (.getfield 9, 3) := by decide +kernel
theorem dX6_which_83 : decode cX6_which 83 = .ok (.iconst 1, 1) := by decide +kernel
theorem dX6_which_84 : decode cX6_which 84 = .ok (.iaload, 1) := by decide +kernel
theorem dX6_which_85 : decode cX6_which 85 = .ok (.goto 5, 3) := by decide +kernel
theorem dX6_which_88 : decode cX6_which 88 = .ok (.bipush 6, 2) := by decide +kernel
theorem dX6_which_90 : decode cX6_which 90 = .ok (.if_icmp .ge 55, 3) := by decide +kernel
theorem dX6_which_93 : decode cX6_which 93 = .ok (.aload_n 0, 1) := by decide +kernel
theorem dX6_which_94 : decode cX6_which 94 = .ok (.iload_n 1, 1) := by decide +kernel
theorem dX6_which_95 : decode cX6_which 95 = .ok (.invokevirtual 76, 3) := by decide +kernel
theorem dX6_which_98 : decode cX6_which 98 = .ok (.iload_n 3, 1) := by decide +kernel
theorem dX6_which_99 : decode cX6_which 99 = .ok (.ifCond .ne 13, 3) := by decide +kernel
theorem dX6_which_102 : decode cX6_which 102 = .ok (.aload_n 0, 1) := by decide +kernel
theorem dX6_which_103 : decode cX6_which 103 = .ok (.iload 6, 2) := by decide +kernel
theorem dX6_which_105 : decode cX6_which 105 = .ok (.iconst 0, 1) := by decide +kernel
theorem dX6_which_106 : decode cX6_which 106 = .ok (.invokevirtual 117, 3) := by decide +kernel
theorem dX6_which_109 : decode cX6_which 109 = .ok (.goto 10, 3) := by decide +kernel
theorem dX6_which_112 : decode cX6_which 112 = .ok (.aload_n 0, 1) := by decide +kernel
theorem dX6_which_113 : decode cX6_which 113 = .ok (.iload 6, 2) := by decide +kernel
theorem dX6_which_115 : decode cX6_which 115 = .ok (.iload_n 2, 1) := by decide +kernel
theorem dX6_which_116 : decode cX6_which 116 = .ok (.invokevirtual 65, 3) := by decide +kernel
theorem dX6_which_119 : decode cX6_which 119 = .ok (.iload 5, 2) := by decide +kernel
theorem dX6_which_121 : decode cX6_which 121 = .ok (.aload_n 0, 1) := by decide +kernel
theorem dX6_which_122 : decode cX6_which 122 = .ok (.invokevirtual 205, 3) := by decide +kernel
theorem dX6_which_125 : decode cX6_which 125 = .ok (.ifCond .eq 10, 3) := by decide +kernel
theorem dX6_which_128 : decode cX6_which 128 = .ok (.iconst 1, 1) := by decide +kernel
theorem dX6_which_129 : decode cX6_which 129 = .ok (.iload 6, 2) := by decide +kernel
theorem dX6_which_131 : decode cX6_which 131 = .ok (.ishl, 1) := by decide +kernel
theorem dX6_which_132 : decode cX6_which 132 = .ok (.goto 4, 3) := by decide +kernel
theorem dX6_which_135 : decode cX6_which 135 = .ok (.iconst 0, 1) := by decide +kernel
theorem dX6_which_136 : decode cX6_which 136 = .ok (.ior, 1) := by decide +kernel
theorem dX6_which_137 : decode cX6_which 137 = .ok (.istore 5, 2) := by decide +kernel
theorem dX6_which_139 : decode cX6_which 139 = .ok (.iinc 6 1, 3) := by decide +kernel
theorem dX6_which_142 : decode cX6_which 142 = .ok (.goto (-69), 3) := by decide +kernel
theorem dX6_which_145 : decode cX6_which 145 = .ok (.iload 5, 2) := by decide +kernel
theorem dX6_which_147 : decode cX6_which 147 = .ok (.ireturn, 1) := by decide +kernel
theorem dX6_row_0 : decode cX6_row 0 = .ok (.iload_n 1, 1) := by decide +kernel
theorem dX6_row_1 : decode cX6_row 1 = .ok (.bipush 99, 2) := by decide +kernel
theorem dX6_row_3 : decode cX6_row 3 = .ok (.invokestatic 151, 3) := by decide +kernel
theorem dX6_row_6 : decode cX6_row 6 = .ok (.istore_n 2, 1) := by decide +kernel
theorem dX6_row_7 : decode cX6_row 7 = .ok (.iload_n 2, 1) := by decide +kernel
theorem dX6_row_8 : decode cX6_row 8 = .ok (.ifCond .ne 15, 3) := by decide +kernel
theorem dX6_row_11 : decode cX6_row 11 = .ok (.aload_n 0, 1) := by decide +kernel
theorem dX6_row_12 : decode cX6_row 12 = .ok (.getfield 202, 3) := by decide +kernel
theorem dX6_row_15 : decode cX6_row 15 = .ok (.bipush 12, 2) := by decide +kernel
theorem dX6_row_17 : decode cX6_row 17 = .ok (.if_icmp .ne 6, 3) := by decide +kernel
theorem dX6_row_20 : decode cX6_row 20 = .ok (.bipush (-6), 2) := by decide +kernel
theorem dX6_row_22 : decode cX6_row 22 = .ok (.istore_n 2, 1) := by decide +kernel
theorem dX6_row_23 : decode cX6_row 23 = .ok (.iload_n 2, 1) := by decide +kernel
theorem dX6_row_24 : decode cX6_row 24 = .ok (.ifCond .eq 9, 3) := by decide +kernel
theorem dX6_row_27 : decode cX6_row 27 = .ok (.aload_n 0, 1) := by decide +kernel
theorem dX6_row_28 : decode cX6_row 28 = .ok (.iload_n 2, 1) := by decide +kernel
theorem dX6_row_29 : decode cX6_row 29 = .ok (.invokevirtual 35, 3) := by decide +kernel
theorem dX6_row_32 : decode cX6_row 32 = .ok (.ireturn, 1) := by decide +kernel
theorem dX6_row_33 : decode cX6_row 33 = .ok (.aload_n 0, 1) := by decide +kernel
theorem dX6_row_34 : decode cX6_row 34 = .ok (.getfield 22, 3) := by decide +kernel
theorem dX6_row_37 : decode cX6_row 37 = .ok (.aload_n 0, 1) := by decide +kernel
theorem dX6_row_38 : decode cX6_row 38 = .ok (.getfield 202, 3) := by decide +kernel
theorem dX6_row_41 : decode cX6_row 41 = .ok (.iload_n 1, 1) := by decide +kernel
theorem dX6_row_42 : decode cX6_row 42 = .ok (.iastore, 1) := by decide +kernel
theorem dX6_row_43 : decode cX6_row 43 = .ok (.aload_n 0, 1) := by decide +kernel
theorem dX6_row_44 : decode cX6_row 44 = .ok (.dup, 1) := by decide +kernel
theorem dX6_row_45 : decode cX6_row 45 = .ok (.getfield 202, 3) := by decide +kernel
theorem dX6_row_48 : decode cX6_row 48 = .ok (.iconst 1, 1) := by decide +kernel
theorem dX6_row_49 : decode cX6_row 49 = .ok (.iadd, 1) := by decide +kernel
theorem dX6_row_50 : decode cX6_row 50 = .ok (.putfield 202, 3) := by decide +kernel
theorem dX6_row_53 : decode cX6_row 53 = .ok (.aload_n 0, 1) := by decide +kernel
theorem dX6_row_54 : decode cX6_row 54 = .ok (.getfield 202, 3) := by decide +kernel
theorem dX6_row_57 : decode cX6_row 57 = .ok (.ireturn, 1) := by decide +kernel
theorem dX6_judge_0 : decode cX6_judge 0 = .ok (.aload_n 0, 1) := by decide +kernel
theorem dX6_judge_1 : decode cX6_judge 1 = .ok (.iload_n 1, 1) := by decide +kernel
theorem dX6_judge_2 : decode cX6_judge 2 = .ok (.invokevirtual 120, 3) := by decide +kernel
theorem dX6_judge_5 : decode cX6_judge 5 = .ok (.ifCond .ne 9, 3) := by decide +kernel
theorem dX6_judge_8 : decode cX6_judge 8 = .ok (.aload_n 0, 1) := by decide +kernel
theorem dX6_judge_9 : decode cX6_judge 9 = .ok (.iconst (-1), 1) := by decide +kernel
theorem dX6_judge_10 : decode cX6_judge 10 = .ok (.invokevirtual 35, 3) := by decide +kernel
theorem dX6_judge_13 : decode cX6_judge 13 = .ok (.ireturn, 1) := by decide +kernel
theorem dX6_judge_14 : decode cX6_judge 14 = .ok (.aload_n 0, 1) := by decide +kernel
theorem dX6_judge_15 : decode cX6_judge 15 = .ok (.getfield 202, 3) := by decide +kernel
theorem dX6_judge_18 : decode cX6_judge 18 = .ok (.istore_n 2, 1) := by decide +kernel
theorem dX6_judge_19 : decode cX6_judge 19 = .ok (.aload_n 0, 1) := by decide +kernel
theorem dX6_judge_20 : decode cX6_judge 20 = .ok (.iconst 0, 1) := by decide +kernel
theorem dX6_judge_21 : decode cX6_judge 21 = .ok (.putfield 202, 3) := by decide +kernel
theorem dX6_judge_24 : decode cX6_judge 24 = .ok (.iconst 0, 1) := by decide +kernel
theorem dX6_judge_25 : decode cX6_judge 25 = .ok (.istore_n 3, 1) := by decide +kernel
theorem dX6_judge_26 : decode cX6_judge 26 = .ok (.iload_n 3, 1) := by decide +kernel
theorem dX6_judge_27 : decode cX6_judge 27 = .ok (.iload_n 2, 1) := by decide +kernel
theorem dX6_judge_28 : decode cX6_judge 28 = .ok (.if_icmp .ge 37, 3) := by decide +kernel
theorem dX6_judge_31 : decode cX6_judge 31 = .ok (.iload_n 3, 1) := by decide +kernel
theorem dX6_judge_32 : decode cX6_judge 32 = .ok (.invokestatic 142, 3) := by decide +kernel
theorem dX6_judge_35 : decode cX6_judge 35 = .ok (.ifCond .eq 22, 3) := by decide +kernel
theorem dX6_judge_38 : decode cX6_judge 38 = .ok (.aload_n 0, 1) := by decide +kernel
theorem dX6_judge_39 : decode cX6_judge 39 = .ok (.getfield 9, 3) := by decide +kernel
theorem dX6_judge_42 : decode cX6_judge 42 = .ok (.iload_n 1, 1) := by decide +kernel
theorem dX6_judge_43 : decode cX6_judge 43 = .ok (.iload_n 3, 1) := by decide +kernel
theorem dX6_judge_44 : decode cX6_judge 44 = .ok (.invokestatic 45, 3) := by decide +kernel
theorem dX6_judge_47 : decode cX6_judge 47 = .ok (.iaload, 1) := by decide +kernel
theorem dX6_judge_48 : decode cX6_judge 48 = .ok (.aload_n 0, 1) := by decide +kernel
theorem dX6_judge_49 : decode cX6_judge 49 = .ok (.getfield 22, 3) := by decide +kernel
theorem dX6_judge_52 : decode cX6_judge 52 = .ok (.iload_n 3, 1) := by decide +kernel
theorem dX6_judge_53 : decode cX6_judge 53 = .ok (.iaload, 1) := by decide +kernel
theorem dX6_judge_54 : decode cX6_judge 54 = .ok (.if_icmp .eq 5, 3) := by decide +kernel
theorem dX6_judge_57 : decode cX6_judge 57 = .ok (.iload_n 3, 1) := by decide +kernel
theorem dX6_judge_58 : decode cX6_judge 58 = .ok (.ireturn, 1) := by decide +kernel
theorem dX6_judge_59 : decode cX6_judge 59 = .ok (.iinc 3 1, 3) := by decide +kernel
theorem dX6_judge_62 : decode cX6_judge 62 = .ok (.goto (-36), 3) := by decide +kernel
theorem dX6_judge_65 : decode cX6_judge 65 = .ok (.bipush (-9), 2) := by decide +kernel
theorem dX6_judge_67 : decode cX6_judge 67 = .ok (.ireturn, 1) := by decide +kernel
theorem dX6_clear_0 : decode cX6_clear 0 = .ok (.aload_n 0, 1) := by decide +kernel
theorem dX6_clear_1 : decode cX6_clear 1 = .ok (.getfield 202, 3) := by decide +kernel
theorem dX6_clear_4 : decode cX6_clear 4 = .ok (.istore_n 1, 1) := by decide +kernel
theorem dX6_clear_5 : decode cX6_clear 5 = .ok (.aload_n 0, 1) := by decide +kernel
theorem dX6_clear_6 : decode cX6_clear 6 = .ok (.iconst 0, 1) := by decide +kernel
theorem dX6_clear_7 : decode cX6_clear 7 = .ok (.putfield 202, 3) := by decide +kernel
theorem dX6_clear_10 : decode cX6_clear 10 = .ok (.iload_n 1, 1) := by decide +kernel
theorem dX6_clear_11 : decode cX6_clear 11 = .ok (.ireturn, 1) := by decide +kernel
theorem dX6_drawn_0 : decode cX6_drawn 0 = .ok (.aload_n 0, 1) := by decide +kernel
theorem dX6_drawn_1 : decode cX6_drawn 1 = .ok (.aload_n 0, 1) := by decide +kernel
theorem dX6_drawn_2 : decode cX6_drawn 2 = .ok (.getfield 208, 3) := by decide +kernel
theorem dX6_drawn_5 : decode cX6_drawn 5 = .ok (.ldc 211, 2) := by decide +kernel
theorem dX6_drawn_7 : decode cX6_drawn 7 = .ok (.imul, 1) := by decide +kernel
theorem dX6_drawn_8 : decode cX6_drawn 8 = .ok (.ldc 212, 2) := by decide +kernel
theorem dX6_drawn_10 : decode cX6_drawn 10 = .ok (.iadd, 1) := by decide +kernel
theorem dX6_drawn_11 : decode cX6_drawn 11 = .ok (.putfield 208, 3) := by decide +kernel
theorem dX6_drawn_14 : decode cX6_drawn 14 = .ok (.aload_n 0, 1) := by decide +kernel
theorem dX6_drawn_15 : decode cX6_drawn 15 = .ok (.getfield 208, 3) := by decide +kernel
theorem dX6_drawn_18 : decode cX6_drawn 18 = .ok (.ldc 213, 2) := by decide +kernel
theorem dX6_drawn_20 : decode cX6_drawn 20 = .ok (.iand, 1) := by decide +kernel
theorem dX6_drawn_21 : decode cX6_drawn 21 = .ok (.sipush 256, 3) := by decide +kernel
theorem dX6_drawn_24 : decode cX6_drawn 24 = .ok (.idiv, 1) := by decide +kernel
theorem dX6_drawn_25 : decode cX6_drawn 25 = .ok (.iload_n 1, 1) := by decide +kernel
theorem dX6_drawn_26 : decode cX6_drawn 26 = .ok (.irem, 1) := by decide +kernel
theorem dX6_drawn_27 : decode cX6_drawn 27 = .ok (.ireturn, 1) := by decide +kernel
theorem dX6_lots_0 : decode cX6_lots 0 = .ok (.iload_n 1, 1) := by decide +kernel
theorem dX6_lots_1 : decode cX6_lots 1 = .ok (.iconst 1, 1) := by decide +kernel
theorem dX6_lots_2 : decode cX6_lots 2 = .ok (.if_icmp .ge 10, 3) := by decide +kernel
theorem dX6_lots_5 : decode cX6_lots 5 = .ok (.aload_n 0, 1) := by decide +kernel
theorem dX6_lots_6 : decode cX6_lots 6 = .ok (.bipush (-4), 2) := by decide +kernel
theorem dX6_lots_8 : decode cX6_lots 8 = .ok (.invokevirtual 35, 3) := by decide +kernel
theorem dX6_lots_11 : decode cX6_lots 11 = .ok (.ireturn, 1) := by decide +kernel
theorem dX6_lots_12 : decode cX6_lots 12 = .ok (.iload_n 1, 1) := by decide +kernel
theorem dX6_lots_13 : decode cX6_lots 13 = .ok (.bipush 20, 2) := by decide +kernel
theorem dX6_lots_15 : decode cX6_lots 15 = .ok (.if_icmp .le 10, 3) := by decide +kernel
theorem dX6_lots_18 : decode cX6_lots 18 = .ok (.aload_n 0, 1) := by decide +kernel
theorem dX6_lots_19 : decode cX6_lots 19 = .ok (.bipush (-6), 2) := by decide +kernel
theorem dX6_lots_21 : decode cX6_lots 21 = .ok (.invokevirtual 35, 3) := by decide +kernel
theorem dX6_lots_24 : decode cX6_lots 24 = .ok (.ireturn, 1) := by decide +kernel
theorem dX6_lots_25 : decode cX6_lots 25 = .ok (.iload_n 3, 1) := by decide +kernel
theorem dX6_lots_26 : decode cX6_lots 26 = .ok (.iconst 0, 1) := by decide +kernel
theorem dX6_lots_27 : decode cX6_lots 27 = .ok (.iconst 1, 1) := by decide +kernel
theorem dX6_lots_28 : decode cX6_lots 28 = .ok (.invokestatic 41, 3) := by decide +kernel
theorem dX6_lots_31 : decode cX6_lots 31 = .ok (.ifCond .ne 10, 3) := by decide +kernel
theorem dX6_lots_34 : decode cX6_lots 34 = .ok (.aload_n 0, 1) := by decide +kernel
theorem dX6_lots_35 : decode cX6_lots 35 = .ok (.bipush (-2), 2) := by decide +kernel
theorem dX6_lots_37 : decode cX6_lots 37 = .ok (.invokevirtual 35, 3) := by decide +kernel
theorem dX6_lots_40 : decode cX6_lots 40 = .ok (.ireturn, 1) := by decide +kernel
theorem dX6_lots_41 : decode cX6_lots 41 = .ok (.aload_n 0, 1) := by decide +kernel
theorem dX6_lots_42 : decode cX6_lots 42 = .ok (.getfield 9, 3) := by decide +kernel
theorem dX6_lots_45 : decode cX6_lots 45 = .ok (.iconst 0, 1) := by decide +kernel
theorem dX6_lots_46 : decode cX6_lots 46 = .ok (.iaload, 1) := by decide +kernel
theorem dX6_lots_47 : decode cX6_lots 47 = .ok (.ifCond .eq 12, 3) := by decide +kernel
theorem dX6_lots_50 : decode cX6_lots 50 = .ok (.aload_n 0, 1) := by decide +kernel
theorem dX6_lots_51 : decode cX6_lots 51 = .ok (.getfield 9, 3) := by decide +kernel
theorem dX6_lots_54 : decode cX6_lots 54 = .ok (.iconst 1, 1) := by decide +kernel
theorem dX6_lots_55 : decode cX6_lots 55 = .ok (.iaload, 1) := by decide +kernel
theorem dX6_lots_56 : decode cX6_lots 56 = .ok (.ifCond .ne 10, 3) := by decide +kernel
theorem dX6_lots_59 : decode cX6_lots 59 = .ok (.aload_n 0, 1) := by decide +kernel
theorem dX6_lots_60 : decode cX6_lots 60 = .ok (.bipush (-3), 2) := by decide +kernel
theorem dX6_lots_62 : decode cX6_lots 62 = .ok (.invokevirtual 35, 3) := by decide +kernel
theorem dX6_lots_65 : decode cX6_lots 65 = .ok (.ireturn, 1) := by decide +kernel
theorem dX6_lots_66 : decode cX6_lots 66 = .ok (.aload_n 0, 1) := by decide +kernel
theorem dX6_lots_67 : decode cX6_lots 67 = .ok (.iload_n 2, 1) := by decide +kernel
theorem dX6_lots_68 : decode cX6_lots 68 = .ok (.putfield 208, 3) := by decide +kernel
theorem dX6_lots_71 : decode cX6_lots 71 = .ok (.iconst 0, 1) := by decide +kernel
theorem dX6_lots_72 : decode cX6_lots 72 = .ok (.istore 4, 2) := by decide +kernel
theorem dX6_lots_74 : decode cX6_lots 74 = .ok (.iconst 0, 1) := by decide +kernel
theorem dX6_lots_75 : decode cX6_lots 75 = .ok (.istore 5, 2) := by decide +kernel
theorem dX6_lots_77 : decode cX6_lots 77 = .ok (.iload 5, 2) := by decide +kernel
theorem dX6_lots_79 : decode cX6_lots 79 = .ok (.iload_n 1, 1) := by decide +kernel
theorem dX6_lots_80 : decode cX6_lots 80 = .ok (.if_icmp .ge 82, 3) := by decide +kernel
theorem dX6_lots_83 : decode cX6_lots 83 = .ok (.aload_n 0, 1) := by decide +kernel
theorem dX6_lots_84 : decode cX6_lots 84 = .ok (.aload_n 0, 1) := by decide +kernel
theorem dX6_lots_85 : decode cX6_lots 85 = .ok (.aload_n 0, 1) := by decide +kernel
theorem dX6_lots_86 : decode cX6_lots 86 = .ok (.getfield 9, 3) := by decide +kernel
theorem dX6_lots_89 : decode cX6_lots 89 = .ok (.iconst 0, 1) := by decide +kernel
theorem dX6_lots_90 : decode cX6_lots 90 = .ok (.iaload, 1) := by decide +kernel
theorem dX6_lots_91 : decode cX6_lots 91 = .ok (.invokevirtual 214, 3) := by decide +kernel
theorem dX6_lots_94 : decode cX6_lots 94 = .ok (.invokevirtual 76, 3) := by decide +kernel
theorem dX6_lots_97 : decode cX6_lots 97 = .ok (.aload_n 0, 1) := by decide +kernel
theorem dX6_lots_98 : decode cX6_lots 98 = .ok (.aload_n 0, 1) := by decide +kernel
theorem dX6_lots_99 : decode cX6_lots 99 = .ok (.aload_n 0, 1) := by decide +kernel
theorem dX6_lots_100 : decode cX6_lots 100 = .ok (.getfield 9, 3) := by decide +kernel
theorem dX6_lots_103 : decode cX6_lots 103 = .ok (.iconst 1, 1) := by decide +kernel
theorem dX6_lots_104 : decode cX6_lots 104 = .ok (.iaload, 1) := by decide +kernel
theorem dX6_lots_105 : decode cX6_lots 105 = .ok (.invokevirtual 214, 3) := by decide +kernel
theorem dX6_lots_108 : decode cX6_lots 108 = .ok (.iconst 0, 1) := by decide +kernel
theorem dX6_lots_109 : decode cX6_lots 109 = .ok (.invokevirtual 117, 3) := by decide +kernel
theorem dX6_lots_112 : decode cX6_lots 112 = .ok (.aload_n 0, 1) := by decide +kernel
theorem dX6_lots_113 : decode cX6_lots 113 = .ok (.aload_n 0, 1) := by decide +kernel
theorem dX6_lots_114 : decode cX6_lots 114 = .ok (.aload_n 0, 1) := by decide +kernel
theorem dX6_lots_115 : decode cX6_lots 115 = .ok (.getfield 9, 3) := by decide +kernel
theorem dX6_lots_118 : decode cX6_lots 118 = .ok (.iconst 1, 1) := by decide +kernel
theorem dX6_lots_119 : decode cX6_lots 119 = .ok (.iaload, 1) := by decide +kernel
theorem dX6_lots_120 : decode cX6_lots 120 = .ok (.invokevirtual 214, 3) := by decide +kernel
theorem dX6_lots_123 : decode cX6_lots 123 = .ok (.iconst 0, 1) := by decide +kernel
theorem dX6_lots_124 : decode cX6_lots 124 = .ok (.invokevirtual 117, 3) := by decide +kernel
theorem dX6_lots_127 : decode cX6_lots 127 = .ok (.iload 4, 2) := by decide +kernel
theorem dX6_lots_129 : decode cX6_lots 129 = .ok (.iload_n 3, 1) := by decide +kernel
theorem dX6_lots_130 : decode cX6_lots 130 = .ok (.iconst 1, 1) := by decide +kernel
theorem dX6_lots_131 : decode cX6_lots 131 = .ok (.if_icmp .ne 10, 3) := by decide +kernel
theorem dX6_lots_134 : decode cX6_lots 134 = .ok (.aload_n 0, 1) := by decide +kernel
theorem dX6_lots_135 : decode cX6_lots 135 = .ok (.invokevirtual 80, 3) := by decide +kernel
theorem dX6_lots_138 : decode cX6_lots 138 = .ok (.goto 15, 3) := by decide +kernel
theorem dX6_lots_141 : decode cX6_lots 141 = .ok (.aload_n 0, 1) := by decide +kernel
theorem dX6_lots_142 : decode cX6_lots 142 = .ok (.invokevirtual 87, 3) := by decide +kernel
theorem dX6_lots_145 : decode cX6_lots 145 = .ok (.ifCond .eq 7, 3) := by decide +kernel
theorem dX6_lots_148 : decode cX6_lots 148 = .ok (.iconst 1, 1) := by decide +kernel
theorem dX6_lots_149 : decode cX6_lots 149 = .ok (.goto 4, 3) := by decide +kernel
theorem dX6_lots_152 : decode cX6_lots 152 = .ok (.iconst 0, 1) := by decide +kernel
theorem dX6_lots_153 : decode cX6_lots 153 = .ok (.iadd, 1) := by decide +kernel
theorem dX6_lots_154 : decode cX6_lots 154 = .ok (.istore 4, 2) := by decide +kernel
theorem dX6_lots_156 : decode cX6_lots 156 = .ok (.iinc 5 1, 3) := by decide +kernel
theorem dX6_lots_159 : decode cX6_lots 159 = .ok (.goto (-82), 3) := by decide +kernel
theorem dX6_lots_162 : decode cX6_lots 162 = .ok (.iload 4, 2) := by decide +kernel
theorem dX6_lots_164 : decode cX6_lots 164 = .ok (.ireturn, 1) := by decide +kernel
theorem dX6_image_0 : decode cX6_image 0 = .ok (.aload_n 0, 1) := by decide +kernel
theorem dX6_image_1 : decode cX6_image 1 = .ok (.getfield 9, 3) := by decide +kernel
theorem dX6_image_4 : decode cX6_image 4 = .ok (.aload_n 0, 1) := by decide +kernel
theorem dX6_image_5 : decode cX6_image 5 = .ok (.getfield 13, 3) := by decide +kernel
theorem dX6_image_8 : decode cX6_image 8 = .ok (.invokestatic 135, 3) := by decide +kernel
theorem dX6_image_11 : decode cX6_image 11 = .ok (.aload_n 0, 1) := by decide +kernel
theorem dX6_image_12 : decode cX6_image 12 = .ok (.iconst 1, 1) := by decide +kernel
theorem dX6_image_13 : decode cX6_image 13 = .ok (.putfield 217, 3) := by decide +kernel
theorem dX6_image_16 : decode cX6_image 16 = .ok (.aload_n 0, 1) := by decide +kernel
theorem dX6_image_17 : decode cX6_image 17 = .ok (.getfield 9, 3) := by decide +kernel
theorem dX6_image_20 : decode cX6_image 20 = .ok (.iconst 2, 1) := by decide +kernel
theorem dX6_image_21 : decode cX6_image 21 = .ok (.iaload, 1) := by decide +kernel
theorem dX6_image_22 : decode cX6_image 22 = .ok (.ireturn, 1) := by decide +kernel
theorem dX6_on_0 : decode cX6_on 0 = .ok (.aload_n 0, 1) := by decide +kernel
theorem dX6_on_1 : decode cX6_on 1 = .ok (.getfield 217, 3) := by decide +kernel
theorem dX6_on_4 : decode cX6_on 4 = .ok (.ifCond .ne 10, 3) := by decide +kernel
theorem dX6_on_7 : decode cX6_on 7 = .ok (.aload_n 0, 1) := by decide +kernel
theorem dX6_on_8 : decode cX6_on 8 = .ok (.bipush (-3), 2) := by decide +kernel
theorem dX6_on_10 : decode cX6_on 10 = .ok (.invokevirtual 35, 3) := by decide +kernel
theorem dX6_on_13 : decode cX6_on 13 = .ok (.ireturn, 1) := by decide +kernel
theorem dX6_on_14 : decode cX6_on 14 = .ok (.aload_n 0, 1) := by decide +kernel
theorem dX6_on_15 : decode cX6_on 15 = .ok (.getfield 13, 3) := by decide +kernel
theorem dX6_on_18 : decode cX6_on 18 = .ok (.aload_n 0, 1) := by decide +kernel
theorem dX6_on_19 : decode cX6_on 19 = .ok (.getfield 9, 3) := by decide +kernel
theorem dX6_on_22 : decode cX6_on 22 = .ok (.invokestatic 135, 3) := by decide +kernel
theorem dX6_on_25 : decode cX6_on 25 = .ok (.aload_n 0, 1) := by decide +kernel
theorem dX6_on_26 : decode cX6_on 26 = .ok (.getfield 9, 3) := by decide +kernel
theorem dX6_on_29 : decode cX6_on 29 = .ok (.iconst 2, 1) := by decide +kernel
theorem dX6_on_30 : decode cX6_on 30 = .ok (.iaload, 1) := by decide +kernel
theorem dX6_on_31 : decode cX6_on 31 = .ok (.ireturn, 1) := by decide +kernel
theorem dX6_count_0 : decode cX6_count 0 = .ok (.iload_n 1, 1) := by decide +kernel
theorem dX6_count_1 : decode cX6_count 1 = .ok (.bipush 11, 2) := by decide +kernel
theorem dX6_count_3 : decode cX6_count 3 = .ok (.bipush 16, 2) := by decide +kernel
theorem dX6_count_5 : decode cX6_count 5 = .ok (.invokestatic 41, 3) := by decide +kernel
theorem dX6_count_8 : decode cX6_count 8 = .ok (.ifCond .eq 13, 3) := by decide +kernel
theorem dX6_count_11 : decode cX6_count 11 = .ok (.aload_n 0, 1) := by decide +kernel
theorem dX6_count_12 : decode cX6_count 12 = .ok (.getfield 25, 3) := by decide +kernel
theorem dX6_count_15 : decode cX6_count 15 = .ok (.iload_n 1, 1) := by decide +kernel
theorem dX6_count_16 : decode cX6_count 16 = .ok (.bipush 10, 2) := by decide +kernel
theorem dX6_count_18 : decode cX6_count 18 = .ok (.isub, 1) := by decide +kernel
theorem dX6_count_19 : decode cX6_count 19 = .ok (.iaload, 1) := by decide +kernel
theorem dX6_count_20 : decode cX6_count 20 = .ok (.ireturn, 1) := by decide +kernel
theorem dX6_count_21 : decode cX6_count 21 = .ok (.iconst 0, 1) := by decide +kernel
theorem dX6_count_22 : decode cX6_count 22 = .ok (.istore_n 2, 1) := by decide +kernel
theorem dX6_count_23 : decode cX6_count 23 = .ok (.iload_n 1, 1) := by decide +kernel
theorem dX6_count_24 : decode cX6_count 24 = .ok (.tableswitch 108 0 7 #[48, 48, 48, 48, 55, 93, 98, 103], 48) := by decide +kernel
theorem dX6_count_72 : decode cX6_count 72 = .ok (.aload_n 0, 1) := by decide +kernel
theorem dX6_count_73 : decode cX6_count 73 = .ok (.getfield 9, 3) := by decide +kernel
theorem dX6_count_76 : decode cX6_count 76 = .ok (.iload_n 1, 1) := by decide +kernel
theorem dX6_count_77 : decode cX6_count 77 = .ok (.iaload, 1) := by decide +kernel
theorem dX6_count_78 : decode cX6_count 78 = .ok (.ireturn, 1) := by decide +kernel
theorem dX6_count_79 : decode cX6_count 79 = .ok (.iconst 0, 1) := by decide +kernel
theorem dX6_count_80 : decode cX6_count 80 = .ok (.istore_n 3, 1) := by decide +kernel
theorem dX6_count_81 : decode cX6_count 81 = .ok (.iload_n 3, 1) := by decide +kernel
theorem dX6_count_82 : decode cX6_count 82 = .ok (.aload_n 0, 1) := by decide +kernel
theorem dX6_count_83 : decode cX6_count 83 = .ok (.getfield 9, 3) := by decide +kernel
theorem dX6_count_86 : decode cX6_count 86 = .ok (.iconst 0, 1) := by decide +kernel
theorem dX6_count_87 : decode cX6_count 87 = .ok (.iaload, 1) := by decide +kernel
theorem dX6_count_88 : decode cX6_count 88 = .ok (.if_icmp .ge 27, 3) := by decide +kernel
theorem dX6_count_91 : decode cX6_count 91 = .ok (.iload_n 2, 1) := by decide +kernel
theorem dX6_count_92 : decode cX6_count 92 = .ok (.aload_n 0, 1) := by decide +kernel
theorem dX6_count_93 : decode cX6_count 93 = .ok (.iload_n 3, 1) := by decide +kernel
theorem dX6_count_94 : decode cX6_count 94 = .ok (.invokevirtual 83, 3) := by decide +kernel
theorem dX6_count_97 : decode cX6_count 97 = .ok (.ifCond .eq 9, 3) := by decide +kernel
theorem dX6_count_100 : decode cX6_count 100 = .ok (.iconst 1, 1) := by decide +kernel
theorem dX6_count_101 : decode cX6_count 101 = .ok (.iload_n 3, 1) := by decide +kernel
theorem dX6_count_102 : decode cX6_count 102 = .ok (.ishl, 1) := by decide +kernel
theorem dX6_count_103 : decode cX6_count 103 = .ok (.goto 4, 3) := by decide +kernel
theorem dX6_count_106 : decode cX6_count 106 = .ok (.iconst 0, 1) := by decide +kernel
theorem dX6_count_107 : decode cX6_count 107 = .ok (.ior, 1) := by decide +kernel
theorem dX6_count_108 : decode cX6_count 108 = .ok (.istore_n 2, 1) := by decide +kernel
theorem dX6_count_109 : decode cX6_count 109 = .ok (.iinc 3 1, 3) := by decide +kernel
theorem dX6_count_112 : decode cX6_count 112 = .ok (.goto (-31), 3) := by decide +kernel
theorem dX6_count_115 : decode cX6_count 115 = .ok (.iload_n 2, 1) := by decide +kernel
theorem dX6_count_116 : decode cX6_count 116 = .ok (.ireturn, 1) := by decide +kernel
theorem dX6_count_117 : decode cX6_count 117 = .ok (.aload_n 0, 1) := by decide +kernel
theorem dX6_count_118 : decode cX6_count 118 = .ok (.invokevirtual 221, 3) := by decide +kernel
theorem dX6_count_121 : decode cX6_count 121 = .ok (.ireturn, 1) := by decide +kernel
theorem dX6_count_122 : decode cX6_count 122 = .ok (.aload_n 0, 1) := by decide +kernel
theorem dX6_count_123 : decode cX6_count 123 = .ok (.getfield 202, 3) := by decide +kernel
theorem dX6_count_126 : decode cX6_count 126 = .ok (.ireturn, 1) := by decide +kernel
theorem dX6_count_127 : decode cX6_count 127 = .ok (.aload_n 0, 1) := by decide +kernel
theorem dX6_count_128 : decode cX6_count 128 = .ok (.getfield 94, 3) := by decide +kernel
theorem dX6_count_131 : decode cX6_count 131 = .ok (.ireturn, 1) := by decide +kernel
theorem dX6_count_132 : decode cX6_count 132 = .ok (.bipush (-9), 2) := by decide +kernel
theorem dX6_count_134 : decode cX6_count 134 = .ok (.ireturn, 1) := by decide +kernel
theorem dJ6_numberOfLeadingZeros_0f7a4_0 : decode cJ6_numberOfLeadingZeros_0f7a4 0 = .ok (.iload_n 0, 1) := by decide +kernel
theorem dJ6_numberOfLeadingZeros_0f7a4_1 : decode cJ6_numberOfLeadingZeros_0f7a4 1 = .ok (.ifCond .gt 14, 3) := by decide +kernel
theorem dJ6_numberOfLeadingZeros_0f7a4_4 : decode cJ6_numberOfLeadingZeros_0f7a4 4 = .ok (.iload_n 0, 1) := by decide +kernel
theorem dJ6_numberOfLeadingZeros_0f7a4_5 : decode cJ6_numberOfLeadingZeros_0f7a4 5 = .ok (.ifCond .ne 8, 3) := by decide +kernel
theorem dJ6_numberOfLeadingZeros_0f7a4_8 : decode cJ6_numberOfLeadingZeros_0f7a4 8 = .ok (.bipush 32, 2) := by decide +kernel
theorem dJ6_numberOfLeadingZeros_0f7a4_10 : decode cJ6_numberOfLeadingZeros_0f7a4 10 = .ok (.goto 4, 3) := by decide +kernel
theorem dJ6_numberOfLeadingZeros_0f7a4_13 : decode cJ6_numberOfLeadingZeros_0f7a4 13 = .ok (.iconst 0, 1) := by decide +kernel
theorem dJ6_numberOfLeadingZeros_0f7a4_14 : decode cJ6_numberOfLeadingZeros_0f7a4 14 = .ok (.ireturn, 1) := by decide +kernel
theorem dJ6_numberOfLeadingZeros_0f7a4_15 : decode cJ6_numberOfLeadingZeros_0f7a4 15 = .ok (.bipush 31, 2) := by decide +kernel
theorem dJ6_numberOfLeadingZeros_0f7a4_17 : decode cJ6_numberOfLeadingZeros_0f7a4 17 = .ok (.istore_n 1, 1) := by decide +kernel
theorem dJ6_numberOfLeadingZeros_0f7a4_18 : decode cJ6_numberOfLeadingZeros_0f7a4 18 = .ok (.iload_n 0, 1) := by decide +kernel
theorem dJ6_numberOfLeadingZeros_0f7a4_19 : decode cJ6_numberOfLeadingZeros_0f7a4 19 = .ok (.ldc_w 264, 3) := by decide +kernel
theorem dJ6_numberOfLeadingZeros_0f7a4_22 : decode cJ6_numberOfLeadingZeros_0f7a4 22 = .ok (.if_icmp .lt 11, 3) := by decide +kernel
theorem dJ6_numberOfLeadingZeros_0f7a4_25 : decode cJ6_numberOfLeadingZeros_0f7a4 25 = .ok (.iinc 1 (-16), 3) := by decide +kernel
theorem dJ6_numberOfLeadingZeros_0f7a4_28 : decode cJ6_numberOfLeadingZeros_0f7a4 28 = .ok (.iload_n 0, 1) := by decide +kernel
theorem dJ6_numberOfLeadingZeros_0f7a4_29 : decode cJ6_numberOfLeadingZeros_0f7a4 29 = .ok (.bipush 16, 2) := by decide +kernel
theorem dJ6_numberOfLeadingZeros_0f7a4_31 : decode cJ6_numberOfLeadingZeros_0f7a4 31 = .ok (.iushr, 1) := by decide +kernel
theorem dJ6_numberOfLeadingZeros_0f7a4_32 : decode cJ6_numberOfLeadingZeros_0f7a4 32 = .ok (.istore_n 0, 1) := by decide +kernel
theorem dJ6_numberOfLeadingZeros_0f7a4_33 : decode cJ6_numberOfLeadingZeros_0f7a4 33 = .ok (.iload_n 0, 1) := by decide +kernel
theorem dJ6_numberOfLeadingZeros_0f7a4_34 : decode cJ6_numberOfLeadingZeros_0f7a4 34 = .ok (.sipush 256, 3) := by decide +kernel
theorem dJ6_numberOfLeadingZeros_0f7a4_37 : decode cJ6_numberOfLeadingZeros_0f7a4 37 = .ok (.if_icmp .lt 11, 3) := by decide +kernel
theorem dJ6_numberOfLeadingZeros_0f7a4_40 : decode cJ6_numberOfLeadingZeros_0f7a4 40 = .ok (.iinc 1 (-8), 3) := by decide +kernel
theorem dJ6_numberOfLeadingZeros_0f7a4_43 : decode cJ6_numberOfLeadingZeros_0f7a4 43 = .ok (.iload_n 0, 1) := by decide +kernel
theorem dJ6_numberOfLeadingZeros_0f7a4_44 : decode cJ6_numberOfLeadingZeros_0f7a4 44 = .ok (.bipush 8, 2) := by decide +kernel
theorem dJ6_numberOfLeadingZeros_0f7a4_46 : decode cJ6_numberOfLeadingZeros_0f7a4 46 = .ok (.iushr, 1) := by decide +kernel
theorem dJ6_numberOfLeadingZeros_0f7a4_47 : decode cJ6_numberOfLeadingZeros_0f7a4 47 = .ok (.istore_n 0, 1) := by decide +kernel
theorem dJ6_numberOfLeadingZeros_0f7a4_48 : decode cJ6_numberOfLeadingZeros_0f7a4 48 = .ok (.iload_n 0, 1) := by decide +kernel
theorem dJ6_numberOfLeadingZeros_0f7a4_49 : decode cJ6_numberOfLeadingZeros_0f7a4 49 = .ok (.bipush 16, 2) := by decide +kernel
theorem dJ6_numberOfLeadingZeros_0f7a4_51 : decode cJ6_numberOfLeadingZeros_0f7a4 51 = .ok (.if_icmp .lt 10, 3) := by decide +kernel
theorem dJ6_numberOfLeadingZeros_0f7a4_54 : decode cJ6_numberOfLeadingZeros_0f7a4 54 = .ok (.iinc 1 (-4), 3) := by decide +kernel
theorem dJ6_numberOfLeadingZeros_0f7a4_57 : decode cJ6_numberOfLeadingZeros_0f7a4 57 = .ok (.iload_n 0, 1) := by decide +kernel
theorem dJ6_numberOfLeadingZeros_0f7a4_58 : decode cJ6_numberOfLeadingZeros_0f7a4 58 = .ok (.iconst 4, 1) := by decide +kernel
theorem dJ6_numberOfLeadingZeros_0f7a4_59 : decode cJ6_numberOfLeadingZeros_0f7a4 59 = .ok (.iushr, 1) := by decide +kernel
theorem dJ6_numberOfLeadingZeros_0f7a4_60 : decode cJ6_numberOfLeadingZeros_0f7a4 60 = .ok (.istore_n 0, 1) := by decide +kernel
theorem dJ6_numberOfLeadingZeros_0f7a4_61 : decode cJ6_numberOfLeadingZeros_0f7a4 61 = .ok (.iload_n 0, 1) := by decide +kernel
theorem dJ6_numberOfLeadingZeros_0f7a4_62 : decode cJ6_numberOfLeadingZeros_0f7a4 62 = .ok (.iconst 4, 1) := by decide +kernel
theorem dJ6_numberOfLeadingZeros_0f7a4_63 : decode cJ6_numberOfLeadingZeros_0f7a4 63 = .ok (.if_icmp .lt 10, 3) := by decide +kernel
theorem dJ6_numberOfLeadingZeros_0f7a4_66 : decode cJ6_numberOfLeadingZeros_0f7a4 66 = .ok (.iinc 1 (-2), 3) := by decide +kernel
theorem dJ6_numberOfLeadingZeros_0f7a4_69 : decode cJ6_numberOfLeadingZeros_0f7a4 69 = .ok (.iload_n 0, 1) := by decide +kernel
theorem dJ6_numberOfLeadingZeros_0f7a4_70 : decode cJ6_numberOfLeadingZeros_0f7a4 70 = .ok (.iconst 2, 1) := by decide +kernel
theorem dJ6_numberOfLeadingZeros_0f7a4_71 : decode cJ6_numberOfLeadingZeros_0f7a4 71 = .ok (.iushr, 1) := by decide +kernel
theorem dJ6_numberOfLeadingZeros_0f7a4_72 : decode cJ6_numberOfLeadingZeros_0f7a4 72 = .ok (.istore_n 0, 1) := by decide +kernel
theorem dJ6_numberOfLeadingZeros_0f7a4_73 : decode cJ6_numberOfLeadingZeros_0f7a4 73 = .ok (.iload_n 1, 1) := by decide +kernel
theorem dJ6_numberOfLeadingZeros_0f7a4_74 : decode cJ6_numberOfLeadingZeros_0f7a4 74 = .ok (.iload_n 0, 1) := by decide +kernel
theorem dJ6_numberOfLeadingZeros_0f7a4_75 : decode cJ6_numberOfLeadingZeros_0f7a4 75 = .ok (.iconst 1, 1) := by decide +kernel
theorem dJ6_numberOfLeadingZeros_0f7a4_76 : decode cJ6_numberOfLeadingZeros_0f7a4 76 = .ok (.iushr, 1) := by decide +kernel
theorem dJ6_numberOfLeadingZeros_0f7a4_77 : decode cJ6_numberOfLeadingZeros_0f7a4 77 = .ok (.isub, 1) := by decide +kernel
theorem dJ6_numberOfLeadingZeros_0f7a4_78 : decode cJ6_numberOfLeadingZeros_0f7a4 78 = .ok (.ireturn, 1) := by decide +kernel
theorem dJ6_numberOfTrailingZeros_0f7a4_0 : decode cJ6_numberOfTrailingZeros_0f7a4 0 = .ok (.iload_n 0, 1) := by decide +kernel
theorem dJ6_numberOfTrailingZeros_0f7a4_1 : decode cJ6_numberOfTrailingZeros_0f7a4 1 = .ok (.iconst (-1), 1) := by decide +kernel
theorem dJ6_numberOfTrailingZeros_0f7a4_2 : decode cJ6_numberOfTrailingZeros_0f7a4 2 = .ok (.ixor, 1) := by decide +kernel
theorem dJ6_numberOfTrailingZeros_0f7a4_3 : decode cJ6_numberOfTrailingZeros_0f7a4 3 = .ok (.iload_n 0, 1) := by decide +kernel
theorem dJ6_numberOfTrailingZeros_0f7a4_4 : decode cJ6_numberOfTrailingZeros_0f7a4 4 = .ok (.iconst 1, 1) := by decide +kernel
theorem dJ6_numberOfTrailingZeros_0f7a4_5 : decode cJ6_numberOfTrailingZeros_0f7a4 5 = .ok (.isub, 1) := by decide +kernel
theorem dJ6_numberOfTrailingZeros_0f7a4_6 : decode cJ6_numberOfTrailingZeros_0f7a4 6 = .ok (.iand, 1) := by decide +kernel
theorem dJ6_numberOfTrailingZeros_0f7a4_7 : decode cJ6_numberOfTrailingZeros_0f7a4 7 = .ok (.istore_n 0, 1) := by decide +kernel
theorem dJ6_numberOfTrailingZeros_0f7a4_8 : decode cJ6_numberOfTrailingZeros_0f7a4 8 = .ok (.iload_n 0, 1) := by decide +kernel
theorem dJ6_numberOfTrailingZeros_0f7a4_9 : decode cJ6_numberOfTrailingZeros_0f7a4 9 = .ok (.ifCond .gt 8, 3) := by decide +kernel
theorem dJ6_numberOfTrailingZeros_0f7a4_12 : decode cJ6_numberOfTrailingZeros_0f7a4 12 = .ok (.iload_n 0, 1) := by decide +kernel
theorem dJ6_numberOfTrailingZeros_0f7a4_13 : decode cJ6_numberOfTrailingZeros_0f7a4 13 = .ok (.bipush 32, 2) := by decide +kernel
theorem dJ6_numberOfTrailingZeros_0f7a4_15 : decode cJ6_numberOfTrailingZeros_0f7a4 15 = .ok (.iand, 1) := by decide +kernel
theorem dJ6_numberOfTrailingZeros_0f7a4_16 : decode cJ6_numberOfTrailingZeros_0f7a4 16 = .ok (.ireturn, 1) := by decide +kernel
theorem dJ6_numberOfTrailingZeros_0f7a4_17 : decode cJ6_numberOfTrailingZeros_0f7a4 17 = .ok (.iconst 1, 1) := by decide +kernel
theorem dJ6_numberOfTrailingZeros_0f7a4_18 : decode cJ6_numberOfTrailingZeros_0f7a4 18 = .ok (.istore_n 1, 1) := by decide +kernel
theorem dJ6_numberOfTrailingZeros_0f7a4_19 : decode cJ6_numberOfTrailingZeros_0f7a4 19 = .ok (.iload_n 0, 1) := by decide +kernel
theorem dJ6_numberOfTrailingZeros_0f7a4_20 : decode cJ6_numberOfTrailingZeros_0f7a4 20 = .ok (.ldc_w 264, 3) := by decide +kernel
theorem dJ6_numberOfTrailingZeros_0f7a4_23 : decode cJ6_numberOfTrailingZeros_0f7a4 23 = .ok (.if_icmp .le 11, 3) := by decide +kernel
theorem dJ6_numberOfTrailingZeros_0f7a4_26 : decode cJ6_numberOfTrailingZeros_0f7a4 26 = .ok (.iinc 1 16, 3) := by decide +kernel
theorem dJ6_numberOfTrailingZeros_0f7a4_29 : decode cJ6_numberOfTrailingZeros_0f7a4 29 = .ok (.iload_n 0, 1) := by decide +kernel
theorem dJ6_numberOfTrailingZeros_0f7a4_30 : decode cJ6_numberOfTrailingZeros_0f7a4 30 = .ok (.bipush 16, 2) := by decide +kernel
theorem dJ6_numberOfTrailingZeros_0f7a4_32 : decode cJ6_numberOfTrailingZeros_0f7a4 32 = .ok (.iushr, 1) := by decide +kernel
theorem dJ6_numberOfTrailingZeros_0f7a4_33 : decode cJ6_numberOfTrailingZeros_0f7a4 33 = .ok (.istore_n 0, 1) := by decide +kernel
theorem dJ6_numberOfTrailingZeros_0f7a4_34 : decode cJ6_numberOfTrailingZeros_0f7a4 34 = .ok (.iload_n 0, 1) := by decide +kernel
theorem dJ6_numberOfTrailingZeros_0f7a4_35 : decode cJ6_numberOfTrailingZeros_0f7a4 35 = .ok (.sipush 256, 3) := by decide +kernel
theorem dJ6_numberOfTrailingZeros_0f7a4_38 : decode cJ6_numberOfTrailingZeros_0f7a4 38 = .ok (.if_icmp .le 11, 3) := by decide +kernel
theorem dJ6_numberOfTrailingZeros_0f7a4_41 : decode cJ6_numberOfTrailingZeros_0f7a4 41 = .ok (.iinc 1 8, 3) := by decide +kernel
theorem dJ6_numberOfTrailingZeros_0f7a4_44 : decode cJ6_numberOfTrailingZeros_0f7a4 44 = .ok (.iload_n 0, 1) := by decide +kernel
theorem dJ6_numberOfTrailingZeros_0f7a4_45 : decode cJ6_numberOfTrailingZeros_0f7a4 45 = .ok (.bipush 8, 2) := by decide +kernel
theorem dJ6_numberOfTrailingZeros_0f7a4_47 : decode cJ6_numberOfTrailingZeros_0f7a4 47 = .ok (.iushr, 1) := by decide +kernel
theorem dJ6_numberOfTrailingZeros_0f7a4_48 : decode cJ6_numberOfTrailingZeros_0f7a4 48 = .ok (.istore_n 0, 1) := by decide +kernel
theorem dJ6_numberOfTrailingZeros_0f7a4_49 : decode cJ6_numberOfTrailingZeros_0f7a4 49 = .ok (.iload_n 0, 1) := by decide +kernel
theorem dJ6_numberOfTrailingZeros_0f7a4_50 : decode cJ6_numberOfTrailingZeros_0f7a4 50 = .ok (.bipush 16, 2) := by decide +kernel
theorem dJ6_numberOfTrailingZeros_0f7a4_52 : decode cJ6_numberOfTrailingZeros_0f7a4 52 = .ok (.if_icmp .le 10, 3) := by decide +kernel
theorem dJ6_numberOfTrailingZeros_0f7a4_55 : decode cJ6_numberOfTrailingZeros_0f7a4 55 = .ok (.iinc 1 4, 3) := by decide +kernel
theorem dJ6_numberOfTrailingZeros_0f7a4_58 : decode cJ6_numberOfTrailingZeros_0f7a4 58 = .ok (.iload_n 0, 1) := by decide +kernel
theorem dJ6_numberOfTrailingZeros_0f7a4_59 : decode cJ6_numberOfTrailingZeros_0f7a4 59 = .ok (.iconst 4, 1) := by decide +kernel
theorem dJ6_numberOfTrailingZeros_0f7a4_60 : decode cJ6_numberOfTrailingZeros_0f7a4 60 = .ok (.iushr, 1) := by decide +kernel
theorem dJ6_numberOfTrailingZeros_0f7a4_61 : decode cJ6_numberOfTrailingZeros_0f7a4 61 = .ok (.istore_n 0, 1) := by decide +kernel
theorem dJ6_numberOfTrailingZeros_0f7a4_62 : decode cJ6_numberOfTrailingZeros_0f7a4 62 = .ok (.iload_n 0, 1) := by decide +kernel
theorem dJ6_numberOfTrailingZeros_0f7a4_63 : decode cJ6_numberOfTrailingZeros_0f7a4 63 = .ok (.iconst 4, 1) := by decide +kernel
theorem dJ6_numberOfTrailingZeros_0f7a4_64 : decode cJ6_numberOfTrailingZeros_0f7a4 64 = .ok (.if_icmp .le 10, 3) := by decide +kernel
theorem dJ6_numberOfTrailingZeros_0f7a4_67 : decode cJ6_numberOfTrailingZeros_0f7a4 67 = .ok (.iinc 1 2, 3) := by decide +kernel
theorem dJ6_numberOfTrailingZeros_0f7a4_70 : decode cJ6_numberOfTrailingZeros_0f7a4 70 = .ok (.iload_n 0, 1) := by decide +kernel
theorem dJ6_numberOfTrailingZeros_0f7a4_71 : decode cJ6_numberOfTrailingZeros_0f7a4 71 = .ok (.iconst 2, 1) := by decide +kernel
theorem dJ6_numberOfTrailingZeros_0f7a4_72 : decode cJ6_numberOfTrailingZeros_0f7a4 72 = .ok (.iushr, 1) := by decide +kernel
theorem dJ6_numberOfTrailingZeros_0f7a4_73 : decode cJ6_numberOfTrailingZeros_0f7a4 73 = .ok (.istore_n 0, 1) := by decide +kernel
theorem dJ6_numberOfTrailingZeros_0f7a4_74 : decode cJ6_numberOfTrailingZeros_0f7a4 74 = .ok (.iload_n 1, 1) := by decide +kernel
theorem dJ6_numberOfTrailingZeros_0f7a4_75 : decode cJ6_numberOfTrailingZeros_0f7a4 75 = .ok (.iload_n 0, 1) := by decide +kernel
theorem dJ6_numberOfTrailingZeros_0f7a4_76 : decode cJ6_numberOfTrailingZeros_0f7a4 76 = .ok (.iconst 1, 1) := by decide +kernel
theorem dJ6_numberOfTrailingZeros_0f7a4_77 : decode cJ6_numberOfTrailingZeros_0f7a4 77 = .ok (.iushr, 1) := by decide +kernel
theorem dJ6_numberOfTrailingZeros_0f7a4_78 : decode cJ6_numberOfTrailingZeros_0f7a4 78 = .ok (.iadd, 1) := by decide +kernel
theorem dJ6_numberOfTrailingZeros_0f7a4_79 : decode cJ6_numberOfTrailingZeros_0f7a4 79 = .ok (.ireturn, 1) := by decide +kernel
theorem dJ6_bitCount_0f7a4_0 : decode cJ6_bitCount_0f7a4 0 = .ok (.iload_n 0, 1) := by decide +kernel
theorem dJ6_bitCount_0f7a4_1 : decode cJ6_bitCount_0f7a4 1 = .ok (.iload_n 0, 1) := by decide +kernel
theorem dJ6_bitCount_0f7a4_2 : decode cJ6_bitCount_0f7a4 2 = .ok (.iconst 1, 1) := by decide +kernel
theorem dJ6_bitCount_0f7a4_3 : decode cJ6_bitCount_0f7a4 3 = .ok (.iushr, 1) := by decide +kernel
theorem dJ6_bitCount_0f7a4_4 : decode cJ6_bitCount_0f7a4 4 = .ok (.ldc_w 265, 3) := by decide +kernel
theorem dJ6_bitCount_0f7a4_7 : decode cJ6_bitCount_0f7a4 7 = .ok (.iand, 1) := by decide +kernel
theorem dJ6_bitCount_0f7a4_8 : decode cJ6_bitCount_0f7a4 8 = .ok (.isub, 1) := by decide +kernel
theorem dJ6_bitCount_0f7a4_9 : decode cJ6_bitCount_0f7a4 9 = .ok (.istore_n 0, 1) := by decide +kernel
theorem dJ6_bitCount_0f7a4_10 : decode cJ6_bitCount_0f7a4 10 = .ok (.iload_n 0, 1) := by decide +kernel
theorem dJ6_bitCount_0f7a4_11 : decode cJ6_bitCount_0f7a4 11 = .ok (.ldc_w 266, 3) := by decide +kernel
theorem dJ6_bitCount_0f7a4_14 : decode cJ6_bitCount_0f7a4 14 = .ok (.iand, 1) := by decide +kernel
theorem dJ6_bitCount_0f7a4_15 : decode cJ6_bitCount_0f7a4 15 = .ok (.iload_n 0, 1) := by decide +kernel
theorem dJ6_bitCount_0f7a4_16 : decode cJ6_bitCount_0f7a4 16 = .ok (.iconst 2, 1) := by decide +kernel
theorem dJ6_bitCount_0f7a4_17 : decode cJ6_bitCount_0f7a4 17 = .ok (.iushr, 1) := by decide +kernel
theorem dJ6_bitCount_0f7a4_18 : decode cJ6_bitCount_0f7a4 18 = .ok (.ldc_w 266, 3) := by decide +kernel
theorem dJ6_bitCount_0f7a4_21 : decode cJ6_bitCount_0f7a4 21 = .ok (.iand, 1) := by decide +kernel
theorem dJ6_bitCount_0f7a4_22 : decode cJ6_bitCount_0f7a4 22 = .ok (.iadd, 1) := by decide +kernel
theorem dJ6_bitCount_0f7a4_23 : decode cJ6_bitCount_0f7a4 23 = .ok (.istore_n 0, 1) := by decide +kernel
theorem dJ6_bitCount_0f7a4_24 : decode cJ6_bitCount_0f7a4 24 = .ok (.iload_n 0, 1) := by decide +kernel
theorem dJ6_bitCount_0f7a4_25 : decode cJ6_bitCount_0f7a4 25 = .ok (.iload_n 0, 1) := by decide +kernel
theorem dJ6_bitCount_0f7a4_26 : decode cJ6_bitCount_0f7a4 26 = .ok (.iconst 4, 1) := by decide +kernel
theorem dJ6_bitCount_0f7a4_27 : decode cJ6_bitCount_0f7a4 27 = .ok (.iushr, 1) := by decide +kernel
theorem dJ6_bitCount_0f7a4_28 : decode cJ6_bitCount_0f7a4 28 = .ok (.iadd, 1) := by decide +kernel
theorem dJ6_bitCount_0f7a4_29 : decode cJ6_bitCount_0f7a4 29 = .ok (.ldc_w 267, 3) := by decide +kernel
theorem dJ6_bitCount_0f7a4_32 : decode cJ6_bitCount_0f7a4 32 = .ok (.iand, 1) := by decide +kernel
theorem dJ6_bitCount_0f7a4_33 : decode cJ6_bitCount_0f7a4 33 = .ok (.istore_n 0, 1) := by decide +kernel
theorem dJ6_bitCount_0f7a4_34 : decode cJ6_bitCount_0f7a4 34 = .ok (.iload_n 0, 1) := by decide +kernel
theorem dJ6_bitCount_0f7a4_35 : decode cJ6_bitCount_0f7a4 35 = .ok (.iload_n 0, 1) := by decide +kernel
theorem dJ6_bitCount_0f7a4_36 : decode cJ6_bitCount_0f7a4 36 = .ok (.bipush 8, 2) := by decide +kernel
theorem dJ6_bitCount_0f7a4_38 : decode cJ6_bitCount_0f7a4 38 = .ok (.iushr, 1) := by decide +kernel
theorem dJ6_bitCount_0f7a4_39 : decode cJ6_bitCount_0f7a4 39 = .ok (.iadd, 1) := by decide +kernel
theorem dJ6_bitCount_0f7a4_40 : decode cJ6_bitCount_0f7a4 40 = .ok (.istore_n 0, 1) := by decide +kernel
theorem dJ6_bitCount_0f7a4_41 : decode cJ6_bitCount_0f7a4 41 = .ok (.iload_n 0, 1) := by decide +kernel
theorem dJ6_bitCount_0f7a4_42 : decode cJ6_bitCount_0f7a4 42 = .ok (.iload_n 0, 1) := by decide +kernel
theorem dJ6_bitCount_0f7a4_43 : decode cJ6_bitCount_0f7a4 43 = .ok (.bipush 16, 2) := by decide +kernel
theorem dJ6_bitCount_0f7a4_45 : decode cJ6_bitCount_0f7a4 45 = .ok (.iushr, 1) := by decide +kernel
theorem dJ6_bitCount_0f7a4_46 : decode cJ6_bitCount_0f7a4 46 = .ok (.iadd, 1) := by decide +kernel
theorem dJ6_bitCount_0f7a4_47 : decode cJ6_bitCount_0f7a4 47 = .ok (.istore_n 0, 1) := by decide +kernel
theorem dJ6_bitCount_0f7a4_48 : decode cJ6_bitCount_0f7a4 48 = .ok (.iload_n 0, 1) := by decide +kernel
theorem dJ6_bitCount_0f7a4_49 : decode cJ6_bitCount_0f7a4 49 = .ok (.bipush 63, 2) := by decide +kernel
theorem dJ6_bitCount_0f7a4_51 : decode cJ6_bitCount_0f7a4 51 = .ok (.iand, 1) := by decide +kernel
theorem dJ6_bitCount_0f7a4_52 : decode cJ6_bitCount_0f7a4 52 = .ok (.ireturn, 1) := by decide +kernel
theorem dJ9_abs_0f7a4_0 : decode cJ9_abs_0f7a4 0 = .ok (.iload_n 0, 1) := by decide +kernel
theorem dJ9_abs_0f7a4_1 : decode cJ9_abs_0f7a4 1 = .ok (.ifCond .ge 8, 3) := by decide +kernel
theorem dJ9_abs_0f7a4_4 : decode cJ9_abs_0f7a4 4 = .ok (.iload_n 0, 1) := by decide +kernel
theorem dJ9_abs_0f7a4_5 : decode cJ9_abs_0f7a4 5 = .ok (.ineg, 1) := by decide +kernel
theorem dJ9_abs_0f7a4_6 : decode cJ9_abs_0f7a4 6 = .ok (.goto 4, 3) := by decide +kernel
theorem dJ9_abs_0f7a4_9 : decode cJ9_abs_0f7a4 9 = .ok (.iload_n 0, 1) := by decide +kernel
theorem dJ9_abs_0f7a4_10 : decode cJ9_abs_0f7a4 10 = .ok (.ireturn, 1) := by decide +kernel
theorem dJ9_max_7cf53_0 : decode cJ9_max_7cf53 0 = .ok (.iload_n 0, 1) := by decide +kernel
theorem dJ9_max_7cf53_1 : decode cJ9_max_7cf53 1 = .ok (.iload_n 1, 1) := by decide +kernel
theorem dJ9_max_7cf53_2 : decode cJ9_max_7cf53 2 = .ok (.if_icmp .lt 7, 3) := by decide +kernel
theorem dJ9_max_7cf53_5 : decode cJ9_max_7cf53 5 = .ok (.iload_n 0, 1) := by decide +kernel
theorem dJ9_max_7cf53_6 : decode cJ9_max_7cf53 6 = .ok (.goto 4, 3) := by decide +kernel
theorem dJ9_max_7cf53_9 : decode cJ9_max_7cf53 9 = .ok (.iload_n 1, 1) := by decide +kernel
theorem dJ9_max_7cf53_10 : decode cJ9_max_7cf53 10 = .ok (.ireturn, 1) := by decide +kernel
theorem dJ9_max_f86c9_0 : decode cJ9_max_f86c9 0 = .ok (.lload_n 0, 1) := by decide +kernel
theorem dJ9_max_f86c9_1 : decode cJ9_max_f86c9 1 = .ok (.lload_n 2, 1) := by decide +kernel
theorem dJ9_max_f86c9_2 : decode cJ9_max_f86c9 2 = .ok (.lcmp, 1) := by decide +kernel
theorem dJ9_max_f86c9_3 : decode cJ9_max_f86c9 3 = .ok (.ifCond .lt 7, 3) := by decide +kernel
theorem dJ9_max_f86c9_6 : decode cJ9_max_f86c9 6 = .ok (.lload_n 0, 1) := by decide +kernel
theorem dJ9_max_f86c9_7 : decode cJ9_max_f86c9 7 = .ok (.goto 4, 3) := by decide +kernel
theorem dJ9_max_f86c9_10 : decode cJ9_max_f86c9 10 = .ok (.lload_n 2, 1) := by decide +kernel
theorem dJ9_max_f86c9_11 : decode cJ9_max_f86c9 11 = .ok (.lreturn, 1) := by decide +kernel
theorem dJ9_min_7cf53_0 : decode cJ9_min_7cf53 0 = .ok (.iload_n 0, 1) := by decide +kernel
theorem dJ9_min_7cf53_1 : decode cJ9_min_7cf53 1 = .ok (.iload_n 1, 1) := by decide +kernel
theorem dJ9_min_7cf53_2 : decode cJ9_min_7cf53 2 = .ok (.if_icmp .gt 7, 3) := by decide +kernel
theorem dJ9_min_7cf53_5 : decode cJ9_min_7cf53 5 = .ok (.iload_n 0, 1) := by decide +kernel
theorem dJ9_min_7cf53_6 : decode cJ9_min_7cf53 6 = .ok (.goto 4, 3) := by decide +kernel
theorem dJ9_min_7cf53_9 : decode cJ9_min_7cf53 9 = .ok (.iload_n 1, 1) := by decide +kernel
theorem dJ9_min_7cf53_10 : decode cJ9_min_7cf53 10 = .ok (.ireturn, 1) := by decide +kernel
theorem dJ0_length_8abf5_0 : decode cJ0_length_8abf5 0 = .ok (.aload_n 0, 1) := by decide +kernel
theorem dJ0_length_8abf5_1 : decode cJ0_length_8abf5 1 = .ok (.getfield 9, 3) := by decide +kernel
theorem dJ0_length_8abf5_4 : decode cJ0_length_8abf5 4 = .ok (.arraylength, 1) := by decide +kernel
theorem dJ0_length_8abf5_5 : decode cJ0_length_8abf5 5 = .ok (.aload_n 0, 1) := by decide +kernel
theorem dJ0_length_8abf5_6 : decode cJ0_length_8abf5 6 = .ok (.invokevirtual 335, 3) := by decide +kernel
theorem dJ0_length_8abf5_9 : decode cJ0_length_8abf5 9 = .ok (.ishr, 1) := by decide +kernel
theorem dJ0_length_8abf5_10 : decode cJ0_length_8abf5 10 = .ok (.ireturn, 1) := by decide +kernel
theorem dJ0_isEmpty_aae02_0 : decode cJ0_isEmpty_aae02 0 = .ok (.aload_n 0, 1) := by decide +kernel
theorem dJ0_isEmpty_aae02_1 : decode cJ0_isEmpty_aae02 1 = .ok (.getfield 9, 3) := by decide +kernel
theorem dJ0_isEmpty_aae02_4 : decode cJ0_isEmpty_aae02 4 = .ok (.arraylength, 1) := by decide +kernel
theorem dJ0_isEmpty_aae02_5 : decode cJ0_isEmpty_aae02 5 = .ok (.ifCond .ne 7, 3) := by decide +kernel
theorem dJ0_isEmpty_aae02_8 : decode cJ0_isEmpty_aae02 8 = .ok (.iconst 1, 1) := by decide +kernel
theorem dJ0_isEmpty_aae02_9 : decode cJ0_isEmpty_aae02 9 = .ok (.goto 4, 3) := by decide +kernel
theorem dJ0_isEmpty_aae02_12 : decode cJ0_isEmpty_aae02 12 = .ok (.iconst 0, 1) := by decide +kernel
theorem dJ0_isEmpty_aae02_13 : decode cJ0_isEmpty_aae02 13 = .ok (.ireturn, 1) := by decide +kernel
theorem dJ0_charAt_5068e_0 : decode cJ0_charAt_5068e 0 = .ok (.aload_n 0, 1) := by decide +kernel
theorem dJ0_charAt_5068e_1 : decode cJ0_charAt_5068e 1 = .ok (.invokevirtual 492, 3) := by decide +kernel
theorem dJ0_charAt_5068e_4 : decode cJ0_charAt_5068e 4 = .ok (.ifCond .eq 12, 3) := by decide +kernel
theorem dJ0_charAt_5068e_7 : decode cJ0_charAt_5068e 7 = .ok (.aload_n 0, 1) := by decide +kernel
theorem dJ0_charAt_5068e_8 : decode cJ0_charAt_5068e 8 = .ok (.getfield 9, 3) := by decide +kernel
theorem dJ0_charAt_5068e_11 : decode cJ0_charAt_5068e 11 = .ok (.iload_n 1, 1) := by decide +kernel
theorem dJ0_charAt_5068e_12 : decode cJ0_charAt_5068e 12 = .ok (.invokestatic 495, 3) := by decide +kernel
theorem dJ0_charAt_5068e_15 : decode cJ0_charAt_5068e 15 = .ok (.ireturn, 1) := by decide +kernel
theorem dJ0_charAt_5068e_16 : decode cJ0_charAt_5068e 16 = .ok (.aload_n 0, 1) := by decide +kernel
theorem dJ0_charAt_5068e_17 : decode cJ0_charAt_5068e 17 = .ok (.getfield 9, 3) := by decide +kernel
theorem dJ0_charAt_5068e_20 : decode cJ0_charAt_5068e 20 = .ok (.iload_n 1, 1) := by decide +kernel
theorem dJ0_charAt_5068e_21 : decode cJ0_charAt_5068e 21 = .ok (.invokestatic 498, 3) := by decide +kernel
theorem dJ0_charAt_5068e_24 : decode cJ0_charAt_5068e 24 = .ok (.ireturn, 1) := by decide +kernel
theorem dJ0_indexOf_0f7a4_0 : decode cJ0_indexOf_0f7a4 0 = .ok (.aload_n 0, 1) := by decide +kernel
theorem dJ0_indexOf_0f7a4_1 : decode cJ0_indexOf_0f7a4 1 = .ok (.iload_n 1, 1) := by decide +kernel
theorem dJ0_indexOf_0f7a4_2 : decode cJ0_indexOf_0f7a4 2 = .ok (.iconst 0, 1) := by decide +kernel
theorem dJ0_indexOf_0f7a4_3 : decode cJ0_indexOf_0f7a4 3 = .ok (.invokevirtual 633, 3) := by decide +kernel
theorem dJ0_indexOf_0f7a4_6 : decode cJ0_indexOf_0f7a4 6 = .ok (.ireturn, 1) := by decide +kernel
theorem dJ0_indexOf_7cf53_0 : decode cJ0_indexOf_7cf53 0 = .ok (.aload_n 0, 1) := by decide +kernel
theorem dJ0_indexOf_7cf53_1 : decode cJ0_indexOf_7cf53 1 = .ok (.invokevirtual 492, 3) := by decide +kernel
theorem dJ0_indexOf_7cf53_4 : decode cJ0_indexOf_7cf53 4 = .ok (.ifCond .eq 19, 3) := by decide +kernel
theorem dJ0_indexOf_7cf53_7 : decode cJ0_indexOf_7cf53 7 = .ok (.aload_n 0, 1) := by decide +kernel
theorem dJ0_indexOf_7cf53_8 : decode cJ0_indexOf_7cf53 8 = .ok (.getfield 9, 3) := by decide +kernel
theorem dJ0_indexOf_7cf53_11 : decode cJ0_indexOf_7cf53 11 = .ok (.iload_n 1, 1) := by decide +kernel
theorem dJ0_indexOf_7cf53_12 : decode cJ0_indexOf_7cf53 12 = .ok (.iload_n 2, 1) := by decide +kernel
theorem dJ0_indexOf_7cf53_13 : decode cJ0_indexOf_7cf53 13 = .ok (.aload_n 0, 1) := by decide +kernel
theorem dJ0_indexOf_7cf53_14 : decode cJ0_indexOf_7cf53 14 = .ok (.invokevirtual 505, 3) := by decide +kernel
theorem dJ0_indexOf_7cf53_17 : decode cJ0_indexOf_7cf53 17 = .ok (.invokestatic 637, 3) := by decide +kernel
theorem dJ0_indexOf_7cf53_20 : decode cJ0_indexOf_7cf53 20 = .ok (.goto 16, 3) := by decide +kernel
theorem dJ0_indexOf_7cf53_23 : decode cJ0_indexOf_7cf53 23 = .ok (.aload_n 0, 1) := by decide +kernel
theorem dJ0_indexOf_7cf53_24 : decode cJ0_indexOf_7cf53 24 = .ok (.getfield 9, 3) := by decide +kernel
theorem dJ0_indexOf_7cf53_27 : decode cJ0_indexOf_7cf53 27 = .ok (.iload_n 1, 1) := by decide +kernel
theorem dJ0_indexOf_7cf53_28 : decode cJ0_indexOf_7cf53 28 = .ok (.iload_n 2, 1) := by decide +kernel
theorem dJ0_indexOf_7cf53_29 : decode cJ0_indexOf_7cf53 29 = .ok (.aload_n 0, 1) := by decide +kernel
theorem dJ0_indexOf_7cf53_30 : decode cJ0_indexOf_7cf53 30 = .ok (.invokevirtual 505, 3) := by decide +kernel
theorem dJ0_indexOf_7cf53_33 : decode cJ0_indexOf_7cf53 33 = .ok (.invokestatic 640, 3) := by decide +kernel
theorem dJ0_indexOf_7cf53_36 : decode cJ0_indexOf_7cf53 36 = .ok (.ireturn, 1) := by decide +kernel
theorem dJ0_coder_7d493_0 : decode cJ0_coder_7d493 0 = .ok (.getstatic 38, 3) := by decide +kernel
theorem dJ0_coder_7d493_3 : decode cJ0_coder_7d493 3 = .ok (.ifCond .eq 10, 3) := by decide +kernel
theorem dJ0_coder_7d493_6 : decode cJ0_coder_7d493 6 = .ok (.aload_n 0, 1) := by decide +kernel
theorem dJ0_coder_7d493_7 : decode cJ0_coder_7d493 7 = .ok (.getfield 15, 3) := by decide +kernel
theorem dJ0_coder_7d493_10 : decode cJ0_coder_7d493 10 = .ok (.goto 4, 3) := by decide +kernel
theorem dJ0_coder_7d493_13 : decode cJ0_coder_7d493 13 = .ok (.iconst 1, 1) := by decide +kernel
theorem dJ0_coder_7d493_14 : decode cJ0_coder_7d493 14 = .ok (.ireturn, 1) := by decide +kernel
theorem dJ0_isLatin1_aae02_0 : decode cJ0_isLatin1_aae02 0 = .ok (.getstatic 38, 3) := by decide +kernel
theorem dJ0_isLatin1_aae02_3 : decode cJ0_isLatin1_aae02 3 = .ok (.ifCond .eq 14, 3) := by decide +kernel
theorem dJ0_isLatin1_aae02_6 : decode cJ0_isLatin1_aae02 6 = .ok (.aload_n 0, 1) := by decide +kernel
theorem dJ0_isLatin1_aae02_7 : decode cJ0_isLatin1_aae02 7 = .ok (.getfield 15, 3) := by decide +kernel
theorem dJ0_isLatin1_aae02_10 : decode cJ0_isLatin1_aae02 10 = .ok (.ifCond .ne 7, 3) := by decide +kernel
theorem dJ0_isLatin1_aae02_13 : decode cJ0_isLatin1_aae02 13 = .ok (.iconst 1, 1) := by decide +kernel
theorem dJ0_isLatin1_aae02_14 : decode cJ0_isLatin1_aae02 14 = .ok (.goto 4, 3) := by decide +kernel
theorem dJ0_isLatin1_aae02_17 : decode cJ0_isLatin1_aae02 17 = .ok (.iconst 0, 1) := by decide +kernel
theorem dJ0_isLatin1_aae02_18 : decode cJ0_isLatin1_aae02 18 = .ok (.ireturn, 1) := by decide +kernel
theorem dJ0_checkIndex_df160_0 : decode cJ0_checkIndex_df160 0 = .ok (.iload_n 0, 1) := by decide +kernel
theorem dJ0_checkIndex_df160_1 : decode cJ0_checkIndex_df160 1 = .ok (.iload_n 1, 1) := by decide +kernel
theorem dJ0_checkIndex_df160_2 : decode cJ0_checkIndex_df160 2 = .ok (.getstatic 1053, 3) := by decide +kernel
theorem dJ0_checkIndex_df160_5 : decode cJ0_checkIndex_df160 5 = .ok (.invokestatic 1059, 3) := by decide +kernel
theorem dJ0_checkIndex_df160_8 : decode cJ0_checkIndex_df160 8 = .ok (.pop, 1) := by decide +kernel
theorem dJ0_checkIndex_df160_9 : decode cJ0_checkIndex_df160 9 = .ok (.return_, 1) := by decide +kernel
theorem dJ1_charAt_3b067_0 : decode cJ1_charAt_3b067 0 = .ok (.iload_n 1, 1) := by decide +kernel
theorem dJ1_charAt_3b067_1 : decode cJ1_charAt_3b067 1 = .ok (.aload_n 0, 1) := by decide +kernel
theorem dJ1_charAt_3b067_2 : decode cJ1_charAt_3b067 2 = .ok (.arraylength, 1) := by decide +kernel
theorem dJ1_charAt_3b067_3 : decode cJ1_charAt_3b067 3 = .ok (.invokestatic 9, 3) := by decide +kernel
theorem dJ1_charAt_3b067_6 : decode cJ1_charAt_3b067 6 = .ok (.aload_n 0, 1) := by decide +kernel
theorem dJ1_charAt_3b067_7 : decode cJ1_charAt_3b067 7 = .ok (.iload_n 1, 1) := by decide +kernel
theorem dJ1_charAt_3b067_8 : decode cJ1_charAt_3b067 8 = .ok (.baload, 1) := by decide +kernel
theorem dJ1_charAt_3b067_9 : decode cJ1_charAt_3b067 9 = .ok (.sipush 255, 3) := by decide +kernel
theorem dJ1_charAt_3b067_12 : decode cJ1_charAt_3b067 12 = .ok (.iand, 1) := by decide +kernel
theorem dJ1_charAt_3b067_13 : decode cJ1_charAt_3b067 13 = .ok (.i2c, 1) := by decide +kernel
theorem dJ1_charAt_3b067_14 : decode cJ1_charAt_3b067 14 = .ok (.ireturn, 1) := by decide +kernel
theorem dJ1_canEncode_9a6ad_0 : decode cJ1_canEncode_9a6ad 0 = .ok (.iload_n 0, 1) := by decide +kernel
theorem dJ1_canEncode_9a6ad_1 : decode cJ1_canEncode_9a6ad 1 = .ok (.ifCond .lt 14, 3) := by decide +kernel
theorem dJ1_canEncode_9a6ad_4 : decode cJ1_canEncode_9a6ad 4 = .ok (.iload_n 0, 1) := by decide +kernel
theorem dJ1_canEncode_9a6ad_5 : decode cJ1_canEncode_9a6ad 5 = .ok (.sipush 255, 3) := by decide +kernel
theorem dJ1_canEncode_9a6ad_8 : decode cJ1_canEncode_9a6ad 8 = .ok (.if_icmp .gt 7, 3) := by decide +kernel
theorem dJ1_canEncode_9a6ad_11 : decode cJ1_canEncode_9a6ad 11 = .ok (.iconst 1, 1) := by decide +kernel
theorem dJ1_canEncode_9a6ad_12 : decode cJ1_canEncode_9a6ad 12 = .ok (.goto 4, 3) := by decide +kernel
theorem dJ1_canEncode_9a6ad_15 : decode cJ1_canEncode_9a6ad 15 = .ok (.iconst 0, 1) := by decide +kernel
theorem dJ1_canEncode_9a6ad_16 : decode cJ1_canEncode_9a6ad 16 = .ok (.ireturn, 1) := by decide +kernel
theorem dJ1_indexOf_4cfef_0 : decode cJ1_indexOf_4cfef 0 = .ok (.iload_n 1, 1) := by decide +kernel
theorem dJ1_indexOf_4cfef_1 : decode cJ1_indexOf_4cfef 1 = .ok (.invokestatic 88, 3) := by decide +kernel
theorem dJ1_indexOf_4cfef_4 : decode cJ1_indexOf_4cfef 4 = .ok (.ifCond .ne 5, 3) := by decide +kernel
theorem dJ1_indexOf_4cfef_7 : decode cJ1_indexOf_4cfef 7 = .ok (.iconst (-1), 1) := by decide +kernel
theorem dJ1_indexOf_4cfef_8 : decode cJ1_indexOf_4cfef 8 = .ok (.ireturn, 1) := by decide +kernel
theorem dJ1_indexOf_4cfef_9 : decode cJ1_indexOf_4cfef 9 = .ok (.iload_n 2, 1) := by decide +kernel
theorem dJ1_indexOf_4cfef_10 : decode cJ1_indexOf_4cfef 10 = .ok (.iconst 0, 1) := by decide +kernel
theorem dJ1_indexOf_4cfef_11 : decode cJ1_indexOf_4cfef 11 = .ok (.invokestatic 92, 3) := by decide +kernel
theorem dJ1_indexOf_4cfef_14 : decode cJ1_indexOf_4cfef 14 = .ok (.istore_n 2, 1) := by decide +kernel
theorem dJ1_indexOf_4cfef_15 : decode cJ1_indexOf_4cfef 15 = .ok (.iload_n 3, 1) := by decide +kernel
theorem dJ1_indexOf_4cfef_16 : decode cJ1_indexOf_4cfef 16 = .ok (.aload_n 0, 1) := by decide +kernel
theorem dJ1_indexOf_4cfef_17 : decode cJ1_indexOf_4cfef 17 = .ok (.arraylength, 1) := by decide +kernel
theorem dJ1_indexOf_4cfef_18 : decode cJ1_indexOf_4cfef 18 = .ok (.invokestatic 38, 3) := by decide +kernel
theorem dJ1_indexOf_4cfef_21 : decode cJ1_indexOf_4cfef 21 = .ok (.istore_n 3, 1) := by decide +kernel
theorem dJ1_indexOf_4cfef_22 : decode cJ1_indexOf_4cfef 22 = .ok (.iload_n 2, 1) := by decide +kernel
theorem dJ1_indexOf_4cfef_23 : decode cJ1_indexOf_4cfef 23 = .ok (.iload_n 3, 1) := by decide +kernel
theorem dJ1_indexOf_4cfef_24 : decode cJ1_indexOf_4cfef 24 = .ok (.if_icmp .lt 5, 3) := by decide +kernel
theorem dJ1_indexOf_4cfef_27 : decode cJ1_indexOf_4cfef 27 = .ok (.iconst (-1), 1) := by decide +kernel
theorem dJ1_indexOf_4cfef_28 : decode cJ1_indexOf_4cfef 28 = .ok (.ireturn, 1) := by decide +kernel
theorem dJ1_indexOf_4cfef_29 : decode cJ1_indexOf_4cfef 29 = .ok (.aload_n 0, 1) := by decide +kernel
theorem dJ1_indexOf_4cfef_30 : decode cJ1_indexOf_4cfef 30 = .ok (.iload_n 1, 1) := by decide +kernel
theorem dJ1_indexOf_4cfef_31 : decode cJ1_indexOf_4cfef 31 = .ok (.iload_n 2, 1) := by decide +kernel
theorem dJ1_indexOf_4cfef_32 : decode cJ1_indexOf_4cfef 32 = .ok (.iload_n 3, 1) := by decide +kernel
theorem dJ1_indexOf_4cfef_33 : decode cJ1_indexOf_4cfef 33 = .ok (.invokestatic 95, 3) := by decide +kernel
theorem dJ1_indexOf_4cfef_36 : decode cJ1_indexOf_4cfef 36 = .ok (.ireturn, 1) := by decide +kernel
theorem dJ1_indexOfChar_4cfef_0 : decode cJ1_indexOfChar_4cfef 0 = .ok (.iload_n 1, 1) := by decide +kernel
theorem dJ1_indexOfChar_4cfef_1 : decode cJ1_indexOfChar_4cfef 1 = .ok (.i2b, 1) := by decide +kernel
theorem dJ1_indexOfChar_4cfef_2 : decode cJ1_indexOfChar_4cfef 2 = .ok (.istore 4, 2) := by decide +kernel
theorem dJ1_indexOfChar_4cfef_4 : decode cJ1_indexOfChar_4cfef 4 = .ok (.iload_n 2, 1) := by decide +kernel
theorem dJ1_indexOfChar_4cfef_5 : decode cJ1_indexOfChar_4cfef 5 = .ok (.istore 5, 2) := by decide +kernel
theorem dJ1_indexOfChar_4cfef_7 : decode cJ1_indexOfChar_4cfef 7 = .ok (.iload 5, 2) := by decide +kernel
theorem dJ1_indexOfChar_4cfef_9 : decode cJ1_indexOfChar_4cfef 9 = .ok (.iload_n 3, 1) := by decide +kernel
theorem dJ1_indexOfChar_4cfef_10 : decode cJ1_indexOfChar_4cfef 10 = .ok (.if_icmp .ge 21, 3) := by decide +kernel
theorem dJ1_indexOfChar_4cfef_13 : decode cJ1_indexOfChar_4cfef 13 = .ok (.aload_n 0, 1) := by decide +kernel
theorem dJ1_indexOfChar_4cfef_14 : decode cJ1_indexOfChar_4cfef 14 = .ok (.iload 5, 2) := by decide +kernel
theorem dJ1_indexOfChar_4cfef_16 : decode cJ1_indexOfChar_4cfef 16 = .ok (.baload, 1) := by decide +kernel
theorem dJ1_indexOfChar_4cfef_17 : decode cJ1_indexOfChar_4cfef 17 = .ok (.iload 4, 2) := by decide +kernel
theorem dJ1_indexOfChar_4cfef_19 : decode cJ1_indexOfChar_4cfef 19 = .ok (.if_icmp .ne 6, 3) := by decide +kernel
theorem dJ1_indexOfChar_4cfef_22 : decode cJ1_indexOfChar_4cfef 22 = .ok (.iload 5, 2) := by decide +kernel
theorem dJ1_indexOfChar_4cfef_24 : decode cJ1_indexOfChar_4cfef 24 = .ok (.ireturn, 1) := by decide +kernel
theorem dJ1_indexOfChar_4cfef_25 : decode cJ1_indexOfChar_4cfef 25 = .ok (.iinc 5 1, 3) := by decide +kernel
theorem dJ1_indexOfChar_4cfef_28 : decode cJ1_indexOfChar_4cfef 28 = .ok (.goto (-21), 3) := by decide +kernel
theorem dJ1_indexOfChar_4cfef_31 : decode cJ1_indexOfChar_4cfef 31 = .ok (.iconst (-1), 1) := by decide +kernel
theorem dJ1_indexOfChar_4cfef_32 : decode cJ1_indexOfChar_4cfef 32 = .ok (.ireturn, 1) := by decide +kernel
theorem dJ7_fill_53178_0 : decode cJ7_fill_53178 0 = .ok (.iconst 0, 1) := by decide +kernel
theorem dJ7_fill_53178_1 : decode cJ7_fill_53178 1 = .ok (.istore_n 2, 1) := by decide +kernel
theorem dJ7_fill_53178_2 : decode cJ7_fill_53178 2 = .ok (.aload_n 0, 1) := by decide +kernel
theorem dJ7_fill_53178_3 : decode cJ7_fill_53178 3 = .ok (.arraylength, 1) := by decide +kernel
theorem dJ7_fill_53178_4 : decode cJ7_fill_53178 4 = .ok (.istore_n 3, 1) := by decide +kernel
theorem dJ7_fill_53178_5 : decode cJ7_fill_53178 5 = .ok (.iload_n 2, 1) := by decide +kernel
theorem dJ7_fill_53178_6 : decode cJ7_fill_53178 6 = .ok (.iload_n 3, 1) := by decide +kernel
theorem dJ7_fill_53178_7 : decode cJ7_fill_53178 7 = .ok (.if_icmp .ge 13, 3) := by decide +kernel
theorem dJ7_fill_53178_10 : decode cJ7_fill_53178 10 = .ok (.aload_n 0, 1) := by decide +kernel
theorem dJ7_fill_53178_11 : decode cJ7_fill_53178 11 = .ok (.iload_n 2, 1) := by decide +kernel
theorem dJ7_fill_53178_12 : decode cJ7_fill_53178 12 = .ok (.iload_n 1, 1) := by decide +kernel
theorem dJ7_fill_53178_13 : decode cJ7_fill_53178 13 = .ok (.iastore, 1) := by decide +kernel
theorem dJ7_fill_53178_14 : decode cJ7_fill_53178 14 = .ok (.iinc 2 1, 3) := by decide +kernel
theorem dJ7_fill_53178_17 : decode cJ7_fill_53178 17 = .ok (.goto (-12), 3) := by decide +kernel
theorem dJ7_fill_53178_20 : decode cJ7_fill_53178 20 = .ok (.return_, 1) := by decide +kernel
theorem dJ3_checkIndex_8e157_0 : decode cJ3_checkIndex_8e157 0 = .ok (.iload_n 0, 1) := by decide +kernel
theorem dJ3_checkIndex_8e157_1 : decode cJ3_checkIndex_8e157 1 = .ok (.ifCond .lt 8, 3) := by decide +kernel
theorem dJ3_checkIndex_8e157_4 : decode cJ3_checkIndex_8e157 4 = .ok (.iload_n 0, 1) := by decide +kernel
theorem dJ3_checkIndex_8e157_5 : decode cJ3_checkIndex_8e157 5 = .ok (.iload_n 1, 1) := by decide +kernel
theorem dJ3_checkIndex_8e157_6 : decode cJ3_checkIndex_8e157 6 = .ok (.if_icmp .lt 10, 3) := by decide +kernel
theorem dJ3_checkIndex_8e157_9 : decode cJ3_checkIndex_8e157 9 = .ok (.aload_n 2, 1) := by decide +kernel
theorem dJ3_checkIndex_8e157_10 : decode cJ3_checkIndex_8e157 10 = .ok (.iload_n 0, 1) := by decide +kernel
theorem dJ3_checkIndex_8e157_11 : decode cJ3_checkIndex_8e157 11 = .ok (.iload_n 1, 1) := by decide +kernel
theorem dJ3_checkIndex_8e157_12 : decode cJ3_checkIndex_8e157 12 = .ok (.invokestatic 95, 3) := by decide +kernel
theorem dJ3_checkIndex_8e157_15 : decode cJ3_checkIndex_8e157 15 = .ok (.athrow, 1) := by decide +kernel
theorem dJ3_checkIndex_8e157_16 : decode cJ3_checkIndex_8e157 16 = .ok (.iload_n 0, 1) := by decide +kernel
theorem dJ3_checkIndex_8e157_17 : decode cJ3_checkIndex_8e157 17 = .ok (.ireturn, 1) := by decide +kernel
theorem dL_law_0 : decode cL_law 0 = .ok (.new 7, 3) := by decide +kernel
theorem dL_law_3 : decode cL_law 3 = .ok (.dup, 1) := by decide +kernel
theorem dL_law_4 : decode cL_law 4 = .ok (.invokespecial 9, 3) := by decide +kernel
theorem dL_law_7 : decode cL_law 7 = .ok (.astore_n 1, 1) := by decide +kernel
theorem dL_law_8 : decode cL_law 8 = .ok (.new 10, 3) := by decide +kernel
theorem dL_law_11 : decode cL_law 11 = .ok (.dup, 1) := by decide +kernel
theorem dL_law_12 : decode cL_law 12 = .ok (.invokespecial 12, 3) := by decide +kernel
theorem dL_law_15 : decode cL_law 15 = .ok (.astore_n 2, 1) := by decide +kernel
theorem dL_law_16 : decode cL_law 16 = .ok (.iconst 0, 1) := by decide +kernel
theorem dL_law_17 : decode cL_law 17 = .ok (.istore_n 3, 1) := by decide +kernel
theorem dL_law_18 : decode cL_law 18 = .ok (.iload_n 3, 1) := by decide +kernel
theorem dL_law_19 : decode cL_law 19 = .ok (.aload_n 0, 1) := by decide +kernel
theorem dL_law_20 : decode cL_law 20 = .ok (.arraylength, 1) := by decide +kernel
theorem dL_law_21 : decode cL_law 21 = .ok (.bipush 6, 2) := by decide +kernel
theorem dL_law_23 : decode cL_law 23 = .ok (.isub, 1) := by decide +kernel
theorem dL_law_24 : decode cL_law 24 = .ok (.if_icmp .gt 1217, 3) := by decide +kernel
theorem dL_law_27 : decode cL_law 27 = .ok (.aload_n 0, 1) := by decide +kernel
theorem dL_law_28 : decode cL_law 28 = .ok (.iload_n 3, 1) := by decide +kernel
theorem dL_law_29 : decode cL_law 29 = .ok (.iaload, 1) := by decide +kernel
theorem dL_law_30 : decode cL_law 30 = .ok (.bipush 63, 2) := by decide +kernel
theorem dL_law_32 : decode cL_law 32 = .ok (.iand, 1) := by decide +kernel
theorem dL_law_33 : decode cL_law 33 = .ok (.tableswitch 1202 0 37 #[167, 190, 203, 226, 259, 292, 325, 348, 391, 434, 467, 500, 523, 536, 569, 602, 615, 638, 681, 704, 727, 750, 783, 816, 839, 862, 875, 898, 911, 975, 1008, 1051, 1074, 1097, 1110, 1153, 1166, 1179], 167) := by decide +kernel
theorem dL_law_200 : decode cL_law 200 = .ok (.aload_n 1, 1) := by decide +kernel
theorem dL_law_201 : decode cL_law 201 = .ok (.aload_n 0, 1) := by decide +kernel
theorem dL_law_202 : decode cL_law 202 = .ok (.iload_n 3, 1) := by decide +kernel
theorem dL_law_203 : decode cL_law 203 = .ok (.iconst 1, 1) := by decide +kernel
theorem dL_law_204 : decode cL_law 204 = .ok (.iadd, 1) := by decide +kernel
theorem dL_law_205 : decode cL_law 205 = .ok (.iaload, 1) := by decide +kernel
theorem dL_law_206 : decode cL_law 206 = .ok (.invokevirtual 13, 3) := by decide +kernel
theorem dL_law_209 : decode cL_law 209 = .ok (.aload_n 2, 1) := by decide +kernel
theorem dL_law_210 : decode cL_law 210 = .ok (.aload_n 0, 1) := by decide +kernel
theorem dL_law_211 : decode cL_law 211 = .ok (.iload_n 3, 1) := by decide +kernel
theorem dL_law_212 : decode cL_law 212 = .ok (.iconst 1, 1) := by decide +kernel
theorem dL_law_213 : decode cL_law 213 = .ok (.iadd, 1) := by decide +kernel
theorem dL_law_214 : decode cL_law 214 = .ok (.iaload, 1) := by decide +kernel
theorem dL_law_215 : decode cL_law 215 = .ok (.invokevirtual 17, 3) := by decide +kernel
theorem dL_law_218 : decode cL_law 218 = .ok (.if_icmp .eq 1017, 3) := by decide +kernel
theorem dL_law_221 : decode cL_law 221 = .ok (.iconst 0, 1) := by decide +kernel
theorem dL_law_222 : decode cL_law 222 = .ok (.ireturn, 1) := by decide +kernel
theorem dL_law_223 : decode cL_law 223 = .ok (.aload_n 1, 1) := by decide +kernel
theorem dL_law_224 : decode cL_law 224 = .ok (.invokevirtual 18, 3) := by decide +kernel
theorem dL_law_227 : decode cL_law 227 = .ok (.aload_n 2, 1) := by decide +kernel
theorem dL_law_228 : decode cL_law 228 = .ok (.invokevirtual 22, 3) := by decide +kernel
theorem dL_law_231 : decode cL_law 231 = .ok (.if_icmp .eq 1004, 3) := by decide +kernel
theorem dL_law_234 : decode cL_law 234 = .ok (.iconst 0, 1) := by decide +kernel
theorem dL_law_235 : decode cL_law 235 = .ok (.ireturn, 1) := by decide +kernel
theorem dL_law_236 : decode cL_law 236 = .ok (.aload_n 1, 1) := by decide +kernel
theorem dL_law_237 : decode cL_law 237 = .ok (.aload_n 0, 1) := by decide +kernel
theorem dL_law_238 : decode cL_law 238 = .ok (.iload_n 3, 1) := by decide +kernel
theorem dL_law_239 : decode cL_law 239 = .ok (.iconst 1, 1) := by decide +kernel
theorem dL_law_240 : decode cL_law 240 = .ok (.iadd, 1) := by decide +kernel
theorem dL_law_241 : decode cL_law 241 = .ok (.iaload, 1) := by decide +kernel
theorem dL_law_242 : decode cL_law 242 = .ok (.invokevirtual 23, 3) := by decide +kernel
theorem dL_law_245 : decode cL_law 245 = .ok (.aload_n 2, 1) := by decide +kernel
theorem dL_law_246 : decode cL_law 246 = .ok (.aload_n 0, 1) := by decide +kernel
theorem dL_law_247 : decode cL_law 247 = .ok (.iload_n 3, 1) := by decide +kernel
theorem dL_law_248 : decode cL_law 248 = .ok (.iconst 1, 1) := by decide +kernel
theorem dL_law_249 : decode cL_law 249 = .ok (.iadd, 1) := by decide +kernel
theorem dL_law_250 : decode cL_law 250 = .ok (.iaload, 1) := by decide +kernel
theorem dL_law_251 : decode cL_law 251 = .ok (.invokevirtual 26, 3) := by decide +kernel
theorem dL_law_254 : decode cL_law 254 = .ok (.if_icmp .eq 981, 3) := by decide +kernel
theorem dL_law_257 : decode cL_law 257 = .ok (.iconst 0, 1) := by decide +kernel
theorem dL_law_258 : decode cL_law 258 = .ok (.ireturn, 1) := by decide +kernel
theorem dL_law_259 : decode cL_law 259 = .ok (.aload_n 1, 1) := by decide +kernel
theorem dL_law_260 : decode cL_law 260 = .ok (.aload_n 0, 1) := by decide +kernel
theorem dL_law_261 : decode cL_law 261 = .ok (.iload_n 3, 1) := by decide +kernel
theorem dL_law_262 : decode cL_law 262 = .ok (.iconst 1, 1) := by decide +kernel
theorem dL_law_263 : decode cL_law 263 = .ok (.iadd, 1) := by decide +kernel
theorem dL_law_264 : decode cL_law 264 = .ok (.iaload, 1) := by decide +kernel
theorem dL_law_265 : decode cL_law 265 = .ok (.aload_n 0, 1) := by decide +kernel
theorem dL_law_266 : decode cL_law 266 = .ok (.iload_n 3, 1) := by decide +kernel
theorem dL_law_267 : decode cL_law 267 = .ok (.iconst 2, 1) := by decide +kernel
theorem dL_law_268 : decode cL_law 268 = .ok (.iadd, 1) := by decide +kernel
theorem dL_law_269 : decode cL_law 269 = .ok (.iaload, 1) := by decide +kernel
theorem dL_law_270 : decode cL_law 270 = .ok (.invokevirtual 27, 3) := by decide +kernel
theorem dL_law_273 : decode cL_law 273 = .ok (.aload_n 2, 1) := by decide +kernel
theorem dL_law_274 : decode cL_law 274 = .ok (.aload_n 0, 1) := by decide +kernel
theorem dL_law_275 : decode cL_law 275 = .ok (.iload_n 3, 1) := by decide +kernel
theorem dL_law_276 : decode cL_law 276 = .ok (.iconst 1, 1) := by decide +kernel
theorem dL_law_277 : decode cL_law 277 = .ok (.iadd, 1) := by decide +kernel
theorem dL_law_278 : decode cL_law 278 = .ok (.iaload, 1) := by decide +kernel
theorem dL_law_279 : decode cL_law 279 = .ok (.aload_n 0, 1) := by decide +kernel
theorem dL_law_280 : decode cL_law 280 = .ok (.iload_n 3, 1) := by decide +kernel
theorem dL_law_281 : decode cL_law 281 = .ok (.iconst 2, 1) := by decide +kernel
theorem dL_law_282 : decode cL_law 282 = .ok (.iadd, 1) := by decide +kernel
theorem dL_law_283 : decode cL_law 283 = .ok (.iaload, 1) := by decide +kernel
theorem dL_law_284 : decode cL_law 284 = .ok (.invokevirtual 31, 3) := by decide +kernel
theorem dL_law_287 : decode cL_law 287 = .ok (.if_icmp .eq 948, 3) := by decide +kernel
theorem dL_law_290 : decode cL_law 290 = .ok (.iconst 0, 1) := by decide +kernel
theorem dL_law_291 : decode cL_law 291 = .ok (.ireturn, 1) := by decide +kernel
theorem dL_law_292 : decode cL_law 292 = .ok (.aload_n 1, 1) := by decide +kernel
theorem dL_law_293 : decode cL_law 293 = .ok (.aload_n 0, 1) := by decide +kernel
theorem dL_law_294 : decode cL_law 294 = .ok (.iload_n 3, 1) := by decide +kernel
theorem dL_law_295 : decode cL_law 295 = .ok (.iconst 1, 1) := by decide +kernel
theorem dL_law_296 : decode cL_law 296 = .ok (.iadd, 1) := by decide +kernel
theorem dL_law_297 : decode cL_law 297 = .ok (.iaload, 1) := by decide +kernel
theorem dL_law_298 : decode cL_law 298 = .ok (.aload_n 0, 1) := by decide +kernel
theorem dL_law_299 : decode cL_law 299 = .ok (.iload_n 3, 1) := by decide +kernel
theorem dL_law_300 : decode cL_law 300 = .ok (.iconst 2, 1) := by decide +kernel
theorem dL_law_301 : decode cL_law 301 = .ok (.iadd, 1) := by decide +kernel
theorem dL_law_302 : decode cL_law 302 = .ok (.iaload, 1) := by decide +kernel
theorem dL_law_303 : decode cL_law 303 = .ok (.invokevirtual 32, 3) := by decide +kernel
theorem dL_law_306 : decode cL_law 306 = .ok (.aload_n 2, 1) := by decide +kernel
theorem dL_law_307 : decode cL_law 307 = .ok (.aload_n 0, 1) := by decide +kernel
theorem dL_law_308 : decode cL_law 308 = .ok (.iload_n 3, 1) := by decide +kernel
theorem dL_law_309 : decode cL_law 309 = .ok (.iconst 1, 1) := by decide +kernel
theorem dL_law_310 : decode cL_law 310 = .ok (.iadd, 1) := by decide +kernel
theorem dL_law_311 : decode cL_law 311 = .ok (.iaload, 1) := by decide +kernel
theorem dL_law_312 : decode cL_law 312 = .ok (.aload_n 0, 1) := by decide +kernel
theorem dL_law_313 : decode cL_law 313 = .ok (.iload_n 3, 1) := by decide +kernel
theorem dL_law_314 : decode cL_law 314 = .ok (.iconst 2, 1) := by decide +kernel
theorem dL_law_315 : decode cL_law 315 = .ok (.iadd, 1) := by decide +kernel
theorem dL_law_316 : decode cL_law 316 = .ok (.iaload, 1) := by decide +kernel
theorem dL_law_317 : decode cL_law 317 = .ok (.invokevirtual 35, 3) := by decide +kernel
theorem dL_law_320 : decode cL_law 320 = .ok (.if_icmp .eq 915, 3) := by decide +kernel
theorem dL_law_323 : decode cL_law 323 = .ok (.iconst 0, 1) := by decide +kernel
theorem dL_law_324 : decode cL_law 324 = .ok (.ireturn, 1) := by decide +kernel
theorem dL_law_325 : decode cL_law 325 = .ok (.aload_n 1, 1) := by decide +kernel
theorem dL_law_326 : decode cL_law 326 = .ok (.aload_n 0, 1) := by decide +kernel
theorem dL_law_327 : decode cL_law 327 = .ok (.iload_n 3, 1) := by decide +kernel
theorem dL_law_328 : decode cL_law 328 = .ok (.iconst 1, 1) := by decide +kernel
theorem dL_law_329 : decode cL_law 329 = .ok (.iadd, 1) := by decide +kernel
theorem dL_law_330 : decode cL_law 330 = .ok (.iaload, 1) := by decide +kernel
theorem dL_law_331 : decode cL_law 331 = .ok (.aload_n 0, 1) := by decide +kernel
theorem dL_law_332 : decode cL_law 332 = .ok (.iload_n 3, 1) := by decide +kernel
theorem dL_law_333 : decode cL_law 333 = .ok (.iconst 2, 1) := by decide +kernel
theorem dL_law_334 : decode cL_law 334 = .ok (.iadd, 1) := by decide +kernel
theorem dL_law_335 : decode cL_law 335 = .ok (.iaload, 1) := by decide +kernel
theorem dL_law_336 : decode cL_law 336 = .ok (.invokevirtual 36, 3) := by decide +kernel
theorem dL_law_339 : decode cL_law 339 = .ok (.aload_n 2, 1) := by decide +kernel
theorem dL_law_340 : decode cL_law 340 = .ok (.aload_n 0, 1) := by decide +kernel
theorem dL_law_341 : decode cL_law 341 = .ok (.iload_n 3, 1) := by decide +kernel
theorem dL_law_342 : decode cL_law 342 = .ok (.iconst 1, 1) := by decide +kernel
theorem dL_law_343 : decode cL_law 343 = .ok (.iadd, 1) := by decide +kernel
theorem dL_law_344 : decode cL_law 344 = .ok (.iaload, 1) := by decide +kernel
theorem dL_law_345 : decode cL_law 345 = .ok (.aload_n 0, 1) := by decide +kernel
theorem dL_law_346 : decode cL_law 346 = .ok (.iload_n 3, 1) := by decide +kernel
theorem dL_law_347 : decode cL_law 347 = .ok (.iconst 2, 1) := by decide +kernel
theorem dL_law_348 : decode cL_law 348 = .ok (.iadd, 1) := by decide +kernel
theorem dL_law_349 : decode cL_law 349 = .ok (.iaload, 1) := by decide +kernel
theorem dL_law_350 : decode cL_law 350 = .ok (.invokevirtual 39, 3) := by decide +kernel
theorem dL_law_353 : decode cL_law 353 = .ok (.if_icmp .eq 882, 3) := by decide +kernel
theorem dL_law_356 : decode cL_law 356 = .ok (.iconst 0, 1) := by decide +kernel
theorem dL_law_357 : decode cL_law 357 = .ok (.ireturn, 1) := by decide +kernel
theorem dL_law_358 : decode cL_law 358 = .ok (.aload_n 1, 1) := by decide +kernel
theorem dL_law_359 : decode cL_law 359 = .ok (.aload_n 0, 1) := by decide +kernel
theorem dL_law_360 : decode cL_law 360 = .ok (.iload_n 3, 1) := by decide +kernel
theorem dL_law_361 : decode cL_law 361 = .ok (.iconst 1, 1) := by decide +kernel
theorem dL_law_362 : decode cL_law 362 = .ok (.iadd, 1) := by decide +kernel
theorem dL_law_363 : decode cL_law 363 = .ok (.iaload, 1) := by decide +kernel
theorem dL_law_364 : decode cL_law 364 = .ok (.invokevirtual 40, 3) := by decide +kernel
theorem dL_law_367 : decode cL_law 367 = .ok (.aload_n 2, 1) := by decide +kernel
theorem dL_law_368 : decode cL_law 368 = .ok (.aload_n 0, 1) := by decide +kernel
theorem dL_law_369 : decode cL_law 369 = .ok (.iload_n 3, 1) := by decide +kernel
theorem dL_law_370 : decode cL_law 370 = .ok (.iconst 1, 1) := by decide +kernel
theorem dL_law_371 : decode cL_law 371 = .ok (.iadd, 1) := by decide +kernel
theorem dL_law_372 : decode cL_law 372 = .ok (.iaload, 1) := by decide +kernel
theorem dL_law_373 : decode cL_law 373 = .ok (.invokevirtual 43, 3) := by decide +kernel
theorem dL_law_376 : decode cL_law 376 = .ok (.if_icmp .eq 859, 3) := by decide +kernel
theorem dL_law_379 : decode cL_law 379 = .ok (.iconst 0, 1) := by decide +kernel
theorem dL_law_380 : decode cL_law 380 = .ok (.ireturn, 1) := by decide +kernel
theorem dL_law_381 : decode cL_law 381 = .ok (.aload_n 1, 1) := by decide +kernel
theorem dL_law_382 : decode cL_law 382 = .ok (.aload_n 0, 1) := by decide +kernel
theorem dL_law_383 : decode cL_law 383 = .ok (.iload_n 3, 1) := by decide +kernel
theorem dL_law_384 : decode cL_law 384 = .ok (.iconst 1, 1) := by decide +kernel
theorem dL_law_385 : decode cL_law 385 = .ok (.iadd, 1) := by decide +kernel
theorem dL_law_386 : decode cL_law 386 = .ok (.iaload, 1) := by decide +kernel
theorem dL_law_387 : decode cL_law 387 = .ok (.aload_n 0, 1) := by decide +kernel
theorem dL_law_388 : decode cL_law 388 = .ok (.iload_n 3, 1) := by decide +kernel
theorem dL_law_389 : decode cL_law 389 = .ok (.iconst 2, 1) := by decide +kernel
theorem dL_law_390 : decode cL_law 390 = .ok (.iadd, 1) := by decide +kernel
theorem dL_law_391 : decode cL_law 391 = .ok (.iaload, 1) := by decide +kernel
theorem dL_law_392 : decode cL_law 392 = .ok (.aload_n 0, 1) := by decide +kernel
theorem dL_law_393 : decode cL_law 393 = .ok (.iload_n 3, 1) := by decide +kernel
theorem dL_law_394 : decode cL_law 394 = .ok (.iconst 3, 1) := by decide +kernel
theorem dL_law_395 : decode cL_law 395 = .ok (.iadd, 1) := by decide +kernel
theorem dL_law_396 : decode cL_law 396 = .ok (.iaload, 1) := by decide +kernel
theorem dL_law_397 : decode cL_law 397 = .ok (.invokevirtual 44, 3) := by decide +kernel
theorem dL_law_400 : decode cL_law 400 = .ok (.aload_n 2, 1) := by decide +kernel
theorem dL_law_401 : decode cL_law 401 = .ok (.aload_n 0, 1) := by decide +kernel
theorem dL_law_402 : decode cL_law 402 = .ok (.iload_n 3, 1) := by decide +kernel
theorem dL_law_403 : decode cL_law 403 = .ok (.iconst 1, 1) := by decide +kernel
theorem dL_law_404 : decode cL_law 404 = .ok (.iadd, 1) := by decide +kernel
theorem dL_law_405 : decode cL_law 405 = .ok (.iaload, 1) := by decide +kernel
theorem dL_law_406 : decode cL_law 406 = .ok (.aload_n 0, 1) := by decide +kernel
theorem dL_law_407 : decode cL_law 407 = .ok (.iload_n 3, 1) := by decide +kernel
theorem dL_law_408 : decode cL_law 408 = .ok (.iconst 2, 1) := by decide +kernel
theorem dL_law_409 : decode cL_law 409 = .ok (.iadd, 1) := by decide +kernel
theorem dL_law_410 : decode cL_law 410 = .ok (.iaload, 1) := by decide +kernel
theorem dL_law_411 : decode cL_law 411 = .ok (.aload_n 0, 1) := by decide +kernel
theorem dL_law_412 : decode cL_law 412 = .ok (.iload_n 3, 1) := by decide +kernel
theorem dL_law_413 : decode cL_law 413 = .ok (.iconst 3, 1) := by decide +kernel
theorem dL_law_414 : decode cL_law 414 = .ok (.iadd, 1) := by decide +kernel
theorem dL_law_415 : decode cL_law 415 = .ok (.iaload, 1) := by decide +kernel
theorem dL_law_416 : decode cL_law 416 = .ok (.invokevirtual 48, 3) := by decide +kernel
theorem dL_law_419 : decode cL_law 419 = .ok (.if_icmp .eq 816, 3) := by decide +kernel
theorem dL_law_422 : decode cL_law 422 = .ok (.iconst 0, 1) := by decide +kernel
theorem dL_law_423 : decode cL_law 423 = .ok (.ireturn, 1) := by decide +kernel
theorem dL_law_424 : decode cL_law 424 = .ok (.aload_n 1, 1) := by decide +kernel
theorem dL_law_425 : decode cL_law 425 = .ok (.aload_n 0, 1) := by decide +kernel
theorem dL_law_426 : decode cL_law 426 = .ok (.iload_n 3, 1) := by decide +kernel
theorem dL_law_427 : decode cL_law 427 = .ok (.iconst 1, 1) := by decide +kernel
theorem dL_law_428 : decode cL_law 428 = .ok (.iadd, 1) := by decide +kernel
theorem dL_law_429 : decode cL_law 429 = .ok (.iaload, 1) := by decide +kernel
theorem dL_law_430 : decode cL_law 430 = .ok (.aload_n 0, 1) := by decide +kernel
theorem dL_law_431 : decode cL_law 431 = .ok (.iload_n 3, 1) := by decide +kernel
theorem dL_law_432 : decode cL_law 432 = .ok (.iconst 2, 1) := by decide +kernel
theorem dL_law_433 : decode cL_law 433 = .ok (.iadd, 1) := by decide +kernel
theorem dL_law_434 : decode cL_law 434 = .ok (.iaload, 1) := by decide +kernel
theorem dL_law_435 : decode cL_law 435 = .ok (.aload_n 0, 1) := by decide +kernel
theorem dL_law_436 : decode cL_law 436 = .ok (.iload_n 3, 1) := by decide +kernel
theorem dL_law_437 : decode cL_law 437 = .ok (.iconst 3, 1) := by decide +kernel
theorem dL_law_438 : decode cL_law 438 = .ok (.iadd, 1) := by decide +kernel
theorem dL_law_439 : decode cL_law 439 = .ok (.iaload, 1) := by decide +kernel
theorem dL_law_440 : decode cL_law 440 = .ok (.invokevirtual 49, 3) := by decide +kernel
theorem dL_law_443 : decode cL_law 443 = .ok (.aload_n 2, 1) := by decide +kernel
theorem dL_law_444 : decode cL_law 444 = .ok (.aload_n 0, 1) := by decide +kernel
theorem dL_law_445 : decode cL_law 445 = .ok (.iload_n 3, 1) := by decide +kernel
theorem dL_law_446 : decode cL_law 446 = .ok (.iconst 1, 1) := by decide +kernel
theorem dL_law_447 : decode cL_law 447 = .ok (.iadd, 1) := by decide +kernel
theorem dL_law_448 : decode cL_law 448 = .ok (.iaload, 1) := by decide +kernel
theorem dL_law_449 : decode cL_law 449 = .ok (.aload_n 0, 1) := by decide +kernel
theorem dL_law_450 : decode cL_law 450 = .ok (.iload_n 3, 1) := by decide +kernel
theorem dL_law_451 : decode cL_law 451 = .ok (.iconst 2, 1) := by decide +kernel
theorem dL_law_452 : decode cL_law 452 = .ok (.iadd, 1) := by decide +kernel
theorem dL_law_453 : decode cL_law 453 = .ok (.iaload, 1) := by decide +kernel
theorem dL_law_454 : decode cL_law 454 = .ok (.aload_n 0, 1) := by decide +kernel
theorem dL_law_455 : decode cL_law 455 = .ok (.iload_n 3, 1) := by decide +kernel
theorem dL_law_456 : decode cL_law 456 = .ok (.iconst 3, 1) := by decide +kernel
theorem dL_law_457 : decode cL_law 457 = .ok (.iadd, 1) := by decide +kernel
theorem dL_law_458 : decode cL_law 458 = .ok (.iaload, 1) := by decide +kernel
theorem dL_law_459 : decode cL_law 459 = .ok (.invokevirtual 52, 3) := by decide +kernel
theorem dL_law_462 : decode cL_law 462 = .ok (.if_icmp .eq 773, 3) := by decide +kernel
theorem dL_law_465 : decode cL_law 465 = .ok (.iconst 0, 1) := by decide +kernel
theorem dL_law_466 : decode cL_law 466 = .ok (.ireturn, 1) := by decide +kernel
theorem dL_law_467 : decode cL_law 467 = .ok (.aload_n 1, 1) := by decide +kernel
theorem dL_law_468 : decode cL_law 468 = .ok (.aload_n 0, 1) := by decide +kernel
theorem dL_law_469 : decode cL_law 469 = .ok (.iload_n 3, 1) := by decide +kernel
theorem dL_law_470 : decode cL_law 470 = .ok (.iconst 1, 1) := by decide +kernel
theorem dL_law_471 : decode cL_law 471 = .ok (.iadd, 1) := by decide +kernel
theorem dL_law_472 : decode cL_law 472 = .ok (.iaload, 1) := by decide +kernel
theorem dL_law_473 : decode cL_law 473 = .ok (.aload_n 0, 1) := by decide +kernel
theorem dL_law_474 : decode cL_law 474 = .ok (.iload_n 3, 1) := by decide +kernel
theorem dL_law_475 : decode cL_law 475 = .ok (.iconst 2, 1) := by decide +kernel
theorem dL_law_476 : decode cL_law 476 = .ok (.iadd, 1) := by decide +kernel
theorem dL_law_477 : decode cL_law 477 = .ok (.iaload, 1) := by decide +kernel
theorem dL_law_478 : decode cL_law 478 = .ok (.invokevirtual 53, 3) := by decide +kernel
theorem dL_law_481 : decode cL_law 481 = .ok (.aload_n 2, 1) := by decide +kernel
theorem dL_law_482 : decode cL_law 482 = .ok (.aload_n 0, 1) := by decide +kernel
theorem dL_law_483 : decode cL_law 483 = .ok (.iload_n 3, 1) := by decide +kernel
theorem dL_law_484 : decode cL_law 484 = .ok (.iconst 1, 1) := by decide +kernel
theorem dL_law_485 : decode cL_law 485 = .ok (.iadd, 1) := by decide +kernel
theorem dL_law_486 : decode cL_law 486 = .ok (.iaload, 1) := by decide +kernel
theorem dL_law_487 : decode cL_law 487 = .ok (.aload_n 0, 1) := by decide +kernel
theorem dL_law_488 : decode cL_law 488 = .ok (.iload_n 3, 1) := by decide +kernel
theorem dL_law_489 : decode cL_law 489 = .ok (.iconst 2, 1) := by decide +kernel
theorem dL_law_490 : decode cL_law 490 = .ok (.iadd, 1) := by decide +kernel
theorem dL_law_491 : decode cL_law 491 = .ok (.iaload, 1) := by decide +kernel
theorem dL_law_492 : decode cL_law 492 = .ok (.invokevirtual 56, 3) := by decide +kernel
theorem dL_law_495 : decode cL_law 495 = .ok (.if_icmp .eq 740, 3) := by decide +kernel
theorem dL_law_498 : decode cL_law 498 = .ok (.iconst 0, 1) := by decide +kernel
theorem dL_law_499 : decode cL_law 499 = .ok (.ireturn, 1) := by decide +kernel
theorem dL_law_500 : decode cL_law 500 = .ok (.aload_n 1, 1) := by decide +kernel
theorem dL_law_501 : decode cL_law 501 = .ok (.aload_n 0, 1) := by decide +kernel
theorem dL_law_502 : decode cL_law 502 = .ok (.iload_n 3, 1) := by decide +kernel
theorem dL_law_503 : decode cL_law 503 = .ok (.iconst 1, 1) := by decide +kernel
theorem dL_law_504 : decode cL_law 504 = .ok (.iadd, 1) := by decide +kernel
theorem dL_law_505 : decode cL_law 505 = .ok (.iaload, 1) := by decide +kernel
theorem dL_law_506 : decode cL_law 506 = .ok (.aload_n 0, 1) := by decide +kernel
theorem dL_law_507 : decode cL_law 507 = .ok (.iload_n 3, 1) := by decide +kernel
theorem dL_law_508 : decode cL_law 508 = .ok (.iconst 2, 1) := by decide +kernel
theorem dL_law_509 : decode cL_law 509 = .ok (.iadd, 1) := by decide +kernel
theorem dL_law_510 : decode cL_law 510 = .ok (.iaload, 1) := by decide +kernel
theorem dL_law_511 : decode cL_law 511 = .ok (.invokevirtual 57, 3) := by decide +kernel
theorem dL_law_514 : decode cL_law 514 = .ok (.aload_n 2, 1) := by decide +kernel
theorem dL_law_515 : decode cL_law 515 = .ok (.aload_n 0, 1) := by decide +kernel
theorem dL_law_516 : decode cL_law 516 = .ok (.iload_n 3, 1) := by decide +kernel
theorem dL_law_517 : decode cL_law 517 = .ok (.iconst 1, 1) := by decide +kernel
theorem dL_law_518 : decode cL_law 518 = .ok (.iadd, 1) := by decide +kernel
theorem dL_law_519 : decode cL_law 519 = .ok (.iaload, 1) := by decide +kernel
theorem dL_law_520 : decode cL_law 520 = .ok (.aload_n 0, 1) := by decide +kernel
theorem dL_law_521 : decode cL_law 521 = .ok (.iload_n 3, 1) := by decide +kernel
theorem dL_law_522 : decode cL_law 522 = .ok (.iconst 2, 1) := by decide +kernel
theorem dL_law_523 : decode cL_law 523 = .ok (.iadd, 1) := by decide +kernel
theorem dL_law_524 : decode cL_law 524 = .ok (.iaload, 1) := by decide +kernel
theorem dL_law_525 : decode cL_law 525 = .ok (.invokevirtual 60, 3) := by decide +kernel
theorem dL_law_528 : decode cL_law 528 = .ok (.if_icmp .eq 707, 3) := by decide +kernel
theorem dL_law_531 : decode cL_law 531 = .ok (.iconst 0, 1) := by decide +kernel
theorem dL_law_532 : decode cL_law 532 = .ok (.ireturn, 1) := by decide +kernel
theorem dL_law_533 : decode cL_law 533 = .ok (.aload_n 1, 1) := by decide +kernel
theorem dL_law_534 : decode cL_law 534 = .ok (.aload_n 0, 1) := by decide +kernel
theorem dL_law_535 : decode cL_law 535 = .ok (.iload_n 3, 1) := by decide +kernel
theorem dL_law_536 : decode cL_law 536 = .ok (.iconst 1, 1) := by decide +kernel
theorem dL_law_537 : decode cL_law 537 = .ok (.iadd, 1) := by decide +kernel
theorem dL_law_538 : decode cL_law 538 = .ok (.iaload, 1) := by decide +kernel
theorem dL_law_539 : decode cL_law 539 = .ok (.invokevirtual 61, 3) := by decide +kernel
theorem dL_law_542 : decode cL_law 542 = .ok (.aload_n 2, 1) := by decide +kernel
theorem dL_law_543 : decode cL_law 543 = .ok (.aload_n 0, 1) := by decide +kernel
theorem dL_law_544 : decode cL_law 544 = .ok (.iload_n 3, 1) := by decide +kernel
theorem dL_law_545 : decode cL_law 545 = .ok (.iconst 1, 1) := by decide +kernel
theorem dL_law_546 : decode cL_law 546 = .ok (.iadd, 1) := by decide +kernel
theorem dL_law_547 : decode cL_law 547 = .ok (.iaload, 1) := by decide +kernel
theorem dL_law_548 : decode cL_law 548 = .ok (.invokevirtual 64, 3) := by decide +kernel
theorem dL_law_551 : decode cL_law 551 = .ok (.if_icmp .eq 684, 3) := by decide +kernel
theorem dL_law_554 : decode cL_law 554 = .ok (.iconst 0, 1) := by decide +kernel
theorem dL_law_555 : decode cL_law 555 = .ok (.ireturn, 1) := by decide +kernel
theorem dL_law_556 : decode cL_law 556 = .ok (.aload_n 1, 1) := by decide +kernel
theorem dL_law_557 : decode cL_law 557 = .ok (.invokevirtual 65, 3) := by decide +kernel
theorem dL_law_560 : decode cL_law 560 = .ok (.aload_n 2, 1) := by decide +kernel
theorem dL_law_561 : decode cL_law 561 = .ok (.invokevirtual 68, 3) := by decide +kernel
theorem dL_law_564 : decode cL_law 564 = .ok (.if_icmp .eq 671, 3) := by decide +kernel
theorem dL_law_567 : decode cL_law 567 = .ok (.iconst 0, 1) := by decide +kernel
theorem dL_law_568 : decode cL_law 568 = .ok (.ireturn, 1) := by decide +kernel
theorem dL_law_569 : decode cL_law 569 = .ok (.aload_n 1, 1) := by decide +kernel
theorem dL_law_570 : decode cL_law 570 = .ok (.aload_n 0, 1) := by decide +kernel
theorem dL_law_571 : decode cL_law 571 = .ok (.iload_n 3, 1) := by decide +kernel
theorem dL_law_572 : decode cL_law 572 = .ok (.iconst 1, 1) := by decide +kernel
theorem dL_law_573 : decode cL_law 573 = .ok (.iadd, 1) := by decide +kernel
theorem dL_law_574 : decode cL_law 574 = .ok (.iaload, 1) := by decide +kernel
theorem dL_law_575 : decode cL_law 575 = .ok (.aload_n 0, 1) := by decide +kernel
theorem dL_law_576 : decode cL_law 576 = .ok (.iload_n 3, 1) := by decide +kernel
theorem dL_law_577 : decode cL_law 577 = .ok (.iconst 2, 1) := by decide +kernel
theorem dL_law_578 : decode cL_law 578 = .ok (.iadd, 1) := by decide +kernel
theorem dL_law_579 : decode cL_law 579 = .ok (.iaload, 1) := by decide +kernel
theorem dL_law_580 : decode cL_law 580 = .ok (.invokevirtual 69, 3) := by decide +kernel
theorem dL_law_583 : decode cL_law 583 = .ok (.aload_n 2, 1) := by decide +kernel
theorem dL_law_584 : decode cL_law 584 = .ok (.aload_n 0, 1) := by decide +kernel
theorem dL_law_585 : decode cL_law 585 = .ok (.iload_n 3, 1) := by decide +kernel
theorem dL_law_586 : decode cL_law 586 = .ok (.iconst 1, 1) := by decide +kernel
theorem dL_law_587 : decode cL_law 587 = .ok (.iadd, 1) := by decide +kernel
theorem dL_law_588 : decode cL_law 588 = .ok (.iaload, 1) := by decide +kernel
theorem dL_law_589 : decode cL_law 589 = .ok (.aload_n 0, 1) := by decide +kernel
theorem dL_law_590 : decode cL_law 590 = .ok (.iload_n 3, 1) := by decide +kernel
theorem dL_law_591 : decode cL_law 591 = .ok (.iconst 2, 1) := by decide +kernel
theorem dL_law_592 : decode cL_law 592 = .ok (.iadd, 1) := by decide +kernel
theorem dL_law_593 : decode cL_law 593 = .ok (.iaload, 1) := by decide +kernel
theorem dL_law_594 : decode cL_law 594 = .ok (.invokevirtual 72, 3) := by decide +kernel
theorem dL_law_597 : decode cL_law 597 = .ok (.if_icmp .eq 638, 3) := by decide +kernel
theorem dL_law_600 : decode cL_law 600 = .ok (.iconst 0, 1) := by decide +kernel
theorem dL_law_601 : decode cL_law 601 = .ok (.ireturn, 1) := by decide +kernel
theorem dL_law_602 : decode cL_law 602 = .ok (.aload_n 1, 1) := by decide +kernel
theorem dL_law_603 : decode cL_law 603 = .ok (.aload_n 0, 1) := by decide +kernel
theorem dL_law_604 : decode cL_law 604 = .ok (.iload_n 3, 1) := by decide +kernel
theorem dL_law_605 : decode cL_law 605 = .ok (.iconst 1, 1) := by decide +kernel
theorem dL_law_606 : decode cL_law 606 = .ok (.iadd, 1) := by decide +kernel
theorem dL_law_607 : decode cL_law 607 = .ok (.iaload, 1) := by decide +kernel
theorem dL_law_608 : decode cL_law 608 = .ok (.aload_n 0, 1) := by decide +kernel
theorem dL_law_609 : decode cL_law 609 = .ok (.iload_n 3, 1) := by decide +kernel
theorem dL_law_610 : decode cL_law 610 = .ok (.iconst 2, 1) := by decide +kernel
theorem dL_law_611 : decode cL_law 611 = .ok (.iadd, 1) := by decide +kernel
theorem dL_law_612 : decode cL_law 612 = .ok (.iaload, 1) := by decide +kernel
theorem dL_law_613 : decode cL_law 613 = .ok (.invokevirtual 73, 3) := by decide +kernel
theorem dL_law_616 : decode cL_law 616 = .ok (.aload_n 2, 1) := by decide +kernel
theorem dL_law_617 : decode cL_law 617 = .ok (.aload_n 0, 1) := by decide +kernel
theorem dL_law_618 : decode cL_law 618 = .ok (.iload_n 3, 1) := by decide +kernel
theorem dL_law_619 : decode cL_law 619 = .ok (.iconst 1, 1) := by decide +kernel
theorem dL_law_620 : decode cL_law 620 = .ok (.iadd, 1) := by decide +kernel
theorem dL_law_621 : decode cL_law 621 = .ok (.iaload, 1) := by decide +kernel
theorem dL_law_622 : decode cL_law 622 = .ok (.aload_n 0, 1) := by decide +kernel
theorem dL_law_623 : decode cL_law 623 = .ok (.iload_n 3, 1) := by decide +kernel
theorem dL_law_624 : decode cL_law 624 = .ok (.iconst 2, 1) := by decide +kernel
theorem dL_law_625 : decode cL_law 625 = .ok (.iadd, 1) := by decide +kernel
theorem dL_law_626 : decode cL_law 626 = .ok (.iaload, 1) := by decide +kernel
theorem dL_law_627 : decode cL_law 627 = .ok (.invokevirtual 76, 3) := by decide +kernel
theorem dL_law_630 : decode cL_law 630 = .ok (.if_icmp .eq 605, 3) := by decide +kernel
theorem dL_law_633 : decode cL_law 633 = .ok (.iconst 0, 1) := by decide +kernel
theorem dL_law_634 : decode cL_law 634 = .ok (.ireturn, 1) := by decide +kernel
theorem dL_law_635 : decode cL_law 635 = .ok (.aload_n 1, 1) := by decide +kernel
theorem dL_law_636 : decode cL_law 636 = .ok (.invokevirtual 77, 3) := by decide +kernel
theorem dL_law_639 : decode cL_law 639 = .ok (.aload_n 2, 1) := by decide +kernel
theorem dL_law_640 : decode cL_law 640 = .ok (.invokevirtual 80, 3) := by decide +kernel
theorem dL_law_643 : decode cL_law 643 = .ok (.if_icmp .eq 592, 3) := by decide +kernel
theorem dL_law_646 : decode cL_law 646 = .ok (.iconst 0, 1) := by decide +kernel
theorem dL_law_647 : decode cL_law 647 = .ok (.ireturn, 1) := by decide +kernel
theorem dL_law_648 : decode cL_law 648 = .ok (.aload_n 1, 1) := by decide +kernel
theorem dL_law_649 : decode cL_law 649 = .ok (.aload_n 0, 1) := by decide +kernel
theorem dL_law_650 : decode cL_law 650 = .ok (.iload_n 3, 1) := by decide +kernel
theorem dL_law_651 : decode cL_law 651 = .ok (.iconst 1, 1) := by decide +kernel
theorem dL_law_652 : decode cL_law 652 = .ok (.iadd, 1) := by decide +kernel
theorem dL_law_653 : decode cL_law 653 = .ok (.iaload, 1) := by decide +kernel
theorem dL_law_654 : decode cL_law 654 = .ok (.invokevirtual 81, 3) := by decide +kernel
theorem dL_law_657 : decode cL_law 657 = .ok (.aload_n 2, 1) := by decide +kernel
theorem dL_law_658 : decode cL_law 658 = .ok (.aload_n 0, 1) := by decide +kernel
theorem dL_law_659 : decode cL_law 659 = .ok (.iload_n 3, 1) := by decide +kernel
theorem dL_law_660 : decode cL_law 660 = .ok (.iconst 1, 1) := by decide +kernel
theorem dL_law_661 : decode cL_law 661 = .ok (.iadd, 1) := by decide +kernel
theorem dL_law_662 : decode cL_law 662 = .ok (.iaload, 1) := by decide +kernel
theorem dL_law_663 : decode cL_law 663 = .ok (.invokevirtual 84, 3) := by decide +kernel
theorem dL_law_666 : decode cL_law 666 = .ok (.if_icmp .eq 569, 3) := by decide +kernel
theorem dL_law_669 : decode cL_law 669 = .ok (.iconst 0, 1) := by decide +kernel
theorem dL_law_670 : decode cL_law 670 = .ok (.ireturn, 1) := by decide +kernel
theorem dL_law_671 : decode cL_law 671 = .ok (.aload_n 1, 1) := by decide +kernel
theorem dL_law_672 : decode cL_law 672 = .ok (.aload_n 0, 1) := by decide +kernel
theorem dL_law_673 : decode cL_law 673 = .ok (.iload_n 3, 1) := by decide +kernel
theorem dL_law_674 : decode cL_law 674 = .ok (.iconst 1, 1) := by decide +kernel
theorem dL_law_675 : decode cL_law 675 = .ok (.iadd, 1) := by decide +kernel
theorem dL_law_676 : decode cL_law 676 = .ok (.iaload, 1) := by decide +kernel
theorem dL_law_677 : decode cL_law 677 = .ok (.aload_n 0, 1) := by decide +kernel
theorem dL_law_678 : decode cL_law 678 = .ok (.iload_n 3, 1) := by decide +kernel
theorem dL_law_679 : decode cL_law 679 = .ok (.iconst 2, 1) := by decide +kernel
theorem dL_law_680 : decode cL_law 680 = .ok (.iadd, 1) := by decide +kernel
theorem dL_law_681 : decode cL_law 681 = .ok (.iaload, 1) := by decide +kernel
theorem dL_law_682 : decode cL_law 682 = .ok (.aload_n 0, 1) := by decide +kernel
theorem dL_law_683 : decode cL_law 683 = .ok (.iload_n 3, 1) := by decide +kernel
theorem dL_law_684 : decode cL_law 684 = .ok (.iconst 3, 1) := by decide +kernel
theorem dL_law_685 : decode cL_law 685 = .ok (.iadd, 1) := by decide +kernel
theorem dL_law_686 : decode cL_law 686 = .ok (.iaload, 1) := by decide +kernel
theorem dL_law_687 : decode cL_law 687 = .ok (.invokevirtual 85, 3) := by decide +kernel
theorem dL_law_690 : decode cL_law 690 = .ok (.aload_n 2, 1) := by decide +kernel
theorem dL_law_691 : decode cL_law 691 = .ok (.aload_n 0, 1) := by decide +kernel
theorem dL_law_692 : decode cL_law 692 = .ok (.iload_n 3, 1) := by decide +kernel
theorem dL_law_693 : decode cL_law 693 = .ok (.iconst 1, 1) := by decide +kernel
theorem dL_law_694 : decode cL_law 694 = .ok (.iadd, 1) := by decide +kernel
theorem dL_law_695 : decode cL_law 695 = .ok (.iaload, 1) := by decide +kernel
theorem dL_law_696 : decode cL_law 696 = .ok (.aload_n 0, 1) := by decide +kernel
theorem dL_law_697 : decode cL_law 697 = .ok (.iload_n 3, 1) := by decide +kernel
theorem dL_law_698 : decode cL_law 698 = .ok (.iconst 2, 1) := by decide +kernel
theorem dL_law_699 : decode cL_law 699 = .ok (.iadd, 1) := by decide +kernel
theorem dL_law_700 : decode cL_law 700 = .ok (.iaload, 1) := by decide +kernel
theorem dL_law_701 : decode cL_law 701 = .ok (.aload_n 0, 1) := by decide +kernel
theorem dL_law_702 : decode cL_law 702 = .ok (.iload_n 3, 1) := by decide +kernel
theorem dL_law_703 : decode cL_law 703 = .ok (.iconst 3, 1) := by decide +kernel
theorem dL_law_704 : decode cL_law 704 = .ok (.iadd, 1) := by decide +kernel
theorem dL_law_705 : decode cL_law 705 = .ok (.iaload, 1) := by decide +kernel
theorem dL_law_706 : decode cL_law 706 = .ok (.invokevirtual 88, 3) := by decide +kernel
theorem dL_law_709 : decode cL_law 709 = .ok (.if_icmp .eq 526, 3) := by decide +kernel
theorem dL_law_712 : decode cL_law 712 = .ok (.iconst 0, 1) := by decide +kernel
theorem dL_law_713 : decode cL_law 713 = .ok (.ireturn, 1) := by decide +kernel
theorem dL_law_714 : decode cL_law 714 = .ok (.aload_n 1, 1) := by decide +kernel
theorem dL_law_715 : decode cL_law 715 = .ok (.aload_n 0, 1) := by decide +kernel
theorem dL_law_716 : decode cL_law 716 = .ok (.iload_n 3, 1) := by decide +kernel
theorem dL_law_717 : decode cL_law 717 = .ok (.iconst 1, 1) := by decide +kernel
theorem dL_law_718 : decode cL_law 718 = .ok (.iadd, 1) := by decide +kernel
theorem dL_law_719 : decode cL_law 719 = .ok (.iaload, 1) := by decide +kernel
theorem dL_law_720 : decode cL_law 720 = .ok (.invokevirtual 89, 3) := by decide +kernel
theorem dL_law_723 : decode cL_law 723 = .ok (.aload_n 2, 1) := by decide +kernel
theorem dL_law_724 : decode cL_law 724 = .ok (.aload_n 0, 1) := by decide +kernel
theorem dL_law_725 : decode cL_law 725 = .ok (.iload_n 3, 1) := by decide +kernel
theorem dL_law_726 : decode cL_law 726 = .ok (.iconst 1, 1) := by decide +kernel
theorem dL_law_727 : decode cL_law 727 = .ok (.iadd, 1) := by decide +kernel
theorem dL_law_728 : decode cL_law 728 = .ok (.iaload, 1) := by decide +kernel
theorem dL_law_729 : decode cL_law 729 = .ok (.invokevirtual 92, 3) := by decide +kernel
theorem dL_law_732 : decode cL_law 732 = .ok (.if_icmp .eq 503, 3) := by decide +kernel
theorem dL_law_735 : decode cL_law 735 = .ok (.iconst 0, 1) := by decide +kernel
theorem dL_law_736 : decode cL_law 736 = .ok (.ireturn, 1) := by decide +kernel
theorem dL_law_737 : decode cL_law 737 = .ok (.aload_n 1, 1) := by decide +kernel
theorem dL_law_738 : decode cL_law 738 = .ok (.aload_n 0, 1) := by decide +kernel
theorem dL_law_739 : decode cL_law 739 = .ok (.iload_n 3, 1) := by decide +kernel
theorem dL_law_740 : decode cL_law 740 = .ok (.iconst 1, 1) := by decide +kernel
theorem dL_law_741 : decode cL_law 741 = .ok (.iadd, 1) := by decide +kernel
theorem dL_law_742 : decode cL_law 742 = .ok (.iaload, 1) := by decide +kernel
theorem dL_law_743 : decode cL_law 743 = .ok (.invokevirtual 93, 3) := by decide +kernel
theorem dL_law_746 : decode cL_law 746 = .ok (.aload_n 2, 1) := by decide +kernel
theorem dL_law_747 : decode cL_law 747 = .ok (.aload_n 0, 1) := by decide +kernel
theorem dL_law_748 : decode cL_law 748 = .ok (.iload_n 3, 1) := by decide +kernel
theorem dL_law_749 : decode cL_law 749 = .ok (.iconst 1, 1) := by decide +kernel
theorem dL_law_750 : decode cL_law 750 = .ok (.iadd, 1) := by decide +kernel
theorem dL_law_751 : decode cL_law 751 = .ok (.iaload, 1) := by decide +kernel
theorem dL_law_752 : decode cL_law 752 = .ok (.invokevirtual 96, 3) := by decide +kernel
theorem dL_law_755 : decode cL_law 755 = .ok (.if_icmp .eq 480, 3) := by decide +kernel
theorem dL_law_758 : decode cL_law 758 = .ok (.iconst 0, 1) := by decide +kernel
theorem dL_law_759 : decode cL_law 759 = .ok (.ireturn, 1) := by decide +kernel
theorem dL_law_760 : decode cL_law 760 = .ok (.aload_n 1, 1) := by decide +kernel
theorem dL_law_761 : decode cL_law 761 = .ok (.aload_n 0, 1) := by decide +kernel
theorem dL_law_762 : decode cL_law 762 = .ok (.iload_n 3, 1) := by decide +kernel
theorem dL_law_763 : decode cL_law 763 = .ok (.iconst 1, 1) := by decide +kernel
theorem dL_law_764 : decode cL_law 764 = .ok (.iadd, 1) := by decide +kernel
theorem dL_law_765 : decode cL_law 765 = .ok (.iaload, 1) := by decide +kernel
theorem dL_law_766 : decode cL_law 766 = .ok (.invokevirtual 97, 3) := by decide +kernel
theorem dL_law_769 : decode cL_law 769 = .ok (.aload_n 2, 1) := by decide +kernel
theorem dL_law_770 : decode cL_law 770 = .ok (.aload_n 0, 1) := by decide +kernel
theorem dL_law_771 : decode cL_law 771 = .ok (.iload_n 3, 1) := by decide +kernel
theorem dL_law_772 : decode cL_law 772 = .ok (.iconst 1, 1) := by decide +kernel
theorem dL_law_773 : decode cL_law 773 = .ok (.iadd, 1) := by decide +kernel
theorem dL_law_774 : decode cL_law 774 = .ok (.iaload, 1) := by decide +kernel
theorem dL_law_775 : decode cL_law 775 = .ok (.invokevirtual 100, 3) := by decide +kernel
theorem dL_law_778 : decode cL_law 778 = .ok (.if_icmp .eq 457, 3) := by decide +kernel
theorem dL_law_781 : decode cL_law 781 = .ok (.iconst 0, 1) := by decide +kernel
theorem dL_law_782 : decode cL_law 782 = .ok (.ireturn, 1) := by decide +kernel
theorem dL_law_783 : decode cL_law 783 = .ok (.aload_n 1, 1) := by decide +kernel
theorem dL_law_784 : decode cL_law 784 = .ok (.aload_n 0, 1) := by decide +kernel
theorem dL_law_785 : decode cL_law 785 = .ok (.iload_n 3, 1) := by decide +kernel
theorem dL_law_786 : decode cL_law 786 = .ok (.iconst 1, 1) := by decide +kernel
theorem dL_law_787 : decode cL_law 787 = .ok (.iadd, 1) := by decide +kernel
theorem dL_law_788 : decode cL_law 788 = .ok (.iaload, 1) := by decide +kernel
theorem dL_law_789 : decode cL_law 789 = .ok (.aload_n 0, 1) := by decide +kernel
theorem dL_law_790 : decode cL_law 790 = .ok (.iload_n 3, 1) := by decide +kernel
theorem dL_law_791 : decode cL_law 791 = .ok (.iconst 2, 1) := by decide +kernel
theorem dL_law_792 : decode cL_law 792 = .ok (.iadd, 1) := by decide +kernel
theorem dL_law_793 : decode cL_law 793 = .ok (.iaload, 1) := by decide +kernel
theorem dL_law_794 : decode cL_law 794 = .ok (.invokevirtual 101, 3) := by decide +kernel
theorem dL_law_797 : decode cL_law 797 = .ok (.aload_n 2, 1) := by decide +kernel
theorem dL_law_798 : decode cL_law 798 = .ok (.aload_n 0, 1) := by decide +kernel
theorem dL_law_799 : decode cL_law 799 = .ok (.iload_n 3, 1) := by decide +kernel
theorem dL_law_800 : decode cL_law 800 = .ok (.iconst 1, 1) := by decide +kernel
theorem dL_law_801 : decode cL_law 801 = .ok (.iadd, 1) := by decide +kernel
theorem dL_law_802 : decode cL_law 802 = .ok (.iaload, 1) := by decide +kernel
theorem dL_law_803 : decode cL_law 803 = .ok (.aload_n 0, 1) := by decide +kernel
theorem dL_law_804 : decode cL_law 804 = .ok (.iload_n 3, 1) := by decide +kernel
theorem dL_law_805 : decode cL_law 805 = .ok (.iconst 2, 1) := by decide +kernel
theorem dL_law_806 : decode cL_law 806 = .ok (.iadd, 1) := by decide +kernel
theorem dL_law_807 : decode cL_law 807 = .ok (.iaload, 1) := by decide +kernel
theorem dL_law_808 : decode cL_law 808 = .ok (.invokevirtual 104, 3) := by decide +kernel
theorem dL_law_811 : decode cL_law 811 = .ok (.if_icmp .eq 424, 3) := by decide +kernel
theorem dL_law_814 : decode cL_law 814 = .ok (.iconst 0, 1) := by decide +kernel
theorem dL_law_815 : decode cL_law 815 = .ok (.ireturn, 1) := by decide +kernel
theorem dL_law_816 : decode cL_law 816 = .ok (.aload_n 1, 1) := by decide +kernel
theorem dL_law_817 : decode cL_law 817 = .ok (.aload_n 0, 1) := by decide +kernel
theorem dL_law_818 : decode cL_law 818 = .ok (.iload_n 3, 1) := by decide +kernel
theorem dL_law_819 : decode cL_law 819 = .ok (.iconst 1, 1) := by decide +kernel
theorem dL_law_820 : decode cL_law 820 = .ok (.iadd, 1) := by decide +kernel
theorem dL_law_821 : decode cL_law 821 = .ok (.iaload, 1) := by decide +kernel
theorem dL_law_822 : decode cL_law 822 = .ok (.aload_n 0, 1) := by decide +kernel
theorem dL_law_823 : decode cL_law 823 = .ok (.iload_n 3, 1) := by decide +kernel
theorem dL_law_824 : decode cL_law 824 = .ok (.iconst 2, 1) := by decide +kernel
theorem dL_law_825 : decode cL_law 825 = .ok (.iadd, 1) := by decide +kernel
theorem dL_law_826 : decode cL_law 826 = .ok (.iaload, 1) := by decide +kernel
theorem dL_law_827 : decode cL_law 827 = .ok (.invokevirtual 105, 3) := by decide +kernel
theorem dL_law_830 : decode cL_law 830 = .ok (.aload_n 2, 1) := by decide +kernel
theorem dL_law_831 : decode cL_law 831 = .ok (.aload_n 0, 1) := by decide +kernel
theorem dL_law_832 : decode cL_law 832 = .ok (.iload_n 3, 1) := by decide +kernel
theorem dL_law_833 : decode cL_law 833 = .ok (.iconst 1, 1) := by decide +kernel
theorem dL_law_834 : decode cL_law 834 = .ok (.iadd, 1) := by decide +kernel
theorem dL_law_835 : decode cL_law 835 = .ok (.iaload, 1) := by decide +kernel
theorem dL_law_836 : decode cL_law 836 = .ok (.aload_n 0, 1) := by decide +kernel
theorem dL_law_837 : decode cL_law 837 = .ok (.iload_n 3, 1) := by decide +kernel
theorem dL_law_838 : decode cL_law 838 = .ok (.iconst 2, 1) := by decide +kernel
theorem dL_law_839 : decode cL_law 839 = .ok (.iadd, 1) := by decide +kernel
theorem dL_law_840 : decode cL_law 840 = .ok (.iaload, 1) := by decide +kernel
theorem dL_law_841 : decode cL_law 841 = .ok (.invokevirtual 108, 3) := by decide +kernel
theorem dL_law_844 : decode cL_law 844 = .ok (.if_icmp .eq 391, 3) := by decide +kernel
theorem dL_law_847 : decode cL_law 847 = .ok (.iconst 0, 1) := by decide +kernel
theorem dL_law_848 : decode cL_law 848 = .ok (.ireturn, 1) := by decide +kernel
theorem dL_law_849 : decode cL_law 849 = .ok (.aload_n 1, 1) := by decide +kernel
theorem dL_law_850 : decode cL_law 850 = .ok (.aload_n 0, 1) := by decide +kernel
theorem dL_law_851 : decode cL_law 851 = .ok (.iload_n 3, 1) := by decide +kernel
theorem dL_law_852 : decode cL_law 852 = .ok (.iconst 1, 1) := by decide +kernel
theorem dL_law_853 : decode cL_law 853 = .ok (.iadd, 1) := by decide +kernel
theorem dL_law_854 : decode cL_law 854 = .ok (.iaload, 1) := by decide +kernel
theorem dL_law_855 : decode cL_law 855 = .ok (.invokevirtual 109, 3) := by decide +kernel
theorem dL_law_858 : decode cL_law 858 = .ok (.aload_n 2, 1) := by decide +kernel
theorem dL_law_859 : decode cL_law 859 = .ok (.aload_n 0, 1) := by decide +kernel
theorem dL_law_860 : decode cL_law 860 = .ok (.iload_n 3, 1) := by decide +kernel
theorem dL_law_861 : decode cL_law 861 = .ok (.iconst 1, 1) := by decide +kernel
theorem dL_law_862 : decode cL_law 862 = .ok (.iadd, 1) := by decide +kernel
theorem dL_law_863 : decode cL_law 863 = .ok (.iaload, 1) := by decide +kernel
theorem dL_law_864 : decode cL_law 864 = .ok (.invokevirtual 112, 3) := by decide +kernel
theorem dL_law_867 : decode cL_law 867 = .ok (.if_icmp .eq 368, 3) := by decide +kernel
theorem dL_law_870 : decode cL_law 870 = .ok (.iconst 0, 1) := by decide +kernel
theorem dL_law_871 : decode cL_law 871 = .ok (.ireturn, 1) := by decide +kernel
theorem dL_law_872 : decode cL_law 872 = .ok (.aload_n 1, 1) := by decide +kernel
theorem dL_law_873 : decode cL_law 873 = .ok (.aload_n 0, 1) := by decide +kernel
theorem dL_law_874 : decode cL_law 874 = .ok (.iload_n 3, 1) := by decide +kernel
theorem dL_law_875 : decode cL_law 875 = .ok (.iconst 1, 1) := by decide +kernel
theorem dL_law_876 : decode cL_law 876 = .ok (.iadd, 1) := by decide +kernel
theorem dL_law_877 : decode cL_law 877 = .ok (.iaload, 1) := by decide +kernel
theorem dL_law_878 : decode cL_law 878 = .ok (.invokevirtual 113, 3) := by decide +kernel
theorem dL_law_881 : decode cL_law 881 = .ok (.aload_n 2, 1) := by decide +kernel
theorem dL_law_882 : decode cL_law 882 = .ok (.aload_n 0, 1) := by decide +kernel
theorem dL_law_883 : decode cL_law 883 = .ok (.iload_n 3, 1) := by decide +kernel
theorem dL_law_884 : decode cL_law 884 = .ok (.iconst 1, 1) := by decide +kernel
theorem dL_law_885 : decode cL_law 885 = .ok (.iadd, 1) := by decide +kernel
theorem dL_law_886 : decode cL_law 886 = .ok (.iaload, 1) := by decide +kernel
theorem dL_law_887 : decode cL_law 887 = .ok (.invokevirtual 116, 3) := by decide +kernel
theorem dL_law_890 : decode cL_law 890 = .ok (.if_icmp .eq 345, 3) := by decide +kernel
theorem dL_law_893 : decode cL_law 893 = .ok (.iconst 0, 1) := by decide +kernel
theorem dL_law_894 : decode cL_law 894 = .ok (.ireturn, 1) := by decide +kernel
theorem dL_law_895 : decode cL_law 895 = .ok (.aload_n 1, 1) := by decide +kernel
theorem dL_law_896 : decode cL_law 896 = .ok (.invokevirtual 117, 3) := by decide +kernel
theorem dL_law_899 : decode cL_law 899 = .ok (.aload_n 2, 1) := by decide +kernel
theorem dL_law_900 : decode cL_law 900 = .ok (.invokevirtual 120, 3) := by decide +kernel
theorem dL_law_903 : decode cL_law 903 = .ok (.if_icmp .eq 332, 3) := by decide +kernel
theorem dL_law_906 : decode cL_law 906 = .ok (.iconst 0, 1) := by decide +kernel
theorem dL_law_907 : decode cL_law 907 = .ok (.ireturn, 1) := by decide +kernel
theorem dL_law_908 : decode cL_law 908 = .ok (.aload_n 1, 1) := by decide +kernel
theorem dL_law_909 : decode cL_law 909 = .ok (.aload_n 0, 1) := by decide +kernel
theorem dL_law_910 : decode cL_law 910 = .ok (.iload_n 3, 1) := by decide +kernel
theorem dL_law_911 : decode cL_law 911 = .ok (.iconst 1, 1) := by decide +kernel
theorem dL_law_912 : decode cL_law 912 = .ok (.iadd, 1) := by decide +kernel
theorem dL_law_913 : decode cL_law 913 = .ok (.iaload, 1) := by decide +kernel
theorem dL_law_914 : decode cL_law 914 = .ok (.invokevirtual 121, 3) := by decide +kernel
theorem dL_law_917 : decode cL_law 917 = .ok (.aload_n 2, 1) := by decide +kernel
theorem dL_law_918 : decode cL_law 918 = .ok (.aload_n 0, 1) := by decide +kernel
theorem dL_law_919 : decode cL_law 919 = .ok (.iload_n 3, 1) := by decide +kernel
theorem dL_law_920 : decode cL_law 920 = .ok (.iconst 1, 1) := by decide +kernel
theorem dL_law_921 : decode cL_law 921 = .ok (.iadd, 1) := by decide +kernel
theorem dL_law_922 : decode cL_law 922 = .ok (.iaload, 1) := by decide +kernel
theorem dL_law_923 : decode cL_law 923 = .ok (.invokevirtual 124, 3) := by decide +kernel
theorem dL_law_926 : decode cL_law 926 = .ok (.if_icmp .eq 309, 3) := by decide +kernel
theorem dL_law_929 : decode cL_law 929 = .ok (.iconst 0, 1) := by decide +kernel
theorem dL_law_930 : decode cL_law 930 = .ok (.ireturn, 1) := by decide +kernel
theorem dL_law_931 : decode cL_law 931 = .ok (.aload_n 1, 1) := by decide +kernel
theorem dL_law_932 : decode cL_law 932 = .ok (.invokevirtual 125, 3) := by decide +kernel
theorem dL_law_935 : decode cL_law 935 = .ok (.aload_n 2, 1) := by decide +kernel
theorem dL_law_936 : decode cL_law 936 = .ok (.invokevirtual 128, 3) := by decide +kernel
theorem dL_law_939 : decode cL_law 939 = .ok (.if_icmp .eq 296, 3) := by decide +kernel
theorem dL_law_942 : decode cL_law 942 = .ok (.iconst 0, 1) := by decide +kernel
theorem dL_law_943 : decode cL_law 943 = .ok (.ireturn, 1) := by decide +kernel
theorem dL_law_944 : decode cL_law 944 = .ok (.aload_n 1, 1) := by decide +kernel
theorem dL_law_945 : decode cL_law 945 = .ok (.aload_n 0, 1) := by decide +kernel
theorem dL_law_946 : decode cL_law 946 = .ok (.iload_n 3, 1) := by decide +kernel
theorem dL_law_947 : decode cL_law 947 = .ok (.iconst 1, 1) := by decide +kernel
theorem dL_law_948 : decode cL_law 948 = .ok (.iadd, 1) := by decide +kernel
theorem dL_law_949 : decode cL_law 949 = .ok (.iaload, 1) := by decide +kernel
theorem dL_law_950 : decode cL_law 950 = .ok (.aload_n 0, 1) := by decide +kernel
theorem dL_law_951 : decode cL_law 951 = .ok (.iload_n 3, 1) := by decide +kernel
theorem dL_law_952 : decode cL_law 952 = .ok (.iconst 2, 1) := by decide +kernel
theorem dL_law_953 : decode cL_law 953 = .ok (.iadd, 1) := by decide +kernel
theorem dL_law_954 : decode cL_law 954 = .ok (.iaload, 1) := by decide +kernel
theorem dL_law_955 : decode cL_law 955 = .ok (.aload_n 0, 1) := by decide +kernel
theorem dL_law_956 : decode cL_law 956 = .ok (.iload_n 3, 1) := by decide +kernel
theorem dL_law_957 : decode cL_law 957 = .ok (.iconst 3, 1) := by decide +kernel
theorem dL_law_958 : decode cL_law 958 = .ok (.iadd, 1) := by decide +kernel
theorem dL_law_959 : decode cL_law 959 = .ok (.iaload, 1) := by decide +kernel
theorem dL_law_960 : decode cL_law 960 = .ok (.aload_n 0, 1) := by decide +kernel
theorem dL_law_961 : decode cL_law 961 = .ok (.iload_n 3, 1) := by decide +kernel
theorem dL_law_962 : decode cL_law 962 = .ok (.iconst 4, 1) := by decide +kernel
theorem dL_law_963 : decode cL_law 963 = .ok (.iadd, 1) := by decide +kernel
theorem dL_law_964 : decode cL_law 964 = .ok (.iaload, 1) := by decide +kernel
theorem dL_law_965 : decode cL_law 965 = .ok (.aload_n 0, 1) := by decide +kernel
theorem dL_law_966 : decode cL_law 966 = .ok (.iload_n 3, 1) := by decide +kernel
theorem dL_law_967 : decode cL_law 967 = .ok (.iconst 5, 1) := by decide +kernel
theorem dL_law_968 : decode cL_law 968 = .ok (.iadd, 1) := by decide +kernel
theorem dL_law_969 : decode cL_law 969 = .ok (.iaload, 1) := by decide +kernel
theorem dL_law_970 : decode cL_law 970 = .ok (.invokevirtual 129, 3) := by decide +kernel
theorem dL_law_973 : decode cL_law 973 = .ok (.aload_n 2, 1) := by decide +kernel
theorem dL_law_974 : decode cL_law 974 = .ok (.aload_n 0, 1) := by decide +kernel
theorem dL_law_975 : decode cL_law 975 = .ok (.iload_n 3, 1) := by decide +kernel
theorem dL_law_976 : decode cL_law 976 = .ok (.iconst 1, 1) := by decide +kernel
theorem dL_law_977 : decode cL_law 977 = .ok (.iadd, 1) := by decide +kernel
theorem dL_law_978 : decode cL_law 978 = .ok (.iaload, 1) := by decide +kernel
theorem dL_law_979 : decode cL_law 979 = .ok (.aload_n 0, 1) := by decide +kernel
theorem dL_law_980 : decode cL_law 980 = .ok (.iload_n 3, 1) := by decide +kernel
theorem dL_law_981 : decode cL_law 981 = .ok (.iconst 2, 1) := by decide +kernel
theorem dL_law_982 : decode cL_law 982 = .ok (.iadd, 1) := by decide +kernel
theorem dL_law_983 : decode cL_law 983 = .ok (.iaload, 1) := by decide +kernel
theorem dL_law_984 : decode cL_law 984 = .ok (.aload_n 0, 1) := by decide +kernel
theorem dL_law_985 : decode cL_law 985 = .ok (.iload_n 3, 1) := by decide +kernel
theorem dL_law_986 : decode cL_law 986 = .ok (.iconst 3, 1) := by decide +kernel
theorem dL_law_987 : decode cL_law 987 = .ok (.iadd, 1) := by decide +kernel
theorem dL_law_988 : decode cL_law 988 = .ok (.iaload, 1) := by decide +kernel
theorem dL_law_989 : decode cL_law 989 = .ok (.aload_n 0, 1) := by decide +kernel
theorem dL_law_990 : decode cL_law 990 = .ok (.iload_n 3, 1) := by decide +kernel
theorem dL_law_991 : decode cL_law 991 = .ok (.iconst 4, 1) := by decide +kernel
theorem dL_law_992 : decode cL_law 992 = .ok (.iadd, 1) := by decide +kernel
theorem dL_law_993 : decode cL_law 993 = .ok (.iaload, 1) := by decide +kernel
theorem dL_law_994 : decode cL_law 994 = .ok (.aload_n 0, 1) := by decide +kernel
theorem dL_law_995 : decode cL_law 995 = .ok (.iload_n 3, 1) := by decide +kernel
theorem dL_law_996 : decode cL_law 996 = .ok (.iconst 5, 1) := by decide +kernel
theorem dL_law_997 : decode cL_law 997 = .ok (.iadd, 1) := by decide +kernel
theorem dL_law_998 : decode cL_law 998 = .ok (.iaload, 1) := by decide +kernel
theorem dL_law_999 : decode cL_law 999 = .ok (.invokevirtual 133, 3) := by decide +kernel
theorem dL_law_1002 : decode cL_law 1002 = .ok (.lcmp, 1) := by decide +kernel
theorem dL_law_1003 : decode cL_law 1003 = .ok (.ifCond .eq 232, 3) := by decide +kernel
theorem dL_law_1006 : decode cL_law 1006 = .ok (.iconst 0, 1) := by decide +kernel
theorem dL_law_1007 : decode cL_law 1007 = .ok (.ireturn, 1) := by decide +kernel
theorem dL_law_1008 : decode cL_law 1008 = .ok (.aload_n 1, 1) := by decide +kernel
theorem dL_law_1009 : decode cL_law 1009 = .ok (.aload_n 0, 1) := by decide +kernel
theorem dL_law_1010 : decode cL_law 1010 = .ok (.iload_n 3, 1) := by decide +kernel
theorem dL_law_1011 : decode cL_law 1011 = .ok (.iconst 1, 1) := by decide +kernel
theorem dL_law_1012 : decode cL_law 1012 = .ok (.iadd, 1) := by decide +kernel
theorem dL_law_1013 : decode cL_law 1013 = .ok (.iaload, 1) := by decide +kernel
theorem dL_law_1014 : decode cL_law 1014 = .ok (.aload_n 0, 1) := by decide +kernel
theorem dL_law_1015 : decode cL_law 1015 = .ok (.iload_n 3, 1) := by decide +kernel
theorem dL_law_1016 : decode cL_law 1016 = .ok (.iconst 2, 1) := by decide +kernel
theorem dL_law_1017 : decode cL_law 1017 = .ok (.iadd, 1) := by decide +kernel
theorem dL_law_1018 : decode cL_law 1018 = .ok (.iaload, 1) := by decide +kernel
theorem dL_law_1019 : decode cL_law 1019 = .ok (.invokevirtual 134, 3) := by decide +kernel
theorem dL_law_1022 : decode cL_law 1022 = .ok (.aload_n 2, 1) := by decide +kernel
theorem dL_law_1023 : decode cL_law 1023 = .ok (.aload_n 0, 1) := by decide +kernel
theorem dL_law_1024 : decode cL_law 1024 = .ok (.iload_n 3, 1) := by decide +kernel
theorem dL_law_1025 : decode cL_law 1025 = .ok (.iconst 1, 1) := by decide +kernel
theorem dL_law_1026 : decode cL_law 1026 = .ok (.iadd, 1) := by decide +kernel
theorem dL_law_1027 : decode cL_law 1027 = .ok (.iaload, 1) := by decide +kernel
theorem dL_law_1028 : decode cL_law 1028 = .ok (.aload_n 0, 1) := by decide +kernel
theorem dL_law_1029 : decode cL_law 1029 = .ok (.iload_n 3, 1) := by decide +kernel
theorem dL_law_1030 : decode cL_law 1030 = .ok (.iconst 2, 1) := by decide +kernel
theorem dL_law_1031 : decode cL_law 1031 = .ok (.iadd, 1) := by decide +kernel
theorem dL_law_1032 : decode cL_law 1032 = .ok (.iaload, 1) := by decide +kernel
theorem dL_law_1033 : decode cL_law 1033 = .ok (.invokevirtual 137, 3) := by decide +kernel
theorem dL_law_1036 : decode cL_law 1036 = .ok (.if_icmp .eq 199, 3) := by decide +kernel
theorem dL_law_1039 : decode cL_law 1039 = .ok (.iconst 0, 1) := by decide +kernel
theorem dL_law_1040 : decode cL_law 1040 = .ok (.ireturn, 1) := by decide +kernel
theorem dL_law_1041 : decode cL_law 1041 = .ok (.aload_n 1, 1) := by decide +kernel
theorem dL_law_1042 : decode cL_law 1042 = .ok (.aload_n 0, 1) := by decide +kernel
theorem dL_law_1043 : decode cL_law 1043 = .ok (.iload_n 3, 1) := by decide +kernel
theorem dL_law_1044 : decode cL_law 1044 = .ok (.iconst 1, 1) := by decide +kernel
theorem dL_law_1045 : decode cL_law 1045 = .ok (.iadd, 1) := by decide +kernel
theorem dL_law_1046 : decode cL_law 1046 = .ok (.iaload, 1) := by decide +kernel
theorem dL_law_1047 : decode cL_law 1047 = .ok (.aload_n 0, 1) := by decide +kernel
theorem dL_law_1048 : decode cL_law 1048 = .ok (.iload_n 3, 1) := by decide +kernel
theorem dL_law_1049 : decode cL_law 1049 = .ok (.iconst 2, 1) := by decide +kernel
theorem dL_law_1050 : decode cL_law 1050 = .ok (.iadd, 1) := by decide +kernel
theorem dL_law_1051 : decode cL_law 1051 = .ok (.iaload, 1) := by decide +kernel
theorem dL_law_1052 : decode cL_law 1052 = .ok (.aload_n 0, 1) := by decide +kernel
theorem dL_law_1053 : decode cL_law 1053 = .ok (.iload_n 3, 1) := by decide +kernel
theorem dL_law_1054 : decode cL_law 1054 = .ok (.iconst 3, 1) := by decide +kernel
theorem dL_law_1055 : decode cL_law 1055 = .ok (.iadd, 1) := by decide +kernel
theorem dL_law_1056 : decode cL_law 1056 = .ok (.iaload, 1) := by decide +kernel
theorem dL_law_1057 : decode cL_law 1057 = .ok (.invokevirtual 138, 3) := by decide +kernel
theorem dL_law_1060 : decode cL_law 1060 = .ok (.aload_n 2, 1) := by decide +kernel
theorem dL_law_1061 : decode cL_law 1061 = .ok (.aload_n 0, 1) := by decide +kernel
theorem dL_law_1062 : decode cL_law 1062 = .ok (.iload_n 3, 1) := by decide +kernel
theorem dL_law_1063 : decode cL_law 1063 = .ok (.iconst 1, 1) := by decide +kernel
theorem dL_law_1064 : decode cL_law 1064 = .ok (.iadd, 1) := by decide +kernel
theorem dL_law_1065 : decode cL_law 1065 = .ok (.iaload, 1) := by decide +kernel
theorem dL_law_1066 : decode cL_law 1066 = .ok (.aload_n 0, 1) := by decide +kernel
theorem dL_law_1067 : decode cL_law 1067 = .ok (.iload_n 3, 1) := by decide +kernel
theorem dL_law_1068 : decode cL_law 1068 = .ok (.iconst 2, 1) := by decide +kernel
theorem dL_law_1069 : decode cL_law 1069 = .ok (.iadd, 1) := by decide +kernel
theorem dL_law_1070 : decode cL_law 1070 = .ok (.iaload, 1) := by decide +kernel
theorem dL_law_1071 : decode cL_law 1071 = .ok (.aload_n 0, 1) := by decide +kernel
theorem dL_law_1072 : decode cL_law 1072 = .ok (.iload_n 3, 1) := by decide +kernel
theorem dL_law_1073 : decode cL_law 1073 = .ok (.iconst 3, 1) := by decide +kernel
theorem dL_law_1074 : decode cL_law 1074 = .ok (.iadd, 1) := by decide +kernel
theorem dL_law_1075 : decode cL_law 1075 = .ok (.iaload, 1) := by decide +kernel
theorem dL_law_1076 : decode cL_law 1076 = .ok (.invokevirtual 141, 3) := by decide +kernel
theorem dL_law_1079 : decode cL_law 1079 = .ok (.if_icmp .eq 156, 3) := by decide +kernel
theorem dL_law_1082 : decode cL_law 1082 = .ok (.iconst 0, 1) := by decide +kernel
theorem dL_law_1083 : decode cL_law 1083 = .ok (.ireturn, 1) := by decide +kernel
theorem dL_law_1084 : decode cL_law 1084 = .ok (.aload_n 1, 1) := by decide +kernel
theorem dL_law_1085 : decode cL_law 1085 = .ok (.aload_n 0, 1) := by decide +kernel
theorem dL_law_1086 : decode cL_law 1086 = .ok (.iload_n 3, 1) := by decide +kernel
theorem dL_law_1087 : decode cL_law 1087 = .ok (.iconst 1, 1) := by decide +kernel
theorem dL_law_1088 : decode cL_law 1088 = .ok (.iadd, 1) := by decide +kernel
theorem dL_law_1089 : decode cL_law 1089 = .ok (.iaload, 1) := by decide +kernel
theorem dL_law_1090 : decode cL_law 1090 = .ok (.invokevirtual 142, 3) := by decide +kernel
theorem dL_law_1093 : decode cL_law 1093 = .ok (.aload_n 2, 1) := by decide +kernel
theorem dL_law_1094 : decode cL_law 1094 = .ok (.aload_n 0, 1) := by decide +kernel
theorem dL_law_1095 : decode cL_law 1095 = .ok (.iload_n 3, 1) := by decide +kernel
theorem dL_law_1096 : decode cL_law 1096 = .ok (.iconst 1, 1) := by decide +kernel
theorem dL_law_1097 : decode cL_law 1097 = .ok (.iadd, 1) := by decide +kernel
theorem dL_law_1098 : decode cL_law 1098 = .ok (.iaload, 1) := by decide +kernel
theorem dL_law_1099 : decode cL_law 1099 = .ok (.invokevirtual 145, 3) := by decide +kernel
theorem dL_law_1102 : decode cL_law 1102 = .ok (.if_icmp .eq 133, 3) := by decide +kernel
theorem dL_law_1105 : decode cL_law 1105 = .ok (.iconst 0, 1) := by decide +kernel
theorem dL_law_1106 : decode cL_law 1106 = .ok (.ireturn, 1) := by decide +kernel
theorem dL_law_1107 : decode cL_law 1107 = .ok (.aload_n 1, 1) := by decide +kernel
theorem dL_law_1108 : decode cL_law 1108 = .ok (.aload_n 0, 1) := by decide +kernel
theorem dL_law_1109 : decode cL_law 1109 = .ok (.iload_n 3, 1) := by decide +kernel
theorem dL_law_1110 : decode cL_law 1110 = .ok (.iconst 1, 1) := by decide +kernel
theorem dL_law_1111 : decode cL_law 1111 = .ok (.iadd, 1) := by decide +kernel
theorem dL_law_1112 : decode cL_law 1112 = .ok (.iaload, 1) := by decide +kernel
theorem dL_law_1113 : decode cL_law 1113 = .ok (.invokevirtual 146, 3) := by decide +kernel
theorem dL_law_1116 : decode cL_law 1116 = .ok (.aload_n 2, 1) := by decide +kernel
theorem dL_law_1117 : decode cL_law 1117 = .ok (.aload_n 0, 1) := by decide +kernel
theorem dL_law_1118 : decode cL_law 1118 = .ok (.iload_n 3, 1) := by decide +kernel
theorem dL_law_1119 : decode cL_law 1119 = .ok (.iconst 1, 1) := by decide +kernel
theorem dL_law_1120 : decode cL_law 1120 = .ok (.iadd, 1) := by decide +kernel
theorem dL_law_1121 : decode cL_law 1121 = .ok (.iaload, 1) := by decide +kernel
theorem dL_law_1122 : decode cL_law 1122 = .ok (.invokevirtual 149, 3) := by decide +kernel
theorem dL_law_1125 : decode cL_law 1125 = .ok (.if_icmp .eq 110, 3) := by decide +kernel
theorem dL_law_1128 : decode cL_law 1128 = .ok (.iconst 0, 1) := by decide +kernel
theorem dL_law_1129 : decode cL_law 1129 = .ok (.ireturn, 1) := by decide +kernel
theorem dL_law_1130 : decode cL_law 1130 = .ok (.aload_n 1, 1) := by decide +kernel
theorem dL_law_1131 : decode cL_law 1131 = .ok (.invokevirtual 150, 3) := by decide +kernel
theorem dL_law_1134 : decode cL_law 1134 = .ok (.aload_n 2, 1) := by decide +kernel
theorem dL_law_1135 : decode cL_law 1135 = .ok (.invokevirtual 153, 3) := by decide +kernel
theorem dL_law_1138 : decode cL_law 1138 = .ok (.if_icmp .eq 97, 3) := by decide +kernel
theorem dL_law_1141 : decode cL_law 1141 = .ok (.iconst 0, 1) := by decide +kernel
theorem dL_law_1142 : decode cL_law 1142 = .ok (.ireturn, 1) := by decide +kernel
theorem dL_law_1143 : decode cL_law 1143 = .ok (.aload_n 1, 1) := by decide +kernel
theorem dL_law_1144 : decode cL_law 1144 = .ok (.aload_n 0, 1) := by decide +kernel
theorem dL_law_1145 : decode cL_law 1145 = .ok (.iload_n 3, 1) := by decide +kernel
theorem dL_law_1146 : decode cL_law 1146 = .ok (.iconst 1, 1) := by decide +kernel
theorem dL_law_1147 : decode cL_law 1147 = .ok (.iadd, 1) := by decide +kernel
theorem dL_law_1148 : decode cL_law 1148 = .ok (.iaload, 1) := by decide +kernel
theorem dL_law_1149 : decode cL_law 1149 = .ok (.aload_n 0, 1) := by decide +kernel
theorem dL_law_1150 : decode cL_law 1150 = .ok (.iload_n 3, 1) := by decide +kernel
theorem dL_law_1151 : decode cL_law 1151 = .ok (.iconst 2, 1) := by decide +kernel
theorem dL_law_1152 : decode cL_law 1152 = .ok (.iadd, 1) := by decide +kernel
theorem dL_law_1153 : decode cL_law 1153 = .ok (.iaload, 1) := by decide +kernel
theorem dL_law_1154 : decode cL_law 1154 = .ok (.aload_n 0, 1) := by decide +kernel
theorem dL_law_1155 : decode cL_law 1155 = .ok (.iload_n 3, 1) := by decide +kernel
theorem dL_law_1156 : decode cL_law 1156 = .ok (.iconst 3, 1) := by decide +kernel
theorem dL_law_1157 : decode cL_law 1157 = .ok (.iadd, 1) := by decide +kernel
theorem dL_law_1158 : decode cL_law 1158 = .ok (.iaload, 1) := by decide +kernel
theorem dL_law_1159 : decode cL_law 1159 = .ok (.invokevirtual 154, 3) := by decide +kernel
theorem dL_law_1162 : decode cL_law 1162 = .ok (.aload_n 2, 1) := by decide +kernel
theorem dL_law_1163 : decode cL_law 1163 = .ok (.aload_n 0, 1) := by decide +kernel
theorem dL_law_1164 : decode cL_law 1164 = .ok (.iload_n 3, 1) := by decide +kernel
theorem dL_law_1165 : decode cL_law 1165 = .ok (.iconst 1, 1) := by decide +kernel
theorem dL_law_1166 : decode cL_law 1166 = .ok (.iadd, 1) := by decide +kernel
theorem dL_law_1167 : decode cL_law 1167 = .ok (.iaload, 1) := by decide +kernel
theorem dL_law_1168 : decode cL_law 1168 = .ok (.aload_n 0, 1) := by decide +kernel
theorem dL_law_1169 : decode cL_law 1169 = .ok (.iload_n 3, 1) := by decide +kernel
theorem dL_law_1170 : decode cL_law 1170 = .ok (.iconst 2, 1) := by decide +kernel
theorem dL_law_1171 : decode cL_law 1171 = .ok (.iadd, 1) := by decide +kernel
theorem dL_law_1172 : decode cL_law 1172 = .ok (.iaload, 1) := by decide +kernel
theorem dL_law_1173 : decode cL_law 1173 = .ok (.aload_n 0, 1) := by decide +kernel
theorem dL_law_1174 : decode cL_law 1174 = .ok (.iload_n 3, 1) := by decide +kernel
theorem dL_law_1175 : decode cL_law 1175 = .ok (.iconst 3, 1) := by decide +kernel
theorem dL_law_1176 : decode cL_law 1176 = .ok (.iadd, 1) := by decide +kernel
theorem dL_law_1177 : decode cL_law 1177 = .ok (.iaload, 1) := by decide +kernel
theorem dL_law_1178 : decode cL_law 1178 = .ok (.invokevirtual 157, 3) := by decide +kernel
theorem dL_law_1181 : decode cL_law 1181 = .ok (.if_icmp .eq 54, 3) := by decide +kernel
theorem dL_law_1184 : decode cL_law 1184 = .ok (.iconst 0, 1) := by decide +kernel
theorem dL_law_1185 : decode cL_law 1185 = .ok (.ireturn, 1) := by decide +kernel
theorem dL_law_1186 : decode cL_law 1186 = .ok (.aload_n 1, 1) := by decide +kernel
theorem dL_law_1187 : decode cL_law 1187 = .ok (.invokevirtual 158, 3) := by decide +kernel
theorem dL_law_1190 : decode cL_law 1190 = .ok (.aload_n 2, 1) := by decide +kernel
theorem dL_law_1191 : decode cL_law 1191 = .ok (.invokevirtual 161, 3) := by decide +kernel
theorem dL_law_1194 : decode cL_law 1194 = .ok (.if_icmp .eq 41, 3) := by decide +kernel
theorem dL_law_1197 : decode cL_law 1197 = .ok (.iconst 0, 1) := by decide +kernel
theorem dL_law_1198 : decode cL_law 1198 = .ok (.ireturn, 1) := by decide +kernel
theorem dL_law_1199 : decode cL_law 1199 = .ok (.aload_n 1, 1) := by decide +kernel
theorem dL_law_1200 : decode cL_law 1200 = .ok (.invokevirtual 162, 3) := by decide +kernel
theorem dL_law_1203 : decode cL_law 1203 = .ok (.aload_n 2, 1) := by decide +kernel
theorem dL_law_1204 : decode cL_law 1204 = .ok (.invokevirtual 165, 3) := by decide +kernel
theorem dL_law_1207 : decode cL_law 1207 = .ok (.if_icmp .eq 28, 3) := by decide +kernel
theorem dL_law_1210 : decode cL_law 1210 = .ok (.iconst 0, 1) := by decide +kernel
theorem dL_law_1211 : decode cL_law 1211 = .ok (.ireturn, 1) := by decide +kernel
theorem dL_law_1212 : decode cL_law 1212 = .ok (.aload_n 1, 1) := by decide +kernel
theorem dL_law_1213 : decode cL_law 1213 = .ok (.aload_n 0, 1) := by decide +kernel
theorem dL_law_1214 : decode cL_law 1214 = .ok (.iload_n 3, 1) := by decide +kernel
theorem dL_law_1215 : decode cL_law 1215 = .ok (.iconst 1, 1) := by decide +kernel
theorem dL_law_1216 : decode cL_law 1216 = .ok (.iadd, 1) := by decide +kernel
theorem dL_law_1217 : decode cL_law 1217 = .ok (.iaload, 1) := by decide +kernel
theorem dL_law_1218 : decode cL_law 1218 = .ok (.invokevirtual 166, 3) := by decide +kernel
theorem dL_law_1221 : decode cL_law 1221 = .ok (.aload_n 2, 1) := by decide +kernel
theorem dL_law_1222 : decode cL_law 1222 = .ok (.aload_n 0, 1) := by decide +kernel
theorem dL_law_1223 : decode cL_law 1223 = .ok (.iload_n 3, 1) := by decide +kernel
theorem dL_law_1224 : decode cL_law 1224 = .ok (.iconst 1, 1) := by decide +kernel
theorem dL_law_1225 : decode cL_law 1225 = .ok (.iadd, 1) := by decide +kernel
theorem dL_law_1226 : decode cL_law 1226 = .ok (.iaload, 1) := by decide +kernel
theorem dL_law_1227 : decode cL_law 1227 = .ok (.invokevirtual 169, 3) := by decide +kernel
theorem dL_law_1230 : decode cL_law 1230 = .ok (.if_icmp .eq 5, 3) := by decide +kernel
theorem dL_law_1233 : decode cL_law 1233 = .ok (.iconst 0, 1) := by decide +kernel
theorem dL_law_1234 : decode cL_law 1234 = .ok (.ireturn, 1) := by decide +kernel
theorem dL_law_1235 : decode cL_law 1235 = .ok (.iinc 3 6, 3) := by decide +kernel
theorem dL_law_1238 : decode cL_law 1238 = .ok (.goto (-1220), 3) := by decide +kernel
theorem dL_law_1241 : decode cL_law 1241 = .ok (.iconst 1, 1) := by decide +kernel
theorem dL_law_1242 : decode cL_law 1242 = .ok (.ireturn, 1) := by decide +kernel
end
section
/-! THE SMALL MACHINE's tables (by program): method entries (class number, longs among its locals, name, code, locals, answer), links of the pools -/
abbrev mE : Type := Nat × Bool × MethodName × ByteArray × Nat × Option FieldType
def eX5_letter : mE := (5, false, yX5_letter, cX5_letter, 2, (some .int))
def eX5_refuse : mE := (5, false, yX5_refuse, cX5_refuse, 2, (some .int))
def eX4_isFull : mE := (4, false, yX4_isFull, cX4_isFull, 1, (some .boolean))
def eX4_take : mE := (4, false, yX4_take, cX4_take, 2, (some .int))
def eX5_lock : mE := (5, false, yX5_lock, cX5_lock, 3, (some .int))
def eX4_misshapenPlace : mE := (4, false, yX4_misshapenPlace, cX4_misshapenPlace, 4, (some .int))
def eX4_shapeBehind : mE := (4, false, yX4_shapeBehind, cX4_shapeBehind, 1, (some (.object "java/lang/String")))
def eJ0_isEmpty_aae02 : mE := (10, false, yJ0_isEmpty_aae02, cJ0_isEmpty_aae02, 1, (some .boolean))
def eJ0_length_8abf5 : mE := (10, false, yJ0_length_8abf5, cJ0_length_8abf5, 1, (some .int))
def eJ0_coder_7d493 : mE := (10, false, yJ0_coder_7d493, cJ0_coder_7d493, 1, (some .byte))
def eJ0_charAt_5068e : mE := (10, false, yJ0_charAt_5068e, cJ0_charAt_5068e, 2, (some .char))
def eJ0_isLatin1_aae02 : mE := (10, false, yJ0_isLatin1_aae02, cJ0_isLatin1_aae02, 1, (some .boolean))
def eJ1_charAt_3b067 : mE := (11, false, yJ1_charAt_3b067, cJ1_charAt_3b067, 2, (some .char))
def eJ0_checkIndex_df160 : mE := (10, false, yJ0_checkIndex_df160, cJ0_checkIndex_df160, 2, none)
def eJ3_checkIndex_8e157 : mE := (13, false, yJ3_checkIndex_8e157, cJ3_checkIndex_8e157, 3, (some .int))
def eX4_fitsShape : mE := (4, false, yX4_fitsShape, cX4_fitsShape, 2, (some .boolean))
def eJ0_indexOf_0f7a4 : mE := (10, false, yJ0_indexOf_0f7a4, cJ0_indexOf_0f7a4, 2, (some .int))
def eJ0_indexOf_7cf53 : mE := (10, false, yJ0_indexOf_7cf53, cJ0_indexOf_7cf53, 3, (some .int))
def eJ1_indexOf_4cfef : mE := (11, false, yJ1_indexOf_4cfef, cJ1_indexOf_4cfef, 4, (some .int))
def eJ1_canEncode_9a6ad : mE := (11, false, yJ1_canEncode_9a6ad, cJ1_canEncode_9a6ad, 1, (some .boolean))
def eJ9_max_7cf53 : mE := (19, false, yJ9_max_7cf53, cJ9_max_7cf53, 2, (some .int))
def eJ9_min_7cf53 : mE := (19, false, yJ9_min_7cf53, cJ9_min_7cf53, 2, (some .int))
def eJ1_indexOfChar_4cfef : mE := (11, false, yJ1_indexOfChar_4cfef, cJ1_indexOfChar_4cfef, 6, (some .int))
def eX3_becomes : mE := (3, false, yX3_becomes, cX3_becomes, 3, none)
def eX4_happenIn : mE := (4, false, yX4_happenIn, cX4_happenIn, 4, (some .int))
def eX4_happens : mE := (4, false, yX4_happens, cX4_happens, 4, (some .boolean))
def eX4_digitAt : mE := (4, false, yX4_digitAt, cX4_digitAt, 2, (some .int))
def eX4_letterAt : mE := (4, false, yX4_letterAt, cX4_letterAt, 2, (some .int))
def eX4_readFive : mE := (4, false, yX4_readFive, cX4_readFive, 4, none)
def eX4_twoDigitsAt : mE := (4, false, yX4_twoDigitsAt, cX4_twoDigitsAt, 2, (some .int))
def eX4_keyComes : mE := (4, false, yX4_keyComes, cX4_keyComes, 4, (some .boolean))
def eX3_addKey : mE := (3, false, yX3_addKey, cX3_addKey, 2, (some .int))
def eX4_kindAt : mE := (4, false, yX4_kindAt, cX4_kindAt, 2, (some .int))
def eX3_addMachine : mE := (3, false, yX3_addMachine, cX3_addMachine, 3, (some .boolean))
def eX3_hasWholeKey : mE := (3, false, yX3_hasWholeKey, cX3_hasWholeKey, 2, (some .boolean))
def eX3_hasKey : mE := (3, false, yX3_hasKey, cX3_hasKey, 2, (some .boolean))
def eX3_addCopy : mE := (3, false, yX3_addCopy, cX3_addCopy, 5, (some .int))
def eX3_hasMachine : mE := (3, false, yX3_hasMachine, cX3_hasMachine, 2, (some .boolean))
def eX3_cutBy : mE := (3, false, yX3_cutBy, cX3_cutBy, 4, (some .int))
def eX0_cutHeight : mE := (0, false, yX0_cutHeight, cX0_cutHeight, 4, (some .int))
def eX0_held : mE := (0, false, yX0_held, cX0_held, 1, (some .int))
def eX0_nearestTen : mE := (0, false, yX0_nearestTen, cX0_nearestTen, 1, (some .int))
def eX4_isUsed : mE := (4, false, yX4_isUsed, cX4_isUsed, 3, (some .boolean))
def eX3_wear : mE := (3, false, yX3_wear, cX3_wear, 4, none)
def eX3_wornHeight : mE := (3, false, yX3_wornHeight, cX3_wornHeight, 2, (some .int))
def eX3_wornPin : mE := (3, false, yX3_wornPin, cX3_wornPin, 2, (some .int))
def eX4_isSnapped : mE := (4, false, yX4_isSnapped, cX4_isSnapped, 2, (some .boolean))
def eX4_forget : mE := (4, false, yX4_forget, cX4_forget, 1, none)
def eX5_pin : mE := (5, false, yX5_pin, cX5_pin, 2, (some .int))
def eX5_isTooth : mE := (5, false, yX5_isTooth, cX5_isTooth, 1, (some .boolean))
def eX5_key : mE := (5, false, yX5_key, cX5_key, 3, (some .int))
def eX3_opens : mE := (3, false, yX3_opens, cX3_opens, 2, (some .boolean))
def eX3_fits : mE := (3, false, yX3_fits, cX3_fits, 2, (some .boolean))
def eX3_leastTooFar : mE := (3, false, yX3_leastTooFar, cX3_leastTooFar, 3, (some .int))
def eJ9_abs_0f7a4 : mE := (19, false, yJ9_abs_0f7a4, cJ9_abs_0f7a4, 1, (some .int))
def eX3_wiggleOf : mE := (3, false, yX3_wiggleOf, cX3_wiggleOf, 4, (some .int))
def eX3_worstTooth : mE := (3, false, yX3_worstTooth, cX3_worstTooth, 4, (some .int))
def eX5_machine : mE := (5, false, yX5_machine, cX5_machine, 3, (some .int))
def eX5_isZeroOrOne : mE := (5, false, yX5_isZeroOrOne, cX5_isZeroOrOne, 1, (some .boolean))
def eX5_sets : mE := (5, false, yX5_sets, cX5_sets, 5, (some .int))
def eX5_outside : mE := (5, false, yX5_outside, cX5_outside, 3, (some .int))
def eX5_slack : mE := (5, false, yX5_slack, cX5_slack, 4, (some .int))
def eX5_files : mE := (5, false, yX5_files, cX5_files, 6, (some .int))
def eX5_turn : mE := (5, false, yX5_turn, cX5_turn, 6, (some .int))
def eX5_cut : mE := (5, false, yX5_cut, cX5_cut, 3, (some .int))
def eX5_uses : mE := (5, false, yX5_uses, cX5_uses, 3, (some .int))
def eX5_snaps : mE := (5, false, yX5_snaps, cX5_snaps, 2, (some .int))
def eX3_snappedBits : mE := (3, false, yX3_snappedBits, cX3_snappedBits, 3, (some .int))
def eJ6_bitCount_0f7a4 : mE := (16, false, yJ6_bitCount_0f7a4, cJ6_bitCount_0f7a4, 1, (some .int))
def eX5_opening : mE := (5, false, yX5_opening, cX5_opening, 1, (some .int))
def eX3_openingBits : mE := (3, false, yX3_openingBits, cX3_openingBits, 3, (some .int))
def eX5_family : mE := (5, false, yX5_family, cX5_family, 3, (some .int))
def eX1_depthOf : mE := (1, false, yX1_depthOf, cX1_depthOf, 2, (some .int))
def eX1_elders : mE := (1, false, yX1_elders, cX1_elders, 5, (some .int))
def eX1_rootOf : mE := (1, false, yX1_rootOf, cX1_rootOf, 2, (some .int))
def eJ6_numberOfTrailingZeros_0f7a4 : mE := (16, false, yJ6_numberOfTrailingZeros_0f7a4, cJ6_numberOfTrailingZeros_0f7a4, 2, (some .int))
def eX1_childrenOf : mE := (1, false, yX1_childrenOf, cX1_childrenOf, 2, (some .int))
def eX1_childBits : mE := (1, false, yX1_childBits, cX1_childBits, 4, (some .int))
def eX1_heirsOf : mE := (1, false, yX1_heirsOf, cX1_heirsOf, 5, (some .int))
def eX5_holds : mE := (5, false, yX5_holds, cX5_holds, 2, (some .boolean))
def eX5_common : mE := (5, false, yX5_common, cX5_common, 3, (some .int))
def eX1_commonOf : mE := (1, false, yX1_commonOf, cX1_commonOf, 4, (some .int))
def eJ6_numberOfLeadingZeros_0f7a4 : mE := (16, false, yJ6_numberOfLeadingZeros_0f7a4, cJ6_numberOfLeadingZeros_0f7a4, 2, (some .int))
def eX5_nearest : mE := (5, false, yX5_nearest, cX5_nearest, 1, (some .int))
def eX3_nearestKey : mE := (3, false, yX3_nearestKey, cX3_nearestKey, 1, (some .int))
def eX3_allKeysBits : mE := (3, false, yX3_allKeysBits, cX3_allKeysBits, 1, (some .int))
def eX3_leastWiggleOf : mE := (3, false, yX3_leastWiggleOf, cX3_leastWiggleOf, 6, (some .int))
def eX5_next : mE := (5, false, yX5_next, cX5_next, 2, (some .int))
def eX2_bestNext : mE := (2, false, yX2_bestNext, cX2_bestNext, 8, (some .int))
def eX2_takeKey : mE := (2, false, yX2_takeKey, cX2_takeKey, 3, none)
def eX2_cutCopyBy : mE := (2, false, yX2_cutCopyBy, cX2_cutCopyBy, 3, none)
def eX2_cutCopy : mE := (2, false, yX2_cutCopy, cX2_cutCopy, 4, none)
def eX5_inRow : mE := (5, false, yX5_inRow, cX5_inRow, 4, (some .int))
def eX2_copiesThatOpen : mE := (2, false, yX2_copiesThatOpen, cX2_copiesThatOpen, 5, (some .int))
def eX2_toothThatGoesFirst : mE := (2, false, yX2_toothThatGoesFirst, cX2_toothThatGoesFirst, 6, (some .int))
def eX5_lasts : mE := (5, false, yX5_lasts, cX5_lasts, 2, (some .int))
def eX2_usesTillShut : mE := (2, false, yX2_usesTillShut, cX2_usesTillShut, 4, (some .int))
def eX2_opensWorn : mE := (2, false, yX2_opensWorn, cX2_opensWorn, 7, (some .boolean))
def eX5_fit : mE := (5, false, yX5_fit, cX5_fit, 3, (some .int))
def eX5_anew : mE := (5, false, yX5_anew, cX5_anew, 2, (some .int))
def eX2_openAnew : mE := (2, false, yX2_openAnew, cX2_openAnew, 4, (some .int))
def eX2_pinAnew : mE := (2, false, yX2_pinAnew, cX2_pinAnew, 7, (some .int))
def eX2_wholeKeysWithin : mE := (2, false, yX2_wholeKeysWithin, cX2_wholeKeysWithin, 6, (some .int))
def eX2_teethWithin : mE := (2, false, yX2_teethWithin, cX2_teethWithin, 6, (some .int))
def eX5_first : mE := (5, false, yX5_first, cX5_first, 4, (some .int))
def eX2_codeOfSet : mE := (2, false, yX2_codeOfSet, cX2_codeOfSet, 4, (some .int))
def eX2_middleHeight : mE := (2, false, yX2_middleHeight, cX2_middleHeight, 7, (some .int))
def eX0_codeOf : mE := (0, false, yX0_codeOf, cX0_codeOf, 1, (some .int))
def eX5_unlike : mE := (5, false, yX5_unlike, cX5_unlike, 4, (some .int))
def eX2_unlikeTeeth : mE := (2, false, yX2_unlikeTeeth, cX2_unlikeTeeth, 6, (some .int))
def eX5_mend : mE := (5, false, yX5_mend, cX5_mend, 2, (some .int))
def eX2_lessByMending : mE := (2, false, yX2_lessByMending, cX2_lessByMending, 4, (some .int))
def eX5_line : mE := (5, false, yX5_line, cX5_line, 2, (some .int))
def eX1_openHeirsOf : mE := (1, false, yX1_openHeirsOf, cX1_openHeirsOf, 2, (some .int))
def eX5_bestLine : mE := (5, false, yX5_bestLine, cX5_bestLine, 1, (some .int))
def eX1_bestRoot : mE := (1, false, yX1_bestRoot, cX1_bestRoot, 6, (some .int))
def eX5_ask : mE := (5, false, yX5_ask, cX5_ask, 2, (some .int))
def eX1_whomToAsk : mE := (1, false, yX1_whomToAsk, cX1_whomToAsk, 4, (some .int))
def eX5_spare : mE := (5, false, yX5_spare, cX5_spare, 1, (some .int))
def eX2_fewestEnough : mE := (2, false, yX2_fewestEnough, cX2_fewestEnough, 6, (some .int))
def eX2_isEnough : mE := (2, false, yX2_isEnough, cX2_isEnough, 5, (some .boolean))
def eX5_slip : mE := (5, true, yX5_slip, cX5_slip, 12, (some .long))
def eX2_waysToOpen : mE := (2, true, yX2_waysToOpen, cX2_waysToOpen, 9, (some .long))
def eX2_lastCopyFits : mE := (2, false, yX2_lastCopyFits, cX2_lastCopyFits, 7, (some .boolean))
def eX5_power : mE := (5, true, yX5_power, cX5_power, 6, (some .long))
def eX5_greatestDivisor : mE := (5, true, yX5_greatestDivisor, cX5_greatestDivisor, 11, (some .long))
def eJ9_max_f86c9 : mE := (19, true, yJ9_max_f86c9, cJ9_max_f86c9, 4, (some .long))
def eX5_two : mE := (5, false, yX5_two, cX5_two, 3, (some .int))
def eX2_steadyPair : mE := (2, false, yX2_steadyPair, cX2_steadyPair, 6, (some .int))
def eX2_isSteady : mE := (2, false, yX2_isSteady, cX2_isSteady, 10, (some .boolean))
def eX2_cutTwice : mE := (2, false, yX2_cutTwice, cX2_cutTwice, 6, (some .int))
def eX5_which : mE := (5, false, yX5_which, cX5_which, 5, (some .int))
def eX2_machinesThatCut : mE := (2, false, yX2_machinesThatCut, cX2_machinesThatCut, 6, (some .int))
def eX2_cutsSo : mE := (2, false, yX2_cutsSo, cX2_cutsSo, 7, (some .boolean))
def eX2_kindsThatCut : mE := (2, false, yX2_kindsThatCut, cX2_kindsThatCut, 7, (some .int))
def eX5_row : mE := (5, false, yX5_row, cX5_row, 2, (some .int))
def eX5_judge : mE := (5, false, yX5_judge, cX5_judge, 3, (some .int))
def eX5_firstToldWrong : mE := (5, false, yX5_firstToldWrong, cX5_firstToldWrong, 3, (some .int))
def eX5_clear : mE := (5, false, yX5_clear, cX5_clear, 2, (some .int))
def eX5_lots : mE := (5, false, yX5_lots, cX5_lots, 5, (some .int))
def eX2_drawLots : mE := (2, false, yX2_drawLots, cX2_drawLots, 8, (some .int))
def eX2_drawBelow : mE := (2, false, yX2_drawBelow, cX2_drawBelow, 2, (some .int))
def eX5_image : mE := (5, false, yX5_image, cX5_image, 1, (some .int))
def eX5_on : mE := (5, false, yX5_on, cX5_on, 1, (some .int))
def eX5_count : mE := (5, false, yX5_count, cX5_count, 2, (some .int))
def eX4_size : mE := (4, false, yX4_size, cX4_size, 1, (some .int))
def eX6_letter : mE := (6, false, yX6_letter, cX6_letter, 2, (some .int))
def eX6_no : mE := (6, false, yX6_no, cX6_no, 2, (some .int))
def eX6_lock : mE := (6, false, yX6_lock, cX6_lock, 6, (some .int))
def eX6_readsStatement : mE := (6, false, yX6_readsStatement, cX6_readsStatement, 3, (some .boolean))
def eX6_here : mE := (6, false, yX6_here, cX6_here, 1, (some .int))
def eX6_readsFive : mE := (6, false, yX6_readsFive, cX6_readsFive, 3, (some .boolean))
def eX6_readsNumber : mE := (6, false, yX6_readsNumber, cX6_readsNumber, 4, (some .boolean))
def eX6_isIn : mE := (6, false, yX6_isIn, cX6_isIn, 3, (some .boolean))
def eX6_readsKind : mE := (6, false, yX6_readsKind, cX6_readsKind, 1, (some .boolean))
def eX6_kindBy : mE := (6, false, yX6_kindBy, cX6_kindBy, 1, (some .int))
def eX6_lays : mE := (6, false, yX6_lays, cX6_lays, 3, none)
def eX6_isDone : mE := (6, false, yX6_isDone, cX6_isDone, 5, (some .boolean))
def eX6_of : mE := (6, false, yX6_of, cX6_of, 2, (some .int))
def eX6_isKey : mE := (6, false, yX6_isKey, cX6_isKey, 2, (some .boolean))
def eX6_isSnapped : mE := (6, false, yX6_isSnapped, cX6_isSnapped, 2, (some .boolean))
def eX6_isMachine : mE := (6, false, yX6_isMachine, cX6_isMachine, 2, (some .boolean))
def eX6_cuts : mE := (6, false, yX6_cuts, cX6_cuts, 4, (some .int))
def eX6_takes : mE := (6, false, yX6_takes, cX6_takes, 3, none)
def eX6_cutsBy : mE := (6, false, yX6_cutsBy, cX6_cutsBy, 3, none)
def eX6_cutsIn : mE := (6, false, yX6_cutsIn, cX6_cutsIn, 4, none)
def eX6_cutBy : mE := (6, false, yX6_cutBy, cX6_cutBy, 4, (some .int))
def eX6_held : mE := (6, false, yX6_held, cX6_held, 1, (some .int))
def eX6_least : mE := (6, false, yX6_least, cX6_least, 2, (some .int))
def eX6_most : mE := (6, false, yX6_most, cX6_most, 2, (some .int))
def eX6_round : mE := (6, false, yX6_round, cX6_round, 1, (some .int))
def eX6_used : mE := (6, false, yX6_used, cX6_used, 4, none)
def eX6_pin : mE := (6, false, yX6_pin, cX6_pin, 2, (some .int))
def eX6_isTooth : mE := (6, false, yX6_isTooth, cX6_isTooth, 1, (some .boolean))
def eX6_key : mE := (6, false, yX6_key, cX6_key, 3, (some .int))
def eX6_opens : mE := (6, false, yX6_opens, cX6_opens, 2, (some .boolean))
def eX6_opensIn : mE := (6, false, yX6_opensIn, cX6_opensIn, 1, (some .boolean))
def eX6_fitIn : mE := (6, false, yX6_fitIn, cX6_fitIn, 3, (some .int))
def eX6_apart : mE := (6, false, yX6_apart, cX6_apart, 2, (some .int))
def eX6_wiggleOf : mE := (6, false, yX6_wiggleOf, cX6_wiggleOf, 2, (some .int))
def eX6_wiggle : mE := (6, false, yX6_wiggle, cX6_wiggle, 3, (some .int))
def eX6_worstOf : mE := (6, false, yX6_worstOf, cX6_worstOf, 4, (some .int))
def eX6_machine : mE := (6, false, yX6_machine, cX6_machine, 3, (some .int))
def eX6_sets : mE := (6, false, yX6_sets, cX6_sets, 5, (some .int))
def eX6_wrong : mE := (6, false, yX6_wrong, cX6_wrong, 2, (some .int))
def eX6_slack : mE := (6, false, yX6_slack, cX6_slack, 4, (some .int))
def eX6_files : mE := (6, false, yX6_files, cX6_files, 6, (some .int))
def eX6_turn : mE := (6, false, yX6_turn, cX6_turn, 6, (some .int))
def eX6_cut : mE := (6, false, yX6_cut, cX6_cut, 3, (some .int))
def eX6_uses : mE := (6, false, yX6_uses, cX6_uses, 3, (some .int))
def eX6_snaps : mE := (6, false, yX6_snaps, cX6_snaps, 4, (some .int))
def eX6_opening : mE := (6, false, yX6_opening, cX6_opening, 3, (some .int))
def eX6_family : mE := (6, false, yX6_family, cX6_family, 6, (some .int))
def eX6_depthOf : mE := (6, false, yX6_depthOf, cX6_depthOf, 4, (some .int))
def eX6_fromOf : mE := (6, false, yX6_fromOf, cX6_fromOf, 2, (some .int))
def eX6_heirs : mE := (6, false, yX6_heirs, cX6_heirs, 4, (some .int))
def eX6_isHeir : mE := (6, false, yX6_isHeir, cX6_isHeir, 4, (some .boolean))
def eX6_common : mE := (6, false, yX6_common, cX6_common, 4, (some .int))
def eX6_nearest : mE := (6, false, yX6_nearest, cX6_nearest, 3, (some .int))
def eX6_next : mE := (6, false, yX6_next, cX6_next, 6, (some .int))
def eX6_inRow : mE := (6, false, yX6_inRow, cX6_inRow, 6, (some .int))
def eX6_lasts : mE := (6, false, yX6_lasts, cX6_lasts, 5, (some .int))
def eX6_fit : mE := (6, false, yX6_fit, cX6_fit, 2, (some .int))
def eX6_anew : mE := (6, false, yX6_anew, cX6_anew, 6, (some .int))
def eX6_anewOf : mE := (6, false, yX6_anewOf, cX6_anewOf, 7, (some .int))
def eX6_first : mE := (6, false, yX6_first, cX6_first, 4, (some .int))
def eX6_wrongSet : mE := (6, false, yX6_wrongSet, cX6_wrongSet, 2, (some .int))
def eX6_middle : mE := (6, false, yX6_middle, cX6_middle, 7, (some .int))
def eX6_bits : mE := (6, false, yX6_bits, cX6_bits, 3, (some .int))
def eX6_code : mE := (6, false, yX6_code, cX6_code, 1, (some .int))
def eX6_unlike : mE := (6, false, yX6_unlike, cX6_unlike, 6, (some .int))
def eX6_mend : mE := (6, false, yX6_mend, cX6_mend, 4, (some .int))
def eX6_noFar : mE := (6, false, yX6_noFar, cX6_noFar, 2, (some .int))
def eX6_line : mE := (6, false, yX6_line, cX6_line, 2, (some .int))
def eX6_lineOf : mE := (6, false, yX6_lineOf, cX6_lineOf, 4, (some .int))
def eX6_bestLine : mE := (6, false, yX6_bestLine, cX6_bestLine, 3, (some .int))
def eX6_ask : mE := (6, false, yX6_ask, cX6_ask, 6, (some .int))
def eX6_spare : mE := (6, false, yX6_spare, cX6_spare, 7, (some .int))
def eX6_slip : mE := (6, true, yX6_slip, cX6_slip, 15, (some .long))
def eX6_noWide : mE := (6, false, yX6_noWide, cX6_noWide, 2, (some .long))
def eX6_partOf : mE := (6, true, yX6_partOf, cX6_partOf, 5, (some .long))
def eX6_gcd : mE := (6, true, yX6_gcd, cX6_gcd, 10, (some .long))
def eX6_two : mE := (6, false, yX6_two, cX6_two, 8, (some .int))
def eX6_lastHeight : mE := (6, false, yX6_lastHeight, cX6_lastHeight, 5, (some .int))
def eX6_which : mE := (6, false, yX6_which, cX6_which, 7, (some .int))
def eX6_isTold : mE := (6, false, yX6_isTold, cX6_isTold, 3, (some .boolean))
def eX6_row : mE := (6, false, yX6_row, cX6_row, 3, (some .int))
def eX6_judge : mE := (6, false, yX6_judge, cX6_judge, 4, (some .int))
def eX6_clear : mE := (6, false, yX6_clear, cX6_clear, 2, (some .int))
def eX6_lots : mE := (6, false, yX6_lots, cX6_lots, 6, (some .int))
def eX6_drawn : mE := (6, false, yX6_drawn, cX6_drawn, 2, (some .int))
def eX6_image : mE := (6, false, yX6_image, cX6_image, 1, (some .int))
def eX6_on : mE := (6, false, yX6_on, cX6_on, 1, (some .int))
def eX6_count : mE := (6, false, yX6_count, cX6_count, 4, (some .int))
def eX6_openMany : mE := (6, false, yX6_openMany, cX6_openMany, 3, (some .int))
def ml0 : List (Nat × Nat × Nat × mE) := [(9, 1, 1, eX0_held), (15, 1, 1, eX0_nearestTen), (18, 1, 2, eJ9_min_7cf53)]
def ml1 : List (Nat × Nat × Nat × mE) := [(9, 1, 2, eX1_elders), (54, 0, 1, eX3_hasKey), (15, 1, 1, eJ6_bitCount_0f7a4), (21, 1, 1, eJ6_numberOfTrailingZeros_0f7a4), (24, 1, 2, eX1_childBits), (41, 1, 1, eJ6_numberOfLeadingZeros_0f7a4), (44, 1, 2, eX1_heirsOf), (47, 0, 0, eX3_openingBits), (51, 0, 1, eX3_leastWiggleOf), (37, 2, 2, eX5_holds)]
def ml2 : List (Nat × Nat × Nat × mE) := [(60, 0, 2, eX2_takeKey), (28, 3, 5, eJ9_abs_0f7a4), (64, 0, 2, eX2_cutCopyBy), (46, 0, 2, eX2_cutCopy), (34, 1, 4, eX0_cutHeight), (67, 0, 1, eX3_wiggleOf), (71, 0, 1, eX3_fits), (75, 0, 1, eX3_leastTooFar), (78, 0, 3, eX2_opensWorn), (82, 1, 2, eX3_wornHeight), (89, 1, 2, eX3_wornPin), (92, 1, 1, eJ9_abs_0f7a4), (105, 0, 2, eX2_pinAnew), (101, 0, 3, eX2_wholeKeysWithin), (109, 0, 3, eX2_teethWithin), (113, 0, 3, eX2_middleHeight), (123, 1, 1, eJ6_bitCount_0f7a4), (116, 1, 1, eX0_codeOf), (128, 0, 3, eX2_codeOfSet), (131, 0, 0, eX3_snappedBits), (135, 0, 0, eX3_allKeysBits), (138, 0, 2, eX2_isEnough), (142, 0, 1, eX3_opens), (146, 0, 5, eX2_lastCopyFits), (154, 0, 5, eX2_isSteady), (157, 0, 5, eX2_cutTwice), (161, 0, 3, eX3_cutBy), (165, 0, 5, eX2_cutsSo), (169, 0, 1, eX2_drawBelow), (119, 2, 2, eX5_holds), (150, 2, 2, eX5_power)]
def ml3 : List (Nat × Nat × Nat × mE) := [(52, 3, 5, eJ9_abs_0f7a4), (58, 0, 1, eX3_hasKey), (62, 0, 1, eX3_hasMachine), (65, 0, 1, eX3_addKey), (69, 0, 3, eX3_cutBy), (73, 1, 4, eX0_cutHeight), (79, 1, 2, eX3_wornHeight), (86, 1, 2, eJ9_max_7cf53), (83, 1, 2, eX3_wornPin), (91, 0, 1, eX3_fits), (95, 0, 1, eX3_leastTooFar), (99, 1, 1, eJ9_abs_0f7a4), (102, 0, 1, eX3_opens), (105, 0, 0, eX3_allKeysBits), (109, 0, 0, eX3_snappedBits), (112, 0, 1, eX3_leastWiggleOf), (119, 0, 1, eX3_wiggleOf), (115, 2, 2, eX5_holds)]
def ml4 : List (Nat × Nat × Nat × mE) := [(19, 1, 1, eX4_shapeBehind), (23, 0, 0, eJ0_isEmpty_aae02), (29, 0, 0, eJ0_length_8abf5), (33, 0, 1, eJ0_charAt_5068e), (37, 1, 2, eX4_fitsShape), (122, 0, 1, eJ0_indexOf_0f7a4), (41, 0, 2, eX4_happens), (45, 0, 1, eX4_digitAt), (49, 0, 1, eX4_letterAt), (110, 1, 2, eJ9_min_7cf53), (115, 1, 2, eJ9_max_7cf53), (57, 0, 2, eX4_readFive), (79, 0, 1, eX4_twoDigitsAt), (61, 0, 2, eX4_keyComes), (92, 0, 1, eX3_addKey), (64, 0, 1, eX4_kindAt), (67, 0, 2, eX3_addMachine), (71, 0, 1, eX3_hasWholeKey), (75, 0, 2, eX3_addCopy), (82, 1, 3, eX4_isUsed), (102, 0, 2, eX3_wear), (89, 1, 2, eX4_isSnapped)]
def ml5 : List (Nat × Nat × Nat × mE) := [(51, 0, 1, eX5_refuse), (55, 0, 0, eX4_isFull), (59, 0, 1, eX4_take), (62, 0, 0, eX4_misshapenPlace), (66, 0, 1, eX3_becomes), (70, 0, 1, eX4_happenIn), (74, 0, 0, eX4_forget), (77, 1, 1, eX5_isTooth), (84, 0, 1, eX3_hasKey), (98, 0, 1, eX3_opens), (101, 0, 1, eX3_wiggleOf), (105, 0, 1, eX3_worstTooth), (108, 0, 1, eX3_hasMachine), (111, 1, 1, eX5_isZeroOrOne), (120, 1, 3, eX5_outside), (130, 0, 2, eX3_addCopy), (137, 0, 2, eX3_wear), (141, 0, 0, eX3_snappedBits), (144, 1, 1, eJ6_bitCount_0f7a4), (149, 0, 0, eX3_openingBits), (152, 1, 2, eX1_depthOf), (158, 1, 2, eX1_rootOf), (161, 1, 2, eX1_childrenOf), (164, 1, 2, eX1_heirsOf), (167, 1, 3, eX1_commonOf), (171, 0, 0, eX3_nearestKey), (174, 0, 2, eX2_bestNext), (178, 0, 3, eX2_copiesThatOpen), (181, 0, 3, eX2_toothThatGoesFirst), (184, 0, 2, eX2_usesTillShut), (187, 1, 1, eJ9_abs_0f7a4), (192, 0, 1, eX2_openAnew), (195, 0, 2, eX2_pinAnew), (198, 0, 0, eX3_allKeysBits), (201, 0, 3, eX2_codeOfSet), (204, 0, 3, eX2_unlikeTeeth), (208, 0, 2, eX2_lessByMending), (211, 1, 2, eX1_openHeirsOf), (214, 1, 1, eX1_bestRoot), (217, 1, 2, eX1_whomToAsk), (220, 0, 1, eX2_fewestEnough), (225, 0, 5, eX2_waysToOpen), (229, 1, 2, eX5_power), (233, 1, 2, eX5_greatestDivisor), (237, 1, 2, eJ9_max_f86c9), (240, 0, 3, eX2_steadyPair), (243, 0, 3, eX2_machinesThatCut), (247, 0, 4, eX2_kindsThatCut), (251, 0, 1, eX5_firstToldWrong), (257, 0, 4, eX2_drawLots), (261, 0, 0, eX4_size)]
def ml6 : List (Nat × Nat × Nat × mE) := [(35, 0, 1, eX6_no), (132, 0, 0, eX6_readsStatement), (101, 0, 0, eX6_here), (111, 0, 0, eX6_readsFive), (107, 0, 2, eX6_readsNumber), (41, 1, 3, eX6_isIn), (114, 0, 0, eX6_readsKind), (104, 1, 1, eX6_kindBy), (135, 1, 2, eX6_lays), (139, 0, 1, eX6_isDone), (45, 1, 2, eX6_of), (120, 0, 1, eX6_isKey), (83, 0, 1, eX6_isSnapped), (123, 0, 1, eX6_isMachine), (126, 0, 2, eX6_cuts), (76, 0, 1, eX6_takes), (117, 0, 2, eX6_cutsBy), (65, 0, 2, eX6_cutsIn), (61, 1, 4, eX6_cutBy), (55, 1, 1, eX6_held), (49, 1, 2, eX6_least), (52, 1, 2, eX6_most), (58, 1, 1, eX6_round), (129, 0, 2, eX6_used), (142, 1, 1, eX6_isTooth), (91, 0, 1, eX6_opens), (87, 0, 0, eX6_opensIn), (72, 0, 0, eX6_fitIn), (69, 1, 2, eX6_apart), (145, 0, 1, eX6_wiggleOf), (80, 0, 0, eX6_wiggle), (148, 0, 1, eX6_worstOf), (151, 1, 2, eX6_wrong), (160, 0, 1, eX6_depthOf), (154, 0, 1, eX6_fromOf), (163, 0, 1, eX6_heirs), (157, 0, 2, eX6_isHeir), (166, 0, 1, eX6_anewOf), (172, 0, 1, eX6_wrongSet), (175, 0, 2, eX6_middle), (169, 1, 1, eX6_bits), (178, 1, 1, eX6_code), (181, 0, 1, eX6_noFar), (184, 0, 1, eX6_lineOf), (191, 0, 1, eX6_noWide), (195, 1, 3, eX6_partOf), (187, 1, 2, eX6_gcd), (199, 0, 4, eX6_lastHeight), (205, 0, 0, eX6_isTold), (214, 0, 1, eX6_drawn), (221, 0, 0, eX6_openMany)]
def ml10 : List (Nat × Nat × Nat × mE) := [(335, 0, 0, eJ0_coder_7d493), (492, 0, 0, eJ0_isLatin1_aae02), (495, 1, 2, eJ1_charAt_3b067), (1059, 1, 3, eJ3_checkIndex_8e157), (633, 0, 2, eJ0_indexOf_7cf53), (505, 0, 0, eJ0_length_8abf5), (637, 1, 4, eJ1_indexOf_4cfef)]
def ml11 : List (Nat × Nat × Nat × mE) := [(9, 1, 2, eJ0_checkIndex_df160), (88, 1, 1, eJ1_canEncode_9a6ad), (92, 1, 2, eJ9_max_7cf53), (38, 1, 2, eJ9_min_7cf53), (95, 1, 4, eJ1_indexOfChar_4cfef)]
def mlL : Nat → List (Nat × Nat × Nat × mE)
  | 0 => ml0
  | 1 => ml1
  | 2 => ml2
  | 3 => ml3
  | 4 => ml4
  | 5 => ml5
  | 6 => ml6
  | 10 => ml10
  | 11 => ml11
  | _ => []
def fl1 : List (Nat × Nat × Nat × Nat) := [(27, 3, 2, 0), (33, 3, 4, 2)]
def fl2 : List (Nat × Nat × Nat × Nat) := [(86, 3, 0, 2), (98, 3, 1, 0), (50, 3, 2, 0), (22, 3, 3, 2), (56, 3, 5, 2), (53, 3, 6, 0), (40, 3, 7, 2), (43, 3, 8, 2), (9, 2, 0, 2), (15, 2, 1, 2), (18, 2, 2, 0)]
def fl3 : List (Nat × Nat × Nat × Nat) := [(9, 3, 0, 2), (21, 3, 1, 0), (25, 3, 2, 0), (30, 3, 3, 2), (33, 3, 4, 2), (36, 3, 5, 2), (40, 3, 6, 0), (43, 3, 7, 2), (46, 3, 8, 2), (49, 3, 9, 0)]
def fl4 : List (Nat × Nat × Nat × Nat) := [(52, 3, 0, 2), (86, 3, 1, 0), (95, 3, 3, 2), (106, 3, 5, 2), (99, 3, 9, 0), (9, 4, 0, 2), (15, 4, 1, 0)]
def fl5 : List (Nat × Nat × Nat × Nat) := [(81, 3, 0, 2), (124, 3, 1, 0), (127, 3, 2, 0), (87, 3, 3, 2), (91, 3, 4, 2), (94, 3, 5, 2), (254, 3, 6, 0), (114, 3, 7, 2), (117, 3, 8, 2), (134, 3, 9, 0), (10, 5, 0, 2), (16, 5, 1, 2), (19, 5, 2, 2), (22, 5, 3, 1), (29, 5, 4, 2), (36, 5, 5, 2), (40, 5, 6, 2), (44, 5, 7, 0), (48, 5, 8, 2)]
def fl6 : List (Nat × Nat × Nat × Nat) := [(9, 6, 0, 2), (13, 6, 1, 2), (16, 6, 2, 2), (217, 6, 3, 1), (19, 6, 4, 2), (22, 6, 5, 2), (25, 6, 6, 2), (94, 6, 7, 0), (202, 6, 8, 0), (28, 6, 9, 2), (98, 6, 10, 0), (31, 6, 11, 2), (208, 6, 12, 0)]
def fl10 : List (Nat × Nat × Nat × Nat) := [(9, 10, 0, 2), (15, 10, 1, 3)]
def flL : Nat → List (Nat × Nat × Nat × Nat)
  | 1 => fl1
  | 2 => fl2
  | 3 => fl3
  | 4 => fl4
  | 5 => fl5
  | 6 => fl6
  | 10 => fl10
  | _ => []
def cl2 : List (Nat × Value) := [(172, .int 1664525), (173, .int 1013904223), (174, .int 2147483647)]
def cl4 : List (Nat × Value) := [(125, .ref 100), (127, .ref 101), (129, .ref 102), (131, .ref 103), (133, .ref 104), (135, .ref 105), (120, .ref 106)]
def cl5 : List (Nat × Value) := [(207, .int 1000000000), (223, .long 4000000000000000000)]
def cl6 : List (Nat × Value) := [(34, .int 1000000000), (211, .int 1664525), (212, .int 1013904223), (213, .int 2147483647), (39, .long 4000000000000000000)]
def cl16 : List (Nat × Value) := [(265, .int 1431655765), (266, .int 858993459), (267, .int 252645135), (264, .int 65536)]
def clL : Nat → List (Nat × Value)
  | 2 => cl2
  | 4 => cl4
  | 5 => cl5
  | 6 => cl6
  | 16 => cl16
  | _ => []
def mlk (c i : Nat) : Option (Nat × Nat × Nat × mE) := (mlL c).find? (fun q => q.1 == i)
def flk (c i : Nat) : Option (Nat × Nat × Nat × Nat) := (flL c).find? (fun q => q.1 == i)
def clk (c i : Nat) : Option (Nat × Value) := (clL c).find? (fun q => q.1 == i)
end
section
set_option maxRecDepth 100000 in
theorem tt_211 : lw_tbl[211]? = some (.code yX5_letter cX5_letter 2 (some .int)) := rfl
set_option maxRecDepth 100000 in
theorem tt_265 : lw_tbl[265]? = some (.code yJ1_charAt_3b067 cJ1_charAt_3b067 2 (some .char)) := rfl
set_option maxRecDepth 100000 in
theorem tt_366 : lw_tbl[366]? = some (.code yX4_happenIn cX4_happenIn 4 (some .int)) := rfl
set_option maxRecDepth 100000 in
theorem tt_416 : lw_tbl[416]? = some (.code yX3_addCopy cX3_addCopy 5 (some .int)) := rfl
set_option maxRecDepth 100000 in
theorem tt_460 : lw_tbl[460]? = some (.code yX5_pin cX5_pin 2 (some .int)) := rfl
set_option maxRecDepth 100000 in
theorem tt_506 : lw_tbl[506]? = some (.code yX5_outside cX5_outside 3 (some .int)) := rfl
set_option maxRecDepth 100000 in
theorem tt_558 : lw_tbl[558]? = some (.code yX1_depthOf cX1_depthOf 2 (some .int)) := rfl
set_option maxRecDepth 100000 in
theorem tt_600 : lw_tbl[600]? = some (.code yX3_nearestKey cX3_nearestKey 1 (some .int)) := rfl
set_option maxRecDepth 100000 in
theorem tt_656 : lw_tbl[656]? = some (.code yX2_usesTillShut cX2_usesTillShut 4 (some .int)) := rfl
set_option maxRecDepth 100000 in
theorem tt_712 : lw_tbl[712]? = some (.code yX5_unlike cX5_unlike 4 (some .int)) := rfl
set_option maxRecDepth 100000 in
theorem tt_764 : lw_tbl[764]? = some (.code yX2_isEnough cX2_isEnough 5 (some .boolean)) := rfl
set_option maxRecDepth 100000 in
theorem tt_813 : lw_tbl[813]? = some (.code yX2_machinesThatCut cX2_machinesThatCut 6 (some .int)) := rfl
set_option maxRecDepth 100000 in
theorem tt_864 : lw_tbl[864]? = some (.code yX5_count cX5_count 2 (some .int)) := rfl
set_option maxRecDepth 100000 in
theorem tt_955 : lw_tbl[955]? = some (.code yX6_lays cX6_lays 3 none) := rfl
set_option maxRecDepth 100000 in
theorem tt_999 : lw_tbl[999]? = some (.code yX6_least cX6_least 2 (some .int)) := rfl
set_option maxRecDepth 100000 in
theorem tt_1043 : lw_tbl[1043]? = some (.code yX6_wiggle cX6_wiggle 3 (some .int)) := rfl
set_option maxRecDepth 100000 in
theorem tt_1090 : lw_tbl[1090]? = some (.code yX6_family cX6_family 6 (some .int)) := rfl
set_option maxRecDepth 100000 in
theorem tt_1139 : lw_tbl[1139]? = some (.code yX6_anewOf cX6_anewOf 7 (some .int)) := rfl
set_option maxRecDepth 100000 in
theorem tt_1185 : lw_tbl[1185]? = some (.code yX6_ask cX6_ask 6 (some .int)) := rfl
set_option maxRecDepth 100000 in
theorem tt_1232 : lw_tbl[1232]? = some (.code yX6_clear cX6_clear 2 (some .int)) := rfl
theorem tu_209 : lw_tbl[209]? = some (.instanceMethod yX5_letter) := by decide +kernel
theorem tu_264 : lw_tbl[264]? = some (.static yJ1_charAt_3b067) := by decide +kernel
theorem tu_364 : lw_tbl[364]? = some (.instanceMethod yX4_happenIn) := by decide +kernel
theorem tu_414 : lw_tbl[414]? = some (.instanceMethod yX3_addCopy) := by decide +kernel
end
