section
-- ===== PART A: goes FIRST, ahead of the names: the tables' words, and 'selects' of the private methods out of them =====
/-- a private method of a class that the tables say can be made, by its rows of tables_1 -/
def lw_okq (q : MethodName × Nat) : Prop := (q.1.cls ≠ "java/lang/invoke/MethodHandle" ∧ q.1.cls ≠ "java/lang/invoke/VarHandle") ∧ Cond.instantiable q.1.cls q.2 ∈ tables_1 ∧ Cond.privateMethod q.1 ∈ tables_1 ∧ Cond.instanceMethod q.1 ∈ tables_1
theorem lw_p0 : lw_okq (⟨"SlackProofs", "found", "(I)I"⟩, 8) := ⟨⟨by decide +kernel, by decide +kernel⟩, List.mem_of_getElem? (i := 15) (by decide +kernel), List.mem_of_getElem? (i := 265) (by decide +kernel), List.mem_of_getElem? (i := 266) (by decide +kernel)⟩
theorem lw_p1 : lw_okq (⟨"SlackProofs", "well", "(I)I"⟩, 8) := ⟨⟨by decide +kernel, by decide +kernel⟩, List.mem_of_getElem? (i := 15) (by decide +kernel), List.mem_of_getElem? (i := 274) (by decide +kernel), List.mem_of_getElem? (i := 275) (by decide +kernel)⟩
theorem lw_p2 : lw_okq (⟨"SlackProofs", "stepRefusal", "(Z)I"⟩, 8) := ⟨⟨by decide +kernel, by decide +kernel⟩, List.mem_of_getElem? (i := 15) (by decide +kernel), List.mem_of_getElem? (i := 412) (by decide +kernel), List.mem_of_getElem? (i := 413) (by decide +kernel)⟩
theorem lw_p3 : lw_okq (⟨"SlackProofs", "comes", "(I)I"⟩, 8) := ⟨⟨by decide +kernel, by decide +kernel⟩, List.mem_of_getElem? (i := 15) (by decide +kernel), List.mem_of_getElem? (i := 439) (by decide +kernel), List.mem_of_getElem? (i := 440) (by decide +kernel)⟩
theorem lw_p4 : lw_okq (⟨"SlackProofs", "claimOfTape", "(I)I"⟩, 8) := ⟨⟨by decide +kernel, by decide +kernel⟩, List.mem_of_getElem? (i := 15) (by decide +kernel), List.mem_of_getElem? (i := 495) (by decide +kernel), List.mem_of_getElem? (i := 496) (by decide +kernel)⟩
theorem lw_p5 : lw_okq (⟨"SlackProofs", "bestOfAll", "(I)I"⟩, 8) := ⟨⟨by decide +kernel, by decide +kernel⟩, List.mem_of_getElem? (i := 15) (by decide +kernel), List.mem_of_getElem? (i := 667) (by decide +kernel), List.mem_of_getElem? (i := 668) (by decide +kernel)⟩
theorem lw_p6 : lw_okq (⟨"SlackProofsModel", "found", "(I)I"⟩, 28) := ⟨⟨by decide +kernel, by decide +kernel⟩, List.mem_of_getElem? (i := 802) (by decide +kernel), List.mem_of_getElem? (i := 907) (by decide +kernel), List.mem_of_getElem? (i := 908) (by decide +kernel)⟩
theorem lw_p7 : lw_okq (⟨"SlackProofsModel", "well", "(I)I"⟩, 28) := ⟨⟨by decide +kernel, by decide +kernel⟩, List.mem_of_getElem? (i := 802) (by decide +kernel), List.mem_of_getElem? (i := 912) (by decide +kernel), List.mem_of_getElem? (i := 913) (by decide +kernel)⟩
theorem lw_p8 : lw_okq (⟨"SlackProofsModel", "isMissing", "(I)Z"⟩, 28) := ⟨⟨by decide +kernel, by decide +kernel⟩, List.mem_of_getElem? (i := 802) (by decide +kernel), List.mem_of_getElem? (i := 920) (by decide +kernel), List.mem_of_getElem? (i := 921) (by decide +kernel)⟩
theorem lw_p9 : lw_okq (⟨"SlackProofsModel", "isPart", "(III)Z"⟩, 28) := ⟨⟨by decide +kernel, by decide +kernel⟩, List.mem_of_getElem? (i := 802) (by decide +kernel), List.mem_of_getElem? (i := 931) (by decide +kernel), List.mem_of_getElem? (i := 932) (by decide +kernel)⟩
theorem lw_p10 : lw_okq (⟨"SlackProofsModel", "begins", "()V"⟩, 28) := ⟨⟨by decide +kernel, by decide +kernel⟩, List.mem_of_getElem? (i := 802) (by decide +kernel), List.mem_of_getElem? (i := 948) (by decide +kernel), List.mem_of_getElem? (i := 949) (by decide +kernel)⟩
theorem lw_p11 : lw_okq (⟨"SlackProofsModel", "advances", "()V"⟩, 28) := ⟨⟨by decide +kernel, by decide +kernel⟩, List.mem_of_getElem? (i := 802) (by decide +kernel), List.mem_of_getElem? (i := 952) (by decide +kernel), List.mem_of_getElem? (i := 953) (by decide +kernel)⟩
theorem lw_p12 : lw_okq (⟨"SlackProofsModel", "byteAt", "(I)I"⟩, 28) := ⟨⟨by decide +kernel, by decide +kernel⟩, List.mem_of_getElem? (i := 802) (by decide +kernel), List.mem_of_getElem? (i := 956) (by decide +kernel), List.mem_of_getElem? (i := 957) (by decide +kernel)⟩
theorem lw_p13 : lw_okq (⟨"SlackProofsModel", "isWell", "()Z"⟩, 28) := ⟨⟨by decide +kernel, by decide +kernel⟩, List.mem_of_getElem? (i := 802) (by decide +kernel), List.mem_of_getElem? (i := 961) (by decide +kernel), List.mem_of_getElem? (i := 962) (by decide +kernel)⟩
theorem lw_p14 : lw_okq (⟨"SlackProofsModel", "takes", "(ZI)I"⟩, 28) := ⟨⟨by decide +kernel, by decide +kernel⟩, List.mem_of_getElem? (i := 802) (by decide +kernel), List.mem_of_getElem? (i := 965) (by decide +kernel), List.mem_of_getElem? (i := 966) (by decide +kernel)⟩
theorem lw_p15 : lw_okq (⟨"SlackProofsModel", "readsClause", "()V"⟩, 28) := ⟨⟨by decide +kernel, by decide +kernel⟩, List.mem_of_getElem? (i := 802) (by decide +kernel), List.mem_of_getElem? (i := 969) (by decide +kernel), List.mem_of_getElem? (i := 970) (by decide +kernel)⟩
def lw_privs_1 : List (MethodName × Nat) := [(⟨"SlackProofs", "found", "(I)I"⟩, 8), (⟨"SlackProofs", "well", "(I)I"⟩, 8), (⟨"SlackProofs", "stepRefusal", "(Z)I"⟩, 8), (⟨"SlackProofs", "comes", "(I)I"⟩, 8), (⟨"SlackProofs", "claimOfTape", "(I)I"⟩, 8), (⟨"SlackProofs", "bestOfAll", "(I)I"⟩, 8), (⟨"SlackProofsModel", "found", "(I)I"⟩, 28), (⟨"SlackProofsModel", "well", "(I)I"⟩, 28), (⟨"SlackProofsModel", "isMissing", "(I)Z"⟩, 28), (⟨"SlackProofsModel", "isPart", "(III)Z"⟩, 28), (⟨"SlackProofsModel", "begins", "()V"⟩, 28), (⟨"SlackProofsModel", "advances", "()V"⟩, 28), (⟨"SlackProofsModel", "byteAt", "(I)I"⟩, 28), (⟨"SlackProofsModel", "isWell", "()Z"⟩, 28), (⟨"SlackProofsModel", "takes", "(ZI)I"⟩, 28), (⟨"SlackProofsModel", "readsClause", "()V"⟩, 28)]
theorem lw_r1 : ∀ q ∈ lw_privs_1, lw_okq q := List.forall_mem_cons.mpr ⟨lw_p0, List.forall_mem_cons.mpr ⟨lw_p1, List.forall_mem_cons.mpr ⟨lw_p2, List.forall_mem_cons.mpr ⟨lw_p3, List.forall_mem_cons.mpr ⟨lw_p4, List.forall_mem_cons.mpr ⟨lw_p5, List.forall_mem_cons.mpr ⟨lw_p6, List.forall_mem_cons.mpr ⟨lw_p7, List.forall_mem_cons.mpr ⟨lw_p8, List.forall_mem_cons.mpr ⟨lw_p9, List.forall_mem_cons.mpr ⟨lw_p10, List.forall_mem_cons.mpr ⟨lw_p11, List.forall_mem_cons.mpr ⟨lw_p12, List.forall_mem_cons.mpr ⟨lw_p13, List.forall_mem_cons.mpr ⟨lw_p14, List.forall_mem_cons.mpr ⟨lw_p15, fun _ h => absurd h List.not_mem_nil⟩⟩⟩⟩⟩⟩⟩⟩⟩⟩⟩⟩⟩⟩⟩⟩
theorem lw_p16 : lw_okq (⟨"SlackProofsModel", "isTerm", "()Z"⟩, 28) := ⟨⟨by decide +kernel, by decide +kernel⟩, List.mem_of_getElem? (i := 802) (by decide +kernel), List.mem_of_getElem? (i := 973) (by decide +kernel), List.mem_of_getElem? (i := 974) (by decide +kernel)⟩
theorem lw_p17 : lw_okq (⟨"SlackProofsModel", "variable", "(I)I"⟩, 28) := ⟨⟨by decide +kernel, by decide +kernel⟩, List.mem_of_getElem? (i := 802) (by decide +kernel), List.mem_of_getElem? (i := 977) (by decide +kernel), List.mem_of_getElem? (i := 978) (by decide +kernel)⟩
theorem lw_p18 : lw_okq (⟨"SlackProofsModel", "figure", "(II)I"⟩, 28) := ⟨⟨by decide +kernel, by decide +kernel⟩, List.mem_of_getElem? (i := 802) (by decide +kernel), List.mem_of_getElem? (i := 984) (by decide +kernel), List.mem_of_getElem? (i := 985) (by decide +kernel)⟩
theorem lw_p19 : lw_okq (⟨"SlackProofsModel", "behind", "(II)I"⟩, 28) := ⟨⟨by decide +kernel, by decide +kernel⟩, List.mem_of_getElem? (i := 802) (by decide +kernel), List.mem_of_getElem? (i := 988) (by decide +kernel), List.mem_of_getElem? (i := 989) (by decide +kernel)⟩
theorem lw_p20 : lw_okq (⟨"SlackProofsModel", "must", "(Z)V"⟩, 28) := ⟨⟨by decide +kernel, by decide +kernel⟩, List.mem_of_getElem? (i := 802) (by decide +kernel), List.mem_of_getElem? (i := 995) (by decide +kernel), List.mem_of_getElem? (i := 996) (by decide +kernel)⟩
theorem lw_p21 : lw_okq (⟨"SlackProofsModel", "isFormula", "()Z"⟩, 28) := ⟨⟨by decide +kernel, by decide +kernel⟩, List.mem_of_getElem? (i := 802) (by decide +kernel), List.mem_of_getElem? (i := 1008) (by decide +kernel), List.mem_of_getElem? (i := 1009) (by decide +kernel)⟩
theorem lw_p22 : lw_okq (⟨"SlackProofsModel", "isLive", "(I)Z"⟩, 28) := ⟨⟨by decide +kernel, by decide +kernel⟩, List.mem_of_getElem? (i := 802) (by decide +kernel), List.mem_of_getElem? (i := 1013) (by decide +kernel), List.mem_of_getElem? (i := 1014) (by decide +kernel)⟩
theorem lw_p23 : lw_okq (⟨"SlackProofsModel", "isFull", "()Z"⟩, 28) := ⟨⟨by decide +kernel, by decide +kernel⟩, List.mem_of_getElem? (i := 802) (by decide +kernel), List.mem_of_getElem? (i := 1017) (by decide +kernel), List.mem_of_getElem? (i := 1018) (by decide +kernel)⟩
theorem lw_p24 : lw_okq (⟨"SlackProofsModel", "takesClause", "(I)V"⟩, 28) := ⟨⟨by decide +kernel, by decide +kernel⟩, List.mem_of_getElem? (i := 802) (by decide +kernel), List.mem_of_getElem? (i := 1022) (by decide +kernel), List.mem_of_getElem? (i := 1023) (by decide +kernel)⟩
theorem lw_p25 : lw_okq (⟨"SlackProofsModel", "comes", "(I)I"⟩, 28) := ⟨⟨by decide +kernel, by decide +kernel⟩, List.mem_of_getElem? (i := 802) (by decide +kernel), List.mem_of_getElem? (i := 1030) (by decide +kernel), List.mem_of_getElem? (i := 1031) (by decide +kernel)⟩
theorem lw_p26 : lw_okq (⟨"SlackProofsModel", "notes", "()V"⟩, 28) := ⟨⟨by decide +kernel, by decide +kernel⟩, List.mem_of_getElem? (i := 802) (by decide +kernel), List.mem_of_getElem? (i := 1034) (by decide +kernel), List.mem_of_getElem? (i := 1035) (by decide +kernel)⟩
theorem lw_p27 : lw_okq (⟨"SlackProofsModel", "isOver", "()Z"⟩, 28) := ⟨⟨by decide +kernel, by decide +kernel⟩, List.mem_of_getElem? (i := 802) (by decide +kernel), List.mem_of_getElem? (i := 1063) (by decide +kernel), List.mem_of_getElem? (i := 1064) (by decide +kernel)⟩
theorem lw_p28 : lw_okq (⟨"SlackProofsModel", "isFollowing", "([JIIZ)Z"⟩, 28) := ⟨⟨by decide +kernel, by decide +kernel⟩, List.mem_of_getElem? (i := 802) (by decide +kernel), List.mem_of_getElem? (i := 1070) (by decide +kernel), List.mem_of_getElem? (i := 1071) (by decide +kernel)⟩
theorem lw_p29 : lw_okq (⟨"SlackProofsModel", "isConflict", "(IZZ)Z"⟩, 28) := ⟨⟨by decide +kernel, by decide +kernel⟩, List.mem_of_getElem? (i := 802) (by decide +kernel), List.mem_of_getElem? (i := 1077) (by decide +kernel), List.mem_of_getElem? (i := 1078) (by decide +kernel)⟩
theorem lw_p30 : lw_okq (⟨"SlackProofsModel", "forces", "([JI)I"⟩, 28) := ⟨⟨by decide +kernel, by decide +kernel⟩, List.mem_of_getElem? (i := 802) (by decide +kernel), List.mem_of_getElem? (i := 1081) (by decide +kernel), List.mem_of_getElem? (i := 1082) (by decide +kernel)⟩
theorem lw_p31 : lw_okq (⟨"SlackProofsModel", "putsAll", "([JII)V"⟩, 28) := ⟨⟨by decide +kernel, by decide +kernel⟩, List.mem_of_getElem? (i := 802) (by decide +kernel), List.mem_of_getElem? (i := 1092) (by decide +kernel), List.mem_of_getElem? (i := 1093) (by decide +kernel)⟩
def lw_privs_2 : List (MethodName × Nat) := [(⟨"SlackProofsModel", "isTerm", "()Z"⟩, 28), (⟨"SlackProofsModel", "variable", "(I)I"⟩, 28), (⟨"SlackProofsModel", "figure", "(II)I"⟩, 28), (⟨"SlackProofsModel", "behind", "(II)I"⟩, 28), (⟨"SlackProofsModel", "must", "(Z)V"⟩, 28), (⟨"SlackProofsModel", "isFormula", "()Z"⟩, 28), (⟨"SlackProofsModel", "isLive", "(I)Z"⟩, 28), (⟨"SlackProofsModel", "isFull", "()Z"⟩, 28), (⟨"SlackProofsModel", "takesClause", "(I)V"⟩, 28), (⟨"SlackProofsModel", "comes", "(I)I"⟩, 28), (⟨"SlackProofsModel", "notes", "()V"⟩, 28), (⟨"SlackProofsModel", "isOver", "()Z"⟩, 28), (⟨"SlackProofsModel", "isFollowing", "([JIIZ)Z"⟩, 28), (⟨"SlackProofsModel", "isConflict", "(IZZ)Z"⟩, 28), (⟨"SlackProofsModel", "forces", "([JI)I"⟩, 28), (⟨"SlackProofsModel", "putsAll", "([JII)V"⟩, 28)]
theorem lw_r2 : ∀ q ∈ lw_privs_2, lw_okq q := List.forall_mem_cons.mpr ⟨lw_p16, List.forall_mem_cons.mpr ⟨lw_p17, List.forall_mem_cons.mpr ⟨lw_p18, List.forall_mem_cons.mpr ⟨lw_p19, List.forall_mem_cons.mpr ⟨lw_p20, List.forall_mem_cons.mpr ⟨lw_p21, List.forall_mem_cons.mpr ⟨lw_p22, List.forall_mem_cons.mpr ⟨lw_p23, List.forall_mem_cons.mpr ⟨lw_p24, List.forall_mem_cons.mpr ⟨lw_p25, List.forall_mem_cons.mpr ⟨lw_p26, List.forall_mem_cons.mpr ⟨lw_p27, List.forall_mem_cons.mpr ⟨lw_p28, List.forall_mem_cons.mpr ⟨lw_p29, List.forall_mem_cons.mpr ⟨lw_p30, List.forall_mem_cons.mpr ⟨lw_p31, fun _ h => absurd h List.not_mem_nil⟩⟩⟩⟩⟩⟩⟩⟩⟩⟩⟩⟩⟩⟩⟩⟩
theorem lw_p32 : lw_okq (⟨"SlackProofsModel", "puts", "(IIJ)V"⟩, 28) := ⟨⟨by decide +kernel, by decide +kernel⟩, List.mem_of_getElem? (i := 802) (by decide +kernel), List.mem_of_getElem? (i := 1096) (by decide +kernel), List.mem_of_getElem? (i := 1097) (by decide +kernel)⟩
theorem lw_p33 : lw_okq (⟨"SlackProofsModel", "allPrices", "()J"⟩, 28) := ⟨⟨by decide +kernel, by decide +kernel⟩, List.mem_of_getElem? (i := 802) (by decide +kernel), List.mem_of_getElem? (i := 1100) (by decide +kernel), List.mem_of_getElem? (i := 1101) (by decide +kernel)⟩
theorem lw_p34 : lw_okq (⟨"SlackProofsModel", "pricesPut", "(I)V"⟩, 28) := ⟨⟨by decide +kernel, by decide +kernel⟩, List.mem_of_getElem? (i := 802) (by decide +kernel), List.mem_of_getElem? (i := 1104) (by decide +kernel), List.mem_of_getElem? (i := 1105) (by decide +kernel)⟩
theorem lw_p35 : lw_okq (⟨"SlackProofsModel", "areHolding", "(I)Z"⟩, 28) := ⟨⟨by decide +kernel, by decide +kernel⟩, List.mem_of_getElem? (i := 802) (by decide +kernel), List.mem_of_getElem? (i := 1112) (by decide +kernel), List.mem_of_getElem? (i := 1113) (by decide +kernel)⟩
theorem lw_p36 : lw_okq (⟨"SlackProofsModel", "isHolding", "(II)Z"⟩, 28) := ⟨⟨by decide +kernel, by decide +kernel⟩, List.mem_of_getElem? (i := 802) (by decide +kernel), List.mem_of_getElem? (i := 1116) (by decide +kernel), List.mem_of_getElem? (i := 1117) (by decide +kernel)⟩
theorem lw_p37 : lw_okq (⟨"SlackProofsModel", "priceOf", "(I)I"⟩, 28) := ⟨⟨by decide +kernel, by decide +kernel⟩, List.mem_of_getElem? (i := 802) (by decide +kernel), List.mem_of_getElem? (i := 1120) (by decide +kernel), List.mem_of_getElem? (i := 1121) (by decide +kernel)⟩
theorem lw_p38 : lw_okq (⟨"SlackProofsModel", "kindIn", "(I)I"⟩, 28) := ⟨⟨by decide +kernel, by decide +kernel⟩, List.mem_of_getElem? (i := 802) (by decide +kernel), List.mem_of_getElem? (i := 1189) (by decide +kernel), List.mem_of_getElem? (i := 1190) (by decide +kernel)⟩
theorem lw_p39 : lw_okq (⟨"SlackProofsModel", "derivedSize", "(I)I"⟩, 28) := ⟨⟨by decide +kernel, by decide +kernel⟩, List.mem_of_getElem? (i := 802) (by decide +kernel), List.mem_of_getElem? (i := 1201) (by decide +kernel), List.mem_of_getElem? (i := 1202) (by decide +kernel)⟩
theorem lw_p40 : lw_okq (⟨"SlackProofsModel", "traces", "(I)V"⟩, 28) := ⟨⟨by decide +kernel, by decide +kernel⟩, List.mem_of_getElem? (i := 802) (by decide +kernel), List.mem_of_getElem? (i := 1205) (by decide +kernel), List.mem_of_getElem? (i := 1206) (by decide +kernel)⟩
theorem lw_p41 : lw_okq (⟨"SlackProofsModel", "variablesOf", "(I)I"⟩, 28) := ⟨⟨by decide +kernel, by decide +kernel⟩, List.mem_of_getElem? (i := 802) (by decide +kernel), List.mem_of_getElem? (i := 1209) (by decide +kernel), List.mem_of_getElem? (i := 1210) (by decide +kernel)⟩
theorem lw_p42 : lw_okq (⟨"SlackProofsModel", "givenSize", "(I)I"⟩, 28) := ⟨⟨by decide +kernel, by decide +kernel⟩, List.mem_of_getElem? (i := 802) (by decide +kernel), List.mem_of_getElem? (i := 1213) (by decide +kernel), List.mem_of_getElem? (i := 1214) (by decide +kernel)⟩
theorem lw_p43 : lw_okq (⟨"SlackProofsModel", "givenMark", "(I)I"⟩, 28) := ⟨⟨by decide +kernel, by decide +kernel⟩, List.mem_of_getElem? (i := 802) (by decide +kernel), List.mem_of_getElem? (i := 1217) (by decide +kernel), List.mem_of_getElem? (i := 1218) (by decide +kernel)⟩
theorem lw_p44 : lw_okq (⟨"SlackProofsModel", "leastOf", "(I)I"⟩, 28) := ⟨⟨by decide +kernel, by decide +kernel⟩, List.mem_of_getElem? (i := 802) (by decide +kernel), List.mem_of_getElem? (i := 1221) (by decide +kernel), List.mem_of_getElem? (i := 1222) (by decide +kernel)⟩
theorem lw_p45 : lw_okq (⟨"SlackProofsModel", "derivedMark", "(I)I"⟩, 28) := ⟨⟨by decide +kernel, by decide +kernel⟩, List.mem_of_getElem? (i := 802) (by decide +kernel), List.mem_of_getElem? (i := 1225) (by decide +kernel), List.mem_of_getElem? (i := 1226) (by decide +kernel)⟩
def lw_privs_3 : List (MethodName × Nat) := [(⟨"SlackProofsModel", "puts", "(IIJ)V"⟩, 28), (⟨"SlackProofsModel", "allPrices", "()J"⟩, 28), (⟨"SlackProofsModel", "pricesPut", "(I)V"⟩, 28), (⟨"SlackProofsModel", "areHolding", "(I)Z"⟩, 28), (⟨"SlackProofsModel", "isHolding", "(II)Z"⟩, 28), (⟨"SlackProofsModel", "priceOf", "(I)I"⟩, 28), (⟨"SlackProofsModel", "kindIn", "(I)I"⟩, 28), (⟨"SlackProofsModel", "derivedSize", "(I)I"⟩, 28), (⟨"SlackProofsModel", "traces", "(I)V"⟩, 28), (⟨"SlackProofsModel", "variablesOf", "(I)I"⟩, 28), (⟨"SlackProofsModel", "givenSize", "(I)I"⟩, 28), (⟨"SlackProofsModel", "givenMark", "(I)I"⟩, 28), (⟨"SlackProofsModel", "leastOf", "(I)I"⟩, 28), (⟨"SlackProofsModel", "derivedMark", "(I)I"⟩, 28)]
theorem lw_r3 : ∀ q ∈ lw_privs_3, lw_okq q := List.forall_mem_cons.mpr ⟨lw_p32, List.forall_mem_cons.mpr ⟨lw_p33, List.forall_mem_cons.mpr ⟨lw_p34, List.forall_mem_cons.mpr ⟨lw_p35, List.forall_mem_cons.mpr ⟨lw_p36, List.forall_mem_cons.mpr ⟨lw_p37, List.forall_mem_cons.mpr ⟨lw_p38, List.forall_mem_cons.mpr ⟨lw_p39, List.forall_mem_cons.mpr ⟨lw_p40, List.forall_mem_cons.mpr ⟨lw_p41, List.forall_mem_cons.mpr ⟨lw_p42, List.forall_mem_cons.mpr ⟨lw_p43, List.forall_mem_cons.mpr ⟨lw_p44, List.forall_mem_cons.mpr ⟨lw_p45, fun _ h => absurd h List.not_mem_nil⟩⟩⟩⟩⟩⟩⟩⟩⟩⟩⟩⟩⟩⟩
def lw_privs : List (MethodName × Nat) := lw_privs_1 ++ (lw_privs_2 ++ (lw_privs_3))
def lw_tbl : List Cond := k2_sels lw_privs ++ tables_1
theorem lw_privs_ok : ∀ q ∈ lw_privs, lw_okq q := by
  show ∀ q ∈ lw_privs_1 ++ (lw_privs_2 ++ (lw_privs_3)), lw_okq q
  exact List.forall_mem_append.mpr ⟨lw_r1, List.forall_mem_append.mpr ⟨lw_r2, lw_r3⟩⟩
end
section
def RX0 : String := "SlackProofs$Acts"
def TX0 : u_T := fun k => match k with
  | 0 => ("SlackProofs$Acts", "used", "[I", true)
  | 1 => ("SlackProofs$Acts", "live", "[I", true)
  | 2 => ("SlackProofs$Acts", "best", "[I", true)
  | 3 => ("SlackProofs$Acts", "oldest", "I", false)
  | _ => ("SlackProofs$Acts", "size", "I", false)
def tyX0 : Nat → FieldType := fun k => match k with
  | 0 => .array .int
  | 1 => .array .int
  | 2 => .array .int
  | 3 => .int
  | _ => .int
abbrev wsX00 : List Cond := u_ws RX0 TX0 5
theorem nmX0 : ∀ a, a < 5 → ∀ b, b < 5 → a ≠ b → (TX0 a).2.1 ≠ (TX0 b).2.1 := by decide +kernel
theorem tyX0_ok : ∀ k, k < 5 → parseFieldDescriptor (TX0 k).2.2.1 = some (tyX0 k) := by decide +kernel
abbrev cX0_init : ByteArray := prog_2_method_1_code
def yX0_init : MethodName := ⟨RX0, "<init>", "()V"⟩
abbrev cX0_forget : ByteArray := prog_2_method_2_code
def yX0_forget : MethodName := ⟨RX0, "forget", "()V"⟩
abbrev cX0_keep : ByteArray := prog_2_method_3_code
def yX0_keep : MethodName := ⟨RX0, "keep", "(LSlackProofs$Book;)V"⟩
abbrev cX0_takeBack : ByteArray := prog_2_method_4_code
def yX0_takeBack : MethodName := ⟨RX0, "takeBack", "(LSlackProofs$Book;)I"⟩
def RX1 : String := "SlackProofs$Asker"
def TX1 : u_T := fun k => match k with
  | 0 => ("SlackProofs$Asker", "traced", "[I", true)
  | _ => ("SlackProofs$Asker", "length", "I", false)
def tyX1 : Nat → FieldType := fun k => match k with
  | 0 => .array .int
  | _ => .int
abbrev wsX10 : List Cond := u_ws RX1 TX1 2
theorem nmX1 : ∀ a, a < 2 → ∀ b, b < 2 → a ≠ b → (TX1 a).2.1 ≠ (TX1 b).2.1 := by decide +kernel
theorem tyX1_ok : ∀ k, k < 2 → parseFieldDescriptor (TX1 k).2.2.1 = some (tyX1 k) := by decide +kernel
abbrev cX1_init : ByteArray := prog_3_method_1_code
def yX1_init : MethodName := ⟨RX1, "<init>", "()V"⟩
abbrev cX1_begins : ByteArray := prog_3_method_2_code
def yX1_begins : MethodName := ⟨RX1, "begins", "(I)V"⟩
abbrev cX1_sizeOf : ByteArray := prog_3_method_3_code
def yX1_sizeOf : MethodName := ⟨RX1, "sizeOf", "(LSlackProofs$Clause;I)I"⟩
abbrev cX1_sizeOfAny : ByteArray := prog_3_method_4_code
def yX1_sizeOfAny : MethodName := ⟨RX1, "sizeOfAny", "(LSlackProofs$Clause;)I"⟩
abbrev cX1_sizeOfGiven : ByteArray := prog_3_method_5_code
def yX1_sizeOfGiven : MethodName := ⟨RX1, "sizeOfGiven", "(LSlackProofs$Clause;I)I"⟩
abbrev cX1_sizeOfAxiom : ByteArray := prog_3_method_6_code
def yX1_sizeOfAxiom : MethodName := ⟨RX1, "sizeOfAxiom", "(LSlackProofs$Clause;I)I"⟩
abbrev cX1_sizeOfDerived : ByteArray := prog_3_method_7_code
def yX1_sizeOfDerived : MethodName := ⟨RX1, "sizeOfDerived", "(LSlackProofs$Clause;)I"⟩
abbrev cX1_sizeOfClaimed : ByteArray := prog_3_method_8_code
def yX1_sizeOfClaimed : MethodName := ⟨RX1, "sizeOfClaimed", "(LSlackProofs$Clause;)I"⟩
abbrev cX1_markOf : ByteArray := prog_3_method_9_code
def yX1_markOf : MethodName := ⟨RX1, "markOf", "(LSlackProofs$Clause;I)I"⟩
abbrev cX1_markOfAny : ByteArray := prog_3_method_10_code
def yX1_markOfAny : MethodName := ⟨RX1, "markOfAny", "(LSlackProofs$Clause;)I"⟩
abbrev cX1_markOfGiven : ByteArray := prog_3_method_11_code
def yX1_markOfGiven : MethodName := ⟨RX1, "markOfGiven", "(LSlackProofs$Clause;)I"⟩
abbrev cX1_markOfBound : ByteArray := prog_3_method_12_code
def yX1_markOfBound : MethodName := ⟨RX1, "markOfBound", "(LSlackProofs$Clause;)I"⟩
abbrev cX1_markOfDerived : ByteArray := prog_3_method_13_code
def yX1_markOfDerived : MethodName := ⟨RX1, "markOfDerived", "(LSlackProofs$Clause;I)I"⟩
abbrev cX1_markOfAxiom : ByteArray := prog_3_method_14_code
def yX1_markOfAxiom : MethodName := ⟨RX1, "markOfAxiom", "(LSlackProofs$Clause;)I"⟩
def RX2 : String := "SlackProofs$Book"
def TX2 : u_T := fun k => match k with
  | 0 => ("SlackProofs$Book", "clauses", "[LSlackProofs$Clause;", true)
  | 1 => ("SlackProofs$Book", "prices", "[I", true)
  | 2 => ("SlackProofs$Book", "isRead", "Z", false)
  | 3 => ("SlackProofs$Book", "used", "I", false)
  | 4 => ("SlackProofs$Book", "live", "I", false)
  | _ => ("SlackProofs$Book", "best", "I", false)
def tyX2 : Nat → FieldType := fun k => match k with
  | 0 => .array (.object "SlackProofs$Clause")
  | 1 => .array .int
  | 2 => .boolean
  | 3 => .int
  | 4 => .int
  | _ => .int
abbrev wsX20 : List Cond := u_ws RX2 TX2 6
theorem nmX2 : ∀ a, a < 6 → ∀ b, b < 6 → a ≠ b → (TX2 a).2.1 ≠ (TX2 b).2.1 := by decide +kernel
theorem tyX2_ok : ∀ k, k < 6 → parseFieldDescriptor (TX2 k).2.2.1 = some (tyX2 k) := by decide +kernel
abbrev cX2_init : ByteArray := prog_4_method_1_code
def yX2_init : MethodName := ⟨RX2, "<init>", "()V"⟩
abbrev cX2_begin : ByteArray := prog_4_method_2_code
def yX2_begin : MethodName := ⟨RX2, "begin", "([I)V"⟩
abbrev cX2_become : ByteArray := prog_4_method_3_code
def yX2_become : MethodName := ⟨RX2, "become", "(LSlackProofs$Book;)V"⟩
abbrev cX2_has : ByteArray := prog_4_method_4_code
def yX2_has : MethodName := ⟨RX2, "has", "(I)Z"⟩
abbrev cX2_isLive : ByteArray := prog_4_method_5_code
def yX2_isLive : MethodName := ⟨RX2, "isLive", "(I)Z"⟩
abbrev cX2_isFull : ByteArray := prog_4_method_6_code
def yX2_isFull : MethodName := ⟨RX2, "isFull", "()Z"⟩
abbrev cX2_next : ByteArray := prog_4_method_7_code
def yX2_next : MethodName := ⟨RX2, "next", "()LSlackProofs$Clause;"⟩
abbrev cX2_add : ByteArray := prog_4_method_8_code
def yX2_add : MethodName := ⟨RX2, "add", "(I)I"⟩
abbrev cX2_isBeyond : ByteArray := prog_4_method_9_code
def yX2_isBeyond : MethodName := ⟨RX2, "isBeyond", "()Z"⟩
abbrev cX2_hasImpossible : ByteArray := prog_4_method_10_code
def yX2_hasImpossible : MethodName := ⟨RX2, "hasImpossible", "()Z"⟩
abbrev cX2_allHold : ByteArray := prog_4_method_11_code
def yX2_allHold : MethodName := ⟨RX2, "allHold", "(I)Z"⟩
abbrev cX2_countSolutions : ByteArray := prog_4_method_12_code
def yX2_countSolutions : MethodName := ⟨RX2, "countSolutions", "()I"⟩
abbrev cX2_bestValues : ByteArray := prog_4_method_13_code
def yX2_bestValues : MethodName := ⟨RX2, "bestValues", "()I"⟩
abbrev cX2_priceOf : ByteArray := prog_4_method_14_code
def yX2_priceOf : MethodName := ⟨RX2, "priceOf", "(I)I"⟩
abbrev cX2_allPrices : ByteArray := prog_4_method_15_code
def yX2_allPrices : MethodName := ⟨RX2, "allPrices", "()I"⟩
def RX3 : String := "SlackProofs$Clause"
def TX3 : u_T := fun k => match k with
  | 0 => ("SlackProofs$Clause", "coefficients", "[J", true)
  | 1 => ("SlackProofs$Clause", "number", "I", true)
  | 2 => ("SlackProofs$Clause", "degree", "J", false)
  | _ => ("SlackProofs$Clause", "kind", "I", false)
def tyX3 : Nat → FieldType := fun k => match k with
  | 0 => .array .long
  | 1 => .int
  | 2 => .long
  | _ => .int
abbrev wsX30 : List Cond := u_ws RX3 TX3 4
theorem nmX3 : ∀ a, a < 4 → ∀ b, b < 4 → a ≠ b → (TX3 a).2.1 ≠ (TX3 b).2.1 := by decide +kernel
theorem tyX3_ok : ∀ k, k < 4 → parseFieldDescriptor (TX3 k).2.2.1 = some (tyX3 k) := by decide +kernel
abbrev cX3_init : ByteArray := prog_5_method_1_code
def yX3_init : MethodName := ⟨RX3, "<init>", "(I)V"⟩
abbrev cX3_clear : ByteArray := prog_5_method_2_code
def yX3_clear : MethodName := ⟨RX3, "clear", "()V"⟩
abbrev cX3_become : ByteArray := prog_5_method_3_code
def yX3_become : MethodName := ⟨RX3, "become", "(LSlackProofs$Clause;)V"⟩
abbrev cX3_becomePlus : ByteArray := prog_5_method_4_code
def yX3_becomePlus : MethodName := ⟨RX3, "becomePlus", "(LSlackProofs$Clause;LSlackProofs$Clause;)Z"⟩
abbrev cX3_joins : ByteArray := prog_5_method_5_code
def yX3_joins : MethodName := ⟨RX3, "joins", "(IJ)Z"⟩
abbrev cX3_becomeTimes : ByteArray := prog_5_method_6_code
def yX3_becomeTimes : MethodName := ⟨RX3, "becomeTimes", "(LSlackProofs$Clause;I)Z"⟩
abbrev cX3_becomeSplit : ByteArray := prog_5_method_7_code
def yX3_becomeSplit : MethodName := ⟨RX3, "becomeSplit", "(LSlackProofs$Clause;I)V"⟩
abbrev cX3_splitUp : ByteArray := prog_5_method_8_code
def yX3_splitUp : MethodName := ⟨RX3, "splitUp", "(JI)J"⟩
abbrev cX3_becomeSaturated : ByteArray := prog_5_method_9_code
def yX3_becomeSaturated : MethodName := ⟨RX3, "becomeSaturated", "(LSlackProofs$Clause;)V"⟩
abbrev cX3_becomeWeakened : ByteArray := prog_5_method_10_code
def yX3_becomeWeakened : MethodName := ⟨RX3, "becomeWeakened", "(LSlackProofs$Clause;I)V"⟩
abbrev cX3_becomeBound : ByteArray := prog_5_method_11_code
def yX3_becomeBound : MethodName := ⟨RX3, "becomeBound", "([III)V"⟩
abbrev cX3_becomeContrary : ByteArray := prog_5_method_12_code
def yX3_becomeContrary : MethodName := ⟨RX3, "becomeContrary", "(LSlackProofs$Clause;)V"⟩
abbrev cX3_becomePut : ByteArray := prog_5_method_13_code
def yX3_becomePut : MethodName := ⟨RX3, "becomePut", "(LSlackProofs$Clause;[I)V"⟩
abbrev cX3_becomePriceKept : ByteArray := prog_5_method_14_code
def yX3_becomePriceKept : MethodName := ⟨RX3, "becomePriceKept", "([I[I)V"⟩
abbrev cX3_joinsPut : ByteArray := prog_5_method_15_code
def yX3_joinsPut : MethodName := ⟨RX3, "joinsPut", "(IJ)V"⟩
abbrev cX3_contraryOf : ByteArray := prog_5_method_16_code
def yX3_contraryOf : MethodName := ⟨RX3, "contraryOf", "(I)I"⟩
abbrev cX3_total : ByteArray := prog_5_method_17_code
def yX3_total : MethodName := ⟨RX3, "total", "()J"⟩
abbrev cX3_isBeyond : ByteArray := prog_5_method_18_code
def yX3_isBeyond : MethodName := ⟨RX3, "isBeyond", "()Z"⟩
abbrev cX3_slackBy : ByteArray := prog_5_method_19_code
def yX3_slackBy : MethodName := ⟨RX3, "slackBy", "(II)J"⟩
abbrev cX3_holdsBy : ByteArray := prog_5_method_20_code
def yX3_holdsBy : MethodName := ⟨RX3, "holdsBy", "(I)Z"⟩
abbrev cX3_countVariables : ByteArray := prog_5_method_21_code
def yX3_countVariables : MethodName := ⟨RX3, "countVariables", "()I"⟩
abbrev cX3_leastVariable : ByteArray := prog_5_method_22_code
def yX3_leastVariable : MethodName := ⟨RX3, "leastVariable", "()I"⟩
def RX4 : String := "SlackProofs$Prover"
def TX4 : u_T := fun k => match k with
  | 0 => ("SlackProofs$Prover", "book", "LSlackProofs$Book;", true)
  | 1 => ("SlackProofs$Prover", "nothing", "LSlackProofs$Clause;", true)
  | 2 => ("SlackProofs$Prover", "contrary", "LSlackProofs$Clause;", true)
  | 3 => ("SlackProofs$Prover", "claimContrary", "LSlackProofs$Clause;", true)
  | 4 => ("SlackProofs$Prover", "put", "LSlackProofs$Clause;", true)
  | 5 => ("SlackProofs$Prover", "known", "I", false)
  | _ => ("SlackProofs$Prover", "ones", "I", false)
def tyX4 : Nat → FieldType := fun k => match k with
  | 0 => .object "SlackProofs$Book"
  | 1 => .object "SlackProofs$Clause"
  | 2 => .object "SlackProofs$Clause"
  | 3 => .object "SlackProofs$Clause"
  | 4 => .object "SlackProofs$Clause"
  | 5 => .int
  | _ => .int
abbrev wsX40 : List Cond := u_ws RX4 TX4 7
theorem nmX4 : ∀ a, a < 7 → ∀ b, b < 7 → a ≠ b → (TX4 a).2.1 ≠ (TX4 b).2.1 := by decide +kernel
theorem tyX4_ok : ∀ k, k < 7 → parseFieldDescriptor (TX4 k).2.2.1 = some (tyX4 k) := by decide +kernel
abbrev cX4_init : ByteArray := prog_6_method_1_code
def yX4_init : MethodName := ⟨RX4, "<init>", "(LSlackProofs$Book;)V"⟩
abbrev cX4_conflictByKnown : ByteArray := prog_6_method_2_code
def yX4_conflictByKnown : MethodName := ⟨RX4, "conflictByKnown", "(II)Z"⟩
abbrev cX4_followsFromAll : ByteArray := prog_6_method_3_code
def yX4_followsFromAll : MethodName := ⟨RX4, "followsFromAll", "(LSlackProofs$Clause;)Z"⟩
abbrev cX4_followsFromOthers : ByteArray := prog_6_method_4_code
def yX4_followsFromOthers : MethodName := ⟨RX4, "followsFromOthers", "(I)Z"⟩
abbrev cX4_comesByWitness : ByteArray := prog_6_method_5_code
def yX4_comesByWitness : MethodName := ⟨RX4, "comesByWitness", "(LSlackProofs$Clause;[I)Z"⟩
abbrev cX4_followsPut : ByteArray := prog_6_method_6_code
def yX4_followsPut : MethodName := ⟨RX4, "followsPut", "(LSlackProofs$Clause;[I)Z"⟩
abbrev cX4_followsFrom : ByteArray := prog_6_method_7_code
def yX4_followsFrom : MethodName := ⟨RX4, "followsFrom", "(LSlackProofs$Clause;ILSlackProofs$Clause;)Z"⟩
abbrev cX4_drives : ByteArray := prog_6_method_8_code
def yX4_drives : MethodName := ⟨RX4, "drives", "(ILSlackProofs$Clause;LSlackProofs$Clause;)Z"⟩
abbrev cX4_conflicts : ByteArray := prog_6_method_9_code
def yX4_conflicts : MethodName := ⟨RX4, "conflicts", "(LSlackProofs$Clause;)Z"⟩
def RX5 : String := "SlackProofs$Reader"
def TX5 : u_T := fun k => match k with
  | 0 => ("SlackProofs$Reader", "tape", "[I", true)
  | 1 => ("SlackProofs$Reader", "clauses", "[LSlackProofs$Clause;", true)
  | 2 => ("SlackProofs$Reader", "prices", "[I", true)
  | 3 => ("SlackProofs$Reader", "length", "I", false)
  | 4 => ("SlackProofs$Reader", "end", "I", false)
  | 5 => ("SlackProofs$Reader", "clauseCount", "I", false)
  | 6 => ("SlackProofs$Reader", "place", "I", false)
  | 7 => ("SlackProofs$Reader", "fault", "I", false)
  | _ => ("SlackProofs$Reader", "number", "I", false)
def tyX5 : Nat → FieldType := fun k => match k with
  | 0 => .array .int
  | 1 => .array (.object "SlackProofs$Clause")
  | 2 => .array .int
  | 3 => .int
  | 4 => .int
  | 5 => .int
  | 6 => .int
  | 7 => .int
  | _ => .int
abbrev wsX50 : List Cond := u_ws RX5 TX5 9
theorem nmX5 : ∀ a, a < 9 → ∀ b, b < 9 → a ≠ b → (TX5 a).2.1 ≠ (TX5 b).2.1 := by decide +kernel
theorem tyX5_ok : ∀ k, k < 9 → parseFieldDescriptor (TX5 k).2.2.1 = some (tyX5 k) := by decide +kernel
abbrev cX5_init : ByteArray := prog_7_method_1_code
def yX5_init : MethodName := ⟨RX5, "<init>", "()V"⟩
abbrev cX5_take : ByteArray := prog_7_method_2_code
def yX5_take : MethodName := ⟨RX5, "take", "(I)I"⟩
abbrev cX5_begin : ByteArray := prog_7_method_3_code
def yX5_begin : MethodName := ⟨RX5, "begin", "()V"⟩
abbrev cX5_readsFormula : ByteArray := prog_7_method_4_code
def yX5_readsFormula : MethodName := ⟨RX5, "readsFormula", "()Z"⟩
abbrev cX5_readsClaim : ByteArray := prog_7_method_5_code
def yX5_readsClaim : MethodName := ⟨RX5, "readsClaim", "()Z"⟩
abbrev cX5_readsClauses : ByteArray := prog_7_method_6_code
def yX5_readsClauses : MethodName := ⟨RX5, "readsClauses", "()Z"⟩
abbrev cX5_readsClause : ByteArray := prog_7_method_7_code
def yX5_readsClause : MethodName := ⟨RX5, "readsClause", "(LSlackProofs$Clause;)Z"⟩
abbrev cX5_readsDegree : ByteArray := prog_7_method_8_code
def yX5_readsDegree : MethodName := ⟨RX5, "readsDegree", "(LSlackProofs$Clause;)Z"⟩
abbrev cX5_readsPrices : ByteArray := prog_7_method_9_code
def yX5_readsPrices : MethodName := ⟨RX5, "readsPrices", "()Z"⟩
abbrev cX5_letter : ByteArray := prog_7_method_10_code
def yX5_letter : MethodName := ⟨RX5, "letter", "()I"⟩
abbrev cX5_takes : ByteArray := prog_7_method_11_code
def yX5_takes : MethodName := ⟨RX5, "takes", "(I)Z"⟩
abbrev cX5_takesNumber : ByteArray := prog_7_method_12_code
def yX5_takesNumber : MethodName := ⟨RX5, "takesNumber", "(III)Z"⟩
abbrev cX5_isFigure : ByteArray := prog_7_method_13_code
def yX5_isFigure : MethodName := ⟨RX5, "isFigure", "(I)Z"⟩
abbrev cX5_faulty : ByteArray := prog_7_method_14_code
def yX5_faulty : MethodName := ⟨RX5, "faulty", "(I)Z"⟩
def RX6 : String := "SlackProofs$Rows"
def TX6 : u_T := fun k => match k with
  | 0 => ("SlackProofs$Rows", "items", "[[I", true)
  | 1 => ("SlackProofs$Rows", "lanes", "[I", true)
  | _ => ("SlackProofs$Rows", "sizes", "[I", true)
def tyX6 : Nat → FieldType := fun k => match k with
  | 0 => .array (.array .int)
  | 1 => .array .int
  | _ => .array .int
abbrev wsX60 : List Cond := u_ws RX6 TX6 3
theorem nmX6 : ∀ a, a < 3 → ∀ b, b < 3 → a ≠ b → (TX6 a).2.1 ≠ (TX6 b).2.1 := by decide +kernel
theorem tyX6_ok : ∀ k, k < 3 → parseFieldDescriptor (TX6 k).2.2.1 = some (tyX6 k) := by decide +kernel
abbrev cX6_init : ByteArray := prog_8_method_1_code
def yX6_init : MethodName := ⟨RX6, "<init>", "()V"⟩
abbrev cX6_isMissing : ByteArray := prog_8_method_2_code
def yX6_isMissing : MethodName := ⟨RX6, "isMissing", "(I)Z"⟩
abbrev cX6_make : ByteArray := prog_8_method_3_code
def yX6_make : MethodName := ⟨RX6, "make", "(III)V"⟩
abbrev cX6_put : ByteArray := prog_8_method_4_code
def yX6_put : MethodName := ⟨RX6, "put", "(III)I"⟩
abbrev cX6_hasPlaces : ByteArray := prog_8_method_5_code
def yX6_hasPlaces : MethodName := ⟨RX6, "hasPlaces", "(III)Z"⟩
abbrev cX6_lose : ByteArray := prog_8_method_6_code
def yX6_lose : MethodName := ⟨RX6, "lose", "(I)I"⟩
abbrev cX6_isWitness : ByteArray := prog_8_method_7_code
def yX6_isWitness : MethodName := ⟨RX6, "isWitness", "(I)Z"⟩
abbrev cX6_countAll : ByteArray := prog_8_method_8_code
def yX6_countAll : MethodName := ⟨RX6, "countAll", "()I"⟩
def RX7 : String := "SlackProofs"
def TX7 : u_T := fun k => match k with
  | 0 => ("SlackProofs", "rows", "LSlackProofs$Rows;", true)
  | 1 => ("SlackProofs", "reader", "LSlackProofs$Reader;", true)
  | 2 => ("SlackProofs", "book", "LSlackProofs$Book;", true)
  | 3 => ("SlackProofs", "images", "[LSlackProofs$Book;", true)
  | 4 => ("SlackProofs", "acts", "LSlackProofs$Acts;", true)
  | 5 => ("SlackProofs", "prover", "LSlackProofs$Prover;", true)
  | 6 => ("SlackProofs", "asker", "LSlackProofs$Asker;", true)
  | _ => ("SlackProofs", "finding", "I", false)
def tyX7 : Nat → FieldType := fun k => match k with
  | 0 => .object "SlackProofs$Rows"
  | 1 => .object "SlackProofs$Reader"
  | 2 => .object "SlackProofs$Book"
  | 3 => .array (.object "SlackProofs$Book")
  | 4 => .object "SlackProofs$Acts"
  | 5 => .object "SlackProofs$Prover"
  | 6 => .object "SlackProofs$Asker"
  | _ => .int
abbrev wsX70 : List Cond := u_ws RX7 TX7 8
theorem nmX7 : ∀ a, a < 8 → ∀ b, b < 8 → a ≠ b → (TX7 a).2.1 ≠ (TX7 b).2.1 := by decide +kernel
theorem tyX7_ok : ∀ k, k < 8 → parseFieldDescriptor (TX7 k).2.2.1 = some (tyX7 k) := by decide +kernel
abbrev cX7_init : ByteArray := prog_1_method_1_code
def yX7_init : MethodName := ⟨RX7, "<init>", "()V"⟩
abbrev cX7_row : ByteArray := prog_1_method_2_code
def yX7_row : MethodName := ⟨RX7, "row", "(III)I"⟩
abbrev cX7_set : ByteArray := prog_1_method_3_code
def yX7_set : MethodName := ⟨RX7, "set", "(III)I"⟩
abbrev cX7_copy : ByteArray := prog_1_method_4_code
def yX7_copy : MethodName := ⟨RX7, "copy", "(IIIII)I"⟩
abbrev cX7_drop : ByteArray := prog_1_method_5_code
def yX7_drop : MethodName := ⟨RX7, "drop", "(I)I"⟩
abbrev cX7_feed : ByteArray := prog_1_method_6_code
def yX7_feed : MethodName := ⟨RX7, "feed", "(I)I"⟩
abbrev cX7_formula : ByteArray := prog_1_method_7_code
def yX7_formula : MethodName := ⟨RX7, "formula", "()I"⟩
abbrev cX7_fault : ByteArray := prog_1_method_8_code
def yX7_fault : MethodName := ⟨RX7, "fault", "()I"⟩
abbrev cX7_plus : ByteArray := prog_1_method_9_code
def yX7_plus : MethodName := ⟨RX7, "plus", "(II)I"⟩
abbrev cX7_times : ByteArray := prog_1_method_10_code
def yX7_times : MethodName := ⟨RX7, "times", "(II)I"⟩
abbrev cX7_split : ByteArray := prog_1_method_11_code
def yX7_split : MethodName := ⟨RX7, "split", "(II)I"⟩
abbrev cX7_saturate : ByteArray := prog_1_method_12_code
def yX7_saturate : MethodName := ⟨RX7, "saturate", "(I)I"⟩
abbrev cX7_weaken : ByteArray := prog_1_method_13_code
def yX7_weaken : MethodName := ⟨RX7, "weaken", "(II)I"⟩
abbrev cX7_axiom : ByteArray := prog_1_method_14_code
def yX7_axiom : MethodName := ⟨RX7, "axiom", "(II)I"⟩
abbrev cX7_claim : ByteArray := prog_1_method_15_code
def yX7_claim : MethodName := ⟨RX7, "claim", "()I"⟩
abbrev cX7_witness : ByteArray := prog_1_method_16_code
def yX7_witness : MethodName := ⟨RX7, "witness", "(I)I"⟩
abbrev cX7_solution : ByteArray := prog_1_method_17_code
def yX7_solution : MethodName := ⟨RX7, "solution", "(I)I"⟩
abbrev cX7_remove : ByteArray := prog_1_method_18_code
def yX7_remove : MethodName := ⟨RX7, "remove", "(I)I"⟩
abbrev cX7_undo : ByteArray := prog_1_method_19_code
def yX7_undo : MethodName := ⟨RX7, "undo", "()I"⟩
abbrev cX7_degree : ByteArray := prog_1_method_20_code
def yX7_degree : MethodName := ⟨RX7, "degree", "(I)J"⟩
abbrev cX7_coefficient : ByteArray := prog_1_method_21_code
def yX7_coefficient : MethodName := ⟨RX7, "coefficient", "(II)J"⟩
abbrev cX7_sum : ByteArray := prog_1_method_22_code
def yX7_sum : MethodName := ⟨RX7, "sum", "(I)J"⟩
abbrev cX7_slack : ByteArray := prog_1_method_23_code
def yX7_slack : MethodName := ⟨RX7, "slack", "(III)J"⟩
abbrev cX7_forced : ByteArray := prog_1_method_24_code
def yX7_forced : MethodName := ⟨RX7, "forced", "(III)I"⟩
abbrev cX7_solutions : ByteArray := prog_1_method_25_code
def yX7_solutions : MethodName := ⟨RX7, "solutions", "(I)I"⟩
abbrev cX7_holds : ByteArray := prog_1_method_26_code
def yX7_holds : MethodName := ⟨RX7, "holds", "(I)I"⟩
abbrev cX7_follows : ByteArray := prog_1_method_27_code
def yX7_follows : MethodName := ⟨RX7, "follows", "(I)I"⟩
abbrev cX7_verdict : ByteArray := prog_1_method_28_code
def yX7_verdict : MethodName := ⟨RX7, "verdict", "()I"⟩
abbrev cX7_price : ByteArray := prog_1_method_29_code
def yX7_price : MethodName := ⟨RX7, "price", "(I)I"⟩
abbrev cX7_image : ByteArray := prog_1_method_30_code
def yX7_image : MethodName := ⟨RX7, "image", "(I)I"⟩
abbrev cX7_restore : ByteArray := prog_1_method_31_code
def yX7_restore : MethodName := ⟨RX7, "restore", "(I)I"⟩
abbrev cX7_kind : ByteArray := prog_1_method_32_code
def yX7_kind : MethodName := ⟨RX7, "kind", "(I)I"⟩
abbrev cX7_as : ByteArray := prog_1_method_33_code
def yX7_as : MethodName := ⟨RX7, "as", "(II)I"⟩
abbrev cX7_ask : ByteArray := prog_1_method_34_code
def yX7_ask : MethodName := ⟨RX7, "ask", "(II)I"⟩
abbrev cX7_trace : ByteArray := prog_1_method_35_code
def yX7_trace : MethodName := ⟨RX7, "trace", "(I)I"⟩
abbrev cX7_count : ByteArray := prog_1_method_36_code
def yX7_count : MethodName := ⟨RX7, "count", "(I)I"⟩
abbrev cX7_status : ByteArray := prog_1_method_37_code
def yX7_status : MethodName := ⟨RX7, "status", "()I"⟩
abbrev cX7_found : ByteArray := prog_1_method_38_code
def yX7_found : MethodName := ⟨RX7, "found", "(I)I"⟩
abbrev cX7_well : ByteArray := prog_1_method_39_code
def yX7_well : MethodName := ⟨RX7, "well", "(I)I"⟩
abbrev cX7_stepRefusal : ByteArray := prog_1_method_40_code
def yX7_stepRefusal : MethodName := ⟨RX7, "stepRefusal", "(Z)I"⟩
abbrev cX7_comes : ByteArray := prog_1_method_41_code
def yX7_comes : MethodName := ⟨RX7, "comes", "(I)I"⟩
abbrev cX7_claimOfTape : ByteArray := prog_1_method_42_code
def yX7_claimOfTape : MethodName := ⟨RX7, "claimOfTape", "(I)I"⟩
abbrev cX7_bestOfAll : ByteArray := prog_1_method_43_code
def yX7_bestOfAll : MethodName := ⟨RX7, "bestOfAll", "(I)I"⟩
abbrev cX7_isRow : ByteArray := prog_1_method_44_code
def yX7_isRow : MethodName := ⟨RX7, "isRow", "(I)Z"⟩
abbrev cX7_isVariable : ByteArray := prog_1_method_45_code
def yX7_isVariable : MethodName := ⟨RX7, "isVariable", "(I)Z"⟩
abbrev cX7_isSet : ByteArray := prog_1_method_46_code
def yX7_isSet : MethodName := ⟨RX7, "isSet", "(I)Z"⟩
abbrev cX7_isOfKind : ByteArray := prog_1_method_47_code
def yX7_isOfKind : MethodName := ⟨RX7, "isOfKind", "(II)Z"⟩
def RX8 : String := "SlackProofsModel"
def TX8 : u_T := fun k => match k with
  | 0 => ("SlackProofsModel", "lane", "[I", true)
  | 1 => ("SlackProofsModel", "many", "[I", true)
  | 2 => ("SlackProofsModel", "items", "[I", true)
  | 3 => ("SlackProofsModel", "spare", "[I", true)
  | 4 => ("SlackProofsModel", "status", "I", false)
  | 5 => ("SlackProofsModel", "tape", "[I", true)
  | 6 => ("SlackProofsModel", "taped", "I", false)
  | 7 => ("SlackProofsModel", "faultKind", "I", false)
  | 8 => ("SlackProofsModel", "faultPlace", "I", false)
  | 9 => ("SlackProofsModel", "at", "I", false)
  | 10 => ("SlackProofsModel", "start", "I", false)
  | 11 => ("SlackProofsModel", "token", "I", false)
  | 12 => ("SlackProofsModel", "value", "I", false)
  | 13 => ("SlackProofsModel", "now", "[J", true)
  | 14 => ("SlackProofsModel", "draft", "[J", true)
  | 15 => ("SlackProofsModel", "past", "[J", true)
  | 16 => ("SlackProofsModel", "acts", "I", false)
  | 17 => ("SlackProofsModel", "images", "[J", true)
  | 18 => ("SlackProofsModel", "kept", "[Z", true)
  | 19 => ("SlackProofsModel", "made", "[J", true)
  | 20 => ("SlackProofsModel", "put", "[J", true)
  | 21 => ("SlackProofsModel", "against", "[J", true)
  | 22 => ("SlackProofsModel", "contrary", "[J", true)
  | 23 => ("SlackProofsModel", "sums", "[J", true)
  | 24 => ("SlackProofsModel", "known", "I", false)
  | 25 => ("SlackProofsModel", "values", "I", false)
  | 26 => ("SlackProofsModel", "trace", "[I", true)
  | _ => ("SlackProofsModel", "traced", "I", false)
def tyX8 : Nat → FieldType := fun k => match k with
  | 0 => .array .int
  | 1 => .array .int
  | 2 => .array .int
  | 3 => .array .int
  | 4 => .int
  | 5 => .array .int
  | 6 => .int
  | 7 => .int
  | 8 => .int
  | 9 => .int
  | 10 => .int
  | 11 => .int
  | 12 => .int
  | 13 => .array .long
  | 14 => .array .long
  | 15 => .array .long
  | 16 => .int
  | 17 => .array .long
  | 18 => .array .boolean
  | 19 => .array .long
  | 20 => .array .long
  | 21 => .array .long
  | 22 => .array .long
  | 23 => .array .long
  | 24 => .int
  | 25 => .int
  | 26 => .array .int
  | _ => .int
abbrev wsX80 : List Cond := u_ws RX8 TX8 28
theorem nmX8 : ∀ a, a < 28 → ∀ b, b < 28 → a ≠ b → (TX8 a).2.1 ≠ (TX8 b).2.1 := by decide +kernel
theorem tyX8_ok : ∀ k, k < 28 → parseFieldDescriptor (TX8 k).2.2.1 = some (tyX8 k) := by decide +kernel
abbrev cX8_init : ByteArray := prog_10_method_1_code
def yX8_init : MethodName := ⟨RX8, "<init>", "()V"⟩
abbrev cX8_in : ByteArray := prog_10_method_3_code
def yX8_in : MethodName := ⟨RX8, "in", "(III)Z"⟩
abbrev cX8_has : ByteArray := prog_10_method_4_code
def yX8_has : MethodName := ⟨RX8, "has", "(II)Z"⟩
abbrev cX8_ones : ByteArray := prog_10_method_5_code
def yX8_ones : MethodName := ⟨RX8, "ones", "(I)I"⟩
abbrev cX8_found : ByteArray := prog_10_method_6_code
def yX8_found : MethodName := ⟨RX8, "found", "(I)I"⟩
abbrev cX8_well : ByteArray := prog_10_method_7_code
def yX8_well : MethodName := ⟨RX8, "well", "(I)I"⟩
abbrev cX8_copies : ByteArray := prog_10_method_8_code
def yX8_copies : MethodName := ⟨RX8, "copies", "([JI[JII)V"⟩
abbrev cX8_size : ByteArray := prog_10_method_9_code
def yX8_size : MethodName := ⟨RX8, "size", "(J)J"⟩
abbrev cX8_isRow : ByteArray := prog_10_method_10_code
def yX8_isRow : MethodName := ⟨RX8, "isRow", "(I)Z"⟩
abbrev cX8_isMissing : ByteArray := prog_10_method_11_code
def yX8_isMissing : MethodName := ⟨RX8, "isMissing", "(I)Z"⟩
abbrev cX8_lowest : ByteArray := prog_10_method_12_code
def yX8_lowest : MethodName := ⟨RX8, "lowest", "(II)I"⟩
abbrev cX8_row : ByteArray := prog_10_method_13_code
def yX8_row : MethodName := ⟨RX8, "row", "(III)I"⟩
abbrev cX8_set : ByteArray := prog_10_method_14_code
def yX8_set : MethodName := ⟨RX8, "set", "(III)I"⟩
abbrev cX8_isPart : ByteArray := prog_10_method_15_code
def yX8_isPart : MethodName := ⟨RX8, "isPart", "(III)Z"⟩
abbrev cX8_copy : ByteArray := prog_10_method_16_code
def yX8_copy : MethodName := ⟨RX8, "copy", "(IIIII)I"⟩
abbrev cX8_drop : ByteArray := prog_10_method_17_code
def yX8_drop : MethodName := ⟨RX8, "drop", "(I)I"⟩
abbrev cX8_feed : ByteArray := prog_10_method_18_code
def yX8_feed : MethodName := ⟨RX8, "feed", "(I)I"⟩
abbrev cX8_byteAt : ByteArray := prog_10_method_19_code
def yX8_byteAt : MethodName := ⟨RX8, "byteAt", "(I)I"⟩
abbrev cX8_advances : ByteArray := prog_10_method_20_code
def yX8_advances : MethodName := ⟨RX8, "advances", "()V"⟩
abbrev cX8_isWell : ByteArray := prog_10_method_21_code
def yX8_isWell : MethodName := ⟨RX8, "isWell", "()Z"⟩
abbrev cX8_takes : ByteArray := prog_10_method_22_code
def yX8_takes : MethodName := ⟨RX8, "takes", "(ZI)I"⟩
abbrev cX8_figure : ByteArray := prog_10_method_23_code
def yX8_figure : MethodName := ⟨RX8, "figure", "(II)I"⟩
abbrev cX8_behind : ByteArray := prog_10_method_24_code
def yX8_behind : MethodName := ⟨RX8, "behind", "(II)I"⟩
abbrev cX8_must : ByteArray := prog_10_method_25_code
def yX8_must : MethodName := ⟨RX8, "must", "(Z)V"⟩
abbrev cX8_variable : ByteArray := prog_10_method_26_code
def yX8_variable : MethodName := ⟨RX8, "variable", "(I)I"⟩
abbrev cX8_isTerm : ByteArray := prog_10_method_27_code
def yX8_isTerm : MethodName := ⟨RX8, "isTerm", "()Z"⟩
abbrev cX8_readsClause : ByteArray := prog_10_method_28_code
def yX8_readsClause : MethodName := ⟨RX8, "readsClause", "()V"⟩
abbrev cX8_begins : ByteArray := prog_10_method_29_code
def yX8_begins : MethodName := ⟨RX8, "begins", "()V"⟩
abbrev cX8_formula : ByteArray := prog_10_method_30_code
def yX8_formula : MethodName := ⟨RX8, "formula", "()I"⟩
abbrev cX8_fault : ByteArray := prog_10_method_31_code
def yX8_fault : MethodName := ⟨RX8, "fault", "()I"⟩
abbrev cX8_isFormula : ByteArray := prog_10_method_32_code
def yX8_isFormula : MethodName := ⟨RX8, "isFormula", "()Z"⟩
abbrev cX8_isLive : ByteArray := prog_10_method_33_code
def yX8_isLive : MethodName := ⟨RX8, "isLive", "(I)Z"⟩
abbrev cX8_isFull : ByteArray := prog_10_method_34_code
def yX8_isFull : MethodName := ⟨RX8, "isFull", "()Z"⟩
abbrev cX8_notes : ByteArray := prog_10_method_35_code
def yX8_notes : MethodName := ⟨RX8, "notes", "()V"⟩
abbrev cX8_comes : ByteArray := prog_10_method_36_code
def yX8_comes : MethodName := ⟨RX8, "comes", "(I)I"⟩
abbrev cX8_takesClause : ByteArray := prog_10_method_37_code
def yX8_takesClause : MethodName := ⟨RX8, "takesClause", "(I)V"⟩
abbrev cX8_plus : ByteArray := prog_10_method_38_code
def yX8_plus : MethodName := ⟨RX8, "plus", "(II)I"⟩
abbrev cX8_times : ByteArray := prog_10_method_39_code
def yX8_times : MethodName := ⟨RX8, "times", "(II)I"⟩
abbrev cX8_split : ByteArray := prog_10_method_40_code
def yX8_split : MethodName := ⟨RX8, "split", "(II)I"⟩
abbrev cX8_saturate : ByteArray := prog_10_method_41_code
def yX8_saturate : MethodName := ⟨RX8, "saturate", "(I)I"⟩
abbrev cX8_weaken : ByteArray := prog_10_method_42_code
def yX8_weaken : MethodName := ⟨RX8, "weaken", "(II)I"⟩
abbrev cX8_axiom : ByteArray := prog_10_method_43_code
def yX8_axiom : MethodName := ⟨RX8, "axiom", "(II)I"⟩
abbrev cX8_sumOf : ByteArray := prog_10_method_44_code
def yX8_sumOf : MethodName := ⟨RX8, "sumOf", "([JI)J"⟩
abbrev cX8_isOver : ByteArray := prog_10_method_45_code
def yX8_isOver : MethodName := ⟨RX8, "isOver", "()Z"⟩
abbrev cX8_slackOf : ByteArray := prog_10_method_46_code
def yX8_slackOf : MethodName := ⟨RX8, "slackOf", "([JIII)J"⟩
abbrev cX8_forces : ByteArray := prog_10_method_47_code
def yX8_forces : MethodName := ⟨RX8, "forces", "([JI)I"⟩
abbrev cX8_isConflict : ByteArray := prog_10_method_48_code
def yX8_isConflict : MethodName := ⟨RX8, "isConflict", "(IZZ)Z"⟩
abbrev cX8_turns : ByteArray := prog_10_method_49_code
def yX8_turns : MethodName := ⟨RX8, "turns", "([JI[J)V"⟩
abbrev cX8_isFollowing : ByteArray := prog_10_method_50_code
def yX8_isFollowing : MethodName := ⟨RX8, "isFollowing", "([JIIZ)Z"⟩
abbrev cX8_claim : ByteArray := prog_10_method_51_code
def yX8_claim : MethodName := ⟨RX8, "claim", "()I"⟩
abbrev cX8_puts : ByteArray := prog_10_method_52_code
def yX8_puts : MethodName := ⟨RX8, "puts", "(IIJ)V"⟩
abbrev cX8_putsAll : ByteArray := prog_10_method_53_code
def yX8_putsAll : MethodName := ⟨RX8, "putsAll", "([JII)V"⟩
abbrev cX8_pricesPut : ByteArray := prog_10_method_54_code
def yX8_pricesPut : MethodName := ⟨RX8, "pricesPut", "(I)V"⟩
abbrev cX8_allPrices : ByteArray := prog_10_method_55_code
def yX8_allPrices : MethodName := ⟨RX8, "allPrices", "()J"⟩
abbrev cX8_witness : ByteArray := prog_10_method_56_code
def yX8_witness : MethodName := ⟨RX8, "witness", "(I)I"⟩
abbrev cX8_isHolding : ByteArray := prog_10_method_57_code
def yX8_isHolding : MethodName := ⟨RX8, "isHolding", "(II)Z"⟩
abbrev cX8_areHolding : ByteArray := prog_10_method_58_code
def yX8_areHolding : MethodName := ⟨RX8, "areHolding", "(I)Z"⟩
abbrev cX8_priceOf : ByteArray := prog_10_method_59_code
def yX8_priceOf : MethodName := ⟨RX8, "priceOf", "(I)I"⟩
abbrev cX8_solution : ByteArray := prog_10_method_60_code
def yX8_solution : MethodName := ⟨RX8, "solution", "(I)I"⟩
abbrev cX8_remove : ByteArray := prog_10_method_61_code
def yX8_remove : MethodName := ⟨RX8, "remove", "(I)I"⟩
abbrev cX8_undo : ByteArray := prog_10_method_62_code
def yX8_undo : MethodName := ⟨RX8, "undo", "()I"⟩
abbrev cX8_degree : ByteArray := prog_10_method_63_code
def yX8_degree : MethodName := ⟨RX8, "degree", "(I)J"⟩
abbrev cX8_coefficient : ByteArray := prog_10_method_64_code
def yX8_coefficient : MethodName := ⟨RX8, "coefficient", "(II)J"⟩
abbrev cX8_sum : ByteArray := prog_10_method_65_code
def yX8_sum : MethodName := ⟨RX8, "sum", "(I)J"⟩
abbrev cX8_slack : ByteArray := prog_10_method_66_code
def yX8_slack : MethodName := ⟨RX8, "slack", "(III)J"⟩
abbrev cX8_forced : ByteArray := prog_10_method_67_code
def yX8_forced : MethodName := ⟨RX8, "forced", "(III)I"⟩
abbrev cX8_solutions : ByteArray := prog_10_method_68_code
def yX8_solutions : MethodName := ⟨RX8, "solutions", "(I)I"⟩
abbrev cX8_holds : ByteArray := prog_10_method_69_code
def yX8_holds : MethodName := ⟨RX8, "holds", "(I)I"⟩
abbrev cX8_follows : ByteArray := prog_10_method_70_code
def yX8_follows : MethodName := ⟨RX8, "follows", "(I)I"⟩
abbrev cX8_verdict : ByteArray := prog_10_method_71_code
def yX8_verdict : MethodName := ⟨RX8, "verdict", "()I"⟩
abbrev cX8_price : ByteArray := prog_10_method_72_code
def yX8_price : MethodName := ⟨RX8, "price", "(I)I"⟩
abbrev cX8_image : ByteArray := prog_10_method_73_code
def yX8_image : MethodName := ⟨RX8, "image", "(I)I"⟩
abbrev cX8_restore : ByteArray := prog_10_method_74_code
def yX8_restore : MethodName := ⟨RX8, "restore", "(I)I"⟩
abbrev cX8_kindIn : ByteArray := prog_10_method_75_code
def yX8_kindIn : MethodName := ⟨RX8, "kindIn", "(I)I"⟩
abbrev cX8_variablesOf : ByteArray := prog_10_method_76_code
def yX8_variablesOf : MethodName := ⟨RX8, "variablesOf", "(I)I"⟩
abbrev cX8_leastOf : ByteArray := prog_10_method_77_code
def yX8_leastOf : MethodName := ⟨RX8, "leastOf", "(I)I"⟩
abbrev cX8_kind : ByteArray := prog_10_method_78_code
def yX8_kind : MethodName := ⟨RX8, "kind", "(I)I"⟩
abbrev cX8_as : ByteArray := prog_10_method_79_code
def yX8_as : MethodName := ⟨RX8, "as", "(II)I"⟩
abbrev cX8_traces : ByteArray := prog_10_method_80_code
def yX8_traces : MethodName := ⟨RX8, "traces", "(I)V"⟩
abbrev cX8_givenMark : ByteArray := prog_10_method_81_code
def yX8_givenMark : MethodName := ⟨RX8, "givenMark", "(I)I"⟩
abbrev cX8_derivedSize : ByteArray := prog_10_method_82_code
def yX8_derivedSize : MethodName := ⟨RX8, "derivedSize", "(I)I"⟩
abbrev cX8_givenSize : ByteArray := prog_10_method_83_code
def yX8_givenSize : MethodName := ⟨RX8, "givenSize", "(I)I"⟩
abbrev cX8_derivedMark : ByteArray := prog_10_method_84_code
def yX8_derivedMark : MethodName := ⟨RX8, "derivedMark", "(I)I"⟩
abbrev cX8_ask : ByteArray := prog_10_method_85_code
def yX8_ask : MethodName := ⟨RX8, "ask", "(II)I"⟩
abbrev cX8_trace : ByteArray := prog_10_method_86_code
def yX8_trace : MethodName := ⟨RX8, "trace", "(I)I"⟩
abbrev cX8_count : ByteArray := prog_10_method_87_code
def yX8_count : MethodName := ⟨RX8, "count", "(I)I"⟩
abbrev cX8_status : ByteArray := prog_10_method_88_code
def yX8_status : MethodName := ⟨RX8, "status", "()I"⟩
def RJ6 : String := "java/lang/Integer"
abbrev cJ6_bitCount_0f7a4 : ByteArray := prog_11_method_49_code
def yJ6_bitCount_0f7a4 : MethodName := ⟨RJ6, "bitCount", "(I)I"⟩
def RJ9 : String := "java/lang/Math"
abbrev cJ9_abs_067f4 : ByteArray := prog_12_method_61_code
def yJ9_abs_067f4 : MethodName := ⟨RJ9, "abs", "(J)J"⟩
abbrev cJ9_max_f86c9 : ByteArray := prog_12_method_66_code
def yJ9_max_f86c9 : MethodName := ⟨RJ9, "max", "(JJ)J"⟩
abbrev cJ9_min_f86c9 : ByteArray := prog_12_method_70_code
def yJ9_min_f86c9 : MethodName := ⟨RJ9, "min", "(JJ)J"⟩
def RJ10 : String := "java/lang/System"
def RJ7 : String := "java/util/Arrays"
abbrev cJ7_fill_d0a16 : ByteArray := prog_14_method_101_code
def yJ7_fill_d0a16 : MethodName := ⟨RJ7, "fill", "([JJ)V"⟩
abbrev cJ7_fill_53178 : ByteArray := prog_14_method_103_code
def yJ7_fill_53178 : MethodName := ⟨RJ7, "fill", "([II)V"⟩
def RL : String := "SlackProofsLaw"
abbrev cL_law : ByteArray := code
def yL_law : MethodName := ⟨RL, "law", "([I)Z"⟩
abbrev vwCl : List vw_C := [(RX0, TX0, 5), (RX1, TX1, 2), (RX2, TX2, 6), (RX3, TX3, 4), (RX4, TX4, 7), (RX5, TX5, 9), (RX6, TX6, 3), (RX7, TX7, 8), (RX8, TX8, 28)]
end
section
theorem dX0_init_0 : decode cX0_init 0 = .ok (.aload_n 0, 1) := by decide +kernel
theorem dX0_init_1 : decode cX0_init 1 = .ok (.invokespecial 3, 3) := by decide +kernel
theorem dX0_init_4 : decode cX0_init 4 = .ok (.aload_n 0, 1) := by decide +kernel
theorem dX0_init_5 : decode cX0_init 5 = .ok (.bipush 12, 2) := by decide +kernel
theorem dX0_init_7 : decode cX0_init 7 = .ok (.newarray .int, 2) := by decide +kernel
theorem dX0_init_9 : decode cX0_init 9 = .ok (.putfield 9, 3) := by decide +kernel
theorem dX0_init_12 : decode cX0_init 12 = .ok (.aload_n 0, 1) := by decide +kernel
theorem dX0_init_13 : decode cX0_init 13 = .ok (.bipush 12, 2) := by decide +kernel
theorem dX0_init_15 : decode cX0_init 15 = .ok (.newarray .int, 2) := by decide +kernel
theorem dX0_init_17 : decode cX0_init 17 = .ok (.putfield 15, 3) := by decide +kernel
theorem dX0_init_20 : decode cX0_init 20 = .ok (.aload_n 0, 1) := by decide +kernel
theorem dX0_init_21 : decode cX0_init 21 = .ok (.bipush 12, 2) := by decide +kernel
theorem dX0_init_23 : decode cX0_init 23 = .ok (.newarray .int, 2) := by decide +kernel
theorem dX0_init_25 : decode cX0_init 25 = .ok (.putfield 18, 3) := by decide +kernel
theorem dX0_init_28 : decode cX0_init 28 = .ok (.return_, 1) := by decide +kernel
theorem dX0_forget_0 : decode cX0_forget 0 = .ok (.aload_n 0, 1) := by decide +kernel
theorem dX0_forget_1 : decode cX0_forget 1 = .ok (.iconst 0, 1) := by decide +kernel
theorem dX0_forget_2 : decode cX0_forget 2 = .ok (.putfield 21, 3) := by decide +kernel
theorem dX0_forget_5 : decode cX0_forget 5 = .ok (.aload_n 0, 1) := by decide +kernel
theorem dX0_forget_6 : decode cX0_forget 6 = .ok (.iconst 0, 1) := by decide +kernel
theorem dX0_forget_7 : decode cX0_forget 7 = .ok (.putfield 25, 3) := by decide +kernel
theorem dX0_forget_10 : decode cX0_forget 10 = .ok (.return_, 1) := by decide +kernel
theorem dX0_keep_0 : decode cX0_keep 0 = .ok (.aload_n 0, 1) := by decide +kernel
theorem dX0_keep_1 : decode cX0_keep 1 = .ok (.getfield 25, 3) := by decide +kernel
theorem dX0_keep_4 : decode cX0_keep 4 = .ok (.bipush 12, 2) := by decide +kernel
theorem dX0_keep_6 : decode cX0_keep 6 = .ok (.if_icmp .ne 26, 3) := by decide +kernel
theorem dX0_keep_9 : decode cX0_keep 9 = .ok (.aload_n 0, 1) := by decide +kernel
theorem dX0_keep_10 : decode cX0_keep 10 = .ok (.aload_n 0, 1) := by decide +kernel
theorem dX0_keep_11 : decode cX0_keep 11 = .ok (.getfield 21, 3) := by decide +kernel
theorem dX0_keep_14 : decode cX0_keep 14 = .ok (.iconst 1, 1) := by decide +kernel
theorem dX0_keep_15 : decode cX0_keep 15 = .ok (.iadd, 1) := by decide +kernel
theorem dX0_keep_16 : decode cX0_keep 16 = .ok (.bipush 12, 2) := by decide +kernel
theorem dX0_keep_18 : decode cX0_keep 18 = .ok (.irem, 1) := by decide +kernel
theorem dX0_keep_19 : decode cX0_keep 19 = .ok (.putfield 21, 3) := by decide +kernel
theorem dX0_keep_22 : decode cX0_keep 22 = .ok (.aload_n 0, 1) := by decide +kernel
theorem dX0_keep_23 : decode cX0_keep 23 = .ok (.dup, 1) := by decide +kernel
theorem dX0_keep_24 : decode cX0_keep 24 = .ok (.getfield 25, 3) := by decide +kernel
theorem dX0_keep_27 : decode cX0_keep 27 = .ok (.iconst 1, 1) := by decide +kernel
theorem dX0_keep_28 : decode cX0_keep 28 = .ok (.isub, 1) := by decide +kernel
theorem dX0_keep_29 : decode cX0_keep 29 = .ok (.putfield 25, 3) := by decide +kernel
theorem dX0_keep_32 : decode cX0_keep 32 = .ok (.aload_n 0, 1) := by decide +kernel
theorem dX0_keep_33 : decode cX0_keep 33 = .ok (.getfield 21, 3) := by decide +kernel
theorem dX0_keep_36 : decode cX0_keep 36 = .ok (.aload_n 0, 1) := by decide +kernel
theorem dX0_keep_37 : decode cX0_keep 37 = .ok (.getfield 25, 3) := by decide +kernel
theorem dX0_keep_40 : decode cX0_keep 40 = .ok (.iadd, 1) := by decide +kernel
theorem dX0_keep_41 : decode cX0_keep 41 = .ok (.bipush 12, 2) := by decide +kernel
theorem dX0_keep_43 : decode cX0_keep 43 = .ok (.irem, 1) := by decide +kernel
theorem dX0_keep_44 : decode cX0_keep 44 = .ok (.istore_n 2, 1) := by decide +kernel
theorem dX0_keep_45 : decode cX0_keep 45 = .ok (.aload_n 0, 1) := by decide +kernel
theorem dX0_keep_46 : decode cX0_keep 46 = .ok (.getfield 9, 3) := by decide +kernel
theorem dX0_keep_49 : decode cX0_keep 49 = .ok (.iload_n 2, 1) := by decide +kernel
theorem dX0_keep_50 : decode cX0_keep 50 = .ok (.aload_n 1, 1) := by decide +kernel
theorem dX0_keep_51 : decode cX0_keep 51 = .ok (.getfield 28, 3) := by decide +kernel
theorem dX0_keep_54 : decode cX0_keep 54 = .ok (.iastore, 1) := by decide +kernel
theorem dX0_keep_55 : decode cX0_keep 55 = .ok (.aload_n 0, 1) := by decide +kernel
theorem dX0_keep_56 : decode cX0_keep 56 = .ok (.getfield 15, 3) := by decide +kernel
theorem dX0_keep_59 : decode cX0_keep 59 = .ok (.iload_n 2, 1) := by decide +kernel
theorem dX0_keep_60 : decode cX0_keep 60 = .ok (.aload_n 1, 1) := by decide +kernel
theorem dX0_keep_61 : decode cX0_keep 61 = .ok (.getfield 32, 3) := by decide +kernel
theorem dX0_keep_64 : decode cX0_keep 64 = .ok (.iastore, 1) := by decide +kernel
theorem dX0_keep_65 : decode cX0_keep 65 = .ok (.aload_n 0, 1) := by decide +kernel
theorem dX0_keep_66 : decode cX0_keep 66 = .ok (.getfield 18, 3) := by decide +kernel
theorem dX0_keep_69 : decode cX0_keep 69 = .ok (.iload_n 2, 1) := by decide +kernel
theorem dX0_keep_70 : decode cX0_keep 70 = .ok (.aload_n 1, 1) := by decide +kernel
theorem dX0_keep_71 : decode cX0_keep 71 = .ok (.getfield 34, 3) := by decide +kernel
theorem dX0_keep_74 : decode cX0_keep 74 = .ok (.iastore, 1) := by decide +kernel
theorem dX0_keep_75 : decode cX0_keep 75 = .ok (.aload_n 0, 1) := by decide +kernel
theorem dX0_keep_76 : decode cX0_keep 76 = .ok (.dup, 1) := by decide +kernel
theorem dX0_keep_77 : decode cX0_keep 77 = .ok (.getfield 25, 3) := by decide +kernel
theorem dX0_keep_80 : decode cX0_keep 80 = .ok (.iconst 1, 1) := by decide +kernel
theorem dX0_keep_81 : decode cX0_keep 81 = .ok (.iadd, 1) := by decide +kernel
theorem dX0_keep_82 : decode cX0_keep 82 = .ok (.putfield 25, 3) := by decide +kernel
theorem dX0_keep_85 : decode cX0_keep 85 = .ok (.return_, 1) := by decide +kernel
theorem dX0_takeBack_0 : decode cX0_takeBack 0 = .ok (.aload_n 0, 1) := by decide +kernel
theorem dX0_takeBack_1 : decode cX0_takeBack 1 = .ok (.dup, 1) := by decide +kernel
theorem dX0_takeBack_2 : decode cX0_takeBack 2 = .ok (.getfield 25, 3) := by decide +kernel
theorem dX0_takeBack_5 : decode cX0_takeBack 5 = .ok (.iconst 1, 1) := by decide +kernel
theorem dX0_takeBack_6 : decode cX0_takeBack 6 = .ok (.isub, 1) := by decide +kernel
theorem dX0_takeBack_7 : decode cX0_takeBack 7 = .ok (.putfield 25, 3) := by decide +kernel
theorem dX0_takeBack_10 : decode cX0_takeBack 10 = .ok (.aload_n 0, 1) := by decide +kernel
theorem dX0_takeBack_11 : decode cX0_takeBack 11 = .ok (.getfield 21, 3) := by decide +kernel
theorem dX0_takeBack_14 : decode cX0_takeBack 14 = .ok (.aload_n 0, 1) := by decide +kernel
theorem dX0_takeBack_15 : decode cX0_takeBack 15 = .ok (.getfield 25, 3) := by decide +kernel
theorem dX0_takeBack_18 : decode cX0_takeBack 18 = .ok (.iadd, 1) := by decide +kernel
theorem dX0_takeBack_19 : decode cX0_takeBack 19 = .ok (.bipush 12, 2) := by decide +kernel
theorem dX0_takeBack_21 : decode cX0_takeBack 21 = .ok (.irem, 1) := by decide +kernel
theorem dX0_takeBack_22 : decode cX0_takeBack 22 = .ok (.istore_n 2, 1) := by decide +kernel
theorem dX0_takeBack_23 : decode cX0_takeBack 23 = .ok (.aload_n 1, 1) := by decide +kernel
theorem dX0_takeBack_24 : decode cX0_takeBack 24 = .ok (.aload_n 0, 1) := by decide +kernel
theorem dX0_takeBack_25 : decode cX0_takeBack 25 = .ok (.getfield 9, 3) := by decide +kernel
theorem dX0_takeBack_28 : decode cX0_takeBack 28 = .ok (.iload_n 2, 1) := by decide +kernel
theorem dX0_takeBack_29 : decode cX0_takeBack 29 = .ok (.iaload, 1) := by decide +kernel
theorem dX0_takeBack_30 : decode cX0_takeBack 30 = .ok (.putfield 28, 3) := by decide +kernel
theorem dX0_takeBack_33 : decode cX0_takeBack 33 = .ok (.aload_n 1, 1) := by decide +kernel
theorem dX0_takeBack_34 : decode cX0_takeBack 34 = .ok (.aload_n 0, 1) := by decide +kernel
theorem dX0_takeBack_35 : decode cX0_takeBack 35 = .ok (.getfield 15, 3) := by decide +kernel
theorem dX0_takeBack_38 : decode cX0_takeBack 38 = .ok (.iload_n 2, 1) := by decide +kernel
theorem dX0_takeBack_39 : decode cX0_takeBack 39 = .ok (.iaload, 1) := by decide +kernel
theorem dX0_takeBack_40 : decode cX0_takeBack 40 = .ok (.putfield 32, 3) := by decide +kernel
theorem dX0_takeBack_43 : decode cX0_takeBack 43 = .ok (.aload_n 1, 1) := by decide +kernel
theorem dX0_takeBack_44 : decode cX0_takeBack 44 = .ok (.aload_n 0, 1) := by decide +kernel
theorem dX0_takeBack_45 : decode cX0_takeBack 45 = .ok (.getfield 18, 3) := by decide +kernel
theorem dX0_takeBack_48 : decode cX0_takeBack 48 = .ok (.iload_n 2, 1) := by decide +kernel
theorem dX0_takeBack_49 : decode cX0_takeBack 49 = .ok (.iaload, 1) := by decide +kernel
theorem dX0_takeBack_50 : decode cX0_takeBack 50 = .ok (.putfield 34, 3) := by decide +kernel
theorem dX0_takeBack_53 : decode cX0_takeBack 53 = .ok (.aload_n 0, 1) := by decide +kernel
theorem dX0_takeBack_54 : decode cX0_takeBack 54 = .ok (.getfield 25, 3) := by decide +kernel
theorem dX0_takeBack_57 : decode cX0_takeBack 57 = .ok (.ireturn, 1) := by decide +kernel
theorem dX1_init_0 : decode cX1_init 0 = .ok (.aload_n 0, 1) := by decide +kernel
theorem dX1_init_1 : decode cX1_init 1 = .ok (.invokespecial 3, 3) := by decide +kernel
theorem dX1_init_4 : decode cX1_init 4 = .ok (.aload_n 0, 1) := by decide +kernel
theorem dX1_init_5 : decode cX1_init 5 = .ok (.bipush 16, 2) := by decide +kernel
theorem dX1_init_7 : decode cX1_init 7 = .ok (.newarray .int, 2) := by decide +kernel
theorem dX1_init_9 : decode cX1_init 9 = .ok (.putfield 9, 3) := by decide +kernel
theorem dX1_init_12 : decode cX1_init 12 = .ok (.return_, 1) := by decide +kernel
theorem dX1_begins_0 : decode cX1_begins 0 = .ok (.aload_n 0, 1) := by decide +kernel
theorem dX1_begins_1 : decode cX1_begins 1 = .ok (.getfield 15, 3) := by decide +kernel
theorem dX1_begins_4 : decode cX1_begins 4 = .ok (.bipush 16, 2) := by decide +kernel
theorem dX1_begins_6 : decode cX1_begins 6 = .ok (.if_icmp .ge 23, 3) := by decide +kernel
theorem dX1_begins_9 : decode cX1_begins 9 = .ok (.aload_n 0, 1) := by decide +kernel
theorem dX1_begins_10 : decode cX1_begins 10 = .ok (.getfield 9, 3) := by decide +kernel
theorem dX1_begins_13 : decode cX1_begins 13 = .ok (.aload_n 0, 1) := by decide +kernel
theorem dX1_begins_14 : decode cX1_begins 14 = .ok (.getfield 15, 3) := by decide +kernel
theorem dX1_begins_17 : decode cX1_begins 17 = .ok (.iload_n 1, 1) := by decide +kernel
theorem dX1_begins_18 : decode cX1_begins 18 = .ok (.iastore, 1) := by decide +kernel
theorem dX1_begins_19 : decode cX1_begins 19 = .ok (.aload_n 0, 1) := by decide +kernel
theorem dX1_begins_20 : decode cX1_begins 20 = .ok (.dup, 1) := by decide +kernel
theorem dX1_begins_21 : decode cX1_begins 21 = .ok (.getfield 15, 3) := by decide +kernel
theorem dX1_begins_24 : decode cX1_begins 24 = .ok (.iconst 1, 1) := by decide +kernel
theorem dX1_begins_25 : decode cX1_begins 25 = .ok (.iadd, 1) := by decide +kernel
theorem dX1_begins_26 : decode cX1_begins 26 = .ok (.putfield 15, 3) := by decide +kernel
theorem dX1_begins_29 : decode cX1_begins 29 = .ok (.return_, 1) := by decide +kernel
theorem dX1_sizeOf_0 : decode cX1_sizeOf 0 = .ok (.iload_n 2, 1) := by decide +kernel
theorem dX1_sizeOf_1 : decode cX1_sizeOf 1 = .ok (.bipush 8, 2) := by decide +kernel
theorem dX1_sizeOf_3 : decode cX1_sizeOf 3 = .ok (.if_icmp .le 5, 3) := by decide +kernel
theorem dX1_sizeOf_6 : decode cX1_sizeOf 6 = .ok (.iconst 0, 1) := by decide +kernel
theorem dX1_sizeOf_7 : decode cX1_sizeOf 7 = .ok (.ireturn, 1) := by decide +kernel
theorem dX1_sizeOf_8 : decode cX1_sizeOf 8 = .ok (.aload_n 1, 1) := by decide +kernel
theorem dX1_sizeOf_9 : decode cX1_sizeOf 9 = .ok (.getfield 19, 3) := by decide +kernel
theorem dX1_sizeOf_12 : decode cX1_sizeOf 12 = .ok (.tableswitch 62 1 5 #[36, 43, 36, 50, 56], 36) := by decide +kernel
theorem dX1_sizeOf_48 : decode cX1_sizeOf 48 = .ok (.aload_n 0, 1) := by decide +kernel
theorem dX1_sizeOf_49 : decode cX1_sizeOf 49 = .ok (.aload_n 1, 1) := by decide +kernel
theorem dX1_sizeOf_50 : decode cX1_sizeOf 50 = .ok (.iload_n 2, 1) := by decide +kernel
theorem dX1_sizeOf_51 : decode cX1_sizeOf 51 = .ok (.invokevirtual 24, 3) := by decide +kernel
theorem dX1_sizeOf_54 : decode cX1_sizeOf 54 = .ok (.ireturn, 1) := by decide +kernel
theorem dX1_sizeOf_55 : decode cX1_sizeOf 55 = .ok (.aload_n 0, 1) := by decide +kernel
theorem dX1_sizeOf_56 : decode cX1_sizeOf 56 = .ok (.aload_n 1, 1) := by decide +kernel
theorem dX1_sizeOf_57 : decode cX1_sizeOf 57 = .ok (.iload_n 2, 1) := by decide +kernel
theorem dX1_sizeOf_58 : decode cX1_sizeOf 58 = .ok (.invokevirtual 28, 3) := by decide +kernel
theorem dX1_sizeOf_61 : decode cX1_sizeOf 61 = .ok (.ireturn, 1) := by decide +kernel
theorem dX1_sizeOf_62 : decode cX1_sizeOf 62 = .ok (.aload_n 0, 1) := by decide +kernel
theorem dX1_sizeOf_63 : decode cX1_sizeOf 63 = .ok (.aload_n 1, 1) := by decide +kernel
theorem dX1_sizeOf_64 : decode cX1_sizeOf 64 = .ok (.invokevirtual 31, 3) := by decide +kernel
theorem dX1_sizeOf_67 : decode cX1_sizeOf 67 = .ok (.ireturn, 1) := by decide +kernel
theorem dX1_sizeOf_68 : decode cX1_sizeOf 68 = .ok (.aload_n 0, 1) := by decide +kernel
theorem dX1_sizeOf_69 : decode cX1_sizeOf 69 = .ok (.aload_n 1, 1) := by decide +kernel
theorem dX1_sizeOf_70 : decode cX1_sizeOf 70 = .ok (.invokevirtual 35, 3) := by decide +kernel
theorem dX1_sizeOf_73 : decode cX1_sizeOf 73 = .ok (.ireturn, 1) := by decide +kernel
theorem dX1_sizeOf_74 : decode cX1_sizeOf 74 = .ok (.aload_n 0, 1) := by decide +kernel
theorem dX1_sizeOf_75 : decode cX1_sizeOf 75 = .ok (.aload_n 1, 1) := by decide +kernel
theorem dX1_sizeOf_76 : decode cX1_sizeOf 76 = .ok (.invokevirtual 38, 3) := by decide +kernel
theorem dX1_sizeOf_79 : decode cX1_sizeOf 79 = .ok (.ireturn, 1) := by decide +kernel
theorem dX1_sizeOfAny_0 : decode cX1_sizeOfAny 0 = .ok (.aload_n 0, 1) := by decide +kernel
theorem dX1_sizeOfAny_1 : decode cX1_sizeOfAny 1 = .ok (.bipush 10, 2) := by decide +kernel
theorem dX1_sizeOfAny_3 : decode cX1_sizeOfAny 3 = .ok (.invokevirtual 41, 3) := by decide +kernel
theorem dX1_sizeOfAny_6 : decode cX1_sizeOfAny 6 = .ok (.aload_n 1, 1) := by decide +kernel
theorem dX1_sizeOfAny_7 : decode cX1_sizeOfAny 7 = .ok (.invokevirtual 45, 3) := by decide +kernel
theorem dX1_sizeOfAny_10 : decode cX1_sizeOfAny 10 = .ok (.ireturn, 1) := by decide +kernel
theorem dX1_sizeOfGiven_0 : decode cX1_sizeOfGiven 0 = .ok (.aload_n 0, 1) := by decide +kernel
theorem dX1_sizeOfGiven_1 : decode cX1_sizeOfGiven 1 = .ok (.bipush 11, 2) := by decide +kernel
theorem dX1_sizeOfGiven_3 : decode cX1_sizeOfGiven 3 = .ok (.invokevirtual 41, 3) := by decide +kernel
theorem dX1_sizeOfGiven_6 : decode cX1_sizeOfGiven 6 = .ok (.aload_n 0, 1) := by decide +kernel
theorem dX1_sizeOfGiven_7 : decode cX1_sizeOfGiven 7 = .ok (.aload_n 1, 1) := by decide +kernel
theorem dX1_sizeOfGiven_8 : decode cX1_sizeOfGiven 8 = .ok (.invokevirtual 38, 3) := by decide +kernel
theorem dX1_sizeOfGiven_11 : decode cX1_sizeOfGiven 11 = .ok (.istore_n 3, 1) := by decide +kernel
theorem dX1_sizeOfGiven_12 : decode cX1_sizeOfGiven 12 = .ok (.iload_n 3, 1) := by decide +kernel
theorem dX1_sizeOfGiven_13 : decode cX1_sizeOfGiven 13 = .ok (.aload_n 0, 1) := by decide +kernel
theorem dX1_sizeOfGiven_14 : decode cX1_sizeOfGiven 14 = .ok (.aload_n 1, 1) := by decide +kernel
theorem dX1_sizeOfGiven_15 : decode cX1_sizeOfGiven 15 = .ok (.iload_n 2, 1) := by decide +kernel
theorem dX1_sizeOfGiven_16 : decode cX1_sizeOfGiven 16 = .ok (.iconst 1, 1) := by decide +kernel
theorem dX1_sizeOfGiven_17 : decode cX1_sizeOfGiven 17 = .ok (.iadd, 1) := by decide +kernel
theorem dX1_sizeOfGiven_18 : decode cX1_sizeOfGiven 18 = .ok (.invokevirtual 49, 3) := by decide +kernel
theorem dX1_sizeOfGiven_21 : decode cX1_sizeOfGiven 21 = .ok (.iadd, 1) := by decide +kernel
theorem dX1_sizeOfGiven_22 : decode cX1_sizeOfGiven 22 = .ok (.ireturn, 1) := by decide +kernel
theorem dX1_sizeOfAxiom_0 : decode cX1_sizeOfAxiom 0 = .ok (.aload_n 0, 1) := by decide +kernel
theorem dX1_sizeOfAxiom_1 : decode cX1_sizeOfAxiom 1 = .ok (.bipush 12, 2) := by decide +kernel
theorem dX1_sizeOfAxiom_3 : decode cX1_sizeOfAxiom 3 = .ok (.invokevirtual 41, 3) := by decide +kernel
theorem dX1_sizeOfAxiom_6 : decode cX1_sizeOfAxiom 6 = .ok (.aload_n 0, 1) := by decide +kernel
theorem dX1_sizeOfAxiom_7 : decode cX1_sizeOfAxiom 7 = .ok (.aload_n 1, 1) := by decide +kernel
theorem dX1_sizeOfAxiom_8 : decode cX1_sizeOfAxiom 8 = .ok (.iload_n 2, 1) := by decide +kernel
theorem dX1_sizeOfAxiom_9 : decode cX1_sizeOfAxiom 9 = .ok (.invokevirtual 24, 3) := by decide +kernel
theorem dX1_sizeOfAxiom_12 : decode cX1_sizeOfAxiom 12 = .ok (.ineg, 1) := by decide +kernel
theorem dX1_sizeOfAxiom_13 : decode cX1_sizeOfAxiom 13 = .ok (.ireturn, 1) := by decide +kernel
theorem dX1_sizeOfDerived_0 : decode cX1_sizeOfDerived 0 = .ok (.aload_n 0, 1) := by decide +kernel
theorem dX1_sizeOfDerived_1 : decode cX1_sizeOfDerived 1 = .ok (.bipush 13, 2) := by decide +kernel
theorem dX1_sizeOfDerived_3 : decode cX1_sizeOfDerived 3 = .ok (.invokevirtual 41, 3) := by decide +kernel
theorem dX1_sizeOfDerived_6 : decode cX1_sizeOfDerived 6 = .ok (.aload_n 0, 1) := by decide +kernel
theorem dX1_sizeOfDerived_7 : decode cX1_sizeOfDerived 7 = .ok (.aload_n 1, 1) := by decide +kernel
theorem dX1_sizeOfDerived_8 : decode cX1_sizeOfDerived 8 = .ok (.invokevirtual 38, 3) := by decide +kernel
theorem dX1_sizeOfDerived_11 : decode cX1_sizeOfDerived 11 = .ok (.bipush 100, 2) := by decide +kernel
theorem dX1_sizeOfDerived_13 : decode cX1_sizeOfDerived 13 = .ok (.isub, 1) := by decide +kernel
theorem dX1_sizeOfDerived_14 : decode cX1_sizeOfDerived 14 = .ok (.ireturn, 1) := by decide +kernel
theorem dX1_sizeOfClaimed_0 : decode cX1_sizeOfClaimed 0 = .ok (.aload_n 0, 1) := by decide +kernel
theorem dX1_sizeOfClaimed_1 : decode cX1_sizeOfClaimed 1 = .ok (.bipush 14, 2) := by decide +kernel
theorem dX1_sizeOfClaimed_3 : decode cX1_sizeOfClaimed 3 = .ok (.invokevirtual 41, 3) := by decide +kernel
theorem dX1_sizeOfClaimed_6 : decode cX1_sizeOfClaimed 6 = .ok (.iconst 2, 1) := by decide +kernel
theorem dX1_sizeOfClaimed_7 : decode cX1_sizeOfClaimed 7 = .ok (.aload_n 0, 1) := by decide +kernel
theorem dX1_sizeOfClaimed_8 : decode cX1_sizeOfClaimed 8 = .ok (.aload_n 1, 1) := by decide +kernel
theorem dX1_sizeOfClaimed_9 : decode cX1_sizeOfClaimed 9 = .ok (.invokevirtual 31, 3) := by decide +kernel
theorem dX1_sizeOfClaimed_12 : decode cX1_sizeOfClaimed 12 = .ok (.imul, 1) := by decide +kernel
theorem dX1_sizeOfClaimed_13 : decode cX1_sizeOfClaimed 13 = .ok (.ireturn, 1) := by decide +kernel
theorem dX1_markOf_0 : decode cX1_markOf 0 = .ok (.iload_n 2, 1) := by decide +kernel
theorem dX1_markOf_1 : decode cX1_markOf 1 = .ok (.bipush 8, 2) := by decide +kernel
theorem dX1_markOf_3 : decode cX1_markOf 3 = .ok (.if_icmp .le 5, 3) := by decide +kernel
theorem dX1_markOf_6 : decode cX1_markOf 6 = .ok (.iconst 0, 1) := by decide +kernel
theorem dX1_markOf_7 : decode cX1_markOf 7 = .ok (.ireturn, 1) := by decide +kernel
theorem dX1_markOf_8 : decode cX1_markOf 8 = .ok (.aload_n 1, 1) := by decide +kernel
theorem dX1_markOf_9 : decode cX1_markOf 9 = .ok (.getfield 19, 3) := by decide +kernel
theorem dX1_markOf_12 : decode cX1_markOf 12 = .ok (.tableswitch 61 1 5 #[36, 42, 48, 54, 54], 36) := by decide +kernel
theorem dX1_markOf_48 : decode cX1_markOf 48 = .ok (.aload_n 0, 1) := by decide +kernel
theorem dX1_markOf_49 : decode cX1_markOf 49 = .ok (.aload_n 1, 1) := by decide +kernel
theorem dX1_markOf_50 : decode cX1_markOf 50 = .ok (.invokevirtual 52, 3) := by decide +kernel
theorem dX1_markOf_53 : decode cX1_markOf 53 = .ok (.ireturn, 1) := by decide +kernel
theorem dX1_markOf_54 : decode cX1_markOf 54 = .ok (.aload_n 0, 1) := by decide +kernel
theorem dX1_markOf_55 : decode cX1_markOf 55 = .ok (.aload_n 1, 1) := by decide +kernel
theorem dX1_markOf_56 : decode cX1_markOf 56 = .ok (.invokevirtual 55, 3) := by decide +kernel
theorem dX1_markOf_59 : decode cX1_markOf 59 = .ok (.ireturn, 1) := by decide +kernel
theorem dX1_markOf_60 : decode cX1_markOf 60 = .ok (.aload_n 0, 1) := by decide +kernel
theorem dX1_markOf_61 : decode cX1_markOf 61 = .ok (.aload_n 1, 1) := by decide +kernel
theorem dX1_markOf_62 : decode cX1_markOf 62 = .ok (.invokevirtual 58, 3) := by decide +kernel
theorem dX1_markOf_65 : decode cX1_markOf 65 = .ok (.ireturn, 1) := by decide +kernel
theorem dX1_markOf_66 : decode cX1_markOf 66 = .ok (.aload_n 0, 1) := by decide +kernel
theorem dX1_markOf_67 : decode cX1_markOf 67 = .ok (.aload_n 1, 1) := by decide +kernel
theorem dX1_markOf_68 : decode cX1_markOf 68 = .ok (.iload_n 2, 1) := by decide +kernel
theorem dX1_markOf_69 : decode cX1_markOf 69 = .ok (.invokevirtual 61, 3) := by decide +kernel
theorem dX1_markOf_72 : decode cX1_markOf 72 = .ok (.ireturn, 1) := by decide +kernel
theorem dX1_markOf_73 : decode cX1_markOf 73 = .ok (.aload_n 0, 1) := by decide +kernel
theorem dX1_markOf_74 : decode cX1_markOf 74 = .ok (.aload_n 1, 1) := by decide +kernel
theorem dX1_markOf_75 : decode cX1_markOf 75 = .ok (.invokevirtual 64, 3) := by decide +kernel
theorem dX1_markOf_78 : decode cX1_markOf 78 = .ok (.ireturn, 1) := by decide +kernel
theorem dX1_markOfAny_0 : decode cX1_markOfAny 0 = .ok (.aload_n 0, 1) := by decide +kernel
theorem dX1_markOfAny_1 : decode cX1_markOfAny 1 = .ok (.bipush 20, 2) := by decide +kernel
theorem dX1_markOfAny_3 : decode cX1_markOfAny 3 = .ok (.invokevirtual 41, 3) := by decide +kernel
theorem dX1_markOfAny_6 : decode cX1_markOfAny 6 = .ok (.aload_n 1, 1) := by decide +kernel
theorem dX1_markOfAny_7 : decode cX1_markOfAny 7 = .ok (.getfield 67, 3) := by decide +kernel
theorem dX1_markOfAny_10 : decode cX1_markOfAny 10 = .ok (.ireturn, 1) := by decide +kernel
theorem dX1_markOfGiven_0 : decode cX1_markOfGiven 0 = .ok (.aload_n 0, 1) := by decide +kernel
theorem dX1_markOfGiven_1 : decode cX1_markOfGiven 1 = .ok (.bipush 21, 2) := by decide +kernel
theorem dX1_markOfGiven_3 : decode cX1_markOfGiven 3 = .ok (.invokevirtual 41, 3) := by decide +kernel
theorem dX1_markOfGiven_6 : decode cX1_markOfGiven 6 = .ok (.aload_n 0, 1) := by decide +kernel
theorem dX1_markOfGiven_7 : decode cX1_markOfGiven 7 = .ok (.aload_n 1, 1) := by decide +kernel
theorem dX1_markOfGiven_8 : decode cX1_markOfGiven 8 = .ok (.invokevirtual 64, 3) := by decide +kernel
theorem dX1_markOfGiven_11 : decode cX1_markOfGiven 11 = .ok (.aload_n 1, 1) := by decide +kernel
theorem dX1_markOfGiven_12 : decode cX1_markOfGiven 12 = .ok (.invokevirtual 70, 3) := by decide +kernel
theorem dX1_markOfGiven_15 : decode cX1_markOfGiven 15 = .ok (.iadd, 1) := by decide +kernel
theorem dX1_markOfGiven_16 : decode cX1_markOfGiven 16 = .ok (.ireturn, 1) := by decide +kernel
theorem dX1_markOfBound_0 : decode cX1_markOfBound 0 = .ok (.aload_n 0, 1) := by decide +kernel
theorem dX1_markOfBound_1 : decode cX1_markOfBound 1 = .ok (.bipush 22, 2) := by decide +kernel
theorem dX1_markOfBound_3 : decode cX1_markOfBound 3 = .ok (.invokevirtual 41, 3) := by decide +kernel
theorem dX1_markOfBound_6 : decode cX1_markOfBound 6 = .ok (.aload_n 0, 1) := by decide +kernel
theorem dX1_markOfBound_7 : decode cX1_markOfBound 7 = .ok (.aload_n 1, 1) := by decide +kernel
theorem dX1_markOfBound_8 : decode cX1_markOfBound 8 = .ok (.invokevirtual 52, 3) := by decide +kernel
theorem dX1_markOfBound_11 : decode cX1_markOfBound 11 = .ok (.sipush 1000, 3) := by decide +kernel
theorem dX1_markOfBound_14 : decode cX1_markOfBound 14 = .ok (.isub, 1) := by decide +kernel
theorem dX1_markOfBound_15 : decode cX1_markOfBound 15 = .ok (.ireturn, 1) := by decide +kernel
theorem dX1_markOfDerived_0 : decode cX1_markOfDerived 0 = .ok (.aload_n 0, 1) := by decide +kernel
theorem dX1_markOfDerived_1 : decode cX1_markOfDerived 1 = .ok (.bipush 23, 2) := by decide +kernel
theorem dX1_markOfDerived_3 : decode cX1_markOfDerived 3 = .ok (.invokevirtual 41, 3) := by decide +kernel
theorem dX1_markOfDerived_6 : decode cX1_markOfDerived 6 = .ok (.aload_n 0, 1) := by decide +kernel
theorem dX1_markOfDerived_7 : decode cX1_markOfDerived 7 = .ok (.aload_n 1, 1) := by decide +kernel
theorem dX1_markOfDerived_8 : decode cX1_markOfDerived 8 = .ok (.invokevirtual 64, 3) := by decide +kernel
theorem dX1_markOfDerived_11 : decode cX1_markOfDerived 11 = .ok (.istore_n 3, 1) := by decide +kernel
theorem dX1_markOfDerived_12 : decode cX1_markOfDerived 12 = .ok (.iload_n 3, 1) := by decide +kernel
theorem dX1_markOfDerived_13 : decode cX1_markOfDerived 13 = .ok (.aload_n 0, 1) := by decide +kernel
theorem dX1_markOfDerived_14 : decode cX1_markOfDerived 14 = .ok (.aload_n 1, 1) := by decide +kernel
theorem dX1_markOfDerived_15 : decode cX1_markOfDerived 15 = .ok (.iload_n 2, 1) := by decide +kernel
theorem dX1_markOfDerived_16 : decode cX1_markOfDerived 16 = .ok (.iconst 1, 1) := by decide +kernel
theorem dX1_markOfDerived_17 : decode cX1_markOfDerived 17 = .ok (.iadd, 1) := by decide +kernel
theorem dX1_markOfDerived_18 : decode cX1_markOfDerived 18 = .ok (.invokevirtual 73, 3) := by decide +kernel
theorem dX1_markOfDerived_21 : decode cX1_markOfDerived 21 = .ok (.isub, 1) := by decide +kernel
theorem dX1_markOfDerived_22 : decode cX1_markOfDerived 22 = .ok (.ireturn, 1) := by decide +kernel
theorem dX1_markOfAxiom_0 : decode cX1_markOfAxiom 0 = .ok (.aload_n 0, 1) := by decide +kernel
theorem dX1_markOfAxiom_1 : decode cX1_markOfAxiom 1 = .ok (.bipush 24, 2) := by decide +kernel
theorem dX1_markOfAxiom_3 : decode cX1_markOfAxiom 3 = .ok (.invokevirtual 41, 3) := by decide +kernel
theorem dX1_markOfAxiom_6 : decode cX1_markOfAxiom 6 = .ok (.iconst 2, 1) := by decide +kernel
theorem dX1_markOfAxiom_7 : decode cX1_markOfAxiom 7 = .ok (.aload_n 0, 1) := by decide +kernel
theorem dX1_markOfAxiom_8 : decode cX1_markOfAxiom 8 = .ok (.aload_n 1, 1) := by decide +kernel
theorem dX1_markOfAxiom_9 : decode cX1_markOfAxiom 9 = .ok (.invokevirtual 52, 3) := by decide +kernel
theorem dX1_markOfAxiom_12 : decode cX1_markOfAxiom 12 = .ok (.imul, 1) := by decide +kernel
theorem dX1_markOfAxiom_13 : decode cX1_markOfAxiom 13 = .ok (.ireturn, 1) := by decide +kernel
theorem dX2_init_0 : decode cX2_init 0 = .ok (.aload_n 0, 1) := by decide +kernel
theorem dX2_init_1 : decode cX2_init 1 = .ok (.invokespecial 3, 3) := by decide +kernel
theorem dX2_init_4 : decode cX2_init 4 = .ok (.aload_n 0, 1) := by decide +kernel
theorem dX2_init_5 : decode cX2_init 5 = .ok (.bipush 30, 2) := by decide +kernel
theorem dX2_init_7 : decode cX2_init 7 = .ok (.anewarray 9, 3) := by decide +kernel
theorem dX2_init_10 : decode cX2_init 10 = .ok (.putfield 11, 3) := by decide +kernel
theorem dX2_init_13 : decode cX2_init 13 = .ok (.aload_n 0, 1) := by decide +kernel
theorem dX2_init_14 : decode cX2_init 14 = .ok (.bipush 8, 2) := by decide +kernel
theorem dX2_init_16 : decode cX2_init 16 = .ok (.newarray .int, 2) := by decide +kernel
theorem dX2_init_18 : decode cX2_init 18 = .ok (.putfield 17, 3) := by decide +kernel
theorem dX2_init_21 : decode cX2_init 21 = .ok (.aload_n 0, 1) := by decide +kernel
theorem dX2_init_22 : decode cX2_init 22 = .ok (.ldc 21, 2) := by decide +kernel
theorem dX2_init_24 : decode cX2_init 24 = .ok (.putfield 22, 3) := by decide +kernel
theorem dX2_init_27 : decode cX2_init 27 = .ok (.iconst 0, 1) := by decide +kernel
theorem dX2_init_28 : decode cX2_init 28 = .ok (.istore_n 1, 1) := by decide +kernel
theorem dX2_init_29 : decode cX2_init 29 = .ok (.iload_n 1, 1) := by decide +kernel
theorem dX2_init_30 : decode cX2_init 30 = .ok (.bipush 30, 2) := by decide +kernel
theorem dX2_init_32 : decode cX2_init 32 = .ok (.if_icmp .ge 23, 3) := by decide +kernel
theorem dX2_init_35 : decode cX2_init 35 = .ok (.aload_n 0, 1) := by decide +kernel
theorem dX2_init_36 : decode cX2_init 36 = .ok (.getfield 11, 3) := by decide +kernel
theorem dX2_init_39 : decode cX2_init 39 = .ok (.iload_n 1, 1) := by decide +kernel
theorem dX2_init_40 : decode cX2_init 40 = .ok (.new 9, 3) := by decide +kernel
theorem dX2_init_43 : decode cX2_init 43 = .ok (.dup, 1) := by decide +kernel
theorem dX2_init_44 : decode cX2_init 44 = .ok (.iload_n 1, 1) := by decide +kernel
theorem dX2_init_45 : decode cX2_init 45 = .ok (.invokespecial 26, 3) := by decide +kernel
theorem dX2_init_48 : decode cX2_init 48 = .ok (.aastore, 1) := by decide +kernel
theorem dX2_init_49 : decode cX2_init 49 = .ok (.iinc 1 1, 3) := by decide +kernel
theorem dX2_init_52 : decode cX2_init 52 = .ok (.goto (-23), 3) := by decide +kernel
theorem dX2_init_55 : decode cX2_init 55 = .ok (.return_, 1) := by decide +kernel
theorem dX2_begin_0 : decode cX2_begin 0 = .ok (.aload_n 1, 1) := by decide +kernel
theorem dX2_begin_1 : decode cX2_begin 1 = .ok (.iconst 0, 1) := by decide +kernel
theorem dX2_begin_2 : decode cX2_begin 2 = .ok (.aload_n 0, 1) := by decide +kernel
theorem dX2_begin_3 : decode cX2_begin 3 = .ok (.getfield 17, 3) := by decide +kernel
theorem dX2_begin_6 : decode cX2_begin 6 = .ok (.iconst 0, 1) := by decide +kernel
theorem dX2_begin_7 : decode cX2_begin 7 = .ok (.bipush 8, 2) := by decide +kernel
theorem dX2_begin_9 : decode cX2_begin 9 = .ok (.invokestatic 29, 3) := by decide +kernel
theorem dX2_begin_12 : decode cX2_begin 12 = .ok (.aload_n 0, 1) := by decide +kernel
theorem dX2_begin_13 : decode cX2_begin 13 = .ok (.iconst 1, 1) := by decide +kernel
theorem dX2_begin_14 : decode cX2_begin 14 = .ok (.putfield 35, 3) := by decide +kernel
theorem dX2_begin_17 : decode cX2_begin 17 = .ok (.aload_n 0, 1) := by decide +kernel
theorem dX2_begin_18 : decode cX2_begin 18 = .ok (.iconst 0, 1) := by decide +kernel
theorem dX2_begin_19 : decode cX2_begin 19 = .ok (.putfield 39, 3) := by decide +kernel
theorem dX2_begin_22 : decode cX2_begin 22 = .ok (.aload_n 0, 1) := by decide +kernel
theorem dX2_begin_23 : decode cX2_begin 23 = .ok (.iconst 0, 1) := by decide +kernel
theorem dX2_begin_24 : decode cX2_begin 24 = .ok (.putfield 42, 3) := by decide +kernel
theorem dX2_begin_27 : decode cX2_begin 27 = .ok (.aload_n 0, 1) := by decide +kernel
theorem dX2_begin_28 : decode cX2_begin 28 = .ok (.ldc 21, 2) := by decide +kernel
theorem dX2_begin_30 : decode cX2_begin 30 = .ok (.putfield 22, 3) := by decide +kernel
theorem dX2_begin_33 : decode cX2_begin 33 = .ok (.return_, 1) := by decide +kernel
theorem dX2_become_0 : decode cX2_become 0 = .ok (.aload_n 0, 1) := by decide +kernel
theorem dX2_become_1 : decode cX2_become 1 = .ok (.aload_n 1, 1) := by decide +kernel
theorem dX2_become_2 : decode cX2_become 2 = .ok (.getfield 17, 3) := by decide +kernel
theorem dX2_become_5 : decode cX2_become 5 = .ok (.invokevirtual 45, 3) := by decide +kernel
theorem dX2_become_8 : decode cX2_become 8 = .ok (.iconst 0, 1) := by decide +kernel
theorem dX2_become_9 : decode cX2_become 9 = .ok (.istore_n 2, 1) := by decide +kernel
theorem dX2_become_10 : decode cX2_become 10 = .ok (.iload_n 2, 1) := by decide +kernel
theorem dX2_become_11 : decode cX2_become 11 = .ok (.aload_n 1, 1) := by decide +kernel
theorem dX2_become_12 : decode cX2_become 12 = .ok (.getfield 39, 3) := by decide +kernel
theorem dX2_become_15 : decode cX2_become 15 = .ok (.if_icmp .ge 24, 3) := by decide +kernel
theorem dX2_become_18 : decode cX2_become 18 = .ok (.aload_n 0, 1) := by decide +kernel
theorem dX2_become_19 : decode cX2_become 19 = .ok (.getfield 11, 3) := by decide +kernel
theorem dX2_become_22 : decode cX2_become 22 = .ok (.iload_n 2, 1) := by decide +kernel
theorem dX2_become_23 : decode cX2_become 23 = .ok (.aaload, 1) := by decide +kernel
theorem dX2_become_24 : decode cX2_become 24 = .ok (.aload_n 1, 1) := by decide +kernel
theorem dX2_become_25 : decode cX2_become 25 = .ok (.getfield 11, 3) := by decide +kernel
theorem dX2_become_28 : decode cX2_become 28 = .ok (.iload_n 2, 1) := by decide +kernel
theorem dX2_become_29 : decode cX2_become 29 = .ok (.aaload, 1) := by decide +kernel
theorem dX2_become_30 : decode cX2_become 30 = .ok (.invokevirtual 49, 3) := by decide +kernel
theorem dX2_become_33 : decode cX2_become 33 = .ok (.iinc 2 1, 3) := by decide +kernel
theorem dX2_become_36 : decode cX2_become 36 = .ok (.goto (-26), 3) := by decide +kernel
theorem dX2_become_39 : decode cX2_become 39 = .ok (.aload_n 0, 1) := by decide +kernel
theorem dX2_become_40 : decode cX2_become 40 = .ok (.aload_n 1, 1) := by decide +kernel
theorem dX2_become_41 : decode cX2_become 41 = .ok (.getfield 39, 3) := by decide +kernel
theorem dX2_become_44 : decode cX2_become 44 = .ok (.putfield 39, 3) := by decide +kernel
theorem dX2_become_47 : decode cX2_become 47 = .ok (.aload_n 0, 1) := by decide +kernel
theorem dX2_become_48 : decode cX2_become 48 = .ok (.aload_n 1, 1) := by decide +kernel
theorem dX2_become_49 : decode cX2_become 49 = .ok (.getfield 42, 3) := by decide +kernel
theorem dX2_become_52 : decode cX2_become 52 = .ok (.putfield 42, 3) := by decide +kernel
theorem dX2_become_55 : decode cX2_become 55 = .ok (.aload_n 0, 1) := by decide +kernel
theorem dX2_become_56 : decode cX2_become 56 = .ok (.aload_n 1, 1) := by decide +kernel
theorem dX2_become_57 : decode cX2_become 57 = .ok (.getfield 22, 3) := by decide +kernel
theorem dX2_become_60 : decode cX2_become 60 = .ok (.putfield 22, 3) := by decide +kernel
theorem dX2_become_63 : decode cX2_become 63 = .ok (.return_, 1) := by decide +kernel
theorem dX2_has_0 : decode cX2_has 0 = .ok (.iload_n 1, 1) := by decide +kernel
theorem dX2_has_1 : decode cX2_has 1 = .ok (.ifCond .lt 23, 3) := by decide +kernel
theorem dX2_has_4 : decode cX2_has 4 = .ok (.iload_n 1, 1) := by decide +kernel
theorem dX2_has_5 : decode cX2_has 5 = .ok (.aload_n 0, 1) := by decide +kernel
theorem dX2_has_6 : decode cX2_has 6 = .ok (.getfield 39, 3) := by decide +kernel
theorem dX2_has_9 : decode cX2_has 9 = .ok (.if_icmp .ge 15, 3) := by decide +kernel
theorem dX2_has_12 : decode cX2_has 12 = .ok (.aload_n 0, 1) := by decide +kernel
theorem dX2_has_13 : decode cX2_has 13 = .ok (.iload_n 1, 1) := by decide +kernel
theorem dX2_has_14 : decode cX2_has 14 = .ok (.invokevirtual 53, 3) := by decide +kernel
theorem dX2_has_17 : decode cX2_has 17 = .ok (.ifCond .eq 7, 3) := by decide +kernel
theorem dX2_has_20 : decode cX2_has 20 = .ok (.iconst 1, 1) := by decide +kernel
theorem dX2_has_21 : decode cX2_has 21 = .ok (.goto 4, 3) := by decide +kernel
theorem dX2_has_24 : decode cX2_has 24 = .ok (.iconst 0, 1) := by decide +kernel
theorem dX2_has_25 : decode cX2_has 25 = .ok (.ireturn, 1) := by decide +kernel
theorem dX2_isLive_0 : decode cX2_isLive 0 = .ok (.aload_n 0, 1) := by decide +kernel
theorem dX2_isLive_1 : decode cX2_isLive 1 = .ok (.getfield 42, 3) := by decide +kernel
theorem dX2_isLive_4 : decode cX2_isLive 4 = .ok (.iload_n 1, 1) := by decide +kernel
theorem dX2_isLive_5 : decode cX2_isLive 5 = .ok (.iushr, 1) := by decide +kernel
theorem dX2_isLive_6 : decode cX2_isLive 6 = .ok (.iconst 1, 1) := by decide +kernel
theorem dX2_isLive_7 : decode cX2_isLive 7 = .ok (.iand, 1) := by decide +kernel
theorem dX2_isLive_8 : decode cX2_isLive 8 = .ok (.iconst 1, 1) := by decide +kernel
theorem dX2_isLive_9 : decode cX2_isLive 9 = .ok (.if_icmp .ne 7, 3) := by decide +kernel
theorem dX2_isLive_12 : decode cX2_isLive 12 = .ok (.iconst 1, 1) := by decide +kernel
theorem dX2_isLive_13 : decode cX2_isLive 13 = .ok (.goto 4, 3) := by decide +kernel
theorem dX2_isLive_16 : decode cX2_isLive 16 = .ok (.iconst 0, 1) := by decide +kernel
theorem dX2_isLive_17 : decode cX2_isLive 17 = .ok (.ireturn, 1) := by decide +kernel
theorem dX2_isFull_0 : decode cX2_isFull 0 = .ok (.aload_n 0, 1) := by decide +kernel
theorem dX2_isFull_1 : decode cX2_isFull 1 = .ok (.getfield 39, 3) := by decide +kernel
theorem dX2_isFull_4 : decode cX2_isFull 4 = .ok (.bipush 30, 2) := by decide +kernel
theorem dX2_isFull_6 : decode cX2_isFull 6 = .ok (.if_icmp .lt 7, 3) := by decide +kernel
theorem dX2_isFull_9 : decode cX2_isFull 9 = .ok (.iconst 1, 1) := by decide +kernel
theorem dX2_isFull_10 : decode cX2_isFull 10 = .ok (.goto 4, 3) := by decide +kernel
theorem dX2_isFull_13 : decode cX2_isFull 13 = .ok (.iconst 0, 1) := by decide +kernel
theorem dX2_isFull_14 : decode cX2_isFull 14 = .ok (.ireturn, 1) := by decide +kernel
theorem dX2_next_0 : decode cX2_next 0 = .ok (.aload_n 0, 1) := by decide +kernel
theorem dX2_next_1 : decode cX2_next 1 = .ok (.getfield 11, 3) := by decide +kernel
theorem dX2_next_4 : decode cX2_next 4 = .ok (.aload_n 0, 1) := by decide +kernel
theorem dX2_next_5 : decode cX2_next 5 = .ok (.getfield 39, 3) := by decide +kernel
theorem dX2_next_8 : decode cX2_next 8 = .ok (.aaload, 1) := by decide +kernel
theorem dX2_next_9 : decode cX2_next 9 = .ok (.areturn, 1) := by decide +kernel
theorem dX2_add_0 : decode cX2_add 0 = .ok (.aload_n 0, 1) := by decide +kernel
theorem dX2_add_1 : decode cX2_add 1 = .ok (.getfield 11, 3) := by decide +kernel
theorem dX2_add_4 : decode cX2_add 4 = .ok (.aload_n 0, 1) := by decide +kernel
theorem dX2_add_5 : decode cX2_add 5 = .ok (.getfield 39, 3) := by decide +kernel
theorem dX2_add_8 : decode cX2_add 8 = .ok (.aaload, 1) := by decide +kernel
theorem dX2_add_9 : decode cX2_add 9 = .ok (.iload_n 1, 1) := by decide +kernel
theorem dX2_add_10 : decode cX2_add 10 = .ok (.putfield 57, 3) := by decide +kernel
theorem dX2_add_13 : decode cX2_add 13 = .ok (.aload_n 0, 1) := by decide +kernel
theorem dX2_add_14 : decode cX2_add 14 = .ok (.dup, 1) := by decide +kernel
theorem dX2_add_15 : decode cX2_add 15 = .ok (.getfield 42, 3) := by decide +kernel
theorem dX2_add_18 : decode cX2_add 18 = .ok (.iconst 1, 1) := by decide +kernel
theorem dX2_add_19 : decode cX2_add 19 = .ok (.aload_n 0, 1) := by decide +kernel
theorem dX2_add_20 : decode cX2_add 20 = .ok (.getfield 39, 3) := by decide +kernel
theorem dX2_add_23 : decode cX2_add 23 = .ok (.ishl, 1) := by decide +kernel
theorem dX2_add_24 : decode cX2_add 24 = .ok (.ior, 1) := by decide +kernel
theorem dX2_add_25 : decode cX2_add 25 = .ok (.putfield 42, 3) := by decide +kernel
theorem dX2_add_28 : decode cX2_add 28 = .ok (.aload_n 0, 1) := by decide +kernel
theorem dX2_add_29 : decode cX2_add 29 = .ok (.dup, 1) := by decide +kernel
theorem dX2_add_30 : decode cX2_add 30 = .ok (.getfield 39, 3) := by decide +kernel
theorem dX2_add_33 : decode cX2_add 33 = .ok (.iconst 1, 1) := by decide +kernel
theorem dX2_add_34 : decode cX2_add 34 = .ok (.iadd, 1) := by decide +kernel
theorem dX2_add_35 : decode cX2_add 35 = .ok (.putfield 39, 3) := by decide +kernel
theorem dX2_add_38 : decode cX2_add 38 = .ok (.aload_n 0, 1) := by decide +kernel
theorem dX2_add_39 : decode cX2_add 39 = .ok (.getfield 39, 3) := by decide +kernel
theorem dX2_add_42 : decode cX2_add 42 = .ok (.iconst 1, 1) := by decide +kernel
theorem dX2_add_43 : decode cX2_add 43 = .ok (.isub, 1) := by decide +kernel
theorem dX2_add_44 : decode cX2_add 44 = .ok (.ireturn, 1) := by decide +kernel
theorem dX2_isBeyond_0 : decode cX2_isBeyond 0 = .ok (.iconst 0, 1) := by decide +kernel
theorem dX2_isBeyond_1 : decode cX2_isBeyond 1 = .ok (.istore_n 1, 1) := by decide +kernel
theorem dX2_isBeyond_2 : decode cX2_isBeyond 2 = .ok (.iload_n 1, 1) := by decide +kernel
theorem dX2_isBeyond_3 : decode cX2_isBeyond 3 = .ok (.aload_n 0, 1) := by decide +kernel
theorem dX2_isBeyond_4 : decode cX2_isBeyond 4 = .ok (.getfield 39, 3) := by decide +kernel
theorem dX2_isBeyond_7 : decode cX2_isBeyond 7 = .ok (.if_icmp .ge 31, 3) := by decide +kernel
theorem dX2_isBeyond_10 : decode cX2_isBeyond 10 = .ok (.aload_n 0, 1) := by decide +kernel
theorem dX2_isBeyond_11 : decode cX2_isBeyond 11 = .ok (.iload_n 1, 1) := by decide +kernel
theorem dX2_isBeyond_12 : decode cX2_isBeyond 12 = .ok (.invokevirtual 53, 3) := by decide +kernel
theorem dX2_isBeyond_15 : decode cX2_isBeyond 15 = .ok (.ifCond .eq 17, 3) := by decide +kernel
theorem dX2_isBeyond_18 : decode cX2_isBeyond 18 = .ok (.aload_n 0, 1) := by decide +kernel
theorem dX2_isBeyond_19 : decode cX2_isBeyond 19 = .ok (.getfield 11, 3) := by decide +kernel
theorem dX2_isBeyond_22 : decode cX2_isBeyond 22 = .ok (.iload_n 1, 1) := by decide +kernel
theorem dX2_isBeyond_23 : decode cX2_isBeyond 23 = .ok (.aaload, 1) := by decide +kernel
theorem dX2_isBeyond_24 : decode cX2_isBeyond 24 = .ok (.invokevirtual 60, 3) := by decide +kernel
theorem dX2_isBeyond_27 : decode cX2_isBeyond 27 = .ok (.ifCond .eq 5, 3) := by decide +kernel
theorem dX2_isBeyond_30 : decode cX2_isBeyond 30 = .ok (.iconst 1, 1) := by decide +kernel
theorem dX2_isBeyond_31 : decode cX2_isBeyond 31 = .ok (.ireturn, 1) := by decide +kernel
theorem dX2_isBeyond_32 : decode cX2_isBeyond 32 = .ok (.iinc 1 1, 3) := by decide +kernel
theorem dX2_isBeyond_35 : decode cX2_isBeyond 35 = .ok (.goto (-33), 3) := by decide +kernel
theorem dX2_isBeyond_38 : decode cX2_isBeyond 38 = .ok (.iconst 0, 1) := by decide +kernel
theorem dX2_isBeyond_39 : decode cX2_isBeyond 39 = .ok (.ireturn, 1) := by decide +kernel
theorem dX2_hasImpossible_0 : decode cX2_hasImpossible 0 = .ok (.iconst 0, 1) := by decide +kernel
theorem dX2_hasImpossible_1 : decode cX2_hasImpossible 1 = .ok (.istore_n 1, 1) := by decide +kernel
theorem dX2_hasImpossible_2 : decode cX2_hasImpossible 2 = .ok (.iload_n 1, 1) := by decide +kernel
theorem dX2_hasImpossible_3 : decode cX2_hasImpossible 3 = .ok (.aload_n 0, 1) := by decide +kernel
theorem dX2_hasImpossible_4 : decode cX2_hasImpossible 4 = .ok (.getfield 39, 3) := by decide +kernel
theorem dX2_hasImpossible_7 : decode cX2_hasImpossible 7 = .ok (.if_icmp .ge 41, 3) := by decide +kernel
theorem dX2_hasImpossible_10 : decode cX2_hasImpossible 10 = .ok (.aload_n 0, 1) := by decide +kernel
theorem dX2_hasImpossible_11 : decode cX2_hasImpossible 11 = .ok (.iload_n 1, 1) := by decide +kernel
theorem dX2_hasImpossible_12 : decode cX2_hasImpossible 12 = .ok (.invokevirtual 53, 3) := by decide +kernel
theorem dX2_hasImpossible_15 : decode cX2_hasImpossible 15 = .ok (.ifCond .eq 27, 3) := by decide +kernel
theorem dX2_hasImpossible_18 : decode cX2_hasImpossible 18 = .ok (.aload_n 0, 1) := by decide +kernel
theorem dX2_hasImpossible_19 : decode cX2_hasImpossible 19 = .ok (.getfield 11, 3) := by decide +kernel
theorem dX2_hasImpossible_22 : decode cX2_hasImpossible 22 = .ok (.iload_n 1, 1) := by decide +kernel
theorem dX2_hasImpossible_23 : decode cX2_hasImpossible 23 = .ok (.aaload, 1) := by decide +kernel
theorem dX2_hasImpossible_24 : decode cX2_hasImpossible 24 = .ok (.getfield 64, 3) := by decide +kernel
theorem dX2_hasImpossible_27 : decode cX2_hasImpossible 27 = .ok (.aload_n 0, 1) := by decide +kernel
theorem dX2_hasImpossible_28 : decode cX2_hasImpossible 28 = .ok (.getfield 11, 3) := by decide +kernel
theorem dX2_hasImpossible_31 : decode cX2_hasImpossible 31 = .ok (.iload_n 1, 1) := by decide +kernel
theorem dX2_hasImpossible_32 : decode cX2_hasImpossible 32 = .ok (.aaload, 1) := by decide +kernel
theorem dX2_hasImpossible_33 : decode cX2_hasImpossible 33 = .ok (.invokevirtual 68, 3) := by decide +kernel
theorem dX2_hasImpossible_36 : decode cX2_hasImpossible 36 = .ok (.lcmp, 1) := by decide +kernel
theorem dX2_hasImpossible_37 : decode cX2_hasImpossible 37 = .ok (.ifCond .le 5, 3) := by decide +kernel
theorem dX2_hasImpossible_40 : decode cX2_hasImpossible 40 = .ok (.iconst 1, 1) := by decide +kernel
theorem dX2_hasImpossible_41 : decode cX2_hasImpossible 41 = .ok (.ireturn, 1) := by decide +kernel
theorem dX2_hasImpossible_42 : decode cX2_hasImpossible 42 = .ok (.iinc 1 1, 3) := by decide +kernel
theorem dX2_hasImpossible_45 : decode cX2_hasImpossible 45 = .ok (.goto (-43), 3) := by decide +kernel
theorem dX2_hasImpossible_48 : decode cX2_hasImpossible 48 = .ok (.iconst 0, 1) := by decide +kernel
theorem dX2_hasImpossible_49 : decode cX2_hasImpossible 49 = .ok (.ireturn, 1) := by decide +kernel
theorem dX2_allHold_0 : decode cX2_allHold 0 = .ok (.iconst 0, 1) := by decide +kernel
theorem dX2_allHold_1 : decode cX2_allHold 1 = .ok (.istore_n 2, 1) := by decide +kernel
theorem dX2_allHold_2 : decode cX2_allHold 2 = .ok (.iload_n 2, 1) := by decide +kernel
theorem dX2_allHold_3 : decode cX2_allHold 3 = .ok (.aload_n 0, 1) := by decide +kernel
theorem dX2_allHold_4 : decode cX2_allHold 4 = .ok (.getfield 39, 3) := by decide +kernel
theorem dX2_allHold_7 : decode cX2_allHold 7 = .ok (.if_icmp .ge 32, 3) := by decide +kernel
theorem dX2_allHold_10 : decode cX2_allHold 10 = .ok (.aload_n 0, 1) := by decide +kernel
theorem dX2_allHold_11 : decode cX2_allHold 11 = .ok (.iload_n 2, 1) := by decide +kernel
theorem dX2_allHold_12 : decode cX2_allHold 12 = .ok (.invokevirtual 53, 3) := by decide +kernel
theorem dX2_allHold_15 : decode cX2_allHold 15 = .ok (.ifCond .eq 18, 3) := by decide +kernel
theorem dX2_allHold_18 : decode cX2_allHold 18 = .ok (.aload_n 0, 1) := by decide +kernel
theorem dX2_allHold_19 : decode cX2_allHold 19 = .ok (.getfield 11, 3) := by decide +kernel
theorem dX2_allHold_22 : decode cX2_allHold 22 = .ok (.iload_n 2, 1) := by decide +kernel
theorem dX2_allHold_23 : decode cX2_allHold 23 = .ok (.aaload, 1) := by decide +kernel
theorem dX2_allHold_24 : decode cX2_allHold 24 = .ok (.iload_n 1, 1) := by decide +kernel
theorem dX2_allHold_25 : decode cX2_allHold 25 = .ok (.invokevirtual 72, 3) := by decide +kernel
theorem dX2_allHold_28 : decode cX2_allHold 28 = .ok (.ifCond .ne 5, 3) := by decide +kernel
theorem dX2_allHold_31 : decode cX2_allHold 31 = .ok (.iconst 0, 1) := by decide +kernel
theorem dX2_allHold_32 : decode cX2_allHold 32 = .ok (.ireturn, 1) := by decide +kernel
theorem dX2_allHold_33 : decode cX2_allHold 33 = .ok (.iinc 2 1, 3) := by decide +kernel
theorem dX2_allHold_36 : decode cX2_allHold 36 = .ok (.goto (-34), 3) := by decide +kernel
theorem dX2_allHold_39 : decode cX2_allHold 39 = .ok (.iconst 1, 1) := by decide +kernel
theorem dX2_allHold_40 : decode cX2_allHold 40 = .ok (.ireturn, 1) := by decide +kernel
theorem dX2_countSolutions_0 : decode cX2_countSolutions 0 = .ok (.iconst 0, 1) := by decide +kernel
theorem dX2_countSolutions_1 : decode cX2_countSolutions 1 = .ok (.istore_n 1, 1) := by decide +kernel
theorem dX2_countSolutions_2 : decode cX2_countSolutions 2 = .ok (.iconst 0, 1) := by decide +kernel
theorem dX2_countSolutions_3 : decode cX2_countSolutions 3 = .ok (.istore_n 2, 1) := by decide +kernel
theorem dX2_countSolutions_4 : decode cX2_countSolutions 4 = .ok (.iload_n 2, 1) := by decide +kernel
theorem dX2_countSolutions_5 : decode cX2_countSolutions 5 = .ok (.sipush 256, 3) := by decide +kernel
theorem dX2_countSolutions_8 : decode cX2_countSolutions 8 = .ok (.if_icmp .ge 20, 3) := by decide +kernel
theorem dX2_countSolutions_11 : decode cX2_countSolutions 11 = .ok (.aload_n 0, 1) := by decide +kernel
theorem dX2_countSolutions_12 : decode cX2_countSolutions 12 = .ok (.iload_n 2, 1) := by decide +kernel
theorem dX2_countSolutions_13 : decode cX2_countSolutions 13 = .ok (.invokevirtual 75, 3) := by decide +kernel
theorem dX2_countSolutions_16 : decode cX2_countSolutions 16 = .ok (.ifCond .eq 6, 3) := by decide +kernel
theorem dX2_countSolutions_19 : decode cX2_countSolutions 19 = .ok (.iinc 1 1, 3) := by decide +kernel
theorem dX2_countSolutions_22 : decode cX2_countSolutions 22 = .ok (.iinc 2 1, 3) := by decide +kernel
theorem dX2_countSolutions_25 : decode cX2_countSolutions 25 = .ok (.goto (-21), 3) := by decide +kernel
theorem dX2_countSolutions_28 : decode cX2_countSolutions 28 = .ok (.iload_n 1, 1) := by decide +kernel
theorem dX2_countSolutions_29 : decode cX2_countSolutions 29 = .ok (.ireturn, 1) := by decide +kernel
theorem dX2_bestValues_0 : decode cX2_bestValues 0 = .ok (.ldc 21, 2) := by decide +kernel
theorem dX2_bestValues_2 : decode cX2_bestValues 2 = .ok (.istore_n 1, 1) := by decide +kernel
theorem dX2_bestValues_3 : decode cX2_bestValues 3 = .ok (.iconst 0, 1) := by decide +kernel
theorem dX2_bestValues_4 : decode cX2_bestValues 4 = .ok (.istore_n 2, 1) := by decide +kernel
theorem dX2_bestValues_5 : decode cX2_bestValues 5 = .ok (.iload_n 2, 1) := by decide +kernel
theorem dX2_bestValues_6 : decode cX2_bestValues 6 = .ok (.sipush 256, 3) := by decide +kernel
theorem dX2_bestValues_9 : decode cX2_bestValues 9 = .ok (.if_icmp .ge 38, 3) := by decide +kernel
theorem dX2_bestValues_12 : decode cX2_bestValues 12 = .ok (.iload_n 1, 1) := by decide +kernel
theorem dX2_bestValues_13 : decode cX2_bestValues 13 = .ok (.ldc 21, 2) := by decide +kernel
theorem dX2_bestValues_15 : decode cX2_bestValues 15 = .ok (.if_icmp .eq 16, 3) := by decide +kernel
theorem dX2_bestValues_18 : decode cX2_bestValues 18 = .ok (.aload_n 0, 1) := by decide +kernel
theorem dX2_bestValues_19 : decode cX2_bestValues 19 = .ok (.iload_n 2, 1) := by decide +kernel
theorem dX2_bestValues_20 : decode cX2_bestValues 20 = .ok (.invokevirtual 78, 3) := by decide +kernel
theorem dX2_bestValues_23 : decode cX2_bestValues 23 = .ok (.aload_n 0, 1) := by decide +kernel
theorem dX2_bestValues_24 : decode cX2_bestValues 24 = .ok (.iload_n 1, 1) := by decide +kernel
theorem dX2_bestValues_25 : decode cX2_bestValues 25 = .ok (.invokevirtual 78, 3) := by decide +kernel
theorem dX2_bestValues_28 : decode cX2_bestValues 28 = .ok (.if_icmp .ge 13, 3) := by decide +kernel
theorem dX2_bestValues_31 : decode cX2_bestValues 31 = .ok (.aload_n 0, 1) := by decide +kernel
theorem dX2_bestValues_32 : decode cX2_bestValues 32 = .ok (.iload_n 2, 1) := by decide +kernel
theorem dX2_bestValues_33 : decode cX2_bestValues 33 = .ok (.invokevirtual 75, 3) := by decide +kernel
theorem dX2_bestValues_36 : decode cX2_bestValues 36 = .ok (.ifCond .eq 5, 3) := by decide +kernel
theorem dX2_bestValues_39 : decode cX2_bestValues 39 = .ok (.iload_n 2, 1) := by decide +kernel
theorem dX2_bestValues_40 : decode cX2_bestValues 40 = .ok (.istore_n 1, 1) := by decide +kernel
theorem dX2_bestValues_41 : decode cX2_bestValues 41 = .ok (.iinc 2 1, 3) := by decide +kernel
theorem dX2_bestValues_44 : decode cX2_bestValues 44 = .ok (.goto (-39), 3) := by decide +kernel
theorem dX2_bestValues_47 : decode cX2_bestValues 47 = .ok (.iload_n 1, 1) := by decide +kernel
theorem dX2_bestValues_48 : decode cX2_bestValues 48 = .ok (.ireturn, 1) := by decide +kernel
theorem dX2_priceOf_0 : decode cX2_priceOf 0 = .ok (.iconst 0, 1) := by decide +kernel
theorem dX2_priceOf_1 : decode cX2_priceOf 1 = .ok (.istore_n 2, 1) := by decide +kernel
theorem dX2_priceOf_2 : decode cX2_priceOf 2 = .ok (.iconst 0, 1) := by decide +kernel
theorem dX2_priceOf_3 : decode cX2_priceOf 3 = .ok (.istore_n 3, 1) := by decide +kernel
theorem dX2_priceOf_4 : decode cX2_priceOf 4 = .ok (.iload_n 3, 1) := by decide +kernel
theorem dX2_priceOf_5 : decode cX2_priceOf 5 = .ok (.bipush 8, 2) := by decide +kernel
theorem dX2_priceOf_7 : decode cX2_priceOf 7 = .ok (.if_icmp .ge 27, 3) := by decide +kernel
theorem dX2_priceOf_10 : decode cX2_priceOf 10 = .ok (.iload_n 1, 1) := by decide +kernel
theorem dX2_priceOf_11 : decode cX2_priceOf 11 = .ok (.iload_n 3, 1) := by decide +kernel
theorem dX2_priceOf_12 : decode cX2_priceOf 12 = .ok (.iushr, 1) := by decide +kernel
theorem dX2_priceOf_13 : decode cX2_priceOf 13 = .ok (.iconst 1, 1) := by decide +kernel
theorem dX2_priceOf_14 : decode cX2_priceOf 14 = .ok (.iand, 1) := by decide +kernel
theorem dX2_priceOf_15 : decode cX2_priceOf 15 = .ok (.iconst 1, 1) := by decide +kernel
theorem dX2_priceOf_16 : decode cX2_priceOf 16 = .ok (.if_icmp .ne 12, 3) := by decide +kernel
theorem dX2_priceOf_19 : decode cX2_priceOf 19 = .ok (.iload_n 2, 1) := by decide +kernel
theorem dX2_priceOf_20 : decode cX2_priceOf 20 = .ok (.aload_n 0, 1) := by decide +kernel
theorem dX2_priceOf_21 : decode cX2_priceOf 21 = .ok (.getfield 17, 3) := by decide +kernel
theorem dX2_priceOf_24 : decode cX2_priceOf 24 = .ok (.iload_n 3, 1) := by decide +kernel
theorem dX2_priceOf_25 : decode cX2_priceOf 25 = .ok (.iaload, 1) := by decide +kernel
theorem dX2_priceOf_26 : decode cX2_priceOf 26 = .ok (.iadd, 1) := by decide +kernel
theorem dX2_priceOf_27 : decode cX2_priceOf 27 = .ok (.istore_n 2, 1) := by decide +kernel
theorem dX2_priceOf_28 : decode cX2_priceOf 28 = .ok (.iinc 3 1, 3) := by decide +kernel
theorem dX2_priceOf_31 : decode cX2_priceOf 31 = .ok (.goto (-27), 3) := by decide +kernel
theorem dX2_priceOf_34 : decode cX2_priceOf 34 = .ok (.iload_n 2, 1) := by decide +kernel
theorem dX2_priceOf_35 : decode cX2_priceOf 35 = .ok (.ireturn, 1) := by decide +kernel
theorem dX2_allPrices_0 : decode cX2_allPrices 0 = .ok (.aload_n 0, 1) := by decide +kernel
theorem dX2_allPrices_1 : decode cX2_allPrices 1 = .ok (.sipush 255, 3) := by decide +kernel
theorem dX2_allPrices_4 : decode cX2_allPrices 4 = .ok (.invokevirtual 78, 3) := by decide +kernel
theorem dX2_allPrices_7 : decode cX2_allPrices 7 = .ok (.ireturn, 1) := by decide +kernel
theorem dX3_init_0 : decode cX3_init 0 = .ok (.aload_n 0, 1) := by decide +kernel
theorem dX3_init_1 : decode cX3_init 1 = .ok (.invokespecial 3, 3) := by decide +kernel
theorem dX3_init_4 : decode cX3_init 4 = .ok (.aload_n 0, 1) := by decide +kernel
theorem dX3_init_5 : decode cX3_init 5 = .ok (.bipush 8, 2) := by decide +kernel
theorem dX3_init_7 : decode cX3_init 7 = .ok (.newarray .long, 2) := by decide +kernel
theorem dX3_init_9 : decode cX3_init 9 = .ok (.putfield 9, 3) := by decide +kernel
theorem dX3_init_12 : decode cX3_init 12 = .ok (.aload_n 0, 1) := by decide +kernel
theorem dX3_init_13 : decode cX3_init 13 = .ok (.iload_n 1, 1) := by decide +kernel
theorem dX3_init_14 : decode cX3_init 14 = .ok (.putfield 15, 3) := by decide +kernel
theorem dX3_init_17 : decode cX3_init 17 = .ok (.return_, 1) := by decide +kernel
theorem dX3_clear_0 : decode cX3_clear 0 = .ok (.aload_n 0, 1) := by decide +kernel
theorem dX3_clear_1 : decode cX3_clear 1 = .ok (.getfield 9, 3) := by decide +kernel
theorem dX3_clear_4 : decode cX3_clear 4 = .ok (.lconst 0, 1) := by decide +kernel
theorem dX3_clear_5 : decode cX3_clear 5 = .ok (.invokestatic 19, 3) := by decide +kernel
theorem dX3_clear_8 : decode cX3_clear 8 = .ok (.aload_n 0, 1) := by decide +kernel
theorem dX3_clear_9 : decode cX3_clear 9 = .ok (.lconst 0, 1) := by decide +kernel
theorem dX3_clear_10 : decode cX3_clear 10 = .ok (.putfield 25, 3) := by decide +kernel
theorem dX3_clear_13 : decode cX3_clear 13 = .ok (.return_, 1) := by decide +kernel
theorem dX3_become_0 : decode cX3_become 0 = .ok (.aload_n 1, 1) := by decide +kernel
theorem dX3_become_1 : decode cX3_become 1 = .ok (.getfield 9, 3) := by decide +kernel
theorem dX3_become_4 : decode cX3_become 4 = .ok (.iconst 0, 1) := by decide +kernel
theorem dX3_become_5 : decode cX3_become 5 = .ok (.aload_n 0, 1) := by decide +kernel
theorem dX3_become_6 : decode cX3_become 6 = .ok (.getfield 9, 3) := by decide +kernel
theorem dX3_become_9 : decode cX3_become 9 = .ok (.iconst 0, 1) := by decide +kernel
theorem dX3_become_10 : decode cX3_become 10 = .ok (.bipush 8, 2) := by decide +kernel
theorem dX3_become_12 : decode cX3_become 12 = .ok (.invokestatic 29, 3) := by decide +kernel
theorem dX3_become_15 : decode cX3_become 15 = .ok (.aload_n 0, 1) := by decide +kernel
theorem dX3_become_16 : decode cX3_become 16 = .ok (.aload_n 1, 1) := by decide +kernel
theorem dX3_become_17 : decode cX3_become 17 = .ok (.getfield 25, 3) := by decide +kernel
theorem dX3_become_20 : decode cX3_become 20 = .ok (.putfield 25, 3) := by decide +kernel
theorem dX3_become_23 : decode cX3_become 23 = .ok (.aload_n 0, 1) := by decide +kernel
theorem dX3_become_24 : decode cX3_become 24 = .ok (.aload_n 1, 1) := by decide +kernel
theorem dX3_become_25 : decode cX3_become 25 = .ok (.getfield 35, 3) := by decide +kernel
theorem dX3_become_28 : decode cX3_become 28 = .ok (.putfield 35, 3) := by decide +kernel
theorem dX3_become_31 : decode cX3_become 31 = .ok (.return_, 1) := by decide +kernel
theorem dX3_becomePlus_0 : decode cX3_becomePlus 0 = .ok (.aload_n 1, 1) := by decide +kernel
theorem dX3_becomePlus_1 : decode cX3_becomePlus 1 = .ok (.getfield 25, 3) := by decide +kernel
theorem dX3_becomePlus_4 : decode cX3_becomePlus 4 = .ok (.ldc2_w 40, 3) := by decide +kernel
theorem dX3_becomePlus_7 : decode cX3_becomePlus 7 = .ok (.aload_n 2, 1) := by decide +kernel
theorem dX3_becomePlus_8 : decode cX3_becomePlus 8 = .ok (.getfield 25, 3) := by decide +kernel
theorem dX3_becomePlus_11 : decode cX3_becomePlus 11 = .ok (.lsub, 1) := by decide +kernel
theorem dX3_becomePlus_12 : decode cX3_becomePlus 12 = .ok (.lcmp, 1) := by decide +kernel
theorem dX3_becomePlus_13 : decode cX3_becomePlus 13 = .ok (.ifCond .le 5, 3) := by decide +kernel
theorem dX3_becomePlus_16 : decode cX3_becomePlus 16 = .ok (.iconst 0, 1) := by decide +kernel
theorem dX3_becomePlus_17 : decode cX3_becomePlus 17 = .ok (.ireturn, 1) := by decide +kernel
theorem dX3_becomePlus_18 : decode cX3_becomePlus 18 = .ok (.aload_n 1, 1) := by decide +kernel
theorem dX3_becomePlus_19 : decode cX3_becomePlus 19 = .ok (.getfield 9, 3) := by decide +kernel
theorem dX3_becomePlus_22 : decode cX3_becomePlus 22 = .ok (.iconst 0, 1) := by decide +kernel
theorem dX3_becomePlus_23 : decode cX3_becomePlus 23 = .ok (.aload_n 0, 1) := by decide +kernel
theorem dX3_becomePlus_24 : decode cX3_becomePlus 24 = .ok (.getfield 9, 3) := by decide +kernel
theorem dX3_becomePlus_27 : decode cX3_becomePlus 27 = .ok (.iconst 0, 1) := by decide +kernel
theorem dX3_becomePlus_28 : decode cX3_becomePlus 28 = .ok (.bipush 8, 2) := by decide +kernel
theorem dX3_becomePlus_30 : decode cX3_becomePlus 30 = .ok (.invokestatic 29, 3) := by decide +kernel
theorem dX3_becomePlus_33 : decode cX3_becomePlus 33 = .ok (.aload_n 0, 1) := by decide +kernel
theorem dX3_becomePlus_34 : decode cX3_becomePlus 34 = .ok (.aload_n 1, 1) := by decide +kernel
theorem dX3_becomePlus_35 : decode cX3_becomePlus 35 = .ok (.getfield 25, 3) := by decide +kernel
theorem dX3_becomePlus_38 : decode cX3_becomePlus 38 = .ok (.aload_n 2, 1) := by decide +kernel
theorem dX3_becomePlus_39 : decode cX3_becomePlus 39 = .ok (.getfield 25, 3) := by decide +kernel
theorem dX3_becomePlus_42 : decode cX3_becomePlus 42 = .ok (.ladd, 1) := by decide +kernel
theorem dX3_becomePlus_43 : decode cX3_becomePlus 43 = .ok (.putfield 25, 3) := by decide +kernel
theorem dX3_becomePlus_46 : decode cX3_becomePlus 46 = .ok (.iconst 0, 1) := by decide +kernel
theorem dX3_becomePlus_47 : decode cX3_becomePlus 47 = .ok (.istore_n 3, 1) := by decide +kernel
theorem dX3_becomePlus_48 : decode cX3_becomePlus 48 = .ok (.iload_n 3, 1) := by decide +kernel
theorem dX3_becomePlus_49 : decode cX3_becomePlus 49 = .ok (.bipush 8, 2) := by decide +kernel
theorem dX3_becomePlus_51 : decode cX3_becomePlus 51 = .ok (.if_icmp .ge 25, 3) := by decide +kernel
theorem dX3_becomePlus_54 : decode cX3_becomePlus 54 = .ok (.aload_n 0, 1) := by decide +kernel
theorem dX3_becomePlus_55 : decode cX3_becomePlus 55 = .ok (.iload_n 3, 1) := by decide +kernel
theorem dX3_becomePlus_56 : decode cX3_becomePlus 56 = .ok (.aload_n 2, 1) := by decide +kernel
theorem dX3_becomePlus_57 : decode cX3_becomePlus 57 = .ok (.getfield 9, 3) := by decide +kernel
theorem dX3_becomePlus_60 : decode cX3_becomePlus 60 = .ok (.iload_n 3, 1) := by decide +kernel
theorem dX3_becomePlus_61 : decode cX3_becomePlus 61 = .ok (.laload, 1) := by decide +kernel
theorem dX3_becomePlus_62 : decode cX3_becomePlus 62 = .ok (.invokevirtual 42, 3) := by decide +kernel
theorem dX3_becomePlus_65 : decode cX3_becomePlus 65 = .ok (.ifCond .ne 5, 3) := by decide +kernel
theorem dX3_becomePlus_68 : decode cX3_becomePlus 68 = .ok (.iconst 0, 1) := by decide +kernel
theorem dX3_becomePlus_69 : decode cX3_becomePlus 69 = .ok (.ireturn, 1) := by decide +kernel
theorem dX3_becomePlus_70 : decode cX3_becomePlus 70 = .ok (.iinc 3 1, 3) := by decide +kernel
theorem dX3_becomePlus_73 : decode cX3_becomePlus 73 = .ok (.goto (-25), 3) := by decide +kernel
theorem dX3_becomePlus_76 : decode cX3_becomePlus 76 = .ok (.iconst 1, 1) := by decide +kernel
theorem dX3_becomePlus_77 : decode cX3_becomePlus 77 = .ok (.ireturn, 1) := by decide +kernel
theorem dX3_joins_0 : decode cX3_joins 0 = .ok (.aload_n 0, 1) := by decide +kernel
theorem dX3_joins_1 : decode cX3_joins 1 = .ok (.getfield 9, 3) := by decide +kernel
theorem dX3_joins_4 : decode cX3_joins 4 = .ok (.iload_n 1, 1) := by decide +kernel
theorem dX3_joins_5 : decode cX3_joins 5 = .ok (.laload, 1) := by decide +kernel
theorem dX3_joins_6 : decode cX3_joins 6 = .ok (.lstore 4, 2) := by decide +kernel
theorem dX3_joins_8 : decode cX3_joins 8 = .ok (.lload 4, 2) := by decide +kernel
theorem dX3_joins_10 : decode cX3_joins 10 = .ok (.lconst 0, 1) := by decide +kernel
theorem dX3_joins_11 : decode cX3_joins 11 = .ok (.lcmp, 1) := by decide +kernel
theorem dX3_joins_12 : decode cX3_joins 12 = .ok (.ifCond .eq 63, 3) := by decide +kernel
theorem dX3_joins_15 : decode cX3_joins 15 = .ok (.lload_n 2, 1) := by decide +kernel
theorem dX3_joins_16 : decode cX3_joins 16 = .ok (.lconst 0, 1) := by decide +kernel
theorem dX3_joins_17 : decode cX3_joins 17 = .ok (.lcmp, 1) := by decide +kernel
theorem dX3_joins_18 : decode cX3_joins 18 = .ok (.ifCond .eq 57, 3) := by decide +kernel
theorem dX3_joins_21 : decode cX3_joins 21 = .ok (.lload 4, 2) := by decide +kernel
theorem dX3_joins_23 : decode cX3_joins 23 = .ok (.lconst 0, 1) := by decide +kernel
theorem dX3_joins_24 : decode cX3_joins 24 = .ok (.lcmp, 1) := by decide +kernel
theorem dX3_joins_25 : decode cX3_joins 25 = .ok (.ifCond .le 7, 3) := by decide +kernel
theorem dX3_joins_28 : decode cX3_joins 28 = .ok (.iconst 1, 1) := by decide +kernel
theorem dX3_joins_29 : decode cX3_joins 29 = .ok (.goto 4, 3) := by decide +kernel
theorem dX3_joins_32 : decode cX3_joins 32 = .ok (.iconst 0, 1) := by decide +kernel
theorem dX3_joins_33 : decode cX3_joins 33 = .ok (.lload_n 2, 1) := by decide +kernel
theorem dX3_joins_34 : decode cX3_joins 34 = .ok (.lconst 0, 1) := by decide +kernel
theorem dX3_joins_35 : decode cX3_joins 35 = .ok (.lcmp, 1) := by decide +kernel
theorem dX3_joins_36 : decode cX3_joins 36 = .ok (.ifCond .le 7, 3) := by decide +kernel
theorem dX3_joins_39 : decode cX3_joins 39 = .ok (.iconst 1, 1) := by decide +kernel
theorem dX3_joins_40 : decode cX3_joins 40 = .ok (.goto 4, 3) := by decide +kernel
theorem dX3_joins_43 : decode cX3_joins 43 = .ok (.iconst 0, 1) := by decide +kernel
theorem dX3_joins_44 : decode cX3_joins 44 = .ok (.if_icmp .eq 31, 3) := by decide +kernel
theorem dX3_joins_47 : decode cX3_joins 47 = .ok (.aload_n 0, 1) := by decide +kernel
theorem dX3_joins_48 : decode cX3_joins 48 = .ok (.lconst 0, 1) := by decide +kernel
theorem dX3_joins_49 : decode cX3_joins 49 = .ok (.aload_n 0, 1) := by decide +kernel
theorem dX3_joins_50 : decode cX3_joins 50 = .ok (.getfield 25, 3) := by decide +kernel
theorem dX3_joins_53 : decode cX3_joins 53 = .ok (.lload 4, 2) := by decide +kernel
theorem dX3_joins_55 : decode cX3_joins 55 = .ok (.invokestatic 46, 3) := by decide +kernel
theorem dX3_joins_58 : decode cX3_joins 58 = .ok (.lload_n 2, 1) := by decide +kernel
theorem dX3_joins_59 : decode cX3_joins 59 = .ok (.invokestatic 46, 3) := by decide +kernel
theorem dX3_joins_62 : decode cX3_joins 62 = .ok (.invokestatic 52, 3) := by decide +kernel
theorem dX3_joins_65 : decode cX3_joins 65 = .ok (.lsub, 1) := by decide +kernel
theorem dX3_joins_66 : decode cX3_joins 66 = .ok (.invokestatic 56, 3) := by decide +kernel
theorem dX3_joins_69 : decode cX3_joins 69 = .ok (.putfield 25, 3) := by decide +kernel
theorem dX3_joins_72 : decode cX3_joins 72 = .ok (.goto 22, 3) := by decide +kernel
theorem dX3_joins_75 : decode cX3_joins 75 = .ok (.lload 4, 2) := by decide +kernel
theorem dX3_joins_77 : decode cX3_joins 77 = .ok (.invokestatic 46, 3) := by decide +kernel
theorem dX3_joins_80 : decode cX3_joins 80 = .ok (.ldc2_w 40, 3) := by decide +kernel
theorem dX3_joins_83 : decode cX3_joins 83 = .ok (.lload_n 2, 1) := by decide +kernel
theorem dX3_joins_84 : decode cX3_joins 84 = .ok (.invokestatic 46, 3) := by decide +kernel
theorem dX3_joins_87 : decode cX3_joins 87 = .ok (.lsub, 1) := by decide +kernel
theorem dX3_joins_88 : decode cX3_joins 88 = .ok (.lcmp, 1) := by decide +kernel
theorem dX3_joins_89 : decode cX3_joins 89 = .ok (.ifCond .le 5, 3) := by decide +kernel
theorem dX3_joins_92 : decode cX3_joins 92 = .ok (.iconst 0, 1) := by decide +kernel
theorem dX3_joins_93 : decode cX3_joins 93 = .ok (.ireturn, 1) := by decide +kernel
theorem dX3_joins_94 : decode cX3_joins 94 = .ok (.aload_n 0, 1) := by decide +kernel
theorem dX3_joins_95 : decode cX3_joins 95 = .ok (.getfield 9, 3) := by decide +kernel
theorem dX3_joins_98 : decode cX3_joins 98 = .ok (.iload_n 1, 1) := by decide +kernel
theorem dX3_joins_99 : decode cX3_joins 99 = .ok (.lload 4, 2) := by decide +kernel
theorem dX3_joins_101 : decode cX3_joins 101 = .ok (.lload_n 2, 1) := by decide +kernel
theorem dX3_joins_102 : decode cX3_joins 102 = .ok (.ladd, 1) := by decide +kernel
theorem dX3_joins_103 : decode cX3_joins 103 = .ok (.lastore, 1) := by decide +kernel
theorem dX3_joins_104 : decode cX3_joins 104 = .ok (.iconst 1, 1) := by decide +kernel
theorem dX3_joins_105 : decode cX3_joins 105 = .ok (.ireturn, 1) := by decide +kernel
theorem dX3_becomeTimes_0 : decode cX3_becomeTimes 0 = .ok (.iload_n 2, 1) := by decide +kernel
theorem dX3_becomeTimes_1 : decode cX3_becomeTimes 1 = .ok (.iconst 1, 1) := by decide +kernel
theorem dX3_becomeTimes_2 : decode cX3_becomeTimes 2 = .ok (.if_icmp .ge 5, 3) := by decide +kernel
theorem dX3_becomeTimes_5 : decode cX3_becomeTimes 5 = .ok (.iconst 0, 1) := by decide +kernel
theorem dX3_becomeTimes_6 : decode cX3_becomeTimes 6 = .ok (.ireturn, 1) := by decide +kernel
theorem dX3_becomeTimes_7 : decode cX3_becomeTimes 7 = .ok (.ldc2_w 40, 3) := by decide +kernel
theorem dX3_becomeTimes_10 : decode cX3_becomeTimes 10 = .ok (.iload_n 2, 1) := by decide +kernel
theorem dX3_becomeTimes_11 : decode cX3_becomeTimes 11 = .ok (.i2l, 1) := by decide +kernel
theorem dX3_becomeTimes_12 : decode cX3_becomeTimes 12 = .ok (.ldiv, 1) := by decide +kernel
theorem dX3_becomeTimes_13 : decode cX3_becomeTimes 13 = .ok (.lstore_n 3, 1) := by decide +kernel
theorem dX3_becomeTimes_14 : decode cX3_becomeTimes 14 = .ok (.aload_n 1, 1) := by decide +kernel
theorem dX3_becomeTimes_15 : decode cX3_becomeTimes 15 = .ok (.getfield 25, 3) := by decide +kernel
theorem dX3_becomeTimes_18 : decode cX3_becomeTimes 18 = .ok (.lload_n 3, 1) := by decide +kernel
theorem dX3_becomeTimes_19 : decode cX3_becomeTimes 19 = .ok (.lcmp, 1) := by decide +kernel
theorem dX3_becomeTimes_20 : decode cX3_becomeTimes 20 = .ok (.ifCond .le 5, 3) := by decide +kernel
theorem dX3_becomeTimes_23 : decode cX3_becomeTimes 23 = .ok (.iconst 0, 1) := by decide +kernel
theorem dX3_becomeTimes_24 : decode cX3_becomeTimes 24 = .ok (.ireturn, 1) := by decide +kernel
theorem dX3_becomeTimes_25 : decode cX3_becomeTimes 25 = .ok (.aload_n 0, 1) := by decide +kernel
theorem dX3_becomeTimes_26 : decode cX3_becomeTimes 26 = .ok (.aload_n 1, 1) := by decide +kernel
theorem dX3_becomeTimes_27 : decode cX3_becomeTimes 27 = .ok (.getfield 25, 3) := by decide +kernel
theorem dX3_becomeTimes_30 : decode cX3_becomeTimes 30 = .ok (.iload_n 2, 1) := by decide +kernel
theorem dX3_becomeTimes_31 : decode cX3_becomeTimes 31 = .ok (.i2l, 1) := by decide +kernel
theorem dX3_becomeTimes_32 : decode cX3_becomeTimes 32 = .ok (.lmul, 1) := by decide +kernel
theorem dX3_becomeTimes_33 : decode cX3_becomeTimes 33 = .ok (.putfield 25, 3) := by decide +kernel
theorem dX3_becomeTimes_36 : decode cX3_becomeTimes 36 = .ok (.iconst 0, 1) := by decide +kernel
theorem dX3_becomeTimes_37 : decode cX3_becomeTimes 37 = .ok (.istore 5, 2) := by decide +kernel
theorem dX3_becomeTimes_39 : decode cX3_becomeTimes 39 = .ok (.iload 5, 2) := by decide +kernel
theorem dX3_becomeTimes_41 : decode cX3_becomeTimes 41 = .ok (.bipush 8, 2) := by decide +kernel
theorem dX3_becomeTimes_43 : decode cX3_becomeTimes 43 = .ok (.if_icmp .ge 43, 3) := by decide +kernel
theorem dX3_becomeTimes_46 : decode cX3_becomeTimes 46 = .ok (.aload_n 1, 1) := by decide +kernel
theorem dX3_becomeTimes_47 : decode cX3_becomeTimes 47 = .ok (.getfield 9, 3) := by decide +kernel
theorem dX3_becomeTimes_50 : decode cX3_becomeTimes 50 = .ok (.iload 5, 2) := by decide +kernel
theorem dX3_becomeTimes_52 : decode cX3_becomeTimes 52 = .ok (.laload, 1) := by decide +kernel
theorem dX3_becomeTimes_53 : decode cX3_becomeTimes 53 = .ok (.invokestatic 46, 3) := by decide +kernel
theorem dX3_becomeTimes_56 : decode cX3_becomeTimes 56 = .ok (.lload_n 3, 1) := by decide +kernel
theorem dX3_becomeTimes_57 : decode cX3_becomeTimes 57 = .ok (.lcmp, 1) := by decide +kernel
theorem dX3_becomeTimes_58 : decode cX3_becomeTimes 58 = .ok (.ifCond .le 5, 3) := by decide +kernel
theorem dX3_becomeTimes_61 : decode cX3_becomeTimes 61 = .ok (.iconst 0, 1) := by decide +kernel
theorem dX3_becomeTimes_62 : decode cX3_becomeTimes 62 = .ok (.ireturn, 1) := by decide +kernel
theorem dX3_becomeTimes_63 : decode cX3_becomeTimes 63 = .ok (.aload_n 0, 1) := by decide +kernel
theorem dX3_becomeTimes_64 : decode cX3_becomeTimes 64 = .ok (.getfield 9, 3) := by decide +kernel
theorem dX3_becomeTimes_67 : decode cX3_becomeTimes 67 = .ok (.iload 5, 2) := by decide +kernel
theorem dX3_becomeTimes_69 : decode cX3_becomeTimes 69 = .ok (.aload_n 1, 1) := by decide +kernel
theorem dX3_becomeTimes_70 : decode cX3_becomeTimes 70 = .ok (.getfield 9, 3) := by decide +kernel
theorem dX3_becomeTimes_73 : decode cX3_becomeTimes 73 = .ok (.iload 5, 2) := by decide +kernel
theorem dX3_becomeTimes_75 : decode cX3_becomeTimes 75 = .ok (.laload, 1) := by decide +kernel
theorem dX3_becomeTimes_76 : decode cX3_becomeTimes 76 = .ok (.iload_n 2, 1) := by decide +kernel
theorem dX3_becomeTimes_77 : decode cX3_becomeTimes 77 = .ok (.i2l, 1) := by decide +kernel
theorem dX3_becomeTimes_78 : decode cX3_becomeTimes 78 = .ok (.lmul, 1) := by decide +kernel
theorem dX3_becomeTimes_79 : decode cX3_becomeTimes 79 = .ok (.lastore, 1) := by decide +kernel
theorem dX3_becomeTimes_80 : decode cX3_becomeTimes 80 = .ok (.iinc 5 1, 3) := by decide +kernel
theorem dX3_becomeTimes_83 : decode cX3_becomeTimes 83 = .ok (.goto (-44), 3) := by decide +kernel
theorem dX3_becomeTimes_86 : decode cX3_becomeTimes 86 = .ok (.iconst 1, 1) := by decide +kernel
theorem dX3_becomeTimes_87 : decode cX3_becomeTimes 87 = .ok (.ireturn, 1) := by decide +kernel
theorem dX3_becomeSplit_0 : decode cX3_becomeSplit 0 = .ok (.aload_n 0, 1) := by decide +kernel
theorem dX3_becomeSplit_1 : decode cX3_becomeSplit 1 = .ok (.aload_n 1, 1) := by decide +kernel
theorem dX3_becomeSplit_2 : decode cX3_becomeSplit 2 = .ok (.getfield 25, 3) := by decide +kernel
theorem dX3_becomeSplit_5 : decode cX3_becomeSplit 5 = .ok (.iload_n 2, 1) := by decide +kernel
theorem dX3_becomeSplit_6 : decode cX3_becomeSplit 6 = .ok (.invokestatic 59, 3) := by decide +kernel
theorem dX3_becomeSplit_9 : decode cX3_becomeSplit 9 = .ok (.putfield 25, 3) := by decide +kernel
theorem dX3_becomeSplit_12 : decode cX3_becomeSplit 12 = .ok (.iconst 0, 1) := by decide +kernel
theorem dX3_becomeSplit_13 : decode cX3_becomeSplit 13 = .ok (.istore_n 3, 1) := by decide +kernel
theorem dX3_becomeSplit_14 : decode cX3_becomeSplit 14 = .ok (.iload_n 3, 1) := by decide +kernel
theorem dX3_becomeSplit_15 : decode cX3_becomeSplit 15 = .ok (.bipush 8, 2) := by decide +kernel
theorem dX3_becomeSplit_17 : decode cX3_becomeSplit 17 = .ok (.if_icmp .ge 25, 3) := by decide +kernel
theorem dX3_becomeSplit_20 : decode cX3_becomeSplit 20 = .ok (.aload_n 0, 1) := by decide +kernel
theorem dX3_becomeSplit_21 : decode cX3_becomeSplit 21 = .ok (.getfield 9, 3) := by decide +kernel
theorem dX3_becomeSplit_24 : decode cX3_becomeSplit 24 = .ok (.iload_n 3, 1) := by decide +kernel
theorem dX3_becomeSplit_25 : decode cX3_becomeSplit 25 = .ok (.aload_n 1, 1) := by decide +kernel
theorem dX3_becomeSplit_26 : decode cX3_becomeSplit 26 = .ok (.getfield 9, 3) := by decide +kernel
theorem dX3_becomeSplit_29 : decode cX3_becomeSplit 29 = .ok (.iload_n 3, 1) := by decide +kernel
theorem dX3_becomeSplit_30 : decode cX3_becomeSplit 30 = .ok (.laload, 1) := by decide +kernel
theorem dX3_becomeSplit_31 : decode cX3_becomeSplit 31 = .ok (.iload_n 2, 1) := by decide +kernel
theorem dX3_becomeSplit_32 : decode cX3_becomeSplit 32 = .ok (.invokestatic 59, 3) := by decide +kernel
theorem dX3_becomeSplit_35 : decode cX3_becomeSplit 35 = .ok (.lastore, 1) := by decide +kernel
theorem dX3_becomeSplit_36 : decode cX3_becomeSplit 36 = .ok (.iinc 3 1, 3) := by decide +kernel
theorem dX3_becomeSplit_39 : decode cX3_becomeSplit 39 = .ok (.goto (-25), 3) := by decide +kernel
theorem dX3_becomeSplit_42 : decode cX3_becomeSplit 42 = .ok (.return_, 1) := by decide +kernel
theorem dX3_splitUp_0 : decode cX3_splitUp 0 = .ok (.iload_n 2, 1) := by decide +kernel
theorem dX3_splitUp_1 : decode cX3_splitUp 1 = .ok (.iconst 1, 1) := by decide +kernel
theorem dX3_splitUp_2 : decode cX3_splitUp 2 = .ok (.if_icmp .ge 5, 3) := by decide +kernel
theorem dX3_splitUp_5 : decode cX3_splitUp 5 = .ok (.lload_n 0, 1) := by decide +kernel
theorem dX3_splitUp_6 : decode cX3_splitUp 6 = .ok (.lreturn, 1) := by decide +kernel
theorem dX3_splitUp_7 : decode cX3_splitUp 7 = .ok (.lload_n 0, 1) := by decide +kernel
theorem dX3_splitUp_8 : decode cX3_splitUp 8 = .ok (.iload_n 2, 1) := by decide +kernel
theorem dX3_splitUp_9 : decode cX3_splitUp 9 = .ok (.i2l, 1) := by decide +kernel
theorem dX3_splitUp_10 : decode cX3_splitUp 10 = .ok (.ldiv, 1) := by decide +kernel
theorem dX3_splitUp_11 : decode cX3_splitUp 11 = .ok (.lstore_n 3, 1) := by decide +kernel
theorem dX3_splitUp_12 : decode cX3_splitUp 12 = .ok (.lload_n 0, 1) := by decide +kernel
theorem dX3_splitUp_13 : decode cX3_splitUp 13 = .ok (.iload_n 2, 1) := by decide +kernel
theorem dX3_splitUp_14 : decode cX3_splitUp 14 = .ok (.i2l, 1) := by decide +kernel
theorem dX3_splitUp_15 : decode cX3_splitUp 15 = .ok (.lrem, 1) := by decide +kernel
theorem dX3_splitUp_16 : decode cX3_splitUp 16 = .ok (.lconst 0, 1) := by decide +kernel
theorem dX3_splitUp_17 : decode cX3_splitUp 17 = .ok (.lcmp, 1) := by decide +kernel
theorem dX3_splitUp_18 : decode cX3_splitUp 18 = .ok (.ifCond .ne 5, 3) := by decide +kernel
theorem dX3_splitUp_21 : decode cX3_splitUp 21 = .ok (.lload_n 3, 1) := by decide +kernel
theorem dX3_splitUp_22 : decode cX3_splitUp 22 = .ok (.lreturn, 1) := by decide +kernel
theorem dX3_splitUp_23 : decode cX3_splitUp 23 = .ok (.lload_n 0, 1) := by decide +kernel
theorem dX3_splitUp_24 : decode cX3_splitUp 24 = .ok (.lconst 0, 1) := by decide +kernel
theorem dX3_splitUp_25 : decode cX3_splitUp 25 = .ok (.lcmp, 1) := by decide +kernel
theorem dX3_splitUp_26 : decode cX3_splitUp 26 = .ok (.ifCond .le 9, 3) := by decide +kernel
theorem dX3_splitUp_29 : decode cX3_splitUp 29 = .ok (.lload_n 3, 1) := by decide +kernel
theorem dX3_splitUp_30 : decode cX3_splitUp 30 = .ok (.lconst 1, 1) := by decide +kernel
theorem dX3_splitUp_31 : decode cX3_splitUp 31 = .ok (.ladd, 1) := by decide +kernel
theorem dX3_splitUp_32 : decode cX3_splitUp 32 = .ok (.goto 6, 3) := by decide +kernel
theorem dX3_splitUp_35 : decode cX3_splitUp 35 = .ok (.lload_n 3, 1) := by decide +kernel
theorem dX3_splitUp_36 : decode cX3_splitUp 36 = .ok (.lconst 1, 1) := by decide +kernel
theorem dX3_splitUp_37 : decode cX3_splitUp 37 = .ok (.lsub, 1) := by decide +kernel
theorem dX3_splitUp_38 : decode cX3_splitUp 38 = .ok (.lreturn, 1) := by decide +kernel
theorem dX3_becomeSaturated_0 : decode cX3_becomeSaturated 0 = .ok (.aload_n 0, 1) := by decide +kernel
theorem dX3_becomeSaturated_1 : decode cX3_becomeSaturated 1 = .ok (.aload_n 1, 1) := by decide +kernel
theorem dX3_becomeSaturated_2 : decode cX3_becomeSaturated 2 = .ok (.getfield 25, 3) := by decide +kernel
theorem dX3_becomeSaturated_5 : decode cX3_becomeSaturated 5 = .ok (.putfield 25, 3) := by decide +kernel
theorem dX3_becomeSaturated_8 : decode cX3_becomeSaturated 8 = .ok (.iconst 0, 1) := by decide +kernel
theorem dX3_becomeSaturated_9 : decode cX3_becomeSaturated 9 = .ok (.istore_n 2, 1) := by decide +kernel
theorem dX3_becomeSaturated_10 : decode cX3_becomeSaturated 10 = .ok (.iload_n 2, 1) := by decide +kernel
theorem dX3_becomeSaturated_11 : decode cX3_becomeSaturated 11 = .ok (.bipush 8, 2) := by decide +kernel
theorem dX3_becomeSaturated_13 : decode cX3_becomeSaturated 13 = .ok (.if_icmp .ge 36, 3) := by decide +kernel
theorem dX3_becomeSaturated_16 : decode cX3_becomeSaturated 16 = .ok (.aload_n 0, 1) := by decide +kernel
theorem dX3_becomeSaturated_17 : decode cX3_becomeSaturated 17 = .ok (.getfield 9, 3) := by decide +kernel
theorem dX3_becomeSaturated_20 : decode cX3_becomeSaturated 20 = .ok (.iload_n 2, 1) := by decide +kernel
theorem dX3_becomeSaturated_21 : decode cX3_becomeSaturated 21 = .ok (.aload_n 0, 1) := by decide +kernel
theorem dX3_becomeSaturated_22 : decode cX3_becomeSaturated 22 = .ok (.getfield 25, 3) := by decide +kernel
theorem dX3_becomeSaturated_25 : decode cX3_becomeSaturated 25 = .ok (.lneg, 1) := by decide +kernel
theorem dX3_becomeSaturated_26 : decode cX3_becomeSaturated 26 = .ok (.aload_n 0, 1) := by decide +kernel
theorem dX3_becomeSaturated_27 : decode cX3_becomeSaturated 27 = .ok (.getfield 25, 3) := by decide +kernel
theorem dX3_becomeSaturated_30 : decode cX3_becomeSaturated 30 = .ok (.aload_n 1, 1) := by decide +kernel
theorem dX3_becomeSaturated_31 : decode cX3_becomeSaturated 31 = .ok (.getfield 9, 3) := by decide +kernel
theorem dX3_becomeSaturated_34 : decode cX3_becomeSaturated 34 = .ok (.iload_n 2, 1) := by decide +kernel
theorem dX3_becomeSaturated_35 : decode cX3_becomeSaturated 35 = .ok (.laload, 1) := by decide +kernel
theorem dX3_becomeSaturated_36 : decode cX3_becomeSaturated 36 = .ok (.invokestatic 52, 3) := by decide +kernel
theorem dX3_becomeSaturated_39 : decode cX3_becomeSaturated 39 = .ok (.invokestatic 56, 3) := by decide +kernel
theorem dX3_becomeSaturated_42 : decode cX3_becomeSaturated 42 = .ok (.lastore, 1) := by decide +kernel
theorem dX3_becomeSaturated_43 : decode cX3_becomeSaturated 43 = .ok (.iinc 2 1, 3) := by decide +kernel
theorem dX3_becomeSaturated_46 : decode cX3_becomeSaturated 46 = .ok (.goto (-36), 3) := by decide +kernel
theorem dX3_becomeSaturated_49 : decode cX3_becomeSaturated 49 = .ok (.return_, 1) := by decide +kernel
theorem dX3_becomeWeakened_0 : decode cX3_becomeWeakened 0 = .ok (.aload_n 1, 1) := by decide +kernel
theorem dX3_becomeWeakened_1 : decode cX3_becomeWeakened 1 = .ok (.getfield 9, 3) := by decide +kernel
theorem dX3_becomeWeakened_4 : decode cX3_becomeWeakened 4 = .ok (.iconst 0, 1) := by decide +kernel
theorem dX3_becomeWeakened_5 : decode cX3_becomeWeakened 5 = .ok (.aload_n 0, 1) := by decide +kernel
theorem dX3_becomeWeakened_6 : decode cX3_becomeWeakened 6 = .ok (.getfield 9, 3) := by decide +kernel
theorem dX3_becomeWeakened_9 : decode cX3_becomeWeakened 9 = .ok (.iconst 0, 1) := by decide +kernel
theorem dX3_becomeWeakened_10 : decode cX3_becomeWeakened 10 = .ok (.bipush 8, 2) := by decide +kernel
theorem dX3_becomeWeakened_12 : decode cX3_becomeWeakened 12 = .ok (.invokestatic 29, 3) := by decide +kernel
theorem dX3_becomeWeakened_15 : decode cX3_becomeWeakened 15 = .ok (.aload_n 0, 1) := by decide +kernel
theorem dX3_becomeWeakened_16 : decode cX3_becomeWeakened 16 = .ok (.lconst 0, 1) := by decide +kernel
theorem dX3_becomeWeakened_17 : decode cX3_becomeWeakened 17 = .ok (.aload_n 1, 1) := by decide +kernel
theorem dX3_becomeWeakened_18 : decode cX3_becomeWeakened 18 = .ok (.getfield 25, 3) := by decide +kernel
theorem dX3_becomeWeakened_21 : decode cX3_becomeWeakened 21 = .ok (.aload_n 1, 1) := by decide +kernel
theorem dX3_becomeWeakened_22 : decode cX3_becomeWeakened 22 = .ok (.getfield 9, 3) := by decide +kernel
theorem dX3_becomeWeakened_25 : decode cX3_becomeWeakened 25 = .ok (.iload_n 2, 1) := by decide +kernel
theorem dX3_becomeWeakened_26 : decode cX3_becomeWeakened 26 = .ok (.laload, 1) := by decide +kernel
theorem dX3_becomeWeakened_27 : decode cX3_becomeWeakened 27 = .ok (.invokestatic 46, 3) := by decide +kernel
theorem dX3_becomeWeakened_30 : decode cX3_becomeWeakened 30 = .ok (.lsub, 1) := by decide +kernel
theorem dX3_becomeWeakened_31 : decode cX3_becomeWeakened 31 = .ok (.invokestatic 56, 3) := by decide +kernel
theorem dX3_becomeWeakened_34 : decode cX3_becomeWeakened 34 = .ok (.putfield 25, 3) := by decide +kernel
theorem dX3_becomeWeakened_37 : decode cX3_becomeWeakened 37 = .ok (.aload_n 0, 1) := by decide +kernel
theorem dX3_becomeWeakened_38 : decode cX3_becomeWeakened 38 = .ok (.getfield 9, 3) := by decide +kernel
theorem dX3_becomeWeakened_41 : decode cX3_becomeWeakened 41 = .ok (.iload_n 2, 1) := by decide +kernel
theorem dX3_becomeWeakened_42 : decode cX3_becomeWeakened 42 = .ok (.lconst 0, 1) := by decide +kernel
theorem dX3_becomeWeakened_43 : decode cX3_becomeWeakened 43 = .ok (.lastore, 1) := by decide +kernel
theorem dX3_becomeWeakened_44 : decode cX3_becomeWeakened 44 = .ok (.return_, 1) := by decide +kernel
theorem dX3_becomeBound_0 : decode cX3_becomeBound 0 = .ok (.iconst 0, 1) := by decide +kernel
theorem dX3_becomeBound_1 : decode cX3_becomeBound 1 = .ok (.istore 4, 2) := by decide +kernel
theorem dX3_becomeBound_3 : decode cX3_becomeBound 3 = .ok (.iload 4, 2) := by decide +kernel
theorem dX3_becomeBound_5 : decode cX3_becomeBound 5 = .ok (.bipush 8, 2) := by decide +kernel
theorem dX3_becomeBound_7 : decode cX3_becomeBound 7 = .ok (.if_icmp .ge 22, 3) := by decide +kernel
theorem dX3_becomeBound_10 : decode cX3_becomeBound 10 = .ok (.aload_n 0, 1) := by decide +kernel
theorem dX3_becomeBound_11 : decode cX3_becomeBound 11 = .ok (.getfield 9, 3) := by decide +kernel
theorem dX3_becomeBound_14 : decode cX3_becomeBound 14 = .ok (.iload 4, 2) := by decide +kernel
theorem dX3_becomeBound_16 : decode cX3_becomeBound 16 = .ok (.aload_n 1, 1) := by decide +kernel
theorem dX3_becomeBound_17 : decode cX3_becomeBound 17 = .ok (.iload 4, 2) := by decide +kernel
theorem dX3_becomeBound_19 : decode cX3_becomeBound 19 = .ok (.iaload, 1) := by decide +kernel
theorem dX3_becomeBound_20 : decode cX3_becomeBound 20 = .ok (.ineg, 1) := by decide +kernel
theorem dX3_becomeBound_21 : decode cX3_becomeBound 21 = .ok (.i2l, 1) := by decide +kernel
theorem dX3_becomeBound_22 : decode cX3_becomeBound 22 = .ok (.lastore, 1) := by decide +kernel
theorem dX3_becomeBound_23 : decode cX3_becomeBound 23 = .ok (.iinc 4 1, 3) := by decide +kernel
theorem dX3_becomeBound_26 : decode cX3_becomeBound 26 = .ok (.goto (-23), 3) := by decide +kernel
theorem dX3_becomeBound_29 : decode cX3_becomeBound 29 = .ok (.aload_n 0, 1) := by decide +kernel
theorem dX3_becomeBound_30 : decode cX3_becomeBound 30 = .ok (.iload_n 2, 1) := by decide +kernel
theorem dX3_becomeBound_31 : decode cX3_becomeBound 31 = .ok (.iload_n 3, 1) := by decide +kernel
theorem dX3_becomeBound_32 : decode cX3_becomeBound 32 = .ok (.isub, 1) := by decide +kernel
theorem dX3_becomeBound_33 : decode cX3_becomeBound 33 = .ok (.iconst 1, 1) := by decide +kernel
theorem dX3_becomeBound_34 : decode cX3_becomeBound 34 = .ok (.iadd, 1) := by decide +kernel
theorem dX3_becomeBound_35 : decode cX3_becomeBound 35 = .ok (.i2l, 1) := by decide +kernel
theorem dX3_becomeBound_36 : decode cX3_becomeBound 36 = .ok (.putfield 25, 3) := by decide +kernel
theorem dX3_becomeBound_39 : decode cX3_becomeBound 39 = .ok (.return_, 1) := by decide +kernel
theorem dX3_becomeContrary_0 : decode cX3_becomeContrary 0 = .ok (.iconst 0, 1) := by decide +kernel
theorem dX3_becomeContrary_1 : decode cX3_becomeContrary 1 = .ok (.istore_n 2, 1) := by decide +kernel
theorem dX3_becomeContrary_2 : decode cX3_becomeContrary 2 = .ok (.iload_n 2, 1) := by decide +kernel
theorem dX3_becomeContrary_3 : decode cX3_becomeContrary 3 = .ok (.bipush 8, 2) := by decide +kernel
theorem dX3_becomeContrary_5 : decode cX3_becomeContrary 5 = .ok (.if_icmp .ge 22, 3) := by decide +kernel
theorem dX3_becomeContrary_8 : decode cX3_becomeContrary 8 = .ok (.aload_n 0, 1) := by decide +kernel
theorem dX3_becomeContrary_9 : decode cX3_becomeContrary 9 = .ok (.getfield 9, 3) := by decide +kernel
theorem dX3_becomeContrary_12 : decode cX3_becomeContrary 12 = .ok (.iload_n 2, 1) := by decide +kernel
theorem dX3_becomeContrary_13 : decode cX3_becomeContrary 13 = .ok (.aload_n 1, 1) := by decide +kernel
theorem dX3_becomeContrary_14 : decode cX3_becomeContrary 14 = .ok (.getfield 9, 3) := by decide +kernel
theorem dX3_becomeContrary_17 : decode cX3_becomeContrary 17 = .ok (.iload_n 2, 1) := by decide +kernel
theorem dX3_becomeContrary_18 : decode cX3_becomeContrary 18 = .ok (.laload, 1) := by decide +kernel
theorem dX3_becomeContrary_19 : decode cX3_becomeContrary 19 = .ok (.lneg, 1) := by decide +kernel
theorem dX3_becomeContrary_20 : decode cX3_becomeContrary 20 = .ok (.lastore, 1) := by decide +kernel
theorem dX3_becomeContrary_21 : decode cX3_becomeContrary 21 = .ok (.iinc 2 1, 3) := by decide +kernel
theorem dX3_becomeContrary_24 : decode cX3_becomeContrary 24 = .ok (.goto (-22), 3) := by decide +kernel
theorem dX3_becomeContrary_27 : decode cX3_becomeContrary 27 = .ok (.aload_n 1, 1) := by decide +kernel
theorem dX3_becomeContrary_28 : decode cX3_becomeContrary 28 = .ok (.invokevirtual 63, 3) := by decide +kernel
theorem dX3_becomeContrary_31 : decode cX3_becomeContrary 31 = .ok (.aload_n 1, 1) := by decide +kernel
theorem dX3_becomeContrary_32 : decode cX3_becomeContrary 32 = .ok (.getfield 25, 3) := by decide +kernel
theorem dX3_becomeContrary_35 : decode cX3_becomeContrary 35 = .ok (.lsub, 1) := by decide +kernel
theorem dX3_becomeContrary_36 : decode cX3_becomeContrary 36 = .ok (.lstore_n 2, 1) := by decide +kernel
theorem dX3_becomeContrary_37 : decode cX3_becomeContrary 37 = .ok (.aload_n 0, 1) := by decide +kernel
theorem dX3_becomeContrary_38 : decode cX3_becomeContrary 38 = .ok (.lload_n 2, 1) := by decide +kernel
theorem dX3_becomeContrary_39 : decode cX3_becomeContrary 39 = .ok (.lconst 0, 1) := by decide +kernel
theorem dX3_becomeContrary_40 : decode cX3_becomeContrary 40 = .ok (.lcmp, 1) := by decide +kernel
theorem dX3_becomeContrary_41 : decode cX3_becomeContrary 41 = .ok (.ifCond .ge 7, 3) := by decide +kernel
theorem dX3_becomeContrary_44 : decode cX3_becomeContrary 44 = .ok (.lconst 0, 1) := by decide +kernel
theorem dX3_becomeContrary_45 : decode cX3_becomeContrary 45 = .ok (.goto 6, 3) := by decide +kernel
theorem dX3_becomeContrary_48 : decode cX3_becomeContrary 48 = .ok (.lload_n 2, 1) := by decide +kernel
theorem dX3_becomeContrary_49 : decode cX3_becomeContrary 49 = .ok (.lconst 1, 1) := by decide +kernel
theorem dX3_becomeContrary_50 : decode cX3_becomeContrary 50 = .ok (.ladd, 1) := by decide +kernel
theorem dX3_becomeContrary_51 : decode cX3_becomeContrary 51 = .ok (.putfield 25, 3) := by decide +kernel
theorem dX3_becomeContrary_54 : decode cX3_becomeContrary 54 = .ok (.return_, 1) := by decide +kernel
theorem dX3_becomePut_0 : decode cX3_becomePut 0 = .ok (.aload_n 0, 1) := by decide +kernel
theorem dX3_becomePut_1 : decode cX3_becomePut 1 = .ok (.invokevirtual 67, 3) := by decide +kernel
theorem dX3_becomePut_4 : decode cX3_becomePut 4 = .ok (.aload_n 0, 1) := by decide +kernel
theorem dX3_becomePut_5 : decode cX3_becomePut 5 = .ok (.aload_n 1, 1) := by decide +kernel
theorem dX3_becomePut_6 : decode cX3_becomePut 6 = .ok (.getfield 25, 3) := by decide +kernel
theorem dX3_becomePut_9 : decode cX3_becomePut 9 = .ok (.putfield 25, 3) := by decide +kernel
theorem dX3_becomePut_12 : decode cX3_becomePut 12 = .ok (.iconst 0, 1) := by decide +kernel
theorem dX3_becomePut_13 : decode cX3_becomePut 13 = .ok (.istore_n 3, 1) := by decide +kernel
theorem dX3_becomePut_14 : decode cX3_becomePut 14 = .ok (.iload_n 3, 1) := by decide +kernel
theorem dX3_becomePut_15 : decode cX3_becomePut 15 = .ok (.bipush 8, 2) := by decide +kernel
theorem dX3_becomePut_17 : decode cX3_becomePut 17 = .ok (.if_icmp .ge 52, 3) := by decide +kernel
theorem dX3_becomePut_20 : decode cX3_becomePut 20 = .ok (.aload_n 1, 1) := by decide +kernel
theorem dX3_becomePut_21 : decode cX3_becomePut 21 = .ok (.getfield 9, 3) := by decide +kernel
theorem dX3_becomePut_24 : decode cX3_becomePut 24 = .ok (.iload_n 3, 1) := by decide +kernel
theorem dX3_becomePut_25 : decode cX3_becomePut 25 = .ok (.laload, 1) := by decide +kernel
theorem dX3_becomePut_26 : decode cX3_becomePut 26 = .ok (.lstore 4, 2) := by decide +kernel
theorem dX3_becomePut_28 : decode cX3_becomePut 28 = .ok (.lload 4, 2) := by decide +kernel
theorem dX3_becomePut_30 : decode cX3_becomePut 30 = .ok (.lconst 0, 1) := by decide +kernel
theorem dX3_becomePut_31 : decode cX3_becomePut 31 = .ok (.lcmp, 1) := by decide +kernel
theorem dX3_becomePut_32 : decode cX3_becomePut 32 = .ok (.ifCond .eq 31, 3) := by decide +kernel
theorem dX3_becomePut_35 : decode cX3_becomePut 35 = .ok (.aload_n 0, 1) := by decide +kernel
theorem dX3_becomePut_36 : decode cX3_becomePut 36 = .ok (.lload 4, 2) := by decide +kernel
theorem dX3_becomePut_38 : decode cX3_becomePut 38 = .ok (.lconst 0, 1) := by decide +kernel
theorem dX3_becomePut_39 : decode cX3_becomePut 39 = .ok (.lcmp, 1) := by decide +kernel
theorem dX3_becomePut_40 : decode cX3_becomePut 40 = .ok (.ifCond .le 9, 3) := by decide +kernel
theorem dX3_becomePut_43 : decode cX3_becomePut 43 = .ok (.aload_n 2, 1) := by decide +kernel
theorem dX3_becomePut_44 : decode cX3_becomePut 44 = .ok (.iload_n 3, 1) := by decide +kernel
theorem dX3_becomePut_45 : decode cX3_becomePut 45 = .ok (.iaload, 1) := by decide +kernel
theorem dX3_becomePut_46 : decode cX3_becomePut 46 = .ok (.goto 9, 3) := by decide +kernel
theorem dX3_becomePut_49 : decode cX3_becomePut 49 = .ok (.aload_n 2, 1) := by decide +kernel
theorem dX3_becomePut_50 : decode cX3_becomePut 50 = .ok (.iload_n 3, 1) := by decide +kernel
theorem dX3_becomePut_51 : decode cX3_becomePut 51 = .ok (.iaload, 1) := by decide +kernel
theorem dX3_becomePut_52 : decode cX3_becomePut 52 = .ok (.invokestatic 70, 3) := by decide +kernel
theorem dX3_becomePut_55 : decode cX3_becomePut 55 = .ok (.lload 4, 2) := by decide +kernel
theorem dX3_becomePut_57 : decode cX3_becomePut 57 = .ok (.invokestatic 46, 3) := by decide +kernel
theorem dX3_becomePut_60 : decode cX3_becomePut 60 = .ok (.invokevirtual 74, 3) := by decide +kernel
theorem dX3_becomePut_63 : decode cX3_becomePut 63 = .ok (.iinc 3 1, 3) := by decide +kernel
theorem dX3_becomePut_66 : decode cX3_becomePut 66 = .ok (.goto (-52), 3) := by decide +kernel
theorem dX3_becomePut_69 : decode cX3_becomePut 69 = .ok (.return_, 1) := by decide +kernel
theorem dX3_becomePriceKept_0 : decode cX3_becomePriceKept 0 = .ok (.aload_n 0, 1) := by decide +kernel
theorem dX3_becomePriceKept_1 : decode cX3_becomePriceKept 1 = .ok (.invokevirtual 67, 3) := by decide +kernel
theorem dX3_becomePriceKept_4 : decode cX3_becomePriceKept 4 = .ok (.iconst 0, 1) := by decide +kernel
theorem dX3_becomePriceKept_5 : decode cX3_becomePriceKept 5 = .ok (.istore_n 3, 1) := by decide +kernel
theorem dX3_becomePriceKept_6 : decode cX3_becomePriceKept 6 = .ok (.iload_n 3, 1) := by decide +kernel
theorem dX3_becomePriceKept_7 : decode cX3_becomePriceKept 7 = .ok (.bipush 8, 2) := by decide +kernel
theorem dX3_becomePriceKept_9 : decode cX3_becomePriceKept 9 = .ok (.if_icmp .ge 22, 3) := by decide +kernel
theorem dX3_becomePriceKept_12 : decode cX3_becomePriceKept 12 = .ok (.aload_n 0, 1) := by decide +kernel
theorem dX3_becomePriceKept_13 : decode cX3_becomePriceKept 13 = .ok (.dup, 1) := by decide +kernel
theorem dX3_becomePriceKept_14 : decode cX3_becomePriceKept 14 = .ok (.getfield 25, 3) := by decide +kernel
theorem dX3_becomePriceKept_17 : decode cX3_becomePriceKept 17 = .ok (.aload_n 1, 1) := by decide +kernel
theorem dX3_becomePriceKept_18 : decode cX3_becomePriceKept 18 = .ok (.iload_n 3, 1) := by decide +kernel
theorem dX3_becomePriceKept_19 : decode cX3_becomePriceKept 19 = .ok (.iaload, 1) := by decide +kernel
theorem dX3_becomePriceKept_20 : decode cX3_becomePriceKept 20 = .ok (.i2l, 1) := by decide +kernel
theorem dX3_becomePriceKept_21 : decode cX3_becomePriceKept 21 = .ok (.ladd, 1) := by decide +kernel
theorem dX3_becomePriceKept_22 : decode cX3_becomePriceKept 22 = .ok (.putfield 25, 3) := by decide +kernel
theorem dX3_becomePriceKept_25 : decode cX3_becomePriceKept 25 = .ok (.iinc 3 1, 3) := by decide +kernel
theorem dX3_becomePriceKept_28 : decode cX3_becomePriceKept 28 = .ok (.goto (-22), 3) := by decide +kernel
theorem dX3_becomePriceKept_31 : decode cX3_becomePriceKept 31 = .ok (.iconst 0, 1) := by decide +kernel
theorem dX3_becomePriceKept_32 : decode cX3_becomePriceKept 32 = .ok (.istore_n 3, 1) := by decide +kernel
theorem dX3_becomePriceKept_33 : decode cX3_becomePriceKept 33 = .ok (.iload_n 3, 1) := by decide +kernel
theorem dX3_becomePriceKept_34 : decode cX3_becomePriceKept 34 = .ok (.bipush 8, 2) := by decide +kernel
theorem dX3_becomePriceKept_36 : decode cX3_becomePriceKept 36 = .ok (.if_icmp .ge 33, 3) := by decide +kernel
theorem dX3_becomePriceKept_39 : decode cX3_becomePriceKept 39 = .ok (.aload_n 0, 1) := by decide +kernel
theorem dX3_becomePriceKept_40 : decode cX3_becomePriceKept 40 = .ok (.iload_n 3, 1) := by decide +kernel
theorem dX3_becomePriceKept_41 : decode cX3_becomePriceKept 41 = .ok (.aload_n 1, 1) := by decide +kernel
theorem dX3_becomePriceKept_42 : decode cX3_becomePriceKept 42 = .ok (.iload_n 3, 1) := by decide +kernel
theorem dX3_becomePriceKept_43 : decode cX3_becomePriceKept 43 = .ok (.iaload, 1) := by decide +kernel
theorem dX3_becomePriceKept_44 : decode cX3_becomePriceKept 44 = .ok (.i2l, 1) := by decide +kernel
theorem dX3_becomePriceKept_45 : decode cX3_becomePriceKept 45 = .ok (.invokevirtual 42, 3) := by decide +kernel
theorem dX3_becomePriceKept_48 : decode cX3_becomePriceKept 48 = .ok (.pop, 1) := by decide +kernel
theorem dX3_becomePriceKept_49 : decode cX3_becomePriceKept 49 = .ok (.aload_n 0, 1) := by decide +kernel
theorem dX3_becomePriceKept_50 : decode cX3_becomePriceKept 50 = .ok (.aload_n 2, 1) := by decide +kernel
theorem dX3_becomePriceKept_51 : decode cX3_becomePriceKept 51 = .ok (.iload_n 3, 1) := by decide +kernel
theorem dX3_becomePriceKept_52 : decode cX3_becomePriceKept 52 = .ok (.iaload, 1) := by decide +kernel
theorem dX3_becomePriceKept_53 : decode cX3_becomePriceKept 53 = .ok (.invokestatic 70, 3) := by decide +kernel
theorem dX3_becomePriceKept_56 : decode cX3_becomePriceKept 56 = .ok (.aload_n 1, 1) := by decide +kernel
theorem dX3_becomePriceKept_57 : decode cX3_becomePriceKept 57 = .ok (.iload_n 3, 1) := by decide +kernel
theorem dX3_becomePriceKept_58 : decode cX3_becomePriceKept 58 = .ok (.iaload, 1) := by decide +kernel
theorem dX3_becomePriceKept_59 : decode cX3_becomePriceKept 59 = .ok (.i2l, 1) := by decide +kernel
theorem dX3_becomePriceKept_60 : decode cX3_becomePriceKept 60 = .ok (.invokevirtual 74, 3) := by decide +kernel
theorem dX3_becomePriceKept_63 : decode cX3_becomePriceKept 63 = .ok (.iinc 3 1, 3) := by decide +kernel
theorem dX3_becomePriceKept_66 : decode cX3_becomePriceKept 66 = .ok (.goto (-33), 3) := by decide +kernel
theorem dX3_becomePriceKept_69 : decode cX3_becomePriceKept 69 = .ok (.return_, 1) := by decide +kernel
theorem dX3_joinsPut_0 : decode cX3_joinsPut 0 = .ok (.iload_n 1, 1) := by decide +kernel
theorem dX3_joinsPut_1 : decode cX3_joinsPut 1 = .ok (.iconst 1, 1) := by decide +kernel
theorem dX3_joinsPut_2 : decode cX3_joinsPut 2 = .ok (.if_icmp .ne 20, 3) := by decide +kernel
theorem dX3_joinsPut_5 : decode cX3_joinsPut 5 = .ok (.aload_n 0, 1) := by decide +kernel
theorem dX3_joinsPut_6 : decode cX3_joinsPut 6 = .ok (.lconst 0, 1) := by decide +kernel
theorem dX3_joinsPut_7 : decode cX3_joinsPut 7 = .ok (.aload_n 0, 1) := by decide +kernel
theorem dX3_joinsPut_8 : decode cX3_joinsPut 8 = .ok (.getfield 25, 3) := by decide +kernel
theorem dX3_joinsPut_11 : decode cX3_joinsPut 11 = .ok (.lload_n 2, 1) := by decide +kernel
theorem dX3_joinsPut_12 : decode cX3_joinsPut 12 = .ok (.lsub, 1) := by decide +kernel
theorem dX3_joinsPut_13 : decode cX3_joinsPut 13 = .ok (.invokestatic 56, 3) := by decide +kernel
theorem dX3_joinsPut_16 : decode cX3_joinsPut 16 = .ok (.putfield 25, 3) := by decide +kernel
theorem dX3_joinsPut_19 : decode cX3_joinsPut 19 = .ok (.goto 49, 3) := by decide +kernel
theorem dX3_joinsPut_22 : decode cX3_joinsPut 22 = .ok (.iload_n 1, 1) := by decide +kernel
theorem dX3_joinsPut_23 : decode cX3_joinsPut 23 = .ok (.bipush 10, 2) := by decide +kernel
theorem dX3_joinsPut_25 : decode cX3_joinsPut 25 = .ok (.if_icmp .lt 23, 3) := by decide +kernel
theorem dX3_joinsPut_28 : decode cX3_joinsPut 28 = .ok (.iload_n 1, 1) := by decide +kernel
theorem dX3_joinsPut_29 : decode cX3_joinsPut 29 = .ok (.bipush 18, 2) := by decide +kernel
theorem dX3_joinsPut_31 : decode cX3_joinsPut 31 = .ok (.if_icmp .ge 17, 3) := by decide +kernel
theorem dX3_joinsPut_34 : decode cX3_joinsPut 34 = .ok (.aload_n 0, 1) := by decide +kernel
theorem dX3_joinsPut_35 : decode cX3_joinsPut 35 = .ok (.iload_n 1, 1) := by decide +kernel
theorem dX3_joinsPut_36 : decode cX3_joinsPut 36 = .ok (.bipush 10, 2) := by decide +kernel
theorem dX3_joinsPut_38 : decode cX3_joinsPut 38 = .ok (.isub, 1) := by decide +kernel
theorem dX3_joinsPut_39 : decode cX3_joinsPut 39 = .ok (.lload_n 2, 1) := by decide +kernel
theorem dX3_joinsPut_40 : decode cX3_joinsPut 40 = .ok (.lneg, 1) := by decide +kernel
theorem dX3_joinsPut_41 : decode cX3_joinsPut 41 = .ok (.invokevirtual 42, 3) := by decide +kernel
theorem dX3_joinsPut_44 : decode cX3_joinsPut 44 = .ok (.pop, 1) := by decide +kernel
theorem dX3_joinsPut_45 : decode cX3_joinsPut 45 = .ok (.goto 23, 3) := by decide +kernel
theorem dX3_joinsPut_48 : decode cX3_joinsPut 48 = .ok (.iload_n 1, 1) := by decide +kernel
theorem dX3_joinsPut_49 : decode cX3_joinsPut 49 = .ok (.iconst 2, 1) := by decide +kernel
theorem dX3_joinsPut_50 : decode cX3_joinsPut 50 = .ok (.if_icmp .lt 18, 3) := by decide +kernel
theorem dX3_joinsPut_53 : decode cX3_joinsPut 53 = .ok (.iload_n 1, 1) := by decide +kernel
theorem dX3_joinsPut_54 : decode cX3_joinsPut 54 = .ok (.bipush 10, 2) := by decide +kernel
theorem dX3_joinsPut_56 : decode cX3_joinsPut 56 = .ok (.if_icmp .ge 12, 3) := by decide +kernel
theorem dX3_joinsPut_59 : decode cX3_joinsPut 59 = .ok (.aload_n 0, 1) := by decide +kernel
theorem dX3_joinsPut_60 : decode cX3_joinsPut 60 = .ok (.iload_n 1, 1) := by decide +kernel
theorem dX3_joinsPut_61 : decode cX3_joinsPut 61 = .ok (.iconst 2, 1) := by decide +kernel
theorem dX3_joinsPut_62 : decode cX3_joinsPut 62 = .ok (.isub, 1) := by decide +kernel
theorem dX3_joinsPut_63 : decode cX3_joinsPut 63 = .ok (.lload_n 2, 1) := by decide +kernel
theorem dX3_joinsPut_64 : decode cX3_joinsPut 64 = .ok (.invokevirtual 42, 3) := by decide +kernel
theorem dX3_joinsPut_67 : decode cX3_joinsPut 67 = .ok (.pop, 1) := by decide +kernel
theorem dX3_joinsPut_68 : decode cX3_joinsPut 68 = .ok (.return_, 1) := by decide +kernel
theorem dX3_contraryOf_0 : decode cX3_contraryOf 0 = .ok (.iload_n 0, 1) := by decide +kernel
theorem dX3_contraryOf_1 : decode cX3_contraryOf 1 = .ok (.iconst 2, 1) := by decide +kernel
theorem dX3_contraryOf_2 : decode cX3_contraryOf 2 = .ok (.if_icmp .ge 7, 3) := by decide +kernel
theorem dX3_contraryOf_5 : decode cX3_contraryOf 5 = .ok (.iconst 1, 1) := by decide +kernel
theorem dX3_contraryOf_6 : decode cX3_contraryOf 6 = .ok (.iload_n 0, 1) := by decide +kernel
theorem dX3_contraryOf_7 : decode cX3_contraryOf 7 = .ok (.isub, 1) := by decide +kernel
theorem dX3_contraryOf_8 : decode cX3_contraryOf 8 = .ok (.ireturn, 1) := by decide +kernel
theorem dX3_contraryOf_9 : decode cX3_contraryOf 9 = .ok (.iload_n 0, 1) := by decide +kernel
theorem dX3_contraryOf_10 : decode cX3_contraryOf 10 = .ok (.bipush 10, 2) := by decide +kernel
theorem dX3_contraryOf_12 : decode cX3_contraryOf 12 = .ok (.if_icmp .ge 10, 3) := by decide +kernel
theorem dX3_contraryOf_15 : decode cX3_contraryOf 15 = .ok (.iload_n 0, 1) := by decide +kernel
theorem dX3_contraryOf_16 : decode cX3_contraryOf 16 = .ok (.bipush 8, 2) := by decide +kernel
theorem dX3_contraryOf_18 : decode cX3_contraryOf 18 = .ok (.iadd, 1) := by decide +kernel
theorem dX3_contraryOf_19 : decode cX3_contraryOf 19 = .ok (.goto 7, 3) := by decide +kernel
theorem dX3_contraryOf_22 : decode cX3_contraryOf 22 = .ok (.iload_n 0, 1) := by decide +kernel
theorem dX3_contraryOf_23 : decode cX3_contraryOf 23 = .ok (.bipush 8, 2) := by decide +kernel
theorem dX3_contraryOf_25 : decode cX3_contraryOf 25 = .ok (.isub, 1) := by decide +kernel
theorem dX3_contraryOf_26 : decode cX3_contraryOf 26 = .ok (.ireturn, 1) := by decide +kernel
theorem dX3_total_0 : decode cX3_total 0 = .ok (.lconst 0, 1) := by decide +kernel
theorem dX3_total_1 : decode cX3_total 1 = .ok (.lstore_n 1, 1) := by decide +kernel
theorem dX3_total_2 : decode cX3_total 2 = .ok (.iconst 0, 1) := by decide +kernel
theorem dX3_total_3 : decode cX3_total 3 = .ok (.istore_n 3, 1) := by decide +kernel
theorem dX3_total_4 : decode cX3_total 4 = .ok (.iload_n 3, 1) := by decide +kernel
theorem dX3_total_5 : decode cX3_total 5 = .ok (.bipush 8, 2) := by decide +kernel
theorem dX3_total_7 : decode cX3_total 7 = .ok (.if_icmp .ge 40, 3) := by decide +kernel
theorem dX3_total_10 : decode cX3_total 10 = .ok (.aload_n 0, 1) := by decide +kernel
theorem dX3_total_11 : decode cX3_total 11 = .ok (.getfield 9, 3) := by decide +kernel
theorem dX3_total_14 : decode cX3_total 14 = .ok (.iload_n 3, 1) := by decide +kernel
theorem dX3_total_15 : decode cX3_total 15 = .ok (.laload, 1) := by decide +kernel
theorem dX3_total_16 : decode cX3_total 16 = .ok (.invokestatic 46, 3) := by decide +kernel
theorem dX3_total_19 : decode cX3_total 19 = .ok (.lstore 4, 2) := by decide +kernel
theorem dX3_total_21 : decode cX3_total 21 = .ok (.lload_n 1, 1) := by decide +kernel
theorem dX3_total_22 : decode cX3_total 22 = .ok (.ldc2_w 40, 3) := by decide +kernel
theorem dX3_total_25 : decode cX3_total 25 = .ok (.lload 4, 2) := by decide +kernel
theorem dX3_total_27 : decode cX3_total 27 = .ok (.lsub, 1) := by decide +kernel
theorem dX3_total_28 : decode cX3_total 28 = .ok (.lcmp, 1) := by decide +kernel
theorem dX3_total_29 : decode cX3_total 29 = .ok (.ifCond .le 7, 3) := by decide +kernel
theorem dX3_total_32 : decode cX3_total 32 = .ok (.ldc2_w 78, 3) := by decide +kernel
theorem dX3_total_35 : decode cX3_total 35 = .ok (.lreturn, 1) := by decide +kernel
theorem dX3_total_36 : decode cX3_total 36 = .ok (.lload_n 1, 1) := by decide +kernel
theorem dX3_total_37 : decode cX3_total 37 = .ok (.lload 4, 2) := by decide +kernel
theorem dX3_total_39 : decode cX3_total 39 = .ok (.ladd, 1) := by decide +kernel
theorem dX3_total_40 : decode cX3_total 40 = .ok (.lstore_n 1, 1) := by decide +kernel
theorem dX3_total_41 : decode cX3_total 41 = .ok (.iinc 3 1, 3) := by decide +kernel
theorem dX3_total_44 : decode cX3_total 44 = .ok (.goto (-40), 3) := by decide +kernel
theorem dX3_total_47 : decode cX3_total 47 = .ok (.lload_n 1, 1) := by decide +kernel
theorem dX3_total_48 : decode cX3_total 48 = .ok (.lreturn, 1) := by decide +kernel
theorem dX3_isBeyond_0 : decode cX3_isBeyond 0 = .ok (.aload_n 0, 1) := by decide +kernel
theorem dX3_isBeyond_1 : decode cX3_isBeyond 1 = .ok (.invokevirtual 63, 3) := by decide +kernel
theorem dX3_isBeyond_4 : decode cX3_isBeyond 4 = .ok (.lconst 0, 1) := by decide +kernel
theorem dX3_isBeyond_5 : decode cX3_isBeyond 5 = .ok (.lcmp, 1) := by decide +kernel
theorem dX3_isBeyond_6 : decode cX3_isBeyond 6 = .ok (.ifCond .ge 7, 3) := by decide +kernel
theorem dX3_isBeyond_9 : decode cX3_isBeyond 9 = .ok (.iconst 1, 1) := by decide +kernel
theorem dX3_isBeyond_10 : decode cX3_isBeyond 10 = .ok (.goto 4, 3) := by decide +kernel
theorem dX3_isBeyond_13 : decode cX3_isBeyond 13 = .ok (.iconst 0, 1) := by decide +kernel
theorem dX3_isBeyond_14 : decode cX3_isBeyond 14 = .ok (.ireturn, 1) := by decide +kernel
theorem dX3_slackBy_0 : decode cX3_slackBy 0 = .ok (.lconst 0, 1) := by decide +kernel
theorem dX3_slackBy_1 : decode cX3_slackBy 1 = .ok (.lstore_n 3, 1) := by decide +kernel
theorem dX3_slackBy_2 : decode cX3_slackBy 2 = .ok (.iconst 0, 1) := by decide +kernel
theorem dX3_slackBy_3 : decode cX3_slackBy 3 = .ok (.istore 5, 2) := by decide +kernel
theorem dX3_slackBy_5 : decode cX3_slackBy 5 = .ok (.iload 5, 2) := by decide +kernel
theorem dX3_slackBy_7 : decode cX3_slackBy 7 = .ok (.bipush 8, 2) := by decide +kernel
theorem dX3_slackBy_9 : decode cX3_slackBy 9 = .ok (.if_icmp .ge 82, 3) := by decide +kernel
theorem dX3_slackBy_12 : decode cX3_slackBy 12 = .ok (.iload_n 2, 1) := by decide +kernel
theorem dX3_slackBy_13 : decode cX3_slackBy 13 = .ok (.iload 5, 2) := by decide +kernel
theorem dX3_slackBy_15 : decode cX3_slackBy 15 = .ok (.iushr, 1) := by decide +kernel
theorem dX3_slackBy_16 : decode cX3_slackBy 16 = .ok (.iconst 1, 1) := by decide +kernel
theorem dX3_slackBy_17 : decode cX3_slackBy 17 = .ok (.iand, 1) := by decide +kernel
theorem dX3_slackBy_18 : decode cX3_slackBy 18 = .ok (.iconst 1, 1) := by decide +kernel
theorem dX3_slackBy_19 : decode cX3_slackBy 19 = .ok (.if_icmp .ne 7, 3) := by decide +kernel
theorem dX3_slackBy_22 : decode cX3_slackBy 22 = .ok (.iconst 1, 1) := by decide +kernel
theorem dX3_slackBy_23 : decode cX3_slackBy 23 = .ok (.goto 4, 3) := by decide +kernel
theorem dX3_slackBy_26 : decode cX3_slackBy 26 = .ok (.iconst 0, 1) := by decide +kernel
theorem dX3_slackBy_27 : decode cX3_slackBy 27 = .ok (.istore 6, 2) := by decide +kernel
theorem dX3_slackBy_29 : decode cX3_slackBy 29 = .ok (.iload_n 1, 1) := by decide +kernel
theorem dX3_slackBy_30 : decode cX3_slackBy 30 = .ok (.iload 5, 2) := by decide +kernel
theorem dX3_slackBy_32 : decode cX3_slackBy 32 = .ok (.iushr, 1) := by decide +kernel
theorem dX3_slackBy_33 : decode cX3_slackBy 33 = .ok (.iconst 1, 1) := by decide +kernel
theorem dX3_slackBy_34 : decode cX3_slackBy 34 = .ok (.iand, 1) := by decide +kernel
theorem dX3_slackBy_35 : decode cX3_slackBy 35 = .ok (.ifCond .ne 7, 3) := by decide +kernel
theorem dX3_slackBy_38 : decode cX3_slackBy 38 = .ok (.iconst 1, 1) := by decide +kernel
theorem dX3_slackBy_39 : decode cX3_slackBy 39 = .ok (.goto 4, 3) := by decide +kernel
theorem dX3_slackBy_42 : decode cX3_slackBy 42 = .ok (.iconst 0, 1) := by decide +kernel
theorem dX3_slackBy_43 : decode cX3_slackBy 43 = .ok (.istore 7, 2) := by decide +kernel
theorem dX3_slackBy_45 : decode cX3_slackBy 45 = .ok (.iload 7, 2) := by decide +kernel
theorem dX3_slackBy_47 : decode cX3_slackBy 47 = .ok (.ifCond .ne 25, 3) := by decide +kernel
theorem dX3_slackBy_50 : decode cX3_slackBy 50 = .ok (.iload 6, 2) := by decide +kernel
theorem dX3_slackBy_52 : decode cX3_slackBy 52 = .ok (.aload_n 0, 1) := by decide +kernel
theorem dX3_slackBy_53 : decode cX3_slackBy 53 = .ok (.getfield 9, 3) := by decide +kernel
theorem dX3_slackBy_56 : decode cX3_slackBy 56 = .ok (.iload 5, 2) := by decide +kernel
theorem dX3_slackBy_58 : decode cX3_slackBy 58 = .ok (.laload, 1) := by decide +kernel
theorem dX3_slackBy_59 : decode cX3_slackBy 59 = .ok (.lconst 0, 1) := by decide +kernel
theorem dX3_slackBy_60 : decode cX3_slackBy 60 = .ok (.lcmp, 1) := by decide +kernel
theorem dX3_slackBy_61 : decode cX3_slackBy 61 = .ok (.ifCond .le 7, 3) := by decide +kernel
theorem dX3_slackBy_64 : decode cX3_slackBy 64 = .ok (.iconst 1, 1) := by decide +kernel
theorem dX3_slackBy_65 : decode cX3_slackBy 65 = .ok (.goto 4, 3) := by decide +kernel
theorem dX3_slackBy_68 : decode cX3_slackBy 68 = .ok (.iconst 0, 1) := by decide +kernel
theorem dX3_slackBy_69 : decode cX3_slackBy 69 = .ok (.if_icmp .ne 16, 3) := by decide +kernel
theorem dX3_slackBy_72 : decode cX3_slackBy 72 = .ok (.lload_n 3, 1) := by decide +kernel
theorem dX3_slackBy_73 : decode cX3_slackBy 73 = .ok (.aload_n 0, 1) := by decide +kernel
theorem dX3_slackBy_74 : decode cX3_slackBy 74 = .ok (.getfield 9, 3) := by decide +kernel
theorem dX3_slackBy_77 : decode cX3_slackBy 77 = .ok (.iload 5, 2) := by decide +kernel
theorem dX3_slackBy_79 : decode cX3_slackBy 79 = .ok (.laload, 1) := by decide +kernel
theorem dX3_slackBy_80 : decode cX3_slackBy 80 = .ok (.invokestatic 46, 3) := by decide +kernel
theorem dX3_slackBy_83 : decode cX3_slackBy 83 = .ok (.ladd, 1) := by decide +kernel
theorem dX3_slackBy_84 : decode cX3_slackBy 84 = .ok (.lstore_n 3, 1) := by decide +kernel
theorem dX3_slackBy_85 : decode cX3_slackBy 85 = .ok (.iinc 5 1, 3) := by decide +kernel
theorem dX3_slackBy_88 : decode cX3_slackBy 88 = .ok (.goto (-83), 3) := by decide +kernel
theorem dX3_slackBy_91 : decode cX3_slackBy 91 = .ok (.lload_n 3, 1) := by decide +kernel
theorem dX3_slackBy_92 : decode cX3_slackBy 92 = .ok (.aload_n 0, 1) := by decide +kernel
theorem dX3_slackBy_93 : decode cX3_slackBy 93 = .ok (.getfield 25, 3) := by decide +kernel
theorem dX3_slackBy_96 : decode cX3_slackBy 96 = .ok (.lsub, 1) := by decide +kernel
theorem dX3_slackBy_97 : decode cX3_slackBy 97 = .ok (.lreturn, 1) := by decide +kernel
theorem dX3_holdsBy_0 : decode cX3_holdsBy 0 = .ok (.aload_n 0, 1) := by decide +kernel
theorem dX3_holdsBy_1 : decode cX3_holdsBy 1 = .ok (.sipush 255, 3) := by decide +kernel
theorem dX3_holdsBy_4 : decode cX3_holdsBy 4 = .ok (.iload_n 1, 1) := by decide +kernel
theorem dX3_holdsBy_5 : decode cX3_holdsBy 5 = .ok (.invokevirtual 80, 3) := by decide +kernel
theorem dX3_holdsBy_8 : decode cX3_holdsBy 8 = .ok (.lconst 0, 1) := by decide +kernel
theorem dX3_holdsBy_9 : decode cX3_holdsBy 9 = .ok (.lcmp, 1) := by decide +kernel
theorem dX3_holdsBy_10 : decode cX3_holdsBy 10 = .ok (.ifCond .lt 7, 3) := by decide +kernel
theorem dX3_holdsBy_13 : decode cX3_holdsBy 13 = .ok (.iconst 1, 1) := by decide +kernel
theorem dX3_holdsBy_14 : decode cX3_holdsBy 14 = .ok (.goto 4, 3) := by decide +kernel
theorem dX3_holdsBy_17 : decode cX3_holdsBy 17 = .ok (.iconst 0, 1) := by decide +kernel
theorem dX3_holdsBy_18 : decode cX3_holdsBy 18 = .ok (.ireturn, 1) := by decide +kernel
theorem dX3_countVariables_0 : decode cX3_countVariables 0 = .ok (.iconst 0, 1) := by decide +kernel
theorem dX3_countVariables_1 : decode cX3_countVariables 1 = .ok (.istore_n 1, 1) := by decide +kernel
theorem dX3_countVariables_2 : decode cX3_countVariables 2 = .ok (.iconst 0, 1) := by decide +kernel
theorem dX3_countVariables_3 : decode cX3_countVariables 3 = .ok (.istore_n 2, 1) := by decide +kernel
theorem dX3_countVariables_4 : decode cX3_countVariables 4 = .ok (.iload_n 2, 1) := by decide +kernel
theorem dX3_countVariables_5 : decode cX3_countVariables 5 = .ok (.bipush 8, 2) := by decide +kernel
theorem dX3_countVariables_7 : decode cX3_countVariables 7 = .ok (.if_icmp .ge 23, 3) := by decide +kernel
theorem dX3_countVariables_10 : decode cX3_countVariables 10 = .ok (.aload_n 0, 1) := by decide +kernel
theorem dX3_countVariables_11 : decode cX3_countVariables 11 = .ok (.getfield 9, 3) := by decide +kernel
theorem dX3_countVariables_14 : decode cX3_countVariables 14 = .ok (.iload_n 2, 1) := by decide +kernel
theorem dX3_countVariables_15 : decode cX3_countVariables 15 = .ok (.laload, 1) := by decide +kernel
theorem dX3_countVariables_16 : decode cX3_countVariables 16 = .ok (.lconst 0, 1) := by decide +kernel
theorem dX3_countVariables_17 : decode cX3_countVariables 17 = .ok (.lcmp, 1) := by decide +kernel
theorem dX3_countVariables_18 : decode cX3_countVariables 18 = .ok (.ifCond .eq 6, 3) := by decide +kernel
theorem dX3_countVariables_21 : decode cX3_countVariables 21 = .ok (.iinc 1 1, 3) := by decide +kernel
theorem dX3_countVariables_24 : decode cX3_countVariables 24 = .ok (.iinc 2 1, 3) := by decide +kernel
theorem dX3_countVariables_27 : decode cX3_countVariables 27 = .ok (.goto (-23), 3) := by decide +kernel
theorem dX3_countVariables_30 : decode cX3_countVariables 30 = .ok (.iload_n 1, 1) := by decide +kernel
theorem dX3_countVariables_31 : decode cX3_countVariables 31 = .ok (.ireturn, 1) := by decide +kernel
theorem dX3_leastVariable_0 : decode cX3_leastVariable 0 = .ok (.iconst 0, 1) := by decide +kernel
theorem dX3_leastVariable_1 : decode cX3_leastVariable 1 = .ok (.istore_n 1, 1) := by decide +kernel
theorem dX3_leastVariable_2 : decode cX3_leastVariable 2 = .ok (.iload_n 1, 1) := by decide +kernel
theorem dX3_leastVariable_3 : decode cX3_leastVariable 3 = .ok (.bipush 8, 2) := by decide +kernel
theorem dX3_leastVariable_5 : decode cX3_leastVariable 5 = .ok (.if_icmp .ge 22, 3) := by decide +kernel
theorem dX3_leastVariable_8 : decode cX3_leastVariable 8 = .ok (.aload_n 0, 1) := by decide +kernel
theorem dX3_leastVariable_9 : decode cX3_leastVariable 9 = .ok (.getfield 9, 3) := by decide +kernel
theorem dX3_leastVariable_12 : decode cX3_leastVariable 12 = .ok (.iload_n 1, 1) := by decide +kernel
theorem dX3_leastVariable_13 : decode cX3_leastVariable 13 = .ok (.laload, 1) := by decide +kernel
theorem dX3_leastVariable_14 : decode cX3_leastVariable 14 = .ok (.lconst 0, 1) := by decide +kernel
theorem dX3_leastVariable_15 : decode cX3_leastVariable 15 = .ok (.lcmp, 1) := by decide +kernel
theorem dX3_leastVariable_16 : decode cX3_leastVariable 16 = .ok (.ifCond .eq 5, 3) := by decide +kernel
theorem dX3_leastVariable_19 : decode cX3_leastVariable 19 = .ok (.iload_n 1, 1) := by decide +kernel
theorem dX3_leastVariable_20 : decode cX3_leastVariable 20 = .ok (.ireturn, 1) := by decide +kernel
theorem dX3_leastVariable_21 : decode cX3_leastVariable 21 = .ok (.iinc 1 1, 3) := by decide +kernel
theorem dX3_leastVariable_24 : decode cX3_leastVariable 24 = .ok (.goto (-22), 3) := by decide +kernel
theorem dX3_leastVariable_27 : decode cX3_leastVariable 27 = .ok (.bipush 8, 2) := by decide +kernel
theorem dX3_leastVariable_29 : decode cX3_leastVariable 29 = .ok (.ireturn, 1) := by decide +kernel
theorem dX4_init_0 : decode cX4_init 0 = .ok (.aload_n 0, 1) := by decide +kernel
theorem dX4_init_1 : decode cX4_init 1 = .ok (.invokespecial 3, 3) := by decide +kernel
theorem dX4_init_4 : decode cX4_init 4 = .ok (.aload_n 0, 1) := by decide +kernel
theorem dX4_init_5 : decode cX4_init 5 = .ok (.new 9, 3) := by decide +kernel
theorem dX4_init_8 : decode cX4_init 8 = .ok (.dup, 1) := by decide +kernel
theorem dX4_init_9 : decode cX4_init 9 = .ok (.iconst (-1), 1) := by decide +kernel
theorem dX4_init_10 : decode cX4_init 10 = .ok (.invokespecial 11, 3) := by decide +kernel
theorem dX4_init_13 : decode cX4_init 13 = .ok (.putfield 14, 3) := by decide +kernel
theorem dX4_init_16 : decode cX4_init 16 = .ok (.aload_n 0, 1) := by decide +kernel
theorem dX4_init_17 : decode cX4_init 17 = .ok (.new 9, 3) := by decide +kernel
theorem dX4_init_20 : decode cX4_init 20 = .ok (.dup, 1) := by decide +kernel
theorem dX4_init_21 : decode cX4_init 21 = .ok (.iconst (-1), 1) := by decide +kernel
theorem dX4_init_22 : decode cX4_init 22 = .ok (.invokespecial 11, 3) := by decide +kernel
theorem dX4_init_25 : decode cX4_init 25 = .ok (.putfield 20, 3) := by decide +kernel
theorem dX4_init_28 : decode cX4_init 28 = .ok (.aload_n 0, 1) := by decide +kernel
theorem dX4_init_29 : decode cX4_init 29 = .ok (.new 9, 3) := by decide +kernel
theorem dX4_init_32 : decode cX4_init 32 = .ok (.dup, 1) := by decide +kernel
theorem dX4_init_33 : decode cX4_init 33 = .ok (.iconst (-1), 1) := by decide +kernel
theorem dX4_init_34 : decode cX4_init 34 = .ok (.invokespecial 11, 3) := by decide +kernel
theorem dX4_init_37 : decode cX4_init 37 = .ok (.putfield 23, 3) := by decide +kernel
theorem dX4_init_40 : decode cX4_init 40 = .ok (.aload_n 0, 1) := by decide +kernel
theorem dX4_init_41 : decode cX4_init 41 = .ok (.new 9, 3) := by decide +kernel
theorem dX4_init_44 : decode cX4_init 44 = .ok (.dup, 1) := by decide +kernel
theorem dX4_init_45 : decode cX4_init 45 = .ok (.iconst (-1), 1) := by decide +kernel
theorem dX4_init_46 : decode cX4_init 46 = .ok (.invokespecial 11, 3) := by decide +kernel
theorem dX4_init_49 : decode cX4_init 49 = .ok (.putfield 26, 3) := by decide +kernel
theorem dX4_init_52 : decode cX4_init 52 = .ok (.aload_n 0, 1) := by decide +kernel
theorem dX4_init_53 : decode cX4_init 53 = .ok (.aload_n 1, 1) := by decide +kernel
theorem dX4_init_54 : decode cX4_init 54 = .ok (.putfield 29, 3) := by decide +kernel
theorem dX4_init_57 : decode cX4_init 57 = .ok (.return_, 1) := by decide +kernel
theorem dX4_conflictByKnown_0 : decode cX4_conflictByKnown 0 = .ok (.aload_n 0, 1) := by decide +kernel
theorem dX4_conflictByKnown_1 : decode cX4_conflictByKnown 1 = .ok (.iload_n 1, 1) := by decide +kernel
theorem dX4_conflictByKnown_2 : decode cX4_conflictByKnown 2 = .ok (.putfield 33, 3) := by decide +kernel
theorem dX4_conflictByKnown_5 : decode cX4_conflictByKnown 5 = .ok (.aload_n 0, 1) := by decide +kernel
theorem dX4_conflictByKnown_6 : decode cX4_conflictByKnown 6 = .ok (.iload_n 1, 1) := by decide +kernel
theorem dX4_conflictByKnown_7 : decode cX4_conflictByKnown 7 = .ok (.iload_n 2, 1) := by decide +kernel
theorem dX4_conflictByKnown_8 : decode cX4_conflictByKnown 8 = .ok (.iand, 1) := by decide +kernel
theorem dX4_conflictByKnown_9 : decode cX4_conflictByKnown 9 = .ok (.putfield 37, 3) := by decide +kernel
theorem dX4_conflictByKnown_12 : decode cX4_conflictByKnown 12 = .ok (.aload_n 0, 1) := by decide +kernel
theorem dX4_conflictByKnown_13 : decode cX4_conflictByKnown 13 = .ok (.aload_n 0, 1) := by decide +kernel
theorem dX4_conflictByKnown_14 : decode cX4_conflictByKnown 14 = .ok (.getfield 29, 3) := by decide +kernel
theorem dX4_conflictByKnown_17 : decode cX4_conflictByKnown 17 = .ok (.getfield 40, 3) := by decide +kernel
theorem dX4_conflictByKnown_20 : decode cX4_conflictByKnown 20 = .ok (.aload_n 0, 1) := by decide +kernel
theorem dX4_conflictByKnown_21 : decode cX4_conflictByKnown 21 = .ok (.getfield 14, 3) := by decide +kernel
theorem dX4_conflictByKnown_24 : decode cX4_conflictByKnown 24 = .ok (.aload_n 0, 1) := by decide +kernel
theorem dX4_conflictByKnown_25 : decode cX4_conflictByKnown 25 = .ok (.getfield 14, 3) := by decide +kernel
theorem dX4_conflictByKnown_28 : decode cX4_conflictByKnown 28 = .ok (.invokevirtual 45, 3) := by decide +kernel
theorem dX4_conflictByKnown_31 : decode cX4_conflictByKnown 31 = .ok (.ireturn, 1) := by decide +kernel
theorem dX4_followsFromAll_0 : decode cX4_followsFromAll 0 = .ok (.aload_n 0, 1) := by decide +kernel
theorem dX4_followsFromAll_1 : decode cX4_followsFromAll 1 = .ok (.aload_n 1, 1) := by decide +kernel
theorem dX4_followsFromAll_2 : decode cX4_followsFromAll 2 = .ok (.aload_n 0, 1) := by decide +kernel
theorem dX4_followsFromAll_3 : decode cX4_followsFromAll 3 = .ok (.getfield 29, 3) := by decide +kernel
theorem dX4_followsFromAll_6 : decode cX4_followsFromAll 6 = .ok (.getfield 40, 3) := by decide +kernel
theorem dX4_followsFromAll_9 : decode cX4_followsFromAll 9 = .ok (.aload_n 0, 1) := by decide +kernel
theorem dX4_followsFromAll_10 : decode cX4_followsFromAll 10 = .ok (.getfield 14, 3) := by decide +kernel
theorem dX4_followsFromAll_13 : decode cX4_followsFromAll 13 = .ok (.invokevirtual 49, 3) := by decide +kernel
theorem dX4_followsFromAll_16 : decode cX4_followsFromAll 16 = .ok (.ireturn, 1) := by decide +kernel
theorem dX4_followsFromOthers_0 : decode cX4_followsFromOthers 0 = .ok (.aload_n 0, 1) := by decide +kernel
theorem dX4_followsFromOthers_1 : decode cX4_followsFromOthers 1 = .ok (.aload_n 0, 1) := by decide +kernel
theorem dX4_followsFromOthers_2 : decode cX4_followsFromOthers 2 = .ok (.getfield 29, 3) := by decide +kernel
theorem dX4_followsFromOthers_5 : decode cX4_followsFromOthers 5 = .ok (.getfield 53, 3) := by decide +kernel
theorem dX4_followsFromOthers_8 : decode cX4_followsFromOthers 8 = .ok (.iload_n 1, 1) := by decide +kernel
theorem dX4_followsFromOthers_9 : decode cX4_followsFromOthers 9 = .ok (.aaload, 1) := by decide +kernel
theorem dX4_followsFromOthers_10 : decode cX4_followsFromOthers 10 = .ok (.aload_n 0, 1) := by decide +kernel
theorem dX4_followsFromOthers_11 : decode cX4_followsFromOthers 11 = .ok (.getfield 29, 3) := by decide +kernel
theorem dX4_followsFromOthers_14 : decode cX4_followsFromOthers 14 = .ok (.getfield 40, 3) := by decide +kernel
theorem dX4_followsFromOthers_17 : decode cX4_followsFromOthers 17 = .ok (.iconst 1, 1) := by decide +kernel
theorem dX4_followsFromOthers_18 : decode cX4_followsFromOthers 18 = .ok (.iload_n 1, 1) := by decide +kernel
theorem dX4_followsFromOthers_19 : decode cX4_followsFromOthers 19 = .ok (.ishl, 1) := by decide +kernel
theorem dX4_followsFromOthers_20 : decode cX4_followsFromOthers 20 = .ok (.iconst (-1), 1) := by decide +kernel
theorem dX4_followsFromOthers_21 : decode cX4_followsFromOthers 21 = .ok (.ixor, 1) := by decide +kernel
theorem dX4_followsFromOthers_22 : decode cX4_followsFromOthers 22 = .ok (.iand, 1) := by decide +kernel
theorem dX4_followsFromOthers_23 : decode cX4_followsFromOthers 23 = .ok (.aload_n 0, 1) := by decide +kernel
theorem dX4_followsFromOthers_24 : decode cX4_followsFromOthers 24 = .ok (.getfield 14, 3) := by decide +kernel
theorem dX4_followsFromOthers_27 : decode cX4_followsFromOthers 27 = .ok (.invokevirtual 49, 3) := by decide +kernel
theorem dX4_followsFromOthers_30 : decode cX4_followsFromOthers 30 = .ok (.ireturn, 1) := by decide +kernel
theorem dX4_comesByWitness_0 : decode cX4_comesByWitness 0 = .ok (.aload_n 0, 1) := by decide +kernel
theorem dX4_comesByWitness_1 : decode cX4_comesByWitness 1 = .ok (.getfield 23, 3) := by decide +kernel
theorem dX4_comesByWitness_4 : decode cX4_comesByWitness 4 = .ok (.aload_n 1, 1) := by decide +kernel
theorem dX4_comesByWitness_5 : decode cX4_comesByWitness 5 = .ok (.invokevirtual 57, 3) := by decide +kernel
theorem dX4_comesByWitness_8 : decode cX4_comesByWitness 8 = .ok (.iconst 0, 1) := by decide +kernel
theorem dX4_comesByWitness_9 : decode cX4_comesByWitness 9 = .ok (.istore_n 3, 1) := by decide +kernel
theorem dX4_comesByWitness_10 : decode cX4_comesByWitness 10 = .ok (.iload_n 3, 1) := by decide +kernel
theorem dX4_comesByWitness_11 : decode cX4_comesByWitness 11 = .ok (.aload_n 0, 1) := by decide +kernel
theorem dX4_comesByWitness_12 : decode cX4_comesByWitness 12 = .ok (.getfield 29, 3) := by decide +kernel
theorem dX4_comesByWitness_15 : decode cX4_comesByWitness 15 = .ok (.getfield 61, 3) := by decide +kernel
theorem dX4_comesByWitness_18 : decode cX4_comesByWitness 18 = .ok (.if_icmp .ge 39, 3) := by decide +kernel
theorem dX4_comesByWitness_21 : decode cX4_comesByWitness 21 = .ok (.aload_n 0, 1) := by decide +kernel
theorem dX4_comesByWitness_22 : decode cX4_comesByWitness 22 = .ok (.getfield 29, 3) := by decide +kernel
theorem dX4_comesByWitness_25 : decode cX4_comesByWitness 25 = .ok (.iload_n 3, 1) := by decide +kernel
theorem dX4_comesByWitness_26 : decode cX4_comesByWitness 26 = .ok (.invokevirtual 64, 3) := by decide +kernel
theorem dX4_comesByWitness_29 : decode cX4_comesByWitness 29 = .ok (.ifCond .eq 22, 3) := by decide +kernel
theorem dX4_comesByWitness_32 : decode cX4_comesByWitness 32 = .ok (.aload_n 0, 1) := by decide +kernel
theorem dX4_comesByWitness_33 : decode cX4_comesByWitness 33 = .ok (.aload_n 0, 1) := by decide +kernel
theorem dX4_comesByWitness_34 : decode cX4_comesByWitness 34 = .ok (.getfield 29, 3) := by decide +kernel
theorem dX4_comesByWitness_37 : decode cX4_comesByWitness 37 = .ok (.getfield 53, 3) := by decide +kernel
theorem dX4_comesByWitness_40 : decode cX4_comesByWitness 40 = .ok (.iload_n 3, 1) := by decide +kernel
theorem dX4_comesByWitness_41 : decode cX4_comesByWitness 41 = .ok (.aaload, 1) := by decide +kernel
theorem dX4_comesByWitness_42 : decode cX4_comesByWitness 42 = .ok (.aload_n 2, 1) := by decide +kernel
theorem dX4_comesByWitness_43 : decode cX4_comesByWitness 43 = .ok (.invokevirtual 68, 3) := by decide +kernel
theorem dX4_comesByWitness_46 : decode cX4_comesByWitness 46 = .ok (.ifCond .ne 5, 3) := by decide +kernel
theorem dX4_comesByWitness_49 : decode cX4_comesByWitness 49 = .ok (.iconst 0, 1) := by decide +kernel
theorem dX4_comesByWitness_50 : decode cX4_comesByWitness 50 = .ok (.ireturn, 1) := by decide +kernel
theorem dX4_comesByWitness_51 : decode cX4_comesByWitness 51 = .ok (.iinc 3 1, 3) := by decide +kernel
theorem dX4_comesByWitness_54 : decode cX4_comesByWitness 54 = .ok (.goto (-44), 3) := by decide +kernel
theorem dX4_comesByWitness_57 : decode cX4_comesByWitness 57 = .ok (.aload_n 0, 1) := by decide +kernel
theorem dX4_comesByWitness_58 : decode cX4_comesByWitness 58 = .ok (.aload_n 1, 1) := by decide +kernel
theorem dX4_comesByWitness_59 : decode cX4_comesByWitness 59 = .ok (.aload_n 2, 1) := by decide +kernel
theorem dX4_comesByWitness_60 : decode cX4_comesByWitness 60 = .ok (.invokevirtual 68, 3) := by decide +kernel
theorem dX4_comesByWitness_63 : decode cX4_comesByWitness 63 = .ok (.ifCond .ne 5, 3) := by decide +kernel
theorem dX4_comesByWitness_66 : decode cX4_comesByWitness 66 = .ok (.iconst 0, 1) := by decide +kernel
theorem dX4_comesByWitness_67 : decode cX4_comesByWitness 67 = .ok (.ireturn, 1) := by decide +kernel
theorem dX4_comesByWitness_68 : decode cX4_comesByWitness 68 = .ok (.aload_n 0, 1) := by decide +kernel
theorem dX4_comesByWitness_69 : decode cX4_comesByWitness 69 = .ok (.getfield 29, 3) := by decide +kernel
theorem dX4_comesByWitness_72 : decode cX4_comesByWitness 72 = .ok (.invokevirtual 72, 3) := by decide +kernel
theorem dX4_comesByWitness_75 : decode cX4_comesByWitness 75 = .ok (.ifCond .ne 5, 3) := by decide +kernel
theorem dX4_comesByWitness_78 : decode cX4_comesByWitness 78 = .ok (.iconst 1, 1) := by decide +kernel
theorem dX4_comesByWitness_79 : decode cX4_comesByWitness 79 = .ok (.ireturn, 1) := by decide +kernel
theorem dX4_comesByWitness_80 : decode cX4_comesByWitness 80 = .ok (.aload_n 0, 1) := by decide +kernel
theorem dX4_comesByWitness_81 : decode cX4_comesByWitness 81 = .ok (.getfield 26, 3) := by decide +kernel
theorem dX4_comesByWitness_84 : decode cX4_comesByWitness 84 = .ok (.aload_n 0, 1) := by decide +kernel
theorem dX4_comesByWitness_85 : decode cX4_comesByWitness 85 = .ok (.getfield 29, 3) := by decide +kernel
theorem dX4_comesByWitness_88 : decode cX4_comesByWitness 88 = .ok (.getfield 76, 3) := by decide +kernel
theorem dX4_comesByWitness_91 : decode cX4_comesByWitness 91 = .ok (.aload_n 2, 1) := by decide +kernel
theorem dX4_comesByWitness_92 : decode cX4_comesByWitness 92 = .ok (.invokevirtual 80, 3) := by decide +kernel
theorem dX4_comesByWitness_95 : decode cX4_comesByWitness 95 = .ok (.aload_n 0, 1) := by decide +kernel
theorem dX4_comesByWitness_96 : decode cX4_comesByWitness 96 = .ok (.aload_n 0, 1) := by decide +kernel
theorem dX4_comesByWitness_97 : decode cX4_comesByWitness 97 = .ok (.getfield 26, 3) := by decide +kernel
theorem dX4_comesByWitness_100 : decode cX4_comesByWitness 100 = .ok (.aload_n 0, 1) := by decide +kernel
theorem dX4_comesByWitness_101 : decode cX4_comesByWitness 101 = .ok (.getfield 29, 3) := by decide +kernel
theorem dX4_comesByWitness_104 : decode cX4_comesByWitness 104 = .ok (.getfield 40, 3) := by decide +kernel
theorem dX4_comesByWitness_107 : decode cX4_comesByWitness 107 = .ok (.aload_n 0, 1) := by decide +kernel
theorem dX4_comesByWitness_108 : decode cX4_comesByWitness 108 = .ok (.getfield 23, 3) := by decide +kernel
theorem dX4_comesByWitness_111 : decode cX4_comesByWitness 111 = .ok (.invokevirtual 49, 3) := by decide +kernel
theorem dX4_comesByWitness_114 : decode cX4_comesByWitness 114 = .ok (.ireturn, 1) := by decide +kernel
theorem dX4_followsPut_0 : decode cX4_followsPut 0 = .ok (.aload_n 0, 1) := by decide +kernel
theorem dX4_followsPut_1 : decode cX4_followsPut 1 = .ok (.getfield 26, 3) := by decide +kernel
theorem dX4_followsPut_4 : decode cX4_followsPut 4 = .ok (.aload_n 1, 1) := by decide +kernel
theorem dX4_followsPut_5 : decode cX4_followsPut 5 = .ok (.aload_n 2, 1) := by decide +kernel
theorem dX4_followsPut_6 : decode cX4_followsPut 6 = .ok (.invokevirtual 84, 3) := by decide +kernel
theorem dX4_followsPut_9 : decode cX4_followsPut 9 = .ok (.aload_n 0, 1) := by decide +kernel
theorem dX4_followsPut_10 : decode cX4_followsPut 10 = .ok (.aload_n 0, 1) := by decide +kernel
theorem dX4_followsPut_11 : decode cX4_followsPut 11 = .ok (.getfield 26, 3) := by decide +kernel
theorem dX4_followsPut_14 : decode cX4_followsPut 14 = .ok (.aload_n 0, 1) := by decide +kernel
theorem dX4_followsPut_15 : decode cX4_followsPut 15 = .ok (.getfield 29, 3) := by decide +kernel
theorem dX4_followsPut_18 : decode cX4_followsPut 18 = .ok (.getfield 40, 3) := by decide +kernel
theorem dX4_followsPut_21 : decode cX4_followsPut 21 = .ok (.aload_n 0, 1) := by decide +kernel
theorem dX4_followsPut_22 : decode cX4_followsPut 22 = .ok (.getfield 23, 3) := by decide +kernel
theorem dX4_followsPut_25 : decode cX4_followsPut 25 = .ok (.invokevirtual 49, 3) := by decide +kernel
theorem dX4_followsPut_28 : decode cX4_followsPut 28 = .ok (.ireturn, 1) := by decide +kernel
theorem dX4_followsFrom_0 : decode cX4_followsFrom 0 = .ok (.aload_n 1, 1) := by decide +kernel
theorem dX4_followsFrom_1 : decode cX4_followsFrom 1 = .ok (.getfield 88, 3) := by decide +kernel
theorem dX4_followsFrom_4 : decode cX4_followsFrom 4 = .ok (.lconst 0, 1) := by decide +kernel
theorem dX4_followsFrom_5 : decode cX4_followsFrom 5 = .ok (.lcmp, 1) := by decide +kernel
theorem dX4_followsFrom_6 : decode cX4_followsFrom 6 = .ok (.ifCond .ne 5, 3) := by decide +kernel
theorem dX4_followsFrom_9 : decode cX4_followsFrom 9 = .ok (.iconst 1, 1) := by decide +kernel
theorem dX4_followsFrom_10 : decode cX4_followsFrom 10 = .ok (.ireturn, 1) := by decide +kernel
theorem dX4_followsFrom_11 : decode cX4_followsFrom 11 = .ok (.aload_n 0, 1) := by decide +kernel
theorem dX4_followsFrom_12 : decode cX4_followsFrom 12 = .ok (.getfield 20, 3) := by decide +kernel
theorem dX4_followsFrom_15 : decode cX4_followsFrom 15 = .ok (.aload_n 1, 1) := by decide +kernel
theorem dX4_followsFrom_16 : decode cX4_followsFrom 16 = .ok (.invokevirtual 57, 3) := by decide +kernel
theorem dX4_followsFrom_19 : decode cX4_followsFrom 19 = .ok (.aload_n 0, 1) := by decide +kernel
theorem dX4_followsFrom_20 : decode cX4_followsFrom 20 = .ok (.iconst 0, 1) := by decide +kernel
theorem dX4_followsFrom_21 : decode cX4_followsFrom 21 = .ok (.putfield 33, 3) := by decide +kernel
theorem dX4_followsFrom_24 : decode cX4_followsFrom 24 = .ok (.aload_n 0, 1) := by decide +kernel
theorem dX4_followsFrom_25 : decode cX4_followsFrom 25 = .ok (.iconst 0, 1) := by decide +kernel
theorem dX4_followsFrom_26 : decode cX4_followsFrom 26 = .ok (.putfield 37, 3) := by decide +kernel
theorem dX4_followsFrom_29 : decode cX4_followsFrom 29 = .ok (.aload_n 0, 1) := by decide +kernel
theorem dX4_followsFrom_30 : decode cX4_followsFrom 30 = .ok (.iload_n 2, 1) := by decide +kernel
theorem dX4_followsFrom_31 : decode cX4_followsFrom 31 = .ok (.aload_n 3, 1) := by decide +kernel
theorem dX4_followsFrom_32 : decode cX4_followsFrom 32 = .ok (.aload_n 0, 1) := by decide +kernel
theorem dX4_followsFrom_33 : decode cX4_followsFrom 33 = .ok (.getfield 20, 3) := by decide +kernel
theorem dX4_followsFrom_36 : decode cX4_followsFrom 36 = .ok (.invokevirtual 45, 3) := by decide +kernel
theorem dX4_followsFrom_39 : decode cX4_followsFrom 39 = .ok (.ireturn, 1) := by decide +kernel
theorem dX4_drives_0 : decode cX4_drives 0 = .ok (.iconst 0, 1) := by decide +kernel
theorem dX4_drives_1 : decode cX4_drives 1 = .ok (.istore 4, 2) := by decide +kernel
theorem dX4_drives_3 : decode cX4_drives 3 = .ok (.iload 4, 2) := by decide +kernel
theorem dX4_drives_5 : decode cX4_drives 5 = .ok (.bipush 8, 2) := by decide +kernel
theorem dX4_drives_7 : decode cX4_drives 7 = .ok (.if_icmp .gt 94, 3) := by decide +kernel
theorem dX4_drives_10 : decode cX4_drives 10 = .ok (.aload_n 0, 1) := by decide +kernel
theorem dX4_drives_11 : decode cX4_drives 11 = .ok (.getfield 33, 3) := by decide +kernel
theorem dX4_drives_14 : decode cX4_drives 14 = .ok (.istore 5, 2) := by decide +kernel
theorem dX4_drives_16 : decode cX4_drives 16 = .ok (.iconst 0, 1) := by decide +kernel
theorem dX4_drives_17 : decode cX4_drives 17 = .ok (.istore 6, 2) := by decide +kernel
theorem dX4_drives_19 : decode cX4_drives 19 = .ok (.iload 6, 2) := by decide +kernel
theorem dX4_drives_21 : decode cX4_drives 21 = .ok (.aload_n 0, 1) := by decide +kernel
theorem dX4_drives_22 : decode cX4_drives 22 = .ok (.getfield 29, 3) := by decide +kernel
theorem dX4_drives_25 : decode cX4_drives 25 = .ok (.getfield 61, 3) := by decide +kernel
theorem dX4_drives_28 : decode cX4_drives 28 = .ok (.if_icmp .ge 38, 3) := by decide +kernel
theorem dX4_drives_31 : decode cX4_drives 31 = .ok (.iload_n 1, 1) := by decide +kernel
theorem dX4_drives_32 : decode cX4_drives 32 = .ok (.iload 6, 2) := by decide +kernel
theorem dX4_drives_34 : decode cX4_drives 34 = .ok (.iushr, 1) := by decide +kernel
theorem dX4_drives_35 : decode cX4_drives 35 = .ok (.iconst 1, 1) := by decide +kernel
theorem dX4_drives_36 : decode cX4_drives 36 = .ok (.iand, 1) := by decide +kernel
theorem dX4_drives_37 : decode cX4_drives 37 = .ok (.iconst 1, 1) := by decide +kernel
theorem dX4_drives_38 : decode cX4_drives 38 = .ok (.if_icmp .ne 22, 3) := by decide +kernel
theorem dX4_drives_41 : decode cX4_drives 41 = .ok (.aload_n 0, 1) := by decide +kernel
theorem dX4_drives_42 : decode cX4_drives 42 = .ok (.aload_n 0, 1) := by decide +kernel
theorem dX4_drives_43 : decode cX4_drives 43 = .ok (.getfield 29, 3) := by decide +kernel
theorem dX4_drives_46 : decode cX4_drives 46 = .ok (.getfield 53, 3) := by decide +kernel
theorem dX4_drives_49 : decode cX4_drives 49 = .ok (.iload 6, 2) := by decide +kernel
theorem dX4_drives_51 : decode cX4_drives 51 = .ok (.aaload, 1) := by decide +kernel
theorem dX4_drives_52 : decode cX4_drives 52 = .ok (.invokevirtual 92, 3) := by decide +kernel
theorem dX4_drives_55 : decode cX4_drives 55 = .ok (.ifCond .eq 5, 3) := by decide +kernel
theorem dX4_drives_58 : decode cX4_drives 58 = .ok (.iconst 1, 1) := by decide +kernel
theorem dX4_drives_59 : decode cX4_drives 59 = .ok (.ireturn, 1) := by decide +kernel
theorem dX4_drives_60 : decode cX4_drives 60 = .ok (.iinc 6 1, 3) := by decide +kernel
theorem dX4_drives_63 : decode cX4_drives 63 = .ok (.goto (-44), 3) := by decide +kernel
theorem dX4_drives_66 : decode cX4_drives 66 = .ok (.aload_n 0, 1) := by decide +kernel
theorem dX4_drives_67 : decode cX4_drives 67 = .ok (.aload_n 2, 1) := by decide +kernel
theorem dX4_drives_68 : decode cX4_drives 68 = .ok (.invokevirtual 92, 3) := by decide +kernel
theorem dX4_drives_71 : decode cX4_drives 71 = .ok (.ifCond .ne 11, 3) := by decide +kernel
theorem dX4_drives_74 : decode cX4_drives 74 = .ok (.aload_n 0, 1) := by decide +kernel
theorem dX4_drives_75 : decode cX4_drives 75 = .ok (.aload_n 3, 1) := by decide +kernel
theorem dX4_drives_76 : decode cX4_drives 76 = .ok (.invokevirtual 92, 3) := by decide +kernel
theorem dX4_drives_79 : decode cX4_drives 79 = .ok (.ifCond .eq 5, 3) := by decide +kernel
theorem dX4_drives_82 : decode cX4_drives 82 = .ok (.iconst 1, 1) := by decide +kernel
theorem dX4_drives_83 : decode cX4_drives 83 = .ok (.ireturn, 1) := by decide +kernel
theorem dX4_drives_84 : decode cX4_drives 84 = .ok (.aload_n 0, 1) := by decide +kernel
theorem dX4_drives_85 : decode cX4_drives 85 = .ok (.getfield 33, 3) := by decide +kernel
theorem dX4_drives_88 : decode cX4_drives 88 = .ok (.iload 5, 2) := by decide +kernel
theorem dX4_drives_90 : decode cX4_drives 90 = .ok (.if_icmp .ne 5, 3) := by decide +kernel
theorem dX4_drives_93 : decode cX4_drives 93 = .ok (.iconst 0, 1) := by decide +kernel
theorem dX4_drives_94 : decode cX4_drives 94 = .ok (.ireturn, 1) := by decide +kernel
theorem dX4_drives_95 : decode cX4_drives 95 = .ok (.iinc 4 1, 3) := by decide +kernel
theorem dX4_drives_98 : decode cX4_drives 98 = .ok (.goto (-95), 3) := by decide +kernel
theorem dX4_drives_101 : decode cX4_drives 101 = .ok (.iconst 0, 1) := by decide +kernel
theorem dX4_drives_102 : decode cX4_drives 102 = .ok (.ireturn, 1) := by decide +kernel
theorem dX4_conflicts_0 : decode cX4_conflicts 0 = .ok (.aload_n 1, 1) := by decide +kernel
theorem dX4_conflicts_1 : decode cX4_conflicts 1 = .ok (.aload_n 0, 1) := by decide +kernel
theorem dX4_conflicts_2 : decode cX4_conflicts 2 = .ok (.getfield 33, 3) := by decide +kernel
theorem dX4_conflicts_5 : decode cX4_conflicts 5 = .ok (.aload_n 0, 1) := by decide +kernel
theorem dX4_conflicts_6 : decode cX4_conflicts 6 = .ok (.getfield 37, 3) := by decide +kernel
theorem dX4_conflicts_9 : decode cX4_conflicts 9 = .ok (.invokevirtual 96, 3) := by decide +kernel
theorem dX4_conflicts_12 : decode cX4_conflicts 12 = .ok (.lstore_n 2, 1) := by decide +kernel
theorem dX4_conflicts_13 : decode cX4_conflicts 13 = .ok (.lload_n 2, 1) := by decide +kernel
theorem dX4_conflicts_14 : decode cX4_conflicts 14 = .ok (.lconst 0, 1) := by decide +kernel
theorem dX4_conflicts_15 : decode cX4_conflicts 15 = .ok (.lcmp, 1) := by decide +kernel
theorem dX4_conflicts_16 : decode cX4_conflicts 16 = .ok (.ifCond .ge 5, 3) := by decide +kernel
theorem dX4_conflicts_19 : decode cX4_conflicts 19 = .ok (.iconst 1, 1) := by decide +kernel
theorem dX4_conflicts_20 : decode cX4_conflicts 20 = .ok (.ireturn, 1) := by decide +kernel
theorem dX4_conflicts_21 : decode cX4_conflicts 21 = .ok (.iconst 0, 1) := by decide +kernel
theorem dX4_conflicts_22 : decode cX4_conflicts 22 = .ok (.istore 4, 2) := by decide +kernel
theorem dX4_conflicts_24 : decode cX4_conflicts 24 = .ok (.iload 4, 2) := by decide +kernel
theorem dX4_conflicts_26 : decode cX4_conflicts 26 = .ok (.bipush 8, 2) := by decide +kernel
theorem dX4_conflicts_28 : decode cX4_conflicts 28 = .ok (.if_icmp .ge 86, 3) := by decide +kernel
theorem dX4_conflicts_31 : decode cX4_conflicts 31 = .ok (.aload_n 0, 1) := by decide +kernel
theorem dX4_conflicts_32 : decode cX4_conflicts 32 = .ok (.getfield 33, 3) := by decide +kernel
theorem dX4_conflicts_35 : decode cX4_conflicts 35 = .ok (.iload 4, 2) := by decide +kernel
theorem dX4_conflicts_37 : decode cX4_conflicts 37 = .ok (.iushr, 1) := by decide +kernel
theorem dX4_conflicts_38 : decode cX4_conflicts 38 = .ok (.iconst 1, 1) := by decide +kernel
theorem dX4_conflicts_39 : decode cX4_conflicts 39 = .ok (.iand, 1) := by decide +kernel
theorem dX4_conflicts_40 : decode cX4_conflicts 40 = .ok (.ifCond .ne 7, 3) := by decide +kernel
theorem dX4_conflicts_43 : decode cX4_conflicts 43 = .ok (.iconst 1, 1) := by decide +kernel
theorem dX4_conflicts_44 : decode cX4_conflicts 44 = .ok (.goto 4, 3) := by decide +kernel
theorem dX4_conflicts_47 : decode cX4_conflicts 47 = .ok (.iconst 0, 1) := by decide +kernel
theorem dX4_conflicts_48 : decode cX4_conflicts 48 = .ok (.istore 5, 2) := by decide +kernel
theorem dX4_conflicts_50 : decode cX4_conflicts 50 = .ok (.iload 5, 2) := by decide +kernel
theorem dX4_conflicts_52 : decode cX4_conflicts 52 = .ok (.ifCond .eq 56, 3) := by decide +kernel
theorem dX4_conflicts_55 : decode cX4_conflicts 55 = .ok (.aload_n 1, 1) := by decide +kernel
theorem dX4_conflicts_56 : decode cX4_conflicts 56 = .ok (.getfield 100, 3) := by decide +kernel
theorem dX4_conflicts_59 : decode cX4_conflicts 59 = .ok (.iload 4, 2) := by decide +kernel
theorem dX4_conflicts_61 : decode cX4_conflicts 61 = .ok (.laload, 1) := by decide +kernel
theorem dX4_conflicts_62 : decode cX4_conflicts 62 = .ok (.invokestatic 104, 3) := by decide +kernel
theorem dX4_conflicts_65 : decode cX4_conflicts 65 = .ok (.lload_n 2, 1) := by decide +kernel
theorem dX4_conflicts_66 : decode cX4_conflicts 66 = .ok (.lcmp, 1) := by decide +kernel
theorem dX4_conflicts_67 : decode cX4_conflicts 67 = .ok (.ifCond .le 41, 3) := by decide +kernel
theorem dX4_conflicts_70 : decode cX4_conflicts 70 = .ok (.aload_n 0, 1) := by decide +kernel
theorem dX4_conflicts_71 : decode cX4_conflicts 71 = .ok (.dup, 1) := by decide +kernel
theorem dX4_conflicts_72 : decode cX4_conflicts 72 = .ok (.getfield 33, 3) := by decide +kernel
theorem dX4_conflicts_75 : decode cX4_conflicts 75 = .ok (.iconst 1, 1) := by decide +kernel
theorem dX4_conflicts_76 : decode cX4_conflicts 76 = .ok (.iload 4, 2) := by decide +kernel
theorem dX4_conflicts_78 : decode cX4_conflicts 78 = .ok (.ishl, 1) := by decide +kernel
theorem dX4_conflicts_79 : decode cX4_conflicts 79 = .ok (.ior, 1) := by decide +kernel
theorem dX4_conflicts_80 : decode cX4_conflicts 80 = .ok (.putfield 33, 3) := by decide +kernel
theorem dX4_conflicts_83 : decode cX4_conflicts 83 = .ok (.aload_n 1, 1) := by decide +kernel
theorem dX4_conflicts_84 : decode cX4_conflicts 84 = .ok (.getfield 100, 3) := by decide +kernel
theorem dX4_conflicts_87 : decode cX4_conflicts 87 = .ok (.iload 4, 2) := by decide +kernel
theorem dX4_conflicts_89 : decode cX4_conflicts 89 = .ok (.laload, 1) := by decide +kernel
theorem dX4_conflicts_90 : decode cX4_conflicts 90 = .ok (.lconst 0, 1) := by decide +kernel
theorem dX4_conflicts_91 : decode cX4_conflicts 91 = .ok (.lcmp, 1) := by decide +kernel
theorem dX4_conflicts_92 : decode cX4_conflicts 92 = .ok (.ifCond .le 16, 3) := by decide +kernel
theorem dX4_conflicts_95 : decode cX4_conflicts 95 = .ok (.aload_n 0, 1) := by decide +kernel
theorem dX4_conflicts_96 : decode cX4_conflicts 96 = .ok (.dup, 1) := by decide +kernel
theorem dX4_conflicts_97 : decode cX4_conflicts 97 = .ok (.getfield 37, 3) := by decide +kernel
theorem dX4_conflicts_100 : decode cX4_conflicts 100 = .ok (.iconst 1, 1) := by decide +kernel
theorem dX4_conflicts_101 : decode cX4_conflicts 101 = .ok (.iload 4, 2) := by decide +kernel
theorem dX4_conflicts_103 : decode cX4_conflicts 103 = .ok (.ishl, 1) := by decide +kernel
theorem dX4_conflicts_104 : decode cX4_conflicts 104 = .ok (.ior, 1) := by decide +kernel
theorem dX4_conflicts_105 : decode cX4_conflicts 105 = .ok (.putfield 37, 3) := by decide +kernel
theorem dX4_conflicts_108 : decode cX4_conflicts 108 = .ok (.iinc 4 1, 3) := by decide +kernel
theorem dX4_conflicts_111 : decode cX4_conflicts 111 = .ok (.goto (-87), 3) := by decide +kernel
theorem dX4_conflicts_114 : decode cX4_conflicts 114 = .ok (.iconst 0, 1) := by decide +kernel
theorem dX4_conflicts_115 : decode cX4_conflicts 115 = .ok (.ireturn, 1) := by decide +kernel
theorem dX5_init_0 : decode cX5_init 0 = .ok (.aload_n 0, 1) := by decide +kernel
theorem dX5_init_1 : decode cX5_init 1 = .ok (.invokespecial 3, 3) := by decide +kernel
theorem dX5_init_4 : decode cX5_init 4 = .ok (.aload_n 0, 1) := by decide +kernel
theorem dX5_init_5 : decode cX5_init 5 = .ok (.sipush 200, 3) := by decide +kernel
theorem dX5_init_8 : decode cX5_init 8 = .ok (.newarray .int, 2) := by decide +kernel
theorem dX5_init_10 : decode cX5_init 10 = .ok (.putfield 9, 3) := by decide +kernel
theorem dX5_init_13 : decode cX5_init 13 = .ok (.aload_n 0, 1) := by decide +kernel
theorem dX5_init_14 : decode cX5_init 14 = .ok (.bipush 8, 2) := by decide +kernel
theorem dX5_init_16 : decode cX5_init 16 = .ok (.anewarray 15, 3) := by decide +kernel
theorem dX5_init_19 : decode cX5_init 19 = .ok (.putfield 17, 3) := by decide +kernel
theorem dX5_init_22 : decode cX5_init 22 = .ok (.aload_n 0, 1) := by decide +kernel
theorem dX5_init_23 : decode cX5_init 23 = .ok (.bipush 8, 2) := by decide +kernel
theorem dX5_init_25 : decode cX5_init 25 = .ok (.newarray .int, 2) := by decide +kernel
theorem dX5_init_27 : decode cX5_init 27 = .ok (.putfield 21, 3) := by decide +kernel
theorem dX5_init_30 : decode cX5_init 30 = .ok (.iconst 0, 1) := by decide +kernel
theorem dX5_init_31 : decode cX5_init 31 = .ok (.istore_n 1, 1) := by decide +kernel
theorem dX5_init_32 : decode cX5_init 32 = .ok (.iload_n 1, 1) := by decide +kernel
theorem dX5_init_33 : decode cX5_init 33 = .ok (.bipush 8, 2) := by decide +kernel
theorem dX5_init_35 : decode cX5_init 35 = .ok (.if_icmp .ge 23, 3) := by decide +kernel
theorem dX5_init_38 : decode cX5_init 38 = .ok (.aload_n 0, 1) := by decide +kernel
theorem dX5_init_39 : decode cX5_init 39 = .ok (.getfield 17, 3) := by decide +kernel
theorem dX5_init_42 : decode cX5_init 42 = .ok (.iload_n 1, 1) := by decide +kernel
theorem dX5_init_43 : decode cX5_init 43 = .ok (.new 15, 3) := by decide +kernel
theorem dX5_init_46 : decode cX5_init 46 = .ok (.dup, 1) := by decide +kernel
theorem dX5_init_47 : decode cX5_init 47 = .ok (.iload_n 1, 1) := by decide +kernel
theorem dX5_init_48 : decode cX5_init 48 = .ok (.invokespecial 24, 3) := by decide +kernel
theorem dX5_init_51 : decode cX5_init 51 = .ok (.aastore, 1) := by decide +kernel
theorem dX5_init_52 : decode cX5_init 52 = .ok (.iinc 1 1, 3) := by decide +kernel
theorem dX5_init_55 : decode cX5_init 55 = .ok (.goto (-23), 3) := by decide +kernel
theorem dX5_init_58 : decode cX5_init 58 = .ok (.return_, 1) := by decide +kernel
theorem dX5_take_0 : decode cX5_take 0 = .ok (.aload_n 0, 1) := by decide +kernel
theorem dX5_take_1 : decode cX5_take 1 = .ok (.getfield 27, 3) := by decide +kernel
theorem dX5_take_4 : decode cX5_take 4 = .ok (.sipush 200, 3) := by decide +kernel
theorem dX5_take_7 : decode cX5_take 7 = .ok (.if_icmp .ge 23, 3) := by decide +kernel
theorem dX5_take_10 : decode cX5_take 10 = .ok (.aload_n 0, 1) := by decide +kernel
theorem dX5_take_11 : decode cX5_take 11 = .ok (.getfield 9, 3) := by decide +kernel
theorem dX5_take_14 : decode cX5_take 14 = .ok (.aload_n 0, 1) := by decide +kernel
theorem dX5_take_15 : decode cX5_take 15 = .ok (.getfield 27, 3) := by decide +kernel
theorem dX5_take_18 : decode cX5_take 18 = .ok (.iload_n 1, 1) := by decide +kernel
theorem dX5_take_19 : decode cX5_take 19 = .ok (.iastore, 1) := by decide +kernel
theorem dX5_take_20 : decode cX5_take 20 = .ok (.aload_n 0, 1) := by decide +kernel
theorem dX5_take_21 : decode cX5_take 21 = .ok (.dup, 1) := by decide +kernel
theorem dX5_take_22 : decode cX5_take 22 = .ok (.getfield 27, 3) := by decide +kernel
theorem dX5_take_25 : decode cX5_take 25 = .ok (.iconst 1, 1) := by decide +kernel
theorem dX5_take_26 : decode cX5_take 26 = .ok (.iadd, 1) := by decide +kernel
theorem dX5_take_27 : decode cX5_take 27 = .ok (.putfield 27, 3) := by decide +kernel
theorem dX5_take_30 : decode cX5_take 30 = .ok (.aload_n 0, 1) := by decide +kernel
theorem dX5_take_31 : decode cX5_take 31 = .ok (.getfield 27, 3) := by decide +kernel
theorem dX5_take_34 : decode cX5_take 34 = .ok (.ireturn, 1) := by decide +kernel
theorem dX5_begin_0 : decode cX5_begin 0 = .ok (.aload_n 0, 1) := by decide +kernel
theorem dX5_begin_1 : decode cX5_begin 1 = .ok (.aload_n 0, 1) := by decide +kernel
theorem dX5_begin_2 : decode cX5_begin 2 = .ok (.getfield 27, 3) := by decide +kernel
theorem dX5_begin_5 : decode cX5_begin 5 = .ok (.putfield 31, 3) := by decide +kernel
theorem dX5_begin_8 : decode cX5_begin 8 = .ok (.aload_n 0, 1) := by decide +kernel
theorem dX5_begin_9 : decode cX5_begin 9 = .ok (.iconst 0, 1) := by decide +kernel
theorem dX5_begin_10 : decode cX5_begin 10 = .ok (.putfield 27, 3) := by decide +kernel
theorem dX5_begin_13 : decode cX5_begin 13 = .ok (.aload_n 0, 1) := by decide +kernel
theorem dX5_begin_14 : decode cX5_begin 14 = .ok (.iconst 0, 1) := by decide +kernel
theorem dX5_begin_15 : decode cX5_begin 15 = .ok (.putfield 34, 3) := by decide +kernel
theorem dX5_begin_18 : decode cX5_begin 18 = .ok (.aload_n 0, 1) := by decide +kernel
theorem dX5_begin_19 : decode cX5_begin 19 = .ok (.iconst 0, 1) := by decide +kernel
theorem dX5_begin_20 : decode cX5_begin 20 = .ok (.putfield 37, 3) := by decide +kernel
theorem dX5_begin_23 : decode cX5_begin 23 = .ok (.aload_n 0, 1) := by decide +kernel
theorem dX5_begin_24 : decode cX5_begin 24 = .ok (.getfield 21, 3) := by decide +kernel
theorem dX5_begin_27 : decode cX5_begin 27 = .ok (.iconst 0, 1) := by decide +kernel
theorem dX5_begin_28 : decode cX5_begin 28 = .ok (.invokestatic 40, 3) := by decide +kernel
theorem dX5_begin_31 : decode cX5_begin 31 = .ok (.return_, 1) := by decide +kernel
theorem dX5_readsFormula_0 : decode cX5_readsFormula 0 = .ok (.aload_n 0, 1) := by decide +kernel
theorem dX5_readsFormula_1 : decode cX5_readsFormula 1 = .ok (.invokevirtual 46, 3) := by decide +kernel
theorem dX5_readsFormula_4 : decode cX5_readsFormula 4 = .ok (.aload_n 0, 1) := by decide +kernel
theorem dX5_readsFormula_5 : decode cX5_readsFormula 5 = .ok (.invokevirtual 49, 3) := by decide +kernel
theorem dX5_readsFormula_8 : decode cX5_readsFormula 8 = .ok (.ifCond .eq 14, 3) := by decide +kernel
theorem dX5_readsFormula_11 : decode cX5_readsFormula 11 = .ok (.aload_n 0, 1) := by decide +kernel
theorem dX5_readsFormula_12 : decode cX5_readsFormula 12 = .ok (.invokevirtual 53, 3) := by decide +kernel
theorem dX5_readsFormula_15 : decode cX5_readsFormula 15 = .ok (.ifCond .eq 7, 3) := by decide +kernel
theorem dX5_readsFormula_18 : decode cX5_readsFormula 18 = .ok (.iconst 1, 1) := by decide +kernel
end
section
theorem dX5_readsFormula_19 : decode cX5_readsFormula 19 = .ok (.goto 4, 3) := by decide +kernel
theorem dX5_readsFormula_22 : decode cX5_readsFormula 22 = .ok (.iconst 0, 1) := by decide +kernel
theorem dX5_readsFormula_23 : decode cX5_readsFormula 23 = .ok (.ireturn, 1) := by decide +kernel
theorem dX5_readsClaim_0 : decode cX5_readsClaim 0 = .ok (.aload_n 0, 1) := by decide +kernel
theorem dX5_readsClaim_1 : decode cX5_readsClaim 1 = .ok (.invokevirtual 46, 3) := by decide +kernel
theorem dX5_readsClaim_4 : decode cX5_readsClaim 4 = .ok (.aload_n 0, 1) := by decide +kernel
theorem dX5_readsClaim_5 : decode cX5_readsClaim 5 = .ok (.aload_n 0, 1) := by decide +kernel
theorem dX5_readsClaim_6 : decode cX5_readsClaim 6 = .ok (.getfield 17, 3) := by decide +kernel
theorem dX5_readsClaim_9 : decode cX5_readsClaim 9 = .ok (.iconst 0, 1) := by decide +kernel
theorem dX5_readsClaim_10 : decode cX5_readsClaim 10 = .ok (.aaload, 1) := by decide +kernel
theorem dX5_readsClaim_11 : decode cX5_readsClaim 11 = .ok (.invokevirtual 56, 3) := by decide +kernel
theorem dX5_readsClaim_14 : decode cX5_readsClaim 14 = .ok (.ifCond .eq 23, 3) := by decide +kernel
theorem dX5_readsClaim_17 : decode cX5_readsClaim 17 = .ok (.aload_n 0, 1) := by decide +kernel
theorem dX5_readsClaim_18 : decode cX5_readsClaim 18 = .ok (.invokevirtual 60, 3) := by decide +kernel
theorem dX5_readsClaim_21 : decode cX5_readsClaim 21 = .ok (.iconst (-1), 1) := by decide +kernel
theorem dX5_readsClaim_22 : decode cX5_readsClaim 22 = .ok (.if_icmp .eq 11, 3) := by decide +kernel
theorem dX5_readsClaim_25 : decode cX5_readsClaim 25 = .ok (.aload_n 0, 1) := by decide +kernel
theorem dX5_readsClaim_26 : decode cX5_readsClaim 26 = .ok (.iconst 1, 1) := by decide +kernel
theorem dX5_readsClaim_27 : decode cX5_readsClaim 27 = .ok (.invokevirtual 64, 3) := by decide +kernel
theorem dX5_readsClaim_30 : decode cX5_readsClaim 30 = .ok (.ifCond .eq 7, 3) := by decide +kernel
theorem dX5_readsClaim_33 : decode cX5_readsClaim 33 = .ok (.iconst 1, 1) := by decide +kernel
theorem dX5_readsClaim_34 : decode cX5_readsClaim 34 = .ok (.goto 4, 3) := by decide +kernel
theorem dX5_readsClaim_37 : decode cX5_readsClaim 37 = .ok (.iconst 0, 1) := by decide +kernel
theorem dX5_readsClaim_38 : decode cX5_readsClaim 38 = .ok (.ireturn, 1) := by decide +kernel
theorem dX5_readsClauses_0 : decode cX5_readsClauses 0 = .ok (.iconst 0, 1) := by decide +kernel
theorem dX5_readsClauses_1 : decode cX5_readsClauses 1 = .ok (.istore_n 1, 1) := by decide +kernel
theorem dX5_readsClauses_2 : decode cX5_readsClauses 2 = .ok (.iload_n 1, 1) := by decide +kernel
theorem dX5_readsClauses_3 : decode cX5_readsClauses 3 = .ok (.bipush 8, 2) := by decide +kernel
theorem dX5_readsClauses_5 : decode cX5_readsClauses 5 = .ok (.if_icmp .gt 102, 3) := by decide +kernel
theorem dX5_readsClauses_8 : decode cX5_readsClauses 8 = .ok (.aload_n 0, 1) := by decide +kernel
theorem dX5_readsClauses_9 : decode cX5_readsClauses 9 = .ok (.invokevirtual 60, 3) := by decide +kernel
theorem dX5_readsClauses_12 : decode cX5_readsClauses 12 = .ok (.bipush 112, 2) := by decide +kernel
theorem dX5_readsClauses_14 : decode cX5_readsClauses 14 = .ok (.if_icmp .eq 21, 3) := by decide +kernel
theorem dX5_readsClauses_17 : decode cX5_readsClauses 17 = .ok (.aload_n 0, 1) := by decide +kernel
theorem dX5_readsClauses_18 : decode cX5_readsClauses 18 = .ok (.invokevirtual 60, 3) := by decide +kernel
theorem dX5_readsClauses_21 : decode cX5_readsClauses 21 = .ok (.bipush 110, 2) := by decide +kernel
theorem dX5_readsClauses_23 : decode cX5_readsClauses 23 = .ok (.if_icmp .eq 12, 3) := by decide +kernel
theorem dX5_readsClauses_26 : decode cX5_readsClauses 26 = .ok (.aload_n 0, 1) := by decide +kernel
theorem dX5_readsClauses_27 : decode cX5_readsClauses 27 = .ok (.invokevirtual 60, 3) := by decide +kernel
theorem dX5_readsClauses_30 : decode cX5_readsClauses 30 = .ok (.bipush 103, 2) := by decide +kernel
theorem dX5_readsClauses_32 : decode cX5_readsClauses 32 = .ok (.if_icmp .ne 7, 3) := by decide +kernel
theorem dX5_readsClauses_35 : decode cX5_readsClauses 35 = .ok (.iconst 1, 1) := by decide +kernel
theorem dX5_readsClauses_36 : decode cX5_readsClauses 36 = .ok (.goto 4, 3) := by decide +kernel
theorem dX5_readsClauses_39 : decode cX5_readsClauses 39 = .ok (.iconst 0, 1) := by decide +kernel
theorem dX5_readsClauses_40 : decode cX5_readsClauses 40 = .ok (.istore_n 2, 1) := by decide +kernel
theorem dX5_readsClauses_41 : decode cX5_readsClauses 41 = .ok (.iload_n 2, 1) := by decide +kernel
theorem dX5_readsClauses_42 : decode cX5_readsClauses 42 = .ok (.ifCond .ne 12, 3) := by decide +kernel
theorem dX5_readsClauses_45 : decode cX5_readsClauses 45 = .ok (.aload_n 0, 1) := by decide +kernel
theorem dX5_readsClauses_46 : decode cX5_readsClauses 46 = .ok (.getfield 37, 3) := by decide +kernel
theorem dX5_readsClauses_49 : decode cX5_readsClauses 49 = .ok (.ifCond .le 5, 3) := by decide +kernel
theorem dX5_readsClauses_52 : decode cX5_readsClauses 52 = .ok (.iconst 1, 1) := by decide +kernel
theorem dX5_readsClauses_53 : decode cX5_readsClauses 53 = .ok (.ireturn, 1) := by decide +kernel
theorem dX5_readsClauses_54 : decode cX5_readsClauses 54 = .ok (.iload_n 2, 1) := by decide +kernel
theorem dX5_readsClauses_55 : decode cX5_readsClauses 55 = .ok (.ifCond .eq 18, 3) := by decide +kernel
theorem dX5_readsClauses_58 : decode cX5_readsClauses 58 = .ok (.aload_n 0, 1) := by decide +kernel
theorem dX5_readsClauses_59 : decode cX5_readsClauses 59 = .ok (.getfield 37, 3) := by decide +kernel
theorem dX5_readsClauses_62 : decode cX5_readsClauses 62 = .ok (.bipush 8, 2) := by decide +kernel
theorem dX5_readsClauses_64 : decode cX5_readsClauses 64 = .ok (.if_icmp .ne 9, 3) := by decide +kernel
theorem dX5_readsClauses_67 : decode cX5_readsClauses 67 = .ok (.aload_n 0, 1) := by decide +kernel
theorem dX5_readsClauses_68 : decode cX5_readsClauses 68 = .ok (.iconst 3, 1) := by decide +kernel
theorem dX5_readsClauses_69 : decode cX5_readsClauses 69 = .ok (.invokevirtual 64, 3) := by decide +kernel
theorem dX5_readsClauses_72 : decode cX5_readsClauses 72 = .ok (.ireturn, 1) := by decide +kernel
theorem dX5_readsClauses_73 : decode cX5_readsClauses 73 = .ok (.aload_n 0, 1) := by decide +kernel
theorem dX5_readsClauses_74 : decode cX5_readsClauses 74 = .ok (.aload_n 0, 1) := by decide +kernel
theorem dX5_readsClauses_75 : decode cX5_readsClauses 75 = .ok (.getfield 17, 3) := by decide +kernel
theorem dX5_readsClauses_78 : decode cX5_readsClauses 78 = .ok (.aload_n 0, 1) := by decide +kernel
theorem dX5_readsClauses_79 : decode cX5_readsClauses 79 = .ok (.getfield 37, 3) := by decide +kernel
theorem dX5_readsClauses_82 : decode cX5_readsClauses 82 = .ok (.aaload, 1) := by decide +kernel
theorem dX5_readsClauses_83 : decode cX5_readsClauses 83 = .ok (.invokevirtual 56, 3) := by decide +kernel
theorem dX5_readsClauses_86 : decode cX5_readsClauses 86 = .ok (.ifCond .ne 5, 3) := by decide +kernel
theorem dX5_readsClauses_89 : decode cX5_readsClauses 89 = .ok (.iconst 0, 1) := by decide +kernel
theorem dX5_readsClauses_90 : decode cX5_readsClauses 90 = .ok (.ireturn, 1) := by decide +kernel
theorem dX5_readsClauses_91 : decode cX5_readsClauses 91 = .ok (.aload_n 0, 1) := by decide +kernel
theorem dX5_readsClauses_92 : decode cX5_readsClauses 92 = .ok (.dup, 1) := by decide +kernel
theorem dX5_readsClauses_93 : decode cX5_readsClauses 93 = .ok (.getfield 37, 3) := by decide +kernel
theorem dX5_readsClauses_96 : decode cX5_readsClauses 96 = .ok (.iconst 1, 1) := by decide +kernel
theorem dX5_readsClauses_97 : decode cX5_readsClauses 97 = .ok (.iadd, 1) := by decide +kernel
theorem dX5_readsClauses_98 : decode cX5_readsClauses 98 = .ok (.putfield 37, 3) := by decide +kernel
theorem dX5_readsClauses_101 : decode cX5_readsClauses 101 = .ok (.iinc 1 1, 3) := by decide +kernel
theorem dX5_readsClauses_104 : decode cX5_readsClauses 104 = .ok (.goto (-102), 3) := by decide +kernel
theorem dX5_readsClauses_107 : decode cX5_readsClauses 107 = .ok (.iconst 0, 1) := by decide +kernel
theorem dX5_readsClauses_108 : decode cX5_readsClauses 108 = .ok (.ireturn, 1) := by decide +kernel
theorem dX5_readsClause_0 : decode cX5_readsClause 0 = .ok (.aload_n 1, 1) := by decide +kernel
theorem dX5_readsClause_1 : decode cX5_readsClause 1 = .ok (.invokevirtual 68, 3) := by decide +kernel
theorem dX5_readsClause_4 : decode cX5_readsClause 4 = .ok (.iconst 0, 1) := by decide +kernel
theorem dX5_readsClause_5 : decode cX5_readsClause 5 = .ok (.istore_n 2, 1) := by decide +kernel
theorem dX5_readsClause_6 : decode cX5_readsClause 6 = .ok (.iconst 0, 1) := by decide +kernel
theorem dX5_readsClause_7 : decode cX5_readsClause 7 = .ok (.istore_n 3, 1) := by decide +kernel
theorem dX5_readsClause_8 : decode cX5_readsClause 8 = .ok (.iload_n 3, 1) := by decide +kernel
theorem dX5_readsClause_9 : decode cX5_readsClause 9 = .ok (.bipush 8, 2) := by decide +kernel
theorem dX5_readsClause_11 : decode cX5_readsClause 11 = .ok (.if_icmp .gt 143, 3) := by decide +kernel
theorem dX5_readsClause_14 : decode cX5_readsClause 14 = .ok (.aload_n 0, 1) := by decide +kernel
theorem dX5_readsClause_15 : decode cX5_readsClause 15 = .ok (.invokevirtual 60, 3) := by decide +kernel
theorem dX5_readsClause_18 : decode cX5_readsClause 18 = .ok (.istore 4, 2) := by decide +kernel
theorem dX5_readsClause_20 : decode cX5_readsClause 20 = .ok (.iload 4, 2) := by decide +kernel
theorem dX5_readsClause_22 : decode cX5_readsClause 22 = .ok (.bipush 103, 2) := by decide +kernel
theorem dX5_readsClause_24 : decode cX5_readsClause 24 = .ok (.if_icmp .ne 9, 3) := by decide +kernel
theorem dX5_readsClause_27 : decode cX5_readsClause 27 = .ok (.aload_n 0, 1) := by decide +kernel
theorem dX5_readsClause_28 : decode cX5_readsClause 28 = .ok (.aload_n 1, 1) := by decide +kernel
theorem dX5_readsClause_29 : decode cX5_readsClause 29 = .ok (.invokevirtual 71, 3) := by decide +kernel
theorem dX5_readsClause_32 : decode cX5_readsClause 32 = .ok (.ireturn, 1) := by decide +kernel
theorem dX5_readsClause_33 : decode cX5_readsClause 33 = .ok (.iload 4, 2) := by decide +kernel
theorem dX5_readsClause_35 : decode cX5_readsClause 35 = .ok (.bipush 112, 2) := by decide +kernel
theorem dX5_readsClause_37 : decode cX5_readsClause 37 = .ok (.if_icmp .eq 16, 3) := by decide +kernel
theorem dX5_readsClause_40 : decode cX5_readsClause 40 = .ok (.iload 4, 2) := by decide +kernel
theorem dX5_readsClause_42 : decode cX5_readsClause 42 = .ok (.bipush 110, 2) := by decide +kernel
theorem dX5_readsClause_44 : decode cX5_readsClause 44 = .ok (.if_icmp .eq 9, 3) := by decide +kernel
theorem dX5_readsClause_47 : decode cX5_readsClause 47 = .ok (.aload_n 0, 1) := by decide +kernel
theorem dX5_readsClause_48 : decode cX5_readsClause 48 = .ok (.iconst 1, 1) := by decide +kernel
theorem dX5_readsClause_49 : decode cX5_readsClause 49 = .ok (.invokevirtual 64, 3) := by decide +kernel
theorem dX5_readsClause_52 : decode cX5_readsClause 52 = .ok (.ireturn, 1) := by decide +kernel
theorem dX5_readsClause_53 : decode cX5_readsClause 53 = .ok (.aload_n 0, 1) := by decide +kernel
theorem dX5_readsClause_54 : decode cX5_readsClause 54 = .ok (.dup, 1) := by decide +kernel
theorem dX5_readsClause_55 : decode cX5_readsClause 55 = .ok (.getfield 34, 3) := by decide +kernel
theorem dX5_readsClause_58 : decode cX5_readsClause 58 = .ok (.iconst 1, 1) := by decide +kernel
theorem dX5_readsClause_59 : decode cX5_readsClause 59 = .ok (.iadd, 1) := by decide +kernel
theorem dX5_readsClause_60 : decode cX5_readsClause 60 = .ok (.putfield 34, 3) := by decide +kernel
theorem dX5_readsClause_63 : decode cX5_readsClause 63 = .ok (.aload_n 0, 1) := by decide +kernel
theorem dX5_readsClause_64 : decode cX5_readsClause 64 = .ok (.iconst 0, 1) := by decide +kernel
theorem dX5_readsClause_65 : decode cX5_readsClause 65 = .ok (.bipush 7, 2) := by decide +kernel
theorem dX5_readsClause_67 : decode cX5_readsClause 67 = .ok (.iload_n 2, 1) := by decide +kernel
theorem dX5_readsClause_68 : decode cX5_readsClause 68 = .ok (.invokevirtual 74, 3) := by decide +kernel
theorem dX5_readsClause_71 : decode cX5_readsClause 71 = .ok (.ifCond .ne 5, 3) := by decide +kernel
theorem dX5_readsClause_74 : decode cX5_readsClause 74 = .ok (.iconst 0, 1) := by decide +kernel
theorem dX5_readsClause_75 : decode cX5_readsClause 75 = .ok (.ireturn, 1) := by decide +kernel
theorem dX5_readsClause_76 : decode cX5_readsClause 76 = .ok (.aload_n 0, 1) := by decide +kernel
theorem dX5_readsClause_77 : decode cX5_readsClause 77 = .ok (.getfield 78, 3) := by decide +kernel
theorem dX5_readsClause_80 : decode cX5_readsClause 80 = .ok (.istore 5, 2) := by decide +kernel
theorem dX5_readsClause_82 : decode cX5_readsClause 82 = .ok (.iload_n 2, 1) := by decide +kernel
theorem dX5_readsClause_83 : decode cX5_readsClause 83 = .ok (.iconst 1, 1) := by decide +kernel
theorem dX5_readsClause_84 : decode cX5_readsClause 84 = .ok (.iload 5, 2) := by decide +kernel
theorem dX5_readsClause_86 : decode cX5_readsClause 86 = .ok (.ishl, 1) := by decide +kernel
theorem dX5_readsClause_87 : decode cX5_readsClause 87 = .ok (.ior, 1) := by decide +kernel
theorem dX5_readsClause_88 : decode cX5_readsClause 88 = .ok (.istore_n 2, 1) := by decide +kernel
theorem dX5_readsClause_89 : decode cX5_readsClause 89 = .ok (.aload_n 0, 1) := by decide +kernel
theorem dX5_readsClause_90 : decode cX5_readsClause 90 = .ok (.bipush 44, 2) := by decide +kernel
theorem dX5_readsClause_92 : decode cX5_readsClause 92 = .ok (.invokevirtual 81, 3) := by decide +kernel
theorem dX5_readsClause_95 : decode cX5_readsClause 95 = .ok (.ifCond .eq 23, 3) := by decide +kernel
theorem dX5_readsClause_98 : decode cX5_readsClause 98 = .ok (.aload_n 0, 1) := by decide +kernel
theorem dX5_readsClause_99 : decode cX5_readsClause 99 = .ok (.iconst 1, 1) := by decide +kernel
theorem dX5_readsClause_100 : decode cX5_readsClause 100 = .ok (.bipush 99, 2) := by decide +kernel
theorem dX5_readsClause_102 : decode cX5_readsClause 102 = .ok (.iconst 0, 1) := by decide +kernel
theorem dX5_readsClause_103 : decode cX5_readsClause 103 = .ok (.invokevirtual 74, 3) := by decide +kernel
theorem dX5_readsClause_106 : decode cX5_readsClause 106 = .ok (.ifCond .eq 12, 3) := by decide +kernel
theorem dX5_readsClause_109 : decode cX5_readsClause 109 = .ok (.aload_n 0, 1) := by decide +kernel
theorem dX5_readsClause_110 : decode cX5_readsClause 110 = .ok (.bipush 59, 2) := by decide +kernel
theorem dX5_readsClause_112 : decode cX5_readsClause 112 = .ok (.invokevirtual 81, 3) := by decide +kernel
theorem dX5_readsClause_115 : decode cX5_readsClause 115 = .ok (.ifCond .ne 5, 3) := by decide +kernel
theorem dX5_readsClause_118 : decode cX5_readsClause 118 = .ok (.iconst 0, 1) := by decide +kernel
theorem dX5_readsClause_119 : decode cX5_readsClause 119 = .ok (.ireturn, 1) := by decide +kernel
theorem dX5_readsClause_120 : decode cX5_readsClause 120 = .ok (.aload_n 1, 1) := by decide +kernel
theorem dX5_readsClause_121 : decode cX5_readsClause 121 = .ok (.getfield 84, 3) := by decide +kernel
theorem dX5_readsClause_124 : decode cX5_readsClause 124 = .ok (.iload 5, 2) := by decide +kernel
theorem dX5_readsClause_126 : decode cX5_readsClause 126 = .ok (.iload 4, 2) := by decide +kernel
theorem dX5_readsClause_128 : decode cX5_readsClause 128 = .ok (.bipush 112, 2) := by decide +kernel
theorem dX5_readsClause_130 : decode cX5_readsClause 130 = .ok (.if_icmp .ne 11, 3) := by decide +kernel
theorem dX5_readsClause_133 : decode cX5_readsClause 133 = .ok (.aload_n 0, 1) := by decide +kernel
theorem dX5_readsClause_134 : decode cX5_readsClause 134 = .ok (.getfield 78, 3) := by decide +kernel
theorem dX5_readsClause_137 : decode cX5_readsClause 137 = .ok (.i2l, 1) := by decide +kernel
theorem dX5_readsClause_138 : decode cX5_readsClause 138 = .ok (.goto 9, 3) := by decide +kernel
theorem dX5_readsClause_141 : decode cX5_readsClause 141 = .ok (.aload_n 0, 1) := by decide +kernel
theorem dX5_readsClause_142 : decode cX5_readsClause 142 = .ok (.getfield 78, 3) := by decide +kernel
theorem dX5_readsClause_145 : decode cX5_readsClause 145 = .ok (.ineg, 1) := by decide +kernel
theorem dX5_readsClause_146 : decode cX5_readsClause 146 = .ok (.i2l, 1) := by decide +kernel
theorem dX5_readsClause_147 : decode cX5_readsClause 147 = .ok (.lastore, 1) := by decide +kernel
theorem dX5_readsClause_148 : decode cX5_readsClause 148 = .ok (.iinc 3 1, 3) := by decide +kernel
theorem dX5_readsClause_151 : decode cX5_readsClause 151 = .ok (.goto (-143), 3) := by decide +kernel
theorem dX5_readsClause_154 : decode cX5_readsClause 154 = .ok (.iconst 0, 1) := by decide +kernel
theorem dX5_readsClause_155 : decode cX5_readsClause 155 = .ok (.ireturn, 1) := by decide +kernel
theorem dX5_readsDegree_0 : decode cX5_readsDegree 0 = .ok (.aload_n 0, 1) := by decide +kernel
theorem dX5_readsDegree_1 : decode cX5_readsDegree 1 = .ok (.dup, 1) := by decide +kernel
theorem dX5_readsDegree_2 : decode cX5_readsDegree 2 = .ok (.getfield 34, 3) := by decide +kernel
theorem dX5_readsDegree_5 : decode cX5_readsDegree 5 = .ok (.iconst 1, 1) := by decide +kernel
theorem dX5_readsDegree_6 : decode cX5_readsDegree 6 = .ok (.iadd, 1) := by decide +kernel
theorem dX5_readsDegree_7 : decode cX5_readsDegree 7 = .ok (.putfield 34, 3) := by decide +kernel
theorem dX5_readsDegree_10 : decode cX5_readsDegree 10 = .ok (.aload_n 0, 1) := by decide +kernel
theorem dX5_readsDegree_11 : decode cX5_readsDegree 11 = .ok (.iconst 0, 1) := by decide +kernel
theorem dX5_readsDegree_12 : decode cX5_readsDegree 12 = .ok (.bipush 99, 2) := by decide +kernel
theorem dX5_readsDegree_14 : decode cX5_readsDegree 14 = .ok (.iconst 0, 1) := by decide +kernel
theorem dX5_readsDegree_15 : decode cX5_readsDegree 15 = .ok (.invokevirtual 74, 3) := by decide +kernel
theorem dX5_readsDegree_18 : decode cX5_readsDegree 18 = .ok (.ifCond .ne 5, 3) := by decide +kernel
theorem dX5_readsDegree_21 : decode cX5_readsDegree 21 = .ok (.iconst 0, 1) := by decide +kernel
theorem dX5_readsDegree_22 : decode cX5_readsDegree 22 = .ok (.ireturn, 1) := by decide +kernel
theorem dX5_readsDegree_23 : decode cX5_readsDegree 23 = .ok (.aload_n 1, 1) := by decide +kernel
theorem dX5_readsDegree_24 : decode cX5_readsDegree 24 = .ok (.aload_n 0, 1) := by decide +kernel
theorem dX5_readsDegree_25 : decode cX5_readsDegree 25 = .ok (.getfield 78, 3) := by decide +kernel
theorem dX5_readsDegree_28 : decode cX5_readsDegree 28 = .ok (.i2l, 1) := by decide +kernel
theorem dX5_readsDegree_29 : decode cX5_readsDegree 29 = .ok (.putfield 88, 3) := by decide +kernel
theorem dX5_readsDegree_32 : decode cX5_readsDegree 32 = .ok (.aload_n 0, 1) := by decide +kernel
theorem dX5_readsDegree_33 : decode cX5_readsDegree 33 = .ok (.bipush 59, 2) := by decide +kernel
theorem dX5_readsDegree_35 : decode cX5_readsDegree 35 = .ok (.invokevirtual 81, 3) := by decide +kernel
theorem dX5_readsDegree_38 : decode cX5_readsDegree 38 = .ok (.ireturn, 1) := by decide +kernel
theorem dX5_readsPrices_0 : decode cX5_readsPrices 0 = .ok (.iconst 0, 1) := by decide +kernel
theorem dX5_readsPrices_1 : decode cX5_readsPrices 1 = .ok (.istore_n 1, 1) := by decide +kernel
theorem dX5_readsPrices_2 : decode cX5_readsPrices 2 = .ok (.iconst 0, 1) := by decide +kernel
theorem dX5_readsPrices_3 : decode cX5_readsPrices 3 = .ok (.istore_n 2, 1) := by decide +kernel
theorem dX5_readsPrices_4 : decode cX5_readsPrices 4 = .ok (.iload_n 2, 1) := by decide +kernel
theorem dX5_readsPrices_5 : decode cX5_readsPrices 5 = .ok (.bipush 8, 2) := by decide +kernel
theorem dX5_readsPrices_7 : decode cX5_readsPrices 7 = .ok (.if_icmp .gt 93, 3) := by decide +kernel
theorem dX5_readsPrices_10 : decode cX5_readsPrices 10 = .ok (.aload_n 0, 1) := by decide +kernel
theorem dX5_readsPrices_11 : decode cX5_readsPrices 11 = .ok (.invokevirtual 60, 3) := by decide +kernel
theorem dX5_readsPrices_14 : decode cX5_readsPrices 14 = .ok (.iconst (-1), 1) := by decide +kernel
theorem dX5_readsPrices_15 : decode cX5_readsPrices 15 = .ok (.if_icmp .ne 5, 3) := by decide +kernel
theorem dX5_readsPrices_18 : decode cX5_readsPrices 18 = .ok (.iconst 1, 1) := by decide +kernel
theorem dX5_readsPrices_19 : decode cX5_readsPrices 19 = .ok (.ireturn, 1) := by decide +kernel
theorem dX5_readsPrices_20 : decode cX5_readsPrices 20 = .ok (.aload_n 0, 1) := by decide +kernel
theorem dX5_readsPrices_21 : decode cX5_readsPrices 21 = .ok (.bipush 109, 2) := by decide +kernel
theorem dX5_readsPrices_23 : decode cX5_readsPrices 23 = .ok (.invokevirtual 81, 3) := by decide +kernel
theorem dX5_readsPrices_26 : decode cX5_readsPrices 26 = .ok (.ifCond .eq 14, 3) := by decide +kernel
theorem dX5_readsPrices_29 : decode cX5_readsPrices 29 = .ok (.aload_n 0, 1) := by decide +kernel
theorem dX5_readsPrices_30 : decode cX5_readsPrices 30 = .ok (.iconst 0, 1) := by decide +kernel
theorem dX5_readsPrices_31 : decode cX5_readsPrices 31 = .ok (.bipush 7, 2) := by decide +kernel
theorem dX5_readsPrices_33 : decode cX5_readsPrices 33 = .ok (.iload_n 1, 1) := by decide +kernel
theorem dX5_readsPrices_34 : decode cX5_readsPrices 34 = .ok (.invokevirtual 74, 3) := by decide +kernel
theorem dX5_readsPrices_37 : decode cX5_readsPrices 37 = .ok (.ifCond .ne 5, 3) := by decide +kernel
theorem dX5_readsPrices_40 : decode cX5_readsPrices 40 = .ok (.iconst 0, 1) := by decide +kernel
theorem dX5_readsPrices_41 : decode cX5_readsPrices 41 = .ok (.ireturn, 1) := by decide +kernel
theorem dX5_readsPrices_42 : decode cX5_readsPrices 42 = .ok (.aload_n 0, 1) := by decide +kernel
theorem dX5_readsPrices_43 : decode cX5_readsPrices 43 = .ok (.getfield 78, 3) := by decide +kernel
theorem dX5_readsPrices_46 : decode cX5_readsPrices 46 = .ok (.istore_n 3, 1) := by decide +kernel
theorem dX5_readsPrices_47 : decode cX5_readsPrices 47 = .ok (.iload_n 1, 1) := by decide +kernel
theorem dX5_readsPrices_48 : decode cX5_readsPrices 48 = .ok (.iconst 1, 1) := by decide +kernel
theorem dX5_readsPrices_49 : decode cX5_readsPrices 49 = .ok (.iload_n 3, 1) := by decide +kernel
theorem dX5_readsPrices_50 : decode cX5_readsPrices 50 = .ok (.ishl, 1) := by decide +kernel
theorem dX5_readsPrices_51 : decode cX5_readsPrices 51 = .ok (.ior, 1) := by decide +kernel
theorem dX5_readsPrices_52 : decode cX5_readsPrices 52 = .ok (.istore_n 1, 1) := by decide +kernel
theorem dX5_readsPrices_53 : decode cX5_readsPrices 53 = .ok (.aload_n 0, 1) := by decide +kernel
theorem dX5_readsPrices_54 : decode cX5_readsPrices 54 = .ok (.bipush 44, 2) := by decide +kernel
theorem dX5_readsPrices_56 : decode cX5_readsPrices 56 = .ok (.invokevirtual 81, 3) := by decide +kernel
theorem dX5_readsPrices_59 : decode cX5_readsPrices 59 = .ok (.ifCond .eq 23, 3) := by decide +kernel
theorem dX5_readsPrices_62 : decode cX5_readsPrices 62 = .ok (.aload_n 0, 1) := by decide +kernel
theorem dX5_readsPrices_63 : decode cX5_readsPrices 63 = .ok (.iconst 1, 1) := by decide +kernel
theorem dX5_readsPrices_64 : decode cX5_readsPrices 64 = .ok (.bipush 9, 2) := by decide +kernel
theorem dX5_readsPrices_66 : decode cX5_readsPrices 66 = .ok (.iconst 0, 1) := by decide +kernel
theorem dX5_readsPrices_67 : decode cX5_readsPrices 67 = .ok (.invokevirtual 74, 3) := by decide +kernel
theorem dX5_readsPrices_70 : decode cX5_readsPrices 70 = .ok (.ifCond .eq 12, 3) := by decide +kernel
theorem dX5_readsPrices_73 : decode cX5_readsPrices 73 = .ok (.aload_n 0, 1) := by decide +kernel
theorem dX5_readsPrices_74 : decode cX5_readsPrices 74 = .ok (.bipush 59, 2) := by decide +kernel
theorem dX5_readsPrices_76 : decode cX5_readsPrices 76 = .ok (.invokevirtual 81, 3) := by decide +kernel
theorem dX5_readsPrices_79 : decode cX5_readsPrices 79 = .ok (.ifCond .ne 5, 3) := by decide +kernel
theorem dX5_readsPrices_82 : decode cX5_readsPrices 82 = .ok (.iconst 0, 1) := by decide +kernel
theorem dX5_readsPrices_83 : decode cX5_readsPrices 83 = .ok (.ireturn, 1) := by decide +kernel
theorem dX5_readsPrices_84 : decode cX5_readsPrices 84 = .ok (.aload_n 0, 1) := by decide +kernel
theorem dX5_readsPrices_85 : decode cX5_readsPrices 85 = .ok (.getfield 21, 3) := by decide +kernel
theorem dX5_readsPrices_88 : decode cX5_readsPrices 88 = .ok (.iload_n 3, 1) := by decide +kernel
theorem dX5_readsPrices_89 : decode cX5_readsPrices 89 = .ok (.aload_n 0, 1) := by decide +kernel
theorem dX5_readsPrices_90 : decode cX5_readsPrices 90 = .ok (.getfield 78, 3) := by decide +kernel
theorem dX5_readsPrices_93 : decode cX5_readsPrices 93 = .ok (.iastore, 1) := by decide +kernel
theorem dX5_readsPrices_94 : decode cX5_readsPrices 94 = .ok (.iinc 2 1, 3) := by decide +kernel
theorem dX5_readsPrices_97 : decode cX5_readsPrices 97 = .ok (.goto (-93), 3) := by decide +kernel
theorem dX5_readsPrices_100 : decode cX5_readsPrices 100 = .ok (.iconst 0, 1) := by decide +kernel
theorem dX5_readsPrices_101 : decode cX5_readsPrices 101 = .ok (.ireturn, 1) := by decide +kernel
theorem dX5_letter_0 : decode cX5_letter 0 = .ok (.aload_n 0, 1) := by decide +kernel
theorem dX5_letter_1 : decode cX5_letter 1 = .ok (.getfield 34, 3) := by decide +kernel
theorem dX5_letter_4 : decode cX5_letter 4 = .ok (.aload_n 0, 1) := by decide +kernel
theorem dX5_letter_5 : decode cX5_letter 5 = .ok (.getfield 31, 3) := by decide +kernel
theorem dX5_letter_8 : decode cX5_letter 8 = .ok (.if_icmp .ge 15, 3) := by decide +kernel
theorem dX5_letter_11 : decode cX5_letter 11 = .ok (.aload_n 0, 1) := by decide +kernel
theorem dX5_letter_12 : decode cX5_letter 12 = .ok (.getfield 9, 3) := by decide +kernel
theorem dX5_letter_15 : decode cX5_letter 15 = .ok (.aload_n 0, 1) := by decide +kernel
theorem dX5_letter_16 : decode cX5_letter 16 = .ok (.getfield 34, 3) := by decide +kernel
theorem dX5_letter_19 : decode cX5_letter 19 = .ok (.iaload, 1) := by decide +kernel
theorem dX5_letter_20 : decode cX5_letter 20 = .ok (.goto 4, 3) := by decide +kernel
theorem dX5_letter_23 : decode cX5_letter 23 = .ok (.iconst (-1), 1) := by decide +kernel
theorem dX5_letter_24 : decode cX5_letter 24 = .ok (.ireturn, 1) := by decide +kernel
theorem dX5_takes_0 : decode cX5_takes 0 = .ok (.aload_n 0, 1) := by decide +kernel
theorem dX5_takes_1 : decode cX5_takes 1 = .ok (.invokevirtual 60, 3) := by decide +kernel
theorem dX5_takes_4 : decode cX5_takes 4 = .ok (.iload_n 1, 1) := by decide +kernel
theorem dX5_takes_5 : decode cX5_takes 5 = .ok (.if_icmp .eq 9, 3) := by decide +kernel
theorem dX5_takes_8 : decode cX5_takes 8 = .ok (.aload_n 0, 1) := by decide +kernel
theorem dX5_takes_9 : decode cX5_takes 9 = .ok (.iconst 1, 1) := by decide +kernel
theorem dX5_takes_10 : decode cX5_takes 10 = .ok (.invokevirtual 64, 3) := by decide +kernel
theorem dX5_takes_13 : decode cX5_takes 13 = .ok (.ireturn, 1) := by decide +kernel
theorem dX5_takes_14 : decode cX5_takes 14 = .ok (.aload_n 0, 1) := by decide +kernel
theorem dX5_takes_15 : decode cX5_takes 15 = .ok (.dup, 1) := by decide +kernel
theorem dX5_takes_16 : decode cX5_takes 16 = .ok (.getfield 34, 3) := by decide +kernel
theorem dX5_takes_19 : decode cX5_takes 19 = .ok (.iconst 1, 1) := by decide +kernel
theorem dX5_takes_20 : decode cX5_takes 20 = .ok (.iadd, 1) := by decide +kernel
theorem dX5_takes_21 : decode cX5_takes 21 = .ok (.putfield 34, 3) := by decide +kernel
theorem dX5_takes_24 : decode cX5_takes 24 = .ok (.iconst 1, 1) := by decide +kernel
theorem dX5_takes_25 : decode cX5_takes 25 = .ok (.ireturn, 1) := by decide +kernel
theorem dX5_takesNumber_0 : decode cX5_takesNumber 0 = .ok (.iconst 0, 1) := by decide +kernel
theorem dX5_takesNumber_1 : decode cX5_takesNumber 1 = .ok (.istore 4, 2) := by decide +kernel
theorem dX5_takesNumber_3 : decode cX5_takesNumber 3 = .ok (.aload_n 0, 1) := by decide +kernel
theorem dX5_takesNumber_4 : decode cX5_takesNumber 4 = .ok (.iconst 0, 1) := by decide +kernel
theorem dX5_takesNumber_5 : decode cX5_takesNumber 5 = .ok (.putfield 78, 3) := by decide +kernel
theorem dX5_takesNumber_8 : decode cX5_takesNumber 8 = .ok (.aload_n 0, 1) := by decide +kernel
theorem dX5_takesNumber_9 : decode cX5_takesNumber 9 = .ok (.getfield 34, 3) := by decide +kernel
theorem dX5_takesNumber_12 : decode cX5_takesNumber 12 = .ok (.istore 5, 2) := by decide +kernel
theorem dX5_takesNumber_14 : decode cX5_takesNumber 14 = .ok (.iload 5, 2) := by decide +kernel
theorem dX5_takesNumber_16 : decode cX5_takesNumber 16 = .ok (.aload_n 0, 1) := by decide +kernel
theorem dX5_takesNumber_17 : decode cX5_takesNumber 17 = .ok (.getfield 31, 3) := by decide +kernel
theorem dX5_takesNumber_20 : decode cX5_takesNumber 20 = .ok (.if_icmp .ge 53, 3) := by decide +kernel
theorem dX5_takesNumber_23 : decode cX5_takesNumber 23 = .ok (.iload 4, 2) := by decide +kernel
theorem dX5_takesNumber_25 : decode cX5_takesNumber 25 = .ok (.iconst 3, 1) := by decide +kernel
theorem dX5_takesNumber_26 : decode cX5_takesNumber 26 = .ok (.if_icmp .ge 47, 3) := by decide +kernel
theorem dX5_takesNumber_29 : decode cX5_takesNumber 29 = .ok (.aload_n 0, 1) := by decide +kernel
theorem dX5_takesNumber_30 : decode cX5_takesNumber 30 = .ok (.getfield 9, 3) := by decide +kernel
theorem dX5_takesNumber_33 : decode cX5_takesNumber 33 = .ok (.iload 5, 2) := by decide +kernel
theorem dX5_takesNumber_35 : decode cX5_takesNumber 35 = .ok (.iaload, 1) := by decide +kernel
theorem dX5_takesNumber_36 : decode cX5_takesNumber 36 = .ok (.invokestatic 92, 3) := by decide +kernel
theorem dX5_takesNumber_39 : decode cX5_takesNumber 39 = .ok (.ifCond .eq 34, 3) := by decide +kernel
theorem dX5_takesNumber_42 : decode cX5_takesNumber 42 = .ok (.aload_n 0, 1) := by decide +kernel
theorem dX5_takesNumber_43 : decode cX5_takesNumber 43 = .ok (.aload_n 0, 1) := by decide +kernel
theorem dX5_takesNumber_44 : decode cX5_takesNumber 44 = .ok (.getfield 78, 3) := by decide +kernel
theorem dX5_takesNumber_47 : decode cX5_takesNumber 47 = .ok (.bipush 10, 2) := by decide +kernel
theorem dX5_takesNumber_49 : decode cX5_takesNumber 49 = .ok (.imul, 1) := by decide +kernel
theorem dX5_takesNumber_50 : decode cX5_takesNumber 50 = .ok (.aload_n 0, 1) := by decide +kernel
theorem dX5_takesNumber_51 : decode cX5_takesNumber 51 = .ok (.getfield 9, 3) := by decide +kernel
theorem dX5_takesNumber_54 : decode cX5_takesNumber 54 = .ok (.iload 5, 2) := by decide +kernel
theorem dX5_takesNumber_56 : decode cX5_takesNumber 56 = .ok (.iaload, 1) := by decide +kernel
theorem dX5_takesNumber_57 : decode cX5_takesNumber 57 = .ok (.iadd, 1) := by decide +kernel
theorem dX5_takesNumber_58 : decode cX5_takesNumber 58 = .ok (.bipush 48, 2) := by decide +kernel
theorem dX5_takesNumber_60 : decode cX5_takesNumber 60 = .ok (.isub, 1) := by decide +kernel
theorem dX5_takesNumber_61 : decode cX5_takesNumber 61 = .ok (.putfield 78, 3) := by decide +kernel
theorem dX5_takesNumber_64 : decode cX5_takesNumber 64 = .ok (.iinc 4 1, 3) := by decide +kernel
theorem dX5_takesNumber_67 : decode cX5_takesNumber 67 = .ok (.iinc 5 1, 3) := by decide +kernel
theorem dX5_takesNumber_70 : decode cX5_takesNumber 70 = .ok (.goto (-56), 3) := by decide +kernel
theorem dX5_takesNumber_73 : decode cX5_takesNumber 73 = .ok (.iload 4, 2) := by decide +kernel
theorem dX5_takesNumber_75 : decode cX5_takesNumber 75 = .ok (.iconst 1, 1) := by decide +kernel
theorem dX5_takesNumber_76 : decode cX5_takesNumber 76 = .ok (.if_icmp .lt 9, 3) := by decide +kernel
theorem dX5_takesNumber_79 : decode cX5_takesNumber 79 = .ok (.iload 4, 2) := by decide +kernel
theorem dX5_takesNumber_81 : decode cX5_takesNumber 81 = .ok (.iconst 2, 1) := by decide +kernel
theorem dX5_takesNumber_82 : decode cX5_takesNumber 82 = .ok (.if_icmp .le 9, 3) := by decide +kernel
theorem dX5_takesNumber_85 : decode cX5_takesNumber 85 = .ok (.aload_n 0, 1) := by decide +kernel
theorem dX5_takesNumber_86 : decode cX5_takesNumber 86 = .ok (.iconst 1, 1) := by decide +kernel
theorem dX5_takesNumber_87 : decode cX5_takesNumber 87 = .ok (.invokevirtual 64, 3) := by decide +kernel
theorem dX5_takesNumber_90 : decode cX5_takesNumber 90 = .ok (.ireturn, 1) := by decide +kernel
theorem dX5_takesNumber_91 : decode cX5_takesNumber 91 = .ok (.aload_n 0, 1) := by decide +kernel
theorem dX5_takesNumber_92 : decode cX5_takesNumber 92 = .ok (.getfield 78, 3) := by decide +kernel
theorem dX5_takesNumber_95 : decode cX5_takesNumber 95 = .ok (.iload_n 1, 1) := by decide +kernel
theorem dX5_takesNumber_96 : decode cX5_takesNumber 96 = .ok (.if_icmp .lt 27, 3) := by decide +kernel
theorem dX5_takesNumber_99 : decode cX5_takesNumber 99 = .ok (.aload_n 0, 1) := by decide +kernel
theorem dX5_takesNumber_100 : decode cX5_takesNumber 100 = .ok (.getfield 78, 3) := by decide +kernel
theorem dX5_takesNumber_103 : decode cX5_takesNumber 103 = .ok (.iload_n 2, 1) := by decide +kernel
theorem dX5_takesNumber_104 : decode cX5_takesNumber 104 = .ok (.if_icmp .gt 19, 3) := by decide +kernel
theorem dX5_takesNumber_107 : decode cX5_takesNumber 107 = .ok (.iload_n 3, 1) := by decide +kernel
theorem dX5_takesNumber_108 : decode cX5_takesNumber 108 = .ok (.ifCond .eq 21, 3) := by decide +kernel
theorem dX5_takesNumber_111 : decode cX5_takesNumber 111 = .ok (.iload_n 3, 1) := by decide +kernel
theorem dX5_takesNumber_112 : decode cX5_takesNumber 112 = .ok (.aload_n 0, 1) := by decide +kernel
theorem dX5_takesNumber_113 : decode cX5_takesNumber 113 = .ok (.getfield 78, 3) := by decide +kernel
theorem dX5_takesNumber_116 : decode cX5_takesNumber 116 = .ok (.iushr, 1) := by decide +kernel
theorem dX5_takesNumber_117 : decode cX5_takesNumber 117 = .ok (.iconst 1, 1) := by decide +kernel
theorem dX5_takesNumber_118 : decode cX5_takesNumber 118 = .ok (.iand, 1) := by decide +kernel
theorem dX5_takesNumber_119 : decode cX5_takesNumber 119 = .ok (.iconst 1, 1) := by decide +kernel
theorem dX5_takesNumber_120 : decode cX5_takesNumber 120 = .ok (.if_icmp .ne 9, 3) := by decide +kernel
theorem dX5_takesNumber_123 : decode cX5_takesNumber 123 = .ok (.aload_n 0, 1) := by decide +kernel
theorem dX5_takesNumber_124 : decode cX5_takesNumber 124 = .ok (.iconst 2, 1) := by decide +kernel
theorem dX5_takesNumber_125 : decode cX5_takesNumber 125 = .ok (.invokevirtual 64, 3) := by decide +kernel
theorem dX5_takesNumber_128 : decode cX5_takesNumber 128 = .ok (.ireturn, 1) := by decide +kernel
theorem dX5_takesNumber_129 : decode cX5_takesNumber 129 = .ok (.aload_n 0, 1) := by decide +kernel
theorem dX5_takesNumber_130 : decode cX5_takesNumber 130 = .ok (.dup, 1) := by decide +kernel
theorem dX5_takesNumber_131 : decode cX5_takesNumber 131 = .ok (.getfield 34, 3) := by decide +kernel
theorem dX5_takesNumber_134 : decode cX5_takesNumber 134 = .ok (.iload 4, 2) := by decide +kernel
theorem dX5_takesNumber_136 : decode cX5_takesNumber 136 = .ok (.iadd, 1) := by decide +kernel
theorem dX5_takesNumber_137 : decode cX5_takesNumber 137 = .ok (.putfield 34, 3) := by decide +kernel
theorem dX5_takesNumber_140 : decode cX5_takesNumber 140 = .ok (.iconst 1, 1) := by decide +kernel
theorem dX5_takesNumber_141 : decode cX5_takesNumber 141 = .ok (.ireturn, 1) := by decide +kernel
theorem dX5_isFigure_0 : decode cX5_isFigure 0 = .ok (.iload_n 0, 1) := by decide +kernel
theorem dX5_isFigure_1 : decode cX5_isFigure 1 = .ok (.bipush 48, 2) := by decide +kernel
theorem dX5_isFigure_3 : decode cX5_isFigure 3 = .ok (.if_icmp .lt 13, 3) := by decide +kernel
theorem dX5_isFigure_6 : decode cX5_isFigure 6 = .ok (.iload_n 0, 1) := by decide +kernel
theorem dX5_isFigure_7 : decode cX5_isFigure 7 = .ok (.bipush 57, 2) := by decide +kernel
theorem dX5_isFigure_9 : decode cX5_isFigure 9 = .ok (.if_icmp .gt 7, 3) := by decide +kernel
theorem dX5_isFigure_12 : decode cX5_isFigure 12 = .ok (.iconst 1, 1) := by decide +kernel
theorem dX5_isFigure_13 : decode cX5_isFigure 13 = .ok (.goto 4, 3) := by decide +kernel
theorem dX5_isFigure_16 : decode cX5_isFigure 16 = .ok (.iconst 0, 1) := by decide +kernel
theorem dX5_isFigure_17 : decode cX5_isFigure 17 = .ok (.ireturn, 1) := by decide +kernel
theorem dX5_faulty_0 : decode cX5_faulty 0 = .ok (.aload_n 0, 1) := by decide +kernel
theorem dX5_faulty_1 : decode cX5_faulty 1 = .ok (.iload_n 1, 1) := by decide +kernel
theorem dX5_faulty_2 : decode cX5_faulty 2 = .ok (.putfield 95, 3) := by decide +kernel
theorem dX5_faulty_5 : decode cX5_faulty 5 = .ok (.iconst 0, 1) := by decide +kernel
theorem dX5_faulty_6 : decode cX5_faulty 6 = .ok (.ireturn, 1) := by decide +kernel
theorem dX6_init_0 : decode cX6_init 0 = .ok (.aload_n 0, 1) := by decide +kernel
theorem dX6_init_1 : decode cX6_init 1 = .ok (.invokespecial 3, 3) := by decide +kernel
theorem dX6_init_4 : decode cX6_init 4 = .ok (.aload_n 0, 1) := by decide +kernel
theorem dX6_init_5 : decode cX6_init 5 = .ok (.bipush 8, 2) := by decide +kernel
theorem dX6_init_7 : decode cX6_init 7 = .ok (.bipush 40, 2) := by decide +kernel
theorem dX6_init_9 : decode cX6_init 9 = .ok (.multianewarray 9 2, 4) := by decide +kernel
theorem dX6_init_13 : decode cX6_init 13 = .ok (.putfield 11, 3) := by decide +kernel
theorem dX6_init_16 : decode cX6_init 16 = .ok (.aload_n 0, 1) := by decide +kernel
theorem dX6_init_17 : decode cX6_init 17 = .ok (.bipush 8, 2) := by decide +kernel
theorem dX6_init_19 : decode cX6_init 19 = .ok (.newarray .int, 2) := by decide +kernel
theorem dX6_init_21 : decode cX6_init 21 = .ok (.putfield 16, 3) := by decide +kernel
theorem dX6_init_24 : decode cX6_init 24 = .ok (.aload_n 0, 1) := by decide +kernel
theorem dX6_init_25 : decode cX6_init 25 = .ok (.bipush 8, 2) := by decide +kernel
theorem dX6_init_27 : decode cX6_init 27 = .ok (.newarray .int, 2) := by decide +kernel
theorem dX6_init_29 : decode cX6_init 29 = .ok (.putfield 20, 3) := by decide +kernel
theorem dX6_init_32 : decode cX6_init 32 = .ok (.aload_n 0, 1) := by decide +kernel
theorem dX6_init_33 : decode cX6_init 33 = .ok (.getfield 20, 3) := by decide +kernel
theorem dX6_init_36 : decode cX6_init 36 = .ok (.iconst (-1), 1) := by decide +kernel
theorem dX6_init_37 : decode cX6_init 37 = .ok (.invokestatic 23, 3) := by decide +kernel
theorem dX6_init_40 : decode cX6_init 40 = .ok (.return_, 1) := by decide +kernel
theorem dX6_isMissing_0 : decode cX6_isMissing 0 = .ok (.aload_n 0, 1) := by decide +kernel
theorem dX6_isMissing_1 : decode cX6_isMissing 1 = .ok (.getfield 20, 3) := by decide +kernel
theorem dX6_isMissing_4 : decode cX6_isMissing 4 = .ok (.iload_n 1, 1) := by decide +kernel
theorem dX6_isMissing_5 : decode cX6_isMissing 5 = .ok (.iaload, 1) := by decide +kernel
theorem dX6_isMissing_6 : decode cX6_isMissing 6 = .ok (.ifCond .ge 7, 3) := by decide +kernel
theorem dX6_isMissing_9 : decode cX6_isMissing 9 = .ok (.iconst 1, 1) := by decide +kernel
theorem dX6_isMissing_10 : decode cX6_isMissing 10 = .ok (.goto 4, 3) := by decide +kernel
theorem dX6_isMissing_13 : decode cX6_isMissing 13 = .ok (.iconst 0, 1) := by decide +kernel
theorem dX6_isMissing_14 : decode cX6_isMissing 14 = .ok (.ireturn, 1) := by decide +kernel
theorem dX6_make_0 : decode cX6_make 0 = .ok (.aload_n 0, 1) := by decide +kernel
theorem dX6_make_1 : decode cX6_make 1 = .ok (.getfield 11, 3) := by decide +kernel
theorem dX6_make_4 : decode cX6_make 4 = .ok (.iload_n 1, 1) := by decide +kernel
theorem dX6_make_5 : decode cX6_make 5 = .ok (.aaload, 1) := by decide +kernel
theorem dX6_make_6 : decode cX6_make 6 = .ok (.iconst 0, 1) := by decide +kernel
theorem dX6_make_7 : decode cX6_make 7 = .ok (.invokestatic 23, 3) := by decide +kernel
theorem dX6_make_10 : decode cX6_make 10 = .ok (.aload_n 0, 1) := by decide +kernel
theorem dX6_make_11 : decode cX6_make 11 = .ok (.getfield 16, 3) := by decide +kernel
theorem dX6_make_14 : decode cX6_make 14 = .ok (.iload_n 1, 1) := by decide +kernel
theorem dX6_make_15 : decode cX6_make 15 = .ok (.iload_n 2, 1) := by decide +kernel
theorem dX6_make_16 : decode cX6_make 16 = .ok (.iastore, 1) := by decide +kernel
theorem dX6_make_17 : decode cX6_make 17 = .ok (.aload_n 0, 1) := by decide +kernel
theorem dX6_make_18 : decode cX6_make 18 = .ok (.getfield 20, 3) := by decide +kernel
theorem dX6_make_21 : decode cX6_make 21 = .ok (.iload_n 1, 1) := by decide +kernel
theorem dX6_make_22 : decode cX6_make 22 = .ok (.iload_n 3, 1) := by decide +kernel
theorem dX6_make_23 : decode cX6_make 23 = .ok (.iastore, 1) := by decide +kernel
theorem dX6_make_24 : decode cX6_make 24 = .ok (.return_, 1) := by decide +kernel
theorem dX6_put_0 : decode cX6_put 0 = .ok (.iload_n 3, 1) := by decide +kernel
theorem dX6_put_1 : decode cX6_put 1 = .ok (.istore 4, 2) := by decide +kernel
theorem dX6_put_3 : decode cX6_put 3 = .ok (.aload_n 0, 1) := by decide +kernel
theorem dX6_put_4 : decode cX6_put 4 = .ok (.getfield 16, 3) := by decide +kernel
theorem dX6_put_7 : decode cX6_put 7 = .ok (.iload_n 1, 1) := by decide +kernel
theorem dX6_put_8 : decode cX6_put 8 = .ok (.iaload, 1) := by decide +kernel
theorem dX6_put_9 : decode cX6_put 9 = .ok (.ifCond .ne 10, 3) := by decide +kernel
theorem dX6_put_12 : decode cX6_put 12 = .ok (.iload_n 3, 1) := by decide +kernel
theorem dX6_put_13 : decode cX6_put 13 = .ok (.i2b, 1) := by decide +kernel
theorem dX6_put_14 : decode cX6_put 14 = .ok (.istore 4, 2) := by decide +kernel
theorem dX6_put_16 : decode cX6_put 16 = .ok (.goto 17, 3) := by decide +kernel
theorem dX6_put_19 : decode cX6_put 19 = .ok (.aload_n 0, 1) := by decide +kernel
theorem dX6_put_20 : decode cX6_put 20 = .ok (.getfield 16, 3) := by decide +kernel
theorem dX6_put_23 : decode cX6_put 23 = .ok (.iload_n 1, 1) := by decide +kernel
theorem dX6_put_24 : decode cX6_put 24 = .ok (.iaload, 1) := by decide +kernel
theorem dX6_put_25 : decode cX6_put 25 = .ok (.iconst 1, 1) := by decide +kernel
theorem dX6_put_26 : decode cX6_put 26 = .ok (.if_icmp .ne 7, 3) := by decide +kernel
theorem dX6_put_29 : decode cX6_put 29 = .ok (.iload_n 3, 1) := by decide +kernel
theorem dX6_put_30 : decode cX6_put 30 = .ok (.i2s, 1) := by decide +kernel
theorem dX6_put_31 : decode cX6_put 31 = .ok (.istore 4, 2) := by decide +kernel
theorem dX6_put_33 : decode cX6_put 33 = .ok (.aload_n 0, 1) := by decide +kernel
theorem dX6_put_34 : decode cX6_put 34 = .ok (.getfield 11, 3) := by decide +kernel
theorem dX6_put_37 : decode cX6_put 37 = .ok (.iload_n 1, 1) := by decide +kernel
theorem dX6_put_38 : decode cX6_put 38 = .ok (.aaload, 1) := by decide +kernel
theorem dX6_put_39 : decode cX6_put 39 = .ok (.iload_n 2, 1) := by decide +kernel
theorem dX6_put_40 : decode cX6_put 40 = .ok (.iload 4, 2) := by decide +kernel
theorem dX6_put_42 : decode cX6_put 42 = .ok (.iastore, 1) := by decide +kernel
theorem dX6_put_43 : decode cX6_put 43 = .ok (.iload 4, 2) := by decide +kernel
theorem dX6_put_45 : decode cX6_put 45 = .ok (.ireturn, 1) := by decide +kernel
theorem dX6_hasPlaces_0 : decode cX6_hasPlaces 0 = .ok (.iload_n 2, 1) := by decide +kernel
theorem dX6_hasPlaces_1 : decode cX6_hasPlaces 1 = .ok (.ifCond .lt 33, 3) := by decide +kernel
theorem dX6_hasPlaces_4 : decode cX6_hasPlaces 4 = .ok (.iload_n 3, 1) := by decide +kernel
theorem dX6_hasPlaces_5 : decode cX6_hasPlaces 5 = .ok (.ifCond .lt 29, 3) := by decide +kernel
theorem dX6_hasPlaces_8 : decode cX6_hasPlaces 8 = .ok (.iload_n 2, 1) := by decide +kernel
theorem dX6_hasPlaces_9 : decode cX6_hasPlaces 9 = .ok (.aload_n 0, 1) := by decide +kernel
theorem dX6_hasPlaces_10 : decode cX6_hasPlaces 10 = .ok (.getfield 20, 3) := by decide +kernel
theorem dX6_hasPlaces_13 : decode cX6_hasPlaces 13 = .ok (.iload_n 1, 1) := by decide +kernel
theorem dX6_hasPlaces_14 : decode cX6_hasPlaces 14 = .ok (.iaload, 1) := by decide +kernel
theorem dX6_hasPlaces_15 : decode cX6_hasPlaces 15 = .ok (.if_icmp .gt 19, 3) := by decide +kernel
theorem dX6_hasPlaces_18 : decode cX6_hasPlaces 18 = .ok (.iload_n 3, 1) := by decide +kernel
theorem dX6_hasPlaces_19 : decode cX6_hasPlaces 19 = .ok (.aload_n 0, 1) := by decide +kernel
theorem dX6_hasPlaces_20 : decode cX6_hasPlaces 20 = .ok (.getfield 20, 3) := by decide +kernel
theorem dX6_hasPlaces_23 : decode cX6_hasPlaces 23 = .ok (.iload_n 1, 1) := by decide +kernel
theorem dX6_hasPlaces_24 : decode cX6_hasPlaces 24 = .ok (.iaload, 1) := by decide +kernel
theorem dX6_hasPlaces_25 : decode cX6_hasPlaces 25 = .ok (.iload_n 2, 1) := by decide +kernel
theorem dX6_hasPlaces_26 : decode cX6_hasPlaces 26 = .ok (.isub, 1) := by decide +kernel
theorem dX6_hasPlaces_27 : decode cX6_hasPlaces 27 = .ok (.if_icmp .gt 7, 3) := by decide +kernel
theorem dX6_hasPlaces_30 : decode cX6_hasPlaces 30 = .ok (.iconst 1, 1) := by decide +kernel
theorem dX6_hasPlaces_31 : decode cX6_hasPlaces 31 = .ok (.goto 4, 3) := by decide +kernel
theorem dX6_hasPlaces_34 : decode cX6_hasPlaces 34 = .ok (.iconst 0, 1) := by decide +kernel
theorem dX6_hasPlaces_35 : decode cX6_hasPlaces 35 = .ok (.ireturn, 1) := by decide +kernel
theorem dX6_lose_0 : decode cX6_lose 0 = .ok (.aload_n 0, 1) := by decide +kernel
theorem dX6_lose_1 : decode cX6_lose 1 = .ok (.getfield 20, 3) := by decide +kernel
theorem dX6_lose_4 : decode cX6_lose 4 = .ok (.iload_n 1, 1) := by decide +kernel
theorem dX6_lose_5 : decode cX6_lose 5 = .ok (.iaload, 1) := by decide +kernel
theorem dX6_lose_6 : decode cX6_lose 6 = .ok (.istore_n 2, 1) := by decide +kernel
theorem dX6_lose_7 : decode cX6_lose 7 = .ok (.aload_n 0, 1) := by decide +kernel
theorem dX6_lose_8 : decode cX6_lose 8 = .ok (.getfield 20, 3) := by decide +kernel
theorem dX6_lose_11 : decode cX6_lose 11 = .ok (.iload_n 1, 1) := by decide +kernel
theorem dX6_lose_12 : decode cX6_lose 12 = .ok (.iconst (-1), 1) := by decide +kernel
theorem dX6_lose_13 : decode cX6_lose 13 = .ok (.iastore, 1) := by decide +kernel
theorem dX6_lose_14 : decode cX6_lose 14 = .ok (.iload_n 2, 1) := by decide +kernel
theorem dX6_lose_15 : decode cX6_lose 15 = .ok (.ireturn, 1) := by decide +kernel
theorem dX6_isWitness_0 : decode cX6_isWitness 0 = .ok (.aload_n 0, 1) := by decide +kernel
theorem dX6_isWitness_1 : decode cX6_isWitness 1 = .ok (.getfield 20, 3) := by decide +kernel
theorem dX6_isWitness_4 : decode cX6_isWitness 4 = .ok (.iload_n 1, 1) := by decide +kernel
theorem dX6_isWitness_5 : decode cX6_isWitness 5 = .ok (.iaload, 1) := by decide +kernel
theorem dX6_isWitness_6 : decode cX6_isWitness 6 = .ok (.bipush 8, 2) := by decide +kernel
theorem dX6_isWitness_8 : decode cX6_isWitness 8 = .ok (.if_icmp .ge 5, 3) := by decide +kernel
theorem dX6_isWitness_11 : decode cX6_isWitness 11 = .ok (.iconst 0, 1) := by decide +kernel
theorem dX6_isWitness_12 : decode cX6_isWitness 12 = .ok (.ireturn, 1) := by decide +kernel
theorem dX6_isWitness_13 : decode cX6_isWitness 13 = .ok (.iconst 0, 1) := by decide +kernel
theorem dX6_isWitness_14 : decode cX6_isWitness 14 = .ok (.istore_n 2, 1) := by decide +kernel
theorem dX6_isWitness_15 : decode cX6_isWitness 15 = .ok (.iload_n 2, 1) := by decide +kernel
theorem dX6_isWitness_16 : decode cX6_isWitness 16 = .ok (.bipush 8, 2) := by decide +kernel
theorem dX6_isWitness_18 : decode cX6_isWitness 18 = .ok (.if_icmp .ge 35, 3) := by decide +kernel
theorem dX6_isWitness_21 : decode cX6_isWitness 21 = .ok (.aload_n 0, 1) := by decide +kernel
theorem dX6_isWitness_22 : decode cX6_isWitness 22 = .ok (.getfield 11, 3) := by decide +kernel
theorem dX6_isWitness_25 : decode cX6_isWitness 25 = .ok (.iload_n 1, 1) := by decide +kernel
theorem dX6_isWitness_26 : decode cX6_isWitness 26 = .ok (.aaload, 1) := by decide +kernel
theorem dX6_isWitness_27 : decode cX6_isWitness 27 = .ok (.iload_n 2, 1) := by decide +kernel
theorem dX6_isWitness_28 : decode cX6_isWitness 28 = .ok (.iaload, 1) := by decide +kernel
theorem dX6_isWitness_29 : decode cX6_isWitness 29 = .ok (.ifCond .lt 16, 3) := by decide +kernel
theorem dX6_isWitness_32 : decode cX6_isWitness 32 = .ok (.aload_n 0, 1) := by decide +kernel
theorem dX6_isWitness_33 : decode cX6_isWitness 33 = .ok (.getfield 11, 3) := by decide +kernel
theorem dX6_isWitness_36 : decode cX6_isWitness 36 = .ok (.iload_n 1, 1) := by decide +kernel
theorem dX6_isWitness_37 : decode cX6_isWitness 37 = .ok (.aaload, 1) := by decide +kernel
theorem dX6_isWitness_38 : decode cX6_isWitness 38 = .ok (.iload_n 2, 1) := by decide +kernel
theorem dX6_isWitness_39 : decode cX6_isWitness 39 = .ok (.iaload, 1) := by decide +kernel
theorem dX6_isWitness_40 : decode cX6_isWitness 40 = .ok (.bipush 18, 2) := by decide +kernel
theorem dX6_isWitness_42 : decode cX6_isWitness 42 = .ok (.if_icmp .lt 5, 3) := by decide +kernel
theorem dX6_isWitness_45 : decode cX6_isWitness 45 = .ok (.iconst 0, 1) := by decide +kernel
theorem dX6_isWitness_46 : decode cX6_isWitness 46 = .ok (.ireturn, 1) := by decide +kernel
theorem dX6_isWitness_47 : decode cX6_isWitness 47 = .ok (.iinc 2 1, 3) := by decide +kernel
theorem dX6_isWitness_50 : decode cX6_isWitness 50 = .ok (.goto (-35), 3) := by decide +kernel
theorem dX6_isWitness_53 : decode cX6_isWitness 53 = .ok (.iconst 1, 1) := by decide +kernel
theorem dX6_isWitness_54 : decode cX6_isWitness 54 = .ok (.ireturn, 1) := by decide +kernel
theorem dX6_countAll_0 : decode cX6_countAll 0 = .ok (.iconst 0, 1) := by decide +kernel
theorem dX6_countAll_1 : decode cX6_countAll 1 = .ok (.istore_n 1, 1) := by decide +kernel
theorem dX6_countAll_2 : decode cX6_countAll 2 = .ok (.iconst 0, 1) := by decide +kernel
theorem dX6_countAll_3 : decode cX6_countAll 3 = .ok (.istore_n 2, 1) := by decide +kernel
theorem dX6_countAll_4 : decode cX6_countAll 4 = .ok (.iload_n 2, 1) := by decide +kernel
theorem dX6_countAll_5 : decode cX6_countAll 5 = .ok (.bipush 8, 2) := by decide +kernel
theorem dX6_countAll_7 : decode cX6_countAll 7 = .ok (.if_icmp .ge 20, 3) := by decide +kernel
theorem dX6_countAll_10 : decode cX6_countAll 10 = .ok (.aload_n 0, 1) := by decide +kernel
theorem dX6_countAll_11 : decode cX6_countAll 11 = .ok (.iload_n 2, 1) := by decide +kernel
theorem dX6_countAll_12 : decode cX6_countAll 12 = .ok (.invokevirtual 29, 3) := by decide +kernel
theorem dX6_countAll_15 : decode cX6_countAll 15 = .ok (.ifCond .ne 6, 3) := by decide +kernel
theorem dX6_countAll_18 : decode cX6_countAll 18 = .ok (.iinc 1 1, 3) := by decide +kernel
theorem dX6_countAll_21 : decode cX6_countAll 21 = .ok (.iinc 2 1, 3) := by decide +kernel
theorem dX6_countAll_24 : decode cX6_countAll 24 = .ok (.goto (-20), 3) := by decide +kernel
theorem dX6_countAll_27 : decode cX6_countAll 27 = .ok (.iload_n 1, 1) := by decide +kernel
theorem dX6_countAll_28 : decode cX6_countAll 28 = .ok (.ireturn, 1) := by decide +kernel
theorem dX7_init_0 : decode cX7_init 0 = .ok (.aload_n 0, 1) := by decide +kernel
theorem dX7_init_1 : decode cX7_init 1 = .ok (.invokespecial 1, 3) := by decide +kernel
theorem dX7_init_4 : decode cX7_init 4 = .ok (.aload_n 0, 1) := by decide +kernel
theorem dX7_init_5 : decode cX7_init 5 = .ok (.new 7, 3) := by decide +kernel
theorem dX7_init_8 : decode cX7_init 8 = .ok (.dup, 1) := by decide +kernel
theorem dX7_init_9 : decode cX7_init 9 = .ok (.invokespecial 9, 3) := by decide +kernel
theorem dX7_init_12 : decode cX7_init 12 = .ok (.putfield 10, 3) := by decide +kernel
theorem dX7_init_15 : decode cX7_init 15 = .ok (.aload_n 0, 1) := by decide +kernel
theorem dX7_init_16 : decode cX7_init 16 = .ok (.new 16, 3) := by decide +kernel
theorem dX7_init_19 : decode cX7_init 19 = .ok (.dup, 1) := by decide +kernel
theorem dX7_init_20 : decode cX7_init 20 = .ok (.invokespecial 18, 3) := by decide +kernel
theorem dX7_init_23 : decode cX7_init 23 = .ok (.putfield 19, 3) := by decide +kernel
theorem dX7_init_26 : decode cX7_init 26 = .ok (.aload_n 0, 1) := by decide +kernel
theorem dX7_init_27 : decode cX7_init 27 = .ok (.new 23, 3) := by decide +kernel
theorem dX7_init_30 : decode cX7_init 30 = .ok (.dup, 1) := by decide +kernel
theorem dX7_init_31 : decode cX7_init 31 = .ok (.invokespecial 25, 3) := by decide +kernel
theorem dX7_init_34 : decode cX7_init 34 = .ok (.putfield 26, 3) := by decide +kernel
theorem dX7_init_37 : decode cX7_init 37 = .ok (.aload_n 0, 1) := by decide +kernel
theorem dX7_init_38 : decode cX7_init 38 = .ok (.iconst 2, 1) := by decide +kernel
theorem dX7_init_39 : decode cX7_init 39 = .ok (.anewarray 23, 3) := by decide +kernel
theorem dX7_init_42 : decode cX7_init 42 = .ok (.putfield 30, 3) := by decide +kernel
theorem dX7_init_45 : decode cX7_init 45 = .ok (.iconst 0, 1) := by decide +kernel
theorem dX7_init_46 : decode cX7_init 46 = .ok (.istore_n 1, 1) := by decide +kernel
theorem dX7_init_47 : decode cX7_init 47 = .ok (.iload_n 1, 1) := by decide +kernel
theorem dX7_init_48 : decode cX7_init 48 = .ok (.iconst 2, 1) := by decide +kernel
theorem dX7_init_49 : decode cX7_init 49 = .ok (.if_icmp .ge 22, 3) := by decide +kernel
theorem dX7_init_52 : decode cX7_init 52 = .ok (.aload_n 0, 1) := by decide +kernel
theorem dX7_init_53 : decode cX7_init 53 = .ok (.getfield 30, 3) := by decide +kernel
theorem dX7_init_56 : decode cX7_init 56 = .ok (.iload_n 1, 1) := by decide +kernel
theorem dX7_init_57 : decode cX7_init 57 = .ok (.new 23, 3) := by decide +kernel
theorem dX7_init_60 : decode cX7_init 60 = .ok (.dup, 1) := by decide +kernel
theorem dX7_init_61 : decode cX7_init 61 = .ok (.invokespecial 25, 3) := by decide +kernel
theorem dX7_init_64 : decode cX7_init 64 = .ok (.aastore, 1) := by decide +kernel
theorem dX7_init_65 : decode cX7_init 65 = .ok (.iinc 1 1, 3) := by decide +kernel
theorem dX7_init_68 : decode cX7_init 68 = .ok (.goto (-21), 3) := by decide +kernel
theorem dX7_init_71 : decode cX7_init 71 = .ok (.aload_n 0, 1) := by decide +kernel
theorem dX7_init_72 : decode cX7_init 72 = .ok (.new 34, 3) := by decide +kernel
theorem dX7_init_75 : decode cX7_init 75 = .ok (.dup, 1) := by decide +kernel
theorem dX7_init_76 : decode cX7_init 76 = .ok (.invokespecial 36, 3) := by decide +kernel
theorem dX7_init_79 : decode cX7_init 79 = .ok (.putfield 37, 3) := by decide +kernel
theorem dX7_init_82 : decode cX7_init 82 = .ok (.aload_n 0, 1) := by decide +kernel
theorem dX7_init_83 : decode cX7_init 83 = .ok (.new 41, 3) := by decide +kernel
theorem dX7_init_86 : decode cX7_init 86 = .ok (.dup, 1) := by decide +kernel
theorem dX7_init_87 : decode cX7_init 87 = .ok (.aload_n 0, 1) := by decide +kernel
theorem dX7_init_88 : decode cX7_init 88 = .ok (.getfield 26, 3) := by decide +kernel
theorem dX7_init_91 : decode cX7_init 91 = .ok (.invokespecial 43, 3) := by decide +kernel
theorem dX7_init_94 : decode cX7_init 94 = .ok (.putfield 46, 3) := by decide +kernel
theorem dX7_init_97 : decode cX7_init 97 = .ok (.aload_n 0, 1) := by decide +kernel
theorem dX7_init_98 : decode cX7_init 98 = .ok (.new 50, 3) := by decide +kernel
theorem dX7_init_101 : decode cX7_init 101 = .ok (.dup, 1) := by decide +kernel
theorem dX7_init_102 : decode cX7_init 102 = .ok (.invokespecial 52, 3) := by decide +kernel
theorem dX7_init_105 : decode cX7_init 105 = .ok (.putfield 53, 3) := by decide +kernel
theorem dX7_init_108 : decode cX7_init 108 = .ok (.aload_n 0, 1) := by decide +kernel
theorem dX7_init_109 : decode cX7_init 109 = .ok (.iconst 0, 1) := by decide +kernel
theorem dX7_init_110 : decode cX7_init 110 = .ok (.putfield 57, 3) := by decide +kernel
theorem dX7_init_113 : decode cX7_init 113 = .ok (.return_, 1) := by decide +kernel
theorem dX7_row_0 : decode cX7_row 0 = .ok (.iload_n 1, 1) := by decide +kernel
theorem dX7_row_1 : decode cX7_row 1 = .ok (.invokestatic 61, 3) := by decide +kernel
theorem dX7_row_4 : decode cX7_row 4 = .ok (.ifCond .eq 18, 3) := by decide +kernel
theorem dX7_row_7 : decode cX7_row 7 = .ok (.iload_n 2, 1) := by decide +kernel
theorem dX7_row_8 : decode cX7_row 8 = .ok (.ifCond .lt 14, 3) := by decide +kernel
theorem dX7_row_11 : decode cX7_row 11 = .ok (.iload_n 2, 1) := by decide +kernel
theorem dX7_row_12 : decode cX7_row 12 = .ok (.iconst 3, 1) := by decide +kernel
theorem dX7_row_13 : decode cX7_row 13 = .ok (.if_icmp .ge 9, 3) := by decide +kernel
theorem dX7_row_16 : decode cX7_row 16 = .ok (.iload_n 3, 1) := by decide +kernel
theorem dX7_row_17 : decode cX7_row 17 = .ok (.bipush 40, 2) := by decide +kernel
theorem dX7_row_19 : decode cX7_row 19 = .ok (.if_icmp .le 6, 3) := by decide +kernel
theorem dX7_row_22 : decode cX7_row 22 = .ok (.ldc 65, 2) := by decide +kernel
theorem dX7_row_24 : decode cX7_row 24 = .ok (.ireturn, 1) := by decide +kernel
theorem dX7_row_25 : decode cX7_row 25 = .ok (.iload_n 3, 1) := by decide +kernel
theorem dX7_row_26 : decode cX7_row 26 = .ok (.ifCond .ge 9, 3) := by decide +kernel
theorem dX7_row_29 : decode cX7_row 29 = .ok (.aload_n 0, 1) := by decide +kernel
theorem dX7_row_30 : decode cX7_row 30 = .ok (.iconst 4, 1) := by decide +kernel
theorem dX7_row_31 : decode cX7_row 31 = .ok (.invokevirtual 66, 3) := by decide +kernel
theorem dX7_row_34 : decode cX7_row 34 = .ok (.ireturn, 1) := by decide +kernel
theorem dX7_row_35 : decode cX7_row 35 = .ok (.aload_n 0, 1) := by decide +kernel
theorem dX7_row_36 : decode cX7_row 36 = .ok (.getfield 10, 3) := by decide +kernel
theorem dX7_row_39 : decode cX7_row 39 = .ok (.iload_n 1, 1) := by decide +kernel
theorem dX7_row_40 : decode cX7_row 40 = .ok (.iload_n 2, 1) := by decide +kernel
theorem dX7_row_41 : decode cX7_row 41 = .ok (.iload_n 3, 1) := by decide +kernel
theorem dX7_row_42 : decode cX7_row 42 = .ok (.invokevirtual 70, 3) := by decide +kernel
theorem dX7_row_45 : decode cX7_row 45 = .ok (.aload_n 0, 1) := by decide +kernel
theorem dX7_row_46 : decode cX7_row 46 = .ok (.iload_n 3, 1) := by decide +kernel
theorem dX7_row_47 : decode cX7_row 47 = .ok (.invokevirtual 74, 3) := by decide +kernel
theorem dX7_row_50 : decode cX7_row 50 = .ok (.ireturn, 1) := by decide +kernel
theorem dX7_set_0 : decode cX7_set 0 = .ok (.iload_n 1, 1) := by decide +kernel
theorem dX7_set_1 : decode cX7_set 1 = .ok (.invokestatic 61, 3) := by decide +kernel
theorem dX7_set_4 : decode cX7_set 4 = .ok (.ifCond .ne 6, 3) := by decide +kernel
theorem dX7_set_7 : decode cX7_set 7 = .ok (.ldc 65, 2) := by decide +kernel
theorem dX7_set_9 : decode cX7_set 9 = .ok (.ireturn, 1) := by decide +kernel
theorem dX7_set_10 : decode cX7_set 10 = .ok (.aload_n 0, 1) := by decide +kernel
theorem dX7_set_11 : decode cX7_set 11 = .ok (.getfield 10, 3) := by decide +kernel
theorem dX7_set_14 : decode cX7_set 14 = .ok (.iload_n 1, 1) := by decide +kernel
theorem dX7_set_15 : decode cX7_set 15 = .ok (.invokevirtual 77, 3) := by decide +kernel
theorem dX7_set_18 : decode cX7_set 18 = .ok (.ifCond .eq 9, 3) := by decide +kernel
theorem dX7_set_21 : decode cX7_set 21 = .ok (.aload_n 0, 1) := by decide +kernel
theorem dX7_set_22 : decode cX7_set 22 = .ok (.iconst 1, 1) := by decide +kernel
theorem dX7_set_23 : decode cX7_set 23 = .ok (.invokevirtual 66, 3) := by decide +kernel
theorem dX7_set_26 : decode cX7_set 26 = .ok (.ireturn, 1) := by decide +kernel
theorem dX7_set_27 : decode cX7_set 27 = .ok (.iload_n 2, 1) := by decide +kernel
theorem dX7_set_28 : decode cX7_set 28 = .ok (.ifCond .lt 16, 3) := by decide +kernel
theorem dX7_set_31 : decode cX7_set 31 = .ok (.iload_n 2, 1) := by decide +kernel
theorem dX7_set_32 : decode cX7_set 32 = .ok (.aload_n 0, 1) := by decide +kernel
theorem dX7_set_33 : decode cX7_set 33 = .ok (.getfield 10, 3) := by decide +kernel
theorem dX7_set_36 : decode cX7_set 36 = .ok (.getfield 80, 3) := by decide +kernel
theorem dX7_set_39 : decode cX7_set 39 = .ok (.iload_n 1, 1) := by decide +kernel
theorem dX7_set_40 : decode cX7_set 40 = .ok (.iaload, 1) := by decide +kernel
theorem dX7_set_41 : decode cX7_set 41 = .ok (.if_icmp .lt 9, 3) := by decide +kernel
theorem dX7_set_44 : decode cX7_set 44 = .ok (.aload_n 0, 1) := by decide +kernel
theorem dX7_set_45 : decode cX7_set 45 = .ok (.iconst 2, 1) := by decide +kernel
theorem dX7_set_46 : decode cX7_set 46 = .ok (.invokevirtual 66, 3) := by decide +kernel
theorem dX7_set_49 : decode cX7_set 49 = .ok (.ireturn, 1) := by decide +kernel
theorem dX7_set_50 : decode cX7_set 50 = .ok (.aload_n 0, 1) := by decide +kernel
theorem dX7_set_51 : decode cX7_set 51 = .ok (.aload_n 0, 1) := by decide +kernel
theorem dX7_set_52 : decode cX7_set 52 = .ok (.getfield 10, 3) := by decide +kernel
theorem dX7_set_55 : decode cX7_set 55 = .ok (.iload_n 1, 1) := by decide +kernel
theorem dX7_set_56 : decode cX7_set 56 = .ok (.iload_n 2, 1) := by decide +kernel
theorem dX7_set_57 : decode cX7_set 57 = .ok (.iload_n 3, 1) := by decide +kernel
theorem dX7_set_58 : decode cX7_set 58 = .ok (.invokevirtual 84, 3) := by decide +kernel
theorem dX7_set_61 : decode cX7_set 61 = .ok (.invokevirtual 74, 3) := by decide +kernel
theorem dX7_set_64 : decode cX7_set 64 = .ok (.ireturn, 1) := by decide +kernel
theorem dX7_copy_0 : decode cX7_copy 0 = .ok (.iload_n 1, 1) := by decide +kernel
theorem dX7_copy_1 : decode cX7_copy 1 = .ok (.invokestatic 61, 3) := by decide +kernel
theorem dX7_copy_4 : decode cX7_copy 4 = .ok (.ifCond .eq 10, 3) := by decide +kernel
theorem dX7_copy_7 : decode cX7_copy 7 = .ok (.iload_n 3, 1) := by decide +kernel
theorem dX7_copy_8 : decode cX7_copy 8 = .ok (.invokestatic 61, 3) := by decide +kernel
theorem dX7_copy_11 : decode cX7_copy 11 = .ok (.ifCond .ne 6, 3) := by decide +kernel
theorem dX7_copy_14 : decode cX7_copy 14 = .ok (.ldc 65, 2) := by decide +kernel
theorem dX7_copy_16 : decode cX7_copy 16 = .ok (.ireturn, 1) := by decide +kernel
theorem dX7_copy_17 : decode cX7_copy 17 = .ok (.aload_n 0, 1) := by decide +kernel
theorem dX7_copy_18 : decode cX7_copy 18 = .ok (.getfield 10, 3) := by decide +kernel
theorem dX7_copy_21 : decode cX7_copy 21 = .ok (.iload_n 1, 1) := by decide +kernel
theorem dX7_copy_22 : decode cX7_copy 22 = .ok (.invokevirtual 77, 3) := by decide +kernel
theorem dX7_copy_25 : decode cX7_copy 25 = .ok (.ifCond .ne 14, 3) := by decide +kernel
theorem dX7_copy_28 : decode cX7_copy 28 = .ok (.aload_n 0, 1) := by decide +kernel
theorem dX7_copy_29 : decode cX7_copy 29 = .ok (.getfield 10, 3) := by decide +kernel
theorem dX7_copy_32 : decode cX7_copy 32 = .ok (.iload_n 3, 1) := by decide +kernel
theorem dX7_copy_33 : decode cX7_copy 33 = .ok (.invokevirtual 77, 3) := by decide +kernel
theorem dX7_copy_36 : decode cX7_copy 36 = .ok (.ifCond .eq 9, 3) := by decide +kernel
theorem dX7_copy_39 : decode cX7_copy 39 = .ok (.aload_n 0, 1) := by decide +kernel
theorem dX7_copy_40 : decode cX7_copy 40 = .ok (.iconst 1, 1) := by decide +kernel
theorem dX7_copy_41 : decode cX7_copy 41 = .ok (.invokevirtual 66, 3) := by decide +kernel
theorem dX7_copy_44 : decode cX7_copy 44 = .ok (.ireturn, 1) := by decide +kernel
theorem dX7_copy_45 : decode cX7_copy 45 = .ok (.aload_n 0, 1) := by decide +kernel
theorem dX7_copy_46 : decode cX7_copy 46 = .ok (.getfield 10, 3) := by decide +kernel
theorem dX7_copy_49 : decode cX7_copy 49 = .ok (.getfield 88, 3) := by decide +kernel
theorem dX7_copy_52 : decode cX7_copy 52 = .ok (.iload_n 1, 1) := by decide +kernel
theorem dX7_copy_53 : decode cX7_copy 53 = .ok (.iaload, 1) := by decide +kernel
theorem dX7_copy_54 : decode cX7_copy 54 = .ok (.aload_n 0, 1) := by decide +kernel
theorem dX7_copy_55 : decode cX7_copy 55 = .ok (.getfield 10, 3) := by decide +kernel
theorem dX7_copy_58 : decode cX7_copy 58 = .ok (.getfield 88, 3) := by decide +kernel
theorem dX7_copy_61 : decode cX7_copy 61 = .ok (.iload_n 3, 1) := by decide +kernel
theorem dX7_copy_62 : decode cX7_copy 62 = .ok (.iaload, 1) := by decide +kernel
theorem dX7_copy_63 : decode cX7_copy 63 = .ok (.if_icmp .eq 9, 3) := by decide +kernel
theorem dX7_copy_66 : decode cX7_copy 66 = .ok (.aload_n 0, 1) := by decide +kernel
theorem dX7_copy_67 : decode cX7_copy 67 = .ok (.iconst 5, 1) := by decide +kernel
theorem dX7_copy_68 : decode cX7_copy 68 = .ok (.invokevirtual 66, 3) := by decide +kernel
theorem dX7_copy_71 : decode cX7_copy 71 = .ok (.ireturn, 1) := by decide +kernel
theorem dX7_copy_72 : decode cX7_copy 72 = .ok (.aload_n 0, 1) := by decide +kernel
theorem dX7_copy_73 : decode cX7_copy 73 = .ok (.getfield 10, 3) := by decide +kernel
theorem dX7_copy_76 : decode cX7_copy 76 = .ok (.iload_n 1, 1) := by decide +kernel
theorem dX7_copy_77 : decode cX7_copy 77 = .ok (.iload_n 2, 1) := by decide +kernel
theorem dX7_copy_78 : decode cX7_copy 78 = .ok (.iload 5, 2) := by decide +kernel
theorem dX7_copy_80 : decode cX7_copy 80 = .ok (.invokevirtual 91, 3) := by decide +kernel
theorem dX7_copy_83 : decode cX7_copy 83 = .ok (.ifCond .eq 18, 3) := by decide +kernel
theorem dX7_copy_86 : decode cX7_copy 86 = .ok (.aload_n 0, 1) := by decide +kernel
theorem dX7_copy_87 : decode cX7_copy 87 = .ok (.getfield 10, 3) := by decide +kernel
theorem dX7_copy_90 : decode cX7_copy 90 = .ok (.iload_n 3, 1) := by decide +kernel
theorem dX7_copy_91 : decode cX7_copy 91 = .ok (.iload 4, 2) := by decide +kernel
theorem dX7_copy_93 : decode cX7_copy 93 = .ok (.iload 5, 2) := by decide +kernel
theorem dX7_copy_95 : decode cX7_copy 95 = .ok (.invokevirtual 91, 3) := by decide +kernel
theorem dX7_copy_98 : decode cX7_copy 98 = .ok (.ifCond .ne 9, 3) := by decide +kernel
theorem dX7_copy_101 : decode cX7_copy 101 = .ok (.aload_n 0, 1) := by decide +kernel
theorem dX7_copy_102 : decode cX7_copy 102 = .ok (.iconst 2, 1) := by decide +kernel
theorem dX7_copy_103 : decode cX7_copy 103 = .ok (.invokevirtual 66, 3) := by decide +kernel
theorem dX7_copy_106 : decode cX7_copy 106 = .ok (.ireturn, 1) := by decide +kernel
theorem dX7_copy_107 : decode cX7_copy 107 = .ok (.aload_n 0, 1) := by decide +kernel
theorem dX7_copy_108 : decode cX7_copy 108 = .ok (.getfield 10, 3) := by decide +kernel
theorem dX7_copy_111 : decode cX7_copy 111 = .ok (.getfield 95, 3) := by decide +kernel
theorem dX7_copy_114 : decode cX7_copy 114 = .ok (.iload_n 1, 1) := by decide +kernel
theorem dX7_copy_115 : decode cX7_copy 115 = .ok (.aaload, 1) := by decide +kernel
theorem dX7_copy_116 : decode cX7_copy 116 = .ok (.iload_n 2, 1) := by decide +kernel
theorem dX7_copy_117 : decode cX7_copy 117 = .ok (.aload_n 0, 1) := by decide +kernel
theorem dX7_copy_118 : decode cX7_copy 118 = .ok (.getfield 10, 3) := by decide +kernel
theorem dX7_copy_121 : decode cX7_copy 121 = .ok (.getfield 95, 3) := by decide +kernel
theorem dX7_copy_124 : decode cX7_copy 124 = .ok (.iload_n 3, 1) := by decide +kernel
theorem dX7_copy_125 : decode cX7_copy 125 = .ok (.aaload, 1) := by decide +kernel
theorem dX7_copy_126 : decode cX7_copy 126 = .ok (.iload 4, 2) := by decide +kernel
theorem dX7_copy_128 : decode cX7_copy 128 = .ok (.iload 5, 2) := by decide +kernel
theorem dX7_copy_130 : decode cX7_copy 130 = .ok (.invokestatic 99, 3) := by decide +kernel
theorem dX7_copy_133 : decode cX7_copy 133 = .ok (.aload_n 0, 1) := by decide +kernel
theorem dX7_copy_134 : decode cX7_copy 134 = .ok (.iload 5, 2) := by decide +kernel
theorem dX7_copy_136 : decode cX7_copy 136 = .ok (.invokevirtual 74, 3) := by decide +kernel
theorem dX7_copy_139 : decode cX7_copy 139 = .ok (.ireturn, 1) := by decide +kernel
theorem dX7_drop_0 : decode cX7_drop 0 = .ok (.iload_n 1, 1) := by decide +kernel
theorem dX7_drop_1 : decode cX7_drop 1 = .ok (.invokestatic 61, 3) := by decide +kernel
theorem dX7_drop_4 : decode cX7_drop 4 = .ok (.ifCond .ne 6, 3) := by decide +kernel
theorem dX7_drop_7 : decode cX7_drop 7 = .ok (.ldc 65, 2) := by decide +kernel
theorem dX7_drop_9 : decode cX7_drop 9 = .ok (.ireturn, 1) := by decide +kernel
theorem dX7_drop_10 : decode cX7_drop 10 = .ok (.aload_n 0, 1) := by decide +kernel
theorem dX7_drop_11 : decode cX7_drop 11 = .ok (.getfield 10, 3) := by decide +kernel
theorem dX7_drop_14 : decode cX7_drop 14 = .ok (.iload_n 1, 1) := by decide +kernel
theorem dX7_drop_15 : decode cX7_drop 15 = .ok (.invokevirtual 77, 3) := by decide +kernel
theorem dX7_drop_18 : decode cX7_drop 18 = .ok (.ifCond .eq 9, 3) := by decide +kernel
theorem dX7_drop_21 : decode cX7_drop 21 = .ok (.aload_n 0, 1) := by decide +kernel
theorem dX7_drop_22 : decode cX7_drop 22 = .ok (.iconst 1, 1) := by decide +kernel
theorem dX7_drop_23 : decode cX7_drop 23 = .ok (.invokevirtual 66, 3) := by decide +kernel
theorem dX7_drop_26 : decode cX7_drop 26 = .ok (.ireturn, 1) := by decide +kernel
theorem dX7_drop_27 : decode cX7_drop 27 = .ok (.aload_n 0, 1) := by decide +kernel
theorem dX7_drop_28 : decode cX7_drop 28 = .ok (.aload_n 0, 1) := by decide +kernel
theorem dX7_drop_29 : decode cX7_drop 29 = .ok (.getfield 10, 3) := by decide +kernel
theorem dX7_drop_32 : decode cX7_drop 32 = .ok (.iload_n 1, 1) := by decide +kernel
theorem dX7_drop_33 : decode cX7_drop 33 = .ok (.invokevirtual 105, 3) := by decide +kernel
theorem dX7_drop_36 : decode cX7_drop 36 = .ok (.invokevirtual 74, 3) := by decide +kernel
theorem dX7_drop_39 : decode cX7_drop 39 = .ok (.ireturn, 1) := by decide +kernel
theorem dX7_feed_0 : decode cX7_feed 0 = .ok (.iload_n 1, 1) := by decide +kernel
theorem dX7_feed_1 : decode cX7_feed 1 = .ok (.ifCond .lt 10, 3) := by decide +kernel
theorem dX7_feed_4 : decode cX7_feed 4 = .ok (.iload_n 1, 1) := by decide +kernel
theorem dX7_feed_5 : decode cX7_feed 5 = .ok (.sipush 255, 3) := by decide +kernel
theorem dX7_feed_8 : decode cX7_feed 8 = .ok (.if_icmp .le 6, 3) := by decide +kernel
theorem dX7_feed_11 : decode cX7_feed 11 = .ok (.ldc 65, 2) := by decide +kernel
theorem dX7_feed_13 : decode cX7_feed 13 = .ok (.ireturn, 1) := by decide +kernel
theorem dX7_feed_14 : decode cX7_feed 14 = .ok (.aload_n 0, 1) := by decide +kernel
theorem dX7_feed_15 : decode cX7_feed 15 = .ok (.getfield 19, 3) := by decide +kernel
theorem dX7_feed_18 : decode cX7_feed 18 = .ok (.getfield 108, 3) := by decide +kernel
theorem dX7_feed_21 : decode cX7_feed 21 = .ok (.sipush 200, 3) := by decide +kernel
theorem dX7_feed_24 : decode cX7_feed 24 = .ok (.if_icmp .lt 6, 3) := by decide +kernel
theorem dX7_feed_27 : decode cX7_feed 27 = .ok (.ldc 111, 2) := by decide +kernel
theorem dX7_feed_29 : decode cX7_feed 29 = .ok (.ireturn, 1) := by decide +kernel
theorem dX7_feed_30 : decode cX7_feed 30 = .ok (.aload_n 0, 1) := by decide +kernel
theorem dX7_feed_31 : decode cX7_feed 31 = .ok (.getfield 19, 3) := by decide +kernel
theorem dX7_feed_34 : decode cX7_feed 34 = .ok (.iload_n 1, 1) := by decide +kernel
theorem dX7_feed_35 : decode cX7_feed 35 = .ok (.invokevirtual 112, 3) := by decide +kernel
theorem dX7_feed_38 : decode cX7_feed 38 = .ok (.ireturn, 1) := by decide +kernel
theorem dX7_formula_0 : decode cX7_formula 0 = .ok (.aload_n 0, 1) := by decide +kernel
theorem dX7_formula_1 : decode cX7_formula 1 = .ok (.getfield 19, 3) := by decide +kernel
theorem dX7_formula_4 : decode cX7_formula 4 = .ok (.invokevirtual 115, 3) := by decide +kernel
theorem dX7_formula_7 : decode cX7_formula 7 = .ok (.ifCond .ne 14, 3) := by decide +kernel
theorem dX7_formula_10 : decode cX7_formula 10 = .ok (.ldc 119, 2) := by decide +kernel
theorem dX7_formula_12 : decode cX7_formula 12 = .ok (.aload_n 0, 1) := by decide +kernel
theorem dX7_formula_13 : decode cX7_formula 13 = .ok (.getfield 19, 3) := by decide +kernel
theorem dX7_formula_16 : decode cX7_formula 16 = .ok (.getfield 120, 3) := by decide +kernel
theorem dX7_formula_19 : decode cX7_formula 19 = .ok (.isub, 1) := by decide +kernel
theorem dX7_formula_20 : decode cX7_formula 20 = .ok (.ireturn, 1) := by decide +kernel
theorem dX7_formula_21 : decode cX7_formula 21 = .ok (.aload_n 0, 1) := by decide +kernel
theorem dX7_formula_22 : decode cX7_formula 22 = .ok (.getfield 26, 3) := by decide +kernel
theorem dX7_formula_25 : decode cX7_formula 25 = .ok (.aload_n 0, 1) := by decide +kernel
theorem dX7_formula_26 : decode cX7_formula 26 = .ok (.getfield 19, 3) := by decide +kernel
theorem dX7_formula_29 : decode cX7_formula 29 = .ok (.getfield 123, 3) := by decide +kernel
theorem dX7_formula_32 : decode cX7_formula 32 = .ok (.invokevirtual 126, 3) := by decide +kernel
theorem dX7_formula_35 : decode cX7_formula 35 = .ok (.iconst 0, 1) := by decide +kernel
theorem dX7_formula_36 : decode cX7_formula 36 = .ok (.istore_n 1, 1) := by decide +kernel
theorem dX7_formula_37 : decode cX7_formula 37 = .ok (.iload_n 1, 1) := by decide +kernel
theorem dX7_formula_38 : decode cX7_formula 38 = .ok (.aload_n 0, 1) := by decide +kernel
theorem dX7_formula_39 : decode cX7_formula 39 = .ok (.getfield 19, 3) := by decide +kernel
theorem dX7_formula_42 : decode cX7_formula 42 = .ok (.getfield 130, 3) := by decide +kernel
theorem dX7_formula_45 : decode cX7_formula 45 = .ok (.if_icmp .ge 37, 3) := by decide +kernel
theorem dX7_formula_48 : decode cX7_formula 48 = .ok (.aload_n 0, 1) := by decide +kernel
theorem dX7_formula_49 : decode cX7_formula 49 = .ok (.getfield 26, 3) := by decide +kernel
theorem dX7_formula_52 : decode cX7_formula 52 = .ok (.invokevirtual 133, 3) := by decide +kernel
theorem dX7_formula_55 : decode cX7_formula 55 = .ok (.aload_n 0, 1) := by decide +kernel
theorem dX7_formula_56 : decode cX7_formula 56 = .ok (.getfield 19, 3) := by decide +kernel
theorem dX7_formula_59 : decode cX7_formula 59 = .ok (.getfield 137, 3) := by decide +kernel
theorem dX7_formula_62 : decode cX7_formula 62 = .ok (.iload_n 1, 1) := by decide +kernel
theorem dX7_formula_63 : decode cX7_formula 63 = .ok (.aaload, 1) := by decide +kernel
theorem dX7_formula_64 : decode cX7_formula 64 = .ok (.invokevirtual 141, 3) := by decide +kernel
theorem dX7_formula_67 : decode cX7_formula 67 = .ok (.aload_n 0, 1) := by decide +kernel
theorem dX7_formula_68 : decode cX7_formula 68 = .ok (.getfield 26, 3) := by decide +kernel
theorem dX7_formula_71 : decode cX7_formula 71 = .ok (.iconst 1, 1) := by decide +kernel
theorem dX7_formula_72 : decode cX7_formula 72 = .ok (.invokevirtual 147, 3) := by decide +kernel
theorem dX7_formula_75 : decode cX7_formula 75 = .ok (.pop, 1) := by decide +kernel
theorem dX7_formula_76 : decode cX7_formula 76 = .ok (.iinc 1 1, 3) := by decide +kernel
theorem dX7_formula_79 : decode cX7_formula 79 = .ok (.goto (-42), 3) := by decide +kernel
theorem dX7_formula_82 : decode cX7_formula 82 = .ok (.aload_n 0, 1) := by decide +kernel
theorem dX7_formula_83 : decode cX7_formula 83 = .ok (.getfield 37, 3) := by decide +kernel
theorem dX7_formula_86 : decode cX7_formula 86 = .ok (.invokevirtual 150, 3) := by decide +kernel
theorem dX7_formula_89 : decode cX7_formula 89 = .ok (.aload_n 0, 1) := by decide +kernel
theorem dX7_formula_90 : decode cX7_formula 90 = .ok (.getfield 19, 3) := by decide +kernel
theorem dX7_formula_93 : decode cX7_formula 93 = .ok (.getfield 130, 3) := by decide +kernel
theorem dX7_formula_96 : decode cX7_formula 96 = .ok (.ireturn, 1) := by decide +kernel
theorem dX7_fault_0 : decode cX7_fault 0 = .ok (.aload_n 0, 1) := by decide +kernel
theorem dX7_fault_1 : decode cX7_fault 1 = .ok (.getfield 19, 3) := by decide +kernel
theorem dX7_fault_4 : decode cX7_fault 4 = .ok (.getfield 153, 3) := by decide +kernel
theorem dX7_fault_7 : decode cX7_fault 7 = .ok (.ireturn, 1) := by decide +kernel
theorem dX7_plus_0 : decode cX7_plus 0 = .ok (.aload_n 0, 1) := by decide +kernel
theorem dX7_plus_1 : decode cX7_plus 1 = .ok (.aload_n 0, 1) := by decide +kernel
theorem dX7_plus_2 : decode cX7_plus 2 = .ok (.getfield 26, 3) := by decide +kernel
theorem dX7_plus_5 : decode cX7_plus 5 = .ok (.iload_n 1, 1) := by decide +kernel
theorem dX7_plus_6 : decode cX7_plus 6 = .ok (.invokevirtual 156, 3) := by decide +kernel
theorem dX7_plus_9 : decode cX7_plus 9 = .ok (.ifCond .eq 18, 3) := by decide +kernel
theorem dX7_plus_12 : decode cX7_plus 12 = .ok (.aload_n 0, 1) := by decide +kernel
theorem dX7_plus_13 : decode cX7_plus 13 = .ok (.getfield 26, 3) := by decide +kernel
theorem dX7_plus_16 : decode cX7_plus 16 = .ok (.iload_n 2, 1) := by decide +kernel
theorem dX7_plus_17 : decode cX7_plus 17 = .ok (.invokevirtual 156, 3) := by decide +kernel
theorem dX7_plus_20 : decode cX7_plus 20 = .ok (.ifCond .eq 7, 3) := by decide +kernel
theorem dX7_plus_23 : decode cX7_plus 23 = .ok (.iconst 1, 1) := by decide +kernel
theorem dX7_plus_24 : decode cX7_plus 24 = .ok (.goto 4, 3) := by decide +kernel
theorem dX7_plus_27 : decode cX7_plus 27 = .ok (.iconst 0, 1) := by decide +kernel
theorem dX7_plus_28 : decode cX7_plus 28 = .ok (.invokevirtual 159, 3) := by decide +kernel
theorem dX7_plus_31 : decode cX7_plus 31 = .ok (.istore_n 3, 1) := by decide +kernel
theorem dX7_plus_32 : decode cX7_plus 32 = .ok (.iload_n 3, 1) := by decide +kernel
theorem dX7_plus_33 : decode cX7_plus 33 = .ok (.ifCond .eq 5, 3) := by decide +kernel
theorem dX7_plus_36 : decode cX7_plus 36 = .ok (.iload_n 3, 1) := by decide +kernel
theorem dX7_plus_37 : decode cX7_plus 37 = .ok (.ireturn, 1) := by decide +kernel
theorem dX7_plus_38 : decode cX7_plus 38 = .ok (.aload_n 0, 1) := by decide +kernel
theorem dX7_plus_39 : decode cX7_plus 39 = .ok (.getfield 26, 3) := by decide +kernel
theorem dX7_plus_42 : decode cX7_plus 42 = .ok (.invokevirtual 133, 3) := by decide +kernel
theorem dX7_plus_45 : decode cX7_plus 45 = .ok (.aload_n 0, 1) := by decide +kernel
theorem dX7_plus_46 : decode cX7_plus 46 = .ok (.getfield 26, 3) := by decide +kernel
theorem dX7_plus_49 : decode cX7_plus 49 = .ok (.getfield 163, 3) := by decide +kernel
theorem dX7_plus_52 : decode cX7_plus 52 = .ok (.iload_n 1, 1) := by decide +kernel
theorem dX7_plus_53 : decode cX7_plus 53 = .ok (.aaload, 1) := by decide +kernel
theorem dX7_plus_54 : decode cX7_plus 54 = .ok (.aload_n 0, 1) := by decide +kernel
theorem dX7_plus_55 : decode cX7_plus 55 = .ok (.getfield 26, 3) := by decide +kernel
theorem dX7_plus_58 : decode cX7_plus 58 = .ok (.getfield 163, 3) := by decide +kernel
theorem dX7_plus_61 : decode cX7_plus 61 = .ok (.iload_n 2, 1) := by decide +kernel
theorem dX7_plus_62 : decode cX7_plus 62 = .ok (.aaload, 1) := by decide +kernel
theorem dX7_plus_63 : decode cX7_plus 63 = .ok (.invokevirtual 164, 3) := by decide +kernel
theorem dX7_plus_66 : decode cX7_plus 66 = .ok (.ifCond .ne 10, 3) := by decide +kernel
theorem dX7_plus_69 : decode cX7_plus 69 = .ok (.aload_n 0, 1) := by decide +kernel
theorem dX7_plus_70 : decode cX7_plus 70 = .ok (.bipush 6, 2) := by decide +kernel
theorem dX7_plus_72 : decode cX7_plus 72 = .ok (.invokevirtual 66, 3) := by decide +kernel
theorem dX7_plus_75 : decode cX7_plus 75 = .ok (.ireturn, 1) := by decide +kernel
theorem dX7_plus_76 : decode cX7_plus 76 = .ok (.aload_n 0, 1) := by decide +kernel
theorem dX7_plus_77 : decode cX7_plus 77 = .ok (.aload_n 0, 1) := by decide +kernel
theorem dX7_plus_78 : decode cX7_plus 78 = .ok (.iconst 4, 1) := by decide +kernel
theorem dX7_plus_79 : decode cX7_plus 79 = .ok (.invokevirtual 168, 3) := by decide +kernel
theorem dX7_plus_82 : decode cX7_plus 82 = .ok (.invokevirtual 74, 3) := by decide +kernel
theorem dX7_plus_85 : decode cX7_plus 85 = .ok (.ireturn, 1) := by decide +kernel
theorem dX7_times_0 : decode cX7_times 0 = .ok (.aload_n 0, 1) := by decide +kernel
theorem dX7_times_1 : decode cX7_times 1 = .ok (.aload_n 0, 1) := by decide +kernel
theorem dX7_times_2 : decode cX7_times 2 = .ok (.getfield 26, 3) := by decide +kernel
theorem dX7_times_5 : decode cX7_times 5 = .ok (.iload_n 1, 1) := by decide +kernel
theorem dX7_times_6 : decode cX7_times 6 = .ok (.invokevirtual 156, 3) := by decide +kernel
theorem dX7_times_9 : decode cX7_times 9 = .ok (.ifCond .eq 12, 3) := by decide +kernel
theorem dX7_times_12 : decode cX7_times 12 = .ok (.iload_n 2, 1) := by decide +kernel
theorem dX7_times_13 : decode cX7_times 13 = .ok (.iconst 1, 1) := by decide +kernel
theorem dX7_times_14 : decode cX7_times 14 = .ok (.if_icmp .lt 7, 3) := by decide +kernel
theorem dX7_times_17 : decode cX7_times 17 = .ok (.iconst 1, 1) := by decide +kernel
theorem dX7_times_18 : decode cX7_times 18 = .ok (.goto 4, 3) := by decide +kernel
theorem dX7_times_21 : decode cX7_times 21 = .ok (.iconst 0, 1) := by decide +kernel
theorem dX7_times_22 : decode cX7_times 22 = .ok (.invokevirtual 159, 3) := by decide +kernel
theorem dX7_times_25 : decode cX7_times 25 = .ok (.istore_n 3, 1) := by decide +kernel
theorem dX7_times_26 : decode cX7_times 26 = .ok (.iload_n 3, 1) := by decide +kernel
theorem dX7_times_27 : decode cX7_times 27 = .ok (.ifCond .eq 5, 3) := by decide +kernel
theorem dX7_times_30 : decode cX7_times 30 = .ok (.iload_n 3, 1) := by decide +kernel
theorem dX7_times_31 : decode cX7_times 31 = .ok (.ireturn, 1) := by decide +kernel
theorem dX7_times_32 : decode cX7_times 32 = .ok (.aload_n 0, 1) := by decide +kernel
theorem dX7_times_33 : decode cX7_times 33 = .ok (.getfield 26, 3) := by decide +kernel
theorem dX7_times_36 : decode cX7_times 36 = .ok (.invokevirtual 133, 3) := by decide +kernel
theorem dX7_times_39 : decode cX7_times 39 = .ok (.aload_n 0, 1) := by decide +kernel
theorem dX7_times_40 : decode cX7_times 40 = .ok (.getfield 26, 3) := by decide +kernel
theorem dX7_times_43 : decode cX7_times 43 = .ok (.getfield 163, 3) := by decide +kernel
theorem dX7_times_46 : decode cX7_times 46 = .ok (.iload_n 1, 1) := by decide +kernel
theorem dX7_times_47 : decode cX7_times 47 = .ok (.aaload, 1) := by decide +kernel
theorem dX7_times_48 : decode cX7_times 48 = .ok (.iload_n 2, 1) := by decide +kernel
theorem dX7_times_49 : decode cX7_times 49 = .ok (.invokevirtual 171, 3) := by decide +kernel
theorem dX7_times_52 : decode cX7_times 52 = .ok (.ifCond .ne 10, 3) := by decide +kernel
theorem dX7_times_55 : decode cX7_times 55 = .ok (.aload_n 0, 1) := by decide +kernel
theorem dX7_times_56 : decode cX7_times 56 = .ok (.bipush 6, 2) := by decide +kernel
theorem dX7_times_58 : decode cX7_times 58 = .ok (.invokevirtual 66, 3) := by decide +kernel
theorem dX7_times_61 : decode cX7_times 61 = .ok (.ireturn, 1) := by decide +kernel
theorem dX7_times_62 : decode cX7_times 62 = .ok (.aload_n 0, 1) := by decide +kernel
theorem dX7_times_63 : decode cX7_times 63 = .ok (.aload_n 0, 1) := by decide +kernel
theorem dX7_times_64 : decode cX7_times 64 = .ok (.iconst 4, 1) := by decide +kernel
theorem dX7_times_65 : decode cX7_times 65 = .ok (.invokevirtual 168, 3) := by decide +kernel
theorem dX7_times_68 : decode cX7_times 68 = .ok (.invokevirtual 74, 3) := by decide +kernel
theorem dX7_times_71 : decode cX7_times 71 = .ok (.ireturn, 1) := by decide +kernel
theorem dX7_split_0 : decode cX7_split 0 = .ok (.aload_n 0, 1) := by decide +kernel
theorem dX7_split_1 : decode cX7_split 1 = .ok (.aload_n 0, 1) := by decide +kernel
theorem dX7_split_2 : decode cX7_split 2 = .ok (.getfield 26, 3) := by decide +kernel
theorem dX7_split_5 : decode cX7_split 5 = .ok (.iload_n 1, 1) := by decide +kernel
theorem dX7_split_6 : decode cX7_split 6 = .ok (.invokevirtual 156, 3) := by decide +kernel
theorem dX7_split_9 : decode cX7_split 9 = .ok (.ifCond .eq 12, 3) := by decide +kernel
theorem dX7_split_12 : decode cX7_split 12 = .ok (.iload_n 2, 1) := by decide +kernel
theorem dX7_split_13 : decode cX7_split 13 = .ok (.iconst 1, 1) := by decide +kernel
theorem dX7_split_14 : decode cX7_split 14 = .ok (.if_icmp .lt 7, 3) := by decide +kernel
theorem dX7_split_17 : decode cX7_split 17 = .ok (.iconst 1, 1) := by decide +kernel
theorem dX7_split_18 : decode cX7_split 18 = .ok (.goto 4, 3) := by decide +kernel
theorem dX7_split_21 : decode cX7_split 21 = .ok (.iconst 0, 1) := by decide +kernel
theorem dX7_split_22 : decode cX7_split 22 = .ok (.invokevirtual 159, 3) := by decide +kernel
theorem dX7_split_25 : decode cX7_split 25 = .ok (.istore_n 3, 1) := by decide +kernel
theorem dX7_split_26 : decode cX7_split 26 = .ok (.iload_n 3, 1) := by decide +kernel
theorem dX7_split_27 : decode cX7_split 27 = .ok (.ifCond .eq 5, 3) := by decide +kernel
theorem dX7_split_30 : decode cX7_split 30 = .ok (.iload_n 3, 1) := by decide +kernel
theorem dX7_split_31 : decode cX7_split 31 = .ok (.ireturn, 1) := by decide +kernel
theorem dX7_split_32 : decode cX7_split 32 = .ok (.aload_n 0, 1) := by decide +kernel
theorem dX7_split_33 : decode cX7_split 33 = .ok (.getfield 26, 3) := by decide +kernel
theorem dX7_split_36 : decode cX7_split 36 = .ok (.invokevirtual 133, 3) := by decide +kernel
theorem dX7_split_39 : decode cX7_split 39 = .ok (.aload_n 0, 1) := by decide +kernel
theorem dX7_split_40 : decode cX7_split 40 = .ok (.getfield 26, 3) := by decide +kernel
theorem dX7_split_43 : decode cX7_split 43 = .ok (.getfield 163, 3) := by decide +kernel
theorem dX7_split_46 : decode cX7_split 46 = .ok (.iload_n 1, 1) := by decide +kernel
theorem dX7_split_47 : decode cX7_split 47 = .ok (.aaload, 1) := by decide +kernel
theorem dX7_split_48 : decode cX7_split 48 = .ok (.iload_n 2, 1) := by decide +kernel
theorem dX7_split_49 : decode cX7_split 49 = .ok (.invokevirtual 175, 3) := by decide +kernel
theorem dX7_split_52 : decode cX7_split 52 = .ok (.aload_n 0, 1) := by decide +kernel
theorem dX7_split_53 : decode cX7_split 53 = .ok (.iconst 4, 1) := by decide +kernel
theorem dX7_split_54 : decode cX7_split 54 = .ok (.invokevirtual 168, 3) := by decide +kernel
theorem dX7_split_57 : decode cX7_split 57 = .ok (.ireturn, 1) := by decide +kernel
theorem dX7_saturate_0 : decode cX7_saturate 0 = .ok (.aload_n 0, 1) := by decide +kernel
theorem dX7_saturate_1 : decode cX7_saturate 1 = .ok (.aload_n 0, 1) := by decide +kernel
theorem dX7_saturate_2 : decode cX7_saturate 2 = .ok (.getfield 26, 3) := by decide +kernel
theorem dX7_saturate_5 : decode cX7_saturate 5 = .ok (.iload_n 1, 1) := by decide +kernel
theorem dX7_saturate_6 : decode cX7_saturate 6 = .ok (.invokevirtual 156, 3) := by decide +kernel
theorem dX7_saturate_9 : decode cX7_saturate 9 = .ok (.invokevirtual 159, 3) := by decide +kernel
theorem dX7_saturate_12 : decode cX7_saturate 12 = .ok (.istore_n 2, 1) := by decide +kernel
theorem dX7_saturate_13 : decode cX7_saturate 13 = .ok (.iload_n 2, 1) := by decide +kernel
theorem dX7_saturate_14 : decode cX7_saturate 14 = .ok (.ifCond .eq 5, 3) := by decide +kernel
theorem dX7_saturate_17 : decode cX7_saturate 17 = .ok (.iload_n 2, 1) := by decide +kernel
theorem dX7_saturate_18 : decode cX7_saturate 18 = .ok (.ireturn, 1) := by decide +kernel
theorem dX7_saturate_19 : decode cX7_saturate 19 = .ok (.aload_n 0, 1) := by decide +kernel
theorem dX7_saturate_20 : decode cX7_saturate 20 = .ok (.getfield 26, 3) := by decide +kernel
theorem dX7_saturate_23 : decode cX7_saturate 23 = .ok (.invokevirtual 133, 3) := by decide +kernel
theorem dX7_saturate_26 : decode cX7_saturate 26 = .ok (.aload_n 0, 1) := by decide +kernel
theorem dX7_saturate_27 : decode cX7_saturate 27 = .ok (.getfield 26, 3) := by decide +kernel
theorem dX7_saturate_30 : decode cX7_saturate 30 = .ok (.getfield 163, 3) := by decide +kernel
theorem dX7_saturate_33 : decode cX7_saturate 33 = .ok (.iload_n 1, 1) := by decide +kernel
theorem dX7_saturate_34 : decode cX7_saturate 34 = .ok (.aaload, 1) := by decide +kernel
theorem dX7_saturate_35 : decode cX7_saturate 35 = .ok (.invokevirtual 179, 3) := by decide +kernel
theorem dX7_saturate_38 : decode cX7_saturate 38 = .ok (.aload_n 0, 1) := by decide +kernel
theorem dX7_saturate_39 : decode cX7_saturate 39 = .ok (.iconst 4, 1) := by decide +kernel
theorem dX7_saturate_40 : decode cX7_saturate 40 = .ok (.invokevirtual 168, 3) := by decide +kernel
theorem dX7_saturate_43 : decode cX7_saturate 43 = .ok (.ireturn, 1) := by decide +kernel
theorem dX7_weaken_0 : decode cX7_weaken 0 = .ok (.aload_n 0, 1) := by decide +kernel
theorem dX7_weaken_1 : decode cX7_weaken 1 = .ok (.aload_n 0, 1) := by decide +kernel
theorem dX7_weaken_2 : decode cX7_weaken 2 = .ok (.getfield 26, 3) := by decide +kernel
theorem dX7_weaken_5 : decode cX7_weaken 5 = .ok (.iload_n 1, 1) := by decide +kernel
theorem dX7_weaken_6 : decode cX7_weaken 6 = .ok (.invokevirtual 156, 3) := by decide +kernel
theorem dX7_weaken_9 : decode cX7_weaken 9 = .ok (.ifCond .eq 33, 3) := by decide +kernel
theorem dX7_weaken_12 : decode cX7_weaken 12 = .ok (.iload_n 2, 1) := by decide +kernel
theorem dX7_weaken_13 : decode cX7_weaken 13 = .ok (.invokestatic 182, 3) := by decide +kernel
theorem dX7_weaken_16 : decode cX7_weaken 16 = .ok (.ifCond .eq 26, 3) := by decide +kernel
theorem dX7_weaken_19 : decode cX7_weaken 19 = .ok (.aload_n 0, 1) := by decide +kernel
theorem dX7_weaken_20 : decode cX7_weaken 20 = .ok (.getfield 26, 3) := by decide +kernel
theorem dX7_weaken_23 : decode cX7_weaken 23 = .ok (.getfield 163, 3) := by decide +kernel
theorem dX7_weaken_26 : decode cX7_weaken 26 = .ok (.iload_n 1, 1) := by decide +kernel
theorem dX7_weaken_27 : decode cX7_weaken 27 = .ok (.aaload, 1) := by decide +kernel
theorem dX7_weaken_28 : decode cX7_weaken 28 = .ok (.getfield 185, 3) := by decide +kernel
theorem dX7_weaken_31 : decode cX7_weaken 31 = .ok (.iload_n 2, 1) := by decide +kernel
theorem dX7_weaken_32 : decode cX7_weaken 32 = .ok (.laload, 1) := by decide +kernel
theorem dX7_weaken_33 : decode cX7_weaken 33 = .ok (.lconst 0, 1) := by decide +kernel
theorem dX7_weaken_34 : decode cX7_weaken 34 = .ok (.lcmp, 1) := by decide +kernel
theorem dX7_weaken_35 : decode cX7_weaken 35 = .ok (.ifCond .eq 7, 3) := by decide +kernel
theorem dX7_weaken_38 : decode cX7_weaken 38 = .ok (.iconst 1, 1) := by decide +kernel
theorem dX7_weaken_39 : decode cX7_weaken 39 = .ok (.goto 4, 3) := by decide +kernel
theorem dX7_weaken_42 : decode cX7_weaken 42 = .ok (.iconst 0, 1) := by decide +kernel
theorem dX7_weaken_43 : decode cX7_weaken 43 = .ok (.invokevirtual 159, 3) := by decide +kernel
theorem dX7_weaken_46 : decode cX7_weaken 46 = .ok (.istore_n 3, 1) := by decide +kernel
theorem dX7_weaken_47 : decode cX7_weaken 47 = .ok (.iload_n 3, 1) := by decide +kernel
theorem dX7_weaken_48 : decode cX7_weaken 48 = .ok (.ifCond .eq 5, 3) := by decide +kernel
theorem dX7_weaken_51 : decode cX7_weaken 51 = .ok (.iload_n 3, 1) := by decide +kernel
theorem dX7_weaken_52 : decode cX7_weaken 52 = .ok (.ireturn, 1) := by decide +kernel
theorem dX7_weaken_53 : decode cX7_weaken 53 = .ok (.aload_n 0, 1) := by decide +kernel
theorem dX7_weaken_54 : decode cX7_weaken 54 = .ok (.getfield 26, 3) := by decide +kernel
theorem dX7_weaken_57 : decode cX7_weaken 57 = .ok (.invokevirtual 133, 3) := by decide +kernel
theorem dX7_weaken_60 : decode cX7_weaken 60 = .ok (.aload_n 0, 1) := by decide +kernel
theorem dX7_weaken_61 : decode cX7_weaken 61 = .ok (.getfield 26, 3) := by decide +kernel
theorem dX7_weaken_64 : decode cX7_weaken 64 = .ok (.getfield 163, 3) := by decide +kernel
theorem dX7_weaken_67 : decode cX7_weaken 67 = .ok (.iload_n 1, 1) := by decide +kernel
theorem dX7_weaken_68 : decode cX7_weaken 68 = .ok (.aaload, 1) := by decide +kernel
theorem dX7_weaken_69 : decode cX7_weaken 69 = .ok (.iload_n 2, 1) := by decide +kernel
theorem dX7_weaken_70 : decode cX7_weaken 70 = .ok (.invokevirtual 189, 3) := by decide +kernel
theorem dX7_weaken_73 : decode cX7_weaken 73 = .ok (.aload_n 0, 1) := by decide +kernel
theorem dX7_weaken_74 : decode cX7_weaken 74 = .ok (.iconst 4, 1) := by decide +kernel
theorem dX7_weaken_75 : decode cX7_weaken 75 = .ok (.invokevirtual 168, 3) := by decide +kernel
theorem dX7_weaken_78 : decode cX7_weaken 78 = .ok (.ireturn, 1) := by decide +kernel
theorem dX7_axiom_0 : decode cX7_axiom 0 = .ok (.aload_n 0, 1) := by decide +kernel
theorem dX7_axiom_1 : decode cX7_axiom 1 = .ok (.iload_n 1, 1) := by decide +kernel
theorem dX7_axiom_2 : decode cX7_axiom 2 = .ok (.invokestatic 182, 3) := by decide +kernel
theorem dX7_axiom_5 : decode cX7_axiom 5 = .ok (.ifCond .eq 16, 3) := by decide +kernel
theorem dX7_axiom_8 : decode cX7_axiom 8 = .ok (.iload_n 2, 1) := by decide +kernel
theorem dX7_axiom_9 : decode cX7_axiom 9 = .ok (.ifCond .eq 8, 3) := by decide +kernel
theorem dX7_axiom_12 : decode cX7_axiom 12 = .ok (.iload_n 2, 1) := by decide +kernel
theorem dX7_axiom_13 : decode cX7_axiom 13 = .ok (.iconst 1, 1) := by decide +kernel
theorem dX7_axiom_14 : decode cX7_axiom 14 = .ok (.if_icmp .ne 7, 3) := by decide +kernel
theorem dX7_axiom_17 : decode cX7_axiom 17 = .ok (.iconst 1, 1) := by decide +kernel
theorem dX7_axiom_18 : decode cX7_axiom 18 = .ok (.goto 4, 3) := by decide +kernel
theorem dX7_axiom_21 : decode cX7_axiom 21 = .ok (.iconst 0, 1) := by decide +kernel
theorem dX7_axiom_22 : decode cX7_axiom 22 = .ok (.invokevirtual 159, 3) := by decide +kernel
theorem dX7_axiom_25 : decode cX7_axiom 25 = .ok (.istore_n 3, 1) := by decide +kernel
theorem dX7_axiom_26 : decode cX7_axiom 26 = .ok (.iload_n 3, 1) := by decide +kernel
theorem dX7_axiom_27 : decode cX7_axiom 27 = .ok (.ifCond .eq 5, 3) := by decide +kernel
theorem dX7_axiom_30 : decode cX7_axiom 30 = .ok (.iload_n 3, 1) := by decide +kernel
theorem dX7_axiom_31 : decode cX7_axiom 31 = .ok (.ireturn, 1) := by decide +kernel
theorem dX7_axiom_32 : decode cX7_axiom 32 = .ok (.aload_n 0, 1) := by decide +kernel
theorem dX7_axiom_33 : decode cX7_axiom 33 = .ok (.getfield 26, 3) := by decide +kernel
theorem dX7_axiom_36 : decode cX7_axiom 36 = .ok (.invokevirtual 133, 3) := by decide +kernel
theorem dX7_axiom_39 : decode cX7_axiom 39 = .ok (.astore 4, 2) := by decide +kernel
theorem dX7_axiom_41 : decode cX7_axiom 41 = .ok (.aload 4, 2) := by decide +kernel
theorem dX7_axiom_43 : decode cX7_axiom 43 = .ok (.invokevirtual 192, 3) := by decide +kernel
theorem dX7_axiom_46 : decode cX7_axiom 46 = .ok (.aload 4, 2) := by decide +kernel
theorem dX7_axiom_48 : decode cX7_axiom 48 = .ok (.getfield 185, 3) := by decide +kernel
theorem dX7_axiom_51 : decode cX7_axiom 51 = .ok (.iload_n 1, 1) := by decide +kernel
theorem dX7_axiom_52 : decode cX7_axiom 52 = .ok (.iload_n 2, 1) := by decide +kernel
theorem dX7_axiom_53 : decode cX7_axiom 53 = .ok (.iconst 1, 1) := by decide +kernel
theorem dX7_axiom_54 : decode cX7_axiom 54 = .ok (.if_icmp .ne 7, 3) := by decide +kernel
theorem dX7_axiom_57 : decode cX7_axiom 57 = .ok (.lconst 1, 1) := by decide +kernel
theorem dX7_axiom_58 : decode cX7_axiom 58 = .ok (.goto 6, 3) := by decide +kernel
theorem dX7_axiom_61 : decode cX7_axiom 61 = .ok (.ldc2_w 195, 3) := by decide +kernel
theorem dX7_axiom_64 : decode cX7_axiom 64 = .ok (.lastore, 1) := by decide +kernel
theorem dX7_axiom_65 : decode cX7_axiom 65 = .ok (.aload_n 0, 1) := by decide +kernel
theorem dX7_axiom_66 : decode cX7_axiom 66 = .ok (.iconst 2, 1) := by decide +kernel
theorem dX7_axiom_67 : decode cX7_axiom 67 = .ok (.invokevirtual 168, 3) := by decide +kernel
theorem dX7_axiom_70 : decode cX7_axiom 70 = .ok (.ireturn, 1) := by decide +kernel
theorem dX7_claim_0 : decode cX7_claim 0 = .ok (.aload_n 0, 1) := by decide +kernel
theorem dX7_claim_1 : decode cX7_claim 1 = .ok (.getfield 26, 3) := by decide +kernel
theorem dX7_claim_4 : decode cX7_claim 4 = .ok (.getfield 197, 3) := by decide +kernel
theorem dX7_claim_7 : decode cX7_claim 7 = .ok (.ifCond .ne 6, 3) := by decide +kernel
theorem dX7_claim_10 : decode cX7_claim 10 = .ok (.ldc 201, 2) := by decide +kernel
theorem dX7_claim_12 : decode cX7_claim 12 = .ok (.ireturn, 1) := by decide +kernel
theorem dX7_claim_13 : decode cX7_claim 13 = .ok (.aload_n 0, 1) := by decide +kernel
theorem dX7_claim_14 : decode cX7_claim 14 = .ok (.iconst (-1), 1) := by decide +kernel
theorem dX7_claim_15 : decode cX7_claim 15 = .ok (.invokevirtual 202, 3) := by decide +kernel
theorem dX7_claim_18 : decode cX7_claim 18 = .ok (.ireturn, 1) := by decide +kernel
theorem dX7_witness_0 : decode cX7_witness 0 = .ok (.aload_n 0, 1) := by decide +kernel
theorem dX7_witness_1 : decode cX7_witness 1 = .ok (.getfield 26, 3) := by decide +kernel
theorem dX7_witness_4 : decode cX7_witness 4 = .ok (.getfield 197, 3) := by decide +kernel
theorem dX7_witness_7 : decode cX7_witness 7 = .ok (.ifCond .ne 6, 3) := by decide +kernel
theorem dX7_witness_10 : decode cX7_witness 10 = .ok (.ldc 201, 2) := by decide +kernel
theorem dX7_witness_12 : decode cX7_witness 12 = .ok (.ireturn, 1) := by decide +kernel
theorem dX7_witness_13 : decode cX7_witness 13 = .ok (.iload_n 1, 1) := by decide +kernel
theorem dX7_witness_14 : decode cX7_witness 14 = .ok (.invokestatic 61, 3) := by decide +kernel
theorem dX7_witness_17 : decode cX7_witness 17 = .ok (.ifCond .ne 6, 3) := by decide +kernel
theorem dX7_witness_20 : decode cX7_witness 20 = .ok (.ldc 65, 2) := by decide +kernel
theorem dX7_witness_22 : decode cX7_witness 22 = .ok (.ireturn, 1) := by decide +kernel
theorem dX7_witness_23 : decode cX7_witness 23 = .ok (.aload_n 0, 1) := by decide +kernel
theorem dX7_witness_24 : decode cX7_witness 24 = .ok (.getfield 10, 3) := by decide +kernel
theorem dX7_witness_27 : decode cX7_witness 27 = .ok (.iload_n 1, 1) := by decide +kernel
theorem dX7_witness_28 : decode cX7_witness 28 = .ok (.invokevirtual 77, 3) := by decide +kernel
theorem dX7_witness_31 : decode cX7_witness 31 = .ok (.ifCond .eq 9, 3) := by decide +kernel
theorem dX7_witness_34 : decode cX7_witness 34 = .ok (.aload_n 0, 1) := by decide +kernel
theorem dX7_witness_35 : decode cX7_witness 35 = .ok (.iconst 1, 1) := by decide +kernel
theorem dX7_witness_36 : decode cX7_witness 36 = .ok (.invokevirtual 66, 3) := by decide +kernel
theorem dX7_witness_39 : decode cX7_witness 39 = .ok (.ireturn, 1) := by decide +kernel
theorem dX7_witness_40 : decode cX7_witness 40 = .ok (.aload_n 0, 1) := by decide +kernel
theorem dX7_witness_41 : decode cX7_witness 41 = .ok (.getfield 10, 3) := by decide +kernel
theorem dX7_witness_44 : decode cX7_witness 44 = .ok (.iload_n 1, 1) := by decide +kernel
theorem dX7_witness_45 : decode cX7_witness 45 = .ok (.invokevirtual 205, 3) := by decide +kernel
theorem dX7_witness_48 : decode cX7_witness 48 = .ok (.ifCond .ne 9, 3) := by decide +kernel
theorem dX7_witness_51 : decode cX7_witness 51 = .ok (.aload_n 0, 1) := by decide +kernel
theorem dX7_witness_52 : decode cX7_witness 52 = .ok (.iconst 2, 1) := by decide +kernel
theorem dX7_witness_53 : decode cX7_witness 53 = .ok (.invokevirtual 66, 3) := by decide +kernel
theorem dX7_witness_56 : decode cX7_witness 56 = .ok (.ireturn, 1) := by decide +kernel
theorem dX7_witness_57 : decode cX7_witness 57 = .ok (.aload_n 0, 1) := by decide +kernel
theorem dX7_witness_58 : decode cX7_witness 58 = .ok (.iload_n 1, 1) := by decide +kernel
theorem dX7_witness_59 : decode cX7_witness 59 = .ok (.invokevirtual 202, 3) := by decide +kernel
theorem dX7_witness_62 : decode cX7_witness 62 = .ok (.ireturn, 1) := by decide +kernel
theorem dX7_solution_0 : decode cX7_solution 0 = .ok (.aload_n 0, 1) := by decide +kernel
theorem dX7_solution_1 : decode cX7_solution 1 = .ok (.getfield 26, 3) := by decide +kernel
theorem dX7_solution_4 : decode cX7_solution 4 = .ok (.getfield 197, 3) := by decide +kernel
theorem dX7_solution_7 : decode cX7_solution 7 = .ok (.ifCond .ne 6, 3) := by decide +kernel
theorem dX7_solution_10 : decode cX7_solution 10 = .ok (.ldc 201, 2) := by decide +kernel
theorem dX7_solution_12 : decode cX7_solution 12 = .ok (.ireturn, 1) := by decide +kernel
theorem dX7_solution_13 : decode cX7_solution 13 = .ok (.iload_n 1, 1) := by decide +kernel
theorem dX7_solution_14 : decode cX7_solution 14 = .ok (.invokestatic 208, 3) := by decide +kernel
theorem dX7_solution_17 : decode cX7_solution 17 = .ok (.ifCond .ne 6, 3) := by decide +kernel
theorem dX7_solution_20 : decode cX7_solution 20 = .ok (.ldc 65, 2) := by decide +kernel
theorem dX7_solution_22 : decode cX7_solution 22 = .ok (.ireturn, 1) := by decide +kernel
theorem dX7_solution_23 : decode cX7_solution 23 = .ok (.aload_n 0, 1) := by decide +kernel
theorem dX7_solution_24 : decode cX7_solution 24 = .ok (.getfield 26, 3) := by decide +kernel
theorem dX7_solution_27 : decode cX7_solution 27 = .ok (.invokevirtual 211, 3) := by decide +kernel
theorem dX7_solution_30 : decode cX7_solution 30 = .ok (.ifCond .le 7, 3) := by decide +kernel
theorem dX7_solution_33 : decode cX7_solution 33 = .ok (.iconst 1, 1) := by decide +kernel
theorem dX7_solution_34 : decode cX7_solution 34 = .ok (.goto 4, 3) := by decide +kernel
theorem dX7_solution_37 : decode cX7_solution 37 = .ok (.iconst 0, 1) := by decide +kernel
theorem dX7_solution_38 : decode cX7_solution 38 = .ok (.istore_n 2, 1) := by decide +kernel
theorem dX7_solution_39 : decode cX7_solution 39 = .ok (.iload_n 2, 1) := by decide +kernel
theorem dX7_solution_40 : decode cX7_solution 40 = .ok (.ifCond .eq 16, 3) := by decide +kernel
theorem dX7_solution_43 : decode cX7_solution 43 = .ok (.aload_n 0, 1) := by decide +kernel
theorem dX7_solution_44 : decode cX7_solution 44 = .ok (.getfield 26, 3) := by decide +kernel
theorem dX7_solution_47 : decode cX7_solution 47 = .ok (.invokevirtual 215, 3) := by decide +kernel
theorem dX7_solution_50 : decode cX7_solution 50 = .ok (.ifCond .eq 6, 3) := by decide +kernel
theorem dX7_solution_53 : decode cX7_solution 53 = .ok (.ldc 111, 2) := by decide +kernel
theorem dX7_solution_55 : decode cX7_solution 55 = .ok (.ireturn, 1) := by decide +kernel
theorem dX7_solution_56 : decode cX7_solution 56 = .ok (.aload_n 0, 1) := by decide +kernel
theorem dX7_solution_57 : decode cX7_solution 57 = .ok (.getfield 26, 3) := by decide +kernel
theorem dX7_solution_60 : decode cX7_solution 60 = .ok (.invokevirtual 218, 3) := by decide +kernel
theorem dX7_solution_63 : decode cX7_solution 63 = .ok (.ifCond .eq 10, 3) := by decide +kernel
theorem dX7_solution_66 : decode cX7_solution 66 = .ok (.aload_n 0, 1) := by decide +kernel
theorem dX7_solution_67 : decode cX7_solution 67 = .ok (.bipush 6, 2) := by decide +kernel
theorem dX7_solution_69 : decode cX7_solution 69 = .ok (.invokevirtual 66, 3) := by decide +kernel
theorem dX7_solution_72 : decode cX7_solution 72 = .ok (.ireturn, 1) := by decide +kernel
theorem dX7_solution_73 : decode cX7_solution 73 = .ok (.aload_n 0, 1) := by decide +kernel
theorem dX7_solution_74 : decode cX7_solution 74 = .ok (.getfield 26, 3) := by decide +kernel
theorem dX7_solution_77 : decode cX7_solution 77 = .ok (.iload_n 1, 1) := by decide +kernel
theorem dX7_solution_78 : decode cX7_solution 78 = .ok (.invokevirtual 221, 3) := by decide +kernel
theorem dX7_solution_81 : decode cX7_solution 81 = .ok (.ifCond .ne 10, 3) := by decide +kernel
theorem dX7_solution_84 : decode cX7_solution 84 = .ok (.aload_n 0, 1) := by decide +kernel
theorem dX7_solution_85 : decode cX7_solution 85 = .ok (.ldc 224, 2) := by decide +kernel
theorem dX7_solution_87 : decode cX7_solution 87 = .ok (.invokevirtual 74, 3) := by decide +kernel
theorem dX7_solution_90 : decode cX7_solution 90 = .ok (.ireturn, 1) := by decide +kernel
theorem dX7_solution_91 : decode cX7_solution 91 = .ok (.aload_n 0, 1) := by decide +kernel
theorem dX7_solution_92 : decode cX7_solution 92 = .ok (.getfield 37, 3) := by decide +kernel
theorem dX7_solution_95 : decode cX7_solution 95 = .ok (.aload_n 0, 1) := by decide +kernel
theorem dX7_solution_96 : decode cX7_solution 96 = .ok (.getfield 26, 3) := by decide +kernel
theorem dX7_solution_99 : decode cX7_solution 99 = .ok (.invokevirtual 225, 3) := by decide +kernel
theorem dX7_solution_102 : decode cX7_solution 102 = .ok (.aload_n 0, 1) := by decide +kernel
theorem dX7_solution_103 : decode cX7_solution 103 = .ok (.getfield 26, 3) := by decide +kernel
theorem dX7_solution_106 : decode cX7_solution 106 = .ok (.aload_n 0, 1) := by decide +kernel
theorem dX7_solution_107 : decode cX7_solution 107 = .ok (.getfield 26, 3) := by decide +kernel
theorem dX7_solution_110 : decode cX7_solution 110 = .ok (.iload_n 1, 1) := by decide +kernel
theorem dX7_solution_111 : decode cX7_solution 111 = .ok (.invokevirtual 228, 3) := by decide +kernel
theorem dX7_solution_114 : decode cX7_solution 114 = .ok (.putfield 231, 3) := by decide +kernel
theorem dX7_solution_117 : decode cX7_solution 117 = .ok (.iload_n 2, 1) := by decide +kernel
theorem dX7_solution_118 : decode cX7_solution 118 = .ok (.ifCond .eq 43, 3) := by decide +kernel
theorem dX7_solution_121 : decode cX7_solution 121 = .ok (.aload_n 0, 1) := by decide +kernel
theorem dX7_solution_122 : decode cX7_solution 122 = .ok (.getfield 26, 3) := by decide +kernel
theorem dX7_solution_125 : decode cX7_solution 125 = .ok (.invokevirtual 133, 3) := by decide +kernel
theorem dX7_solution_128 : decode cX7_solution 128 = .ok (.aload_n 0, 1) := by decide +kernel
theorem dX7_solution_129 : decode cX7_solution 129 = .ok (.getfield 26, 3) := by decide +kernel
theorem dX7_solution_132 : decode cX7_solution 132 = .ok (.getfield 234, 3) := by decide +kernel
theorem dX7_solution_135 : decode cX7_solution 135 = .ok (.aload_n 0, 1) := by decide +kernel
theorem dX7_solution_136 : decode cX7_solution 136 = .ok (.getfield 26, 3) := by decide +kernel
theorem dX7_solution_139 : decode cX7_solution 139 = .ok (.invokevirtual 211, 3) := by decide +kernel
theorem dX7_solution_142 : decode cX7_solution 142 = .ok (.aload_n 0, 1) := by decide +kernel
theorem dX7_solution_143 : decode cX7_solution 143 = .ok (.getfield 26, 3) := by decide +kernel
theorem dX7_solution_146 : decode cX7_solution 146 = .ok (.getfield 231, 3) := by decide +kernel
theorem dX7_solution_149 : decode cX7_solution 149 = .ok (.invokevirtual 235, 3) := by decide +kernel
theorem dX7_solution_152 : decode cX7_solution 152 = .ok (.aload_n 0, 1) := by decide +kernel
theorem dX7_solution_153 : decode cX7_solution 153 = .ok (.getfield 26, 3) := by decide +kernel
theorem dX7_solution_156 : decode cX7_solution 156 = .ok (.iconst 3, 1) := by decide +kernel
theorem dX7_solution_157 : decode cX7_solution 157 = .ok (.invokevirtual 147, 3) := by decide +kernel
theorem dX7_solution_160 : decode cX7_solution 160 = .ok (.pop, 1) := by decide +kernel
theorem dX7_solution_161 : decode cX7_solution 161 = .ok (.aload_n 0, 1) := by decide +kernel
theorem dX7_solution_162 : decode cX7_solution 162 = .ok (.aload_n 0, 1) := by decide +kernel
theorem dX7_solution_163 : decode cX7_solution 163 = .ok (.getfield 26, 3) := by decide +kernel
theorem dX7_solution_166 : decode cX7_solution 166 = .ok (.getfield 231, 3) := by decide +kernel
theorem dX7_solution_169 : decode cX7_solution 169 = .ok (.invokevirtual 74, 3) := by decide +kernel
theorem dX7_solution_172 : decode cX7_solution 172 = .ok (.ireturn, 1) := by decide +kernel
theorem dX7_remove_0 : decode cX7_remove 0 = .ok (.aload_n 0, 1) := by decide +kernel
theorem dX7_remove_1 : decode cX7_remove 1 = .ok (.getfield 26, 3) := by decide +kernel
theorem dX7_remove_4 : decode cX7_remove 4 = .ok (.getfield 197, 3) := by decide +kernel
theorem dX7_remove_7 : decode cX7_remove 7 = .ok (.ifCond .ne 6, 3) := by decide +kernel
theorem dX7_remove_10 : decode cX7_remove 10 = .ok (.ldc 201, 2) := by decide +kernel
theorem dX7_remove_12 : decode cX7_remove 12 = .ok (.ireturn, 1) := by decide +kernel
theorem dX7_remove_13 : decode cX7_remove 13 = .ok (.aload_n 0, 1) := by decide +kernel
theorem dX7_remove_14 : decode cX7_remove 14 = .ok (.getfield 26, 3) := by decide +kernel
theorem dX7_remove_17 : decode cX7_remove 17 = .ok (.iload_n 1, 1) := by decide +kernel
theorem dX7_remove_18 : decode cX7_remove 18 = .ok (.invokevirtual 156, 3) := by decide +kernel
theorem dX7_remove_21 : decode cX7_remove 21 = .ok (.ifCond .ne 6, 3) := by decide +kernel
theorem dX7_remove_24 : decode cX7_remove 24 = .ok (.ldc 65, 2) := by decide +kernel
theorem dX7_remove_26 : decode cX7_remove 26 = .ok (.ireturn, 1) := by decide +kernel
theorem dX7_remove_27 : decode cX7_remove 27 = .ok (.aload_n 0, 1) := by decide +kernel
theorem dX7_remove_28 : decode cX7_remove 28 = .ok (.getfield 26, 3) := by decide +kernel
theorem dX7_remove_31 : decode cX7_remove 31 = .ok (.getfield 163, 3) := by decide +kernel
theorem dX7_remove_34 : decode cX7_remove 34 = .ok (.iload_n 1, 1) := by decide +kernel
theorem dX7_remove_35 : decode cX7_remove 35 = .ok (.aaload, 1) := by decide +kernel
theorem dX7_remove_36 : decode cX7_remove 36 = .ok (.getfield 239, 3) := by decide +kernel
theorem dX7_remove_39 : decode cX7_remove 39 = .ok (.iconst 4, 1) := by decide +kernel
theorem dX7_remove_40 : decode cX7_remove 40 = .ok (.invokestatic 242, 3) := by decide +kernel
theorem dX7_remove_43 : decode cX7_remove 43 = .ok (.ifCond .ne 38, 3) := by decide +kernel
theorem dX7_remove_46 : decode cX7_remove 46 = .ok (.aload_n 0, 1) := by decide +kernel
theorem dX7_remove_47 : decode cX7_remove 47 = .ok (.getfield 26, 3) := by decide +kernel
theorem dX7_remove_50 : decode cX7_remove 50 = .ok (.invokevirtual 218, 3) := by decide +kernel
theorem dX7_remove_53 : decode cX7_remove 53 = .ok (.ifCond .eq 10, 3) := by decide +kernel
theorem dX7_remove_56 : decode cX7_remove 56 = .ok (.aload_n 0, 1) := by decide +kernel
theorem dX7_remove_57 : decode cX7_remove 57 = .ok (.bipush 6, 2) := by decide +kernel
theorem dX7_remove_59 : decode cX7_remove 59 = .ok (.invokevirtual 66, 3) := by decide +kernel
theorem dX7_remove_62 : decode cX7_remove 62 = .ok (.ireturn, 1) := by decide +kernel
theorem dX7_remove_63 : decode cX7_remove 63 = .ok (.aload_n 0, 1) := by decide +kernel
theorem dX7_remove_64 : decode cX7_remove 64 = .ok (.getfield 46, 3) := by decide +kernel
theorem dX7_remove_67 : decode cX7_remove 67 = .ok (.iload_n 1, 1) := by decide +kernel
theorem dX7_remove_68 : decode cX7_remove 68 = .ok (.invokevirtual 246, 3) := by decide +kernel
theorem dX7_remove_71 : decode cX7_remove 71 = .ok (.ifCond .ne 10, 3) := by decide +kernel
theorem dX7_remove_74 : decode cX7_remove 74 = .ok (.aload_n 0, 1) := by decide +kernel
theorem dX7_remove_75 : decode cX7_remove 75 = .ok (.ldc 224, 2) := by decide +kernel
theorem dX7_remove_77 : decode cX7_remove 77 = .ok (.invokevirtual 74, 3) := by decide +kernel
theorem dX7_remove_80 : decode cX7_remove 80 = .ok (.ireturn, 1) := by decide +kernel
theorem dX7_remove_81 : decode cX7_remove 81 = .ok (.aload_n 0, 1) := by decide +kernel
theorem dX7_remove_82 : decode cX7_remove 82 = .ok (.getfield 37, 3) := by decide +kernel
theorem dX7_remove_85 : decode cX7_remove 85 = .ok (.aload_n 0, 1) := by decide +kernel
theorem dX7_remove_86 : decode cX7_remove 86 = .ok (.getfield 26, 3) := by decide +kernel
theorem dX7_remove_89 : decode cX7_remove 89 = .ok (.invokevirtual 225, 3) := by decide +kernel
theorem dX7_remove_92 : decode cX7_remove 92 = .ok (.aload_n 0, 1) := by decide +kernel
theorem dX7_remove_93 : decode cX7_remove 93 = .ok (.getfield 26, 3) := by decide +kernel
theorem dX7_remove_96 : decode cX7_remove 96 = .ok (.dup, 1) := by decide +kernel
theorem dX7_remove_97 : decode cX7_remove 97 = .ok (.getfield 249, 3) := by decide +kernel
theorem dX7_remove_100 : decode cX7_remove 100 = .ok (.iconst 1, 1) := by decide +kernel
theorem dX7_remove_101 : decode cX7_remove 101 = .ok (.iload_n 1, 1) := by decide +kernel
theorem dX7_remove_102 : decode cX7_remove 102 = .ok (.ishl, 1) := by decide +kernel
theorem dX7_remove_103 : decode cX7_remove 103 = .ok (.iconst (-1), 1) := by decide +kernel
theorem dX7_remove_104 : decode cX7_remove 104 = .ok (.ixor, 1) := by decide +kernel
theorem dX7_remove_105 : decode cX7_remove 105 = .ok (.iand, 1) := by decide +kernel
theorem dX7_remove_106 : decode cX7_remove 106 = .ok (.putfield 249, 3) := by decide +kernel
theorem dX7_remove_109 : decode cX7_remove 109 = .ok (.aload_n 0, 1) := by decide +kernel
theorem dX7_remove_110 : decode cX7_remove 110 = .ok (.aload_n 0, 1) := by decide +kernel
theorem dX7_remove_111 : decode cX7_remove 111 = .ok (.getfield 26, 3) := by decide +kernel
theorem dX7_remove_114 : decode cX7_remove 114 = .ok (.getfield 249, 3) := by decide +kernel
theorem dX7_remove_117 : decode cX7_remove 117 = .ok (.invokestatic 252, 3) := by decide +kernel
theorem dX7_remove_120 : decode cX7_remove 120 = .ok (.invokevirtual 74, 3) := by decide +kernel
theorem dX7_remove_123 : decode cX7_remove 123 = .ok (.ireturn, 1) := by decide +kernel
theorem dX7_undo_0 : decode cX7_undo 0 = .ok (.aload_n 0, 1) := by decide +kernel
theorem dX7_undo_1 : decode cX7_undo 1 = .ok (.getfield 37, 3) := by decide +kernel
theorem dX7_undo_4 : decode cX7_undo 4 = .ok (.getfield 257, 3) := by decide +kernel
theorem dX7_undo_7 : decode cX7_undo 7 = .ok (.ifCond .ne 6, 3) := by decide +kernel
theorem dX7_undo_10 : decode cX7_undo 10 = .ok (.ldc 201, 2) := by decide +kernel
theorem dX7_undo_12 : decode cX7_undo 12 = .ok (.ireturn, 1) := by decide +kernel
theorem dX7_undo_13 : decode cX7_undo 13 = .ok (.aload_n 0, 1) := by decide +kernel
theorem dX7_undo_14 : decode cX7_undo 14 = .ok (.getfield 37, 3) := by decide +kernel
theorem dX7_undo_17 : decode cX7_undo 17 = .ok (.aload_n 0, 1) := by decide +kernel
theorem dX7_undo_18 : decode cX7_undo 18 = .ok (.getfield 26, 3) := by decide +kernel
theorem dX7_undo_21 : decode cX7_undo 21 = .ok (.invokevirtual 260, 3) := by decide +kernel
theorem dX7_undo_24 : decode cX7_undo 24 = .ok (.ireturn, 1) := by decide +kernel
theorem dX7_degree_0 : decode cX7_degree 0 = .ok (.aload_n 0, 1) := by decide +kernel
theorem dX7_degree_1 : decode cX7_degree 1 = .ok (.getfield 26, 3) := by decide +kernel
theorem dX7_degree_4 : decode cX7_degree 4 = .ok (.iload_n 1, 1) := by decide +kernel
theorem dX7_degree_5 : decode cX7_degree 5 = .ok (.invokevirtual 156, 3) := by decide +kernel
theorem dX7_degree_8 : decode cX7_degree 8 = .ok (.ifCond .eq 18, 3) := by decide +kernel
theorem dX7_degree_11 : decode cX7_degree 11 = .ok (.aload_n 0, 1) := by decide +kernel
theorem dX7_degree_12 : decode cX7_degree 12 = .ok (.getfield 26, 3) := by decide +kernel
theorem dX7_degree_15 : decode cX7_degree 15 = .ok (.getfield 163, 3) := by decide +kernel
theorem dX7_degree_18 : decode cX7_degree 18 = .ok (.iload_n 1, 1) := by decide +kernel
theorem dX7_degree_19 : decode cX7_degree 19 = .ok (.aaload, 1) := by decide +kernel
theorem dX7_degree_20 : decode cX7_degree 20 = .ok (.getfield 264, 3) := by decide +kernel
theorem dX7_degree_23 : decode cX7_degree 23 = .ok (.goto 6, 3) := by decide +kernel
theorem dX7_degree_26 : decode cX7_degree 26 = .ok (.ldc2_w 268, 3) := by decide +kernel
theorem dX7_degree_29 : decode cX7_degree 29 = .ok (.lreturn, 1) := by decide +kernel
theorem dX7_coefficient_0 : decode cX7_coefficient 0 = .ok (.aload_n 0, 1) := by decide +kernel
theorem dX7_coefficient_1 : decode cX7_coefficient 1 = .ok (.getfield 26, 3) := by decide +kernel
theorem dX7_coefficient_4 : decode cX7_coefficient 4 = .ok (.iload_n 1, 1) := by decide +kernel
theorem dX7_coefficient_5 : decode cX7_coefficient 5 = .ok (.invokevirtual 156, 3) := by decide +kernel
theorem dX7_coefficient_8 : decode cX7_coefficient 8 = .ok (.ifCond .eq 27, 3) := by decide +kernel
theorem dX7_coefficient_11 : decode cX7_coefficient 11 = .ok (.iload_n 2, 1) := by decide +kernel
theorem dX7_coefficient_12 : decode cX7_coefficient 12 = .ok (.invokestatic 182, 3) := by decide +kernel
theorem dX7_coefficient_15 : decode cX7_coefficient 15 = .ok (.ifCond .eq 20, 3) := by decide +kernel
theorem dX7_coefficient_18 : decode cX7_coefficient 18 = .ok (.aload_n 0, 1) := by decide +kernel
theorem dX7_coefficient_19 : decode cX7_coefficient 19 = .ok (.getfield 26, 3) := by decide +kernel
theorem dX7_coefficient_22 : decode cX7_coefficient 22 = .ok (.getfield 163, 3) := by decide +kernel
theorem dX7_coefficient_25 : decode cX7_coefficient 25 = .ok (.iload_n 1, 1) := by decide +kernel
theorem dX7_coefficient_26 : decode cX7_coefficient 26 = .ok (.aaload, 1) := by decide +kernel
theorem dX7_coefficient_27 : decode cX7_coefficient 27 = .ok (.getfield 185, 3) := by decide +kernel
theorem dX7_coefficient_30 : decode cX7_coefficient 30 = .ok (.iload_n 2, 1) := by decide +kernel
theorem dX7_coefficient_31 : decode cX7_coefficient 31 = .ok (.laload, 1) := by decide +kernel
theorem dX7_coefficient_32 : decode cX7_coefficient 32 = .ok (.goto 6, 3) := by decide +kernel
theorem dX7_coefficient_35 : decode cX7_coefficient 35 = .ok (.ldc2_w 268, 3) := by decide +kernel
theorem dX7_coefficient_38 : decode cX7_coefficient 38 = .ok (.lreturn, 1) := by decide +kernel
theorem dX7_sum_0 : decode cX7_sum 0 = .ok (.aload_n 0, 1) := by decide +kernel
theorem dX7_sum_1 : decode cX7_sum 1 = .ok (.getfield 26, 3) := by decide +kernel
theorem dX7_sum_4 : decode cX7_sum 4 = .ok (.iload_n 1, 1) := by decide +kernel
theorem dX7_sum_5 : decode cX7_sum 5 = .ok (.invokevirtual 156, 3) := by decide +kernel
theorem dX7_sum_8 : decode cX7_sum 8 = .ok (.ifCond .ne 7, 3) := by decide +kernel
theorem dX7_sum_11 : decode cX7_sum 11 = .ok (.ldc2_w 268, 3) := by decide +kernel
theorem dX7_sum_14 : decode cX7_sum 14 = .ok (.lreturn, 1) := by decide +kernel
theorem dX7_sum_15 : decode cX7_sum 15 = .ok (.aload_n 0, 1) := by decide +kernel
theorem dX7_sum_16 : decode cX7_sum 16 = .ok (.getfield 26, 3) := by decide +kernel
theorem dX7_sum_19 : decode cX7_sum 19 = .ok (.getfield 163, 3) := by decide +kernel
theorem dX7_sum_22 : decode cX7_sum 22 = .ok (.iload_n 1, 1) := by decide +kernel
theorem dX7_sum_23 : decode cX7_sum 23 = .ok (.aaload, 1) := by decide +kernel
theorem dX7_sum_24 : decode cX7_sum 24 = .ok (.invokevirtual 270, 3) := by decide +kernel
theorem dX7_sum_27 : decode cX7_sum 27 = .ok (.ifCond .eq 11, 3) := by decide +kernel
theorem dX7_sum_30 : decode cX7_sum 30 = .ok (.aload_n 0, 1) := by decide +kernel
theorem dX7_sum_31 : decode cX7_sum 31 = .ok (.bipush 6, 2) := by decide +kernel
theorem dX7_sum_33 : decode cX7_sum 33 = .ok (.invokevirtual 66, 3) := by decide +kernel
theorem dX7_sum_36 : decode cX7_sum 36 = .ok (.i2l, 1) := by decide +kernel
theorem dX7_sum_37 : decode cX7_sum 37 = .ok (.lreturn, 1) := by decide +kernel
theorem dX7_sum_38 : decode cX7_sum 38 = .ok (.aload_n 0, 1) := by decide +kernel
theorem dX7_sum_39 : decode cX7_sum 39 = .ok (.iconst 0, 1) := by decide +kernel
theorem dX7_sum_40 : decode cX7_sum 40 = .ok (.putfield 57, 3) := by decide +kernel
theorem dX7_sum_43 : decode cX7_sum 43 = .ok (.aload_n 0, 1) := by decide +kernel
theorem dX7_sum_44 : decode cX7_sum 44 = .ok (.getfield 26, 3) := by decide +kernel
theorem dX7_sum_47 : decode cX7_sum 47 = .ok (.getfield 163, 3) := by decide +kernel
theorem dX7_sum_50 : decode cX7_sum 50 = .ok (.iload_n 1, 1) := by decide +kernel
theorem dX7_sum_51 : decode cX7_sum 51 = .ok (.aaload, 1) := by decide +kernel
theorem dX7_sum_52 : decode cX7_sum 52 = .ok (.invokevirtual 271, 3) := by decide +kernel
theorem dX7_sum_55 : decode cX7_sum 55 = .ok (.lreturn, 1) := by decide +kernel
theorem dX7_slack_0 : decode cX7_slack 0 = .ok (.aload_n 0, 1) := by decide +kernel
theorem dX7_slack_1 : decode cX7_slack 1 = .ok (.getfield 26, 3) := by decide +kernel
theorem dX7_slack_4 : decode cX7_slack 4 = .ok (.iload_n 1, 1) := by decide +kernel
theorem dX7_slack_5 : decode cX7_slack 5 = .ok (.invokevirtual 156, 3) := by decide +kernel
theorem dX7_slack_8 : decode cX7_slack 8 = .ok (.ifCond .eq 17, 3) := by decide +kernel
theorem dX7_slack_11 : decode cX7_slack 11 = .ok (.iload_n 2, 1) := by decide +kernel
theorem dX7_slack_12 : decode cX7_slack 12 = .ok (.invokestatic 208, 3) := by decide +kernel
theorem dX7_slack_15 : decode cX7_slack 15 = .ok (.ifCond .eq 10, 3) := by decide +kernel
theorem dX7_slack_18 : decode cX7_slack 18 = .ok (.iload_n 3, 1) := by decide +kernel
theorem dX7_slack_19 : decode cX7_slack 19 = .ok (.invokestatic 208, 3) := by decide +kernel
theorem dX7_slack_22 : decode cX7_slack 22 = .ok (.ifCond .ne 7, 3) := by decide +kernel
theorem dX7_slack_25 : decode cX7_slack 25 = .ok (.ldc2_w 268, 3) := by decide +kernel
theorem dX7_slack_28 : decode cX7_slack 28 = .ok (.lreturn, 1) := by decide +kernel
theorem dX7_slack_29 : decode cX7_slack 29 = .ok (.aload_n 0, 1) := by decide +kernel
theorem dX7_slack_30 : decode cX7_slack 30 = .ok (.getfield 26, 3) := by decide +kernel
theorem dX7_slack_33 : decode cX7_slack 33 = .ok (.getfield 163, 3) := by decide +kernel
theorem dX7_slack_36 : decode cX7_slack 36 = .ok (.iload_n 1, 1) := by decide +kernel
theorem dX7_slack_37 : decode cX7_slack 37 = .ok (.aaload, 1) := by decide +kernel
theorem dX7_slack_38 : decode cX7_slack 38 = .ok (.invokevirtual 270, 3) := by decide +kernel
theorem dX7_slack_41 : decode cX7_slack 41 = .ok (.ifCond .eq 11, 3) := by decide +kernel
theorem dX7_slack_44 : decode cX7_slack 44 = .ok (.aload_n 0, 1) := by decide +kernel
theorem dX7_slack_45 : decode cX7_slack 45 = .ok (.bipush 6, 2) := by decide +kernel
theorem dX7_slack_47 : decode cX7_slack 47 = .ok (.invokevirtual 66, 3) := by decide +kernel
theorem dX7_slack_50 : decode cX7_slack 50 = .ok (.i2l, 1) := by decide +kernel
theorem dX7_slack_51 : decode cX7_slack 51 = .ok (.lreturn, 1) := by decide +kernel
theorem dX7_slack_52 : decode cX7_slack 52 = .ok (.aload_n 0, 1) := by decide +kernel
theorem dX7_slack_53 : decode cX7_slack 53 = .ok (.iconst 0, 1) := by decide +kernel
theorem dX7_slack_54 : decode cX7_slack 54 = .ok (.putfield 57, 3) := by decide +kernel
theorem dX7_slack_57 : decode cX7_slack 57 = .ok (.aload_n 0, 1) := by decide +kernel
theorem dX7_slack_58 : decode cX7_slack 58 = .ok (.getfield 26, 3) := by decide +kernel
theorem dX7_slack_61 : decode cX7_slack 61 = .ok (.getfield 163, 3) := by decide +kernel
theorem dX7_slack_64 : decode cX7_slack 64 = .ok (.iload_n 1, 1) := by decide +kernel
theorem dX7_slack_65 : decode cX7_slack 65 = .ok (.aaload, 1) := by decide +kernel
theorem dX7_slack_66 : decode cX7_slack 66 = .ok (.iload_n 2, 1) := by decide +kernel
theorem dX7_slack_67 : decode cX7_slack 67 = .ok (.iload_n 3, 1) := by decide +kernel
theorem dX7_slack_68 : decode cX7_slack 68 = .ok (.invokevirtual 275, 3) := by decide +kernel
theorem dX7_slack_71 : decode cX7_slack 71 = .ok (.lreturn, 1) := by decide +kernel
theorem dX7_forced_0 : decode cX7_forced 0 = .ok (.aload_n 0, 1) := by decide +kernel
theorem dX7_forced_1 : decode cX7_forced 1 = .ok (.getfield 26, 3) := by decide +kernel
theorem dX7_forced_4 : decode cX7_forced 4 = .ok (.getfield 197, 3) := by decide +kernel
theorem dX7_forced_7 : decode cX7_forced 7 = .ok (.ifCond .ne 6, 3) := by decide +kernel
theorem dX7_forced_10 : decode cX7_forced 10 = .ok (.ldc 201, 2) := by decide +kernel
theorem dX7_forced_12 : decode cX7_forced 12 = .ok (.ireturn, 1) := by decide +kernel
theorem dX7_forced_13 : decode cX7_forced 13 = .ok (.iload_n 1, 1) := by decide +kernel
theorem dX7_forced_14 : decode cX7_forced 14 = .ok (.invokestatic 208, 3) := by decide +kernel
theorem dX7_forced_17 : decode cX7_forced 17 = .ok (.ifCond .eq 19, 3) := by decide +kernel
theorem dX7_forced_20 : decode cX7_forced 20 = .ok (.iload_n 2, 1) := by decide +kernel
theorem dX7_forced_21 : decode cX7_forced 21 = .ok (.invokestatic 208, 3) := by decide +kernel
theorem dX7_forced_24 : decode cX7_forced 24 = .ok (.ifCond .eq 12, 3) := by decide +kernel
theorem dX7_forced_27 : decode cX7_forced 27 = .ok (.iload_n 3, 1) := by decide +kernel
theorem dX7_forced_28 : decode cX7_forced 28 = .ok (.ifCond .lt 8, 3) := by decide +kernel
theorem dX7_forced_31 : decode cX7_forced 31 = .ok (.iload_n 3, 1) := by decide +kernel
theorem dX7_forced_32 : decode cX7_forced 32 = .ok (.iconst 2, 1) := by decide +kernel
theorem dX7_forced_33 : decode cX7_forced 33 = .ok (.if_icmp .le 6, 3) := by decide +kernel
theorem dX7_forced_36 : decode cX7_forced 36 = .ok (.ldc 65, 2) := by decide +kernel
theorem dX7_forced_38 : decode cX7_forced 38 = .ok (.ireturn, 1) := by decide +kernel
theorem dX7_forced_39 : decode cX7_forced 39 = .ok (.aload_n 0, 1) := by decide +kernel
theorem dX7_forced_40 : decode cX7_forced 40 = .ok (.getfield 26, 3) := by decide +kernel
theorem dX7_forced_43 : decode cX7_forced 43 = .ok (.invokevirtual 218, 3) := by decide +kernel
theorem dX7_forced_46 : decode cX7_forced 46 = .ok (.ifCond .eq 10, 3) := by decide +kernel
theorem dX7_forced_49 : decode cX7_forced 49 = .ok (.aload_n 0, 1) := by decide +kernel
theorem dX7_forced_50 : decode cX7_forced 50 = .ok (.bipush 6, 2) := by decide +kernel
theorem dX7_forced_52 : decode cX7_forced 52 = .ok (.invokevirtual 66, 3) := by decide +kernel
theorem dX7_forced_55 : decode cX7_forced 55 = .ok (.ireturn, 1) := by decide +kernel
theorem dX7_forced_56 : decode cX7_forced 56 = .ok (.aload_n 0, 1) := by decide +kernel
theorem dX7_forced_57 : decode cX7_forced 57 = .ok (.getfield 46, 3) := by decide +kernel
theorem dX7_forced_60 : decode cX7_forced 60 = .ok (.iload_n 1, 1) := by decide +kernel
theorem dX7_forced_61 : decode cX7_forced 61 = .ok (.iload_n 2, 1) := by decide +kernel
theorem dX7_forced_62 : decode cX7_forced 62 = .ok (.invokevirtual 279, 3) := by decide +kernel
theorem dX7_forced_65 : decode cX7_forced 65 = .ok (.istore 4, 2) := by decide +kernel
theorem dX7_forced_67 : decode cX7_forced 67 = .ok (.iload_n 3, 1) := by decide +kernel
theorem dX7_forced_68 : decode cX7_forced 68 = .ok (.ifCond .ne 18, 3) := by decide +kernel
theorem dX7_forced_71 : decode cX7_forced 71 = .ok (.aload_n 0, 1) := by decide +kernel
theorem dX7_forced_72 : decode cX7_forced 72 = .ok (.iload 4, 2) := by decide +kernel
theorem dX7_forced_74 : decode cX7_forced 74 = .ok (.ifCond .eq 7, 3) := by decide +kernel
theorem dX7_forced_77 : decode cX7_forced 77 = .ok (.iconst 1, 1) := by decide +kernel
theorem dX7_forced_78 : decode cX7_forced 78 = .ok (.goto 4, 3) := by decide +kernel
theorem dX7_forced_81 : decode cX7_forced 81 = .ok (.iconst 0, 1) := by decide +kernel
theorem dX7_forced_82 : decode cX7_forced 82 = .ok (.invokevirtual 74, 3) := by decide +kernel
theorem dX7_forced_85 : decode cX7_forced 85 = .ok (.ireturn, 1) := by decide +kernel
theorem dX7_forced_86 : decode cX7_forced 86 = .ok (.iload 4, 2) := by decide +kernel
theorem dX7_forced_88 : decode cX7_forced 88 = .ok (.ifCond .eq 10, 3) := by decide +kernel
theorem dX7_forced_91 : decode cX7_forced 91 = .ok (.aload_n 0, 1) := by decide +kernel
theorem dX7_forced_92 : decode cX7_forced 92 = .ok (.ldc 224, 2) := by decide +kernel
theorem dX7_forced_94 : decode cX7_forced 94 = .ok (.invokevirtual 74, 3) := by decide +kernel
theorem dX7_forced_97 : decode cX7_forced 97 = .ok (.ireturn, 1) := by decide +kernel
theorem dX7_forced_98 : decode cX7_forced 98 = .ok (.aload_n 0, 1) := by decide +kernel
theorem dX7_forced_99 : decode cX7_forced 99 = .ok (.iload_n 3, 1) := by decide +kernel
theorem dX7_forced_100 : decode cX7_forced 100 = .ok (.iconst 1, 1) := by decide +kernel
theorem dX7_forced_101 : decode cX7_forced 101 = .ok (.if_icmp .ne 13, 3) := by decide +kernel
theorem dX7_forced_104 : decode cX7_forced 104 = .ok (.aload_n 0, 1) := by decide +kernel
theorem dX7_forced_105 : decode cX7_forced 105 = .ok (.getfield 46, 3) := by decide +kernel
theorem dX7_forced_108 : decode cX7_forced 108 = .ok (.getfield 282, 3) := by decide +kernel
theorem dX7_forced_111 : decode cX7_forced 111 = .ok (.goto 10, 3) := by decide +kernel
theorem dX7_forced_114 : decode cX7_forced 114 = .ok (.aload_n 0, 1) := by decide +kernel
theorem dX7_forced_115 : decode cX7_forced 115 = .ok (.getfield 46, 3) := by decide +kernel
theorem dX7_forced_118 : decode cX7_forced 118 = .ok (.getfield 285, 3) := by decide +kernel
theorem dX7_forced_121 : decode cX7_forced 121 = .ok (.invokevirtual 74, 3) := by decide +kernel
theorem dX7_forced_124 : decode cX7_forced 124 = .ok (.ireturn, 1) := by decide +kernel
theorem dX7_solutions_0 : decode cX7_solutions 0 = .ok (.aload_n 0, 1) := by decide +kernel
theorem dX7_solutions_1 : decode cX7_solutions 1 = .ok (.getfield 26, 3) := by decide +kernel
theorem dX7_solutions_4 : decode cX7_solutions 4 = .ok (.getfield 197, 3) := by decide +kernel
theorem dX7_solutions_7 : decode cX7_solutions 7 = .ok (.ifCond .ne 6, 3) := by decide +kernel
theorem dX7_solutions_10 : decode cX7_solutions 10 = .ok (.ldc 201, 2) := by decide +kernel
theorem dX7_solutions_12 : decode cX7_solutions 12 = .ok (.ireturn, 1) := by decide +kernel
theorem dX7_solutions_13 : decode cX7_solutions 13 = .ok (.iload_n 1, 1) := by decide +kernel
theorem dX7_solutions_14 : decode cX7_solutions 14 = .ok (.ifCond .lt 8, 3) := by decide +kernel
theorem dX7_solutions_17 : decode cX7_solutions 17 = .ok (.iload_n 1, 1) := by decide +kernel
theorem dX7_solutions_18 : decode cX7_solutions 18 = .ok (.iconst 2, 1) := by decide +kernel
theorem dX7_solutions_19 : decode cX7_solutions 19 = .ok (.if_icmp .le 6, 3) := by decide +kernel
theorem dX7_solutions_22 : decode cX7_solutions 22 = .ok (.ldc 65, 2) := by decide +kernel
theorem dX7_solutions_24 : decode cX7_solutions 24 = .ok (.ireturn, 1) := by decide +kernel
theorem dX7_solutions_25 : decode cX7_solutions 25 = .ok (.aload_n 0, 1) := by decide +kernel
theorem dX7_solutions_26 : decode cX7_solutions 26 = .ok (.getfield 26, 3) := by decide +kernel
theorem dX7_solutions_29 : decode cX7_solutions 29 = .ok (.invokevirtual 218, 3) := by decide +kernel
theorem dX7_solutions_32 : decode cX7_solutions 32 = .ok (.ifCond .eq 10, 3) := by decide +kernel
theorem dX7_solutions_35 : decode cX7_solutions 35 = .ok (.aload_n 0, 1) := by decide +kernel
theorem dX7_solutions_36 : decode cX7_solutions 36 = .ok (.bipush 6, 2) := by decide +kernel
theorem dX7_solutions_38 : decode cX7_solutions 38 = .ok (.invokevirtual 66, 3) := by decide +kernel
theorem dX7_solutions_41 : decode cX7_solutions 41 = .ok (.ireturn, 1) := by decide +kernel
theorem dX7_solutions_42 : decode cX7_solutions 42 = .ok (.aload_n 0, 1) := by decide +kernel
theorem dX7_solutions_43 : decode cX7_solutions 43 = .ok (.iload_n 1, 1) := by decide +kernel
theorem dX7_solutions_44 : decode cX7_solutions 44 = .ok (.ifCond .ne 13, 3) := by decide +kernel
theorem dX7_solutions_47 : decode cX7_solutions 47 = .ok (.aload_n 0, 1) := by decide +kernel
theorem dX7_solutions_48 : decode cX7_solutions 48 = .ok (.getfield 26, 3) := by decide +kernel
theorem dX7_solutions_51 : decode cX7_solutions 51 = .ok (.invokevirtual 288, 3) := by decide +kernel
theorem dX7_solutions_54 : decode cX7_solutions 54 = .ok (.goto 8, 3) := by decide +kernel
theorem dX7_solutions_57 : decode cX7_solutions 57 = .ok (.aload_n 0, 1) := by decide +kernel
theorem dX7_solutions_58 : decode cX7_solutions 58 = .ok (.iload_n 1, 1) := by decide +kernel
theorem dX7_solutions_59 : decode cX7_solutions 59 = .ok (.invokevirtual 291, 3) := by decide +kernel
theorem dX7_solutions_62 : decode cX7_solutions 62 = .ok (.invokevirtual 74, 3) := by decide +kernel
theorem dX7_solutions_65 : decode cX7_solutions 65 = .ok (.ireturn, 1) := by decide +kernel
theorem dX7_holds_0 : decode cX7_holds 0 = .ok (.aload_n 0, 1) := by decide +kernel
theorem dX7_holds_1 : decode cX7_holds 1 = .ok (.getfield 26, 3) := by decide +kernel
theorem dX7_holds_4 : decode cX7_holds 4 = .ok (.iload_n 1, 1) := by decide +kernel
theorem dX7_holds_5 : decode cX7_holds 5 = .ok (.invokevirtual 156, 3) := by decide +kernel
theorem dX7_holds_8 : decode cX7_holds 8 = .ok (.ifCond .ne 6, 3) := by decide +kernel
theorem dX7_holds_11 : decode cX7_holds 11 = .ok (.ldc 65, 2) := by decide +kernel
theorem dX7_holds_13 : decode cX7_holds 13 = .ok (.ireturn, 1) := by decide +kernel
theorem dX7_holds_14 : decode cX7_holds 14 = .ok (.aload_n 0, 1) := by decide +kernel
theorem dX7_holds_15 : decode cX7_holds 15 = .ok (.getfield 26, 3) := by decide +kernel
theorem dX7_holds_18 : decode cX7_holds 18 = .ok (.getfield 163, 3) := by decide +kernel
theorem dX7_holds_21 : decode cX7_holds 21 = .ok (.iload_n 1, 1) := by decide +kernel
theorem dX7_holds_22 : decode cX7_holds 22 = .ok (.aaload, 1) := by decide +kernel
theorem dX7_holds_23 : decode cX7_holds 23 = .ok (.invokevirtual 270, 3) := by decide +kernel
theorem dX7_holds_26 : decode cX7_holds 26 = .ok (.ifCond .eq 10, 3) := by decide +kernel
theorem dX7_holds_29 : decode cX7_holds 29 = .ok (.aload_n 0, 1) := by decide +kernel
theorem dX7_holds_30 : decode cX7_holds 30 = .ok (.bipush 6, 2) := by decide +kernel
theorem dX7_holds_32 : decode cX7_holds 32 = .ok (.invokevirtual 66, 3) := by decide +kernel
theorem dX7_holds_35 : decode cX7_holds 35 = .ok (.ireturn, 1) := by decide +kernel
theorem dX7_holds_36 : decode cX7_holds 36 = .ok (.iconst 0, 1) := by decide +kernel
theorem dX7_holds_37 : decode cX7_holds 37 = .ok (.istore_n 2, 1) := by decide +kernel
theorem dX7_holds_38 : decode cX7_holds 38 = .ok (.iconst 0, 1) := by decide +kernel
theorem dX7_holds_39 : decode cX7_holds 39 = .ok (.istore_n 3, 1) := by decide +kernel
theorem dX7_holds_40 : decode cX7_holds 40 = .ok (.iload_n 3, 1) := by decide +kernel
theorem dX7_holds_41 : decode cX7_holds 41 = .ok (.sipush 256, 3) := by decide +kernel
theorem dX7_holds_44 : decode cX7_holds 44 = .ok (.if_icmp .ge 28, 3) := by decide +kernel
theorem dX7_holds_47 : decode cX7_holds 47 = .ok (.aload_n 0, 1) := by decide +kernel
theorem dX7_holds_48 : decode cX7_holds 48 = .ok (.getfield 26, 3) := by decide +kernel
theorem dX7_holds_51 : decode cX7_holds 51 = .ok (.getfield 163, 3) := by decide +kernel
theorem dX7_holds_54 : decode cX7_holds 54 = .ok (.iload_n 1, 1) := by decide +kernel
theorem dX7_holds_55 : decode cX7_holds 55 = .ok (.aaload, 1) := by decide +kernel
theorem dX7_holds_56 : decode cX7_holds 56 = .ok (.iload_n 3, 1) := by decide +kernel
theorem dX7_holds_57 : decode cX7_holds 57 = .ok (.invokevirtual 294, 3) := by decide +kernel
theorem dX7_holds_60 : decode cX7_holds 60 = .ok (.ifCond .eq 6, 3) := by decide +kernel
theorem dX7_holds_63 : decode cX7_holds 63 = .ok (.iinc 2 1, 3) := by decide +kernel
theorem dX7_holds_66 : decode cX7_holds 66 = .ok (.iinc 3 1, 3) := by decide +kernel
theorem dX7_holds_69 : decode cX7_holds 69 = .ok (.goto (-29), 3) := by decide +kernel
theorem dX7_holds_72 : decode cX7_holds 72 = .ok (.aload_n 0, 1) := by decide +kernel
theorem dX7_holds_73 : decode cX7_holds 73 = .ok (.iload_n 2, 1) := by decide +kernel
theorem dX7_holds_74 : decode cX7_holds 74 = .ok (.invokevirtual 74, 3) := by decide +kernel
theorem dX7_holds_77 : decode cX7_holds 77 = .ok (.ireturn, 1) := by decide +kernel
theorem dX7_follows_0 : decode cX7_follows 0 = .ok (.aload_n 0, 1) := by decide +kernel
theorem dX7_follows_1 : decode cX7_follows 1 = .ok (.getfield 26, 3) := by decide +kernel
theorem dX7_follows_4 : decode cX7_follows 4 = .ok (.iload_n 1, 1) := by decide +kernel
theorem dX7_follows_5 : decode cX7_follows 5 = .ok (.invokevirtual 156, 3) := by decide +kernel
theorem dX7_follows_8 : decode cX7_follows 8 = .ok (.ifCond .ne 6, 3) := by decide +kernel
theorem dX7_follows_11 : decode cX7_follows 11 = .ok (.ldc 65, 2) := by decide +kernel
theorem dX7_follows_13 : decode cX7_follows 13 = .ok (.ireturn, 1) := by decide +kernel
theorem dX7_follows_14 : decode cX7_follows 14 = .ok (.aload_n 0, 1) := by decide +kernel
theorem dX7_follows_15 : decode cX7_follows 15 = .ok (.getfield 26, 3) := by decide +kernel
theorem dX7_follows_18 : decode cX7_follows 18 = .ok (.invokevirtual 218, 3) := by decide +kernel
theorem dX7_follows_21 : decode cX7_follows 21 = .ok (.ifCond .eq 10, 3) := by decide +kernel
theorem dX7_follows_24 : decode cX7_follows 24 = .ok (.aload_n 0, 1) := by decide +kernel
theorem dX7_follows_25 : decode cX7_follows 25 = .ok (.bipush 6, 2) := by decide +kernel
theorem dX7_follows_27 : decode cX7_follows 27 = .ok (.invokevirtual 66, 3) := by decide +kernel
theorem dX7_follows_30 : decode cX7_follows 30 = .ok (.ireturn, 1) := by decide +kernel
theorem dX7_follows_31 : decode cX7_follows 31 = .ok (.aload_n 0, 1) := by decide +kernel
theorem dX7_follows_32 : decode cX7_follows 32 = .ok (.aload_n 0, 1) := by decide +kernel
theorem dX7_follows_33 : decode cX7_follows 33 = .ok (.getfield 46, 3) := by decide +kernel
theorem dX7_follows_36 : decode cX7_follows 36 = .ok (.iload_n 1, 1) := by decide +kernel
theorem dX7_follows_37 : decode cX7_follows 37 = .ok (.invokevirtual 246, 3) := by decide +kernel
theorem dX7_follows_40 : decode cX7_follows 40 = .ok (.ifCond .eq 7, 3) := by decide +kernel
theorem dX7_follows_43 : decode cX7_follows 43 = .ok (.iconst 1, 1) := by decide +kernel
theorem dX7_follows_44 : decode cX7_follows 44 = .ok (.goto 4, 3) := by decide +kernel
theorem dX7_follows_47 : decode cX7_follows 47 = .ok (.iconst 0, 1) := by decide +kernel
theorem dX7_follows_48 : decode cX7_follows 48 = .ok (.invokevirtual 74, 3) := by decide +kernel
theorem dX7_follows_51 : decode cX7_follows 51 = .ok (.ireturn, 1) := by decide +kernel
theorem dX7_verdict_0 : decode cX7_verdict 0 = .ok (.aload_n 0, 1) := by decide +kernel
theorem dX7_verdict_1 : decode cX7_verdict 1 = .ok (.getfield 26, 3) := by decide +kernel
theorem dX7_verdict_4 : decode cX7_verdict 4 = .ok (.getfield 197, 3) := by decide +kernel
theorem dX7_verdict_7 : decode cX7_verdict 7 = .ok (.ifCond .ne 6, 3) := by decide +kernel
theorem dX7_verdict_10 : decode cX7_verdict 10 = .ok (.ldc 201, 2) := by decide +kernel
theorem dX7_verdict_12 : decode cX7_verdict 12 = .ok (.ireturn, 1) := by decide +kernel
theorem dX7_verdict_13 : decode cX7_verdict 13 = .ok (.aload_n 0, 1) := by decide +kernel
theorem dX7_verdict_14 : decode cX7_verdict 14 = .ok (.getfield 26, 3) := by decide +kernel
theorem dX7_verdict_17 : decode cX7_verdict 17 = .ok (.invokevirtual 218, 3) := by decide +kernel
theorem dX7_verdict_20 : decode cX7_verdict 20 = .ok (.ifCond .eq 10, 3) := by decide +kernel
theorem dX7_verdict_23 : decode cX7_verdict 23 = .ok (.aload_n 0, 1) := by decide +kernel
theorem dX7_verdict_24 : decode cX7_verdict 24 = .ok (.bipush 6, 2) := by decide +kernel
theorem dX7_verdict_26 : decode cX7_verdict 26 = .ok (.invokevirtual 66, 3) := by decide +kernel
theorem dX7_verdict_29 : decode cX7_verdict 29 = .ok (.ireturn, 1) := by decide +kernel
theorem dX7_verdict_30 : decode cX7_verdict 30 = .ok (.aload_n 0, 1) := by decide +kernel
theorem dX7_verdict_31 : decode cX7_verdict 31 = .ok (.getfield 26, 3) := by decide +kernel
theorem dX7_verdict_34 : decode cX7_verdict 34 = .ok (.invokevirtual 297, 3) := by decide +kernel
theorem dX7_verdict_37 : decode cX7_verdict 37 = .ok (.ifCond .ne 9, 3) := by decide +kernel
theorem dX7_verdict_40 : decode cX7_verdict 40 = .ok (.aload_n 0, 1) := by decide +kernel
theorem dX7_verdict_41 : decode cX7_verdict 41 = .ok (.iconst 0, 1) := by decide +kernel
theorem dX7_verdict_42 : decode cX7_verdict 42 = .ok (.invokevirtual 74, 3) := by decide +kernel
theorem dX7_verdict_45 : decode cX7_verdict 45 = .ok (.ireturn, 1) := by decide +kernel
theorem dX7_verdict_46 : decode cX7_verdict 46 = .ok (.aload_n 0, 1) := by decide +kernel
theorem dX7_verdict_47 : decode cX7_verdict 47 = .ok (.aload_n 0, 1) := by decide +kernel
theorem dX7_verdict_48 : decode cX7_verdict 48 = .ok (.getfield 26, 3) := by decide +kernel
theorem dX7_verdict_51 : decode cX7_verdict 51 = .ok (.getfield 231, 3) := by decide +kernel
theorem dX7_verdict_54 : decode cX7_verdict 54 = .ok (.ldc 224, 2) := by decide +kernel
theorem dX7_verdict_56 : decode cX7_verdict 56 = .ok (.if_icmp .ne 7, 3) := by decide +kernel
theorem dX7_verdict_59 : decode cX7_verdict 59 = .ok (.iconst 1, 1) := by decide +kernel
theorem dX7_verdict_60 : decode cX7_verdict 60 = .ok (.goto 4, 3) := by decide +kernel
theorem dX7_verdict_63 : decode cX7_verdict 63 = .ok (.iconst 2, 1) := by decide +kernel
theorem dX7_verdict_64 : decode cX7_verdict 64 = .ok (.invokevirtual 74, 3) := by decide +kernel
theorem dX7_verdict_67 : decode cX7_verdict 67 = .ok (.ireturn, 1) := by decide +kernel
theorem dX7_price_0 : decode cX7_price 0 = .ok (.iload_n 1, 1) := by decide +kernel
theorem dX7_price_1 : decode cX7_price 1 = .ok (.invokestatic 182, 3) := by decide +kernel
theorem dX7_price_4 : decode cX7_price 4 = .ok (.ifCond .eq 15, 3) := by decide +kernel
theorem dX7_price_7 : decode cX7_price 7 = .ok (.aload_n 0, 1) := by decide +kernel
theorem dX7_price_8 : decode cX7_price 8 = .ok (.getfield 26, 3) := by decide +kernel
theorem dX7_price_11 : decode cX7_price 11 = .ok (.getfield 234, 3) := by decide +kernel
theorem dX7_price_14 : decode cX7_price 14 = .ok (.iload_n 1, 1) := by decide +kernel
theorem dX7_price_15 : decode cX7_price 15 = .ok (.iaload, 1) := by decide +kernel
theorem dX7_price_16 : decode cX7_price 16 = .ok (.goto 5, 3) := by decide +kernel
theorem dX7_price_19 : decode cX7_price 19 = .ok (.ldc 65, 2) := by decide +kernel
theorem dX7_price_21 : decode cX7_price 21 = .ok (.ireturn, 1) := by decide +kernel
theorem dX7_image_0 : decode cX7_image 0 = .ok (.iload_n 1, 1) := by decide +kernel
theorem dX7_image_1 : decode cX7_image 1 = .ok (.ifCond .lt 8, 3) := by decide +kernel
theorem dX7_image_4 : decode cX7_image 4 = .ok (.iload_n 1, 1) := by decide +kernel
theorem dX7_image_5 : decode cX7_image 5 = .ok (.iconst 2, 1) := by decide +kernel
theorem dX7_image_6 : decode cX7_image 6 = .ok (.if_icmp .lt 6, 3) := by decide +kernel
theorem dX7_image_9 : decode cX7_image 9 = .ok (.ldc 65, 2) := by decide +kernel
theorem dX7_image_11 : decode cX7_image 11 = .ok (.ireturn, 1) := by decide +kernel
theorem dX7_image_12 : decode cX7_image 12 = .ok (.aload_n 0, 1) := by decide +kernel
theorem dX7_image_13 : decode cX7_image 13 = .ok (.getfield 26, 3) := by decide +kernel
theorem dX7_image_16 : decode cX7_image 16 = .ok (.getfield 197, 3) := by decide +kernel
theorem dX7_image_19 : decode cX7_image 19 = .ok (.ifCond .ne 6, 3) := by decide +kernel
theorem dX7_image_22 : decode cX7_image 22 = .ok (.ldc 201, 2) := by decide +kernel
theorem dX7_image_24 : decode cX7_image 24 = .ok (.ireturn, 1) := by decide +kernel
theorem dX7_image_25 : decode cX7_image 25 = .ok (.aload_n 0, 1) := by decide +kernel
theorem dX7_image_26 : decode cX7_image 26 = .ok (.getfield 30, 3) := by decide +kernel
theorem dX7_image_29 : decode cX7_image 29 = .ok (.iload_n 1, 1) := by decide +kernel
theorem dX7_image_30 : decode cX7_image 30 = .ok (.aaload, 1) := by decide +kernel
theorem dX7_image_31 : decode cX7_image 31 = .ok (.aload_n 0, 1) := by decide +kernel
theorem dX7_image_32 : decode cX7_image 32 = .ok (.getfield 26, 3) := by decide +kernel
theorem dX7_image_35 : decode cX7_image 35 = .ok (.invokevirtual 300, 3) := by decide +kernel
theorem dX7_image_38 : decode cX7_image 38 = .ok (.aload_n 0, 1) := by decide +kernel
theorem dX7_image_39 : decode cX7_image 39 = .ok (.getfield 26, 3) := by decide +kernel
theorem dX7_image_42 : decode cX7_image 42 = .ok (.getfield 249, 3) := by decide +kernel
theorem dX7_image_45 : decode cX7_image 45 = .ok (.invokestatic 252, 3) := by decide +kernel
theorem dX7_image_48 : decode cX7_image 48 = .ok (.ireturn, 1) := by decide +kernel
theorem dX7_restore_0 : decode cX7_restore 0 = .ok (.iload_n 1, 1) := by decide +kernel
theorem dX7_restore_1 : decode cX7_restore 1 = .ok (.ifCond .lt 8, 3) := by decide +kernel
theorem dX7_restore_4 : decode cX7_restore 4 = .ok (.iload_n 1, 1) := by decide +kernel
theorem dX7_restore_5 : decode cX7_restore 5 = .ok (.iconst 2, 1) := by decide +kernel
theorem dX7_restore_6 : decode cX7_restore 6 = .ok (.if_icmp .lt 6, 3) := by decide +kernel
theorem dX7_restore_9 : decode cX7_restore 9 = .ok (.ldc 65, 2) := by decide +kernel
theorem dX7_restore_11 : decode cX7_restore 11 = .ok (.ireturn, 1) := by decide +kernel
theorem dX7_restore_12 : decode cX7_restore 12 = .ok (.aload_n 0, 1) := by decide +kernel
theorem dX7_restore_13 : decode cX7_restore 13 = .ok (.getfield 30, 3) := by decide +kernel
theorem dX7_restore_16 : decode cX7_restore 16 = .ok (.iload_n 1, 1) := by decide +kernel
theorem dX7_restore_17 : decode cX7_restore 17 = .ok (.aaload, 1) := by decide +kernel
theorem dX7_restore_18 : decode cX7_restore 18 = .ok (.getfield 197, 3) := by decide +kernel
theorem dX7_restore_21 : decode cX7_restore 21 = .ok (.ifCond .ne 6, 3) := by decide +kernel
theorem dX7_restore_24 : decode cX7_restore 24 = .ok (.ldc 201, 2) := by decide +kernel
theorem dX7_restore_26 : decode cX7_restore 26 = .ok (.ireturn, 1) := by decide +kernel
theorem dX7_restore_27 : decode cX7_restore 27 = .ok (.aload_n 0, 1) := by decide +kernel
theorem dX7_restore_28 : decode cX7_restore 28 = .ok (.getfield 26, 3) := by decide +kernel
theorem dX7_restore_31 : decode cX7_restore 31 = .ok (.aload_n 0, 1) := by decide +kernel
theorem dX7_restore_32 : decode cX7_restore 32 = .ok (.getfield 30, 3) := by decide +kernel
theorem dX7_restore_35 : decode cX7_restore 35 = .ok (.iload_n 1, 1) := by decide +kernel
theorem dX7_restore_36 : decode cX7_restore 36 = .ok (.aaload, 1) := by decide +kernel
theorem dX7_restore_37 : decode cX7_restore 37 = .ok (.invokevirtual 300, 3) := by decide +kernel
theorem dX7_restore_40 : decode cX7_restore 40 = .ok (.aload_n 0, 1) := by decide +kernel
theorem dX7_restore_41 : decode cX7_restore 41 = .ok (.getfield 37, 3) := by decide +kernel
theorem dX7_restore_44 : decode cX7_restore 44 = .ok (.invokevirtual 150, 3) := by decide +kernel
theorem dX7_restore_47 : decode cX7_restore 47 = .ok (.aload_n 0, 1) := by decide +kernel
theorem dX7_restore_48 : decode cX7_restore 48 = .ok (.getfield 26, 3) := by decide +kernel
theorem dX7_restore_51 : decode cX7_restore 51 = .ok (.getfield 249, 3) := by decide +kernel
theorem dX7_restore_54 : decode cX7_restore 54 = .ok (.invokestatic 252, 3) := by decide +kernel
theorem dX7_restore_57 : decode cX7_restore 57 = .ok (.ireturn, 1) := by decide +kernel
theorem dX7_kind_0 : decode cX7_kind 0 = .ok (.aload_n 0, 1) := by decide +kernel
theorem dX7_kind_1 : decode cX7_kind 1 = .ok (.getfield 26, 3) := by decide +kernel
theorem dX7_kind_4 : decode cX7_kind 4 = .ok (.iload_n 1, 1) := by decide +kernel
theorem dX7_kind_5 : decode cX7_kind 5 = .ok (.invokevirtual 156, 3) := by decide +kernel
theorem dX7_kind_8 : decode cX7_kind 8 = .ok (.ifCond .eq 18, 3) := by decide +kernel
end
section
theorem dX7_kind_11 : decode cX7_kind 11 = .ok (.aload_n 0, 1) := by decide +kernel
theorem dX7_kind_12 : decode cX7_kind 12 = .ok (.getfield 26, 3) := by decide +kernel
theorem dX7_kind_15 : decode cX7_kind 15 = .ok (.getfield 163, 3) := by decide +kernel
theorem dX7_kind_18 : decode cX7_kind 18 = .ok (.iload_n 1, 1) := by decide +kernel
theorem dX7_kind_19 : decode cX7_kind 19 = .ok (.aaload, 1) := by decide +kernel
theorem dX7_kind_20 : decode cX7_kind 20 = .ok (.getfield 239, 3) := by decide +kernel
theorem dX7_kind_23 : decode cX7_kind 23 = .ok (.goto 5, 3) := by decide +kernel
theorem dX7_kind_26 : decode cX7_kind 26 = .ok (.ldc 65, 2) := by decide +kernel
theorem dX7_kind_28 : decode cX7_kind 28 = .ok (.ireturn, 1) := by decide +kernel
theorem dX7_as_0 : decode cX7_as 0 = .ok (.aload_n 0, 1) := by decide +kernel
theorem dX7_as_1 : decode cX7_as 1 = .ok (.getfield 26, 3) := by decide +kernel
theorem dX7_as_4 : decode cX7_as 4 = .ok (.iload_n 1, 1) := by decide +kernel
theorem dX7_as_5 : decode cX7_as 5 = .ok (.invokevirtual 156, 3) := by decide +kernel
theorem dX7_as_8 : decode cX7_as 8 = .ok (.ifCond .eq 12, 3) := by decide +kernel
theorem dX7_as_11 : decode cX7_as 11 = .ok (.iload_n 2, 1) := by decide +kernel
theorem dX7_as_12 : decode cX7_as 12 = .ok (.ifCond .lt 8, 3) := by decide +kernel
theorem dX7_as_15 : decode cX7_as 15 = .ok (.iload_n 2, 1) := by decide +kernel
theorem dX7_as_16 : decode cX7_as 16 = .ok (.iconst 5, 1) := by decide +kernel
theorem dX7_as_17 : decode cX7_as 17 = .ok (.if_icmp .le 6, 3) := by decide +kernel
theorem dX7_as_20 : decode cX7_as 20 = .ok (.ldc 65, 2) := by decide +kernel
theorem dX7_as_22 : decode cX7_as 22 = .ok (.ireturn, 1) := by decide +kernel
theorem dX7_as_23 : decode cX7_as 23 = .ok (.aload_n 0, 1) := by decide +kernel
theorem dX7_as_24 : decode cX7_as 24 = .ok (.getfield 26, 3) := by decide +kernel
theorem dX7_as_27 : decode cX7_as 27 = .ok (.getfield 163, 3) := by decide +kernel
theorem dX7_as_30 : decode cX7_as 30 = .ok (.iload_n 1, 1) := by decide +kernel
theorem dX7_as_31 : decode cX7_as 31 = .ok (.aaload, 1) := by decide +kernel
theorem dX7_as_32 : decode cX7_as 32 = .ok (.getfield 239, 3) := by decide +kernel
theorem dX7_as_35 : decode cX7_as 35 = .ok (.iload_n 2, 1) := by decide +kernel
theorem dX7_as_36 : decode cX7_as 36 = .ok (.invokestatic 242, 3) := by decide +kernel
theorem dX7_as_39 : decode cX7_as 39 = .ok (.ifCond .ne 9, 3) := by decide +kernel
theorem dX7_as_42 : decode cX7_as 42 = .ok (.aload_n 0, 1) := by decide +kernel
theorem dX7_as_43 : decode cX7_as 43 = .ok (.iconst 3, 1) := by decide +kernel
theorem dX7_as_44 : decode cX7_as 44 = .ok (.invokevirtual 66, 3) := by decide +kernel
theorem dX7_as_47 : decode cX7_as 47 = .ok (.ireturn, 1) := by decide +kernel
theorem dX7_as_48 : decode cX7_as 48 = .ok (.aload_n 0, 1) := by decide +kernel
theorem dX7_as_49 : decode cX7_as 49 = .ok (.iload_n 1, 1) := by decide +kernel
theorem dX7_as_50 : decode cX7_as 50 = .ok (.invokevirtual 74, 3) := by decide +kernel
theorem dX7_as_53 : decode cX7_as 53 = .ok (.ireturn, 1) := by decide +kernel
theorem dX7_ask_0 : decode cX7_ask 0 = .ok (.aload_n 0, 1) := by decide +kernel
theorem dX7_ask_1 : decode cX7_ask 1 = .ok (.getfield 26, 3) := by decide +kernel
theorem dX7_ask_4 : decode cX7_ask 4 = .ok (.iload_n 1, 1) := by decide +kernel
theorem dX7_ask_5 : decode cX7_ask 5 = .ok (.invokevirtual 156, 3) := by decide +kernel
theorem dX7_ask_8 : decode cX7_ask 8 = .ok (.ifCond .eq 12, 3) := by decide +kernel
theorem dX7_ask_11 : decode cX7_ask 11 = .ok (.iload_n 2, 1) := by decide +kernel
theorem dX7_ask_12 : decode cX7_ask 12 = .ok (.ifCond .lt 8, 3) := by decide +kernel
theorem dX7_ask_15 : decode cX7_ask 15 = .ok (.iload_n 2, 1) := by decide +kernel
theorem dX7_ask_16 : decode cX7_ask 16 = .ok (.iconst 1, 1) := by decide +kernel
theorem dX7_ask_17 : decode cX7_ask 17 = .ok (.if_icmp .le 6, 3) := by decide +kernel
theorem dX7_ask_20 : decode cX7_ask 20 = .ok (.ldc 65, 2) := by decide +kernel
theorem dX7_ask_22 : decode cX7_ask 22 = .ok (.ireturn, 1) := by decide +kernel
theorem dX7_ask_23 : decode cX7_ask 23 = .ok (.aload_n 0, 1) := by decide +kernel
theorem dX7_ask_24 : decode cX7_ask 24 = .ok (.getfield 53, 3) := by decide +kernel
theorem dX7_ask_27 : decode cX7_ask 27 = .ok (.iconst 0, 1) := by decide +kernel
theorem dX7_ask_28 : decode cX7_ask 28 = .ok (.putfield 302, 3) := by decide +kernel
theorem dX7_ask_31 : decode cX7_ask 31 = .ok (.iload_n 2, 1) := by decide +kernel
theorem dX7_ask_32 : decode cX7_ask 32 = .ok (.ifCond .ne 23, 3) := by decide +kernel
theorem dX7_ask_35 : decode cX7_ask 35 = .ok (.aload_n 0, 1) := by decide +kernel
theorem dX7_ask_36 : decode cX7_ask 36 = .ok (.getfield 53, 3) := by decide +kernel
theorem dX7_ask_39 : decode cX7_ask 39 = .ok (.aload_n 0, 1) := by decide +kernel
theorem dX7_ask_40 : decode cX7_ask 40 = .ok (.getfield 26, 3) := by decide +kernel
theorem dX7_ask_43 : decode cX7_ask 43 = .ok (.getfield 163, 3) := by decide +kernel
theorem dX7_ask_46 : decode cX7_ask 46 = .ok (.iload_n 1, 1) := by decide +kernel
theorem dX7_ask_47 : decode cX7_ask 47 = .ok (.aaload, 1) := by decide +kernel
theorem dX7_ask_48 : decode cX7_ask 48 = .ok (.iconst 0, 1) := by decide +kernel
theorem dX7_ask_49 : decode cX7_ask 49 = .ok (.invokevirtual 303, 3) := by decide +kernel
theorem dX7_ask_52 : decode cX7_ask 52 = .ok (.goto 20, 3) := by decide +kernel
theorem dX7_ask_55 : decode cX7_ask 55 = .ok (.aload_n 0, 1) := by decide +kernel
theorem dX7_ask_56 : decode cX7_ask 56 = .ok (.getfield 53, 3) := by decide +kernel
theorem dX7_ask_59 : decode cX7_ask 59 = .ok (.aload_n 0, 1) := by decide +kernel
theorem dX7_ask_60 : decode cX7_ask 60 = .ok (.getfield 26, 3) := by decide +kernel
theorem dX7_ask_63 : decode cX7_ask 63 = .ok (.getfield 163, 3) := by decide +kernel
theorem dX7_ask_66 : decode cX7_ask 66 = .ok (.iload_n 1, 1) := by decide +kernel
theorem dX7_ask_67 : decode cX7_ask 67 = .ok (.aaload, 1) := by decide +kernel
theorem dX7_ask_68 : decode cX7_ask 68 = .ok (.iconst 0, 1) := by decide +kernel
theorem dX7_ask_69 : decode cX7_ask 69 = .ok (.invokevirtual 307, 3) := by decide +kernel
theorem dX7_ask_72 : decode cX7_ask 72 = .ok (.ireturn, 1) := by decide +kernel
theorem dX7_trace_0 : decode cX7_trace 0 = .ok (.iload_n 1, 1) := by decide +kernel
theorem dX7_trace_1 : decode cX7_trace 1 = .ok (.ifCond .lt 26, 3) := by decide +kernel
theorem dX7_trace_4 : decode cX7_trace 4 = .ok (.iload_n 1, 1) := by decide +kernel
theorem dX7_trace_5 : decode cX7_trace 5 = .ok (.aload_n 0, 1) := by decide +kernel
theorem dX7_trace_6 : decode cX7_trace 6 = .ok (.getfield 53, 3) := by decide +kernel
theorem dX7_trace_9 : decode cX7_trace 9 = .ok (.getfield 302, 3) := by decide +kernel
theorem dX7_trace_12 : decode cX7_trace 12 = .ok (.if_icmp .ge 15, 3) := by decide +kernel
theorem dX7_trace_15 : decode cX7_trace 15 = .ok (.aload_n 0, 1) := by decide +kernel
theorem dX7_trace_16 : decode cX7_trace 16 = .ok (.getfield 53, 3) := by decide +kernel
theorem dX7_trace_19 : decode cX7_trace 19 = .ok (.getfield 310, 3) := by decide +kernel
theorem dX7_trace_22 : decode cX7_trace 22 = .ok (.iload_n 1, 1) := by decide +kernel
theorem dX7_trace_23 : decode cX7_trace 23 = .ok (.iaload, 1) := by decide +kernel
theorem dX7_trace_24 : decode cX7_trace 24 = .ok (.goto 5, 3) := by decide +kernel
theorem dX7_trace_27 : decode cX7_trace 27 = .ok (.ldc 224, 2) := by decide +kernel
theorem dX7_trace_29 : decode cX7_trace 29 = .ok (.ireturn, 1) := by decide +kernel
theorem dX7_count_0 : decode cX7_count 0 = .ok (.iload_n 1, 1) := by decide +kernel
theorem dX7_count_1 : decode cX7_count 1 = .ok (.tableswitch 114 0 7 #[47, 55, 66, 74, 82, 90, 98, 106], 47) := by decide +kernel
theorem dX7_count_48 : decode cX7_count 48 = .ok (.aload_n 0, 1) := by decide +kernel
theorem dX7_count_49 : decode cX7_count 49 = .ok (.getfield 10, 3) := by decide +kernel
theorem dX7_count_52 : decode cX7_count 52 = .ok (.invokevirtual 313, 3) := by decide +kernel
theorem dX7_count_55 : decode cX7_count 55 = .ok (.ireturn, 1) := by decide +kernel
theorem dX7_count_56 : decode cX7_count 56 = .ok (.aload_n 0, 1) := by decide +kernel
theorem dX7_count_57 : decode cX7_count 57 = .ok (.getfield 26, 3) := by decide +kernel
theorem dX7_count_60 : decode cX7_count 60 = .ok (.getfield 249, 3) := by decide +kernel
theorem dX7_count_63 : decode cX7_count 63 = .ok (.invokestatic 252, 3) := by decide +kernel
theorem dX7_count_66 : decode cX7_count 66 = .ok (.ireturn, 1) := by decide +kernel
theorem dX7_count_67 : decode cX7_count 67 = .ok (.aload_n 0, 1) := by decide +kernel
theorem dX7_count_68 : decode cX7_count 68 = .ok (.getfield 26, 3) := by decide +kernel
theorem dX7_count_71 : decode cX7_count 71 = .ok (.getfield 316, 3) := by decide +kernel
theorem dX7_count_74 : decode cX7_count 74 = .ok (.ireturn, 1) := by decide +kernel
theorem dX7_count_75 : decode cX7_count 75 = .ok (.aload_n 0, 1) := by decide +kernel
theorem dX7_count_76 : decode cX7_count 76 = .ok (.getfield 26, 3) := by decide +kernel
theorem dX7_count_79 : decode cX7_count 79 = .ok (.getfield 249, 3) := by decide +kernel
theorem dX7_count_82 : decode cX7_count 82 = .ok (.ireturn, 1) := by decide +kernel
theorem dX7_count_83 : decode cX7_count 83 = .ok (.aload_n 0, 1) := by decide +kernel
theorem dX7_count_84 : decode cX7_count 84 = .ok (.getfield 26, 3) := by decide +kernel
theorem dX7_count_87 : decode cX7_count 87 = .ok (.getfield 231, 3) := by decide +kernel
theorem dX7_count_90 : decode cX7_count 90 = .ok (.ireturn, 1) := by decide +kernel
theorem dX7_count_91 : decode cX7_count 91 = .ok (.aload_n 0, 1) := by decide +kernel
theorem dX7_count_92 : decode cX7_count 92 = .ok (.getfield 26, 3) := by decide +kernel
theorem dX7_count_95 : decode cX7_count 95 = .ok (.invokevirtual 211, 3) := by decide +kernel
theorem dX7_count_98 : decode cX7_count 98 = .ok (.ireturn, 1) := by decide +kernel
theorem dX7_count_99 : decode cX7_count 99 = .ok (.aload_n 0, 1) := by decide +kernel
theorem dX7_count_100 : decode cX7_count 100 = .ok (.getfield 37, 3) := by decide +kernel
theorem dX7_count_103 : decode cX7_count 103 = .ok (.getfield 257, 3) := by decide +kernel
theorem dX7_count_106 : decode cX7_count 106 = .ok (.ireturn, 1) := by decide +kernel
theorem dX7_count_107 : decode cX7_count 107 = .ok (.aload_n 0, 1) := by decide +kernel
theorem dX7_count_108 : decode cX7_count 108 = .ok (.getfield 19, 3) := by decide +kernel
theorem dX7_count_111 : decode cX7_count 111 = .ok (.getfield 108, 3) := by decide +kernel
theorem dX7_count_114 : decode cX7_count 114 = .ok (.ireturn, 1) := by decide +kernel
theorem dX7_count_115 : decode cX7_count 115 = .ok (.ldc 65, 2) := by decide +kernel
theorem dX7_count_117 : decode cX7_count 117 = .ok (.ireturn, 1) := by decide +kernel
theorem dX7_status_0 : decode cX7_status 0 = .ok (.aload_n 0, 1) := by decide +kernel
theorem dX7_status_1 : decode cX7_status 1 = .ok (.getfield 57, 3) := by decide +kernel
theorem dX7_status_4 : decode cX7_status 4 = .ok (.ireturn, 1) := by decide +kernel
theorem dX7_found_0 : decode cX7_found 0 = .ok (.aload_n 0, 1) := by decide +kernel
theorem dX7_found_1 : decode cX7_found 1 = .ok (.iload_n 1, 1) := by decide +kernel
theorem dX7_found_2 : decode cX7_found 2 = .ok (.putfield 57, 3) := by decide +kernel
theorem dX7_found_5 : decode cX7_found 5 = .ok (.ldc_w 319, 3) := by decide +kernel
theorem dX7_found_8 : decode cX7_found 8 = .ok (.iload_n 1, 1) := by decide +kernel
theorem dX7_found_9 : decode cX7_found 9 = .ok (.isub, 1) := by decide +kernel
theorem dX7_found_10 : decode cX7_found 10 = .ok (.ireturn, 1) := by decide +kernel
theorem dX7_well_0 : decode cX7_well 0 = .ok (.aload_n 0, 1) := by decide +kernel
theorem dX7_well_1 : decode cX7_well 1 = .ok (.iconst 0, 1) := by decide +kernel
theorem dX7_well_2 : decode cX7_well 2 = .ok (.putfield 57, 3) := by decide +kernel
theorem dX7_well_5 : decode cX7_well 5 = .ok (.iload_n 1, 1) := by decide +kernel
theorem dX7_well_6 : decode cX7_well 6 = .ok (.ireturn, 1) := by decide +kernel
theorem dX7_stepRefusal_0 : decode cX7_stepRefusal 0 = .ok (.aload_n 0, 1) := by decide +kernel
theorem dX7_stepRefusal_1 : decode cX7_stepRefusal 1 = .ok (.getfield 26, 3) := by decide +kernel
theorem dX7_stepRefusal_4 : decode cX7_stepRefusal 4 = .ok (.getfield 197, 3) := by decide +kernel
theorem dX7_stepRefusal_7 : decode cX7_stepRefusal 7 = .ok (.ifCond .ne 6, 3) := by decide +kernel
theorem dX7_stepRefusal_10 : decode cX7_stepRefusal 10 = .ok (.ldc 201, 2) := by decide +kernel
theorem dX7_stepRefusal_12 : decode cX7_stepRefusal 12 = .ok (.ireturn, 1) := by decide +kernel
theorem dX7_stepRefusal_13 : decode cX7_stepRefusal 13 = .ok (.iload_n 1, 1) := by decide +kernel
theorem dX7_stepRefusal_14 : decode cX7_stepRefusal 14 = .ok (.ifCond .ne 6, 3) := by decide +kernel
theorem dX7_stepRefusal_17 : decode cX7_stepRefusal 17 = .ok (.ldc 65, 2) := by decide +kernel
theorem dX7_stepRefusal_19 : decode cX7_stepRefusal 19 = .ok (.ireturn, 1) := by decide +kernel
theorem dX7_stepRefusal_20 : decode cX7_stepRefusal 20 = .ok (.aload_n 0, 1) := by decide +kernel
theorem dX7_stepRefusal_21 : decode cX7_stepRefusal 21 = .ok (.getfield 26, 3) := by decide +kernel
theorem dX7_stepRefusal_24 : decode cX7_stepRefusal 24 = .ok (.invokevirtual 215, 3) := by decide +kernel
theorem dX7_stepRefusal_27 : decode cX7_stepRefusal 27 = .ok (.ifCond .eq 8, 3) := by decide +kernel
theorem dX7_stepRefusal_30 : decode cX7_stepRefusal 30 = .ok (.ldc 111, 2) := by decide +kernel
theorem dX7_stepRefusal_32 : decode cX7_stepRefusal 32 = .ok (.goto 4, 3) := by decide +kernel
theorem dX7_stepRefusal_35 : decode cX7_stepRefusal 35 = .ok (.iconst 0, 1) := by decide +kernel
theorem dX7_stepRefusal_36 : decode cX7_stepRefusal 36 = .ok (.ireturn, 1) := by decide +kernel
theorem dX7_comes_0 : decode cX7_comes 0 = .ok (.aload_n 0, 1) := by decide +kernel
theorem dX7_comes_1 : decode cX7_comes 1 = .ok (.getfield 37, 3) := by decide +kernel
theorem dX7_comes_4 : decode cX7_comes 4 = .ok (.aload_n 0, 1) := by decide +kernel
theorem dX7_comes_5 : decode cX7_comes 5 = .ok (.getfield 26, 3) := by decide +kernel
theorem dX7_comes_8 : decode cX7_comes 8 = .ok (.invokevirtual 225, 3) := by decide +kernel
theorem dX7_comes_11 : decode cX7_comes 11 = .ok (.aload_n 0, 1) := by decide +kernel
theorem dX7_comes_12 : decode cX7_comes 12 = .ok (.getfield 26, 3) := by decide +kernel
theorem dX7_comes_15 : decode cX7_comes 15 = .ok (.iload_n 1, 1) := by decide +kernel
theorem dX7_comes_16 : decode cX7_comes 16 = .ok (.invokevirtual 147, 3) := by decide +kernel
theorem dX7_comes_19 : decode cX7_comes 19 = .ok (.ireturn, 1) := by decide +kernel
theorem dX7_claimOfTape_0 : decode cX7_claimOfTape 0 = .ok (.aload_n 0, 1) := by decide +kernel
theorem dX7_claimOfTape_1 : decode cX7_claimOfTape 1 = .ok (.getfield 19, 3) := by decide +kernel
theorem dX7_claimOfTape_4 : decode cX7_claimOfTape 4 = .ok (.invokevirtual 320, 3) := by decide +kernel
theorem dX7_claimOfTape_7 : decode cX7_claimOfTape 7 = .ok (.ifCond .ne 14, 3) := by decide +kernel
theorem dX7_claimOfTape_10 : decode cX7_claimOfTape 10 = .ok (.ldc 119, 2) := by decide +kernel
theorem dX7_claimOfTape_12 : decode cX7_claimOfTape 12 = .ok (.aload_n 0, 1) := by decide +kernel
theorem dX7_claimOfTape_13 : decode cX7_claimOfTape 13 = .ok (.getfield 19, 3) := by decide +kernel
theorem dX7_claimOfTape_16 : decode cX7_claimOfTape 16 = .ok (.getfield 120, 3) := by decide +kernel
theorem dX7_claimOfTape_19 : decode cX7_claimOfTape 19 = .ok (.isub, 1) := by decide +kernel
theorem dX7_claimOfTape_20 : decode cX7_claimOfTape 20 = .ok (.ireturn, 1) := by decide +kernel
theorem dX7_claimOfTape_21 : decode cX7_claimOfTape 21 = .ok (.aload_n 0, 1) := by decide +kernel
theorem dX7_claimOfTape_22 : decode cX7_claimOfTape 22 = .ok (.getfield 26, 3) := by decide +kernel
theorem dX7_claimOfTape_25 : decode cX7_claimOfTape 25 = .ok (.invokevirtual 215, 3) := by decide +kernel
theorem dX7_claimOfTape_28 : decode cX7_claimOfTape 28 = .ok (.ifCond .eq 6, 3) := by decide +kernel
theorem dX7_claimOfTape_31 : decode cX7_claimOfTape 31 = .ok (.ldc 111, 2) := by decide +kernel
theorem dX7_claimOfTape_33 : decode cX7_claimOfTape 33 = .ok (.ireturn, 1) := by decide +kernel
theorem dX7_claimOfTape_34 : decode cX7_claimOfTape 34 = .ok (.aload_n 0, 1) := by decide +kernel
theorem dX7_claimOfTape_35 : decode cX7_claimOfTape 35 = .ok (.getfield 26, 3) := by decide +kernel
theorem dX7_claimOfTape_38 : decode cX7_claimOfTape 38 = .ok (.invokevirtual 218, 3) := by decide +kernel
theorem dX7_claimOfTape_41 : decode cX7_claimOfTape 41 = .ok (.ifCond .eq 10, 3) := by decide +kernel
theorem dX7_claimOfTape_44 : decode cX7_claimOfTape 44 = .ok (.aload_n 0, 1) := by decide +kernel
theorem dX7_claimOfTape_45 : decode cX7_claimOfTape 45 = .ok (.bipush 6, 2) := by decide +kernel
theorem dX7_claimOfTape_47 : decode cX7_claimOfTape 47 = .ok (.invokevirtual 66, 3) := by decide +kernel
theorem dX7_claimOfTape_50 : decode cX7_claimOfTape 50 = .ok (.ireturn, 1) := by decide +kernel
theorem dX7_claimOfTape_51 : decode cX7_claimOfTape 51 = .ok (.aload_n 0, 1) := by decide +kernel
theorem dX7_claimOfTape_52 : decode cX7_claimOfTape 52 = .ok (.getfield 19, 3) := by decide +kernel
theorem dX7_claimOfTape_55 : decode cX7_claimOfTape 55 = .ok (.getfield 137, 3) := by decide +kernel
theorem dX7_claimOfTape_58 : decode cX7_claimOfTape 58 = .ok (.iconst 0, 1) := by decide +kernel
theorem dX7_claimOfTape_59 : decode cX7_claimOfTape 59 = .ok (.aaload, 1) := by decide +kernel
theorem dX7_claimOfTape_60 : decode cX7_claimOfTape 60 = .ok (.astore_n 2, 1) := by decide +kernel
theorem dX7_claimOfTape_61 : decode cX7_claimOfTape 61 = .ok (.iload_n 1, 1) := by decide +kernel
theorem dX7_claimOfTape_62 : decode cX7_claimOfTape 62 = .ok (.ifCond .ge 14, 3) := by decide +kernel
theorem dX7_claimOfTape_65 : decode cX7_claimOfTape 65 = .ok (.aload_n 0, 1) := by decide +kernel
theorem dX7_claimOfTape_66 : decode cX7_claimOfTape 66 = .ok (.getfield 46, 3) := by decide +kernel
theorem dX7_claimOfTape_69 : decode cX7_claimOfTape 69 = .ok (.aload_n 2, 1) := by decide +kernel
theorem dX7_claimOfTape_70 : decode cX7_claimOfTape 70 = .ok (.invokevirtual 323, 3) := by decide +kernel
theorem dX7_claimOfTape_73 : decode cX7_claimOfTape 73 = .ok (.goto 20, 3) := by decide +kernel
theorem dX7_claimOfTape_76 : decode cX7_claimOfTape 76 = .ok (.aload_n 0, 1) := by decide +kernel
theorem dX7_claimOfTape_77 : decode cX7_claimOfTape 77 = .ok (.getfield 46, 3) := by decide +kernel
theorem dX7_claimOfTape_80 : decode cX7_claimOfTape 80 = .ok (.aload_n 2, 1) := by decide +kernel
theorem dX7_claimOfTape_81 : decode cX7_claimOfTape 81 = .ok (.aload_n 0, 1) := by decide +kernel
theorem dX7_claimOfTape_82 : decode cX7_claimOfTape 82 = .ok (.getfield 10, 3) := by decide +kernel
theorem dX7_claimOfTape_85 : decode cX7_claimOfTape 85 = .ok (.getfield 95, 3) := by decide +kernel
theorem dX7_claimOfTape_88 : decode cX7_claimOfTape 88 = .ok (.iload_n 1, 1) := by decide +kernel
theorem dX7_claimOfTape_89 : decode cX7_claimOfTape 89 = .ok (.aaload, 1) := by decide +kernel
theorem dX7_claimOfTape_90 : decode cX7_claimOfTape 90 = .ok (.invokevirtual 327, 3) := by decide +kernel
theorem dX7_claimOfTape_93 : decode cX7_claimOfTape 93 = .ok (.istore_n 3, 1) := by decide +kernel
theorem dX7_claimOfTape_94 : decode cX7_claimOfTape 94 = .ok (.iload_n 3, 1) := by decide +kernel
theorem dX7_claimOfTape_95 : decode cX7_claimOfTape 95 = .ok (.ifCond .ne 10, 3) := by decide +kernel
theorem dX7_claimOfTape_98 : decode cX7_claimOfTape 98 = .ok (.aload_n 0, 1) := by decide +kernel
theorem dX7_claimOfTape_99 : decode cX7_claimOfTape 99 = .ok (.ldc 224, 2) := by decide +kernel
theorem dX7_claimOfTape_101 : decode cX7_claimOfTape 101 = .ok (.invokevirtual 74, 3) := by decide +kernel
theorem dX7_claimOfTape_104 : decode cX7_claimOfTape 104 = .ok (.ireturn, 1) := by decide +kernel
theorem dX7_claimOfTape_105 : decode cX7_claimOfTape 105 = .ok (.aload_n 0, 1) := by decide +kernel
theorem dX7_claimOfTape_106 : decode cX7_claimOfTape 106 = .ok (.getfield 26, 3) := by decide +kernel
theorem dX7_claimOfTape_109 : decode cX7_claimOfTape 109 = .ok (.invokevirtual 133, 3) := by decide +kernel
theorem dX7_claimOfTape_112 : decode cX7_claimOfTape 112 = .ok (.aload_n 2, 1) := by decide +kernel
theorem dX7_claimOfTape_113 : decode cX7_claimOfTape 113 = .ok (.invokevirtual 141, 3) := by decide +kernel
theorem dX7_claimOfTape_116 : decode cX7_claimOfTape 116 = .ok (.aload_n 0, 1) := by decide +kernel
theorem dX7_claimOfTape_117 : decode cX7_claimOfTape 117 = .ok (.aload_n 0, 1) := by decide +kernel
theorem dX7_claimOfTape_118 : decode cX7_claimOfTape 118 = .ok (.iconst 5, 1) := by decide +kernel
theorem dX7_claimOfTape_119 : decode cX7_claimOfTape 119 = .ok (.invokevirtual 168, 3) := by decide +kernel
theorem dX7_claimOfTape_122 : decode cX7_claimOfTape 122 = .ok (.invokevirtual 74, 3) := by decide +kernel
theorem dX7_claimOfTape_125 : decode cX7_claimOfTape 125 = .ok (.ireturn, 1) := by decide +kernel
theorem dX7_bestOfAll_0 : decode cX7_bestOfAll 0 = .ok (.aload_n 0, 1) := by decide +kernel
theorem dX7_bestOfAll_1 : decode cX7_bestOfAll 1 = .ok (.getfield 26, 3) := by decide +kernel
theorem dX7_bestOfAll_4 : decode cX7_bestOfAll 4 = .ok (.invokevirtual 331, 3) := by decide +kernel
theorem dX7_bestOfAll_7 : decode cX7_bestOfAll 7 = .ok (.istore_n 2, 1) := by decide +kernel
theorem dX7_bestOfAll_8 : decode cX7_bestOfAll 8 = .ok (.iload_n 2, 1) := by decide +kernel
theorem dX7_bestOfAll_9 : decode cX7_bestOfAll 9 = .ok (.ldc 224, 2) := by decide +kernel
theorem dX7_bestOfAll_11 : decode cX7_bestOfAll 11 = .ok (.if_icmp .ne 6, 3) := by decide +kernel
theorem dX7_bestOfAll_14 : decode cX7_bestOfAll 14 = .ok (.ldc 224, 2) := by decide +kernel
theorem dX7_bestOfAll_16 : decode cX7_bestOfAll 16 = .ok (.ireturn, 1) := by decide +kernel
theorem dX7_bestOfAll_17 : decode cX7_bestOfAll 17 = .ok (.iload_n 1, 1) := by decide +kernel
theorem dX7_bestOfAll_18 : decode cX7_bestOfAll 18 = .ok (.iconst 1, 1) := by decide +kernel
theorem dX7_bestOfAll_19 : decode cX7_bestOfAll 19 = .ok (.if_icmp .ne 14, 3) := by decide +kernel
theorem dX7_bestOfAll_22 : decode cX7_bestOfAll 22 = .ok (.aload_n 0, 1) := by decide +kernel
theorem dX7_bestOfAll_23 : decode cX7_bestOfAll 23 = .ok (.getfield 26, 3) := by decide +kernel
theorem dX7_bestOfAll_26 : decode cX7_bestOfAll 26 = .ok (.iload_n 2, 1) := by decide +kernel
theorem dX7_bestOfAll_27 : decode cX7_bestOfAll 27 = .ok (.invokevirtual 228, 3) := by decide +kernel
theorem dX7_bestOfAll_30 : decode cX7_bestOfAll 30 = .ok (.goto 4, 3) := by decide +kernel
theorem dX7_bestOfAll_33 : decode cX7_bestOfAll 33 = .ok (.iload_n 2, 1) := by decide +kernel
theorem dX7_bestOfAll_34 : decode cX7_bestOfAll 34 = .ok (.ireturn, 1) := by decide +kernel
theorem dX7_isRow_0 : decode cX7_isRow 0 = .ok (.iload_n 0, 1) := by decide +kernel
theorem dX7_isRow_1 : decode cX7_isRow 1 = .ok (.ifCond .lt 13, 3) := by decide +kernel
theorem dX7_isRow_4 : decode cX7_isRow 4 = .ok (.iload_n 0, 1) := by decide +kernel
theorem dX7_isRow_5 : decode cX7_isRow 5 = .ok (.bipush 8, 2) := by decide +kernel
theorem dX7_isRow_7 : decode cX7_isRow 7 = .ok (.if_icmp .ge 7, 3) := by decide +kernel
theorem dX7_isRow_10 : decode cX7_isRow 10 = .ok (.iconst 1, 1) := by decide +kernel
theorem dX7_isRow_11 : decode cX7_isRow 11 = .ok (.goto 4, 3) := by decide +kernel
theorem dX7_isRow_14 : decode cX7_isRow 14 = .ok (.iconst 0, 1) := by decide +kernel
theorem dX7_isRow_15 : decode cX7_isRow 15 = .ok (.ireturn, 1) := by decide +kernel
theorem dX7_isVariable_0 : decode cX7_isVariable 0 = .ok (.iload_n 0, 1) := by decide +kernel
theorem dX7_isVariable_1 : decode cX7_isVariable 1 = .ok (.ifCond .lt 13, 3) := by decide +kernel
theorem dX7_isVariable_4 : decode cX7_isVariable 4 = .ok (.iload_n 0, 1) := by decide +kernel
theorem dX7_isVariable_5 : decode cX7_isVariable 5 = .ok (.bipush 8, 2) := by decide +kernel
theorem dX7_isVariable_7 : decode cX7_isVariable 7 = .ok (.if_icmp .ge 7, 3) := by decide +kernel
theorem dX7_isVariable_10 : decode cX7_isVariable 10 = .ok (.iconst 1, 1) := by decide +kernel
theorem dX7_isVariable_11 : decode cX7_isVariable 11 = .ok (.goto 4, 3) := by decide +kernel
theorem dX7_isVariable_14 : decode cX7_isVariable 14 = .ok (.iconst 0, 1) := by decide +kernel
theorem dX7_isVariable_15 : decode cX7_isVariable 15 = .ok (.ireturn, 1) := by decide +kernel
theorem dX7_isSet_0 : decode cX7_isSet 0 = .ok (.iload_n 0, 1) := by decide +kernel
theorem dX7_isSet_1 : decode cX7_isSet 1 = .ok (.ifCond .lt 14, 3) := by decide +kernel
theorem dX7_isSet_4 : decode cX7_isSet 4 = .ok (.iload_n 0, 1) := by decide +kernel
theorem dX7_isSet_5 : decode cX7_isSet 5 = .ok (.sipush 255, 3) := by decide +kernel
theorem dX7_isSet_8 : decode cX7_isSet 8 = .ok (.if_icmp .gt 7, 3) := by decide +kernel
theorem dX7_isSet_11 : decode cX7_isSet 11 = .ok (.iconst 1, 1) := by decide +kernel
theorem dX7_isSet_12 : decode cX7_isSet 12 = .ok (.goto 4, 3) := by decide +kernel
theorem dX7_isSet_15 : decode cX7_isSet 15 = .ok (.iconst 0, 1) := by decide +kernel
theorem dX7_isSet_16 : decode cX7_isSet 16 = .ok (.ireturn, 1) := by decide +kernel
theorem dX7_isOfKind_0 : decode cX7_isOfKind 0 = .ok (.iload_n 1, 1) := by decide +kernel
theorem dX7_isOfKind_1 : decode cX7_isOfKind 1 = .ok (.ifCond .eq 33, 3) := by decide +kernel
theorem dX7_isOfKind_4 : decode cX7_isOfKind 4 = .ok (.iload_n 0, 1) := by decide +kernel
theorem dX7_isOfKind_5 : decode cX7_isOfKind 5 = .ok (.iload_n 1, 1) := by decide +kernel
theorem dX7_isOfKind_6 : decode cX7_isOfKind 6 = .ok (.if_icmp .eq 28, 3) := by decide +kernel
theorem dX7_isOfKind_9 : decode cX7_isOfKind 9 = .ok (.iload_n 1, 1) := by decide +kernel
theorem dX7_isOfKind_10 : decode cX7_isOfKind 10 = .ok (.iconst 1, 1) := by decide +kernel
theorem dX7_isOfKind_11 : decode cX7_isOfKind 11 = .ok (.if_icmp .ne 13, 3) := by decide +kernel
theorem dX7_isOfKind_14 : decode cX7_isOfKind 14 = .ok (.iload_n 0, 1) := by decide +kernel
theorem dX7_isOfKind_15 : decode cX7_isOfKind 15 = .ok (.iconst 2, 1) := by decide +kernel
theorem dX7_isOfKind_16 : decode cX7_isOfKind 16 = .ok (.if_icmp .eq 18, 3) := by decide +kernel
theorem dX7_isOfKind_19 : decode cX7_isOfKind 19 = .ok (.iload_n 0, 1) := by decide +kernel
theorem dX7_isOfKind_20 : decode cX7_isOfKind 20 = .ok (.iconst 3, 1) := by decide +kernel
theorem dX7_isOfKind_21 : decode cX7_isOfKind 21 = .ok (.if_icmp .eq 13, 3) := by decide +kernel
theorem dX7_isOfKind_24 : decode cX7_isOfKind 24 = .ok (.iload_n 1, 1) := by decide +kernel
theorem dX7_isOfKind_25 : decode cX7_isOfKind 25 = .ok (.iconst 4, 1) := by decide +kernel
theorem dX7_isOfKind_26 : decode cX7_isOfKind 26 = .ok (.if_icmp .ne 12, 3) := by decide +kernel
theorem dX7_isOfKind_29 : decode cX7_isOfKind 29 = .ok (.iload_n 0, 1) := by decide +kernel
theorem dX7_isOfKind_30 : decode cX7_isOfKind 30 = .ok (.iconst 5, 1) := by decide +kernel
theorem dX7_isOfKind_31 : decode cX7_isOfKind 31 = .ok (.if_icmp .ne 7, 3) := by decide +kernel
theorem dX7_isOfKind_34 : decode cX7_isOfKind 34 = .ok (.iconst 1, 1) := by decide +kernel
theorem dX7_isOfKind_35 : decode cX7_isOfKind 35 = .ok (.goto 4, 3) := by decide +kernel
theorem dX7_isOfKind_38 : decode cX7_isOfKind 38 = .ok (.iconst 0, 1) := by decide +kernel
theorem dX7_isOfKind_39 : decode cX7_isOfKind 39 = .ok (.ireturn, 1) := by decide +kernel
theorem dX8_init_0 : decode cX8_init 0 = .ok (.aload_n 0, 1) := by decide +kernel
theorem dX8_init_1 : decode cX8_init 1 = .ok (.invokespecial 1, 3) := by decide +kernel
theorem dX8_init_4 : decode cX8_init 4 = .ok (.aload_n 0, 1) := by decide +kernel
theorem dX8_init_5 : decode cX8_init 5 = .ok (.bipush 8, 2) := by decide +kernel
theorem dX8_init_7 : decode cX8_init 7 = .ok (.newarray .int, 2) := by decide +kernel
theorem dX8_init_9 : decode cX8_init 9 = .ok (.putfield 7, 3) := by decide +kernel
theorem dX8_init_12 : decode cX8_init 12 = .ok (.aload_n 0, 1) := by decide +kernel
theorem dX8_init_13 : decode cX8_init 13 = .ok (.bipush 8, 2) := by decide +kernel
theorem dX8_init_15 : decode cX8_init 15 = .ok (.newarray .int, 2) := by decide +kernel
theorem dX8_init_17 : decode cX8_init 17 = .ok (.putfield 13, 3) := by decide +kernel
theorem dX8_init_20 : decode cX8_init 20 = .ok (.aload_n 0, 1) := by decide +kernel
theorem dX8_init_21 : decode cX8_init 21 = .ok (.sipush 320, 3) := by decide +kernel
theorem dX8_init_24 : decode cX8_init 24 = .ok (.newarray .int, 2) := by decide +kernel
theorem dX8_init_26 : decode cX8_init 26 = .ok (.putfield 16, 3) := by decide +kernel
theorem dX8_init_29 : decode cX8_init 29 = .ok (.aload_n 0, 1) := by decide +kernel
theorem dX8_init_30 : decode cX8_init 30 = .ok (.bipush 40, 2) := by decide +kernel
theorem dX8_init_32 : decode cX8_init 32 = .ok (.newarray .int, 2) := by decide +kernel
theorem dX8_init_34 : decode cX8_init 34 = .ok (.putfield 19, 3) := by decide +kernel
theorem dX8_init_37 : decode cX8_init 37 = .ok (.aload_n 0, 1) := by decide +kernel
theorem dX8_init_38 : decode cX8_init 38 = .ok (.sipush 200, 3) := by decide +kernel
theorem dX8_init_41 : decode cX8_init 41 = .ok (.newarray .int, 2) := by decide +kernel
theorem dX8_init_43 : decode cX8_init 43 = .ok (.putfield 22, 3) := by decide +kernel
theorem dX8_init_46 : decode cX8_init 46 = .ok (.aload_n 0, 1) := by decide +kernel
theorem dX8_init_47 : decode cX8_init 47 = .ok (.sipush 312, 3) := by decide +kernel
theorem dX8_init_50 : decode cX8_init 50 = .ok (.newarray .long, 2) := by decide +kernel
theorem dX8_init_52 : decode cX8_init 52 = .ok (.putfield 25, 3) := by decide +kernel
theorem dX8_init_55 : decode cX8_init 55 = .ok (.aload_n 0, 1) := by decide +kernel
theorem dX8_init_56 : decode cX8_init 56 = .ok (.sipush 312, 3) := by decide +kernel
theorem dX8_init_59 : decode cX8_init 59 = .ok (.newarray .long, 2) := by decide +kernel
theorem dX8_init_61 : decode cX8_init 61 = .ok (.putfield 29, 3) := by decide +kernel
theorem dX8_init_64 : decode cX8_init 64 = .ok (.aload_n 0, 1) := by decide +kernel
theorem dX8_init_65 : decode cX8_init 65 = .ok (.sipush 3744, 3) := by decide +kernel
theorem dX8_init_68 : decode cX8_init 68 = .ok (.newarray .long, 2) := by decide +kernel
theorem dX8_init_70 : decode cX8_init 70 = .ok (.putfield 32, 3) := by decide +kernel
theorem dX8_init_73 : decode cX8_init 73 = .ok (.aload_n 0, 1) := by decide +kernel
theorem dX8_init_74 : decode cX8_init 74 = .ok (.sipush 624, 3) := by decide +kernel
theorem dX8_init_77 : decode cX8_init 77 = .ok (.newarray .long, 2) := by decide +kernel
theorem dX8_init_79 : decode cX8_init 79 = .ok (.putfield 35, 3) := by decide +kernel
theorem dX8_init_82 : decode cX8_init 82 = .ok (.aload_n 0, 1) := by decide +kernel
theorem dX8_init_83 : decode cX8_init 83 = .ok (.iconst 2, 1) := by decide +kernel
theorem dX8_init_84 : decode cX8_init 84 = .ok (.newarray .boolean, 2) := by decide +kernel
theorem dX8_init_86 : decode cX8_init 86 = .ok (.putfield 38, 3) := by decide +kernel
theorem dX8_init_89 : decode cX8_init 89 = .ok (.aload_n 0, 1) := by decide +kernel
theorem dX8_init_90 : decode cX8_init 90 = .ok (.bipush 10, 2) := by decide +kernel
theorem dX8_init_92 : decode cX8_init 92 = .ok (.newarray .long, 2) := by decide +kernel
theorem dX8_init_94 : decode cX8_init 94 = .ok (.putfield 42, 3) := by decide +kernel
theorem dX8_init_97 : decode cX8_init 97 = .ok (.aload_n 0, 1) := by decide +kernel
theorem dX8_init_98 : decode cX8_init 98 = .ok (.bipush 10, 2) := by decide +kernel
theorem dX8_init_100 : decode cX8_init 100 = .ok (.newarray .long, 2) := by decide +kernel
theorem dX8_init_102 : decode cX8_init 102 = .ok (.putfield 45, 3) := by decide +kernel
theorem dX8_init_105 : decode cX8_init 105 = .ok (.aload_n 0, 1) := by decide +kernel
theorem dX8_init_106 : decode cX8_init 106 = .ok (.bipush 10, 2) := by decide +kernel
theorem dX8_init_108 : decode cX8_init 108 = .ok (.newarray .long, 2) := by decide +kernel
theorem dX8_init_110 : decode cX8_init 110 = .ok (.putfield 48, 3) := by decide +kernel
theorem dX8_init_113 : decode cX8_init 113 = .ok (.aload_n 0, 1) := by decide +kernel
theorem dX8_init_114 : decode cX8_init 114 = .ok (.bipush 10, 2) := by decide +kernel
theorem dX8_init_116 : decode cX8_init 116 = .ok (.newarray .long, 2) := by decide +kernel
theorem dX8_init_118 : decode cX8_init 118 = .ok (.putfield 51, 3) := by decide +kernel
theorem dX8_init_121 : decode cX8_init 121 = .ok (.aload_n 0, 1) := by decide +kernel
theorem dX8_init_122 : decode cX8_init 122 = .ok (.bipush 8, 2) := by decide +kernel
theorem dX8_init_124 : decode cX8_init 124 = .ok (.newarray .long, 2) := by decide +kernel
theorem dX8_init_126 : decode cX8_init 126 = .ok (.putfield 54, 3) := by decide +kernel
theorem dX8_init_129 : decode cX8_init 129 = .ok (.aload_n 0, 1) := by decide +kernel
theorem dX8_init_130 : decode cX8_init 130 = .ok (.bipush 16, 2) := by decide +kernel
theorem dX8_init_132 : decode cX8_init 132 = .ok (.newarray .int, 2) := by decide +kernel
theorem dX8_init_134 : decode cX8_init 134 = .ok (.putfield 57, 3) := by decide +kernel
theorem dX8_init_137 : decode cX8_init 137 = .ok (.iconst 0, 1) := by decide +kernel
theorem dX8_init_138 : decode cX8_init 138 = .ok (.istore_n 1, 1) := by decide +kernel
theorem dX8_init_139 : decode cX8_init 139 = .ok (.iload_n 1, 1) := by decide +kernel
theorem dX8_init_140 : decode cX8_init 140 = .ok (.bipush 8, 2) := by decide +kernel
theorem dX8_init_142 : decode cX8_init 142 = .ok (.if_icmp .ge 17, 3) := by decide +kernel
theorem dX8_init_145 : decode cX8_init 145 = .ok (.aload_n 0, 1) := by decide +kernel
theorem dX8_init_146 : decode cX8_init 146 = .ok (.getfield 7, 3) := by decide +kernel
theorem dX8_init_149 : decode cX8_init 149 = .ok (.iload_n 1, 1) := by decide +kernel
theorem dX8_init_150 : decode cX8_init 150 = .ok (.ldc 60, 2) := by decide +kernel
theorem dX8_init_152 : decode cX8_init 152 = .ok (.iastore, 1) := by decide +kernel
theorem dX8_init_153 : decode cX8_init 153 = .ok (.iinc 1 1, 3) := by decide +kernel
theorem dX8_init_156 : decode cX8_init 156 = .ok (.goto (-17), 3) := by decide +kernel
theorem dX8_init_159 : decode cX8_init 159 = .ok (.aload_n 0, 1) := by decide +kernel
theorem dX8_init_160 : decode cX8_init 160 = .ok (.getfield 25, 3) := by decide +kernel
theorem dX8_init_163 : decode cX8_init 163 = .ok (.bipush 8, 2) := by decide +kernel
theorem dX8_init_165 : decode cX8_init 165 = .ok (.ldc2_w 61, 3) := by decide +kernel
theorem dX8_init_168 : decode cX8_init 168 = .ok (.lastore, 1) := by decide +kernel
theorem dX8_init_169 : decode cX8_init 169 = .ok (.return_, 1) := by decide +kernel
theorem dX8_in_0 : decode cX8_in 0 = .ok (.iload_n 0, 1) := by decide +kernel
theorem dX8_in_1 : decode cX8_in 1 = .ok (.iload_n 1, 1) := by decide +kernel
theorem dX8_in_2 : decode cX8_in 2 = .ok (.if_icmp .lt 12, 3) := by decide +kernel
theorem dX8_in_5 : decode cX8_in 5 = .ok (.iload_n 0, 1) := by decide +kernel
theorem dX8_in_6 : decode cX8_in 6 = .ok (.iload_n 2, 1) := by decide +kernel
theorem dX8_in_7 : decode cX8_in 7 = .ok (.if_icmp .gt 7, 3) := by decide +kernel
theorem dX8_in_10 : decode cX8_in 10 = .ok (.iconst 1, 1) := by decide +kernel
theorem dX8_in_11 : decode cX8_in 11 = .ok (.goto 4, 3) := by decide +kernel
theorem dX8_in_14 : decode cX8_in 14 = .ok (.iconst 0, 1) := by decide +kernel
theorem dX8_in_15 : decode cX8_in 15 = .ok (.ireturn, 1) := by decide +kernel
theorem dX8_has_0 : decode cX8_has 0 = .ok (.iload_n 0, 1) := by decide +kernel
theorem dX8_has_1 : decode cX8_has 1 = .ok (.iload_n 1, 1) := by decide +kernel
theorem dX8_has_2 : decode cX8_has 2 = .ok (.ishr, 1) := by decide +kernel
theorem dX8_has_3 : decode cX8_has 3 = .ok (.iconst 1, 1) := by decide +kernel
theorem dX8_has_4 : decode cX8_has 4 = .ok (.iand, 1) := by decide +kernel
theorem dX8_has_5 : decode cX8_has 5 = .ok (.iconst 1, 1) := by decide +kernel
theorem dX8_has_6 : decode cX8_has 6 = .ok (.if_icmp .ne 7, 3) := by decide +kernel
theorem dX8_has_9 : decode cX8_has 9 = .ok (.iconst 1, 1) := by decide +kernel
theorem dX8_has_10 : decode cX8_has 10 = .ok (.goto 4, 3) := by decide +kernel
theorem dX8_has_13 : decode cX8_has 13 = .ok (.iconst 0, 1) := by decide +kernel
theorem dX8_has_14 : decode cX8_has 14 = .ok (.ireturn, 1) := by decide +kernel
theorem dX8_ones_0 : decode cX8_ones 0 = .ok (.iconst 0, 1) := by decide +kernel
theorem dX8_ones_1 : decode cX8_ones 1 = .ok (.istore_n 1, 1) := by decide +kernel
theorem dX8_ones_2 : decode cX8_ones 2 = .ok (.iconst 0, 1) := by decide +kernel
theorem dX8_ones_3 : decode cX8_ones 3 = .ok (.istore_n 2, 1) := by decide +kernel
theorem dX8_ones_4 : decode cX8_ones 4 = .ok (.iload_n 2, 1) := by decide +kernel
theorem dX8_ones_5 : decode cX8_ones 5 = .ok (.bipush 30, 2) := by decide +kernel
theorem dX8_ones_7 : decode cX8_ones 7 = .ok (.if_icmp .ge 17, 3) := by decide +kernel
theorem dX8_ones_10 : decode cX8_ones 10 = .ok (.iload_n 1, 1) := by decide +kernel
theorem dX8_ones_11 : decode cX8_ones 11 = .ok (.iload_n 0, 1) := by decide +kernel
theorem dX8_ones_12 : decode cX8_ones 12 = .ok (.iload_n 2, 1) := by decide +kernel
theorem dX8_ones_13 : decode cX8_ones 13 = .ok (.ishr, 1) := by decide +kernel
theorem dX8_ones_14 : decode cX8_ones 14 = .ok (.iconst 1, 1) := by decide +kernel
theorem dX8_ones_15 : decode cX8_ones 15 = .ok (.iand, 1) := by decide +kernel
theorem dX8_ones_16 : decode cX8_ones 16 = .ok (.iadd, 1) := by decide +kernel
theorem dX8_ones_17 : decode cX8_ones 17 = .ok (.istore_n 1, 1) := by decide +kernel
theorem dX8_ones_18 : decode cX8_ones 18 = .ok (.iinc 2 1, 3) := by decide +kernel
theorem dX8_ones_21 : decode cX8_ones 21 = .ok (.goto (-17), 3) := by decide +kernel
theorem dX8_ones_24 : decode cX8_ones 24 = .ok (.iload_n 1, 1) := by decide +kernel
theorem dX8_ones_25 : decode cX8_ones 25 = .ok (.ireturn, 1) := by decide +kernel
theorem dX8_found_0 : decode cX8_found 0 = .ok (.aload_n 0, 1) := by decide +kernel
theorem dX8_found_1 : decode cX8_found 1 = .ok (.iload_n 1, 1) := by decide +kernel
theorem dX8_found_2 : decode cX8_found 2 = .ok (.putfield 63, 3) := by decide +kernel
theorem dX8_found_5 : decode cX8_found 5 = .ok (.ldc 67, 2) := by decide +kernel
theorem dX8_found_7 : decode cX8_found 7 = .ok (.iload_n 1, 1) := by decide +kernel
theorem dX8_found_8 : decode cX8_found 8 = .ok (.isub, 1) := by decide +kernel
theorem dX8_found_9 : decode cX8_found 9 = .ok (.ireturn, 1) := by decide +kernel
theorem dX8_well_0 : decode cX8_well 0 = .ok (.aload_n 0, 1) := by decide +kernel
theorem dX8_well_1 : decode cX8_well 1 = .ok (.iconst 0, 1) := by decide +kernel
theorem dX8_well_2 : decode cX8_well 2 = .ok (.putfield 63, 3) := by decide +kernel
theorem dX8_well_5 : decode cX8_well 5 = .ok (.iload_n 1, 1) := by decide +kernel
theorem dX8_well_6 : decode cX8_well 6 = .ok (.ireturn, 1) := by decide +kernel
theorem dX8_copies_0 : decode cX8_copies 0 = .ok (.iconst 0, 1) := by decide +kernel
theorem dX8_copies_1 : decode cX8_copies 1 = .ok (.istore 5, 2) := by decide +kernel
theorem dX8_copies_3 : decode cX8_copies 3 = .ok (.iload 5, 2) := by decide +kernel
theorem dX8_copies_5 : decode cX8_copies 5 = .ok (.iload 4, 2) := by decide +kernel
theorem dX8_copies_7 : decode cX8_copies 7 = .ok (.if_icmp .ge 21, 3) := by decide +kernel
theorem dX8_copies_10 : decode cX8_copies 10 = .ok (.aload_n 2, 1) := by decide +kernel
theorem dX8_copies_11 : decode cX8_copies 11 = .ok (.iload_n 3, 1) := by decide +kernel
theorem dX8_copies_12 : decode cX8_copies 12 = .ok (.iload 5, 2) := by decide +kernel
theorem dX8_copies_14 : decode cX8_copies 14 = .ok (.iadd, 1) := by decide +kernel
theorem dX8_copies_15 : decode cX8_copies 15 = .ok (.aload_n 0, 1) := by decide +kernel
theorem dX8_copies_16 : decode cX8_copies 16 = .ok (.iload_n 1, 1) := by decide +kernel
theorem dX8_copies_17 : decode cX8_copies 17 = .ok (.iload 5, 2) := by decide +kernel
theorem dX8_copies_19 : decode cX8_copies 19 = .ok (.iadd, 1) := by decide +kernel
theorem dX8_copies_20 : decode cX8_copies 20 = .ok (.laload, 1) := by decide +kernel
theorem dX8_copies_21 : decode cX8_copies 21 = .ok (.lastore, 1) := by decide +kernel
theorem dX8_copies_22 : decode cX8_copies 22 = .ok (.iinc 5 1, 3) := by decide +kernel
theorem dX8_copies_25 : decode cX8_copies 25 = .ok (.goto (-22), 3) := by decide +kernel
theorem dX8_copies_28 : decode cX8_copies 28 = .ok (.return_, 1) := by decide +kernel
theorem dX8_size_0 : decode cX8_size 0 = .ok (.lload_n 0, 1) := by decide +kernel
theorem dX8_size_1 : decode cX8_size 1 = .ok (.lconst 0, 1) := by decide +kernel
theorem dX8_size_2 : decode cX8_size 2 = .ok (.lcmp, 1) := by decide +kernel
theorem dX8_size_3 : decode cX8_size 3 = .ok (.ifCond .ge 8, 3) := by decide +kernel
theorem dX8_size_6 : decode cX8_size 6 = .ok (.lload_n 0, 1) := by decide +kernel
theorem dX8_size_7 : decode cX8_size 7 = .ok (.lneg, 1) := by decide +kernel
theorem dX8_size_8 : decode cX8_size 8 = .ok (.goto 4, 3) := by decide +kernel
theorem dX8_size_11 : decode cX8_size 11 = .ok (.lload_n 0, 1) := by decide +kernel
theorem dX8_size_12 : decode cX8_size 12 = .ok (.lreturn, 1) := by decide +kernel
theorem dX8_isRow_0 : decode cX8_isRow 0 = .ok (.iload_n 0, 1) := by decide +kernel
theorem dX8_isRow_1 : decode cX8_isRow 1 = .ok (.iconst 0, 1) := by decide +kernel
theorem dX8_isRow_2 : decode cX8_isRow 2 = .ok (.bipush 7, 2) := by decide +kernel
theorem dX8_isRow_4 : decode cX8_isRow 4 = .ok (.invokestatic 68, 3) := by decide +kernel
theorem dX8_isRow_7 : decode cX8_isRow 7 = .ok (.ireturn, 1) := by decide +kernel
theorem dX8_isMissing_0 : decode cX8_isMissing 0 = .ok (.aload_n 0, 1) := by decide +kernel
theorem dX8_isMissing_1 : decode cX8_isMissing 1 = .ok (.getfield 7, 3) := by decide +kernel
theorem dX8_isMissing_4 : decode cX8_isMissing 4 = .ok (.iload_n 1, 1) := by decide +kernel
theorem dX8_isMissing_5 : decode cX8_isMissing 5 = .ok (.iaload, 1) := by decide +kernel
theorem dX8_isMissing_6 : decode cX8_isMissing 6 = .ok (.ldc 60, 2) := by decide +kernel
theorem dX8_isMissing_8 : decode cX8_isMissing 8 = .ok (.if_icmp .ne 7, 3) := by decide +kernel
theorem dX8_isMissing_11 : decode cX8_isMissing 11 = .ok (.iconst 1, 1) := by decide +kernel
theorem dX8_isMissing_12 : decode cX8_isMissing 12 = .ok (.goto 4, 3) := by decide +kernel
theorem dX8_isMissing_15 : decode cX8_isMissing 15 = .ok (.iconst 0, 1) := by decide +kernel
theorem dX8_isMissing_16 : decode cX8_isMissing 16 = .ok (.ireturn, 1) := by decide +kernel
theorem dX8_lowest_0 : decode cX8_lowest 0 = .ok (.iload_n 0, 1) := by decide +kernel
theorem dX8_lowest_1 : decode cX8_lowest 1 = .ok (.ifCond .ne 13, 3) := by decide +kernel
theorem dX8_lowest_4 : decode cX8_lowest 4 = .ok (.iload_n 1, 1) := by decide +kernel
theorem dX8_lowest_5 : decode cX8_lowest 5 = .ok (.bipush 24, 2) := by decide +kernel
theorem dX8_lowest_7 : decode cX8_lowest 7 = .ok (.ishl, 1) := by decide +kernel
theorem dX8_lowest_8 : decode cX8_lowest 8 = .ok (.bipush 24, 2) := by decide +kernel
theorem dX8_lowest_10 : decode cX8_lowest 10 = .ok (.ishr, 1) := by decide +kernel
theorem dX8_lowest_11 : decode cX8_lowest 11 = .ok (.goto 19, 3) := by decide +kernel
theorem dX8_lowest_14 : decode cX8_lowest 14 = .ok (.iload_n 0, 1) := by decide +kernel
theorem dX8_lowest_15 : decode cX8_lowest 15 = .ok (.iconst 1, 1) := by decide +kernel
theorem dX8_lowest_16 : decode cX8_lowest 16 = .ok (.if_icmp .ne 13, 3) := by decide +kernel
theorem dX8_lowest_19 : decode cX8_lowest 19 = .ok (.iload_n 1, 1) := by decide +kernel
theorem dX8_lowest_20 : decode cX8_lowest 20 = .ok (.bipush 16, 2) := by decide +kernel
theorem dX8_lowest_22 : decode cX8_lowest 22 = .ok (.ishl, 1) := by decide +kernel
theorem dX8_lowest_23 : decode cX8_lowest 23 = .ok (.bipush 16, 2) := by decide +kernel
theorem dX8_lowest_25 : decode cX8_lowest 25 = .ok (.ishr, 1) := by decide +kernel
theorem dX8_lowest_26 : decode cX8_lowest 26 = .ok (.goto 4, 3) := by decide +kernel
theorem dX8_lowest_29 : decode cX8_lowest 29 = .ok (.iload_n 1, 1) := by decide +kernel
theorem dX8_lowest_30 : decode cX8_lowest 30 = .ok (.ireturn, 1) := by decide +kernel
theorem dX8_row_0 : decode cX8_row 0 = .ok (.iload_n 1, 1) := by decide +kernel
theorem dX8_row_1 : decode cX8_row 1 = .ok (.invokestatic 72, 3) := by decide +kernel
theorem dX8_row_4 : decode cX8_row 4 = .ok (.ifCond .eq 18, 3) := by decide +kernel
theorem dX8_row_7 : decode cX8_row 7 = .ok (.iload_n 2, 1) := by decide +kernel
theorem dX8_row_8 : decode cX8_row 8 = .ok (.iconst 0, 1) := by decide +kernel
theorem dX8_row_9 : decode cX8_row 9 = .ok (.iconst 2, 1) := by decide +kernel
theorem dX8_row_10 : decode cX8_row 10 = .ok (.invokestatic 68, 3) := by decide +kernel
theorem dX8_row_13 : decode cX8_row 13 = .ok (.ifCond .eq 9, 3) := by decide +kernel
theorem dX8_row_16 : decode cX8_row 16 = .ok (.iload_n 3, 1) := by decide +kernel
theorem dX8_row_17 : decode cX8_row 17 = .ok (.bipush 40, 2) := by decide +kernel
theorem dX8_row_19 : decode cX8_row 19 = .ok (.if_icmp .le 6, 3) := by decide +kernel
theorem dX8_row_22 : decode cX8_row 22 = .ok (.ldc 76, 2) := by decide +kernel
theorem dX8_row_24 : decode cX8_row 24 = .ok (.ireturn, 1) := by decide +kernel
theorem dX8_row_25 : decode cX8_row 25 = .ok (.iload_n 3, 1) := by decide +kernel
theorem dX8_row_26 : decode cX8_row 26 = .ok (.ifCond .ge 9, 3) := by decide +kernel
theorem dX8_row_29 : decode cX8_row 29 = .ok (.aload_n 0, 1) := by decide +kernel
theorem dX8_row_30 : decode cX8_row 30 = .ok (.iconst 4, 1) := by decide +kernel
theorem dX8_row_31 : decode cX8_row 31 = .ok (.invokevirtual 77, 3) := by decide +kernel
theorem dX8_row_34 : decode cX8_row 34 = .ok (.ireturn, 1) := by decide +kernel
theorem dX8_row_35 : decode cX8_row 35 = .ok (.aload_n 0, 1) := by decide +kernel
theorem dX8_row_36 : decode cX8_row 36 = .ok (.getfield 7, 3) := by decide +kernel
theorem dX8_row_39 : decode cX8_row 39 = .ok (.iload_n 1, 1) := by decide +kernel
theorem dX8_row_40 : decode cX8_row 40 = .ok (.iload_n 2, 1) := by decide +kernel
theorem dX8_row_41 : decode cX8_row 41 = .ok (.iastore, 1) := by decide +kernel
theorem dX8_row_42 : decode cX8_row 42 = .ok (.aload_n 0, 1) := by decide +kernel
theorem dX8_row_43 : decode cX8_row 43 = .ok (.getfield 13, 3) := by decide +kernel
theorem dX8_row_46 : decode cX8_row 46 = .ok (.iload_n 1, 1) := by decide +kernel
theorem dX8_row_47 : decode cX8_row 47 = .ok (.iload_n 3, 1) := by decide +kernel
theorem dX8_row_48 : decode cX8_row 48 = .ok (.iastore, 1) := by decide +kernel
theorem dX8_row_49 : decode cX8_row 49 = .ok (.iconst 0, 1) := by decide +kernel
theorem dX8_row_50 : decode cX8_row 50 = .ok (.istore 4, 2) := by decide +kernel
theorem dX8_row_52 : decode cX8_row 52 = .ok (.iload 4, 2) := by decide +kernel
theorem dX8_row_54 : decode cX8_row 54 = .ok (.bipush 40, 2) := by decide +kernel
theorem dX8_row_56 : decode cX8_row 56 = .ok (.if_icmp .ge 22, 3) := by decide +kernel
theorem dX8_row_59 : decode cX8_row 59 = .ok (.aload_n 0, 1) := by decide +kernel
theorem dX8_row_60 : decode cX8_row 60 = .ok (.getfield 16, 3) := by decide +kernel
theorem dX8_row_63 : decode cX8_row 63 = .ok (.bipush 40, 2) := by decide +kernel
theorem dX8_row_65 : decode cX8_row 65 = .ok (.iload_n 1, 1) := by decide +kernel
theorem dX8_row_66 : decode cX8_row 66 = .ok (.imul, 1) := by decide +kernel
theorem dX8_row_67 : decode cX8_row 67 = .ok (.iload 4, 2) := by decide +kernel
theorem dX8_row_69 : decode cX8_row 69 = .ok (.iadd, 1) := by decide +kernel
theorem dX8_row_70 : decode cX8_row 70 = .ok (.iconst 0, 1) := by decide +kernel
theorem dX8_row_71 : decode cX8_row 71 = .ok (.iastore, 1) := by decide +kernel
theorem dX8_row_72 : decode cX8_row 72 = .ok (.iinc 4 1, 3) := by decide +kernel
theorem dX8_row_75 : decode cX8_row 75 = .ok (.goto (-23), 3) := by decide +kernel
theorem dX8_row_78 : decode cX8_row 78 = .ok (.aload_n 0, 1) := by decide +kernel
theorem dX8_row_79 : decode cX8_row 79 = .ok (.iload_n 3, 1) := by decide +kernel
theorem dX8_row_80 : decode cX8_row 80 = .ok (.invokevirtual 81, 3) := by decide +kernel
theorem dX8_row_83 : decode cX8_row 83 = .ok (.ireturn, 1) := by decide +kernel
theorem dX8_set_0 : decode cX8_set 0 = .ok (.iload_n 1, 1) := by decide +kernel
theorem dX8_set_1 : decode cX8_set 1 = .ok (.invokestatic 72, 3) := by decide +kernel
theorem dX8_set_4 : decode cX8_set 4 = .ok (.ifCond .ne 6, 3) := by decide +kernel
theorem dX8_set_7 : decode cX8_set 7 = .ok (.ldc 76, 2) := by decide +kernel
theorem dX8_set_9 : decode cX8_set 9 = .ok (.ireturn, 1) := by decide +kernel
theorem dX8_set_10 : decode cX8_set 10 = .ok (.aload_n 0, 1) := by decide +kernel
theorem dX8_set_11 : decode cX8_set 11 = .ok (.iload_n 1, 1) := by decide +kernel
theorem dX8_set_12 : decode cX8_set 12 = .ok (.invokevirtual 84, 3) := by decide +kernel
theorem dX8_set_15 : decode cX8_set 15 = .ok (.ifCond .eq 9, 3) := by decide +kernel
theorem dX8_set_18 : decode cX8_set 18 = .ok (.aload_n 0, 1) := by decide +kernel
theorem dX8_set_19 : decode cX8_set 19 = .ok (.iconst 1, 1) := by decide +kernel
theorem dX8_set_20 : decode cX8_set 20 = .ok (.invokevirtual 77, 3) := by decide +kernel
theorem dX8_set_23 : decode cX8_set 23 = .ok (.ireturn, 1) := by decide +kernel
theorem dX8_set_24 : decode cX8_set 24 = .ok (.iload_n 2, 1) := by decide +kernel
theorem dX8_set_25 : decode cX8_set 25 = .ok (.iconst 0, 1) := by decide +kernel
theorem dX8_set_26 : decode cX8_set 26 = .ok (.aload_n 0, 1) := by decide +kernel
theorem dX8_set_27 : decode cX8_set 27 = .ok (.getfield 13, 3) := by decide +kernel
theorem dX8_set_30 : decode cX8_set 30 = .ok (.iload_n 1, 1) := by decide +kernel
theorem dX8_set_31 : decode cX8_set 31 = .ok (.iaload, 1) := by decide +kernel
theorem dX8_set_32 : decode cX8_set 32 = .ok (.iconst 1, 1) := by decide +kernel
theorem dX8_set_33 : decode cX8_set 33 = .ok (.isub, 1) := by decide +kernel
theorem dX8_set_34 : decode cX8_set 34 = .ok (.invokestatic 68, 3) := by decide +kernel
theorem dX8_set_37 : decode cX8_set 37 = .ok (.ifCond .ne 9, 3) := by decide +kernel
theorem dX8_set_40 : decode cX8_set 40 = .ok (.aload_n 0, 1) := by decide +kernel
theorem dX8_set_41 : decode cX8_set 41 = .ok (.iconst 2, 1) := by decide +kernel
theorem dX8_set_42 : decode cX8_set 42 = .ok (.invokevirtual 77, 3) := by decide +kernel
theorem dX8_set_45 : decode cX8_set 45 = .ok (.ireturn, 1) := by decide +kernel
theorem dX8_set_46 : decode cX8_set 46 = .ok (.aload_n 0, 1) := by decide +kernel
theorem dX8_set_47 : decode cX8_set 47 = .ok (.getfield 16, 3) := by decide +kernel
theorem dX8_set_50 : decode cX8_set 50 = .ok (.bipush 40, 2) := by decide +kernel
theorem dX8_set_52 : decode cX8_set 52 = .ok (.iload_n 1, 1) := by decide +kernel
theorem dX8_set_53 : decode cX8_set 53 = .ok (.imul, 1) := by decide +kernel
theorem dX8_set_54 : decode cX8_set 54 = .ok (.iload_n 2, 1) := by decide +kernel
theorem dX8_set_55 : decode cX8_set 55 = .ok (.iadd, 1) := by decide +kernel
theorem dX8_set_56 : decode cX8_set 56 = .ok (.aload_n 0, 1) := by decide +kernel
theorem dX8_set_57 : decode cX8_set 57 = .ok (.getfield 7, 3) := by decide +kernel
theorem dX8_set_60 : decode cX8_set 60 = .ok (.iload_n 1, 1) := by decide +kernel
theorem dX8_set_61 : decode cX8_set 61 = .ok (.iaload, 1) := by decide +kernel
theorem dX8_set_62 : decode cX8_set 62 = .ok (.iload_n 3, 1) := by decide +kernel
theorem dX8_set_63 : decode cX8_set 63 = .ok (.invokestatic 87, 3) := by decide +kernel
theorem dX8_set_66 : decode cX8_set 66 = .ok (.iastore, 1) := by decide +kernel
theorem dX8_set_67 : decode cX8_set 67 = .ok (.aload_n 0, 1) := by decide +kernel
theorem dX8_set_68 : decode cX8_set 68 = .ok (.aload_n 0, 1) := by decide +kernel
theorem dX8_set_69 : decode cX8_set 69 = .ok (.getfield 16, 3) := by decide +kernel
theorem dX8_set_72 : decode cX8_set 72 = .ok (.bipush 40, 2) := by decide +kernel
theorem dX8_set_74 : decode cX8_set 74 = .ok (.iload_n 1, 1) := by decide +kernel
theorem dX8_set_75 : decode cX8_set 75 = .ok (.imul, 1) := by decide +kernel
theorem dX8_set_76 : decode cX8_set 76 = .ok (.iload_n 2, 1) := by decide +kernel
theorem dX8_set_77 : decode cX8_set 77 = .ok (.iadd, 1) := by decide +kernel
theorem dX8_set_78 : decode cX8_set 78 = .ok (.iaload, 1) := by decide +kernel
theorem dX8_set_79 : decode cX8_set 79 = .ok (.invokevirtual 81, 3) := by decide +kernel
theorem dX8_set_82 : decode cX8_set 82 = .ok (.ireturn, 1) := by decide +kernel
theorem dX8_isPart_0 : decode cX8_isPart 0 = .ok (.iload_n 2, 1) := by decide +kernel
theorem dX8_isPart_1 : decode cX8_isPart 1 = .ok (.ifCond .lt 33, 3) := by decide +kernel
theorem dX8_isPart_4 : decode cX8_isPart 4 = .ok (.iload_n 3, 1) := by decide +kernel
theorem dX8_isPart_5 : decode cX8_isPart 5 = .ok (.ifCond .lt 29, 3) := by decide +kernel
theorem dX8_isPart_8 : decode cX8_isPart 8 = .ok (.iload_n 2, 1) := by decide +kernel
theorem dX8_isPart_9 : decode cX8_isPart 9 = .ok (.aload_n 0, 1) := by decide +kernel
theorem dX8_isPart_10 : decode cX8_isPart 10 = .ok (.getfield 13, 3) := by decide +kernel
theorem dX8_isPart_13 : decode cX8_isPart 13 = .ok (.iload_n 1, 1) := by decide +kernel
theorem dX8_isPart_14 : decode cX8_isPart 14 = .ok (.iaload, 1) := by decide +kernel
theorem dX8_isPart_15 : decode cX8_isPart 15 = .ok (.if_icmp .gt 19, 3) := by decide +kernel
theorem dX8_isPart_18 : decode cX8_isPart 18 = .ok (.iload_n 3, 1) := by decide +kernel
theorem dX8_isPart_19 : decode cX8_isPart 19 = .ok (.aload_n 0, 1) := by decide +kernel
theorem dX8_isPart_20 : decode cX8_isPart 20 = .ok (.getfield 13, 3) := by decide +kernel
theorem dX8_isPart_23 : decode cX8_isPart 23 = .ok (.iload_n 1, 1) := by decide +kernel
theorem dX8_isPart_24 : decode cX8_isPart 24 = .ok (.iaload, 1) := by decide +kernel
theorem dX8_isPart_25 : decode cX8_isPart 25 = .ok (.iload_n 2, 1) := by decide +kernel
theorem dX8_isPart_26 : decode cX8_isPart 26 = .ok (.isub, 1) := by decide +kernel
theorem dX8_isPart_27 : decode cX8_isPart 27 = .ok (.if_icmp .gt 7, 3) := by decide +kernel
theorem dX8_isPart_30 : decode cX8_isPart 30 = .ok (.iconst 1, 1) := by decide +kernel
theorem dX8_isPart_31 : decode cX8_isPart 31 = .ok (.goto 4, 3) := by decide +kernel
theorem dX8_isPart_34 : decode cX8_isPart 34 = .ok (.iconst 0, 1) := by decide +kernel
theorem dX8_isPart_35 : decode cX8_isPart 35 = .ok (.ireturn, 1) := by decide +kernel
theorem dX8_copy_0 : decode cX8_copy 0 = .ok (.iload_n 1, 1) := by decide +kernel
theorem dX8_copy_1 : decode cX8_copy 1 = .ok (.invokestatic 72, 3) := by decide +kernel
theorem dX8_copy_4 : decode cX8_copy 4 = .ok (.ifCond .eq 10, 3) := by decide +kernel
theorem dX8_copy_7 : decode cX8_copy 7 = .ok (.iload_n 3, 1) := by decide +kernel
theorem dX8_copy_8 : decode cX8_copy 8 = .ok (.invokestatic 72, 3) := by decide +kernel
theorem dX8_copy_11 : decode cX8_copy 11 = .ok (.ifCond .ne 6, 3) := by decide +kernel
theorem dX8_copy_14 : decode cX8_copy 14 = .ok (.ldc 76, 2) := by decide +kernel
theorem dX8_copy_16 : decode cX8_copy 16 = .ok (.ireturn, 1) := by decide +kernel
theorem dX8_copy_17 : decode cX8_copy 17 = .ok (.aload_n 0, 1) := by decide +kernel
theorem dX8_copy_18 : decode cX8_copy 18 = .ok (.iload_n 1, 1) := by decide +kernel
theorem dX8_copy_19 : decode cX8_copy 19 = .ok (.invokevirtual 84, 3) := by decide +kernel
theorem dX8_copy_22 : decode cX8_copy 22 = .ok (.ifCond .ne 11, 3) := by decide +kernel
theorem dX8_copy_25 : decode cX8_copy 25 = .ok (.aload_n 0, 1) := by decide +kernel
theorem dX8_copy_26 : decode cX8_copy 26 = .ok (.iload_n 3, 1) := by decide +kernel
theorem dX8_copy_27 : decode cX8_copy 27 = .ok (.invokevirtual 84, 3) := by decide +kernel
theorem dX8_copy_30 : decode cX8_copy 30 = .ok (.ifCond .eq 9, 3) := by decide +kernel
theorem dX8_copy_33 : decode cX8_copy 33 = .ok (.aload_n 0, 1) := by decide +kernel
theorem dX8_copy_34 : decode cX8_copy 34 = .ok (.iconst 1, 1) := by decide +kernel
theorem dX8_copy_35 : decode cX8_copy 35 = .ok (.invokevirtual 77, 3) := by decide +kernel
theorem dX8_copy_38 : decode cX8_copy 38 = .ok (.ireturn, 1) := by decide +kernel
theorem dX8_copy_39 : decode cX8_copy 39 = .ok (.aload_n 0, 1) := by decide +kernel
theorem dX8_copy_40 : decode cX8_copy 40 = .ok (.getfield 7, 3) := by decide +kernel
theorem dX8_copy_43 : decode cX8_copy 43 = .ok (.iload_n 1, 1) := by decide +kernel
theorem dX8_copy_44 : decode cX8_copy 44 = .ok (.iaload, 1) := by decide +kernel
theorem dX8_copy_45 : decode cX8_copy 45 = .ok (.aload_n 0, 1) := by decide +kernel
theorem dX8_copy_46 : decode cX8_copy 46 = .ok (.getfield 7, 3) := by decide +kernel
theorem dX8_copy_49 : decode cX8_copy 49 = .ok (.iload_n 3, 1) := by decide +kernel
theorem dX8_copy_50 : decode cX8_copy 50 = .ok (.iaload, 1) := by decide +kernel
theorem dX8_copy_51 : decode cX8_copy 51 = .ok (.if_icmp .eq 9, 3) := by decide +kernel
theorem dX8_copy_54 : decode cX8_copy 54 = .ok (.aload_n 0, 1) := by decide +kernel
theorem dX8_copy_55 : decode cX8_copy 55 = .ok (.iconst 5, 1) := by decide +kernel
theorem dX8_copy_56 : decode cX8_copy 56 = .ok (.invokevirtual 77, 3) := by decide +kernel
theorem dX8_copy_59 : decode cX8_copy 59 = .ok (.ireturn, 1) := by decide +kernel
theorem dX8_copy_60 : decode cX8_copy 60 = .ok (.aload_n 0, 1) := by decide +kernel
theorem dX8_copy_61 : decode cX8_copy 61 = .ok (.iload_n 1, 1) := by decide +kernel
theorem dX8_copy_62 : decode cX8_copy 62 = .ok (.iload_n 2, 1) := by decide +kernel
theorem dX8_copy_63 : decode cX8_copy 63 = .ok (.iload 5, 2) := by decide +kernel
theorem dX8_copy_65 : decode cX8_copy 65 = .ok (.invokevirtual 91, 3) := by decide +kernel
theorem dX8_copy_68 : decode cX8_copy 68 = .ok (.ifCond .eq 15, 3) := by decide +kernel
theorem dX8_copy_71 : decode cX8_copy 71 = .ok (.aload_n 0, 1) := by decide +kernel
theorem dX8_copy_72 : decode cX8_copy 72 = .ok (.iload_n 3, 1) := by decide +kernel
theorem dX8_copy_73 : decode cX8_copy 73 = .ok (.iload 4, 2) := by decide +kernel
theorem dX8_copy_75 : decode cX8_copy 75 = .ok (.iload 5, 2) := by decide +kernel
theorem dX8_copy_77 : decode cX8_copy 77 = .ok (.invokevirtual 91, 3) := by decide +kernel
theorem dX8_copy_80 : decode cX8_copy 80 = .ok (.ifCond .ne 9, 3) := by decide +kernel
theorem dX8_copy_83 : decode cX8_copy 83 = .ok (.aload_n 0, 1) := by decide +kernel
theorem dX8_copy_84 : decode cX8_copy 84 = .ok (.iconst 2, 1) := by decide +kernel
theorem dX8_copy_85 : decode cX8_copy 85 = .ok (.invokevirtual 77, 3) := by decide +kernel
theorem dX8_copy_88 : decode cX8_copy 88 = .ok (.ireturn, 1) := by decide +kernel
theorem dX8_copy_89 : decode cX8_copy 89 = .ok (.iconst 0, 1) := by decide +kernel
theorem dX8_copy_90 : decode cX8_copy 90 = .ok (.istore 6, 2) := by decide +kernel
theorem dX8_copy_92 : decode cX8_copy 92 = .ok (.iload 6, 2) := by decide +kernel
theorem dX8_copy_94 : decode cX8_copy 94 = .ok (.iload 5, 2) := by decide +kernel
theorem dX8_copy_96 : decode cX8_copy 96 = .ok (.if_icmp .ge 30, 3) := by decide +kernel
theorem dX8_copy_99 : decode cX8_copy 99 = .ok (.aload_n 0, 1) := by decide +kernel
theorem dX8_copy_100 : decode cX8_copy 100 = .ok (.getfield 19, 3) := by decide +kernel
theorem dX8_copy_103 : decode cX8_copy 103 = .ok (.iload 6, 2) := by decide +kernel
theorem dX8_copy_105 : decode cX8_copy 105 = .ok (.aload_n 0, 1) := by decide +kernel
theorem dX8_copy_106 : decode cX8_copy 106 = .ok (.getfield 16, 3) := by decide +kernel
theorem dX8_copy_109 : decode cX8_copy 109 = .ok (.bipush 40, 2) := by decide +kernel
theorem dX8_copy_111 : decode cX8_copy 111 = .ok (.iload_n 1, 1) := by decide +kernel
theorem dX8_copy_112 : decode cX8_copy 112 = .ok (.imul, 1) := by decide +kernel
theorem dX8_copy_113 : decode cX8_copy 113 = .ok (.iload_n 2, 1) := by decide +kernel
theorem dX8_copy_114 : decode cX8_copy 114 = .ok (.iadd, 1) := by decide +kernel
theorem dX8_copy_115 : decode cX8_copy 115 = .ok (.iload 6, 2) := by decide +kernel
theorem dX8_copy_117 : decode cX8_copy 117 = .ok (.iadd, 1) := by decide +kernel
theorem dX8_copy_118 : decode cX8_copy 118 = .ok (.iaload, 1) := by decide +kernel
theorem dX8_copy_119 : decode cX8_copy 119 = .ok (.iastore, 1) := by decide +kernel
theorem dX8_copy_120 : decode cX8_copy 120 = .ok (.iinc 6 1, 3) := by decide +kernel
theorem dX8_copy_123 : decode cX8_copy 123 = .ok (.goto (-31), 3) := by decide +kernel
theorem dX8_copy_126 : decode cX8_copy 126 = .ok (.iconst 0, 1) := by decide +kernel
theorem dX8_copy_127 : decode cX8_copy 127 = .ok (.istore 6, 2) := by decide +kernel
theorem dX8_copy_129 : decode cX8_copy 129 = .ok (.iload 6, 2) := by decide +kernel
theorem dX8_copy_131 : decode cX8_copy 131 = .ok (.iload 5, 2) := by decide +kernel
theorem dX8_copy_133 : decode cX8_copy 133 = .ok (.if_icmp .ge 31, 3) := by decide +kernel
theorem dX8_copy_136 : decode cX8_copy 136 = .ok (.aload_n 0, 1) := by decide +kernel
theorem dX8_copy_137 : decode cX8_copy 137 = .ok (.getfield 16, 3) := by decide +kernel
theorem dX8_copy_140 : decode cX8_copy 140 = .ok (.bipush 40, 2) := by decide +kernel
theorem dX8_copy_142 : decode cX8_copy 142 = .ok (.iload_n 3, 1) := by decide +kernel
theorem dX8_copy_143 : decode cX8_copy 143 = .ok (.imul, 1) := by decide +kernel
theorem dX8_copy_144 : decode cX8_copy 144 = .ok (.iload 4, 2) := by decide +kernel
theorem dX8_copy_146 : decode cX8_copy 146 = .ok (.iadd, 1) := by decide +kernel
theorem dX8_copy_147 : decode cX8_copy 147 = .ok (.iload 6, 2) := by decide +kernel
theorem dX8_copy_149 : decode cX8_copy 149 = .ok (.iadd, 1) := by decide +kernel
theorem dX8_copy_150 : decode cX8_copy 150 = .ok (.aload_n 0, 1) := by decide +kernel
theorem dX8_copy_151 : decode cX8_copy 151 = .ok (.getfield 19, 3) := by decide +kernel
theorem dX8_copy_154 : decode cX8_copy 154 = .ok (.iload 6, 2) := by decide +kernel
theorem dX8_copy_156 : decode cX8_copy 156 = .ok (.iaload, 1) := by decide +kernel
theorem dX8_copy_157 : decode cX8_copy 157 = .ok (.iastore, 1) := by decide +kernel
theorem dX8_copy_158 : decode cX8_copy 158 = .ok (.iinc 6 1, 3) := by decide +kernel
theorem dX8_copy_161 : decode cX8_copy 161 = .ok (.goto (-32), 3) := by decide +kernel
theorem dX8_copy_164 : decode cX8_copy 164 = .ok (.aload_n 0, 1) := by decide +kernel
theorem dX8_copy_165 : decode cX8_copy 165 = .ok (.iload 5, 2) := by decide +kernel
theorem dX8_copy_167 : decode cX8_copy 167 = .ok (.invokevirtual 81, 3) := by decide +kernel
theorem dX8_copy_170 : decode cX8_copy 170 = .ok (.ireturn, 1) := by decide +kernel
theorem dX8_drop_0 : decode cX8_drop 0 = .ok (.iload_n 1, 1) := by decide +kernel
theorem dX8_drop_1 : decode cX8_drop 1 = .ok (.invokestatic 72, 3) := by decide +kernel
theorem dX8_drop_4 : decode cX8_drop 4 = .ok (.ifCond .ne 6, 3) := by decide +kernel
theorem dX8_drop_7 : decode cX8_drop 7 = .ok (.ldc 76, 2) := by decide +kernel
theorem dX8_drop_9 : decode cX8_drop 9 = .ok (.ireturn, 1) := by decide +kernel
theorem dX8_drop_10 : decode cX8_drop 10 = .ok (.aload_n 0, 1) := by decide +kernel
theorem dX8_drop_11 : decode cX8_drop 11 = .ok (.iload_n 1, 1) := by decide +kernel
theorem dX8_drop_12 : decode cX8_drop 12 = .ok (.invokevirtual 84, 3) := by decide +kernel
theorem dX8_drop_15 : decode cX8_drop 15 = .ok (.ifCond .eq 9, 3) := by decide +kernel
theorem dX8_drop_18 : decode cX8_drop 18 = .ok (.aload_n 0, 1) := by decide +kernel
theorem dX8_drop_19 : decode cX8_drop 19 = .ok (.iconst 1, 1) := by decide +kernel
theorem dX8_drop_20 : decode cX8_drop 20 = .ok (.invokevirtual 77, 3) := by decide +kernel
theorem dX8_drop_23 : decode cX8_drop 23 = .ok (.ireturn, 1) := by decide +kernel
theorem dX8_drop_24 : decode cX8_drop 24 = .ok (.aload_n 0, 1) := by decide +kernel
theorem dX8_drop_25 : decode cX8_drop 25 = .ok (.getfield 7, 3) := by decide +kernel
theorem dX8_drop_28 : decode cX8_drop 28 = .ok (.iload_n 1, 1) := by decide +kernel
theorem dX8_drop_29 : decode cX8_drop 29 = .ok (.ldc 60, 2) := by decide +kernel
theorem dX8_drop_31 : decode cX8_drop 31 = .ok (.iastore, 1) := by decide +kernel
theorem dX8_drop_32 : decode cX8_drop 32 = .ok (.aload_n 0, 1) := by decide +kernel
theorem dX8_drop_33 : decode cX8_drop 33 = .ok (.aload_n 0, 1) := by decide +kernel
theorem dX8_drop_34 : decode cX8_drop 34 = .ok (.getfield 13, 3) := by decide +kernel
theorem dX8_drop_37 : decode cX8_drop 37 = .ok (.iload_n 1, 1) := by decide +kernel
theorem dX8_drop_38 : decode cX8_drop 38 = .ok (.iaload, 1) := by decide +kernel
theorem dX8_drop_39 : decode cX8_drop 39 = .ok (.invokevirtual 81, 3) := by decide +kernel
theorem dX8_drop_42 : decode cX8_drop 42 = .ok (.ireturn, 1) := by decide +kernel
theorem dX8_feed_0 : decode cX8_feed 0 = .ok (.iload_n 1, 1) := by decide +kernel
theorem dX8_feed_1 : decode cX8_feed 1 = .ok (.iconst 0, 1) := by decide +kernel
theorem dX8_feed_2 : decode cX8_feed 2 = .ok (.sipush 255, 3) := by decide +kernel
theorem dX8_feed_5 : decode cX8_feed 5 = .ok (.invokestatic 68, 3) := by decide +kernel
theorem dX8_feed_8 : decode cX8_feed 8 = .ok (.ifCond .ne 6, 3) := by decide +kernel
theorem dX8_feed_11 : decode cX8_feed 11 = .ok (.ldc 76, 2) := by decide +kernel
theorem dX8_feed_13 : decode cX8_feed 13 = .ok (.ireturn, 1) := by decide +kernel
theorem dX8_feed_14 : decode cX8_feed 14 = .ok (.aload_n 0, 1) := by decide +kernel
theorem dX8_feed_15 : decode cX8_feed 15 = .ok (.getfield 94, 3) := by decide +kernel
theorem dX8_feed_18 : decode cX8_feed 18 = .ok (.sipush 200, 3) := by decide +kernel
theorem dX8_feed_21 : decode cX8_feed 21 = .ok (.if_icmp .ne 6, 3) := by decide +kernel
theorem dX8_feed_24 : decode cX8_feed 24 = .ok (.ldc 97, 2) := by decide +kernel
theorem dX8_feed_26 : decode cX8_feed 26 = .ok (.ireturn, 1) := by decide +kernel
theorem dX8_feed_27 : decode cX8_feed 27 = .ok (.aload_n 0, 1) := by decide +kernel
theorem dX8_feed_28 : decode cX8_feed 28 = .ok (.getfield 22, 3) := by decide +kernel
theorem dX8_feed_31 : decode cX8_feed 31 = .ok (.aload_n 0, 1) := by decide +kernel
theorem dX8_feed_32 : decode cX8_feed 32 = .ok (.getfield 94, 3) := by decide +kernel
theorem dX8_feed_35 : decode cX8_feed 35 = .ok (.iload_n 1, 1) := by decide +kernel
theorem dX8_feed_36 : decode cX8_feed 36 = .ok (.iastore, 1) := by decide +kernel
theorem dX8_feed_37 : decode cX8_feed 37 = .ok (.aload_n 0, 1) := by decide +kernel
theorem dX8_feed_38 : decode cX8_feed 38 = .ok (.dup, 1) := by decide +kernel
theorem dX8_feed_39 : decode cX8_feed 39 = .ok (.getfield 94, 3) := by decide +kernel
theorem dX8_feed_42 : decode cX8_feed 42 = .ok (.iconst 1, 1) := by decide +kernel
theorem dX8_feed_43 : decode cX8_feed 43 = .ok (.iadd, 1) := by decide +kernel
theorem dX8_feed_44 : decode cX8_feed 44 = .ok (.putfield 94, 3) := by decide +kernel
theorem dX8_feed_47 : decode cX8_feed 47 = .ok (.aload_n 0, 1) := by decide +kernel
theorem dX8_feed_48 : decode cX8_feed 48 = .ok (.getfield 94, 3) := by decide +kernel
theorem dX8_feed_51 : decode cX8_feed 51 = .ok (.ireturn, 1) := by decide +kernel
theorem dX8_byteAt_0 : decode cX8_byteAt 0 = .ok (.iload_n 1, 1) := by decide +kernel
theorem dX8_byteAt_1 : decode cX8_byteAt 1 = .ok (.aload_n 0, 1) := by decide +kernel
theorem dX8_byteAt_2 : decode cX8_byteAt 2 = .ok (.getfield 94, 3) := by decide +kernel
theorem dX8_byteAt_5 : decode cX8_byteAt 5 = .ok (.if_icmp .ge 12, 3) := by decide +kernel
theorem dX8_byteAt_8 : decode cX8_byteAt 8 = .ok (.aload_n 0, 1) := by decide +kernel
theorem dX8_byteAt_9 : decode cX8_byteAt 9 = .ok (.getfield 22, 3) := by decide +kernel
theorem dX8_byteAt_12 : decode cX8_byteAt 12 = .ok (.iload_n 1, 1) := by decide +kernel
theorem dX8_byteAt_13 : decode cX8_byteAt 13 = .ok (.iaload, 1) := by decide +kernel
theorem dX8_byteAt_14 : decode cX8_byteAt 14 = .ok (.goto 4, 3) := by decide +kernel
theorem dX8_byteAt_17 : decode cX8_byteAt 17 = .ok (.iconst (-1), 1) := by decide +kernel
theorem dX8_byteAt_18 : decode cX8_byteAt 18 = .ok (.ireturn, 1) := by decide +kernel
theorem dX8_advances_0 : decode cX8_advances 0 = .ok (.aload_n 0, 1) := by decide +kernel
theorem dX8_advances_1 : decode cX8_advances 1 = .ok (.aload_n 0, 1) := by decide +kernel
theorem dX8_advances_2 : decode cX8_advances 2 = .ok (.getfield 98, 3) := by decide +kernel
theorem dX8_advances_5 : decode cX8_advances 5 = .ok (.putfield 101, 3) := by decide +kernel
theorem dX8_advances_8 : decode cX8_advances 8 = .ok (.aload_n 0, 1) := by decide +kernel
theorem dX8_advances_9 : decode cX8_advances 9 = .ok (.aload_n 0, 1) := by decide +kernel
theorem dX8_advances_10 : decode cX8_advances 10 = .ok (.getfield 98, 3) := by decide +kernel
theorem dX8_advances_13 : decode cX8_advances 13 = .ok (.invokevirtual 104, 3) := by decide +kernel
theorem dX8_advances_16 : decode cX8_advances 16 = .ok (.istore_n 1, 1) := by decide +kernel
theorem dX8_advances_17 : decode cX8_advances 17 = .ok (.aload_n 0, 1) := by decide +kernel
theorem dX8_advances_18 : decode cX8_advances 18 = .ok (.iload_n 1, 1) := by decide +kernel
theorem dX8_advances_19 : decode cX8_advances 19 = .ok (.putfield 107, 3) := by decide +kernel
theorem dX8_advances_22 : decode cX8_advances 22 = .ok (.iload_n 1, 1) := by decide +kernel
theorem dX8_advances_23 : decode cX8_advances 23 = .ok (.bipush 48, 2) := by decide +kernel
theorem dX8_advances_25 : decode cX8_advances 25 = .ok (.bipush 57, 2) := by decide +kernel
theorem dX8_advances_27 : decode cX8_advances 27 = .ok (.invokestatic 68, 3) := by decide +kernel
theorem dX8_advances_30 : decode cX8_advances 30 = .ok (.ifCond .eq 105, 3) := by decide +kernel
theorem dX8_advances_33 : decode cX8_advances 33 = .ok (.aload_n 0, 1) := by decide +kernel
theorem dX8_advances_34 : decode cX8_advances 34 = .ok (.iconst 0, 1) := by decide +kernel
theorem dX8_advances_35 : decode cX8_advances 35 = .ok (.putfield 107, 3) := by decide +kernel
theorem dX8_advances_38 : decode cX8_advances 38 = .ok (.aload_n 0, 1) := by decide +kernel
theorem dX8_advances_39 : decode cX8_advances 39 = .ok (.aload_n 0, 1) := by decide +kernel
theorem dX8_advances_40 : decode cX8_advances 40 = .ok (.getfield 98, 3) := by decide +kernel
theorem dX8_advances_43 : decode cX8_advances 43 = .ok (.invokevirtual 104, 3) := by decide +kernel
theorem dX8_advances_46 : decode cX8_advances 46 = .ok (.bipush 48, 2) := by decide +kernel
theorem dX8_advances_48 : decode cX8_advances 48 = .ok (.bipush 57, 2) := by decide +kernel
theorem dX8_advances_50 : decode cX8_advances 50 = .ok (.invokestatic 68, 3) := by decide +kernel
theorem dX8_advances_53 : decode cX8_advances 53 = .ok (.ifCond .eq 59, 3) := by decide +kernel
theorem dX8_advances_56 : decode cX8_advances 56 = .ok (.aload_n 0, 1) := by decide +kernel
theorem dX8_advances_57 : decode cX8_advances 57 = .ok (.aload_n 0, 1) := by decide +kernel
theorem dX8_advances_58 : decode cX8_advances 58 = .ok (.getfield 98, 3) := by decide +kernel
theorem dX8_advances_61 : decode cX8_advances 61 = .ok (.aload_n 0, 1) := by decide +kernel
theorem dX8_advances_62 : decode cX8_advances 62 = .ok (.getfield 101, 3) := by decide +kernel
theorem dX8_advances_65 : decode cX8_advances 65 = .ok (.isub, 1) := by decide +kernel
theorem dX8_advances_66 : decode cX8_advances 66 = .ok (.iconst 2, 1) := by decide +kernel
theorem dX8_advances_67 : decode cX8_advances 67 = .ok (.if_icmp .ge 25, 3) := by decide +kernel
theorem dX8_advances_70 : decode cX8_advances 70 = .ok (.bipush 10, 2) := by decide +kernel
theorem dX8_advances_72 : decode cX8_advances 72 = .ok (.aload_n 0, 1) := by decide +kernel
theorem dX8_advances_73 : decode cX8_advances 73 = .ok (.getfield 107, 3) := by decide +kernel
theorem dX8_advances_76 : decode cX8_advances 76 = .ok (.imul, 1) := by decide +kernel
theorem dX8_advances_77 : decode cX8_advances 77 = .ok (.aload_n 0, 1) := by decide +kernel
theorem dX8_advances_78 : decode cX8_advances 78 = .ok (.aload_n 0, 1) := by decide +kernel
theorem dX8_advances_79 : decode cX8_advances 79 = .ok (.getfield 98, 3) := by decide +kernel
theorem dX8_advances_82 : decode cX8_advances 82 = .ok (.invokevirtual 104, 3) := by decide +kernel
theorem dX8_advances_85 : decode cX8_advances 85 = .ok (.iadd, 1) := by decide +kernel
theorem dX8_advances_86 : decode cX8_advances 86 = .ok (.bipush 48, 2) := by decide +kernel
theorem dX8_advances_88 : decode cX8_advances 88 = .ok (.isub, 1) := by decide +kernel
theorem dX8_advances_89 : decode cX8_advances 89 = .ok (.goto 7, 3) := by decide +kernel
theorem dX8_advances_92 : decode cX8_advances 92 = .ok (.aload_n 0, 1) := by decide +kernel
theorem dX8_advances_93 : decode cX8_advances 93 = .ok (.getfield 107, 3) := by decide +kernel
theorem dX8_advances_96 : decode cX8_advances 96 = .ok (.putfield 107, 3) := by decide +kernel
theorem dX8_advances_99 : decode cX8_advances 99 = .ok (.aload_n 0, 1) := by decide +kernel
theorem dX8_advances_100 : decode cX8_advances 100 = .ok (.dup, 1) := by decide +kernel
theorem dX8_advances_101 : decode cX8_advances 101 = .ok (.getfield 98, 3) := by decide +kernel
theorem dX8_advances_104 : decode cX8_advances 104 = .ok (.iconst 1, 1) := by decide +kernel
theorem dX8_advances_105 : decode cX8_advances 105 = .ok (.iadd, 1) := by decide +kernel
theorem dX8_advances_106 : decode cX8_advances 106 = .ok (.putfield 98, 3) := by decide +kernel
theorem dX8_advances_109 : decode cX8_advances 109 = .ok (.goto (-71), 3) := by decide +kernel
theorem dX8_advances_112 : decode cX8_advances 112 = .ok (.aload_n 0, 1) := by decide +kernel
theorem dX8_advances_113 : decode cX8_advances 113 = .ok (.aload_n 0, 1) := by decide +kernel
theorem dX8_advances_114 : decode cX8_advances 114 = .ok (.getfield 98, 3) := by decide +kernel
theorem dX8_advances_117 : decode cX8_advances 117 = .ok (.aload_n 0, 1) := by decide +kernel
theorem dX8_advances_118 : decode cX8_advances 118 = .ok (.getfield 101, 3) := by decide +kernel
theorem dX8_advances_121 : decode cX8_advances 121 = .ok (.isub, 1) := by decide +kernel
theorem dX8_advances_122 : decode cX8_advances 122 = .ok (.iconst 3, 1) := by decide +kernel
theorem dX8_advances_123 : decode cX8_advances 123 = .ok (.if_icmp .ge 7, 3) := by decide +kernel
theorem dX8_advances_126 : decode cX8_advances 126 = .ok (.iconst 2, 1) := by decide +kernel
theorem dX8_advances_127 : decode cX8_advances 127 = .ok (.goto 4, 3) := by decide +kernel
theorem dX8_advances_130 : decode cX8_advances 130 = .ok (.iconst 5, 1) := by decide +kernel
theorem dX8_advances_131 : decode cX8_advances 131 = .ok (.putfield 110, 3) := by decide +kernel
theorem dX8_advances_134 : decode cX8_advances 134 = .ok (.return_, 1) := by decide +kernel
theorem dX8_advances_135 : decode cX8_advances 135 = .ok (.aload_n 0, 1) := by decide +kernel
theorem dX8_advances_136 : decode cX8_advances 136 = .ok (.iload_n 1, 1) := by decide +kernel
theorem dX8_advances_137 : decode cX8_advances 137 = .ok (.ifCond .ge 7, 3) := by decide +kernel
theorem dX8_advances_140 : decode cX8_advances 140 = .ok (.iconst 0, 1) := by decide +kernel
theorem dX8_advances_141 : decode cX8_advances 141 = .ok (.goto 39, 3) := by decide +kernel
theorem dX8_advances_144 : decode cX8_advances 144 = .ok (.iload_n 1, 1) := by decide +kernel
theorem dX8_advances_145 : decode cX8_advances 145 = .ok (.bipush 97, 2) := by decide +kernel
theorem dX8_advances_147 : decode cX8_advances 147 = .ok (.bipush 122, 2) := by decide +kernel
theorem dX8_advances_149 : decode cX8_advances 149 = .ok (.invokestatic 68, 3) := by decide +kernel
theorem dX8_advances_152 : decode cX8_advances 152 = .ok (.ifCond .eq 7, 3) := by decide +kernel
theorem dX8_advances_155 : decode cX8_advances 155 = .ok (.iconst 1, 1) := by decide +kernel
theorem dX8_advances_156 : decode cX8_advances 156 = .ok (.goto 24, 3) := by decide +kernel
theorem dX8_advances_159 : decode cX8_advances 159 = .ok (.iload_n 1, 1) := by decide +kernel
theorem dX8_advances_160 : decode cX8_advances 160 = .ok (.bipush 44, 2) := by decide +kernel
theorem dX8_advances_162 : decode cX8_advances 162 = .ok (.if_icmp .ne 7, 3) := by decide +kernel
theorem dX8_advances_165 : decode cX8_advances 165 = .ok (.iconst 3, 1) := by decide +kernel
theorem dX8_advances_166 : decode cX8_advances 166 = .ok (.goto 14, 3) := by decide +kernel
theorem dX8_advances_169 : decode cX8_advances 169 = .ok (.iload_n 1, 1) := by decide +kernel
theorem dX8_advances_170 : decode cX8_advances 170 = .ok (.bipush 59, 2) := by decide +kernel
theorem dX8_advances_172 : decode cX8_advances 172 = .ok (.if_icmp .ne 7, 3) := by decide +kernel
theorem dX8_advances_175 : decode cX8_advances 175 = .ok (.iconst 4, 1) := by decide +kernel
theorem dX8_advances_176 : decode cX8_advances 176 = .ok (.goto 4, 3) := by decide +kernel
theorem dX8_advances_179 : decode cX8_advances 179 = .ok (.iconst 5, 1) := by decide +kernel
theorem dX8_advances_180 : decode cX8_advances 180 = .ok (.putfield 110, 3) := by decide +kernel
theorem dX8_advances_183 : decode cX8_advances 183 = .ok (.aload_n 0, 1) := by decide +kernel
theorem dX8_advances_184 : decode cX8_advances 184 = .ok (.dup, 1) := by decide +kernel
theorem dX8_advances_185 : decode cX8_advances 185 = .ok (.getfield 98, 3) := by decide +kernel
theorem dX8_advances_188 : decode cX8_advances 188 = .ok (.aload_n 0, 1) := by decide +kernel
theorem dX8_advances_189 : decode cX8_advances 189 = .ok (.getfield 110, 3) := by decide +kernel
theorem dX8_advances_192 : decode cX8_advances 192 = .ok (.ifCond .ne 7, 3) := by decide +kernel
theorem dX8_advances_195 : decode cX8_advances 195 = .ok (.iconst 0, 1) := by decide +kernel
theorem dX8_advances_196 : decode cX8_advances 196 = .ok (.goto 4, 3) := by decide +kernel
theorem dX8_advances_199 : decode cX8_advances 199 = .ok (.iconst 1, 1) := by decide +kernel
theorem dX8_advances_200 : decode cX8_advances 200 = .ok (.iadd, 1) := by decide +kernel
theorem dX8_advances_201 : decode cX8_advances 201 = .ok (.putfield 98, 3) := by decide +kernel
theorem dX8_advances_204 : decode cX8_advances 204 = .ok (.return_, 1) := by decide +kernel
theorem dX8_isWell_0 : decode cX8_isWell 0 = .ok (.aload_n 0, 1) := by decide +kernel
theorem dX8_isWell_1 : decode cX8_isWell 1 = .ok (.getfield 113, 3) := by decide +kernel
theorem dX8_isWell_4 : decode cX8_isWell 4 = .ok (.ifCond .ge 7, 3) := by decide +kernel
theorem dX8_isWell_7 : decode cX8_isWell 7 = .ok (.iconst 1, 1) := by decide +kernel
theorem dX8_isWell_8 : decode cX8_isWell 8 = .ok (.goto 4, 3) := by decide +kernel
theorem dX8_isWell_11 : decode cX8_isWell 11 = .ok (.iconst 0, 1) := by decide +kernel
theorem dX8_isWell_12 : decode cX8_isWell 12 = .ok (.ireturn, 1) := by decide +kernel
theorem dX8_takes_0 : decode cX8_takes 0 = .ok (.aload_n 0, 1) := by decide +kernel
theorem dX8_takes_1 : decode cX8_takes 1 = .ok (.invokevirtual 116, 3) := by decide +kernel
theorem dX8_takes_4 : decode cX8_takes 4 = .ok (.ifCond .ne 5, 3) := by decide +kernel
theorem dX8_takes_7 : decode cX8_takes 7 = .ok (.iconst 0, 1) := by decide +kernel
theorem dX8_takes_8 : decode cX8_takes 8 = .ok (.ireturn, 1) := by decide +kernel
theorem dX8_takes_9 : decode cX8_takes 9 = .ok (.iload_n 1, 1) := by decide +kernel
theorem dX8_takes_10 : decode cX8_takes 10 = .ok (.ifCond .ne 18, 3) := by decide +kernel
theorem dX8_takes_13 : decode cX8_takes 13 = .ok (.aload_n 0, 1) := by decide +kernel
theorem dX8_takes_14 : decode cX8_takes 14 = .ok (.aload_n 0, 1) := by decide +kernel
theorem dX8_takes_15 : decode cX8_takes 15 = .ok (.getfield 101, 3) := by decide +kernel
theorem dX8_takes_18 : decode cX8_takes 18 = .ok (.putfield 113, 3) := by decide +kernel
theorem dX8_takes_21 : decode cX8_takes 21 = .ok (.aload_n 0, 1) := by decide +kernel
theorem dX8_takes_22 : decode cX8_takes 22 = .ok (.iload_n 2, 1) := by decide +kernel
theorem dX8_takes_23 : decode cX8_takes 23 = .ok (.putfield 120, 3) := by decide +kernel
theorem dX8_takes_26 : decode cX8_takes 26 = .ok (.iconst 0, 1) := by decide +kernel
theorem dX8_takes_27 : decode cX8_takes 27 = .ok (.ireturn, 1) := by decide +kernel
theorem dX8_takes_28 : decode cX8_takes 28 = .ok (.aload_n 0, 1) := by decide +kernel
theorem dX8_takes_29 : decode cX8_takes 29 = .ok (.getfield 107, 3) := by decide +kernel
theorem dX8_takes_32 : decode cX8_takes 32 = .ok (.istore_n 3, 1) := by decide +kernel
theorem dX8_takes_33 : decode cX8_takes 33 = .ok (.aload_n 0, 1) := by decide +kernel
theorem dX8_takes_34 : decode cX8_takes 34 = .ok (.invokevirtual 123, 3) := by decide +kernel
theorem dX8_takes_37 : decode cX8_takes 37 = .ok (.iload_n 3, 1) := by decide +kernel
theorem dX8_takes_38 : decode cX8_takes 38 = .ok (.ireturn, 1) := by decide +kernel
theorem dX8_figure_0 : decode cX8_figure 0 = .ok (.aload_n 0, 1) := by decide +kernel
theorem dX8_figure_1 : decode cX8_figure 1 = .ok (.invokevirtual 116, 3) := by decide +kernel
theorem dX8_figure_4 : decode cX8_figure 4 = .ok (.ifCond .eq 18, 3) := by decide +kernel
theorem dX8_figure_7 : decode cX8_figure 7 = .ok (.aload_n 0, 1) := by decide +kernel
theorem dX8_figure_8 : decode cX8_figure 8 = .ok (.getfield 110, 3) := by decide +kernel
theorem dX8_figure_11 : decode cX8_figure 11 = .ok (.iconst 2, 1) := by decide +kernel
theorem dX8_figure_12 : decode cX8_figure 12 = .ok (.if_icmp .eq 10, 3) := by decide +kernel
theorem dX8_figure_15 : decode cX8_figure 15 = .ok (.aload_n 0, 1) := by decide +kernel
theorem dX8_figure_16 : decode cX8_figure 16 = .ok (.iconst 0, 1) := by decide +kernel
theorem dX8_figure_17 : decode cX8_figure 17 = .ok (.iconst 1, 1) := by decide +kernel
theorem dX8_figure_18 : decode cX8_figure 18 = .ok (.invokevirtual 126, 3) := by decide +kernel
theorem dX8_figure_21 : decode cX8_figure 21 = .ok (.ireturn, 1) := by decide +kernel
theorem dX8_figure_22 : decode cX8_figure 22 = .ok (.aload_n 0, 1) := by decide +kernel
theorem dX8_figure_23 : decode cX8_figure 23 = .ok (.aload_n 0, 1) := by decide +kernel
theorem dX8_figure_24 : decode cX8_figure 24 = .ok (.getfield 107, 3) := by decide +kernel
theorem dX8_figure_27 : decode cX8_figure 27 = .ok (.iload_n 1, 1) := by decide +kernel
theorem dX8_figure_28 : decode cX8_figure 28 = .ok (.iload_n 2, 1) := by decide +kernel
theorem dX8_figure_29 : decode cX8_figure 29 = .ok (.invokestatic 68, 3) := by decide +kernel
theorem dX8_figure_32 : decode cX8_figure 32 = .ok (.iconst 2, 1) := by decide +kernel
theorem dX8_figure_33 : decode cX8_figure 33 = .ok (.invokevirtual 126, 3) := by decide +kernel
theorem dX8_figure_36 : decode cX8_figure 36 = .ok (.ireturn, 1) := by decide +kernel
theorem dX8_behind_0 : decode cX8_behind 0 = .ok (.aload_n 0, 1) := by decide +kernel
theorem dX8_behind_1 : decode cX8_behind 1 = .ok (.aload_n 0, 1) := by decide +kernel
theorem dX8_behind_2 : decode cX8_behind 2 = .ok (.getfield 110, 3) := by decide +kernel
theorem dX8_behind_5 : decode cX8_behind 5 = .ok (.iconst 3, 1) := by decide +kernel
theorem dX8_behind_6 : decode cX8_behind 6 = .ok (.if_icmp .ne 7, 3) := by decide +kernel
theorem dX8_behind_9 : decode cX8_behind 9 = .ok (.iconst 1, 1) := by decide +kernel
theorem dX8_behind_10 : decode cX8_behind 10 = .ok (.goto 4, 3) := by decide +kernel
theorem dX8_behind_13 : decode cX8_behind 13 = .ok (.iconst 0, 1) := by decide +kernel
theorem dX8_behind_14 : decode cX8_behind 14 = .ok (.iconst 1, 1) := by decide +kernel
theorem dX8_behind_15 : decode cX8_behind 15 = .ok (.invokevirtual 126, 3) := by decide +kernel
theorem dX8_behind_18 : decode cX8_behind 18 = .ok (.pop, 1) := by decide +kernel
theorem dX8_behind_19 : decode cX8_behind 19 = .ok (.aload_n 0, 1) := by decide +kernel
theorem dX8_behind_20 : decode cX8_behind 20 = .ok (.iload_n 1, 1) := by decide +kernel
theorem dX8_behind_21 : decode cX8_behind 21 = .ok (.iload_n 2, 1) := by decide +kernel
theorem dX8_behind_22 : decode cX8_behind 22 = .ok (.invokevirtual 130, 3) := by decide +kernel
theorem dX8_behind_25 : decode cX8_behind 25 = .ok (.ireturn, 1) := by decide +kernel
theorem dX8_must_0 : decode cX8_must 0 = .ok (.aload_n 0, 1) := by decide +kernel
theorem dX8_must_1 : decode cX8_must 1 = .ok (.invokevirtual 116, 3) := by decide +kernel
theorem dX8_must_4 : decode cX8_must 4 = .ok (.ifCond .eq 14, 3) := by decide +kernel
theorem dX8_must_7 : decode cX8_must 7 = .ok (.iload_n 1, 1) := by decide +kernel
theorem dX8_must_8 : decode cX8_must 8 = .ok (.ifCond .ne 10, 3) := by decide +kernel
theorem dX8_must_11 : decode cX8_must 11 = .ok (.aload_n 0, 1) := by decide +kernel
theorem dX8_must_12 : decode cX8_must 12 = .ok (.iconst 0, 1) := by decide +kernel
theorem dX8_must_13 : decode cX8_must 13 = .ok (.iconst 1, 1) := by decide +kernel
theorem dX8_must_14 : decode cX8_must 14 = .ok (.invokevirtual 126, 3) := by decide +kernel
theorem dX8_must_17 : decode cX8_must 17 = .ok (.pop, 1) := by decide +kernel
theorem dX8_must_18 : decode cX8_must 18 = .ok (.return_, 1) := by decide +kernel
theorem dX8_variable_0 : decode cX8_variable 0 = .ok (.aload_n 0, 1) := by decide +kernel
theorem dX8_variable_1 : decode cX8_variable 1 = .ok (.invokevirtual 116, 3) := by decide +kernel
theorem dX8_variable_4 : decode cX8_variable 4 = .ok (.ifCond .eq 42, 3) := by decide +kernel
theorem dX8_variable_7 : decode cX8_variable 7 = .ok (.aload_n 0, 1) := by decide +kernel
theorem dX8_variable_8 : decode cX8_variable 8 = .ok (.getfield 110, 3) := by decide +kernel
theorem dX8_variable_11 : decode cX8_variable 11 = .ok (.iconst 2, 1) := by decide +kernel
theorem dX8_variable_12 : decode cX8_variable 12 = .ok (.if_icmp .ne 34, 3) := by decide +kernel
theorem dX8_variable_15 : decode cX8_variable 15 = .ok (.aload_n 0, 1) := by decide +kernel
theorem dX8_variable_16 : decode cX8_variable 16 = .ok (.getfield 107, 3) := by decide +kernel
theorem dX8_variable_19 : decode cX8_variable 19 = .ok (.iconst 0, 1) := by decide +kernel
theorem dX8_variable_20 : decode cX8_variable 20 = .ok (.bipush 7, 2) := by decide +kernel
theorem dX8_variable_22 : decode cX8_variable 22 = .ok (.invokestatic 68, 3) := by decide +kernel
theorem dX8_variable_25 : decode cX8_variable 25 = .ok (.ifCond .eq 21, 3) := by decide +kernel
theorem dX8_variable_28 : decode cX8_variable 28 = .ok (.iload_n 1, 1) := by decide +kernel
theorem dX8_variable_29 : decode cX8_variable 29 = .ok (.aload_n 0, 1) := by decide +kernel
theorem dX8_variable_30 : decode cX8_variable 30 = .ok (.getfield 107, 3) := by decide +kernel
theorem dX8_variable_33 : decode cX8_variable 33 = .ok (.invokestatic 133, 3) := by decide +kernel
theorem dX8_variable_36 : decode cX8_variable 36 = .ok (.ifCond .eq 10, 3) := by decide +kernel
theorem dX8_variable_39 : decode cX8_variable 39 = .ok (.aload_n 0, 1) := by decide +kernel
theorem dX8_variable_40 : decode cX8_variable 40 = .ok (.iconst 0, 1) := by decide +kernel
theorem dX8_variable_41 : decode cX8_variable 41 = .ok (.iconst 2, 1) := by decide +kernel
theorem dX8_variable_42 : decode cX8_variable 42 = .ok (.invokevirtual 126, 3) := by decide +kernel
theorem dX8_variable_45 : decode cX8_variable 45 = .ok (.ireturn, 1) := by decide +kernel
theorem dX8_variable_46 : decode cX8_variable 46 = .ok (.aload_n 0, 1) := by decide +kernel
theorem dX8_variable_47 : decode cX8_variable 47 = .ok (.iconst 0, 1) := by decide +kernel
theorem dX8_variable_48 : decode cX8_variable 48 = .ok (.bipush 7, 2) := by decide +kernel
theorem dX8_variable_50 : decode cX8_variable 50 = .ok (.invokevirtual 130, 3) := by decide +kernel
theorem dX8_variable_53 : decode cX8_variable 53 = .ok (.ireturn, 1) := by decide +kernel
theorem dX8_isTerm_0 : decode cX8_isTerm 0 = .ok (.aload_n 0, 1) := by decide +kernel
theorem dX8_isTerm_1 : decode cX8_isTerm 1 = .ok (.invokevirtual 116, 3) := by decide +kernel
theorem dX8_isTerm_4 : decode cX8_isTerm 4 = .ok (.ifCond .eq 33, 3) := by decide +kernel
theorem dX8_isTerm_7 : decode cX8_isTerm 7 = .ok (.aload_n 0, 1) := by decide +kernel
theorem dX8_isTerm_8 : decode cX8_isTerm 8 = .ok (.getfield 110, 3) := by decide +kernel
theorem dX8_isTerm_11 : decode cX8_isTerm 11 = .ok (.iconst 1, 1) := by decide +kernel
theorem dX8_isTerm_12 : decode cX8_isTerm 12 = .ok (.if_icmp .ne 25, 3) := by decide +kernel
theorem dX8_isTerm_15 : decode cX8_isTerm 15 = .ok (.aload_n 0, 1) := by decide +kernel
theorem dX8_isTerm_16 : decode cX8_isTerm 16 = .ok (.getfield 107, 3) := by decide +kernel
theorem dX8_isTerm_19 : decode cX8_isTerm 19 = .ok (.bipush 112, 2) := by decide +kernel
theorem dX8_isTerm_21 : decode cX8_isTerm 21 = .ok (.if_icmp .eq 12, 3) := by decide +kernel
theorem dX8_isTerm_24 : decode cX8_isTerm 24 = .ok (.aload_n 0, 1) := by decide +kernel
theorem dX8_isTerm_25 : decode cX8_isTerm 25 = .ok (.getfield 107, 3) := by decide +kernel
theorem dX8_isTerm_28 : decode cX8_isTerm 28 = .ok (.bipush 110, 2) := by decide +kernel
theorem dX8_isTerm_30 : decode cX8_isTerm 30 = .ok (.if_icmp .ne 7, 3) := by decide +kernel
theorem dX8_isTerm_33 : decode cX8_isTerm 33 = .ok (.iconst 1, 1) := by decide +kernel
theorem dX8_isTerm_34 : decode cX8_isTerm 34 = .ok (.goto 4, 3) := by decide +kernel
theorem dX8_isTerm_37 : decode cX8_isTerm 37 = .ok (.iconst 0, 1) := by decide +kernel
theorem dX8_isTerm_38 : decode cX8_isTerm 38 = .ok (.ireturn, 1) := by decide +kernel
theorem dX8_readsClause_0 : decode cX8_readsClause 0 = .ok (.iconst 0, 1) := by decide +kernel
theorem dX8_readsClause_1 : decode cX8_readsClause 1 = .ok (.istore_n 1, 1) := by decide +kernel
theorem dX8_readsClause_2 : decode cX8_readsClause 2 = .ok (.iconst 0, 1) := by decide +kernel
theorem dX8_readsClause_3 : decode cX8_readsClause 3 = .ok (.istore_n 2, 1) := by decide +kernel
theorem dX8_readsClause_4 : decode cX8_readsClause 4 = .ok (.iload_n 2, 1) := by decide +kernel
theorem dX8_readsClause_5 : decode cX8_readsClause 5 = .ok (.bipush 10, 2) := by decide +kernel
theorem dX8_readsClause_7 : decode cX8_readsClause 7 = .ok (.if_icmp .ge 16, 3) := by decide +kernel
theorem dX8_readsClause_10 : decode cX8_readsClause 10 = .ok (.aload_n 0, 1) := by decide +kernel
theorem dX8_readsClause_11 : decode cX8_readsClause 11 = .ok (.getfield 42, 3) := by decide +kernel
theorem dX8_readsClause_14 : decode cX8_readsClause 14 = .ok (.iload_n 2, 1) := by decide +kernel
theorem dX8_readsClause_15 : decode cX8_readsClause 15 = .ok (.lconst 0, 1) := by decide +kernel
theorem dX8_readsClause_16 : decode cX8_readsClause 16 = .ok (.lastore, 1) := by decide +kernel
theorem dX8_readsClause_17 : decode cX8_readsClause 17 = .ok (.iinc 2 1, 3) := by decide +kernel
theorem dX8_readsClause_20 : decode cX8_readsClause 20 = .ok (.goto (-16), 3) := by decide +kernel
theorem dX8_readsClause_23 : decode cX8_readsClause 23 = .ok (.aload_n 0, 1) := by decide +kernel
theorem dX8_readsClause_24 : decode cX8_readsClause 24 = .ok (.invokevirtual 137, 3) := by decide +kernel
theorem dX8_readsClause_27 : decode cX8_readsClause 27 = .ok (.ifCond .eq 92, 3) := by decide +kernel
theorem dX8_readsClause_30 : decode cX8_readsClause 30 = .ok (.aload_n 0, 1) := by decide +kernel
theorem dX8_readsClause_31 : decode cX8_readsClause 31 = .ok (.iconst 1, 1) := by decide +kernel
theorem dX8_readsClause_32 : decode cX8_readsClause 32 = .ok (.iconst 1, 1) := by decide +kernel
theorem dX8_readsClause_33 : decode cX8_readsClause 33 = .ok (.invokevirtual 126, 3) := by decide +kernel
theorem dX8_readsClause_36 : decode cX8_readsClause 36 = .ok (.bipush 112, 2) := by decide +kernel
theorem dX8_readsClause_38 : decode cX8_readsClause 38 = .ok (.if_icmp .ne 7, 3) := by decide +kernel
theorem dX8_readsClause_41 : decode cX8_readsClause 41 = .ok (.iconst 1, 1) := by decide +kernel
theorem dX8_readsClause_42 : decode cX8_readsClause 42 = .ok (.goto 4, 3) := by decide +kernel
theorem dX8_readsClause_45 : decode cX8_readsClause 45 = .ok (.iconst 0, 1) := by decide +kernel
theorem dX8_readsClause_46 : decode cX8_readsClause 46 = .ok (.istore_n 2, 1) := by decide +kernel
theorem dX8_readsClause_47 : decode cX8_readsClause 47 = .ok (.aload_n 0, 1) := by decide +kernel
theorem dX8_readsClause_48 : decode cX8_readsClause 48 = .ok (.iload_n 1, 1) := by decide +kernel
theorem dX8_readsClause_49 : decode cX8_readsClause 49 = .ok (.invokevirtual 140, 3) := by decide +kernel
theorem dX8_readsClause_52 : decode cX8_readsClause 52 = .ok (.istore_n 3, 1) := by decide +kernel
theorem dX8_readsClause_53 : decode cX8_readsClause 53 = .ok (.aload_n 0, 1) := by decide +kernel
theorem dX8_readsClause_54 : decode cX8_readsClause 54 = .ok (.iconst 1, 1) := by decide +kernel
theorem dX8_readsClause_55 : decode cX8_readsClause 55 = .ok (.bipush 99, 2) := by decide +kernel
theorem dX8_readsClause_57 : decode cX8_readsClause 57 = .ok (.invokevirtual 143, 3) := by decide +kernel
theorem dX8_readsClause_60 : decode cX8_readsClause 60 = .ok (.istore 4, 2) := by decide +kernel
theorem dX8_readsClause_62 : decode cX8_readsClause 62 = .ok (.aload_n 0, 1) := by decide +kernel
theorem dX8_readsClause_63 : decode cX8_readsClause 63 = .ok (.aload_n 0, 1) := by decide +kernel
theorem dX8_readsClause_64 : decode cX8_readsClause 64 = .ok (.getfield 110, 3) := by decide +kernel
theorem dX8_readsClause_67 : decode cX8_readsClause 67 = .ok (.iconst 4, 1) := by decide +kernel
theorem dX8_readsClause_68 : decode cX8_readsClause 68 = .ok (.if_icmp .ne 7, 3) := by decide +kernel
theorem dX8_readsClause_71 : decode cX8_readsClause 71 = .ok (.iconst 1, 1) := by decide +kernel
theorem dX8_readsClause_72 : decode cX8_readsClause 72 = .ok (.goto 4, 3) := by decide +kernel
theorem dX8_readsClause_75 : decode cX8_readsClause 75 = .ok (.iconst 0, 1) := by decide +kernel
theorem dX8_readsClause_76 : decode cX8_readsClause 76 = .ok (.iconst 1, 1) := by decide +kernel
theorem dX8_readsClause_77 : decode cX8_readsClause 77 = .ok (.invokevirtual 126, 3) := by decide +kernel
theorem dX8_readsClause_80 : decode cX8_readsClause 80 = .ok (.pop, 1) := by decide +kernel
theorem dX8_readsClause_81 : decode cX8_readsClause 81 = .ok (.aload_n 0, 1) := by decide +kernel
theorem dX8_readsClause_82 : decode cX8_readsClause 82 = .ok (.invokevirtual 116, 3) := by decide +kernel
theorem dX8_readsClause_85 : decode cX8_readsClause 85 = .ok (.ifCond .eq 31, 3) := by decide +kernel
theorem dX8_readsClause_88 : decode cX8_readsClause 88 = .ok (.iload_n 1, 1) := by decide +kernel
theorem dX8_readsClause_89 : decode cX8_readsClause 89 = .ok (.iconst 1, 1) := by decide +kernel
theorem dX8_readsClause_90 : decode cX8_readsClause 90 = .ok (.iload_n 3, 1) := by decide +kernel
theorem dX8_readsClause_91 : decode cX8_readsClause 91 = .ok (.ishl, 1) := by decide +kernel
theorem dX8_readsClause_92 : decode cX8_readsClause 92 = .ok (.ior, 1) := by decide +kernel
theorem dX8_readsClause_93 : decode cX8_readsClause 93 = .ok (.istore_n 1, 1) := by decide +kernel
theorem dX8_readsClause_94 : decode cX8_readsClause 94 = .ok (.aload_n 0, 1) := by decide +kernel
theorem dX8_readsClause_95 : decode cX8_readsClause 95 = .ok (.getfield 42, 3) := by decide +kernel
theorem dX8_readsClause_98 : decode cX8_readsClause 98 = .ok (.iconst 2, 1) := by decide +kernel
theorem dX8_readsClause_99 : decode cX8_readsClause 99 = .ok (.iload_n 3, 1) := by decide +kernel
theorem dX8_readsClause_100 : decode cX8_readsClause 100 = .ok (.iadd, 1) := by decide +kernel
theorem dX8_readsClause_101 : decode cX8_readsClause 101 = .ok (.iload_n 2, 1) := by decide +kernel
theorem dX8_readsClause_102 : decode cX8_readsClause 102 = .ok (.ifCond .eq 9, 3) := by decide +kernel
theorem dX8_readsClause_105 : decode cX8_readsClause 105 = .ok (.iload 4, 2) := by decide +kernel
theorem dX8_readsClause_107 : decode cX8_readsClause 107 = .ok (.i2l, 1) := by decide +kernel
theorem dX8_readsClause_108 : decode cX8_readsClause 108 = .ok (.goto 7, 3) := by decide +kernel
theorem dX8_readsClause_111 : decode cX8_readsClause 111 = .ok (.iload 4, 2) := by decide +kernel
theorem dX8_readsClause_113 : decode cX8_readsClause 113 = .ok (.ineg, 1) := by decide +kernel
theorem dX8_readsClause_114 : decode cX8_readsClause 114 = .ok (.i2l, 1) := by decide +kernel
theorem dX8_readsClause_115 : decode cX8_readsClause 115 = .ok (.lastore, 1) := by decide +kernel
theorem dX8_readsClause_116 : decode cX8_readsClause 116 = .ok (.goto (-93), 3) := by decide +kernel
theorem dX8_readsClause_119 : decode cX8_readsClause 119 = .ok (.aload_n 0, 1) := by decide +kernel
theorem dX8_readsClause_120 : decode cX8_readsClause 120 = .ok (.aload_n 0, 1) := by decide +kernel
theorem dX8_readsClause_121 : decode cX8_readsClause 121 = .ok (.getfield 110, 3) := by decide +kernel
theorem dX8_readsClause_124 : decode cX8_readsClause 124 = .ok (.iconst 1, 1) := by decide +kernel
theorem dX8_readsClause_125 : decode cX8_readsClause 125 = .ok (.if_icmp .ne 16, 3) := by decide +kernel
theorem dX8_readsClause_128 : decode cX8_readsClause 128 = .ok (.aload_n 0, 1) := by decide +kernel
theorem dX8_readsClause_129 : decode cX8_readsClause 129 = .ok (.getfield 107, 3) := by decide +kernel
theorem dX8_readsClause_132 : decode cX8_readsClause 132 = .ok (.bipush 103, 2) := by decide +kernel
theorem dX8_readsClause_134 : decode cX8_readsClause 134 = .ok (.if_icmp .ne 7, 3) := by decide +kernel
theorem dX8_readsClause_137 : decode cX8_readsClause 137 = .ok (.iconst 1, 1) := by decide +kernel
theorem dX8_readsClause_138 : decode cX8_readsClause 138 = .ok (.goto 4, 3) := by decide +kernel
theorem dX8_readsClause_141 : decode cX8_readsClause 141 = .ok (.iconst 0, 1) := by decide +kernel
theorem dX8_readsClause_142 : decode cX8_readsClause 142 = .ok (.iconst 1, 1) := by decide +kernel
theorem dX8_readsClause_143 : decode cX8_readsClause 143 = .ok (.invokevirtual 126, 3) := by decide +kernel
theorem dX8_readsClause_146 : decode cX8_readsClause 146 = .ok (.pop, 1) := by decide +kernel
theorem dX8_readsClause_147 : decode cX8_readsClause 147 = .ok (.aload_n 0, 1) := by decide +kernel
theorem dX8_readsClause_148 : decode cX8_readsClause 148 = .ok (.getfield 42, 3) := by decide +kernel
theorem dX8_readsClause_151 : decode cX8_readsClause 151 = .ok (.iconst 1, 1) := by decide +kernel
theorem dX8_readsClause_152 : decode cX8_readsClause 152 = .ok (.aload_n 0, 1) := by decide +kernel
theorem dX8_readsClause_153 : decode cX8_readsClause 153 = .ok (.iconst 0, 1) := by decide +kernel
theorem dX8_readsClause_154 : decode cX8_readsClause 154 = .ok (.bipush 99, 2) := by decide +kernel
theorem dX8_readsClause_156 : decode cX8_readsClause 156 = .ok (.invokevirtual 130, 3) := by decide +kernel
theorem dX8_readsClause_159 : decode cX8_readsClause 159 = .ok (.i2l, 1) := by decide +kernel
theorem dX8_readsClause_160 : decode cX8_readsClause 160 = .ok (.lastore, 1) := by decide +kernel
theorem dX8_readsClause_161 : decode cX8_readsClause 161 = .ok (.aload_n 0, 1) := by decide +kernel
theorem dX8_readsClause_162 : decode cX8_readsClause 162 = .ok (.aload_n 0, 1) := by decide +kernel
theorem dX8_readsClause_163 : decode cX8_readsClause 163 = .ok (.getfield 110, 3) := by decide +kernel
theorem dX8_readsClause_166 : decode cX8_readsClause 166 = .ok (.iconst 4, 1) := by decide +kernel
theorem dX8_readsClause_167 : decode cX8_readsClause 167 = .ok (.if_icmp .ne 7, 3) := by decide +kernel
theorem dX8_readsClause_170 : decode cX8_readsClause 170 = .ok (.iconst 1, 1) := by decide +kernel
theorem dX8_readsClause_171 : decode cX8_readsClause 171 = .ok (.goto 4, 3) := by decide +kernel
theorem dX8_readsClause_174 : decode cX8_readsClause 174 = .ok (.iconst 0, 1) := by decide +kernel
theorem dX8_readsClause_175 : decode cX8_readsClause 175 = .ok (.iconst 1, 1) := by decide +kernel
theorem dX8_readsClause_176 : decode cX8_readsClause 176 = .ok (.invokevirtual 126, 3) := by decide +kernel
theorem dX8_readsClause_179 : decode cX8_readsClause 179 = .ok (.pop, 1) := by decide +kernel
theorem dX8_readsClause_180 : decode cX8_readsClause 180 = .ok (.return_, 1) := by decide +kernel
theorem dX8_begins_0 : decode cX8_begins 0 = .ok (.aload_n 0, 1) := by decide +kernel
theorem dX8_begins_1 : decode cX8_begins 1 = .ok (.iconst 0, 1) := by decide +kernel
theorem dX8_begins_2 : decode cX8_begins 2 = .ok (.putfield 98, 3) := by decide +kernel
theorem dX8_begins_5 : decode cX8_begins 5 = .ok (.aload_n 0, 1) := by decide +kernel
theorem dX8_begins_6 : decode cX8_begins 6 = .ok (.iconst (-1), 1) := by decide +kernel
theorem dX8_begins_7 : decode cX8_begins 7 = .ok (.putfield 113, 3) := by decide +kernel
theorem dX8_begins_10 : decode cX8_begins 10 = .ok (.aload_n 0, 1) := by decide +kernel
theorem dX8_begins_11 : decode cX8_begins 11 = .ok (.invokevirtual 123, 3) := by decide +kernel
theorem dX8_begins_14 : decode cX8_begins 14 = .ok (.return_, 1) := by decide +kernel
theorem dX8_formula_0 : decode cX8_formula 0 = .ok (.iconst 0, 1) := by decide +kernel
theorem dX8_formula_1 : decode cX8_formula 1 = .ok (.istore_n 1, 1) := by decide +kernel
theorem dX8_formula_2 : decode cX8_formula 2 = .ok (.iload_n 1, 1) := by decide +kernel
theorem dX8_formula_3 : decode cX8_formula 3 = .ok (.sipush 312, 3) := by decide +kernel
theorem dX8_formula_6 : decode cX8_formula 6 = .ok (.if_icmp .ge 16, 3) := by decide +kernel
theorem dX8_formula_9 : decode cX8_formula 9 = .ok (.aload_n 0, 1) := by decide +kernel
theorem dX8_formula_10 : decode cX8_formula 10 = .ok (.getfield 29, 3) := by decide +kernel
theorem dX8_formula_13 : decode cX8_formula 13 = .ok (.iload_n 1, 1) := by decide +kernel
theorem dX8_formula_14 : decode cX8_formula 14 = .ok (.lconst 0, 1) := by decide +kernel
theorem dX8_formula_15 : decode cX8_formula 15 = .ok (.lastore, 1) := by decide +kernel
theorem dX8_formula_16 : decode cX8_formula 16 = .ok (.iinc 1 1, 3) := by decide +kernel
theorem dX8_formula_19 : decode cX8_formula 19 = .ok (.goto (-17), 3) := by decide +kernel
theorem dX8_formula_22 : decode cX8_formula 22 = .ok (.aload_n 0, 1) := by decide +kernel
theorem dX8_formula_23 : decode cX8_formula 23 = .ok (.getfield 29, 3) := by decide +kernel
theorem dX8_formula_26 : decode cX8_formula 26 = .ok (.bipush 8, 2) := by decide +kernel
theorem dX8_formula_28 : decode cX8_formula 28 = .ok (.ldc2_w 61, 3) := by decide +kernel
theorem dX8_formula_31 : decode cX8_formula 31 = .ok (.lastore, 1) := by decide +kernel
theorem dX8_formula_32 : decode cX8_formula 32 = .ok (.aload_n 0, 1) := by decide +kernel
theorem dX8_formula_33 : decode cX8_formula 33 = .ok (.getfield 29, 3) := by decide +kernel
theorem dX8_formula_36 : decode cX8_formula 36 = .ok (.bipush 11, 2) := by decide +kernel
theorem dX8_formula_38 : decode cX8_formula 38 = .ok (.lconst 1, 1) := by decide +kernel
theorem dX8_formula_39 : decode cX8_formula 39 = .ok (.lastore, 1) := by decide +kernel
theorem dX8_formula_40 : decode cX8_formula 40 = .ok (.aload_n 0, 1) := by decide +kernel
theorem dX8_formula_41 : decode cX8_formula 41 = .ok (.invokevirtual 146, 3) := by decide +kernel
theorem dX8_formula_44 : decode cX8_formula 44 = .ok (.aload_n 0, 1) := by decide +kernel
theorem dX8_formula_45 : decode cX8_formula 45 = .ok (.getfield 29, 3) := by decide +kernel
theorem dX8_formula_48 : decode cX8_formula 48 = .ok (.bipush 9, 2) := by decide +kernel
theorem dX8_formula_50 : decode cX8_formula 50 = .ok (.laload, 1) := by decide +kernel
theorem dX8_formula_51 : decode cX8_formula 51 = .ok (.ldc2_w 149, 3) := by decide +kernel
theorem dX8_formula_54 : decode cX8_formula 54 = .ok (.lcmp, 1) := by decide +kernel
theorem dX8_formula_55 : decode cX8_formula 55 = .ok (.ifCond .ge 7, 3) := by decide +kernel
theorem dX8_formula_58 : decode cX8_formula 58 = .ok (.iconst 1, 1) := by decide +kernel
theorem dX8_formula_59 : decode cX8_formula 59 = .ok (.goto 4, 3) := by decide +kernel
theorem dX8_formula_62 : decode cX8_formula 62 = .ok (.iconst 0, 1) := by decide +kernel
theorem dX8_formula_63 : decode cX8_formula 63 = .ok (.istore_n 1, 1) := by decide +kernel
theorem dX8_formula_64 : decode cX8_formula 64 = .ok (.aload_n 0, 1) := by decide +kernel
theorem dX8_formula_65 : decode cX8_formula 65 = .ok (.invokevirtual 116, 3) := by decide +kernel
theorem dX8_formula_68 : decode cX8_formula 68 = .ok (.ifCond .eq 14, 3) := by decide +kernel
theorem dX8_formula_71 : decode cX8_formula 71 = .ok (.iload_n 1, 1) := by decide +kernel
theorem dX8_formula_72 : decode cX8_formula 72 = .ok (.ifCond .ne 10, 3) := by decide +kernel
theorem dX8_formula_75 : decode cX8_formula 75 = .ok (.aload_n 0, 1) := by decide +kernel
theorem dX8_formula_76 : decode cX8_formula 76 = .ok (.iconst 0, 1) := by decide +kernel
theorem dX8_formula_77 : decode cX8_formula 77 = .ok (.iconst 3, 1) := by decide +kernel
theorem dX8_formula_78 : decode cX8_formula 78 = .ok (.invokevirtual 126, 3) := by decide +kernel
theorem dX8_formula_81 : decode cX8_formula 81 = .ok (.pop, 1) := by decide +kernel
theorem dX8_formula_82 : decode cX8_formula 82 = .ok (.aload_n 0, 1) := by decide +kernel
theorem dX8_formula_83 : decode cX8_formula 83 = .ok (.invokevirtual 151, 3) := by decide +kernel
theorem dX8_formula_86 : decode cX8_formula 86 = .ok (.aload_n 0, 1) := by decide +kernel
theorem dX8_formula_87 : decode cX8_formula 87 = .ok (.invokevirtual 116, 3) := by decide +kernel
theorem dX8_formula_90 : decode cX8_formula 90 = .ok (.ifCond .eq 69, 3) := by decide +kernel
theorem dX8_formula_93 : decode cX8_formula 93 = .ok (.aload_n 0, 1) := by decide +kernel
theorem dX8_formula_94 : decode cX8_formula 94 = .ok (.getfield 42, 3) := by decide +kernel
theorem dX8_formula_97 : decode cX8_formula 97 = .ok (.iconst 0, 1) := by decide +kernel
theorem dX8_formula_98 : decode cX8_formula 98 = .ok (.lconst 1, 1) := by decide +kernel
theorem dX8_formula_99 : decode cX8_formula 99 = .ok (.lastore, 1) := by decide +kernel
theorem dX8_formula_100 : decode cX8_formula 100 = .ok (.aload_n 0, 1) := by decide +kernel
theorem dX8_formula_101 : decode cX8_formula 101 = .ok (.getfield 42, 3) := by decide +kernel
theorem dX8_formula_104 : decode cX8_formula 104 = .ok (.iconst 0, 1) := by decide +kernel
theorem dX8_formula_105 : decode cX8_formula 105 = .ok (.aload_n 0, 1) := by decide +kernel
theorem dX8_formula_106 : decode cX8_formula 106 = .ok (.getfield 29, 3) := by decide +kernel
theorem dX8_formula_109 : decode cX8_formula 109 = .ok (.bipush 12, 2) := by decide +kernel
theorem dX8_formula_111 : decode cX8_formula 111 = .ok (.bipush 10, 2) := by decide +kernel
theorem dX8_formula_113 : decode cX8_formula 113 = .ok (.aload_n 0, 1) := by decide +kernel
theorem dX8_formula_114 : decode cX8_formula 114 = .ok (.getfield 29, 3) := by decide +kernel
theorem dX8_formula_117 : decode cX8_formula 117 = .ok (.bipush 9, 2) := by decide +kernel
theorem dX8_formula_119 : decode cX8_formula 119 = .ok (.laload, 1) := by decide +kernel
theorem dX8_formula_120 : decode cX8_formula 120 = .ok (.l2i, 1) := by decide +kernel
theorem dX8_formula_121 : decode cX8_formula 121 = .ok (.imul, 1) := by decide +kernel
theorem dX8_formula_122 : decode cX8_formula 122 = .ok (.iadd, 1) := by decide +kernel
theorem dX8_formula_123 : decode cX8_formula 123 = .ok (.bipush 10, 2) := by decide +kernel
theorem dX8_formula_125 : decode cX8_formula 125 = .ok (.invokestatic 154, 3) := by decide +kernel
theorem dX8_formula_128 : decode cX8_formula 128 = .ok (.aload_n 0, 1) := by decide +kernel
theorem dX8_formula_129 : decode cX8_formula 129 = .ok (.getfield 29, 3) := by decide +kernel
theorem dX8_formula_132 : decode cX8_formula 132 = .ok (.bipush 10, 2) := by decide +kernel
theorem dX8_formula_134 : decode cX8_formula 134 = .ok (.dup2, 1) := by decide +kernel
theorem dX8_formula_135 : decode cX8_formula 135 = .ok (.laload, 1) := by decide +kernel
theorem dX8_formula_136 : decode cX8_formula 136 = .ok (.lconst 1, 1) := by decide +kernel
theorem dX8_formula_137 : decode cX8_formula 137 = .ok (.aload_n 0, 1) := by decide +kernel
theorem dX8_formula_138 : decode cX8_formula 138 = .ok (.getfield 29, 3) := by decide +kernel
theorem dX8_formula_141 : decode cX8_formula 141 = .ok (.bipush 9, 2) := by decide +kernel
theorem dX8_formula_143 : decode cX8_formula 143 = .ok (.laload, 1) := by decide +kernel
theorem dX8_formula_144 : decode cX8_formula 144 = .ok (.l2i, 1) := by decide +kernel
theorem dX8_formula_145 : decode cX8_formula 145 = .ok (.lshl, 1) := by decide +kernel
theorem dX8_formula_146 : decode cX8_formula 146 = .ok (.lor, 1) := by decide +kernel
theorem dX8_formula_147 : decode cX8_formula 147 = .ok (.lastore, 1) := by decide +kernel
theorem dX8_formula_148 : decode cX8_formula 148 = .ok (.aload_n 0, 1) := by decide +kernel
theorem dX8_formula_149 : decode cX8_formula 149 = .ok (.getfield 29, 3) := by decide +kernel
theorem dX8_formula_152 : decode cX8_formula 152 = .ok (.bipush 9, 2) := by decide +kernel
theorem dX8_formula_154 : decode cX8_formula 154 = .ok (.dup2, 1) := by decide +kernel
theorem dX8_formula_155 : decode cX8_formula 155 = .ok (.laload, 1) := by decide +kernel
theorem dX8_formula_156 : decode cX8_formula 156 = .ok (.lconst 1, 1) := by decide +kernel
theorem dX8_formula_157 : decode cX8_formula 157 = .ok (.ladd, 1) := by decide +kernel
theorem dX8_formula_158 : decode cX8_formula 158 = .ok (.lastore, 1) := by decide +kernel
theorem dX8_formula_159 : decode cX8_formula 159 = .ok (.aload_n 0, 1) := by decide +kernel
theorem dX8_formula_160 : decode cX8_formula 160 = .ok (.invokevirtual 137, 3) := by decide +kernel
theorem dX8_formula_163 : decode cX8_formula 163 = .ok (.ifCond .ne (-119), 3) := by decide +kernel
theorem dX8_formula_166 : decode cX8_formula 166 = .ok (.aload_n 0, 1) := by decide +kernel
theorem dX8_formula_167 : decode cX8_formula 167 = .ok (.invokevirtual 116, 3) := by decide +kernel
theorem dX8_formula_170 : decode cX8_formula 170 = .ok (.ifCond .eq 20, 3) := by decide +kernel
theorem dX8_formula_173 : decode cX8_formula 173 = .ok (.aload_n 0, 1) := by decide +kernel
theorem dX8_formula_174 : decode cX8_formula 174 = .ok (.getfield 110, 3) := by decide +kernel
theorem dX8_formula_177 : decode cX8_formula 177 = .ok (.iconst 1, 1) := by decide +kernel
theorem dX8_formula_178 : decode cX8_formula 178 = .ok (.if_icmp .ne 12, 3) := by decide +kernel
theorem dX8_formula_181 : decode cX8_formula 181 = .ok (.aload_n 0, 1) := by decide +kernel
theorem dX8_formula_182 : decode cX8_formula 182 = .ok (.getfield 107, 3) := by decide +kernel
theorem dX8_formula_185 : decode cX8_formula 185 = .ok (.bipush 103, 2) := by decide +kernel
theorem dX8_formula_187 : decode cX8_formula 187 = .ok (.if_icmp .eq (-143), 3) := by decide +kernel
theorem dX8_formula_190 : decode cX8_formula 190 = .ok (.iconst 0, 1) := by decide +kernel
theorem dX8_formula_191 : decode cX8_formula 191 = .ok (.istore_n 1, 1) := by decide +kernel
theorem dX8_formula_192 : decode cX8_formula 192 = .ok (.aload_n 0, 1) := by decide +kernel
theorem dX8_formula_193 : decode cX8_formula 193 = .ok (.invokevirtual 116, 3) := by decide +kernel
theorem dX8_formula_196 : decode cX8_formula 196 = .ok (.ifCond .eq 84, 3) := by decide +kernel
theorem dX8_formula_199 : decode cX8_formula 199 = .ok (.aload_n 0, 1) := by decide +kernel
theorem dX8_formula_200 : decode cX8_formula 200 = .ok (.getfield 110, 3) := by decide +kernel
theorem dX8_formula_203 : decode cX8_formula 203 = .ok (.iconst 1, 1) := by decide +kernel
theorem dX8_formula_204 : decode cX8_formula 204 = .ok (.if_icmp .ne 76, 3) := by decide +kernel
theorem dX8_formula_207 : decode cX8_formula 207 = .ok (.aload_n 0, 1) := by decide +kernel
theorem dX8_formula_208 : decode cX8_formula 208 = .ok (.getfield 107, 3) := by decide +kernel
theorem dX8_formula_211 : decode cX8_formula 211 = .ok (.bipush 109, 2) := by decide +kernel
theorem dX8_formula_213 : decode cX8_formula 213 = .ok (.if_icmp .ne 67, 3) := by decide +kernel
theorem dX8_formula_216 : decode cX8_formula 216 = .ok (.aload_n 0, 1) := by decide +kernel
theorem dX8_formula_217 : decode cX8_formula 217 = .ok (.iconst 1, 1) := by decide +kernel
theorem dX8_formula_218 : decode cX8_formula 218 = .ok (.iconst 1, 1) := by decide +kernel
theorem dX8_formula_219 : decode cX8_formula 219 = .ok (.invokevirtual 126, 3) := by decide +kernel
theorem dX8_formula_222 : decode cX8_formula 222 = .ok (.pop, 1) := by decide +kernel
theorem dX8_formula_223 : decode cX8_formula 223 = .ok (.aload_n 0, 1) := by decide +kernel
theorem dX8_formula_224 : decode cX8_formula 224 = .ok (.iload_n 1, 1) := by decide +kernel
theorem dX8_formula_225 : decode cX8_formula 225 = .ok (.invokevirtual 140, 3) := by decide +kernel
theorem dX8_formula_228 : decode cX8_formula 228 = .ok (.istore_n 2, 1) := by decide +kernel
theorem dX8_formula_229 : decode cX8_formula 229 = .ok (.aload_n 0, 1) := by decide +kernel
theorem dX8_formula_230 : decode cX8_formula 230 = .ok (.iconst 1, 1) := by decide +kernel
theorem dX8_formula_231 : decode cX8_formula 231 = .ok (.bipush 9, 2) := by decide +kernel
theorem dX8_formula_233 : decode cX8_formula 233 = .ok (.invokevirtual 143, 3) := by decide +kernel
theorem dX8_formula_236 : decode cX8_formula 236 = .ok (.istore_n 3, 1) := by decide +kernel
theorem dX8_formula_237 : decode cX8_formula 237 = .ok (.aload_n 0, 1) := by decide +kernel
theorem dX8_formula_238 : decode cX8_formula 238 = .ok (.aload_n 0, 1) := by decide +kernel
theorem dX8_formula_239 : decode cX8_formula 239 = .ok (.getfield 110, 3) := by decide +kernel
theorem dX8_formula_242 : decode cX8_formula 242 = .ok (.iconst 4, 1) := by decide +kernel
theorem dX8_formula_243 : decode cX8_formula 243 = .ok (.if_icmp .ne 7, 3) := by decide +kernel
theorem dX8_formula_246 : decode cX8_formula 246 = .ok (.iconst 1, 1) := by decide +kernel
theorem dX8_formula_247 : decode cX8_formula 247 = .ok (.goto 4, 3) := by decide +kernel
theorem dX8_formula_250 : decode cX8_formula 250 = .ok (.iconst 0, 1) := by decide +kernel
theorem dX8_formula_251 : decode cX8_formula 251 = .ok (.iconst 1, 1) := by decide +kernel
theorem dX8_formula_252 : decode cX8_formula 252 = .ok (.invokevirtual 126, 3) := by decide +kernel
theorem dX8_formula_255 : decode cX8_formula 255 = .ok (.pop, 1) := by decide +kernel
theorem dX8_formula_256 : decode cX8_formula 256 = .ok (.aload_n 0, 1) := by decide +kernel
theorem dX8_formula_257 : decode cX8_formula 257 = .ok (.invokevirtual 116, 3) := by decide +kernel
theorem dX8_formula_260 : decode cX8_formula 260 = .ok (.ifCond .eq 17, 3) := by decide +kernel
theorem dX8_formula_263 : decode cX8_formula 263 = .ok (.iload_n 1, 1) := by decide +kernel
theorem dX8_formula_264 : decode cX8_formula 264 = .ok (.iconst 1, 1) := by decide +kernel
theorem dX8_formula_265 : decode cX8_formula 265 = .ok (.iload_n 2, 1) := by decide +kernel
theorem dX8_formula_266 : decode cX8_formula 266 = .ok (.ishl, 1) := by decide +kernel
theorem dX8_formula_267 : decode cX8_formula 267 = .ok (.ior, 1) := by decide +kernel
theorem dX8_formula_268 : decode cX8_formula 268 = .ok (.istore_n 1, 1) := by decide +kernel
theorem dX8_formula_269 : decode cX8_formula 269 = .ok (.aload_n 0, 1) := by decide +kernel
theorem dX8_formula_270 : decode cX8_formula 270 = .ok (.getfield 29, 3) := by decide +kernel
theorem dX8_formula_273 : decode cX8_formula 273 = .ok (.iload_n 2, 1) := by decide +kernel
theorem dX8_formula_274 : decode cX8_formula 274 = .ok (.iload_n 3, 1) := by decide +kernel
theorem dX8_formula_275 : decode cX8_formula 275 = .ok (.i2l, 1) := by decide +kernel
theorem dX8_formula_276 : decode cX8_formula 276 = .ok (.lastore, 1) := by decide +kernel
theorem dX8_formula_277 : decode cX8_formula 277 = .ok (.goto (-85), 3) := by decide +kernel
theorem dX8_formula_280 : decode cX8_formula 280 = .ok (.aload_n 0, 1) := by decide +kernel
theorem dX8_formula_281 : decode cX8_formula 281 = .ok (.aload_n 0, 1) := by decide +kernel
theorem dX8_formula_282 : decode cX8_formula 282 = .ok (.getfield 110, 3) := by decide +kernel
theorem dX8_formula_285 : decode cX8_formula 285 = .ok (.ifCond .ne 7, 3) := by decide +kernel
theorem dX8_formula_288 : decode cX8_formula 288 = .ok (.iconst 1, 1) := by decide +kernel
theorem dX8_formula_289 : decode cX8_formula 289 = .ok (.goto 4, 3) := by decide +kernel
theorem dX8_formula_292 : decode cX8_formula 292 = .ok (.iconst 0, 1) := by decide +kernel
theorem dX8_formula_293 : decode cX8_formula 293 = .ok (.invokevirtual 158, 3) := by decide +kernel
theorem dX8_formula_296 : decode cX8_formula 296 = .ok (.aload_n 0, 1) := by decide +kernel
theorem dX8_formula_297 : decode cX8_formula 297 = .ok (.iconst 0, 1) := by decide +kernel
theorem dX8_formula_298 : decode cX8_formula 298 = .ok (.putfield 94, 3) := by decide +kernel
theorem dX8_formula_301 : decode cX8_formula 301 = .ok (.aload_n 0, 1) := by decide +kernel
theorem dX8_formula_302 : decode cX8_formula 302 = .ok (.invokevirtual 116, 3) := by decide +kernel
theorem dX8_formula_305 : decode cX8_formula 305 = .ok (.ifCond .ne 11, 3) := by decide +kernel
theorem dX8_formula_308 : decode cX8_formula 308 = .ok (.ldc 162, 2) := by decide +kernel
theorem dX8_formula_310 : decode cX8_formula 310 = .ok (.aload_n 0, 1) := by decide +kernel
theorem dX8_formula_311 : decode cX8_formula 311 = .ok (.getfield 113, 3) := by decide +kernel
theorem dX8_formula_314 : decode cX8_formula 314 = .ok (.isub, 1) := by decide +kernel
theorem dX8_formula_315 : decode cX8_formula 315 = .ok (.ireturn, 1) := by decide +kernel
theorem dX8_formula_316 : decode cX8_formula 316 = .ok (.aload_n 0, 1) := by decide +kernel
theorem dX8_formula_317 : decode cX8_formula 317 = .ok (.getfield 29, 3) := by decide +kernel
theorem dX8_formula_320 : decode cX8_formula 320 = .ok (.iconst 0, 1) := by decide +kernel
theorem dX8_formula_321 : decode cX8_formula 321 = .ok (.aload_n 0, 1) := by decide +kernel
theorem dX8_formula_322 : decode cX8_formula 322 = .ok (.getfield 25, 3) := by decide +kernel
theorem dX8_formula_325 : decode cX8_formula 325 = .ok (.iconst 0, 1) := by decide +kernel
theorem dX8_formula_326 : decode cX8_formula 326 = .ok (.sipush 312, 3) := by decide +kernel
theorem dX8_formula_329 : decode cX8_formula 329 = .ok (.invokestatic 154, 3) := by decide +kernel
theorem dX8_formula_332 : decode cX8_formula 332 = .ok (.aload_n 0, 1) := by decide +kernel
theorem dX8_formula_333 : decode cX8_formula 333 = .ok (.iconst 0, 1) := by decide +kernel
theorem dX8_formula_334 : decode cX8_formula 334 = .ok (.putfield 163, 3) := by decide +kernel
theorem dX8_formula_337 : decode cX8_formula 337 = .ok (.aload_n 0, 1) := by decide +kernel
theorem dX8_formula_338 : decode cX8_formula 338 = .ok (.getfield 25, 3) := by decide +kernel
theorem dX8_formula_341 : decode cX8_formula 341 = .ok (.bipush 9, 2) := by decide +kernel
theorem dX8_formula_343 : decode cX8_formula 343 = .ok (.laload, 1) := by decide +kernel
theorem dX8_formula_344 : decode cX8_formula 344 = .ok (.l2i, 1) := by decide +kernel
theorem dX8_formula_345 : decode cX8_formula 345 = .ok (.ireturn, 1) := by decide +kernel
theorem dX8_fault_0 : decode cX8_fault 0 = .ok (.aload_n 0, 1) := by decide +kernel
theorem dX8_fault_1 : decode cX8_fault 1 = .ok (.getfield 120, 3) := by decide +kernel
theorem dX8_fault_4 : decode cX8_fault 4 = .ok (.ireturn, 1) := by decide +kernel
theorem dX8_isFormula_0 : decode cX8_isFormula 0 = .ok (.aload_n 0, 1) := by decide +kernel
theorem dX8_isFormula_1 : decode cX8_isFormula 1 = .ok (.getfield 25, 3) := by decide +kernel
theorem dX8_isFormula_4 : decode cX8_isFormula 4 = .ok (.bipush 11, 2) := by decide +kernel
theorem dX8_isFormula_6 : decode cX8_isFormula 6 = .ok (.laload, 1) := by decide +kernel
theorem dX8_isFormula_7 : decode cX8_isFormula 7 = .ok (.lconst 1, 1) := by decide +kernel
theorem dX8_isFormula_8 : decode cX8_isFormula 8 = .ok (.lcmp, 1) := by decide +kernel
theorem dX8_isFormula_9 : decode cX8_isFormula 9 = .ok (.ifCond .ne 7, 3) := by decide +kernel
theorem dX8_isFormula_12 : decode cX8_isFormula 12 = .ok (.iconst 1, 1) := by decide +kernel
theorem dX8_isFormula_13 : decode cX8_isFormula 13 = .ok (.goto 4, 3) := by decide +kernel
theorem dX8_isFormula_16 : decode cX8_isFormula 16 = .ok (.iconst 0, 1) := by decide +kernel
theorem dX8_isFormula_17 : decode cX8_isFormula 17 = .ok (.ireturn, 1) := by decide +kernel
theorem dX8_isLive_0 : decode cX8_isLive 0 = .ok (.iload_n 1, 1) := by decide +kernel
theorem dX8_isLive_1 : decode cX8_isLive 1 = .ok (.iconst 0, 1) := by decide +kernel
theorem dX8_isLive_2 : decode cX8_isLive 2 = .ok (.bipush 29, 2) := by decide +kernel
theorem dX8_isLive_4 : decode cX8_isLive 4 = .ok (.invokestatic 68, 3) := by decide +kernel
theorem dX8_isLive_7 : decode cX8_isLive 7 = .ok (.ifCond .eq 23, 3) := by decide +kernel
theorem dX8_isLive_10 : decode cX8_isLive 10 = .ok (.aload_n 0, 1) := by decide +kernel
theorem dX8_isLive_11 : decode cX8_isLive 11 = .ok (.getfield 25, 3) := by decide +kernel
theorem dX8_isLive_14 : decode cX8_isLive 14 = .ok (.bipush 10, 2) := by decide +kernel
theorem dX8_isLive_16 : decode cX8_isLive 16 = .ok (.laload, 1) := by decide +kernel
theorem dX8_isLive_17 : decode cX8_isLive 17 = .ok (.iload_n 1, 1) := by decide +kernel
theorem dX8_isLive_18 : decode cX8_isLive 18 = .ok (.lshr, 1) := by decide +kernel
theorem dX8_isLive_19 : decode cX8_isLive 19 = .ok (.lconst 1, 1) := by decide +kernel
theorem dX8_isLive_20 : decode cX8_isLive 20 = .ok (.land, 1) := by decide +kernel
theorem dX8_isLive_21 : decode cX8_isLive 21 = .ok (.lconst 1, 1) := by decide +kernel
theorem dX8_isLive_22 : decode cX8_isLive 22 = .ok (.lcmp, 1) := by decide +kernel
theorem dX8_isLive_23 : decode cX8_isLive 23 = .ok (.ifCond .ne 7, 3) := by decide +kernel
theorem dX8_isLive_26 : decode cX8_isLive 26 = .ok (.iconst 1, 1) := by decide +kernel
theorem dX8_isLive_27 : decode cX8_isLive 27 = .ok (.goto 4, 3) := by decide +kernel
theorem dX8_isLive_30 : decode cX8_isLive 30 = .ok (.iconst 0, 1) := by decide +kernel
theorem dX8_isLive_31 : decode cX8_isLive 31 = .ok (.ireturn, 1) := by decide +kernel
theorem dX8_isFull_0 : decode cX8_isFull 0 = .ok (.aload_n 0, 1) := by decide +kernel
theorem dX8_isFull_1 : decode cX8_isFull 1 = .ok (.getfield 25, 3) := by decide +kernel
theorem dX8_isFull_4 : decode cX8_isFull 4 = .ok (.bipush 9, 2) := by decide +kernel
theorem dX8_isFull_6 : decode cX8_isFull 6 = .ok (.laload, 1) := by decide +kernel
theorem dX8_isFull_7 : decode cX8_isFull 7 = .ok (.ldc2_w 166, 3) := by decide +kernel
theorem dX8_isFull_10 : decode cX8_isFull 10 = .ok (.lcmp, 1) := by decide +kernel
theorem dX8_isFull_11 : decode cX8_isFull 11 = .ok (.ifCond .ne 7, 3) := by decide +kernel
theorem dX8_isFull_14 : decode cX8_isFull 14 = .ok (.iconst 1, 1) := by decide +kernel
theorem dX8_isFull_15 : decode cX8_isFull 15 = .ok (.goto 4, 3) := by decide +kernel
theorem dX8_isFull_18 : decode cX8_isFull 18 = .ok (.iconst 0, 1) := by decide +kernel
theorem dX8_isFull_19 : decode cX8_isFull 19 = .ok (.ireturn, 1) := by decide +kernel
theorem dX8_notes_0 : decode cX8_notes 0 = .ok (.aload_n 0, 1) := by decide +kernel
theorem dX8_notes_1 : decode cX8_notes 1 = .ok (.getfield 163, 3) := by decide +kernel
theorem dX8_notes_4 : decode cX8_notes 4 = .ok (.bipush 12, 2) := by decide +kernel
theorem dX8_notes_6 : decode cX8_notes 6 = .ok (.if_icmp .ne 44, 3) := by decide +kernel
theorem dX8_notes_9 : decode cX8_notes 9 = .ok (.iconst 0, 1) := by decide +kernel
theorem dX8_notes_10 : decode cX8_notes 10 = .ok (.istore_n 1, 1) := by decide +kernel
theorem dX8_notes_11 : decode cX8_notes 11 = .ok (.iload_n 1, 1) := by decide +kernel
theorem dX8_notes_12 : decode cX8_notes 12 = .ok (.sipush 3432, 3) := by decide +kernel
theorem dX8_notes_15 : decode cX8_notes 15 = .ok (.if_icmp .ge 25, 3) := by decide +kernel
theorem dX8_notes_18 : decode cX8_notes 18 = .ok (.aload_n 0, 1) := by decide +kernel
theorem dX8_notes_19 : decode cX8_notes 19 = .ok (.getfield 32, 3) := by decide +kernel
theorem dX8_notes_22 : decode cX8_notes 22 = .ok (.iload_n 1, 1) := by decide +kernel
theorem dX8_notes_23 : decode cX8_notes 23 = .ok (.aload_n 0, 1) := by decide +kernel
theorem dX8_notes_24 : decode cX8_notes 24 = .ok (.getfield 32, 3) := by decide +kernel
theorem dX8_notes_27 : decode cX8_notes 27 = .ok (.iload_n 1, 1) := by decide +kernel
theorem dX8_notes_28 : decode cX8_notes 28 = .ok (.sipush 312, 3) := by decide +kernel
theorem dX8_notes_31 : decode cX8_notes 31 = .ok (.iadd, 1) := by decide +kernel
theorem dX8_notes_32 : decode cX8_notes 32 = .ok (.laload, 1) := by decide +kernel
theorem dX8_notes_33 : decode cX8_notes 33 = .ok (.lastore, 1) := by decide +kernel
theorem dX8_notes_34 : decode cX8_notes 34 = .ok (.iinc 1 1, 3) := by decide +kernel
theorem dX8_notes_37 : decode cX8_notes 37 = .ok (.goto (-26), 3) := by decide +kernel
theorem dX8_notes_40 : decode cX8_notes 40 = .ok (.aload_n 0, 1) := by decide +kernel
theorem dX8_notes_41 : decode cX8_notes 41 = .ok (.dup, 1) := by decide +kernel
theorem dX8_notes_42 : decode cX8_notes 42 = .ok (.getfield 163, 3) := by decide +kernel
theorem dX8_notes_45 : decode cX8_notes 45 = .ok (.iconst 1, 1) := by decide +kernel
theorem dX8_notes_46 : decode cX8_notes 46 = .ok (.isub, 1) := by decide +kernel
theorem dX8_notes_47 : decode cX8_notes 47 = .ok (.putfield 163, 3) := by decide +kernel
theorem dX8_notes_50 : decode cX8_notes 50 = .ok (.aload_n 0, 1) := by decide +kernel
theorem dX8_notes_51 : decode cX8_notes 51 = .ok (.getfield 25, 3) := by decide +kernel
theorem dX8_notes_54 : decode cX8_notes 54 = .ok (.iconst 0, 1) := by decide +kernel
theorem dX8_notes_55 : decode cX8_notes 55 = .ok (.aload_n 0, 1) := by decide +kernel
theorem dX8_notes_56 : decode cX8_notes 56 = .ok (.getfield 32, 3) := by decide +kernel
theorem dX8_notes_59 : decode cX8_notes 59 = .ok (.sipush 312, 3) := by decide +kernel
theorem dX8_notes_62 : decode cX8_notes 62 = .ok (.aload_n 0, 1) := by decide +kernel
theorem dX8_notes_63 : decode cX8_notes 63 = .ok (.getfield 163, 3) := by decide +kernel
theorem dX8_notes_66 : decode cX8_notes 66 = .ok (.imul, 1) := by decide +kernel
theorem dX8_notes_67 : decode cX8_notes 67 = .ok (.sipush 312, 3) := by decide +kernel
theorem dX8_notes_70 : decode cX8_notes 70 = .ok (.invokestatic 154, 3) := by decide +kernel
theorem dX8_notes_73 : decode cX8_notes 73 = .ok (.aload_n 0, 1) := by decide +kernel
theorem dX8_notes_74 : decode cX8_notes 74 = .ok (.dup, 1) := by decide +kernel
theorem dX8_notes_75 : decode cX8_notes 75 = .ok (.getfield 163, 3) := by decide +kernel
theorem dX8_notes_78 : decode cX8_notes 78 = .ok (.iconst 1, 1) := by decide +kernel
theorem dX8_notes_79 : decode cX8_notes 79 = .ok (.iadd, 1) := by decide +kernel
theorem dX8_notes_80 : decode cX8_notes 80 = .ok (.putfield 163, 3) := by decide +kernel
theorem dX8_notes_83 : decode cX8_notes 83 = .ok (.return_, 1) := by decide +kernel
theorem dX8_comes_0 : decode cX8_comes 0 = .ok (.aload_n 0, 1) := by decide +kernel
theorem dX8_comes_1 : decode cX8_comes 1 = .ok (.invokevirtual 168, 3) := by decide +kernel
theorem dX8_comes_4 : decode cX8_comes 4 = .ok (.aload_n 0, 1) := by decide +kernel
theorem dX8_comes_5 : decode cX8_comes 5 = .ok (.getfield 25, 3) := by decide +kernel
theorem dX8_comes_8 : decode cX8_comes 8 = .ok (.bipush 9, 2) := by decide +kernel
theorem dX8_comes_10 : decode cX8_comes 10 = .ok (.laload, 1) := by decide +kernel
theorem dX8_comes_11 : decode cX8_comes 11 = .ok (.l2i, 1) := by decide +kernel
theorem dX8_comes_12 : decode cX8_comes 12 = .ok (.istore_n 2, 1) := by decide +kernel
theorem dX8_comes_13 : decode cX8_comes 13 = .ok (.aload_n 0, 1) := by decide +kernel
theorem dX8_comes_14 : decode cX8_comes 14 = .ok (.getfield 42, 3) := by decide +kernel
theorem dX8_comes_17 : decode cX8_comes 17 = .ok (.iconst 0, 1) := by decide +kernel
theorem dX8_comes_18 : decode cX8_comes 18 = .ok (.iload_n 1, 1) := by decide +kernel
theorem dX8_comes_19 : decode cX8_comes 19 = .ok (.i2l, 1) := by decide +kernel
theorem dX8_comes_20 : decode cX8_comes 20 = .ok (.lastore, 1) := by decide +kernel
theorem dX8_comes_21 : decode cX8_comes 21 = .ok (.aload_n 0, 1) := by decide +kernel
theorem dX8_comes_22 : decode cX8_comes 22 = .ok (.getfield 42, 3) := by decide +kernel
theorem dX8_comes_25 : decode cX8_comes 25 = .ok (.iconst 0, 1) := by decide +kernel
theorem dX8_comes_26 : decode cX8_comes 26 = .ok (.aload_n 0, 1) := by decide +kernel
theorem dX8_comes_27 : decode cX8_comes 27 = .ok (.getfield 25, 3) := by decide +kernel
theorem dX8_comes_30 : decode cX8_comes 30 = .ok (.bipush 12, 2) := by decide +kernel
theorem dX8_comes_32 : decode cX8_comes 32 = .ok (.bipush 10, 2) := by decide +kernel
theorem dX8_comes_34 : decode cX8_comes 34 = .ok (.iload_n 2, 1) := by decide +kernel
theorem dX8_comes_35 : decode cX8_comes 35 = .ok (.imul, 1) := by decide +kernel
theorem dX8_comes_36 : decode cX8_comes 36 = .ok (.iadd, 1) := by decide +kernel
theorem dX8_comes_37 : decode cX8_comes 37 = .ok (.bipush 10, 2) := by decide +kernel
theorem dX8_comes_39 : decode cX8_comes 39 = .ok (.invokestatic 154, 3) := by decide +kernel
theorem dX8_comes_42 : decode cX8_comes 42 = .ok (.aload_n 0, 1) := by decide +kernel
theorem dX8_comes_43 : decode cX8_comes 43 = .ok (.getfield 25, 3) := by decide +kernel
theorem dX8_comes_46 : decode cX8_comes 46 = .ok (.bipush 10, 2) := by decide +kernel
theorem dX8_comes_48 : decode cX8_comes 48 = .ok (.dup2, 1) := by decide +kernel
theorem dX8_comes_49 : decode cX8_comes 49 = .ok (.laload, 1) := by decide +kernel
theorem dX8_comes_50 : decode cX8_comes 50 = .ok (.lconst 1, 1) := by decide +kernel
theorem dX8_comes_51 : decode cX8_comes 51 = .ok (.iload_n 2, 1) := by decide +kernel
theorem dX8_comes_52 : decode cX8_comes 52 = .ok (.lshl, 1) := by decide +kernel
theorem dX8_comes_53 : decode cX8_comes 53 = .ok (.lor, 1) := by decide +kernel
theorem dX8_comes_54 : decode cX8_comes 54 = .ok (.lastore, 1) := by decide +kernel
theorem dX8_comes_55 : decode cX8_comes 55 = .ok (.aload_n 0, 1) := by decide +kernel
theorem dX8_comes_56 : decode cX8_comes 56 = .ok (.getfield 25, 3) := by decide +kernel
theorem dX8_comes_59 : decode cX8_comes 59 = .ok (.bipush 9, 2) := by decide +kernel
theorem dX8_comes_61 : decode cX8_comes 61 = .ok (.dup2, 1) := by decide +kernel
theorem dX8_comes_62 : decode cX8_comes 62 = .ok (.laload, 1) := by decide +kernel
theorem dX8_comes_63 : decode cX8_comes 63 = .ok (.lconst 1, 1) := by decide +kernel
theorem dX8_comes_64 : decode cX8_comes 64 = .ok (.ladd, 1) := by decide +kernel
theorem dX8_comes_65 : decode cX8_comes 65 = .ok (.lastore, 1) := by decide +kernel
theorem dX8_comes_66 : decode cX8_comes 66 = .ok (.iload_n 2, 1) := by decide +kernel
theorem dX8_comes_67 : decode cX8_comes 67 = .ok (.ireturn, 1) := by decide +kernel
theorem dX8_takesClause_0 : decode cX8_takesClause 0 = .ok (.aload_n 0, 1) := by decide +kernel
theorem dX8_takesClause_1 : decode cX8_takesClause 1 = .ok (.getfield 25, 3) := by decide +kernel
theorem dX8_takesClause_4 : decode cX8_takesClause 4 = .ok (.bipush 12, 2) := by decide +kernel
theorem dX8_takesClause_6 : decode cX8_takesClause 6 = .ok (.bipush 10, 2) := by decide +kernel
theorem dX8_takesClause_8 : decode cX8_takesClause 8 = .ok (.iload_n 1, 1) := by decide +kernel
theorem dX8_takesClause_9 : decode cX8_takesClause 9 = .ok (.imul, 1) := by decide +kernel
theorem dX8_takesClause_10 : decode cX8_takesClause 10 = .ok (.iadd, 1) := by decide +kernel
theorem dX8_takesClause_11 : decode cX8_takesClause 11 = .ok (.aload_n 0, 1) := by decide +kernel
theorem dX8_takesClause_12 : decode cX8_takesClause 12 = .ok (.getfield 42, 3) := by decide +kernel
theorem dX8_takesClause_15 : decode cX8_takesClause 15 = .ok (.iconst 0, 1) := by decide +kernel
theorem dX8_takesClause_16 : decode cX8_takesClause 16 = .ok (.bipush 10, 2) := by decide +kernel
theorem dX8_takesClause_18 : decode cX8_takesClause 18 = .ok (.invokestatic 154, 3) := by decide +kernel
theorem dX8_takesClause_21 : decode cX8_takesClause 21 = .ok (.return_, 1) := by decide +kernel
theorem dX8_plus_0 : decode cX8_plus 0 = .ok (.aload_n 0, 1) := by decide +kernel
theorem dX8_plus_1 : decode cX8_plus 1 = .ok (.invokevirtual 171, 3) := by decide +kernel
theorem dX8_plus_4 : decode cX8_plus 4 = .ok (.ifCond .ne 6, 3) := by decide +kernel
theorem dX8_plus_7 : decode cX8_plus 7 = .ok (.ldc 174, 2) := by decide +kernel
theorem dX8_plus_9 : decode cX8_plus 9 = .ok (.ireturn, 1) := by decide +kernel
theorem dX8_plus_10 : decode cX8_plus 10 = .ok (.aload_n 0, 1) := by decide +kernel
theorem dX8_plus_11 : decode cX8_plus 11 = .ok (.iload_n 1, 1) := by decide +kernel
theorem dX8_plus_12 : decode cX8_plus 12 = .ok (.invokevirtual 175, 3) := by decide +kernel
theorem dX8_plus_15 : decode cX8_plus 15 = .ok (.ifCond .eq 11, 3) := by decide +kernel
theorem dX8_plus_18 : decode cX8_plus 18 = .ok (.aload_n 0, 1) := by decide +kernel
theorem dX8_plus_19 : decode cX8_plus 19 = .ok (.iload_n 2, 1) := by decide +kernel
theorem dX8_plus_20 : decode cX8_plus 20 = .ok (.invokevirtual 175, 3) := by decide +kernel
theorem dX8_plus_23 : decode cX8_plus 23 = .ok (.ifCond .ne 6, 3) := by decide +kernel
theorem dX8_plus_26 : decode cX8_plus 26 = .ok (.ldc 76, 2) := by decide +kernel
theorem dX8_plus_28 : decode cX8_plus 28 = .ok (.ireturn, 1) := by decide +kernel
theorem dX8_plus_29 : decode cX8_plus 29 = .ok (.aload_n 0, 1) := by decide +kernel
theorem dX8_plus_30 : decode cX8_plus 30 = .ok (.invokevirtual 178, 3) := by decide +kernel
theorem dX8_plus_33 : decode cX8_plus 33 = .ok (.ifCond .eq 6, 3) := by decide +kernel
theorem dX8_plus_36 : decode cX8_plus 36 = .ok (.ldc 97, 2) := by decide +kernel
theorem dX8_plus_38 : decode cX8_plus 38 = .ok (.ireturn, 1) := by decide +kernel
theorem dX8_plus_39 : decode cX8_plus 39 = .ok (.aload_n 0, 1) := by decide +kernel
theorem dX8_plus_40 : decode cX8_plus 40 = .ok (.iload_n 1, 1) := by decide +kernel
theorem dX8_plus_41 : decode cX8_plus 41 = .ok (.invokevirtual 181, 3) := by decide +kernel
theorem dX8_plus_44 : decode cX8_plus 44 = .ok (.bipush 12, 2) := by decide +kernel
theorem dX8_plus_46 : decode cX8_plus 46 = .ok (.bipush 10, 2) := by decide +kernel
theorem dX8_plus_48 : decode cX8_plus 48 = .ok (.iload_n 2, 1) := by decide +kernel
theorem dX8_plus_49 : decode cX8_plus 49 = .ok (.imul, 1) := by decide +kernel
theorem dX8_plus_50 : decode cX8_plus 50 = .ok (.iadd, 1) := by decide +kernel
theorem dX8_plus_51 : decode cX8_plus 51 = .ok (.istore_n 3, 1) := by decide +kernel
theorem dX8_plus_52 : decode cX8_plus 52 = .ok (.aload_n 0, 1) := by decide +kernel
theorem dX8_plus_53 : decode cX8_plus 53 = .ok (.getfield 42, 3) := by decide +kernel
theorem dX8_plus_56 : decode cX8_plus 56 = .ok (.iconst 1, 1) := by decide +kernel
theorem dX8_plus_57 : decode cX8_plus 57 = .ok (.laload, 1) := by decide +kernel
theorem dX8_plus_58 : decode cX8_plus 58 = .ok (.ldc2_w 185, 3) := by decide +kernel
theorem dX8_plus_61 : decode cX8_plus 61 = .ok (.aload_n 0, 1) := by decide +kernel
theorem dX8_plus_62 : decode cX8_plus 62 = .ok (.getfield 25, 3) := by decide +kernel
theorem dX8_plus_65 : decode cX8_plus 65 = .ok (.iload_n 3, 1) := by decide +kernel
theorem dX8_plus_66 : decode cX8_plus 66 = .ok (.iconst 1, 1) := by decide +kernel
theorem dX8_plus_67 : decode cX8_plus 67 = .ok (.iadd, 1) := by decide +kernel
theorem dX8_plus_68 : decode cX8_plus 68 = .ok (.laload, 1) := by decide +kernel
theorem dX8_plus_69 : decode cX8_plus 69 = .ok (.lsub, 1) := by decide +kernel
theorem dX8_plus_70 : decode cX8_plus 70 = .ok (.lcmp, 1) := by decide +kernel
theorem dX8_plus_71 : decode cX8_plus 71 = .ok (.ifCond .le 10, 3) := by decide +kernel
theorem dX8_plus_74 : decode cX8_plus 74 = .ok (.aload_n 0, 1) := by decide +kernel
theorem dX8_plus_75 : decode cX8_plus 75 = .ok (.bipush 6, 2) := by decide +kernel
theorem dX8_plus_77 : decode cX8_plus 77 = .ok (.invokevirtual 77, 3) := by decide +kernel
theorem dX8_plus_80 : decode cX8_plus 80 = .ok (.ireturn, 1) := by decide +kernel
theorem dX8_plus_81 : decode cX8_plus 81 = .ok (.aload_n 0, 1) := by decide +kernel
theorem dX8_plus_82 : decode cX8_plus 82 = .ok (.getfield 42, 3) := by decide +kernel
theorem dX8_plus_85 : decode cX8_plus 85 = .ok (.iconst 1, 1) := by decide +kernel
theorem dX8_plus_86 : decode cX8_plus 86 = .ok (.laload, 1) := by decide +kernel
theorem dX8_plus_87 : decode cX8_plus 87 = .ok (.aload_n 0, 1) := by decide +kernel
theorem dX8_plus_88 : decode cX8_plus 88 = .ok (.getfield 25, 3) := by decide +kernel
theorem dX8_plus_91 : decode cX8_plus 91 = .ok (.iload_n 3, 1) := by decide +kernel
theorem dX8_plus_92 : decode cX8_plus 92 = .ok (.iconst 1, 1) := by decide +kernel
theorem dX8_plus_93 : decode cX8_plus 93 = .ok (.iadd, 1) := by decide +kernel
theorem dX8_plus_94 : decode cX8_plus 94 = .ok (.laload, 1) := by decide +kernel
theorem dX8_plus_95 : decode cX8_plus 95 = .ok (.ladd, 1) := by decide +kernel
theorem dX8_plus_96 : decode cX8_plus 96 = .ok (.lstore 4, 2) := by decide +kernel
theorem dX8_plus_98 : decode cX8_plus 98 = .ok (.iconst 0, 1) := by decide +kernel
theorem dX8_plus_99 : decode cX8_plus 99 = .ok (.istore 6, 2) := by decide +kernel
theorem dX8_plus_101 : decode cX8_plus 101 = .ok (.iload 6, 2) := by decide +kernel
theorem dX8_plus_103 : decode cX8_plus 103 = .ok (.bipush 8, 2) := by decide +kernel
theorem dX8_plus_105 : decode cX8_plus 105 = .ok (.if_icmp .ge 151, 3) := by decide +kernel
theorem dX8_plus_108 : decode cX8_plus 108 = .ok (.aload_n 0, 1) := by decide +kernel
theorem dX8_plus_109 : decode cX8_plus 109 = .ok (.getfield 42, 3) := by decide +kernel
theorem dX8_plus_112 : decode cX8_plus 112 = .ok (.iconst 2, 1) := by decide +kernel
theorem dX8_plus_113 : decode cX8_plus 113 = .ok (.iload 6, 2) := by decide +kernel
theorem dX8_plus_115 : decode cX8_plus 115 = .ok (.iadd, 1) := by decide +kernel
theorem dX8_plus_116 : decode cX8_plus 116 = .ok (.laload, 1) := by decide +kernel
theorem dX8_plus_117 : decode cX8_plus 117 = .ok (.lstore 7, 2) := by decide +kernel
theorem dX8_plus_119 : decode cX8_plus 119 = .ok (.aload_n 0, 1) := by decide +kernel
theorem dX8_plus_120 : decode cX8_plus 120 = .ok (.getfield 25, 3) := by decide +kernel
theorem dX8_plus_123 : decode cX8_plus 123 = .ok (.iload_n 3, 1) := by decide +kernel
theorem dX8_plus_124 : decode cX8_plus 124 = .ok (.iconst 2, 1) := by decide +kernel
theorem dX8_plus_125 : decode cX8_plus 125 = .ok (.iadd, 1) := by decide +kernel
theorem dX8_plus_126 : decode cX8_plus 126 = .ok (.iload 6, 2) := by decide +kernel
theorem dX8_plus_128 : decode cX8_plus 128 = .ok (.iadd, 1) := by decide +kernel
theorem dX8_plus_129 : decode cX8_plus 129 = .ok (.laload, 1) := by decide +kernel
theorem dX8_plus_130 : decode cX8_plus 130 = .ok (.lstore 9, 2) := by decide +kernel
theorem dX8_plus_132 : decode cX8_plus 132 = .ok (.lload 7, 2) := by decide +kernel
theorem dX8_plus_134 : decode cX8_plus 134 = .ok (.lconst 0, 1) := by decide +kernel
theorem dX8_plus_135 : decode cX8_plus 135 = .ok (.lcmp, 1) := by decide +kernel
theorem dX8_plus_136 : decode cX8_plus 136 = .ok (.ifCond .ge 10, 3) := by decide +kernel
theorem dX8_plus_139 : decode cX8_plus 139 = .ok (.lload 9, 2) := by decide +kernel
theorem dX8_plus_141 : decode cX8_plus 141 = .ok (.lconst 0, 1) := by decide +kernel
theorem dX8_plus_142 : decode cX8_plus 142 = .ok (.lcmp, 1) := by decide +kernel
theorem dX8_plus_143 : decode cX8_plus 143 = .ok (.ifCond .gt 17, 3) := by decide +kernel
theorem dX8_plus_146 : decode cX8_plus 146 = .ok (.lload 7, 2) := by decide +kernel
theorem dX8_plus_148 : decode cX8_plus 148 = .ok (.lconst 0, 1) := by decide +kernel
theorem dX8_plus_149 : decode cX8_plus 149 = .ok (.lcmp, 1) := by decide +kernel
theorem dX8_plus_150 : decode cX8_plus 150 = .ok (.ifCond .le 61, 3) := by decide +kernel
theorem dX8_plus_153 : decode cX8_plus 153 = .ok (.lload 9, 2) := by decide +kernel
theorem dX8_plus_155 : decode cX8_plus 155 = .ok (.lconst 0, 1) := by decide +kernel
theorem dX8_plus_156 : decode cX8_plus 156 = .ok (.lcmp, 1) := by decide +kernel
theorem dX8_plus_157 : decode cX8_plus 157 = .ok (.ifCond .ge 54, 3) := by decide +kernel
theorem dX8_plus_160 : decode cX8_plus 160 = .ok (.lload 7, 2) := by decide +kernel
theorem dX8_plus_162 : decode cX8_plus 162 = .ok (.invokestatic 187, 3) := by decide +kernel
theorem dX8_plus_165 : decode cX8_plus 165 = .ok (.lload 9, 2) := by decide +kernel
theorem dX8_plus_167 : decode cX8_plus 167 = .ok (.invokestatic 187, 3) := by decide +kernel
theorem dX8_plus_170 : decode cX8_plus 170 = .ok (.lcmp, 1) := by decide +kernel
theorem dX8_plus_171 : decode cX8_plus 171 = .ok (.ifCond .ge 11, 3) := by decide +kernel
theorem dX8_plus_174 : decode cX8_plus 174 = .ok (.lload 7, 2) := by decide +kernel
theorem dX8_plus_176 : decode cX8_plus 176 = .ok (.invokestatic 187, 3) := by decide +kernel
theorem dX8_plus_179 : decode cX8_plus 179 = .ok (.goto 8, 3) := by decide +kernel
theorem dX8_plus_182 : decode cX8_plus 182 = .ok (.lload 9, 2) := by decide +kernel
theorem dX8_plus_184 : decode cX8_plus 184 = .ok (.invokestatic 187, 3) := by decide +kernel
theorem dX8_plus_187 : decode cX8_plus 187 = .ok (.lstore 11, 2) := by decide +kernel
theorem dX8_plus_189 : decode cX8_plus 189 = .ok (.lload 4, 2) := by decide +kernel
theorem dX8_plus_191 : decode cX8_plus 191 = .ok (.lload 11, 2) := by decide +kernel
theorem dX8_plus_193 : decode cX8_plus 193 = .ok (.lcmp, 1) := by decide +kernel
theorem dX8_plus_194 : decode cX8_plus 194 = .ok (.ifCond .ge 7, 3) := by decide +kernel
theorem dX8_plus_197 : decode cX8_plus 197 = .ok (.lconst 0, 1) := by decide +kernel
theorem dX8_plus_198 : decode cX8_plus 198 = .ok (.goto 8, 3) := by decide +kernel
theorem dX8_plus_201 : decode cX8_plus 201 = .ok (.lload 4, 2) := by decide +kernel
theorem dX8_plus_203 : decode cX8_plus 203 = .ok (.lload 11, 2) := by decide +kernel
theorem dX8_plus_205 : decode cX8_plus 205 = .ok (.lsub, 1) := by decide +kernel
theorem dX8_plus_206 : decode cX8_plus 206 = .ok (.lstore 4, 2) := by decide +kernel
theorem dX8_plus_208 : decode cX8_plus 208 = .ok (.goto 28, 3) := by decide +kernel
theorem dX8_plus_211 : decode cX8_plus 211 = .ok (.lload 7, 2) := by decide +kernel
theorem dX8_plus_213 : decode cX8_plus 213 = .ok (.invokestatic 187, 3) := by decide +kernel
theorem dX8_plus_216 : decode cX8_plus 216 = .ok (.ldc2_w 185, 3) := by decide +kernel
end
section
theorem dX8_plus_219 : decode cX8_plus 219 = .ok (.lload 9, 2) := by decide +kernel
theorem dX8_plus_221 : decode cX8_plus 221 = .ok (.invokestatic 187, 3) := by decide +kernel
theorem dX8_plus_224 : decode cX8_plus 224 = .ok (.lsub, 1) := by decide +kernel
theorem dX8_plus_225 : decode cX8_plus 225 = .ok (.lcmp, 1) := by decide +kernel
theorem dX8_plus_226 : decode cX8_plus 226 = .ok (.ifCond .le 10, 3) := by decide +kernel
theorem dX8_plus_229 : decode cX8_plus 229 = .ok (.aload_n 0, 1) := by decide +kernel
theorem dX8_plus_230 : decode cX8_plus 230 = .ok (.bipush 6, 2) := by decide +kernel
theorem dX8_plus_232 : decode cX8_plus 232 = .ok (.invokevirtual 77, 3) := by decide +kernel
theorem dX8_plus_235 : decode cX8_plus 235 = .ok (.ireturn, 1) := by decide +kernel
theorem dX8_plus_236 : decode cX8_plus 236 = .ok (.aload_n 0, 1) := by decide +kernel
theorem dX8_plus_237 : decode cX8_plus 237 = .ok (.getfield 42, 3) := by decide +kernel
theorem dX8_plus_240 : decode cX8_plus 240 = .ok (.iconst 2, 1) := by decide +kernel
theorem dX8_plus_241 : decode cX8_plus 241 = .ok (.iload 6, 2) := by decide +kernel
theorem dX8_plus_243 : decode cX8_plus 243 = .ok (.iadd, 1) := by decide +kernel
theorem dX8_plus_244 : decode cX8_plus 244 = .ok (.lload 7, 2) := by decide +kernel
theorem dX8_plus_246 : decode cX8_plus 246 = .ok (.lload 9, 2) := by decide +kernel
theorem dX8_plus_248 : decode cX8_plus 248 = .ok (.ladd, 1) := by decide +kernel
theorem dX8_plus_249 : decode cX8_plus 249 = .ok (.lastore, 1) := by decide +kernel
theorem dX8_plus_250 : decode cX8_plus 250 = .ok (.iinc 6 1, 3) := by decide +kernel
theorem dX8_plus_253 : decode cX8_plus 253 = .ok (.goto (-152), 3) := by decide +kernel
theorem dX8_plus_256 : decode cX8_plus 256 = .ok (.aload_n 0, 1) := by decide +kernel
theorem dX8_plus_257 : decode cX8_plus 257 = .ok (.getfield 42, 3) := by decide +kernel
theorem dX8_plus_260 : decode cX8_plus 260 = .ok (.iconst 1, 1) := by decide +kernel
theorem dX8_plus_261 : decode cX8_plus 261 = .ok (.lload 4, 2) := by decide +kernel
theorem dX8_plus_263 : decode cX8_plus 263 = .ok (.lastore, 1) := by decide +kernel
theorem dX8_plus_264 : decode cX8_plus 264 = .ok (.aload_n 0, 1) := by decide +kernel
theorem dX8_plus_265 : decode cX8_plus 265 = .ok (.aload_n 0, 1) := by decide +kernel
theorem dX8_plus_266 : decode cX8_plus 266 = .ok (.iconst 4, 1) := by decide +kernel
theorem dX8_plus_267 : decode cX8_plus 267 = .ok (.invokevirtual 191, 3) := by decide +kernel
theorem dX8_plus_270 : decode cX8_plus 270 = .ok (.invokevirtual 81, 3) := by decide +kernel
theorem dX8_plus_273 : decode cX8_plus 273 = .ok (.ireturn, 1) := by decide +kernel
theorem dX8_times_0 : decode cX8_times 0 = .ok (.aload_n 0, 1) := by decide +kernel
theorem dX8_times_1 : decode cX8_times 1 = .ok (.invokevirtual 171, 3) := by decide +kernel
theorem dX8_times_4 : decode cX8_times 4 = .ok (.ifCond .ne 6, 3) := by decide +kernel
theorem dX8_times_7 : decode cX8_times 7 = .ok (.ldc 174, 2) := by decide +kernel
theorem dX8_times_9 : decode cX8_times 9 = .ok (.ireturn, 1) := by decide +kernel
theorem dX8_times_10 : decode cX8_times 10 = .ok (.aload_n 0, 1) := by decide +kernel
theorem dX8_times_11 : decode cX8_times 11 = .ok (.iload_n 1, 1) := by decide +kernel
theorem dX8_times_12 : decode cX8_times 12 = .ok (.invokevirtual 175, 3) := by decide +kernel
theorem dX8_times_15 : decode cX8_times 15 = .ok (.ifCond .eq 8, 3) := by decide +kernel
theorem dX8_times_18 : decode cX8_times 18 = .ok (.iload_n 2, 1) := by decide +kernel
theorem dX8_times_19 : decode cX8_times 19 = .ok (.iconst 1, 1) := by decide +kernel
theorem dX8_times_20 : decode cX8_times 20 = .ok (.if_icmp .ge 6, 3) := by decide +kernel
theorem dX8_times_23 : decode cX8_times 23 = .ok (.ldc 76, 2) := by decide +kernel
theorem dX8_times_25 : decode cX8_times 25 = .ok (.ireturn, 1) := by decide +kernel
theorem dX8_times_26 : decode cX8_times 26 = .ok (.aload_n 0, 1) := by decide +kernel
theorem dX8_times_27 : decode cX8_times 27 = .ok (.invokevirtual 178, 3) := by decide +kernel
theorem dX8_times_30 : decode cX8_times 30 = .ok (.ifCond .eq 6, 3) := by decide +kernel
theorem dX8_times_33 : decode cX8_times 33 = .ok (.ldc 97, 2) := by decide +kernel
theorem dX8_times_35 : decode cX8_times 35 = .ok (.ireturn, 1) := by decide +kernel
theorem dX8_times_36 : decode cX8_times 36 = .ok (.aload_n 0, 1) := by decide +kernel
theorem dX8_times_37 : decode cX8_times 37 = .ok (.iload_n 1, 1) := by decide +kernel
theorem dX8_times_38 : decode cX8_times 38 = .ok (.invokevirtual 181, 3) := by decide +kernel
theorem dX8_times_41 : decode cX8_times 41 = .ok (.iconst 1, 1) := by decide +kernel
theorem dX8_times_42 : decode cX8_times 42 = .ok (.istore_n 3, 1) := by decide +kernel
theorem dX8_times_43 : decode cX8_times 43 = .ok (.iload_n 3, 1) := by decide +kernel
theorem dX8_times_44 : decode cX8_times 44 = .ok (.bipush 10, 2) := by decide +kernel
theorem dX8_times_46 : decode cX8_times 46 = .ok (.if_icmp .ge 46, 3) := by decide +kernel
theorem dX8_times_49 : decode cX8_times 49 = .ok (.aload_n 0, 1) := by decide +kernel
theorem dX8_times_50 : decode cX8_times 50 = .ok (.getfield 42, 3) := by decide +kernel
theorem dX8_times_53 : decode cX8_times 53 = .ok (.iload_n 3, 1) := by decide +kernel
theorem dX8_times_54 : decode cX8_times 54 = .ok (.laload, 1) := by decide +kernel
theorem dX8_times_55 : decode cX8_times 55 = .ok (.invokestatic 187, 3) := by decide +kernel
theorem dX8_times_58 : decode cX8_times 58 = .ok (.ldc2_w 185, 3) := by decide +kernel
theorem dX8_times_61 : decode cX8_times 61 = .ok (.iload_n 2, 1) := by decide +kernel
theorem dX8_times_62 : decode cX8_times 62 = .ok (.i2l, 1) := by decide +kernel
theorem dX8_times_63 : decode cX8_times 63 = .ok (.ldiv, 1) := by decide +kernel
theorem dX8_times_64 : decode cX8_times 64 = .ok (.lcmp, 1) := by decide +kernel
theorem dX8_times_65 : decode cX8_times 65 = .ok (.ifCond .le 10, 3) := by decide +kernel
theorem dX8_times_68 : decode cX8_times 68 = .ok (.aload_n 0, 1) := by decide +kernel
theorem dX8_times_69 : decode cX8_times 69 = .ok (.bipush 6, 2) := by decide +kernel
theorem dX8_times_71 : decode cX8_times 71 = .ok (.invokevirtual 77, 3) := by decide +kernel
theorem dX8_times_74 : decode cX8_times 74 = .ok (.ireturn, 1) := by decide +kernel
theorem dX8_times_75 : decode cX8_times 75 = .ok (.aload_n 0, 1) := by decide +kernel
theorem dX8_times_76 : decode cX8_times 76 = .ok (.getfield 42, 3) := by decide +kernel
theorem dX8_times_79 : decode cX8_times 79 = .ok (.iload_n 3, 1) := by decide +kernel
theorem dX8_times_80 : decode cX8_times 80 = .ok (.dup2, 1) := by decide +kernel
theorem dX8_times_81 : decode cX8_times 81 = .ok (.laload, 1) := by decide +kernel
theorem dX8_times_82 : decode cX8_times 82 = .ok (.iload_n 2, 1) := by decide +kernel
theorem dX8_times_83 : decode cX8_times 83 = .ok (.i2l, 1) := by decide +kernel
theorem dX8_times_84 : decode cX8_times 84 = .ok (.lmul, 1) := by decide +kernel
theorem dX8_times_85 : decode cX8_times 85 = .ok (.lastore, 1) := by decide +kernel
theorem dX8_times_86 : decode cX8_times 86 = .ok (.iinc 3 1, 3) := by decide +kernel
theorem dX8_times_89 : decode cX8_times 89 = .ok (.goto (-46), 3) := by decide +kernel
theorem dX8_times_92 : decode cX8_times 92 = .ok (.aload_n 0, 1) := by decide +kernel
theorem dX8_times_93 : decode cX8_times 93 = .ok (.aload_n 0, 1) := by decide +kernel
theorem dX8_times_94 : decode cX8_times 94 = .ok (.iconst 4, 1) := by decide +kernel
theorem dX8_times_95 : decode cX8_times 95 = .ok (.invokevirtual 191, 3) := by decide +kernel
theorem dX8_times_98 : decode cX8_times 98 = .ok (.invokevirtual 81, 3) := by decide +kernel
theorem dX8_times_101 : decode cX8_times 101 = .ok (.ireturn, 1) := by decide +kernel
theorem dX8_split_0 : decode cX8_split 0 = .ok (.aload_n 0, 1) := by decide +kernel
theorem dX8_split_1 : decode cX8_split 1 = .ok (.invokevirtual 171, 3) := by decide +kernel
theorem dX8_split_4 : decode cX8_split 4 = .ok (.ifCond .ne 6, 3) := by decide +kernel
theorem dX8_split_7 : decode cX8_split 7 = .ok (.ldc 174, 2) := by decide +kernel
theorem dX8_split_9 : decode cX8_split 9 = .ok (.ireturn, 1) := by decide +kernel
theorem dX8_split_10 : decode cX8_split 10 = .ok (.aload_n 0, 1) := by decide +kernel
theorem dX8_split_11 : decode cX8_split 11 = .ok (.iload_n 1, 1) := by decide +kernel
theorem dX8_split_12 : decode cX8_split 12 = .ok (.invokevirtual 175, 3) := by decide +kernel
theorem dX8_split_15 : decode cX8_split 15 = .ok (.ifCond .eq 8, 3) := by decide +kernel
theorem dX8_split_18 : decode cX8_split 18 = .ok (.iload_n 2, 1) := by decide +kernel
theorem dX8_split_19 : decode cX8_split 19 = .ok (.iconst 1, 1) := by decide +kernel
theorem dX8_split_20 : decode cX8_split 20 = .ok (.if_icmp .ge 6, 3) := by decide +kernel
theorem dX8_split_23 : decode cX8_split 23 = .ok (.ldc 76, 2) := by decide +kernel
theorem dX8_split_25 : decode cX8_split 25 = .ok (.ireturn, 1) := by decide +kernel
theorem dX8_split_26 : decode cX8_split 26 = .ok (.aload_n 0, 1) := by decide +kernel
theorem dX8_split_27 : decode cX8_split 27 = .ok (.invokevirtual 178, 3) := by decide +kernel
theorem dX8_split_30 : decode cX8_split 30 = .ok (.ifCond .eq 6, 3) := by decide +kernel
theorem dX8_split_33 : decode cX8_split 33 = .ok (.ldc 97, 2) := by decide +kernel
theorem dX8_split_35 : decode cX8_split 35 = .ok (.ireturn, 1) := by decide +kernel
theorem dX8_split_36 : decode cX8_split 36 = .ok (.aload_n 0, 1) := by decide +kernel
theorem dX8_split_37 : decode cX8_split 37 = .ok (.iload_n 1, 1) := by decide +kernel
theorem dX8_split_38 : decode cX8_split 38 = .ok (.invokevirtual 181, 3) := by decide +kernel
theorem dX8_split_41 : decode cX8_split 41 = .ok (.iconst 1, 1) := by decide +kernel
theorem dX8_split_42 : decode cX8_split 42 = .ok (.istore_n 3, 1) := by decide +kernel
theorem dX8_split_43 : decode cX8_split 43 = .ok (.iload_n 3, 1) := by decide +kernel
theorem dX8_split_44 : decode cX8_split 44 = .ok (.bipush 10, 2) := by decide +kernel
theorem dX8_split_46 : decode cX8_split 46 = .ok (.if_icmp .ge 71, 3) := by decide +kernel
theorem dX8_split_49 : decode cX8_split 49 = .ok (.aload_n 0, 1) := by decide +kernel
theorem dX8_split_50 : decode cX8_split 50 = .ok (.getfield 42, 3) := by decide +kernel
theorem dX8_split_53 : decode cX8_split 53 = .ok (.iload_n 3, 1) := by decide +kernel
theorem dX8_split_54 : decode cX8_split 54 = .ok (.laload, 1) := by decide +kernel
theorem dX8_split_55 : decode cX8_split 55 = .ok (.invokestatic 187, 3) := by decide +kernel
theorem dX8_split_58 : decode cX8_split 58 = .ok (.iload_n 2, 1) := by decide +kernel
theorem dX8_split_59 : decode cX8_split 59 = .ok (.i2l, 1) := by decide +kernel
theorem dX8_split_60 : decode cX8_split 60 = .ok (.ldiv, 1) := by decide +kernel
theorem dX8_split_61 : decode cX8_split 61 = .ok (.aload_n 0, 1) := by decide +kernel
theorem dX8_split_62 : decode cX8_split 62 = .ok (.getfield 42, 3) := by decide +kernel
theorem dX8_split_65 : decode cX8_split 65 = .ok (.iload_n 3, 1) := by decide +kernel
theorem dX8_split_66 : decode cX8_split 66 = .ok (.laload, 1) := by decide +kernel
theorem dX8_split_67 : decode cX8_split 67 = .ok (.invokestatic 187, 3) := by decide +kernel
theorem dX8_split_70 : decode cX8_split 70 = .ok (.iload_n 2, 1) := by decide +kernel
theorem dX8_split_71 : decode cX8_split 71 = .ok (.i2l, 1) := by decide +kernel
theorem dX8_split_72 : decode cX8_split 72 = .ok (.lrem, 1) := by decide +kernel
theorem dX8_split_73 : decode cX8_split 73 = .ok (.lconst 0, 1) := by decide +kernel
theorem dX8_split_74 : decode cX8_split 74 = .ok (.lcmp, 1) := by decide +kernel
theorem dX8_split_75 : decode cX8_split 75 = .ok (.ifCond .le 7, 3) := by decide +kernel
theorem dX8_split_78 : decode cX8_split 78 = .ok (.lconst 1, 1) := by decide +kernel
theorem dX8_split_79 : decode cX8_split 79 = .ok (.goto 4, 3) := by decide +kernel
theorem dX8_split_82 : decode cX8_split 82 = .ok (.lconst 0, 1) := by decide +kernel
theorem dX8_split_83 : decode cX8_split 83 = .ok (.ladd, 1) := by decide +kernel
theorem dX8_split_84 : decode cX8_split 84 = .ok (.lstore 4, 2) := by decide +kernel
theorem dX8_split_86 : decode cX8_split 86 = .ok (.aload_n 0, 1) := by decide +kernel
theorem dX8_split_87 : decode cX8_split 87 = .ok (.getfield 42, 3) := by decide +kernel
theorem dX8_split_90 : decode cX8_split 90 = .ok (.iload_n 3, 1) := by decide +kernel
theorem dX8_split_91 : decode cX8_split 91 = .ok (.aload_n 0, 1) := by decide +kernel
theorem dX8_split_92 : decode cX8_split 92 = .ok (.getfield 42, 3) := by decide +kernel
theorem dX8_split_95 : decode cX8_split 95 = .ok (.iload_n 3, 1) := by decide +kernel
theorem dX8_split_96 : decode cX8_split 96 = .ok (.laload, 1) := by decide +kernel
theorem dX8_split_97 : decode cX8_split 97 = .ok (.lconst 0, 1) := by decide +kernel
theorem dX8_split_98 : decode cX8_split 98 = .ok (.lcmp, 1) := by decide +kernel
theorem dX8_split_99 : decode cX8_split 99 = .ok (.ifCond .ge 9, 3) := by decide +kernel
theorem dX8_split_102 : decode cX8_split 102 = .ok (.lload 4, 2) := by decide +kernel
theorem dX8_split_104 : decode cX8_split 104 = .ok (.lneg, 1) := by decide +kernel
theorem dX8_split_105 : decode cX8_split 105 = .ok (.goto 5, 3) := by decide +kernel
theorem dX8_split_108 : decode cX8_split 108 = .ok (.lload 4, 2) := by decide +kernel
theorem dX8_split_110 : decode cX8_split 110 = .ok (.lastore, 1) := by decide +kernel
theorem dX8_split_111 : decode cX8_split 111 = .ok (.iinc 3 1, 3) := by decide +kernel
theorem dX8_split_114 : decode cX8_split 114 = .ok (.goto (-71), 3) := by decide +kernel
theorem dX8_split_117 : decode cX8_split 117 = .ok (.aload_n 0, 1) := by decide +kernel
theorem dX8_split_118 : decode cX8_split 118 = .ok (.iconst 4, 1) := by decide +kernel
theorem dX8_split_119 : decode cX8_split 119 = .ok (.invokevirtual 191, 3) := by decide +kernel
theorem dX8_split_122 : decode cX8_split 122 = .ok (.ireturn, 1) := by decide +kernel
theorem dX8_saturate_0 : decode cX8_saturate 0 = .ok (.aload_n 0, 1) := by decide +kernel
theorem dX8_saturate_1 : decode cX8_saturate 1 = .ok (.invokevirtual 171, 3) := by decide +kernel
theorem dX8_saturate_4 : decode cX8_saturate 4 = .ok (.ifCond .ne 6, 3) := by decide +kernel
theorem dX8_saturate_7 : decode cX8_saturate 7 = .ok (.ldc 174, 2) := by decide +kernel
theorem dX8_saturate_9 : decode cX8_saturate 9 = .ok (.ireturn, 1) := by decide +kernel
theorem dX8_saturate_10 : decode cX8_saturate 10 = .ok (.aload_n 0, 1) := by decide +kernel
theorem dX8_saturate_11 : decode cX8_saturate 11 = .ok (.iload_n 1, 1) := by decide +kernel
theorem dX8_saturate_12 : decode cX8_saturate 12 = .ok (.invokevirtual 175, 3) := by decide +kernel
theorem dX8_saturate_15 : decode cX8_saturate 15 = .ok (.ifCond .ne 6, 3) := by decide +kernel
theorem dX8_saturate_18 : decode cX8_saturate 18 = .ok (.ldc 76, 2) := by decide +kernel
theorem dX8_saturate_20 : decode cX8_saturate 20 = .ok (.ireturn, 1) := by decide +kernel
theorem dX8_saturate_21 : decode cX8_saturate 21 = .ok (.aload_n 0, 1) := by decide +kernel
theorem dX8_saturate_22 : decode cX8_saturate 22 = .ok (.invokevirtual 178, 3) := by decide +kernel
theorem dX8_saturate_25 : decode cX8_saturate 25 = .ok (.ifCond .eq 6, 3) := by decide +kernel
theorem dX8_saturate_28 : decode cX8_saturate 28 = .ok (.ldc 97, 2) := by decide +kernel
theorem dX8_saturate_30 : decode cX8_saturate 30 = .ok (.ireturn, 1) := by decide +kernel
theorem dX8_saturate_31 : decode cX8_saturate 31 = .ok (.aload_n 0, 1) := by decide +kernel
theorem dX8_saturate_32 : decode cX8_saturate 32 = .ok (.iload_n 1, 1) := by decide +kernel
theorem dX8_saturate_33 : decode cX8_saturate 33 = .ok (.invokevirtual 181, 3) := by decide +kernel
theorem dX8_saturate_36 : decode cX8_saturate 36 = .ok (.iconst 2, 1) := by decide +kernel
theorem dX8_saturate_37 : decode cX8_saturate 37 = .ok (.istore_n 2, 1) := by decide +kernel
theorem dX8_saturate_38 : decode cX8_saturate 38 = .ok (.iload_n 2, 1) := by decide +kernel
theorem dX8_saturate_39 : decode cX8_saturate 39 = .ok (.bipush 10, 2) := by decide +kernel
theorem dX8_saturate_41 : decode cX8_saturate 41 = .ok (.if_icmp .ge 70, 3) := by decide +kernel
theorem dX8_saturate_44 : decode cX8_saturate 44 = .ok (.aload_n 0, 1) := by decide +kernel
theorem dX8_saturate_45 : decode cX8_saturate 45 = .ok (.getfield 42, 3) := by decide +kernel
theorem dX8_saturate_48 : decode cX8_saturate 48 = .ok (.iload_n 2, 1) := by decide +kernel
theorem dX8_saturate_49 : decode cX8_saturate 49 = .ok (.laload, 1) := by decide +kernel
theorem dX8_saturate_50 : decode cX8_saturate 50 = .ok (.invokestatic 187, 3) := by decide +kernel
theorem dX8_saturate_53 : decode cX8_saturate 53 = .ok (.aload_n 0, 1) := by decide +kernel
theorem dX8_saturate_54 : decode cX8_saturate 54 = .ok (.getfield 42, 3) := by decide +kernel
theorem dX8_saturate_57 : decode cX8_saturate 57 = .ok (.iconst 1, 1) := by decide +kernel
theorem dX8_saturate_58 : decode cX8_saturate 58 = .ok (.laload, 1) := by decide +kernel
theorem dX8_saturate_59 : decode cX8_saturate 59 = .ok (.lcmp, 1) := by decide +kernel
theorem dX8_saturate_60 : decode cX8_saturate 60 = .ok (.ifCond .le 12, 3) := by decide +kernel
theorem dX8_saturate_63 : decode cX8_saturate 63 = .ok (.aload_n 0, 1) := by decide +kernel
theorem dX8_saturate_64 : decode cX8_saturate 64 = .ok (.getfield 42, 3) := by decide +kernel
theorem dX8_saturate_67 : decode cX8_saturate 67 = .ok (.iconst 1, 1) := by decide +kernel
theorem dX8_saturate_68 : decode cX8_saturate 68 = .ok (.laload, 1) := by decide +kernel
theorem dX8_saturate_69 : decode cX8_saturate 69 = .ok (.goto 12, 3) := by decide +kernel
theorem dX8_saturate_72 : decode cX8_saturate 72 = .ok (.aload_n 0, 1) := by decide +kernel
theorem dX8_saturate_73 : decode cX8_saturate 73 = .ok (.getfield 42, 3) := by decide +kernel
theorem dX8_saturate_76 : decode cX8_saturate 76 = .ok (.iload_n 2, 1) := by decide +kernel
theorem dX8_saturate_77 : decode cX8_saturate 77 = .ok (.laload, 1) := by decide +kernel
theorem dX8_saturate_78 : decode cX8_saturate 78 = .ok (.invokestatic 187, 3) := by decide +kernel
theorem dX8_saturate_81 : decode cX8_saturate 81 = .ok (.lstore_n 3, 1) := by decide +kernel
theorem dX8_saturate_82 : decode cX8_saturate 82 = .ok (.aload_n 0, 1) := by decide +kernel
theorem dX8_saturate_83 : decode cX8_saturate 83 = .ok (.getfield 42, 3) := by decide +kernel
theorem dX8_saturate_86 : decode cX8_saturate 86 = .ok (.iload_n 2, 1) := by decide +kernel
theorem dX8_saturate_87 : decode cX8_saturate 87 = .ok (.aload_n 0, 1) := by decide +kernel
theorem dX8_saturate_88 : decode cX8_saturate 88 = .ok (.getfield 42, 3) := by decide +kernel
theorem dX8_saturate_91 : decode cX8_saturate 91 = .ok (.iload_n 2, 1) := by decide +kernel
theorem dX8_saturate_92 : decode cX8_saturate 92 = .ok (.laload, 1) := by decide +kernel
theorem dX8_saturate_93 : decode cX8_saturate 93 = .ok (.lconst 0, 1) := by decide +kernel
theorem dX8_saturate_94 : decode cX8_saturate 94 = .ok (.lcmp, 1) := by decide +kernel
theorem dX8_saturate_95 : decode cX8_saturate 95 = .ok (.ifCond .ge 8, 3) := by decide +kernel
theorem dX8_saturate_98 : decode cX8_saturate 98 = .ok (.lload_n 3, 1) := by decide +kernel
theorem dX8_saturate_99 : decode cX8_saturate 99 = .ok (.lneg, 1) := by decide +kernel
theorem dX8_saturate_100 : decode cX8_saturate 100 = .ok (.goto 4, 3) := by decide +kernel
theorem dX8_saturate_103 : decode cX8_saturate 103 = .ok (.lload_n 3, 1) := by decide +kernel
theorem dX8_saturate_104 : decode cX8_saturate 104 = .ok (.lastore, 1) := by decide +kernel
theorem dX8_saturate_105 : decode cX8_saturate 105 = .ok (.iinc 2 1, 3) := by decide +kernel
theorem dX8_saturate_108 : decode cX8_saturate 108 = .ok (.goto (-70), 3) := by decide +kernel
theorem dX8_saturate_111 : decode cX8_saturate 111 = .ok (.aload_n 0, 1) := by decide +kernel
theorem dX8_saturate_112 : decode cX8_saturate 112 = .ok (.iconst 4, 1) := by decide +kernel
theorem dX8_saturate_113 : decode cX8_saturate 113 = .ok (.invokevirtual 191, 3) := by decide +kernel
theorem dX8_saturate_116 : decode cX8_saturate 116 = .ok (.ireturn, 1) := by decide +kernel
theorem dX8_weaken_0 : decode cX8_weaken 0 = .ok (.aload_n 0, 1) := by decide +kernel
theorem dX8_weaken_1 : decode cX8_weaken 1 = .ok (.invokevirtual 171, 3) := by decide +kernel
theorem dX8_weaken_4 : decode cX8_weaken 4 = .ok (.ifCond .ne 6, 3) := by decide +kernel
theorem dX8_weaken_7 : decode cX8_weaken 7 = .ok (.ldc 174, 2) := by decide +kernel
theorem dX8_weaken_9 : decode cX8_weaken 9 = .ok (.ireturn, 1) := by decide +kernel
theorem dX8_weaken_10 : decode cX8_weaken 10 = .ok (.aload_n 0, 1) := by decide +kernel
theorem dX8_weaken_11 : decode cX8_weaken 11 = .ok (.iload_n 1, 1) := by decide +kernel
theorem dX8_weaken_12 : decode cX8_weaken 12 = .ok (.invokevirtual 175, 3) := by decide +kernel
theorem dX8_weaken_15 : decode cX8_weaken 15 = .ok (.ifCond .eq 34, 3) := by decide +kernel
theorem dX8_weaken_18 : decode cX8_weaken 18 = .ok (.iload_n 2, 1) := by decide +kernel
theorem dX8_weaken_19 : decode cX8_weaken 19 = .ok (.iconst 0, 1) := by decide +kernel
theorem dX8_weaken_20 : decode cX8_weaken 20 = .ok (.bipush 7, 2) := by decide +kernel
theorem dX8_weaken_22 : decode cX8_weaken 22 = .ok (.invokestatic 68, 3) := by decide +kernel
theorem dX8_weaken_25 : decode cX8_weaken 25 = .ok (.ifCond .eq 24, 3) := by decide +kernel
theorem dX8_weaken_28 : decode cX8_weaken 28 = .ok (.aload_n 0, 1) := by decide +kernel
theorem dX8_weaken_29 : decode cX8_weaken 29 = .ok (.getfield 25, 3) := by decide +kernel
theorem dX8_weaken_32 : decode cX8_weaken 32 = .ok (.bipush 12, 2) := by decide +kernel
theorem dX8_weaken_34 : decode cX8_weaken 34 = .ok (.bipush 10, 2) := by decide +kernel
theorem dX8_weaken_36 : decode cX8_weaken 36 = .ok (.iload_n 1, 1) := by decide +kernel
theorem dX8_weaken_37 : decode cX8_weaken 37 = .ok (.imul, 1) := by decide +kernel
theorem dX8_weaken_38 : decode cX8_weaken 38 = .ok (.iadd, 1) := by decide +kernel
theorem dX8_weaken_39 : decode cX8_weaken 39 = .ok (.iconst 2, 1) := by decide +kernel
theorem dX8_weaken_40 : decode cX8_weaken 40 = .ok (.iadd, 1) := by decide +kernel
theorem dX8_weaken_41 : decode cX8_weaken 41 = .ok (.iload_n 2, 1) := by decide +kernel
theorem dX8_weaken_42 : decode cX8_weaken 42 = .ok (.iadd, 1) := by decide +kernel
theorem dX8_weaken_43 : decode cX8_weaken 43 = .ok (.laload, 1) := by decide +kernel
theorem dX8_weaken_44 : decode cX8_weaken 44 = .ok (.lconst 0, 1) := by decide +kernel
theorem dX8_weaken_45 : decode cX8_weaken 45 = .ok (.lcmp, 1) := by decide +kernel
theorem dX8_weaken_46 : decode cX8_weaken 46 = .ok (.ifCond .ne 6, 3) := by decide +kernel
theorem dX8_weaken_49 : decode cX8_weaken 49 = .ok (.ldc 76, 2) := by decide +kernel
theorem dX8_weaken_51 : decode cX8_weaken 51 = .ok (.ireturn, 1) := by decide +kernel
theorem dX8_weaken_52 : decode cX8_weaken 52 = .ok (.aload_n 0, 1) := by decide +kernel
theorem dX8_weaken_53 : decode cX8_weaken 53 = .ok (.invokevirtual 178, 3) := by decide +kernel
theorem dX8_weaken_56 : decode cX8_weaken 56 = .ok (.ifCond .eq 6, 3) := by decide +kernel
theorem dX8_weaken_59 : decode cX8_weaken 59 = .ok (.ldc 97, 2) := by decide +kernel
theorem dX8_weaken_61 : decode cX8_weaken 61 = .ok (.ireturn, 1) := by decide +kernel
theorem dX8_weaken_62 : decode cX8_weaken 62 = .ok (.aload_n 0, 1) := by decide +kernel
theorem dX8_weaken_63 : decode cX8_weaken 63 = .ok (.iload_n 1, 1) := by decide +kernel
theorem dX8_weaken_64 : decode cX8_weaken 64 = .ok (.invokevirtual 181, 3) := by decide +kernel
theorem dX8_weaken_67 : decode cX8_weaken 67 = .ok (.aload_n 0, 1) := by decide +kernel
theorem dX8_weaken_68 : decode cX8_weaken 68 = .ok (.getfield 42, 3) := by decide +kernel
theorem dX8_weaken_71 : decode cX8_weaken 71 = .ok (.iconst 2, 1) := by decide +kernel
theorem dX8_weaken_72 : decode cX8_weaken 72 = .ok (.iload_n 2, 1) := by decide +kernel
theorem dX8_weaken_73 : decode cX8_weaken 73 = .ok (.iadd, 1) := by decide +kernel
theorem dX8_weaken_74 : decode cX8_weaken 74 = .ok (.laload, 1) := by decide +kernel
theorem dX8_weaken_75 : decode cX8_weaken 75 = .ok (.invokestatic 187, 3) := by decide +kernel
theorem dX8_weaken_78 : decode cX8_weaken 78 = .ok (.lstore_n 3, 1) := by decide +kernel
theorem dX8_weaken_79 : decode cX8_weaken 79 = .ok (.aload_n 0, 1) := by decide +kernel
theorem dX8_weaken_80 : decode cX8_weaken 80 = .ok (.getfield 42, 3) := by decide +kernel
theorem dX8_weaken_83 : decode cX8_weaken 83 = .ok (.iconst 1, 1) := by decide +kernel
theorem dX8_weaken_84 : decode cX8_weaken 84 = .ok (.aload_n 0, 1) := by decide +kernel
theorem dX8_weaken_85 : decode cX8_weaken 85 = .ok (.getfield 42, 3) := by decide +kernel
theorem dX8_weaken_88 : decode cX8_weaken 88 = .ok (.iconst 1, 1) := by decide +kernel
theorem dX8_weaken_89 : decode cX8_weaken 89 = .ok (.laload, 1) := by decide +kernel
theorem dX8_weaken_90 : decode cX8_weaken 90 = .ok (.lload_n 3, 1) := by decide +kernel
theorem dX8_weaken_91 : decode cX8_weaken 91 = .ok (.lcmp, 1) := by decide +kernel
theorem dX8_weaken_92 : decode cX8_weaken 92 = .ok (.ifCond .ge 7, 3) := by decide +kernel
theorem dX8_weaken_95 : decode cX8_weaken 95 = .ok (.lconst 0, 1) := by decide +kernel
theorem dX8_weaken_96 : decode cX8_weaken 96 = .ok (.goto 11, 3) := by decide +kernel
theorem dX8_weaken_99 : decode cX8_weaken 99 = .ok (.aload_n 0, 1) := by decide +kernel
theorem dX8_weaken_100 : decode cX8_weaken 100 = .ok (.getfield 42, 3) := by decide +kernel
theorem dX8_weaken_103 : decode cX8_weaken 103 = .ok (.iconst 1, 1) := by decide +kernel
theorem dX8_weaken_104 : decode cX8_weaken 104 = .ok (.laload, 1) := by decide +kernel
theorem dX8_weaken_105 : decode cX8_weaken 105 = .ok (.lload_n 3, 1) := by decide +kernel
theorem dX8_weaken_106 : decode cX8_weaken 106 = .ok (.lsub, 1) := by decide +kernel
theorem dX8_weaken_107 : decode cX8_weaken 107 = .ok (.lastore, 1) := by decide +kernel
theorem dX8_weaken_108 : decode cX8_weaken 108 = .ok (.aload_n 0, 1) := by decide +kernel
theorem dX8_weaken_109 : decode cX8_weaken 109 = .ok (.getfield 42, 3) := by decide +kernel
theorem dX8_weaken_112 : decode cX8_weaken 112 = .ok (.iconst 2, 1) := by decide +kernel
theorem dX8_weaken_113 : decode cX8_weaken 113 = .ok (.iload_n 2, 1) := by decide +kernel
theorem dX8_weaken_114 : decode cX8_weaken 114 = .ok (.iadd, 1) := by decide +kernel
theorem dX8_weaken_115 : decode cX8_weaken 115 = .ok (.lconst 0, 1) := by decide +kernel
theorem dX8_weaken_116 : decode cX8_weaken 116 = .ok (.lastore, 1) := by decide +kernel
theorem dX8_weaken_117 : decode cX8_weaken 117 = .ok (.aload_n 0, 1) := by decide +kernel
theorem dX8_weaken_118 : decode cX8_weaken 118 = .ok (.iconst 4, 1) := by decide +kernel
theorem dX8_weaken_119 : decode cX8_weaken 119 = .ok (.invokevirtual 191, 3) := by decide +kernel
theorem dX8_weaken_122 : decode cX8_weaken 122 = .ok (.ireturn, 1) := by decide +kernel
theorem dX8_axiom_0 : decode cX8_axiom 0 = .ok (.aload_n 0, 1) := by decide +kernel
theorem dX8_axiom_1 : decode cX8_axiom 1 = .ok (.invokevirtual 171, 3) := by decide +kernel
theorem dX8_axiom_4 : decode cX8_axiom 4 = .ok (.ifCond .ne 6, 3) := by decide +kernel
theorem dX8_axiom_7 : decode cX8_axiom 7 = .ok (.ldc 174, 2) := by decide +kernel
theorem dX8_axiom_9 : decode cX8_axiom 9 = .ok (.ireturn, 1) := by decide +kernel
theorem dX8_axiom_10 : decode cX8_axiom 10 = .ok (.iload_n 1, 1) := by decide +kernel
theorem dX8_axiom_11 : decode cX8_axiom 11 = .ok (.iconst 0, 1) := by decide +kernel
theorem dX8_axiom_12 : decode cX8_axiom 12 = .ok (.bipush 7, 2) := by decide +kernel
theorem dX8_axiom_14 : decode cX8_axiom 14 = .ok (.invokestatic 68, 3) := by decide +kernel
theorem dX8_axiom_17 : decode cX8_axiom 17 = .ok (.ifCond .eq 12, 3) := by decide +kernel
theorem dX8_axiom_20 : decode cX8_axiom 20 = .ok (.iload_n 2, 1) := by decide +kernel
theorem dX8_axiom_21 : decode cX8_axiom 21 = .ok (.iconst 0, 1) := by decide +kernel
theorem dX8_axiom_22 : decode cX8_axiom 22 = .ok (.iconst 1, 1) := by decide +kernel
theorem dX8_axiom_23 : decode cX8_axiom 23 = .ok (.invokestatic 68, 3) := by decide +kernel
theorem dX8_axiom_26 : decode cX8_axiom 26 = .ok (.ifCond .ne 6, 3) := by decide +kernel
theorem dX8_axiom_29 : decode cX8_axiom 29 = .ok (.ldc 76, 2) := by decide +kernel
theorem dX8_axiom_31 : decode cX8_axiom 31 = .ok (.ireturn, 1) := by decide +kernel
theorem dX8_axiom_32 : decode cX8_axiom 32 = .ok (.aload_n 0, 1) := by decide +kernel
theorem dX8_axiom_33 : decode cX8_axiom 33 = .ok (.invokevirtual 178, 3) := by decide +kernel
theorem dX8_axiom_36 : decode cX8_axiom 36 = .ok (.ifCond .eq 6, 3) := by decide +kernel
theorem dX8_axiom_39 : decode cX8_axiom 39 = .ok (.ldc 97, 2) := by decide +kernel
theorem dX8_axiom_41 : decode cX8_axiom 41 = .ok (.ireturn, 1) := by decide +kernel
theorem dX8_axiom_42 : decode cX8_axiom 42 = .ok (.iconst 0, 1) := by decide +kernel
theorem dX8_axiom_43 : decode cX8_axiom 43 = .ok (.istore_n 3, 1) := by decide +kernel
theorem dX8_axiom_44 : decode cX8_axiom 44 = .ok (.iload_n 3, 1) := by decide +kernel
theorem dX8_axiom_45 : decode cX8_axiom 45 = .ok (.bipush 10, 2) := by decide +kernel
theorem dX8_axiom_47 : decode cX8_axiom 47 = .ok (.if_icmp .ge 16, 3) := by decide +kernel
theorem dX8_axiom_50 : decode cX8_axiom 50 = .ok (.aload_n 0, 1) := by decide +kernel
theorem dX8_axiom_51 : decode cX8_axiom 51 = .ok (.getfield 42, 3) := by decide +kernel
theorem dX8_axiom_54 : decode cX8_axiom 54 = .ok (.iload_n 3, 1) := by decide +kernel
theorem dX8_axiom_55 : decode cX8_axiom 55 = .ok (.lconst 0, 1) := by decide +kernel
theorem dX8_axiom_56 : decode cX8_axiom 56 = .ok (.lastore, 1) := by decide +kernel
theorem dX8_axiom_57 : decode cX8_axiom 57 = .ok (.iinc 3 1, 3) := by decide +kernel
theorem dX8_axiom_60 : decode cX8_axiom 60 = .ok (.goto (-16), 3) := by decide +kernel
theorem dX8_axiom_63 : decode cX8_axiom 63 = .ok (.aload_n 0, 1) := by decide +kernel
theorem dX8_axiom_64 : decode cX8_axiom 64 = .ok (.getfield 42, 3) := by decide +kernel
theorem dX8_axiom_67 : decode cX8_axiom 67 = .ok (.iconst 2, 1) := by decide +kernel
theorem dX8_axiom_68 : decode cX8_axiom 68 = .ok (.iload_n 1, 1) := by decide +kernel
theorem dX8_axiom_69 : decode cX8_axiom 69 = .ok (.iadd, 1) := by decide +kernel
theorem dX8_axiom_70 : decode cX8_axiom 70 = .ok (.iload_n 2, 1) := by decide +kernel
theorem dX8_axiom_71 : decode cX8_axiom 71 = .ok (.iconst 1, 1) := by decide +kernel
theorem dX8_axiom_72 : decode cX8_axiom 72 = .ok (.if_icmp .ne 7, 3) := by decide +kernel
theorem dX8_axiom_75 : decode cX8_axiom 75 = .ok (.lconst 1, 1) := by decide +kernel
theorem dX8_axiom_76 : decode cX8_axiom 76 = .ok (.goto 6, 3) := by decide +kernel
theorem dX8_axiom_79 : decode cX8_axiom 79 = .ok (.ldc2_w 194, 3) := by decide +kernel
theorem dX8_axiom_82 : decode cX8_axiom 82 = .ok (.lastore, 1) := by decide +kernel
theorem dX8_axiom_83 : decode cX8_axiom 83 = .ok (.aload_n 0, 1) := by decide +kernel
theorem dX8_axiom_84 : decode cX8_axiom 84 = .ok (.iconst 2, 1) := by decide +kernel
theorem dX8_axiom_85 : decode cX8_axiom 85 = .ok (.invokevirtual 191, 3) := by decide +kernel
theorem dX8_axiom_88 : decode cX8_axiom 88 = .ok (.ireturn, 1) := by decide +kernel
theorem dX8_sumOf_0 : decode cX8_sumOf 0 = .ok (.lconst 0, 1) := by decide +kernel
theorem dX8_sumOf_1 : decode cX8_sumOf 1 = .ok (.lstore_n 2, 1) := by decide +kernel
theorem dX8_sumOf_2 : decode cX8_sumOf 2 = .ok (.iconst 0, 1) := by decide +kernel
theorem dX8_sumOf_3 : decode cX8_sumOf 3 = .ok (.istore 4, 2) := by decide +kernel
theorem dX8_sumOf_5 : decode cX8_sumOf 5 = .ok (.iload 4, 2) := by decide +kernel
theorem dX8_sumOf_7 : decode cX8_sumOf 7 = .ok (.bipush 8, 2) := by decide +kernel
theorem dX8_sumOf_9 : decode cX8_sumOf 9 = .ok (.if_icmp .ge 42, 3) := by decide +kernel
theorem dX8_sumOf_12 : decode cX8_sumOf 12 = .ok (.aload_n 0, 1) := by decide +kernel
theorem dX8_sumOf_13 : decode cX8_sumOf 13 = .ok (.iload_n 1, 1) := by decide +kernel
theorem dX8_sumOf_14 : decode cX8_sumOf 14 = .ok (.iconst 2, 1) := by decide +kernel
theorem dX8_sumOf_15 : decode cX8_sumOf 15 = .ok (.iadd, 1) := by decide +kernel
theorem dX8_sumOf_16 : decode cX8_sumOf 16 = .ok (.iload 4, 2) := by decide +kernel
theorem dX8_sumOf_18 : decode cX8_sumOf 18 = .ok (.iadd, 1) := by decide +kernel
theorem dX8_sumOf_19 : decode cX8_sumOf 19 = .ok (.laload, 1) := by decide +kernel
theorem dX8_sumOf_20 : decode cX8_sumOf 20 = .ok (.invokestatic 187, 3) := by decide +kernel
theorem dX8_sumOf_23 : decode cX8_sumOf 23 = .ok (.lstore 5, 2) := by decide +kernel
theorem dX8_sumOf_25 : decode cX8_sumOf 25 = .ok (.lload 5, 2) := by decide +kernel
theorem dX8_sumOf_27 : decode cX8_sumOf 27 = .ok (.ldc2_w 185, 3) := by decide +kernel
theorem dX8_sumOf_30 : decode cX8_sumOf 30 = .ok (.lload_n 2, 1) := by decide +kernel
theorem dX8_sumOf_31 : decode cX8_sumOf 31 = .ok (.lsub, 1) := by decide +kernel
theorem dX8_sumOf_32 : decode cX8_sumOf 32 = .ok (.lcmp, 1) := by decide +kernel
theorem dX8_sumOf_33 : decode cX8_sumOf 33 = .ok (.ifCond .le 7, 3) := by decide +kernel
theorem dX8_sumOf_36 : decode cX8_sumOf 36 = .ok (.ldc2_w 194, 3) := by decide +kernel
theorem dX8_sumOf_39 : decode cX8_sumOf 39 = .ok (.lreturn, 1) := by decide +kernel
theorem dX8_sumOf_40 : decode cX8_sumOf 40 = .ok (.lload_n 2, 1) := by decide +kernel
theorem dX8_sumOf_41 : decode cX8_sumOf 41 = .ok (.lload 5, 2) := by decide +kernel
theorem dX8_sumOf_43 : decode cX8_sumOf 43 = .ok (.ladd, 1) := by decide +kernel
theorem dX8_sumOf_44 : decode cX8_sumOf 44 = .ok (.lstore_n 2, 1) := by decide +kernel
theorem dX8_sumOf_45 : decode cX8_sumOf 45 = .ok (.iinc 4 1, 3) := by decide +kernel
theorem dX8_sumOf_48 : decode cX8_sumOf 48 = .ok (.goto (-43), 3) := by decide +kernel
theorem dX8_sumOf_51 : decode cX8_sumOf 51 = .ok (.lload_n 2, 1) := by decide +kernel
theorem dX8_sumOf_52 : decode cX8_sumOf 52 = .ok (.lreturn, 1) := by decide +kernel
theorem dX8_isOver_0 : decode cX8_isOver 0 = .ok (.iconst 0, 1) := by decide +kernel
theorem dX8_isOver_1 : decode cX8_isOver 1 = .ok (.istore_n 1, 1) := by decide +kernel
theorem dX8_isOver_2 : decode cX8_isOver 2 = .ok (.iconst 0, 1) := by decide +kernel
theorem dX8_isOver_3 : decode cX8_isOver 3 = .ok (.istore_n 2, 1) := by decide +kernel
theorem dX8_isOver_4 : decode cX8_isOver 4 = .ok (.iload_n 2, 1) := by decide +kernel
theorem dX8_isOver_5 : decode cX8_isOver 5 = .ok (.bipush 30, 2) := by decide +kernel
theorem dX8_isOver_7 : decode cX8_isOver 7 = .ok (.if_icmp .ge 46, 3) := by decide +kernel
theorem dX8_isOver_10 : decode cX8_isOver 10 = .ok (.iload_n 1, 1) := by decide +kernel
theorem dX8_isOver_11 : decode cX8_isOver 11 = .ok (.ifCond .ne 30, 3) := by decide +kernel
theorem dX8_isOver_14 : decode cX8_isOver 14 = .ok (.aload_n 0, 1) := by decide +kernel
theorem dX8_isOver_15 : decode cX8_isOver 15 = .ok (.iload_n 2, 1) := by decide +kernel
theorem dX8_isOver_16 : decode cX8_isOver 16 = .ok (.invokevirtual 175, 3) := by decide +kernel
theorem dX8_isOver_19 : decode cX8_isOver 19 = .ok (.ifCond .eq 26, 3) := by decide +kernel
theorem dX8_isOver_22 : decode cX8_isOver 22 = .ok (.aload_n 0, 1) := by decide +kernel
theorem dX8_isOver_23 : decode cX8_isOver 23 = .ok (.getfield 25, 3) := by decide +kernel
theorem dX8_isOver_26 : decode cX8_isOver 26 = .ok (.bipush 12, 2) := by decide +kernel
theorem dX8_isOver_28 : decode cX8_isOver 28 = .ok (.bipush 10, 2) := by decide +kernel
theorem dX8_isOver_30 : decode cX8_isOver 30 = .ok (.iload_n 2, 1) := by decide +kernel
theorem dX8_isOver_31 : decode cX8_isOver 31 = .ok (.imul, 1) := by decide +kernel
theorem dX8_isOver_32 : decode cX8_isOver 32 = .ok (.iadd, 1) := by decide +kernel
theorem dX8_isOver_33 : decode cX8_isOver 33 = .ok (.invokestatic 196, 3) := by decide +kernel
theorem dX8_isOver_36 : decode cX8_isOver 36 = .ok (.lconst 0, 1) := by decide +kernel
theorem dX8_isOver_37 : decode cX8_isOver 37 = .ok (.lcmp, 1) := by decide +kernel
theorem dX8_isOver_38 : decode cX8_isOver 38 = .ok (.ifCond .ge 7, 3) := by decide +kernel
theorem dX8_isOver_41 : decode cX8_isOver 41 = .ok (.iconst 1, 1) := by decide +kernel
theorem dX8_isOver_42 : decode cX8_isOver 42 = .ok (.goto 4, 3) := by decide +kernel
theorem dX8_isOver_45 : decode cX8_isOver 45 = .ok (.iconst 0, 1) := by decide +kernel
theorem dX8_isOver_46 : decode cX8_isOver 46 = .ok (.istore_n 1, 1) := by decide +kernel
theorem dX8_isOver_47 : decode cX8_isOver 47 = .ok (.iinc 2 1, 3) := by decide +kernel
theorem dX8_isOver_50 : decode cX8_isOver 50 = .ok (.goto (-46), 3) := by decide +kernel
theorem dX8_isOver_53 : decode cX8_isOver 53 = .ok (.iload_n 1, 1) := by decide +kernel
theorem dX8_isOver_54 : decode cX8_isOver 54 = .ok (.ireturn, 1) := by decide +kernel
theorem dX8_slackOf_0 : decode cX8_slackOf 0 = .ok (.lconst 0, 1) := by decide +kernel
theorem dX8_slackOf_1 : decode cX8_slackOf 1 = .ok (.lstore 4, 2) := by decide +kernel
theorem dX8_slackOf_3 : decode cX8_slackOf 3 = .ok (.iconst 0, 1) := by decide +kernel
theorem dX8_slackOf_4 : decode cX8_slackOf 4 = .ok (.istore 6, 2) := by decide +kernel
theorem dX8_slackOf_6 : decode cX8_slackOf 6 = .ok (.iload 6, 2) := by decide +kernel
theorem dX8_slackOf_8 : decode cX8_slackOf 8 = .ok (.bipush 8, 2) := by decide +kernel
theorem dX8_slackOf_10 : decode cX8_slackOf 10 = .ok (.if_icmp .ge 75, 3) := by decide +kernel
theorem dX8_slackOf_13 : decode cX8_slackOf 13 = .ok (.aload_n 0, 1) := by decide +kernel
theorem dX8_slackOf_14 : decode cX8_slackOf 14 = .ok (.iload_n 1, 1) := by decide +kernel
theorem dX8_slackOf_15 : decode cX8_slackOf 15 = .ok (.iconst 2, 1) := by decide +kernel
theorem dX8_slackOf_16 : decode cX8_slackOf 16 = .ok (.iadd, 1) := by decide +kernel
theorem dX8_slackOf_17 : decode cX8_slackOf 17 = .ok (.iload 6, 2) := by decide +kernel
theorem dX8_slackOf_19 : decode cX8_slackOf 19 = .ok (.iadd, 1) := by decide +kernel
theorem dX8_slackOf_20 : decode cX8_slackOf 20 = .ok (.laload, 1) := by decide +kernel
theorem dX8_slackOf_21 : decode cX8_slackOf 21 = .ok (.lstore 7, 2) := by decide +kernel
theorem dX8_slackOf_23 : decode cX8_slackOf 23 = .ok (.iload_n 2, 1) := by decide +kernel
theorem dX8_slackOf_24 : decode cX8_slackOf 24 = .ok (.iload 6, 2) := by decide +kernel
theorem dX8_slackOf_26 : decode cX8_slackOf 26 = .ok (.invokestatic 133, 3) := by decide +kernel
theorem dX8_slackOf_29 : decode cX8_slackOf 29 = .ok (.ifCond .eq 28, 3) := by decide +kernel
theorem dX8_slackOf_32 : decode cX8_slackOf 32 = .ok (.iload_n 3, 1) := by decide +kernel
theorem dX8_slackOf_33 : decode cX8_slackOf 33 = .ok (.iload 6, 2) := by decide +kernel
theorem dX8_slackOf_35 : decode cX8_slackOf 35 = .ok (.invokestatic 133, 3) := by decide +kernel
theorem dX8_slackOf_38 : decode cX8_slackOf 38 = .ok (.lload 7, 2) := by decide +kernel
theorem dX8_slackOf_40 : decode cX8_slackOf 40 = .ok (.lconst 0, 1) := by decide +kernel
theorem dX8_slackOf_41 : decode cX8_slackOf 41 = .ok (.lcmp, 1) := by decide +kernel
theorem dX8_slackOf_42 : decode cX8_slackOf 42 = .ok (.ifCond .ge 7, 3) := by decide +kernel
theorem dX8_slackOf_45 : decode cX8_slackOf 45 = .ok (.iconst 1, 1) := by decide +kernel
theorem dX8_slackOf_46 : decode cX8_slackOf 46 = .ok (.goto 4, 3) := by decide +kernel
theorem dX8_slackOf_49 : decode cX8_slackOf 49 = .ok (.iconst 0, 1) := by decide +kernel
theorem dX8_slackOf_50 : decode cX8_slackOf 50 = .ok (.if_icmp .ne 7, 3) := by decide +kernel
theorem dX8_slackOf_53 : decode cX8_slackOf 53 = .ok (.iconst 1, 1) := by decide +kernel
theorem dX8_slackOf_54 : decode cX8_slackOf 54 = .ok (.goto 4, 3) := by decide +kernel
theorem dX8_slackOf_57 : decode cX8_slackOf 57 = .ok (.iconst 0, 1) := by decide +kernel
theorem dX8_slackOf_58 : decode cX8_slackOf 58 = .ok (.istore 9, 2) := by decide +kernel
theorem dX8_slackOf_60 : decode cX8_slackOf 60 = .ok (.lload 4, 2) := by decide +kernel
theorem dX8_slackOf_62 : decode cX8_slackOf 62 = .ok (.iload 9, 2) := by decide +kernel
theorem dX8_slackOf_64 : decode cX8_slackOf 64 = .ok (.ifCond .eq 7, 3) := by decide +kernel
theorem dX8_slackOf_67 : decode cX8_slackOf 67 = .ok (.lconst 0, 1) := by decide +kernel
theorem dX8_slackOf_68 : decode cX8_slackOf 68 = .ok (.goto 8, 3) := by decide +kernel
theorem dX8_slackOf_71 : decode cX8_slackOf 71 = .ok (.lload 7, 2) := by decide +kernel
theorem dX8_slackOf_73 : decode cX8_slackOf 73 = .ok (.invokestatic 187, 3) := by decide +kernel
theorem dX8_slackOf_76 : decode cX8_slackOf 76 = .ok (.ladd, 1) := by decide +kernel
theorem dX8_slackOf_77 : decode cX8_slackOf 77 = .ok (.lstore 4, 2) := by decide +kernel
theorem dX8_slackOf_79 : decode cX8_slackOf 79 = .ok (.iinc 6 1, 3) := by decide +kernel
theorem dX8_slackOf_82 : decode cX8_slackOf 82 = .ok (.goto (-76), 3) := by decide +kernel
theorem dX8_slackOf_85 : decode cX8_slackOf 85 = .ok (.lload 4, 2) := by decide +kernel
theorem dX8_slackOf_87 : decode cX8_slackOf 87 = .ok (.aload_n 0, 1) := by decide +kernel
theorem dX8_slackOf_88 : decode cX8_slackOf 88 = .ok (.iload_n 1, 1) := by decide +kernel
theorem dX8_slackOf_89 : decode cX8_slackOf 89 = .ok (.iconst 1, 1) := by decide +kernel
theorem dX8_slackOf_90 : decode cX8_slackOf 90 = .ok (.iadd, 1) := by decide +kernel
theorem dX8_slackOf_91 : decode cX8_slackOf 91 = .ok (.laload, 1) := by decide +kernel
theorem dX8_slackOf_92 : decode cX8_slackOf 92 = .ok (.lsub, 1) := by decide +kernel
theorem dX8_slackOf_93 : decode cX8_slackOf 93 = .ok (.lreturn, 1) := by decide +kernel
theorem dX8_forces_0 : decode cX8_forces 0 = .ok (.aload_n 1, 1) := by decide +kernel
theorem dX8_forces_1 : decode cX8_forces 1 = .ok (.iload_n 2, 1) := by decide +kernel
theorem dX8_forces_2 : decode cX8_forces 2 = .ok (.aload_n 0, 1) := by decide +kernel
theorem dX8_forces_3 : decode cX8_forces 3 = .ok (.getfield 200, 3) := by decide +kernel
theorem dX8_forces_6 : decode cX8_forces 6 = .ok (.aload_n 0, 1) := by decide +kernel
theorem dX8_forces_7 : decode cX8_forces 7 = .ok (.getfield 203, 3) := by decide +kernel
theorem dX8_forces_10 : decode cX8_forces 10 = .ok (.invokestatic 206, 3) := by decide +kernel
theorem dX8_forces_13 : decode cX8_forces 13 = .ok (.lstore_n 3, 1) := by decide +kernel
theorem dX8_forces_14 : decode cX8_forces 14 = .ok (.lload_n 3, 1) := by decide +kernel
theorem dX8_forces_15 : decode cX8_forces 15 = .ok (.lconst 0, 1) := by decide +kernel
theorem dX8_forces_16 : decode cX8_forces 16 = .ok (.lcmp, 1) := by decide +kernel
theorem dX8_forces_17 : decode cX8_forces 17 = .ok (.ifCond .ge 5, 3) := by decide +kernel
theorem dX8_forces_20 : decode cX8_forces 20 = .ok (.iconst (-1), 1) := by decide +kernel
theorem dX8_forces_21 : decode cX8_forces 21 = .ok (.ireturn, 1) := by decide +kernel
theorem dX8_forces_22 : decode cX8_forces 22 = .ok (.iconst 0, 1) := by decide +kernel
theorem dX8_forces_23 : decode cX8_forces 23 = .ok (.istore 5, 2) := by decide +kernel
theorem dX8_forces_25 : decode cX8_forces 25 = .ok (.iconst 0, 1) := by decide +kernel
theorem dX8_forces_26 : decode cX8_forces 26 = .ok (.istore 6, 2) := by decide +kernel
theorem dX8_forces_28 : decode cX8_forces 28 = .ok (.iload 6, 2) := by decide +kernel
theorem dX8_forces_30 : decode cX8_forces 30 = .ok (.bipush 8, 2) := by decide +kernel
theorem dX8_forces_32 : decode cX8_forces 32 = .ok (.if_icmp .ge 81, 3) := by decide +kernel
theorem dX8_forces_35 : decode cX8_forces 35 = .ok (.aload_n 1, 1) := by decide +kernel
theorem dX8_forces_36 : decode cX8_forces 36 = .ok (.iload_n 2, 1) := by decide +kernel
theorem dX8_forces_37 : decode cX8_forces 37 = .ok (.iconst 2, 1) := by decide +kernel
theorem dX8_forces_38 : decode cX8_forces 38 = .ok (.iadd, 1) := by decide +kernel
theorem dX8_forces_39 : decode cX8_forces 39 = .ok (.iload 6, 2) := by decide +kernel
theorem dX8_forces_41 : decode cX8_forces 41 = .ok (.iadd, 1) := by decide +kernel
theorem dX8_forces_42 : decode cX8_forces 42 = .ok (.laload, 1) := by decide +kernel
theorem dX8_forces_43 : decode cX8_forces 43 = .ok (.lstore 7, 2) := by decide +kernel
theorem dX8_forces_45 : decode cX8_forces 45 = .ok (.aload_n 0, 1) := by decide +kernel
theorem dX8_forces_46 : decode cX8_forces 46 = .ok (.getfield 200, 3) := by decide +kernel
theorem dX8_forces_49 : decode cX8_forces 49 = .ok (.iload 6, 2) := by decide +kernel
theorem dX8_forces_51 : decode cX8_forces 51 = .ok (.invokestatic 133, 3) := by decide +kernel
theorem dX8_forces_54 : decode cX8_forces 54 = .ok (.ifCond .ne 53, 3) := by decide +kernel
theorem dX8_forces_57 : decode cX8_forces 57 = .ok (.lload 7, 2) := by decide +kernel
theorem dX8_forces_59 : decode cX8_forces 59 = .ok (.invokestatic 187, 3) := by decide +kernel
theorem dX8_forces_62 : decode cX8_forces 62 = .ok (.lload_n 3, 1) := by decide +kernel
theorem dX8_forces_63 : decode cX8_forces 63 = .ok (.lcmp, 1) := by decide +kernel
theorem dX8_forces_64 : decode cX8_forces 64 = .ok (.ifCond .le 43, 3) := by decide +kernel
theorem dX8_forces_67 : decode cX8_forces 67 = .ok (.aload_n 0, 1) := by decide +kernel
theorem dX8_forces_68 : decode cX8_forces 68 = .ok (.dup, 1) := by decide +kernel
theorem dX8_forces_69 : decode cX8_forces 69 = .ok (.getfield 200, 3) := by decide +kernel
theorem dX8_forces_72 : decode cX8_forces 72 = .ok (.iconst 1, 1) := by decide +kernel
theorem dX8_forces_73 : decode cX8_forces 73 = .ok (.iload 6, 2) := by decide +kernel
theorem dX8_forces_75 : decode cX8_forces 75 = .ok (.ishl, 1) := by decide +kernel
theorem dX8_forces_76 : decode cX8_forces 76 = .ok (.ior, 1) := by decide +kernel
theorem dX8_forces_77 : decode cX8_forces 77 = .ok (.putfield 200, 3) := by decide +kernel
theorem dX8_forces_80 : decode cX8_forces 80 = .ok (.aload_n 0, 1) := by decide +kernel
theorem dX8_forces_81 : decode cX8_forces 81 = .ok (.dup, 1) := by decide +kernel
theorem dX8_forces_82 : decode cX8_forces 82 = .ok (.getfield 203, 3) := by decide +kernel
theorem dX8_forces_85 : decode cX8_forces 85 = .ok (.lload 7, 2) := by decide +kernel
theorem dX8_forces_87 : decode cX8_forces 87 = .ok (.lconst 0, 1) := by decide +kernel
theorem dX8_forces_88 : decode cX8_forces 88 = .ok (.lcmp, 1) := by decide +kernel
theorem dX8_forces_89 : decode cX8_forces 89 = .ok (.ifCond .le 10, 3) := by decide +kernel
theorem dX8_forces_92 : decode cX8_forces 92 = .ok (.iconst 1, 1) := by decide +kernel
theorem dX8_forces_93 : decode cX8_forces 93 = .ok (.iload 6, 2) := by decide +kernel
theorem dX8_forces_95 : decode cX8_forces 95 = .ok (.ishl, 1) := by decide +kernel
theorem dX8_forces_96 : decode cX8_forces 96 = .ok (.goto 4, 3) := by decide +kernel
theorem dX8_forces_99 : decode cX8_forces 99 = .ok (.iconst 0, 1) := by decide +kernel
theorem dX8_forces_100 : decode cX8_forces 100 = .ok (.ior, 1) := by decide +kernel
theorem dX8_forces_101 : decode cX8_forces 101 = .ok (.putfield 203, 3) := by decide +kernel
theorem dX8_forces_104 : decode cX8_forces 104 = .ok (.iconst 1, 1) := by decide +kernel
theorem dX8_forces_105 : decode cX8_forces 105 = .ok (.istore 5, 2) := by decide +kernel
theorem dX8_forces_107 : decode cX8_forces 107 = .ok (.iinc 6 1, 3) := by decide +kernel
theorem dX8_forces_110 : decode cX8_forces 110 = .ok (.goto (-82), 3) := by decide +kernel
theorem dX8_forces_113 : decode cX8_forces 113 = .ok (.iload 5, 2) := by decide +kernel
theorem dX8_forces_115 : decode cX8_forces 115 = .ok (.ireturn, 1) := by decide +kernel
theorem dX8_isConflict_0 : decode cX8_isConflict 0 = .ok (.iconst 1, 1) := by decide +kernel
theorem dX8_isConflict_1 : decode cX8_isConflict 1 = .ok (.istore 4, 2) := by decide +kernel
theorem dX8_isConflict_3 : decode cX8_isConflict 3 = .ok (.iload 4, 2) := by decide +kernel
theorem dX8_isConflict_5 : decode cX8_isConflict 5 = .ok (.ifCond .eq 142, 3) := by decide +kernel
theorem dX8_isConflict_8 : decode cX8_isConflict 8 = .ok (.iconst 0, 1) := by decide +kernel
theorem dX8_isConflict_9 : decode cX8_isConflict 9 = .ok (.istore 4, 2) := by decide +kernel
theorem dX8_isConflict_11 : decode cX8_isConflict 11 = .ok (.iconst 0, 1) := by decide +kernel
theorem dX8_isConflict_12 : decode cX8_isConflict 12 = .ok (.istore 5, 2) := by decide +kernel
theorem dX8_isConflict_14 : decode cX8_isConflict 14 = .ok (.iload 5, 2) := by decide +kernel
theorem dX8_isConflict_16 : decode cX8_isConflict 16 = .ok (.bipush 32, 2) := by decide +kernel
theorem dX8_isConflict_18 : decode cX8_isConflict 18 = .ok (.if_icmp .ge 126, 3) := by decide +kernel
theorem dX8_isConflict_21 : decode cX8_isConflict 21 = .ok (.iconst 0, 1) := by decide +kernel
theorem dX8_isConflict_22 : decode cX8_isConflict 22 = .ok (.istore 6, 2) := by decide +kernel
theorem dX8_isConflict_24 : decode cX8_isConflict 24 = .ok (.iload 5, 2) := by decide +kernel
theorem dX8_isConflict_26 : decode cX8_isConflict 26 = .ok (.bipush 30, 2) := by decide +kernel
theorem dX8_isConflict_28 : decode cX8_isConflict 28 = .ok (.if_icmp .ge 39, 3) := by decide +kernel
theorem dX8_isConflict_31 : decode cX8_isConflict 31 = .ok (.iload 5, 2) := by decide +kernel
theorem dX8_isConflict_33 : decode cX8_isConflict 33 = .ok (.iload_n 1, 1) := by decide +kernel
theorem dX8_isConflict_34 : decode cX8_isConflict 34 = .ok (.if_icmp .eq 33, 3) := by decide +kernel
theorem dX8_isConflict_37 : decode cX8_isConflict 37 = .ok (.aload_n 0, 1) := by decide +kernel
theorem dX8_isConflict_38 : decode cX8_isConflict 38 = .ok (.iload 5, 2) := by decide +kernel
theorem dX8_isConflict_40 : decode cX8_isConflict 40 = .ok (.invokevirtual 175, 3) := by decide +kernel
theorem dX8_isConflict_43 : decode cX8_isConflict 43 = .ok (.ifCond .eq 24, 3) := by decide +kernel
theorem dX8_isConflict_46 : decode cX8_isConflict 46 = .ok (.aload_n 0, 1) := by decide +kernel
theorem dX8_isConflict_47 : decode cX8_isConflict 47 = .ok (.aload_n 0, 1) := by decide +kernel
theorem dX8_isConflict_48 : decode cX8_isConflict 48 = .ok (.getfield 25, 3) := by decide +kernel
theorem dX8_isConflict_51 : decode cX8_isConflict 51 = .ok (.bipush 12, 2) := by decide +kernel
theorem dX8_isConflict_53 : decode cX8_isConflict 53 = .ok (.bipush 10, 2) := by decide +kernel
theorem dX8_isConflict_55 : decode cX8_isConflict 55 = .ok (.iload 5, 2) := by decide +kernel
theorem dX8_isConflict_57 : decode cX8_isConflict 57 = .ok (.imul, 1) := by decide +kernel
theorem dX8_isConflict_58 : decode cX8_isConflict 58 = .ok (.iadd, 1) := by decide +kernel
theorem dX8_isConflict_59 : decode cX8_isConflict 59 = .ok (.invokevirtual 210, 3) := by decide +kernel
theorem dX8_isConflict_62 : decode cX8_isConflict 62 = .ok (.istore 6, 2) := by decide +kernel
theorem dX8_isConflict_64 : decode cX8_isConflict 64 = .ok (.goto 50, 3) := by decide +kernel
theorem dX8_isConflict_67 : decode cX8_isConflict 67 = .ok (.iload 5, 2) := by decide +kernel
theorem dX8_isConflict_69 : decode cX8_isConflict 69 = .ok (.bipush 30, 2) := by decide +kernel
theorem dX8_isConflict_71 : decode cX8_isConflict 71 = .ok (.if_icmp .ne 21, 3) := by decide +kernel
theorem dX8_isConflict_74 : decode cX8_isConflict 74 = .ok (.iload_n 2, 1) := by decide +kernel
theorem dX8_isConflict_75 : decode cX8_isConflict 75 = .ok (.ifCond .eq 17, 3) := by decide +kernel
theorem dX8_isConflict_78 : decode cX8_isConflict 78 = .ok (.aload_n 0, 1) := by decide +kernel
theorem dX8_isConflict_79 : decode cX8_isConflict 79 = .ok (.aload_n 0, 1) := by decide +kernel
theorem dX8_isConflict_80 : decode cX8_isConflict 80 = .ok (.getfield 48, 3) := by decide +kernel
theorem dX8_isConflict_83 : decode cX8_isConflict 83 = .ok (.iconst 0, 1) := by decide +kernel
theorem dX8_isConflict_84 : decode cX8_isConflict 84 = .ok (.invokevirtual 210, 3) := by decide +kernel
theorem dX8_isConflict_87 : decode cX8_isConflict 87 = .ok (.istore 6, 2) := by decide +kernel
theorem dX8_isConflict_89 : decode cX8_isConflict 89 = .ok (.goto 25, 3) := by decide +kernel
theorem dX8_isConflict_92 : decode cX8_isConflict 92 = .ok (.iload 5, 2) := by decide +kernel
theorem dX8_isConflict_94 : decode cX8_isConflict 94 = .ok (.bipush 31, 2) := by decide +kernel
theorem dX8_isConflict_96 : decode cX8_isConflict 96 = .ok (.if_icmp .ne 18, 3) := by decide +kernel
theorem dX8_isConflict_99 : decode cX8_isConflict 99 = .ok (.iload_n 3, 1) := by decide +kernel
theorem dX8_isConflict_100 : decode cX8_isConflict 100 = .ok (.ifCond .eq 14, 3) := by decide +kernel
theorem dX8_isConflict_103 : decode cX8_isConflict 103 = .ok (.aload_n 0, 1) := by decide +kernel
theorem dX8_isConflict_104 : decode cX8_isConflict 104 = .ok (.aload_n 0, 1) := by decide +kernel
theorem dX8_isConflict_105 : decode cX8_isConflict 105 = .ok (.getfield 51, 3) := by decide +kernel
theorem dX8_isConflict_108 : decode cX8_isConflict 108 = .ok (.iconst 0, 1) := by decide +kernel
theorem dX8_isConflict_109 : decode cX8_isConflict 109 = .ok (.invokevirtual 210, 3) := by decide +kernel
theorem dX8_isConflict_112 : decode cX8_isConflict 112 = .ok (.istore 6, 2) := by decide +kernel
theorem dX8_isConflict_114 : decode cX8_isConflict 114 = .ok (.iload 6, 2) := by decide +kernel
theorem dX8_isConflict_116 : decode cX8_isConflict 116 = .ok (.ifCond .ge 5, 3) := by decide +kernel
theorem dX8_isConflict_119 : decode cX8_isConflict 119 = .ok (.iconst 1, 1) := by decide +kernel
theorem dX8_isConflict_120 : decode cX8_isConflict 120 = .ok (.ireturn, 1) := by decide +kernel
theorem dX8_isConflict_121 : decode cX8_isConflict 121 = .ok (.iload 4, 2) := by decide +kernel
theorem dX8_isConflict_123 : decode cX8_isConflict 123 = .ok (.ifCond .ne 8, 3) := by decide +kernel
theorem dX8_isConflict_126 : decode cX8_isConflict 126 = .ok (.iload 6, 2) := by decide +kernel
theorem dX8_isConflict_128 : decode cX8_isConflict 128 = .ok (.ifCond .le 7, 3) := by decide +kernel
theorem dX8_isConflict_131 : decode cX8_isConflict 131 = .ok (.iconst 1, 1) := by decide +kernel
theorem dX8_isConflict_132 : decode cX8_isConflict 132 = .ok (.goto 4, 3) := by decide +kernel
theorem dX8_isConflict_135 : decode cX8_isConflict 135 = .ok (.iconst 0, 1) := by decide +kernel
theorem dX8_isConflict_136 : decode cX8_isConflict 136 = .ok (.istore 4, 2) := by decide +kernel
theorem dX8_isConflict_138 : decode cX8_isConflict 138 = .ok (.iinc 5 1, 3) := by decide +kernel
theorem dX8_isConflict_141 : decode cX8_isConflict 141 = .ok (.goto (-127), 3) := by decide +kernel
theorem dX8_isConflict_144 : decode cX8_isConflict 144 = .ok (.goto (-141), 3) := by decide +kernel
theorem dX8_isConflict_147 : decode cX8_isConflict 147 = .ok (.iconst 0, 1) := by decide +kernel
theorem dX8_isConflict_148 : decode cX8_isConflict 148 = .ok (.ireturn, 1) := by decide +kernel
theorem dX8_turns_0 : decode cX8_turns 0 = .ok (.aload_n 0, 1) := by decide +kernel
theorem dX8_turns_1 : decode cX8_turns 1 = .ok (.iload_n 1, 1) := by decide +kernel
theorem dX8_turns_2 : decode cX8_turns 2 = .ok (.invokestatic 196, 3) := by decide +kernel
theorem dX8_turns_5 : decode cX8_turns 5 = .ok (.aload_n 0, 1) := by decide +kernel
theorem dX8_turns_6 : decode cX8_turns 6 = .ok (.iload_n 1, 1) := by decide +kernel
theorem dX8_turns_7 : decode cX8_turns 7 = .ok (.iconst 1, 1) := by decide +kernel
theorem dX8_turns_8 : decode cX8_turns 8 = .ok (.iadd, 1) := by decide +kernel
theorem dX8_turns_9 : decode cX8_turns 9 = .ok (.laload, 1) := by decide +kernel
theorem dX8_turns_10 : decode cX8_turns 10 = .ok (.lsub, 1) := by decide +kernel
theorem dX8_turns_11 : decode cX8_turns 11 = .ok (.lconst 1, 1) := by decide +kernel
theorem dX8_turns_12 : decode cX8_turns 12 = .ok (.ladd, 1) := by decide +kernel
theorem dX8_turns_13 : decode cX8_turns 13 = .ok (.lstore_n 3, 1) := by decide +kernel
theorem dX8_turns_14 : decode cX8_turns 14 = .ok (.aload_n 2, 1) := by decide +kernel
theorem dX8_turns_15 : decode cX8_turns 15 = .ok (.iconst 1, 1) := by decide +kernel
theorem dX8_turns_16 : decode cX8_turns 16 = .ok (.lload_n 3, 1) := by decide +kernel
theorem dX8_turns_17 : decode cX8_turns 17 = .ok (.lconst 0, 1) := by decide +kernel
theorem dX8_turns_18 : decode cX8_turns 18 = .ok (.lcmp, 1) := by decide +kernel
theorem dX8_turns_19 : decode cX8_turns 19 = .ok (.ifCond .ge 7, 3) := by decide +kernel
theorem dX8_turns_22 : decode cX8_turns 22 = .ok (.lconst 0, 1) := by decide +kernel
theorem dX8_turns_23 : decode cX8_turns 23 = .ok (.goto 4, 3) := by decide +kernel
theorem dX8_turns_26 : decode cX8_turns 26 = .ok (.lload_n 3, 1) := by decide +kernel
theorem dX8_turns_27 : decode cX8_turns 27 = .ok (.lastore, 1) := by decide +kernel
theorem dX8_turns_28 : decode cX8_turns 28 = .ok (.iconst 0, 1) := by decide +kernel
theorem dX8_turns_29 : decode cX8_turns 29 = .ok (.istore 5, 2) := by decide +kernel
theorem dX8_turns_31 : decode cX8_turns 31 = .ok (.iload 5, 2) := by decide +kernel
theorem dX8_turns_33 : decode cX8_turns 33 = .ok (.bipush 8, 2) := by decide +kernel
theorem dX8_turns_35 : decode cX8_turns 35 = .ok (.if_icmp .ge 24, 3) := by decide +kernel
theorem dX8_turns_38 : decode cX8_turns 38 = .ok (.aload_n 2, 1) := by decide +kernel
theorem dX8_turns_39 : decode cX8_turns 39 = .ok (.iconst 2, 1) := by decide +kernel
theorem dX8_turns_40 : decode cX8_turns 40 = .ok (.iload 5, 2) := by decide +kernel
theorem dX8_turns_42 : decode cX8_turns 42 = .ok (.iadd, 1) := by decide +kernel
theorem dX8_turns_43 : decode cX8_turns 43 = .ok (.aload_n 0, 1) := by decide +kernel
theorem dX8_turns_44 : decode cX8_turns 44 = .ok (.iload_n 1, 1) := by decide +kernel
theorem dX8_turns_45 : decode cX8_turns 45 = .ok (.iconst 2, 1) := by decide +kernel
theorem dX8_turns_46 : decode cX8_turns 46 = .ok (.iadd, 1) := by decide +kernel
theorem dX8_turns_47 : decode cX8_turns 47 = .ok (.iload 5, 2) := by decide +kernel
theorem dX8_turns_49 : decode cX8_turns 49 = .ok (.iadd, 1) := by decide +kernel
theorem dX8_turns_50 : decode cX8_turns 50 = .ok (.laload, 1) := by decide +kernel
theorem dX8_turns_51 : decode cX8_turns 51 = .ok (.lneg, 1) := by decide +kernel
theorem dX8_turns_52 : decode cX8_turns 52 = .ok (.lastore, 1) := by decide +kernel
theorem dX8_turns_53 : decode cX8_turns 53 = .ok (.iinc 5 1, 3) := by decide +kernel
theorem dX8_turns_56 : decode cX8_turns 56 = .ok (.goto (-25), 3) := by decide +kernel
theorem dX8_turns_59 : decode cX8_turns 59 = .ok (.return_, 1) := by decide +kernel
theorem dX8_isFollowing_0 : decode cX8_isFollowing 0 = .ok (.aload_n 1, 1) := by decide +kernel
theorem dX8_isFollowing_1 : decode cX8_isFollowing 1 = .ok (.iload_n 2, 1) := by decide +kernel
theorem dX8_isFollowing_2 : decode cX8_isFollowing 2 = .ok (.iconst 1, 1) := by decide +kernel
theorem dX8_isFollowing_3 : decode cX8_isFollowing 3 = .ok (.iadd, 1) := by decide +kernel
theorem dX8_isFollowing_4 : decode cX8_isFollowing 4 = .ok (.laload, 1) := by decide +kernel
theorem dX8_isFollowing_5 : decode cX8_isFollowing 5 = .ok (.lconst 0, 1) := by decide +kernel
theorem dX8_isFollowing_6 : decode cX8_isFollowing 6 = .ok (.lcmp, 1) := by decide +kernel
theorem dX8_isFollowing_7 : decode cX8_isFollowing 7 = .ok (.ifCond .ne 5, 3) := by decide +kernel
theorem dX8_isFollowing_10 : decode cX8_isFollowing 10 = .ok (.iconst 1, 1) := by decide +kernel
theorem dX8_isFollowing_11 : decode cX8_isFollowing 11 = .ok (.ireturn, 1) := by decide +kernel
theorem dX8_isFollowing_12 : decode cX8_isFollowing 12 = .ok (.aload_n 1, 1) := by decide +kernel
theorem dX8_isFollowing_13 : decode cX8_isFollowing 13 = .ok (.iload_n 2, 1) := by decide +kernel
theorem dX8_isFollowing_14 : decode cX8_isFollowing 14 = .ok (.aload_n 0, 1) := by decide +kernel
theorem dX8_isFollowing_15 : decode cX8_isFollowing 15 = .ok (.getfield 51, 3) := by decide +kernel
theorem dX8_isFollowing_18 : decode cX8_isFollowing 18 = .ok (.invokestatic 214, 3) := by decide +kernel
theorem dX8_isFollowing_21 : decode cX8_isFollowing 21 = .ok (.aload_n 0, 1) := by decide +kernel
theorem dX8_isFollowing_22 : decode cX8_isFollowing 22 = .ok (.iconst 0, 1) := by decide +kernel
theorem dX8_isFollowing_23 : decode cX8_isFollowing 23 = .ok (.putfield 200, 3) := by decide +kernel
theorem dX8_isFollowing_26 : decode cX8_isFollowing 26 = .ok (.aload_n 0, 1) := by decide +kernel
theorem dX8_isFollowing_27 : decode cX8_isFollowing 27 = .ok (.iconst 0, 1) := by decide +kernel
theorem dX8_isFollowing_28 : decode cX8_isFollowing 28 = .ok (.putfield 203, 3) := by decide +kernel
theorem dX8_isFollowing_31 : decode cX8_isFollowing 31 = .ok (.aload_n 0, 1) := by decide +kernel
theorem dX8_isFollowing_32 : decode cX8_isFollowing 32 = .ok (.iload_n 3, 1) := by decide +kernel
theorem dX8_isFollowing_33 : decode cX8_isFollowing 33 = .ok (.iload 4, 2) := by decide +kernel
theorem dX8_isFollowing_35 : decode cX8_isFollowing 35 = .ok (.iconst 1, 1) := by decide +kernel
theorem dX8_isFollowing_36 : decode cX8_isFollowing 36 = .ok (.invokevirtual 218, 3) := by decide +kernel
theorem dX8_isFollowing_39 : decode cX8_isFollowing 39 = .ok (.ireturn, 1) := by decide +kernel
theorem dX8_claim_0 : decode cX8_claim 0 = .ok (.aload_n 0, 1) := by decide +kernel
theorem dX8_claim_1 : decode cX8_claim 1 = .ok (.invokevirtual 171, 3) := by decide +kernel
theorem dX8_claim_4 : decode cX8_claim 4 = .ok (.ifCond .ne 6, 3) := by decide +kernel
theorem dX8_claim_7 : decode cX8_claim 7 = .ok (.ldc 174, 2) := by decide +kernel
theorem dX8_claim_9 : decode cX8_claim 9 = .ok (.ireturn, 1) := by decide +kernel
theorem dX8_claim_10 : decode cX8_claim 10 = .ok (.aload_n 0, 1) := by decide +kernel
theorem dX8_claim_11 : decode cX8_claim 11 = .ok (.invokevirtual 146, 3) := by decide +kernel
theorem dX8_claim_14 : decode cX8_claim 14 = .ok (.aload_n 0, 1) := by decide +kernel
theorem dX8_claim_15 : decode cX8_claim 15 = .ok (.invokevirtual 151, 3) := by decide +kernel
theorem dX8_claim_18 : decode cX8_claim 18 = .ok (.aload_n 0, 1) := by decide +kernel
theorem dX8_claim_19 : decode cX8_claim 19 = .ok (.aload_n 0, 1) := by decide +kernel
theorem dX8_claim_20 : decode cX8_claim 20 = .ok (.getfield 110, 3) := by decide +kernel
theorem dX8_claim_23 : decode cX8_claim 23 = .ok (.ifCond .ne 7, 3) := by decide +kernel
theorem dX8_claim_26 : decode cX8_claim 26 = .ok (.iconst 1, 1) := by decide +kernel
theorem dX8_claim_27 : decode cX8_claim 27 = .ok (.goto 4, 3) := by decide +kernel
theorem dX8_claim_30 : decode cX8_claim 30 = .ok (.iconst 0, 1) := by decide +kernel
theorem dX8_claim_31 : decode cX8_claim 31 = .ok (.invokevirtual 158, 3) := by decide +kernel
theorem dX8_claim_34 : decode cX8_claim 34 = .ok (.aload_n 0, 1) := by decide +kernel
theorem dX8_claim_35 : decode cX8_claim 35 = .ok (.iconst 0, 1) := by decide +kernel
theorem dX8_claim_36 : decode cX8_claim 36 = .ok (.putfield 94, 3) := by decide +kernel
theorem dX8_claim_39 : decode cX8_claim 39 = .ok (.aload_n 0, 1) := by decide +kernel
theorem dX8_claim_40 : decode cX8_claim 40 = .ok (.invokevirtual 116, 3) := by decide +kernel
theorem dX8_claim_43 : decode cX8_claim 43 = .ok (.ifCond .ne 11, 3) := by decide +kernel
theorem dX8_claim_46 : decode cX8_claim 46 = .ok (.ldc 162, 2) := by decide +kernel
theorem dX8_claim_48 : decode cX8_claim 48 = .ok (.aload_n 0, 1) := by decide +kernel
theorem dX8_claim_49 : decode cX8_claim 49 = .ok (.getfield 113, 3) := by decide +kernel
theorem dX8_claim_52 : decode cX8_claim 52 = .ok (.isub, 1) := by decide +kernel
theorem dX8_claim_53 : decode cX8_claim 53 = .ok (.ireturn, 1) := by decide +kernel
theorem dX8_claim_54 : decode cX8_claim 54 = .ok (.aload_n 0, 1) := by decide +kernel
theorem dX8_claim_55 : decode cX8_claim 55 = .ok (.invokevirtual 178, 3) := by decide +kernel
theorem dX8_claim_58 : decode cX8_claim 58 = .ok (.ifCond .eq 6, 3) := by decide +kernel
theorem dX8_claim_61 : decode cX8_claim 61 = .ok (.ldc 97, 2) := by decide +kernel
theorem dX8_claim_63 : decode cX8_claim 63 = .ok (.ireturn, 1) := by decide +kernel
theorem dX8_claim_64 : decode cX8_claim 64 = .ok (.aload_n 0, 1) := by decide +kernel
theorem dX8_claim_65 : decode cX8_claim 65 = .ok (.invokevirtual 222, 3) := by decide +kernel
theorem dX8_claim_68 : decode cX8_claim 68 = .ok (.ifCond .eq 10, 3) := by decide +kernel
theorem dX8_claim_71 : decode cX8_claim 71 = .ok (.aload_n 0, 1) := by decide +kernel
theorem dX8_claim_72 : decode cX8_claim 72 = .ok (.bipush 6, 2) := by decide +kernel
theorem dX8_claim_74 : decode cX8_claim 74 = .ok (.invokevirtual 77, 3) := by decide +kernel
theorem dX8_claim_77 : decode cX8_claim 77 = .ok (.ireturn, 1) := by decide +kernel
theorem dX8_claim_78 : decode cX8_claim 78 = .ok (.aload_n 0, 1) := by decide +kernel
theorem dX8_claim_79 : decode cX8_claim 79 = .ok (.aload_n 0, 1) := by decide +kernel
theorem dX8_claim_80 : decode cX8_claim 80 = .ok (.aload_n 0, 1) := by decide +kernel
theorem dX8_claim_81 : decode cX8_claim 81 = .ok (.getfield 42, 3) := by decide +kernel
theorem dX8_claim_84 : decode cX8_claim 84 = .ok (.iconst 0, 1) := by decide +kernel
theorem dX8_claim_85 : decode cX8_claim 85 = .ok (.ldc 60, 2) := by decide +kernel
theorem dX8_claim_87 : decode cX8_claim 87 = .ok (.iconst 0, 1) := by decide +kernel
theorem dX8_claim_88 : decode cX8_claim 88 = .ok (.invokevirtual 225, 3) := by decide +kernel
theorem dX8_claim_91 : decode cX8_claim 91 = .ok (.ifCond .eq 11, 3) := by decide +kernel
theorem dX8_claim_94 : decode cX8_claim 94 = .ok (.aload_n 0, 1) := by decide +kernel
theorem dX8_claim_95 : decode cX8_claim 95 = .ok (.iconst 5, 1) := by decide +kernel
theorem dX8_claim_96 : decode cX8_claim 96 = .ok (.invokevirtual 191, 3) := by decide +kernel
theorem dX8_claim_99 : decode cX8_claim 99 = .ok (.goto 5, 3) := by decide +kernel
theorem dX8_claim_102 : decode cX8_claim 102 = .ok (.ldc 60, 2) := by decide +kernel
theorem dX8_claim_104 : decode cX8_claim 104 = .ok (.invokevirtual 81, 3) := by decide +kernel
theorem dX8_claim_107 : decode cX8_claim 107 = .ok (.ireturn, 1) := by decide +kernel
theorem dX8_puts_0 : decode cX8_puts 0 = .ok (.aload_n 0, 1) := by decide +kernel
theorem dX8_puts_1 : decode cX8_puts 1 = .ok (.getfield 16, 3) := by decide +kernel
theorem dX8_puts_4 : decode cX8_puts 4 = .ok (.bipush 40, 2) := by decide +kernel
theorem dX8_puts_6 : decode cX8_puts 6 = .ok (.iload_n 1, 1) := by decide +kernel
theorem dX8_puts_7 : decode cX8_puts 7 = .ok (.imul, 1) := by decide +kernel
theorem dX8_puts_8 : decode cX8_puts 8 = .ok (.iload_n 2, 1) := by decide +kernel
theorem dX8_puts_9 : decode cX8_puts 9 = .ok (.iadd, 1) := by decide +kernel
theorem dX8_puts_10 : decode cX8_puts 10 = .ok (.iaload, 1) := by decide +kernel
theorem dX8_puts_11 : decode cX8_puts 11 = .ok (.istore 5, 2) := by decide +kernel
theorem dX8_puts_13 : decode cX8_puts 13 = .ok (.lload_n 3, 1) := by decide +kernel
theorem dX8_puts_14 : decode cX8_puts 14 = .ok (.lconst 0, 1) := by decide +kernel
theorem dX8_puts_15 : decode cX8_puts 15 = .ok (.lcmp, 1) := by decide +kernel
theorem dX8_puts_16 : decode cX8_puts 16 = .ok (.ifCond .le 7, 3) := by decide +kernel
theorem dX8_puts_19 : decode cX8_puts 19 = .ok (.iconst 1, 1) := by decide +kernel
theorem dX8_puts_20 : decode cX8_puts 20 = .ok (.goto 4, 3) := by decide +kernel
theorem dX8_puts_23 : decode cX8_puts 23 = .ok (.iconst 0, 1) := by decide +kernel
theorem dX8_puts_24 : decode cX8_puts 24 = .ok (.istore 6, 2) := by decide +kernel
theorem dX8_puts_26 : decode cX8_puts 26 = .ok (.iload 5, 2) := by decide +kernel
theorem dX8_puts_28 : decode cX8_puts 28 = .ok (.iconst 2, 1) := by decide +kernel
theorem dX8_puts_29 : decode cX8_puts 29 = .ok (.if_icmp .ge 39, 3) := by decide +kernel
theorem dX8_puts_32 : decode cX8_puts 32 = .ok (.aload_n 0, 1) := by decide +kernel
theorem dX8_puts_33 : decode cX8_puts 33 = .ok (.getfield 45, 3) := by decide +kernel
theorem dX8_puts_36 : decode cX8_puts 36 = .ok (.iconst 1, 1) := by decide +kernel
theorem dX8_puts_37 : decode cX8_puts 37 = .ok (.dup2, 1) := by decide +kernel
theorem dX8_puts_38 : decode cX8_puts 38 = .ok (.laload, 1) := by decide +kernel
theorem dX8_puts_39 : decode cX8_puts 39 = .ok (.iload 5, 2) := by decide +kernel
theorem dX8_puts_41 : decode cX8_puts 41 = .ok (.iconst 1, 1) := by decide +kernel
theorem dX8_puts_42 : decode cX8_puts 42 = .ok (.if_icmp .ne 7, 3) := by decide +kernel
theorem dX8_puts_45 : decode cX8_puts 45 = .ok (.iconst 1, 1) := by decide +kernel
theorem dX8_puts_46 : decode cX8_puts 46 = .ok (.goto 4, 3) := by decide +kernel
theorem dX8_puts_49 : decode cX8_puts 49 = .ok (.iconst 0, 1) := by decide +kernel
theorem dX8_puts_50 : decode cX8_puts 50 = .ok (.iload 6, 2) := by decide +kernel
theorem dX8_puts_52 : decode cX8_puts 52 = .ok (.if_icmp .ne 10, 3) := by decide +kernel
theorem dX8_puts_55 : decode cX8_puts 55 = .ok (.lload_n 3, 1) := by decide +kernel
theorem dX8_puts_56 : decode cX8_puts 56 = .ok (.invokestatic 187, 3) := by decide +kernel
theorem dX8_puts_59 : decode cX8_puts 59 = .ok (.goto 4, 3) := by decide +kernel
theorem dX8_puts_62 : decode cX8_puts 62 = .ok (.lconst 0, 1) := by decide +kernel
theorem dX8_puts_63 : decode cX8_puts 63 = .ok (.lsub, 1) := by decide +kernel
theorem dX8_puts_64 : decode cX8_puts 64 = .ok (.lastore, 1) := by decide +kernel
theorem dX8_puts_65 : decode cX8_puts 65 = .ok (.goto 96, 3) := by decide +kernel
theorem dX8_puts_68 : decode cX8_puts 68 = .ok (.iload 5, 2) := by decide +kernel
theorem dX8_puts_70 : decode cX8_puts 70 = .ok (.bipush 10, 2) := by decide +kernel
theorem dX8_puts_72 : decode cX8_puts 72 = .ok (.if_icmp .ge 10, 3) := by decide +kernel
theorem dX8_puts_75 : decode cX8_puts 75 = .ok (.iload 5, 2) := by decide +kernel
theorem dX8_puts_77 : decode cX8_puts 77 = .ok (.iconst 2, 1) := by decide +kernel
theorem dX8_puts_78 : decode cX8_puts 78 = .ok (.isub, 1) := by decide +kernel
theorem dX8_puts_79 : decode cX8_puts 79 = .ok (.goto 8, 3) := by decide +kernel
theorem dX8_puts_82 : decode cX8_puts 82 = .ok (.iload 5, 2) := by decide +kernel
theorem dX8_puts_84 : decode cX8_puts 84 = .ok (.bipush 10, 2) := by decide +kernel
theorem dX8_puts_86 : decode cX8_puts 86 = .ok (.isub, 1) := by decide +kernel
theorem dX8_puts_87 : decode cX8_puts 87 = .ok (.istore 7, 2) := by decide +kernel
theorem dX8_puts_89 : decode cX8_puts 89 = .ok (.iload 5, 2) := by decide +kernel
theorem dX8_puts_91 : decode cX8_puts 91 = .ok (.bipush 10, 2) := by decide +kernel
theorem dX8_puts_93 : decode cX8_puts 93 = .ok (.if_icmp .ge 7, 3) := by decide +kernel
theorem dX8_puts_96 : decode cX8_puts 96 = .ok (.iconst 1, 1) := by decide +kernel
theorem dX8_puts_97 : decode cX8_puts 97 = .ok (.goto 4, 3) := by decide +kernel
theorem dX8_puts_100 : decode cX8_puts 100 = .ok (.iconst 0, 1) := by decide +kernel
theorem dX8_puts_101 : decode cX8_puts 101 = .ok (.iload 6, 2) := by decide +kernel
theorem dX8_puts_103 : decode cX8_puts 103 = .ok (.if_icmp .ne 7, 3) := by decide +kernel
theorem dX8_puts_106 : decode cX8_puts 106 = .ok (.iconst 1, 1) := by decide +kernel
theorem dX8_puts_107 : decode cX8_puts 107 = .ok (.goto 4, 3) := by decide +kernel
theorem dX8_puts_110 : decode cX8_puts 110 = .ok (.iconst 0, 1) := by decide +kernel
theorem dX8_puts_111 : decode cX8_puts 111 = .ok (.istore 8, 2) := by decide +kernel
theorem dX8_puts_113 : decode cX8_puts 113 = .ok (.aload_n 0, 1) := by decide +kernel
theorem dX8_puts_114 : decode cX8_puts 114 = .ok (.getfield 54, 3) := by decide +kernel
theorem dX8_puts_117 : decode cX8_puts 117 = .ok (.iload 7, 2) := by decide +kernel
theorem dX8_puts_119 : decode cX8_puts 119 = .ok (.dup2, 1) := by decide +kernel
theorem dX8_puts_120 : decode cX8_puts 120 = .ok (.laload, 1) := by decide +kernel
theorem dX8_puts_121 : decode cX8_puts 121 = .ok (.iload 8, 2) := by decide +kernel
theorem dX8_puts_123 : decode cX8_puts 123 = .ok (.ifCond .eq 10, 3) := by decide +kernel
theorem dX8_puts_126 : decode cX8_puts 126 = .ok (.lload_n 3, 1) := by decide +kernel
theorem dX8_puts_127 : decode cX8_puts 127 = .ok (.invokestatic 187, 3) := by decide +kernel
theorem dX8_puts_130 : decode cX8_puts 130 = .ok (.goto 4, 3) := by decide +kernel
theorem dX8_puts_133 : decode cX8_puts 133 = .ok (.lconst 0, 1) := by decide +kernel
theorem dX8_puts_134 : decode cX8_puts 134 = .ok (.ladd, 1) := by decide +kernel
theorem dX8_puts_135 : decode cX8_puts 135 = .ok (.lastore, 1) := by decide +kernel
theorem dX8_puts_136 : decode cX8_puts 136 = .ok (.aload_n 0, 1) := by decide +kernel
theorem dX8_puts_137 : decode cX8_puts 137 = .ok (.getfield 45, 3) := by decide +kernel
theorem dX8_puts_140 : decode cX8_puts 140 = .ok (.iconst 2, 1) := by decide +kernel
theorem dX8_puts_141 : decode cX8_puts 141 = .ok (.iload 7, 2) := by decide +kernel
theorem dX8_puts_143 : decode cX8_puts 143 = .ok (.iadd, 1) := by decide +kernel
theorem dX8_puts_144 : decode cX8_puts 144 = .ok (.dup2, 1) := by decide +kernel
theorem dX8_puts_145 : decode cX8_puts 145 = .ok (.laload, 1) := by decide +kernel
theorem dX8_puts_146 : decode cX8_puts 146 = .ok (.iload 8, 2) := by decide +kernel
theorem dX8_puts_148 : decode cX8_puts 148 = .ok (.ifCond .eq 7, 3) := by decide +kernel
theorem dX8_puts_151 : decode cX8_puts 151 = .ok (.lconst 0, 1) := by decide +kernel
theorem dX8_puts_152 : decode cX8_puts 152 = .ok (.goto 7, 3) := by decide +kernel
theorem dX8_puts_155 : decode cX8_puts 155 = .ok (.lload_n 3, 1) := by decide +kernel
theorem dX8_puts_156 : decode cX8_puts 156 = .ok (.invokestatic 187, 3) := by decide +kernel
theorem dX8_puts_159 : decode cX8_puts 159 = .ok (.ladd, 1) := by decide +kernel
theorem dX8_puts_160 : decode cX8_puts 160 = .ok (.lastore, 1) := by decide +kernel
theorem dX8_puts_161 : decode cX8_puts 161 = .ok (.return_, 1) := by decide +kernel
theorem dX8_putsAll_0 : decode cX8_putsAll 0 = .ok (.iconst 0, 1) := by decide +kernel
theorem dX8_putsAll_1 : decode cX8_putsAll 1 = .ok (.istore 4, 2) := by decide +kernel
theorem dX8_putsAll_3 : decode cX8_putsAll 3 = .ok (.iload 4, 2) := by decide +kernel
theorem dX8_putsAll_5 : decode cX8_putsAll 5 = .ok (.bipush 8, 2) := by decide +kernel
theorem dX8_putsAll_7 : decode cX8_putsAll 7 = .ok (.if_icmp .ge 27, 3) := by decide +kernel
theorem dX8_putsAll_10 : decode cX8_putsAll 10 = .ok (.aload_n 0, 1) := by decide +kernel
theorem dX8_putsAll_11 : decode cX8_putsAll 11 = .ok (.getfield 54, 3) := by decide +kernel
theorem dX8_putsAll_14 : decode cX8_putsAll 14 = .ok (.iload 4, 2) := by decide +kernel
theorem dX8_putsAll_16 : decode cX8_putsAll 16 = .ok (.lconst 0, 1) := by decide +kernel
theorem dX8_putsAll_17 : decode cX8_putsAll 17 = .ok (.lastore, 1) := by decide +kernel
theorem dX8_putsAll_18 : decode cX8_putsAll 18 = .ok (.aload_n 0, 1) := by decide +kernel
theorem dX8_putsAll_19 : decode cX8_putsAll 19 = .ok (.getfield 45, 3) := by decide +kernel
theorem dX8_putsAll_22 : decode cX8_putsAll 22 = .ok (.iconst 2, 1) := by decide +kernel
theorem dX8_putsAll_23 : decode cX8_putsAll 23 = .ok (.iload 4, 2) := by decide +kernel
theorem dX8_putsAll_25 : decode cX8_putsAll 25 = .ok (.iadd, 1) := by decide +kernel
theorem dX8_putsAll_26 : decode cX8_putsAll 26 = .ok (.lconst 0, 1) := by decide +kernel
theorem dX8_putsAll_27 : decode cX8_putsAll 27 = .ok (.lastore, 1) := by decide +kernel
theorem dX8_putsAll_28 : decode cX8_putsAll 28 = .ok (.iinc 4 1, 3) := by decide +kernel
theorem dX8_putsAll_31 : decode cX8_putsAll 31 = .ok (.goto (-28), 3) := by decide +kernel
theorem dX8_putsAll_34 : decode cX8_putsAll 34 = .ok (.aload_n 0, 1) := by decide +kernel
theorem dX8_putsAll_35 : decode cX8_putsAll 35 = .ok (.getfield 45, 3) := by decide +kernel
theorem dX8_putsAll_38 : decode cX8_putsAll 38 = .ok (.iconst 1, 1) := by decide +kernel
theorem dX8_putsAll_39 : decode cX8_putsAll 39 = .ok (.aload_n 1, 1) := by decide +kernel
theorem dX8_putsAll_40 : decode cX8_putsAll 40 = .ok (.iload_n 2, 1) := by decide +kernel
theorem dX8_putsAll_41 : decode cX8_putsAll 41 = .ok (.iconst 1, 1) := by decide +kernel
theorem dX8_putsAll_42 : decode cX8_putsAll 42 = .ok (.iadd, 1) := by decide +kernel
theorem dX8_putsAll_43 : decode cX8_putsAll 43 = .ok (.laload, 1) := by decide +kernel
theorem dX8_putsAll_44 : decode cX8_putsAll 44 = .ok (.lastore, 1) := by decide +kernel
theorem dX8_putsAll_45 : decode cX8_putsAll 45 = .ok (.iconst 0, 1) := by decide +kernel
theorem dX8_putsAll_46 : decode cX8_putsAll 46 = .ok (.istore 4, 2) := by decide +kernel
theorem dX8_putsAll_48 : decode cX8_putsAll 48 = .ok (.iload 4, 2) := by decide +kernel
theorem dX8_putsAll_50 : decode cX8_putsAll 50 = .ok (.bipush 8, 2) := by decide +kernel
theorem dX8_putsAll_52 : decode cX8_putsAll 52 = .ok (.if_icmp .ge 37, 3) := by decide +kernel
theorem dX8_putsAll_55 : decode cX8_putsAll 55 = .ok (.aload_n 1, 1) := by decide +kernel
theorem dX8_putsAll_56 : decode cX8_putsAll 56 = .ok (.iload_n 2, 1) := by decide +kernel
theorem dX8_putsAll_57 : decode cX8_putsAll 57 = .ok (.iconst 2, 1) := by decide +kernel
theorem dX8_putsAll_58 : decode cX8_putsAll 58 = .ok (.iadd, 1) := by decide +kernel
theorem dX8_putsAll_59 : decode cX8_putsAll 59 = .ok (.iload 4, 2) := by decide +kernel
theorem dX8_putsAll_61 : decode cX8_putsAll 61 = .ok (.iadd, 1) := by decide +kernel
theorem dX8_putsAll_62 : decode cX8_putsAll 62 = .ok (.laload, 1) := by decide +kernel
theorem dX8_putsAll_63 : decode cX8_putsAll 63 = .ok (.lconst 0, 1) := by decide +kernel
theorem dX8_putsAll_64 : decode cX8_putsAll 64 = .ok (.lcmp, 1) := by decide +kernel
theorem dX8_putsAll_65 : decode cX8_putsAll 65 = .ok (.ifCond .eq 18, 3) := by decide +kernel
theorem dX8_putsAll_68 : decode cX8_putsAll 68 = .ok (.aload_n 0, 1) := by decide +kernel
theorem dX8_putsAll_69 : decode cX8_putsAll 69 = .ok (.iload_n 3, 1) := by decide +kernel
theorem dX8_putsAll_70 : decode cX8_putsAll 70 = .ok (.iload 4, 2) := by decide +kernel
theorem dX8_putsAll_72 : decode cX8_putsAll 72 = .ok (.aload_n 1, 1) := by decide +kernel
theorem dX8_putsAll_73 : decode cX8_putsAll 73 = .ok (.iload_n 2, 1) := by decide +kernel
theorem dX8_putsAll_74 : decode cX8_putsAll 74 = .ok (.iconst 2, 1) := by decide +kernel
theorem dX8_putsAll_75 : decode cX8_putsAll 75 = .ok (.iadd, 1) := by decide +kernel
theorem dX8_putsAll_76 : decode cX8_putsAll 76 = .ok (.iload 4, 2) := by decide +kernel
theorem dX8_putsAll_78 : decode cX8_putsAll 78 = .ok (.iadd, 1) := by decide +kernel
theorem dX8_putsAll_79 : decode cX8_putsAll 79 = .ok (.laload, 1) := by decide +kernel
theorem dX8_putsAll_80 : decode cX8_putsAll 80 = .ok (.invokevirtual 229, 3) := by decide +kernel
theorem dX8_putsAll_83 : decode cX8_putsAll 83 = .ok (.iinc 4 1, 3) := by decide +kernel
theorem dX8_putsAll_86 : decode cX8_putsAll 86 = .ok (.goto (-38), 3) := by decide +kernel
theorem dX8_putsAll_89 : decode cX8_putsAll 89 = .ok (.iconst 0, 1) := by decide +kernel
theorem dX8_putsAll_90 : decode cX8_putsAll 90 = .ok (.istore 4, 2) := by decide +kernel
theorem dX8_putsAll_92 : decode cX8_putsAll 92 = .ok (.iload 4, 2) := by decide +kernel
theorem dX8_putsAll_94 : decode cX8_putsAll 94 = .ok (.bipush 8, 2) := by decide +kernel
theorem dX8_putsAll_96 : decode cX8_putsAll 96 = .ok (.if_icmp .ge 87, 3) := by decide +kernel
theorem dX8_putsAll_99 : decode cX8_putsAll 99 = .ok (.aload_n 0, 1) := by decide +kernel
theorem dX8_putsAll_100 : decode cX8_putsAll 100 = .ok (.getfield 54, 3) := by decide +kernel
theorem dX8_putsAll_103 : decode cX8_putsAll 103 = .ok (.iload 4, 2) := by decide +kernel
theorem dX8_putsAll_105 : decode cX8_putsAll 105 = .ok (.laload, 1) := by decide +kernel
theorem dX8_putsAll_106 : decode cX8_putsAll 106 = .ok (.aload_n 0, 1) := by decide +kernel
theorem dX8_putsAll_107 : decode cX8_putsAll 107 = .ok (.getfield 45, 3) := by decide +kernel
theorem dX8_putsAll_110 : decode cX8_putsAll 110 = .ok (.iconst 2, 1) := by decide +kernel
theorem dX8_putsAll_111 : decode cX8_putsAll 111 = .ok (.iload 4, 2) := by decide +kernel
theorem dX8_putsAll_113 : decode cX8_putsAll 113 = .ok (.iadd, 1) := by decide +kernel
theorem dX8_putsAll_114 : decode cX8_putsAll 114 = .ok (.laload, 1) := by decide +kernel
theorem dX8_putsAll_115 : decode cX8_putsAll 115 = .ok (.lcmp, 1) := by decide +kernel
theorem dX8_putsAll_116 : decode cX8_putsAll 116 = .ok (.ifCond .ge 13, 3) := by decide +kernel
theorem dX8_putsAll_119 : decode cX8_putsAll 119 = .ok (.aload_n 0, 1) := by decide +kernel
theorem dX8_putsAll_120 : decode cX8_putsAll 120 = .ok (.getfield 54, 3) := by decide +kernel
theorem dX8_putsAll_123 : decode cX8_putsAll 123 = .ok (.iload 4, 2) := by decide +kernel
theorem dX8_putsAll_125 : decode cX8_putsAll 125 = .ok (.laload, 1) := by decide +kernel
theorem dX8_putsAll_126 : decode cX8_putsAll 126 = .ok (.goto 12, 3) := by decide +kernel
theorem dX8_putsAll_129 : decode cX8_putsAll 129 = .ok (.aload_n 0, 1) := by decide +kernel
theorem dX8_putsAll_130 : decode cX8_putsAll 130 = .ok (.getfield 45, 3) := by decide +kernel
theorem dX8_putsAll_133 : decode cX8_putsAll 133 = .ok (.iconst 2, 1) := by decide +kernel
theorem dX8_putsAll_134 : decode cX8_putsAll 134 = .ok (.iload 4, 2) := by decide +kernel
theorem dX8_putsAll_136 : decode cX8_putsAll 136 = .ok (.iadd, 1) := by decide +kernel
theorem dX8_putsAll_137 : decode cX8_putsAll 137 = .ok (.laload, 1) := by decide +kernel
theorem dX8_putsAll_138 : decode cX8_putsAll 138 = .ok (.lstore 5, 2) := by decide +kernel
theorem dX8_putsAll_140 : decode cX8_putsAll 140 = .ok (.aload_n 0, 1) := by decide +kernel
theorem dX8_putsAll_141 : decode cX8_putsAll 141 = .ok (.getfield 45, 3) := by decide +kernel
theorem dX8_putsAll_144 : decode cX8_putsAll 144 = .ok (.iconst 1, 1) := by decide +kernel
theorem dX8_putsAll_145 : decode cX8_putsAll 145 = .ok (.dup2, 1) := by decide +kernel
theorem dX8_putsAll_146 : decode cX8_putsAll 146 = .ok (.laload, 1) := by decide +kernel
theorem dX8_putsAll_147 : decode cX8_putsAll 147 = .ok (.lload 5, 2) := by decide +kernel
theorem dX8_putsAll_149 : decode cX8_putsAll 149 = .ok (.lsub, 1) := by decide +kernel
theorem dX8_putsAll_150 : decode cX8_putsAll 150 = .ok (.lastore, 1) := by decide +kernel
theorem dX8_putsAll_151 : decode cX8_putsAll 151 = .ok (.aload_n 0, 1) := by decide +kernel
theorem dX8_putsAll_152 : decode cX8_putsAll 152 = .ok (.getfield 45, 3) := by decide +kernel
theorem dX8_putsAll_155 : decode cX8_putsAll 155 = .ok (.iconst 2, 1) := by decide +kernel
theorem dX8_putsAll_156 : decode cX8_putsAll 156 = .ok (.iload 4, 2) := by decide +kernel
theorem dX8_putsAll_158 : decode cX8_putsAll 158 = .ok (.iadd, 1) := by decide +kernel
theorem dX8_putsAll_159 : decode cX8_putsAll 159 = .ok (.aload_n 0, 1) := by decide +kernel
theorem dX8_putsAll_160 : decode cX8_putsAll 160 = .ok (.getfield 54, 3) := by decide +kernel
theorem dX8_putsAll_163 : decode cX8_putsAll 163 = .ok (.iload 4, 2) := by decide +kernel
theorem dX8_putsAll_165 : decode cX8_putsAll 165 = .ok (.laload, 1) := by decide +kernel
theorem dX8_putsAll_166 : decode cX8_putsAll 166 = .ok (.aload_n 0, 1) := by decide +kernel
theorem dX8_putsAll_167 : decode cX8_putsAll 167 = .ok (.getfield 45, 3) := by decide +kernel
theorem dX8_putsAll_170 : decode cX8_putsAll 170 = .ok (.iconst 2, 1) := by decide +kernel
theorem dX8_putsAll_171 : decode cX8_putsAll 171 = .ok (.iload 4, 2) := by decide +kernel
theorem dX8_putsAll_173 : decode cX8_putsAll 173 = .ok (.iadd, 1) := by decide +kernel
theorem dX8_putsAll_174 : decode cX8_putsAll 174 = .ok (.laload, 1) := by decide +kernel
theorem dX8_putsAll_175 : decode cX8_putsAll 175 = .ok (.lsub, 1) := by decide +kernel
theorem dX8_putsAll_176 : decode cX8_putsAll 176 = .ok (.lastore, 1) := by decide +kernel
theorem dX8_putsAll_177 : decode cX8_putsAll 177 = .ok (.iinc 4 1, 3) := by decide +kernel
theorem dX8_putsAll_180 : decode cX8_putsAll 180 = .ok (.goto (-88), 3) := by decide +kernel
theorem dX8_putsAll_183 : decode cX8_putsAll 183 = .ok (.aload_n 0, 1) := by decide +kernel
theorem dX8_putsAll_184 : decode cX8_putsAll 184 = .ok (.getfield 45, 3) := by decide +kernel
theorem dX8_putsAll_187 : decode cX8_putsAll 187 = .ok (.iconst 1, 1) := by decide +kernel
theorem dX8_putsAll_188 : decode cX8_putsAll 188 = .ok (.aload_n 0, 1) := by decide +kernel
theorem dX8_putsAll_189 : decode cX8_putsAll 189 = .ok (.getfield 45, 3) := by decide +kernel
theorem dX8_putsAll_192 : decode cX8_putsAll 192 = .ok (.iconst 1, 1) := by decide +kernel
theorem dX8_putsAll_193 : decode cX8_putsAll 193 = .ok (.laload, 1) := by decide +kernel
theorem dX8_putsAll_194 : decode cX8_putsAll 194 = .ok (.lconst 0, 1) := by decide +kernel
theorem dX8_putsAll_195 : decode cX8_putsAll 195 = .ok (.lcmp, 1) := by decide +kernel
theorem dX8_putsAll_196 : decode cX8_putsAll 196 = .ok (.ifCond .ge 7, 3) := by decide +kernel
theorem dX8_putsAll_199 : decode cX8_putsAll 199 = .ok (.lconst 0, 1) := by decide +kernel
theorem dX8_putsAll_200 : decode cX8_putsAll 200 = .ok (.goto 9, 3) := by decide +kernel
theorem dX8_putsAll_203 : decode cX8_putsAll 203 = .ok (.aload_n 0, 1) := by decide +kernel
theorem dX8_putsAll_204 : decode cX8_putsAll 204 = .ok (.getfield 45, 3) := by decide +kernel
theorem dX8_putsAll_207 : decode cX8_putsAll 207 = .ok (.iconst 1, 1) := by decide +kernel
theorem dX8_putsAll_208 : decode cX8_putsAll 208 = .ok (.laload, 1) := by decide +kernel
theorem dX8_putsAll_209 : decode cX8_putsAll 209 = .ok (.lastore, 1) := by decide +kernel
theorem dX8_putsAll_210 : decode cX8_putsAll 210 = .ok (.return_, 1) := by decide +kernel
theorem dX8_pricesPut_0 : decode cX8_pricesPut 0 = .ok (.lconst 0, 1) := by decide +kernel
theorem dX8_pricesPut_1 : decode cX8_pricesPut 1 = .ok (.lstore_n 2, 1) := by decide +kernel
theorem dX8_pricesPut_2 : decode cX8_pricesPut 2 = .ok (.iconst 0, 1) := by decide +kernel
theorem dX8_pricesPut_3 : decode cX8_pricesPut 3 = .ok (.istore 4, 2) := by decide +kernel
theorem dX8_pricesPut_5 : decode cX8_pricesPut 5 = .ok (.iload 4, 2) := by decide +kernel
theorem dX8_pricesPut_7 : decode cX8_pricesPut 7 = .ok (.bipush 8, 2) := by decide +kernel
theorem dX8_pricesPut_9 : decode cX8_pricesPut 9 = .ok (.if_icmp .ge 23, 3) := by decide +kernel
theorem dX8_pricesPut_12 : decode cX8_pricesPut 12 = .ok (.aload_n 0, 1) := by decide +kernel
theorem dX8_pricesPut_13 : decode cX8_pricesPut 13 = .ok (.getfield 54, 3) := by decide +kernel
theorem dX8_pricesPut_16 : decode cX8_pricesPut 16 = .ok (.iload 4, 2) := by decide +kernel
theorem dX8_pricesPut_18 : decode cX8_pricesPut 18 = .ok (.aload_n 0, 1) := by decide +kernel
theorem dX8_pricesPut_19 : decode cX8_pricesPut 19 = .ok (.getfield 25, 3) := by decide +kernel
theorem dX8_pricesPut_22 : decode cX8_pricesPut 22 = .ok (.iload 4, 2) := by decide +kernel
theorem dX8_pricesPut_24 : decode cX8_pricesPut 24 = .ok (.laload, 1) := by decide +kernel
theorem dX8_pricesPut_25 : decode cX8_pricesPut 25 = .ok (.lastore, 1) := by decide +kernel
theorem dX8_pricesPut_26 : decode cX8_pricesPut 26 = .ok (.iinc 4 1, 3) := by decide +kernel
theorem dX8_pricesPut_29 : decode cX8_pricesPut 29 = .ok (.goto (-24), 3) := by decide +kernel
theorem dX8_pricesPut_32 : decode cX8_pricesPut 32 = .ok (.iconst 0, 1) := by decide +kernel
theorem dX8_pricesPut_33 : decode cX8_pricesPut 33 = .ok (.istore 4, 2) := by decide +kernel
theorem dX8_pricesPut_35 : decode cX8_pricesPut 35 = .ok (.iload 4, 2) := by decide +kernel
theorem dX8_pricesPut_37 : decode cX8_pricesPut 37 = .ok (.bipush 8, 2) := by decide +kernel
theorem dX8_pricesPut_39 : decode cX8_pricesPut 39 = .ok (.if_icmp .ge 107, 3) := by decide +kernel
theorem dX8_pricesPut_42 : decode cX8_pricesPut 42 = .ok (.aload_n 0, 1) := by decide +kernel
theorem dX8_pricesPut_43 : decode cX8_pricesPut 43 = .ok (.getfield 16, 3) := by decide +kernel
theorem dX8_pricesPut_46 : decode cX8_pricesPut 46 = .ok (.bipush 40, 2) := by decide +kernel
theorem dX8_pricesPut_48 : decode cX8_pricesPut 48 = .ok (.iload_n 1, 1) := by decide +kernel
theorem dX8_pricesPut_49 : decode cX8_pricesPut 49 = .ok (.imul, 1) := by decide +kernel
theorem dX8_pricesPut_50 : decode cX8_pricesPut 50 = .ok (.iload 4, 2) := by decide +kernel
theorem dX8_pricesPut_52 : decode cX8_pricesPut 52 = .ok (.iadd, 1) := by decide +kernel
theorem dX8_pricesPut_53 : decode cX8_pricesPut 53 = .ok (.iaload, 1) := by decide +kernel
theorem dX8_pricesPut_54 : decode cX8_pricesPut 54 = .ok (.istore 5, 2) := by decide +kernel
theorem dX8_pricesPut_56 : decode cX8_pricesPut 56 = .ok (.iload 5, 2) := by decide +kernel
theorem dX8_pricesPut_58 : decode cX8_pricesPut 58 = .ok (.iconst 1, 1) := by decide +kernel
theorem dX8_pricesPut_59 : decode cX8_pricesPut 59 = .ok (.if_icmp .ne 16, 3) := by decide +kernel
theorem dX8_pricesPut_62 : decode cX8_pricesPut 62 = .ok (.lload_n 2, 1) := by decide +kernel
theorem dX8_pricesPut_63 : decode cX8_pricesPut 63 = .ok (.aload_n 0, 1) := by decide +kernel
theorem dX8_pricesPut_64 : decode cX8_pricesPut 64 = .ok (.getfield 25, 3) := by decide +kernel
theorem dX8_pricesPut_67 : decode cX8_pricesPut 67 = .ok (.iload 4, 2) := by decide +kernel
theorem dX8_pricesPut_69 : decode cX8_pricesPut 69 = .ok (.laload, 1) := by decide +kernel
theorem dX8_pricesPut_70 : decode cX8_pricesPut 70 = .ok (.ladd, 1) := by decide +kernel
theorem dX8_pricesPut_71 : decode cX8_pricesPut 71 = .ok (.lstore_n 2, 1) := by decide +kernel
theorem dX8_pricesPut_72 : decode cX8_pricesPut 72 = .ok (.goto 68, 3) := by decide +kernel
theorem dX8_pricesPut_75 : decode cX8_pricesPut 75 = .ok (.iload 5, 2) := by decide +kernel
theorem dX8_pricesPut_77 : decode cX8_pricesPut 77 = .ok (.bipush 9, 2) := by decide +kernel
theorem dX8_pricesPut_79 : decode cX8_pricesPut 79 = .ok (.if_icmp .le 36, 3) := by decide +kernel
theorem dX8_pricesPut_82 : decode cX8_pricesPut 82 = .ok (.lload_n 2, 1) := by decide +kernel
theorem dX8_pricesPut_83 : decode cX8_pricesPut 83 = .ok (.aload_n 0, 1) := by decide +kernel
theorem dX8_pricesPut_84 : decode cX8_pricesPut 84 = .ok (.getfield 25, 3) := by decide +kernel
theorem dX8_pricesPut_87 : decode cX8_pricesPut 87 = .ok (.iload 4, 2) := by decide +kernel
theorem dX8_pricesPut_89 : decode cX8_pricesPut 89 = .ok (.laload, 1) := by decide +kernel
theorem dX8_pricesPut_90 : decode cX8_pricesPut 90 = .ok (.ladd, 1) := by decide +kernel
theorem dX8_pricesPut_91 : decode cX8_pricesPut 91 = .ok (.lstore_n 2, 1) := by decide +kernel
theorem dX8_pricesPut_92 : decode cX8_pricesPut 92 = .ok (.aload_n 0, 1) := by decide +kernel
theorem dX8_pricesPut_93 : decode cX8_pricesPut 93 = .ok (.getfield 54, 3) := by decide +kernel
theorem dX8_pricesPut_96 : decode cX8_pricesPut 96 = .ok (.iload 5, 2) := by decide +kernel
theorem dX8_pricesPut_98 : decode cX8_pricesPut 98 = .ok (.bipush 10, 2) := by decide +kernel
theorem dX8_pricesPut_100 : decode cX8_pricesPut 100 = .ok (.isub, 1) := by decide +kernel
theorem dX8_pricesPut_101 : decode cX8_pricesPut 101 = .ok (.dup2, 1) := by decide +kernel
theorem dX8_pricesPut_102 : decode cX8_pricesPut 102 = .ok (.laload, 1) := by decide +kernel
theorem dX8_pricesPut_103 : decode cX8_pricesPut 103 = .ok (.aload_n 0, 1) := by decide +kernel
theorem dX8_pricesPut_104 : decode cX8_pricesPut 104 = .ok (.getfield 25, 3) := by decide +kernel
theorem dX8_pricesPut_107 : decode cX8_pricesPut 107 = .ok (.iload 4, 2) := by decide +kernel
theorem dX8_pricesPut_109 : decode cX8_pricesPut 109 = .ok (.laload, 1) := by decide +kernel
theorem dX8_pricesPut_110 : decode cX8_pricesPut 110 = .ok (.ladd, 1) := by decide +kernel
theorem dX8_pricesPut_111 : decode cX8_pricesPut 111 = .ok (.lastore, 1) := by decide +kernel
theorem dX8_pricesPut_112 : decode cX8_pricesPut 112 = .ok (.goto 28, 3) := by decide +kernel
theorem dX8_pricesPut_115 : decode cX8_pricesPut 115 = .ok (.iload 5, 2) := by decide +kernel
theorem dX8_pricesPut_117 : decode cX8_pricesPut 117 = .ok (.iconst 1, 1) := by decide +kernel
theorem dX8_pricesPut_118 : decode cX8_pricesPut 118 = .ok (.if_icmp .le 22, 3) := by decide +kernel
theorem dX8_pricesPut_121 : decode cX8_pricesPut 121 = .ok (.aload_n 0, 1) := by decide +kernel
theorem dX8_pricesPut_122 : decode cX8_pricesPut 122 = .ok (.getfield 54, 3) := by decide +kernel
theorem dX8_pricesPut_125 : decode cX8_pricesPut 125 = .ok (.iload 5, 2) := by decide +kernel
theorem dX8_pricesPut_127 : decode cX8_pricesPut 127 = .ok (.iconst 2, 1) := by decide +kernel
theorem dX8_pricesPut_128 : decode cX8_pricesPut 128 = .ok (.isub, 1) := by decide +kernel
theorem dX8_pricesPut_129 : decode cX8_pricesPut 129 = .ok (.dup2, 1) := by decide +kernel
theorem dX8_pricesPut_130 : decode cX8_pricesPut 130 = .ok (.laload, 1) := by decide +kernel
theorem dX8_pricesPut_131 : decode cX8_pricesPut 131 = .ok (.aload_n 0, 1) := by decide +kernel
theorem dX8_pricesPut_132 : decode cX8_pricesPut 132 = .ok (.getfield 25, 3) := by decide +kernel
theorem dX8_pricesPut_135 : decode cX8_pricesPut 135 = .ok (.iload 4, 2) := by decide +kernel
theorem dX8_pricesPut_137 : decode cX8_pricesPut 137 = .ok (.laload, 1) := by decide +kernel
theorem dX8_pricesPut_138 : decode cX8_pricesPut 138 = .ok (.lsub, 1) := by decide +kernel
theorem dX8_pricesPut_139 : decode cX8_pricesPut 139 = .ok (.lastore, 1) := by decide +kernel
theorem dX8_pricesPut_140 : decode cX8_pricesPut 140 = .ok (.iinc 4 1, 3) := by decide +kernel
theorem dX8_pricesPut_143 : decode cX8_pricesPut 143 = .ok (.goto (-108), 3) := by decide +kernel
theorem dX8_pricesPut_146 : decode cX8_pricesPut 146 = .ok (.iconst 0, 1) := by decide +kernel
theorem dX8_pricesPut_147 : decode cX8_pricesPut 147 = .ok (.istore 4, 2) := by decide +kernel
theorem dX8_pricesPut_149 : decode cX8_pricesPut 149 = .ok (.iload 4, 2) := by decide +kernel
theorem dX8_pricesPut_151 : decode cX8_pricesPut 151 = .ok (.bipush 8, 2) := by decide +kernel
theorem dX8_pricesPut_153 : decode cX8_pricesPut 153 = .ok (.if_icmp .ge 52, 3) := by decide +kernel
theorem dX8_pricesPut_156 : decode cX8_pricesPut 156 = .ok (.aload_n 0, 1) := by decide +kernel
theorem dX8_pricesPut_157 : decode cX8_pricesPut 157 = .ok (.getfield 45, 3) := by decide +kernel
theorem dX8_pricesPut_160 : decode cX8_pricesPut 160 = .ok (.iconst 2, 1) := by decide +kernel
theorem dX8_pricesPut_161 : decode cX8_pricesPut 161 = .ok (.iload 4, 2) := by decide +kernel
theorem dX8_pricesPut_163 : decode cX8_pricesPut 163 = .ok (.iadd, 1) := by decide +kernel
theorem dX8_pricesPut_164 : decode cX8_pricesPut 164 = .ok (.aload_n 0, 1) := by decide +kernel
theorem dX8_pricesPut_165 : decode cX8_pricesPut 165 = .ok (.getfield 54, 3) := by decide +kernel
theorem dX8_pricesPut_168 : decode cX8_pricesPut 168 = .ok (.iload 4, 2) := by decide +kernel
theorem dX8_pricesPut_170 : decode cX8_pricesPut 170 = .ok (.laload, 1) := by decide +kernel
theorem dX8_pricesPut_171 : decode cX8_pricesPut 171 = .ok (.lastore, 1) := by decide +kernel
theorem dX8_pricesPut_172 : decode cX8_pricesPut 172 = .ok (.lload_n 2, 1) := by decide +kernel
theorem dX8_pricesPut_173 : decode cX8_pricesPut 173 = .ok (.aload_n 0, 1) := by decide +kernel
theorem dX8_pricesPut_174 : decode cX8_pricesPut 174 = .ok (.getfield 54, 3) := by decide +kernel
theorem dX8_pricesPut_177 : decode cX8_pricesPut 177 = .ok (.iload 4, 2) := by decide +kernel
theorem dX8_pricesPut_179 : decode cX8_pricesPut 179 = .ok (.laload, 1) := by decide +kernel
theorem dX8_pricesPut_180 : decode cX8_pricesPut 180 = .ok (.lconst 0, 1) := by decide +kernel
theorem dX8_pricesPut_181 : decode cX8_pricesPut 181 = .ok (.lcmp, 1) := by decide +kernel
theorem dX8_pricesPut_182 : decode cX8_pricesPut 182 = .ok (.ifCond .ge 14, 3) := by decide +kernel
theorem dX8_pricesPut_185 : decode cX8_pricesPut 185 = .ok (.aload_n 0, 1) := by decide +kernel
theorem dX8_pricesPut_186 : decode cX8_pricesPut 186 = .ok (.getfield 54, 3) := by decide +kernel
theorem dX8_pricesPut_189 : decode cX8_pricesPut 189 = .ok (.iload 4, 2) := by decide +kernel
theorem dX8_pricesPut_191 : decode cX8_pricesPut 191 = .ok (.laload, 1) := by decide +kernel
theorem dX8_pricesPut_192 : decode cX8_pricesPut 192 = .ok (.lneg, 1) := by decide +kernel
theorem dX8_pricesPut_193 : decode cX8_pricesPut 193 = .ok (.goto 4, 3) := by decide +kernel
theorem dX8_pricesPut_196 : decode cX8_pricesPut 196 = .ok (.lconst 0, 1) := by decide +kernel
theorem dX8_pricesPut_197 : decode cX8_pricesPut 197 = .ok (.ladd, 1) := by decide +kernel
theorem dX8_pricesPut_198 : decode cX8_pricesPut 198 = .ok (.lstore_n 2, 1) := by decide +kernel
theorem dX8_pricesPut_199 : decode cX8_pricesPut 199 = .ok (.iinc 4 1, 3) := by decide +kernel
theorem dX8_pricesPut_202 : decode cX8_pricesPut 202 = .ok (.goto (-53), 3) := by decide +kernel
theorem dX8_pricesPut_205 : decode cX8_pricesPut 205 = .ok (.aload_n 0, 1) := by decide +kernel
theorem dX8_pricesPut_206 : decode cX8_pricesPut 206 = .ok (.getfield 45, 3) := by decide +kernel
theorem dX8_pricesPut_209 : decode cX8_pricesPut 209 = .ok (.iconst 1, 1) := by decide +kernel
theorem dX8_pricesPut_210 : decode cX8_pricesPut 210 = .ok (.lload_n 2, 1) := by decide +kernel
theorem dX8_pricesPut_211 : decode cX8_pricesPut 211 = .ok (.lconst 0, 1) := by decide +kernel
theorem dX8_pricesPut_212 : decode cX8_pricesPut 212 = .ok (.lcmp, 1) := by decide +kernel
theorem dX8_pricesPut_213 : decode cX8_pricesPut 213 = .ok (.ifCond .ge 7, 3) := by decide +kernel
theorem dX8_pricesPut_216 : decode cX8_pricesPut 216 = .ok (.lconst 0, 1) := by decide +kernel
theorem dX8_pricesPut_217 : decode cX8_pricesPut 217 = .ok (.goto 4, 3) := by decide +kernel
theorem dX8_pricesPut_220 : decode cX8_pricesPut 220 = .ok (.lload_n 2, 1) := by decide +kernel
theorem dX8_pricesPut_221 : decode cX8_pricesPut 221 = .ok (.lastore, 1) := by decide +kernel
theorem dX8_pricesPut_222 : decode cX8_pricesPut 222 = .ok (.return_, 1) := by decide +kernel
theorem dX8_allPrices_0 : decode cX8_allPrices 0 = .ok (.lconst 0, 1) := by decide +kernel
theorem dX8_allPrices_1 : decode cX8_allPrices 1 = .ok (.lstore_n 1, 1) := by decide +kernel
theorem dX8_allPrices_2 : decode cX8_allPrices 2 = .ok (.iconst 0, 1) := by decide +kernel
theorem dX8_allPrices_3 : decode cX8_allPrices 3 = .ok (.istore_n 3, 1) := by decide +kernel
theorem dX8_allPrices_4 : decode cX8_allPrices 4 = .ok (.iload_n 3, 1) := by decide +kernel
theorem dX8_allPrices_5 : decode cX8_allPrices 5 = .ok (.bipush 8, 2) := by decide +kernel
theorem dX8_allPrices_7 : decode cX8_allPrices 7 = .ok (.if_icmp .ge 18, 3) := by decide +kernel
theorem dX8_allPrices_10 : decode cX8_allPrices 10 = .ok (.lload_n 1, 1) := by decide +kernel
theorem dX8_allPrices_11 : decode cX8_allPrices 11 = .ok (.aload_n 0, 1) := by decide +kernel
theorem dX8_allPrices_12 : decode cX8_allPrices 12 = .ok (.getfield 25, 3) := by decide +kernel
theorem dX8_allPrices_15 : decode cX8_allPrices 15 = .ok (.iload_n 3, 1) := by decide +kernel
theorem dX8_allPrices_16 : decode cX8_allPrices 16 = .ok (.laload, 1) := by decide +kernel
theorem dX8_allPrices_17 : decode cX8_allPrices 17 = .ok (.ladd, 1) := by decide +kernel
theorem dX8_allPrices_18 : decode cX8_allPrices 18 = .ok (.lstore_n 1, 1) := by decide +kernel
theorem dX8_allPrices_19 : decode cX8_allPrices 19 = .ok (.iinc 3 1, 3) := by decide +kernel
theorem dX8_allPrices_22 : decode cX8_allPrices 22 = .ok (.goto (-18), 3) := by decide +kernel
theorem dX8_allPrices_25 : decode cX8_allPrices 25 = .ok (.lload_n 1, 1) := by decide +kernel
theorem dX8_allPrices_26 : decode cX8_allPrices 26 = .ok (.lreturn, 1) := by decide +kernel
theorem dX8_witness_0 : decode cX8_witness 0 = .ok (.aload_n 0, 1) := by decide +kernel
theorem dX8_witness_1 : decode cX8_witness 1 = .ok (.invokevirtual 171, 3) := by decide +kernel
theorem dX8_witness_4 : decode cX8_witness 4 = .ok (.ifCond .ne 6, 3) := by decide +kernel
theorem dX8_witness_7 : decode cX8_witness 7 = .ok (.ldc 174, 2) := by decide +kernel
theorem dX8_witness_9 : decode cX8_witness 9 = .ok (.ireturn, 1) := by decide +kernel
theorem dX8_witness_10 : decode cX8_witness 10 = .ok (.iload_n 1, 1) := by decide +kernel
theorem dX8_witness_11 : decode cX8_witness 11 = .ok (.invokestatic 72, 3) := by decide +kernel
theorem dX8_witness_14 : decode cX8_witness 14 = .ok (.ifCond .ne 6, 3) := by decide +kernel
theorem dX8_witness_17 : decode cX8_witness 17 = .ok (.ldc 76, 2) := by decide +kernel
theorem dX8_witness_19 : decode cX8_witness 19 = .ok (.ireturn, 1) := by decide +kernel
theorem dX8_witness_20 : decode cX8_witness 20 = .ok (.aload_n 0, 1) := by decide +kernel
theorem dX8_witness_21 : decode cX8_witness 21 = .ok (.iload_n 1, 1) := by decide +kernel
theorem dX8_witness_22 : decode cX8_witness 22 = .ok (.invokevirtual 84, 3) := by decide +kernel
theorem dX8_witness_25 : decode cX8_witness 25 = .ok (.ifCond .eq 9, 3) := by decide +kernel
theorem dX8_witness_28 : decode cX8_witness 28 = .ok (.aload_n 0, 1) := by decide +kernel
theorem dX8_witness_29 : decode cX8_witness 29 = .ok (.iconst 1, 1) := by decide +kernel
theorem dX8_witness_30 : decode cX8_witness 30 = .ok (.invokevirtual 77, 3) := by decide +kernel
theorem dX8_witness_33 : decode cX8_witness 33 = .ok (.ireturn, 1) := by decide +kernel
theorem dX8_witness_34 : decode cX8_witness 34 = .ok (.aload_n 0, 1) := by decide +kernel
theorem dX8_witness_35 : decode cX8_witness 35 = .ok (.iload_n 1, 1) := by decide +kernel
theorem dX8_witness_36 : decode cX8_witness 36 = .ok (.iconst 0, 1) := by decide +kernel
theorem dX8_witness_37 : decode cX8_witness 37 = .ok (.bipush 8, 2) := by decide +kernel
theorem dX8_witness_39 : decode cX8_witness 39 = .ok (.invokevirtual 91, 3) := by decide +kernel
theorem dX8_witness_42 : decode cX8_witness 42 = .ok (.ifCond .ne 9, 3) := by decide +kernel
theorem dX8_witness_45 : decode cX8_witness 45 = .ok (.aload_n 0, 1) := by decide +kernel
theorem dX8_witness_46 : decode cX8_witness 46 = .ok (.iconst 2, 1) := by decide +kernel
theorem dX8_witness_47 : decode cX8_witness 47 = .ok (.invokevirtual 77, 3) := by decide +kernel
theorem dX8_witness_50 : decode cX8_witness 50 = .ok (.ireturn, 1) := by decide +kernel
theorem dX8_witness_51 : decode cX8_witness 51 = .ok (.iconst 0, 1) := by decide +kernel
theorem dX8_witness_52 : decode cX8_witness 52 = .ok (.istore_n 2, 1) := by decide +kernel
theorem dX8_witness_53 : decode cX8_witness 53 = .ok (.iload_n 2, 1) := by decide +kernel
theorem dX8_witness_54 : decode cX8_witness 54 = .ok (.bipush 8, 2) := by decide +kernel
theorem dX8_witness_56 : decode cX8_witness 56 = .ok (.if_icmp .ge 35, 3) := by decide +kernel
theorem dX8_witness_59 : decode cX8_witness 59 = .ok (.aload_n 0, 1) := by decide +kernel
theorem dX8_witness_60 : decode cX8_witness 60 = .ok (.getfield 16, 3) := by decide +kernel
theorem dX8_witness_63 : decode cX8_witness 63 = .ok (.bipush 40, 2) := by decide +kernel
theorem dX8_witness_65 : decode cX8_witness 65 = .ok (.iload_n 1, 1) := by decide +kernel
theorem dX8_witness_66 : decode cX8_witness 66 = .ok (.imul, 1) := by decide +kernel
theorem dX8_witness_67 : decode cX8_witness 67 = .ok (.iload_n 2, 1) := by decide +kernel
theorem dX8_witness_68 : decode cX8_witness 68 = .ok (.iadd, 1) := by decide +kernel
theorem dX8_witness_69 : decode cX8_witness 69 = .ok (.iaload, 1) := by decide +kernel
theorem dX8_witness_70 : decode cX8_witness 70 = .ok (.iconst 0, 1) := by decide +kernel
theorem dX8_witness_71 : decode cX8_witness 71 = .ok (.bipush 17, 2) := by decide +kernel
theorem dX8_witness_73 : decode cX8_witness 73 = .ok (.invokestatic 68, 3) := by decide +kernel
theorem dX8_witness_76 : decode cX8_witness 76 = .ok (.ifCond .ne 9, 3) := by decide +kernel
theorem dX8_witness_79 : decode cX8_witness 79 = .ok (.aload_n 0, 1) := by decide +kernel
theorem dX8_witness_80 : decode cX8_witness 80 = .ok (.iconst 2, 1) := by decide +kernel
theorem dX8_witness_81 : decode cX8_witness 81 = .ok (.invokevirtual 77, 3) := by decide +kernel
theorem dX8_witness_84 : decode cX8_witness 84 = .ok (.ireturn, 1) := by decide +kernel
theorem dX8_witness_85 : decode cX8_witness 85 = .ok (.iinc 2 1, 3) := by decide +kernel
theorem dX8_witness_88 : decode cX8_witness 88 = .ok (.goto (-35), 3) := by decide +kernel
theorem dX8_witness_91 : decode cX8_witness 91 = .ok (.aload_n 0, 1) := by decide +kernel
theorem dX8_witness_92 : decode cX8_witness 92 = .ok (.invokevirtual 146, 3) := by decide +kernel
theorem dX8_witness_95 : decode cX8_witness 95 = .ok (.aload_n 0, 1) := by decide +kernel
theorem dX8_witness_96 : decode cX8_witness 96 = .ok (.invokevirtual 151, 3) := by decide +kernel
theorem dX8_witness_99 : decode cX8_witness 99 = .ok (.aload_n 0, 1) := by decide +kernel
theorem dX8_witness_100 : decode cX8_witness 100 = .ok (.aload_n 0, 1) := by decide +kernel
theorem dX8_witness_101 : decode cX8_witness 101 = .ok (.getfield 110, 3) := by decide +kernel
theorem dX8_witness_104 : decode cX8_witness 104 = .ok (.ifCond .ne 7, 3) := by decide +kernel
theorem dX8_witness_107 : decode cX8_witness 107 = .ok (.iconst 1, 1) := by decide +kernel
theorem dX8_witness_108 : decode cX8_witness 108 = .ok (.goto 4, 3) := by decide +kernel
theorem dX8_witness_111 : decode cX8_witness 111 = .ok (.iconst 0, 1) := by decide +kernel
theorem dX8_witness_112 : decode cX8_witness 112 = .ok (.invokevirtual 158, 3) := by decide +kernel
theorem dX8_witness_115 : decode cX8_witness 115 = .ok (.aload_n 0, 1) := by decide +kernel
theorem dX8_witness_116 : decode cX8_witness 116 = .ok (.iconst 0, 1) := by decide +kernel
theorem dX8_witness_117 : decode cX8_witness 117 = .ok (.putfield 94, 3) := by decide +kernel
theorem dX8_witness_120 : decode cX8_witness 120 = .ok (.aload_n 0, 1) := by decide +kernel
theorem dX8_witness_121 : decode cX8_witness 121 = .ok (.invokevirtual 116, 3) := by decide +kernel
theorem dX8_witness_124 : decode cX8_witness 124 = .ok (.ifCond .ne 11, 3) := by decide +kernel
theorem dX8_witness_127 : decode cX8_witness 127 = .ok (.ldc 162, 2) := by decide +kernel
theorem dX8_witness_129 : decode cX8_witness 129 = .ok (.aload_n 0, 1) := by decide +kernel
theorem dX8_witness_130 : decode cX8_witness 130 = .ok (.getfield 113, 3) := by decide +kernel
theorem dX8_witness_133 : decode cX8_witness 133 = .ok (.isub, 1) := by decide +kernel
theorem dX8_witness_134 : decode cX8_witness 134 = .ok (.ireturn, 1) := by decide +kernel
theorem dX8_witness_135 : decode cX8_witness 135 = .ok (.aload_n 0, 1) := by decide +kernel
theorem dX8_witness_136 : decode cX8_witness 136 = .ok (.invokevirtual 178, 3) := by decide +kernel
theorem dX8_witness_139 : decode cX8_witness 139 = .ok (.ifCond .eq 6, 3) := by decide +kernel
theorem dX8_witness_142 : decode cX8_witness 142 = .ok (.ldc 97, 2) := by decide +kernel
theorem dX8_witness_144 : decode cX8_witness 144 = .ok (.ireturn, 1) := by decide +kernel
theorem dX8_witness_145 : decode cX8_witness 145 = .ok (.aload_n 0, 1) := by decide +kernel
theorem dX8_witness_146 : decode cX8_witness 146 = .ok (.invokevirtual 222, 3) := by decide +kernel
theorem dX8_witness_149 : decode cX8_witness 149 = .ok (.ifCond .eq 10, 3) := by decide +kernel
theorem dX8_witness_152 : decode cX8_witness 152 = .ok (.aload_n 0, 1) := by decide +kernel
theorem dX8_witness_153 : decode cX8_witness 153 = .ok (.bipush 6, 2) := by decide +kernel
theorem dX8_witness_155 : decode cX8_witness 155 = .ok (.invokevirtual 77, 3) := by decide +kernel
theorem dX8_witness_158 : decode cX8_witness 158 = .ok (.ireturn, 1) := by decide +kernel
theorem dX8_witness_159 : decode cX8_witness 159 = .ok (.aload_n 0, 1) := by decide +kernel
theorem dX8_witness_160 : decode cX8_witness 160 = .ok (.getfield 42, 3) := by decide +kernel
theorem dX8_witness_163 : decode cX8_witness 163 = .ok (.iconst 0, 1) := by decide +kernel
theorem dX8_witness_164 : decode cX8_witness 164 = .ok (.aload_n 0, 1) := by decide +kernel
theorem dX8_witness_165 : decode cX8_witness 165 = .ok (.getfield 48, 3) := by decide +kernel
theorem dX8_witness_168 : decode cX8_witness 168 = .ok (.invokestatic 214, 3) := by decide +kernel
theorem dX8_witness_171 : decode cX8_witness 171 = .ok (.iconst 1, 1) := by decide +kernel
theorem dX8_witness_172 : decode cX8_witness 172 = .ok (.istore_n 2, 1) := by decide +kernel
theorem dX8_witness_173 : decode cX8_witness 173 = .ok (.iconst 0, 1) := by decide +kernel
theorem dX8_witness_174 : decode cX8_witness 174 = .ok (.istore_n 3, 1) := by decide +kernel
theorem dX8_witness_175 : decode cX8_witness 175 = .ok (.iload_n 3, 1) := by decide +kernel
theorem dX8_witness_176 : decode cX8_witness 176 = .ok (.bipush 30, 2) := by decide +kernel
theorem dX8_witness_178 : decode cX8_witness 178 = .ok (.if_icmp .ge 50, 3) := by decide +kernel
theorem dX8_witness_181 : decode cX8_witness 181 = .ok (.iload_n 2, 1) := by decide +kernel
theorem dX8_witness_182 : decode cX8_witness 182 = .ok (.ifCond .eq 40, 3) := by decide +kernel
theorem dX8_witness_185 : decode cX8_witness 185 = .ok (.aload_n 0, 1) := by decide +kernel
theorem dX8_witness_186 : decode cX8_witness 186 = .ok (.iload_n 3, 1) := by decide +kernel
theorem dX8_witness_187 : decode cX8_witness 187 = .ok (.invokevirtual 175, 3) := by decide +kernel
theorem dX8_witness_190 : decode cX8_witness 190 = .ok (.ifCond .eq 32, 3) := by decide +kernel
theorem dX8_witness_193 : decode cX8_witness 193 = .ok (.aload_n 0, 1) := by decide +kernel
theorem dX8_witness_194 : decode cX8_witness 194 = .ok (.aload_n 0, 1) := by decide +kernel
theorem dX8_witness_195 : decode cX8_witness 195 = .ok (.getfield 25, 3) := by decide +kernel
theorem dX8_witness_198 : decode cX8_witness 198 = .ok (.bipush 12, 2) := by decide +kernel
theorem dX8_witness_200 : decode cX8_witness 200 = .ok (.bipush 10, 2) := by decide +kernel
theorem dX8_witness_202 : decode cX8_witness 202 = .ok (.iload_n 3, 1) := by decide +kernel
theorem dX8_witness_203 : decode cX8_witness 203 = .ok (.imul, 1) := by decide +kernel
theorem dX8_witness_204 : decode cX8_witness 204 = .ok (.iadd, 1) := by decide +kernel
theorem dX8_witness_205 : decode cX8_witness 205 = .ok (.iload_n 1, 1) := by decide +kernel
theorem dX8_witness_206 : decode cX8_witness 206 = .ok (.invokevirtual 233, 3) := by decide +kernel
theorem dX8_witness_209 : decode cX8_witness 209 = .ok (.aload_n 0, 1) := by decide +kernel
theorem dX8_witness_210 : decode cX8_witness 210 = .ok (.aload_n 0, 1) := by decide +kernel
theorem dX8_witness_211 : decode cX8_witness 211 = .ok (.getfield 45, 3) := by decide +kernel
theorem dX8_witness_214 : decode cX8_witness 214 = .ok (.iconst 0, 1) := by decide +kernel
theorem dX8_witness_215 : decode cX8_witness 215 = .ok (.ldc 60, 2) := by decide +kernel
theorem dX8_witness_217 : decode cX8_witness 217 = .ok (.iconst 1, 1) := by decide +kernel
theorem dX8_witness_218 : decode cX8_witness 218 = .ok (.invokevirtual 225, 3) := by decide +kernel
theorem dX8_witness_221 : decode cX8_witness 221 = .ok (.istore_n 2, 1) := by decide +kernel
theorem dX8_witness_222 : decode cX8_witness 222 = .ok (.iinc 3 1, 3) := by decide +kernel
theorem dX8_witness_225 : decode cX8_witness 225 = .ok (.goto (-50), 3) := by decide +kernel
theorem dX8_witness_228 : decode cX8_witness 228 = .ok (.iload_n 2, 1) := by decide +kernel
theorem dX8_witness_229 : decode cX8_witness 229 = .ok (.ifCond .eq 26, 3) := by decide +kernel
theorem dX8_witness_232 : decode cX8_witness 232 = .ok (.aload_n 0, 1) := by decide +kernel
theorem dX8_witness_233 : decode cX8_witness 233 = .ok (.aload_n 0, 1) := by decide +kernel
theorem dX8_witness_234 : decode cX8_witness 234 = .ok (.getfield 42, 3) := by decide +kernel
theorem dX8_witness_237 : decode cX8_witness 237 = .ok (.iconst 0, 1) := by decide +kernel
theorem dX8_witness_238 : decode cX8_witness 238 = .ok (.iload_n 1, 1) := by decide +kernel
theorem dX8_witness_239 : decode cX8_witness 239 = .ok (.invokevirtual 233, 3) := by decide +kernel
theorem dX8_witness_242 : decode cX8_witness 242 = .ok (.aload_n 0, 1) := by decide +kernel
theorem dX8_witness_243 : decode cX8_witness 243 = .ok (.aload_n 0, 1) := by decide +kernel
theorem dX8_witness_244 : decode cX8_witness 244 = .ok (.getfield 45, 3) := by decide +kernel
theorem dX8_witness_247 : decode cX8_witness 247 = .ok (.iconst 0, 1) := by decide +kernel
theorem dX8_witness_248 : decode cX8_witness 248 = .ok (.ldc 60, 2) := by decide +kernel
theorem dX8_witness_250 : decode cX8_witness 250 = .ok (.iconst 1, 1) := by decide +kernel
theorem dX8_witness_251 : decode cX8_witness 251 = .ok (.invokevirtual 225, 3) := by decide +kernel
theorem dX8_witness_254 : decode cX8_witness 254 = .ok (.istore_n 2, 1) := by decide +kernel
theorem dX8_witness_255 : decode cX8_witness 255 = .ok (.iload_n 2, 1) := by decide +kernel
theorem dX8_witness_256 : decode cX8_witness 256 = .ok (.ifCond .eq 30, 3) := by decide +kernel
theorem dX8_witness_259 : decode cX8_witness 259 = .ok (.aload_n 0, 1) := by decide +kernel
theorem dX8_witness_260 : decode cX8_witness 260 = .ok (.invokevirtual 237, 3) := by decide +kernel
theorem dX8_witness_263 : decode cX8_witness 263 = .ok (.lconst 0, 1) := by decide +kernel
theorem dX8_witness_264 : decode cX8_witness 264 = .ok (.lcmp, 1) := by decide +kernel
theorem dX8_witness_265 : decode cX8_witness 265 = .ok (.ifCond .le 21, 3) := by decide +kernel
theorem dX8_witness_268 : decode cX8_witness 268 = .ok (.aload_n 0, 1) := by decide +kernel
theorem dX8_witness_269 : decode cX8_witness 269 = .ok (.iload_n 1, 1) := by decide +kernel
theorem dX8_witness_270 : decode cX8_witness 270 = .ok (.invokevirtual 241, 3) := by decide +kernel
theorem dX8_witness_273 : decode cX8_witness 273 = .ok (.aload_n 0, 1) := by decide +kernel
theorem dX8_witness_274 : decode cX8_witness 274 = .ok (.aload_n 0, 1) := by decide +kernel
theorem dX8_witness_275 : decode cX8_witness 275 = .ok (.getfield 45, 3) := by decide +kernel
theorem dX8_witness_278 : decode cX8_witness 278 = .ok (.iconst 0, 1) := by decide +kernel
theorem dX8_witness_279 : decode cX8_witness 279 = .ok (.ldc 60, 2) := by decide +kernel
theorem dX8_witness_281 : decode cX8_witness 281 = .ok (.iconst 1, 1) := by decide +kernel
theorem dX8_witness_282 : decode cX8_witness 282 = .ok (.invokevirtual 225, 3) := by decide +kernel
theorem dX8_witness_285 : decode cX8_witness 285 = .ok (.istore_n 2, 1) := by decide +kernel
theorem dX8_witness_286 : decode cX8_witness 286 = .ok (.aload_n 0, 1) := by decide +kernel
theorem dX8_witness_287 : decode cX8_witness 287 = .ok (.iload_n 2, 1) := by decide +kernel
theorem dX8_witness_288 : decode cX8_witness 288 = .ok (.ifCond .eq 11, 3) := by decide +kernel
theorem dX8_witness_291 : decode cX8_witness 291 = .ok (.aload_n 0, 1) := by decide +kernel
theorem dX8_witness_292 : decode cX8_witness 292 = .ok (.iconst 5, 1) := by decide +kernel
theorem dX8_witness_293 : decode cX8_witness 293 = .ok (.invokevirtual 191, 3) := by decide +kernel
theorem dX8_witness_296 : decode cX8_witness 296 = .ok (.goto 5, 3) := by decide +kernel
theorem dX8_witness_299 : decode cX8_witness 299 = .ok (.ldc 60, 2) := by decide +kernel
theorem dX8_witness_301 : decode cX8_witness 301 = .ok (.invokevirtual 81, 3) := by decide +kernel
theorem dX8_witness_304 : decode cX8_witness 304 = .ok (.ireturn, 1) := by decide +kernel
theorem dX8_isHolding_0 : decode cX8_isHolding 0 = .ok (.aload_n 0, 1) := by decide +kernel
theorem dX8_isHolding_1 : decode cX8_isHolding 1 = .ok (.getfield 25, 3) := by decide +kernel
theorem dX8_isHolding_4 : decode cX8_isHolding 4 = .ok (.bipush 12, 2) := by decide +kernel
theorem dX8_isHolding_6 : decode cX8_isHolding 6 = .ok (.bipush 10, 2) := by decide +kernel
theorem dX8_isHolding_8 : decode cX8_isHolding 8 = .ok (.iload_n 1, 1) := by decide +kernel
theorem dX8_isHolding_9 : decode cX8_isHolding 9 = .ok (.imul, 1) := by decide +kernel
theorem dX8_isHolding_10 : decode cX8_isHolding 10 = .ok (.iadd, 1) := by decide +kernel
theorem dX8_isHolding_11 : decode cX8_isHolding 11 = .ok (.sipush 255, 3) := by decide +kernel
theorem dX8_isHolding_14 : decode cX8_isHolding 14 = .ok (.iload_n 2, 1) := by decide +kernel
theorem dX8_isHolding_15 : decode cX8_isHolding 15 = .ok (.invokestatic 206, 3) := by decide +kernel
theorem dX8_isHolding_18 : decode cX8_isHolding 18 = .ok (.lconst 0, 1) := by decide +kernel
theorem dX8_isHolding_19 : decode cX8_isHolding 19 = .ok (.lcmp, 1) := by decide +kernel
theorem dX8_isHolding_20 : decode cX8_isHolding 20 = .ok (.ifCond .lt 7, 3) := by decide +kernel
theorem dX8_isHolding_23 : decode cX8_isHolding 23 = .ok (.iconst 1, 1) := by decide +kernel
theorem dX8_isHolding_24 : decode cX8_isHolding 24 = .ok (.goto 4, 3) := by decide +kernel
theorem dX8_isHolding_27 : decode cX8_isHolding 27 = .ok (.iconst 0, 1) := by decide +kernel
theorem dX8_isHolding_28 : decode cX8_isHolding 28 = .ok (.ireturn, 1) := by decide +kernel
theorem dX8_areHolding_0 : decode cX8_areHolding 0 = .ok (.iconst 1, 1) := by decide +kernel
theorem dX8_areHolding_1 : decode cX8_areHolding 1 = .ok (.istore_n 2, 1) := by decide +kernel
theorem dX8_areHolding_2 : decode cX8_areHolding 2 = .ok (.iconst 0, 1) := by decide +kernel
theorem dX8_areHolding_3 : decode cX8_areHolding 3 = .ok (.istore_n 3, 1) := by decide +kernel
theorem dX8_areHolding_4 : decode cX8_areHolding 4 = .ok (.iload_n 3, 1) := by decide +kernel
theorem dX8_areHolding_5 : decode cX8_areHolding 5 = .ok (.bipush 30, 2) := by decide +kernel
theorem dX8_areHolding_7 : decode cX8_areHolding 7 = .ok (.if_icmp .ge 36, 3) := by decide +kernel
theorem dX8_areHolding_10 : decode cX8_areHolding 10 = .ok (.iload_n 2, 1) := by decide +kernel
theorem dX8_areHolding_11 : decode cX8_areHolding 11 = .ok (.ifCond .eq 24, 3) := by decide +kernel
theorem dX8_areHolding_14 : decode cX8_areHolding 14 = .ok (.aload_n 0, 1) := by decide +kernel
theorem dX8_areHolding_15 : decode cX8_areHolding 15 = .ok (.iload_n 3, 1) := by decide +kernel
theorem dX8_areHolding_16 : decode cX8_areHolding 16 = .ok (.invokevirtual 175, 3) := by decide +kernel
theorem dX8_areHolding_19 : decode cX8_areHolding 19 = .ok (.ifCond .eq 12, 3) := by decide +kernel
theorem dX8_areHolding_22 : decode cX8_areHolding 22 = .ok (.aload_n 0, 1) := by decide +kernel
theorem dX8_areHolding_23 : decode cX8_areHolding 23 = .ok (.iload_n 3, 1) := by decide +kernel
theorem dX8_areHolding_24 : decode cX8_areHolding 24 = .ok (.iload_n 1, 1) := by decide +kernel
theorem dX8_areHolding_25 : decode cX8_areHolding 25 = .ok (.invokevirtual 244, 3) := by decide +kernel
theorem dX8_areHolding_28 : decode cX8_areHolding 28 = .ok (.ifCond .eq 7, 3) := by decide +kernel
theorem dX8_areHolding_31 : decode cX8_areHolding 31 = .ok (.iconst 1, 1) := by decide +kernel
theorem dX8_areHolding_32 : decode cX8_areHolding 32 = .ok (.goto 4, 3) := by decide +kernel
theorem dX8_areHolding_35 : decode cX8_areHolding 35 = .ok (.iconst 0, 1) := by decide +kernel
theorem dX8_areHolding_36 : decode cX8_areHolding 36 = .ok (.istore_n 2, 1) := by decide +kernel
theorem dX8_areHolding_37 : decode cX8_areHolding 37 = .ok (.iinc 3 1, 3) := by decide +kernel
theorem dX8_areHolding_40 : decode cX8_areHolding 40 = .ok (.goto (-36), 3) := by decide +kernel
theorem dX8_areHolding_43 : decode cX8_areHolding 43 = .ok (.iload_n 2, 1) := by decide +kernel
theorem dX8_areHolding_44 : decode cX8_areHolding 44 = .ok (.ireturn, 1) := by decide +kernel
theorem dX8_priceOf_0 : decode cX8_priceOf 0 = .ok (.iconst 0, 1) := by decide +kernel
theorem dX8_priceOf_1 : decode cX8_priceOf 1 = .ok (.istore_n 2, 1) := by decide +kernel
theorem dX8_priceOf_2 : decode cX8_priceOf 2 = .ok (.iconst 0, 1) := by decide +kernel
theorem dX8_priceOf_3 : decode cX8_priceOf 3 = .ok (.istore_n 3, 1) := by decide +kernel
theorem dX8_priceOf_4 : decode cX8_priceOf 4 = .ok (.iload_n 3, 1) := by decide +kernel
theorem dX8_priceOf_5 : decode cX8_priceOf 5 = .ok (.bipush 8, 2) := by decide +kernel
theorem dX8_priceOf_7 : decode cX8_priceOf 7 = .ok (.if_icmp .ge 31, 3) := by decide +kernel
theorem dX8_priceOf_10 : decode cX8_priceOf 10 = .ok (.iload_n 2, 1) := by decide +kernel
theorem dX8_priceOf_11 : decode cX8_priceOf 11 = .ok (.iload_n 1, 1) := by decide +kernel
theorem dX8_priceOf_12 : decode cX8_priceOf 12 = .ok (.iload_n 3, 1) := by decide +kernel
theorem dX8_priceOf_13 : decode cX8_priceOf 13 = .ok (.invokestatic 133, 3) := by decide +kernel
theorem dX8_priceOf_16 : decode cX8_priceOf 16 = .ok (.ifCond .eq 13, 3) := by decide +kernel
theorem dX8_priceOf_19 : decode cX8_priceOf 19 = .ok (.aload_n 0, 1) := by decide +kernel
theorem dX8_priceOf_20 : decode cX8_priceOf 20 = .ok (.getfield 25, 3) := by decide +kernel
theorem dX8_priceOf_23 : decode cX8_priceOf 23 = .ok (.iload_n 3, 1) := by decide +kernel
theorem dX8_priceOf_24 : decode cX8_priceOf 24 = .ok (.laload, 1) := by decide +kernel
theorem dX8_priceOf_25 : decode cX8_priceOf 25 = .ok (.l2i, 1) := by decide +kernel
theorem dX8_priceOf_26 : decode cX8_priceOf 26 = .ok (.goto 4, 3) := by decide +kernel
theorem dX8_priceOf_29 : decode cX8_priceOf 29 = .ok (.iconst 0, 1) := by decide +kernel
theorem dX8_priceOf_30 : decode cX8_priceOf 30 = .ok (.iadd, 1) := by decide +kernel
theorem dX8_priceOf_31 : decode cX8_priceOf 31 = .ok (.istore_n 2, 1) := by decide +kernel
theorem dX8_priceOf_32 : decode cX8_priceOf 32 = .ok (.iinc 3 1, 3) := by decide +kernel
theorem dX8_priceOf_35 : decode cX8_priceOf 35 = .ok (.goto (-31), 3) := by decide +kernel
theorem dX8_priceOf_38 : decode cX8_priceOf 38 = .ok (.iload_n 2, 1) := by decide +kernel
theorem dX8_priceOf_39 : decode cX8_priceOf 39 = .ok (.ireturn, 1) := by decide +kernel
theorem dX8_solution_0 : decode cX8_solution 0 = .ok (.aload_n 0, 1) := by decide +kernel
theorem dX8_solution_1 : decode cX8_solution 1 = .ok (.invokevirtual 171, 3) := by decide +kernel
theorem dX8_solution_4 : decode cX8_solution 4 = .ok (.ifCond .ne 6, 3) := by decide +kernel
theorem dX8_solution_7 : decode cX8_solution 7 = .ok (.ldc 174, 2) := by decide +kernel
theorem dX8_solution_9 : decode cX8_solution 9 = .ok (.ireturn, 1) := by decide +kernel
theorem dX8_solution_10 : decode cX8_solution 10 = .ok (.iload_n 1, 1) := by decide +kernel
theorem dX8_solution_11 : decode cX8_solution 11 = .ok (.iconst 0, 1) := by decide +kernel
theorem dX8_solution_12 : decode cX8_solution 12 = .ok (.sipush 255, 3) := by decide +kernel
theorem dX8_solution_15 : decode cX8_solution 15 = .ok (.invokestatic 68, 3) := by decide +kernel
theorem dX8_solution_18 : decode cX8_solution 18 = .ok (.ifCond .ne 6, 3) := by decide +kernel
theorem dX8_solution_21 : decode cX8_solution 21 = .ok (.ldc 76, 2) := by decide +kernel
theorem dX8_solution_23 : decode cX8_solution 23 = .ok (.ireturn, 1) := by decide +kernel
theorem dX8_solution_24 : decode cX8_solution 24 = .ok (.aload_n 0, 1) := by decide +kernel
theorem dX8_solution_25 : decode cX8_solution 25 = .ok (.invokevirtual 237, 3) := by decide +kernel
theorem dX8_solution_28 : decode cX8_solution 28 = .ok (.lconst 0, 1) := by decide +kernel
theorem dX8_solution_29 : decode cX8_solution 29 = .ok (.lcmp, 1) := by decide +kernel
theorem dX8_solution_30 : decode cX8_solution 30 = .ok (.ifCond .le 7, 3) := by decide +kernel
theorem dX8_solution_33 : decode cX8_solution 33 = .ok (.iconst 1, 1) := by decide +kernel
theorem dX8_solution_34 : decode cX8_solution 34 = .ok (.goto 4, 3) := by decide +kernel
theorem dX8_solution_37 : decode cX8_solution 37 = .ok (.iconst 0, 1) := by decide +kernel
theorem dX8_solution_38 : decode cX8_solution 38 = .ok (.istore_n 2, 1) := by decide +kernel
theorem dX8_solution_39 : decode cX8_solution 39 = .ok (.iload_n 2, 1) := by decide +kernel
theorem dX8_solution_40 : decode cX8_solution 40 = .ok (.ifCond .eq 13, 3) := by decide +kernel
theorem dX8_solution_43 : decode cX8_solution 43 = .ok (.aload_n 0, 1) := by decide +kernel
theorem dX8_solution_44 : decode cX8_solution 44 = .ok (.invokevirtual 178, 3) := by decide +kernel
theorem dX8_solution_47 : decode cX8_solution 47 = .ok (.ifCond .eq 6, 3) := by decide +kernel
theorem dX8_solution_50 : decode cX8_solution 50 = .ok (.ldc 97, 2) := by decide +kernel
theorem dX8_solution_52 : decode cX8_solution 52 = .ok (.ireturn, 1) := by decide +kernel
theorem dX8_solution_53 : decode cX8_solution 53 = .ok (.aload_n 0, 1) := by decide +kernel
theorem dX8_solution_54 : decode cX8_solution 54 = .ok (.invokevirtual 222, 3) := by decide +kernel
theorem dX8_solution_57 : decode cX8_solution 57 = .ok (.ifCond .eq 10, 3) := by decide +kernel
theorem dX8_solution_60 : decode cX8_solution 60 = .ok (.aload_n 0, 1) := by decide +kernel
theorem dX8_solution_61 : decode cX8_solution 61 = .ok (.bipush 6, 2) := by decide +kernel
theorem dX8_solution_63 : decode cX8_solution 63 = .ok (.invokevirtual 77, 3) := by decide +kernel
theorem dX8_solution_66 : decode cX8_solution 66 = .ok (.ireturn, 1) := by decide +kernel
theorem dX8_solution_67 : decode cX8_solution 67 = .ok (.aload_n 0, 1) := by decide +kernel
theorem dX8_solution_68 : decode cX8_solution 68 = .ok (.iload_n 1, 1) := by decide +kernel
theorem dX8_solution_69 : decode cX8_solution 69 = .ok (.invokevirtual 247, 3) := by decide +kernel
theorem dX8_solution_72 : decode cX8_solution 72 = .ok (.ifCond .ne 10, 3) := by decide +kernel
theorem dX8_solution_75 : decode cX8_solution 75 = .ok (.aload_n 0, 1) := by decide +kernel
theorem dX8_solution_76 : decode cX8_solution 76 = .ok (.ldc 60, 2) := by decide +kernel
theorem dX8_solution_78 : decode cX8_solution 78 = .ok (.invokevirtual 81, 3) := by decide +kernel
theorem dX8_solution_81 : decode cX8_solution 81 = .ok (.ireturn, 1) := by decide +kernel
theorem dX8_solution_82 : decode cX8_solution 82 = .ok (.aload_n 0, 1) := by decide +kernel
theorem dX8_solution_83 : decode cX8_solution 83 = .ok (.iload_n 1, 1) := by decide +kernel
theorem dX8_solution_84 : decode cX8_solution 84 = .ok (.invokevirtual 250, 3) := by decide +kernel
theorem dX8_solution_87 : decode cX8_solution 87 = .ok (.istore_n 3, 1) := by decide +kernel
theorem dX8_solution_88 : decode cX8_solution 88 = .ok (.iload_n 2, 1) := by decide +kernel
theorem dX8_solution_89 : decode cX8_solution 89 = .ok (.ifCond .eq 60, 3) := by decide +kernel
theorem dX8_solution_92 : decode cX8_solution 92 = .ok (.aload_n 0, 1) := by decide +kernel
theorem dX8_solution_93 : decode cX8_solution 93 = .ok (.getfield 42, 3) := by decide +kernel
theorem dX8_solution_96 : decode cX8_solution 96 = .ok (.iconst 1, 1) := by decide +kernel
theorem dX8_solution_97 : decode cX8_solution 97 = .ok (.aload_n 0, 1) := by decide +kernel
theorem dX8_solution_98 : decode cX8_solution 98 = .ok (.invokevirtual 237, 3) := by decide +kernel
theorem dX8_solution_101 : decode cX8_solution 101 = .ok (.iload_n 3, 1) := by decide +kernel
theorem dX8_solution_102 : decode cX8_solution 102 = .ok (.i2l, 1) := by decide +kernel
theorem dX8_solution_103 : decode cX8_solution 103 = .ok (.lsub, 1) := by decide +kernel
theorem dX8_solution_104 : decode cX8_solution 104 = .ok (.lconst 1, 1) := by decide +kernel
theorem dX8_solution_105 : decode cX8_solution 105 = .ok (.ladd, 1) := by decide +kernel
theorem dX8_solution_106 : decode cX8_solution 106 = .ok (.lastore, 1) := by decide +kernel
theorem dX8_solution_107 : decode cX8_solution 107 = .ok (.iconst 0, 1) := by decide +kernel
theorem dX8_solution_108 : decode cX8_solution 108 = .ok (.istore 4, 2) := by decide +kernel
theorem dX8_solution_110 : decode cX8_solution 110 = .ok (.iload 4, 2) := by decide +kernel
theorem dX8_solution_112 : decode cX8_solution 112 = .ok (.bipush 8, 2) := by decide +kernel
theorem dX8_solution_114 : decode cX8_solution 114 = .ok (.if_icmp .ge 26, 3) := by decide +kernel
theorem dX8_solution_117 : decode cX8_solution 117 = .ok (.aload_n 0, 1) := by decide +kernel
theorem dX8_solution_118 : decode cX8_solution 118 = .ok (.getfield 42, 3) := by decide +kernel
theorem dX8_solution_121 : decode cX8_solution 121 = .ok (.iconst 2, 1) := by decide +kernel
theorem dX8_solution_122 : decode cX8_solution 122 = .ok (.iload 4, 2) := by decide +kernel
theorem dX8_solution_124 : decode cX8_solution 124 = .ok (.iadd, 1) := by decide +kernel
theorem dX8_solution_125 : decode cX8_solution 125 = .ok (.aload_n 0, 1) := by decide +kernel
theorem dX8_solution_126 : decode cX8_solution 126 = .ok (.getfield 25, 3) := by decide +kernel
theorem dX8_solution_129 : decode cX8_solution 129 = .ok (.iload 4, 2) := by decide +kernel
theorem dX8_solution_131 : decode cX8_solution 131 = .ok (.laload, 1) := by decide +kernel
theorem dX8_solution_132 : decode cX8_solution 132 = .ok (.lneg, 1) := by decide +kernel
theorem dX8_solution_133 : decode cX8_solution 133 = .ok (.lastore, 1) := by decide +kernel
theorem dX8_solution_134 : decode cX8_solution 134 = .ok (.iinc 4 1, 3) := by decide +kernel
theorem dX8_solution_137 : decode cX8_solution 137 = .ok (.goto (-27), 3) := by decide +kernel
theorem dX8_solution_140 : decode cX8_solution 140 = .ok (.aload_n 0, 1) := by decide +kernel
theorem dX8_solution_141 : decode cX8_solution 141 = .ok (.iconst 3, 1) := by decide +kernel
theorem dX8_solution_142 : decode cX8_solution 142 = .ok (.invokevirtual 191, 3) := by decide +kernel
theorem dX8_solution_145 : decode cX8_solution 145 = .ok (.pop, 1) := by decide +kernel
theorem dX8_solution_146 : decode cX8_solution 146 = .ok (.goto 7, 3) := by decide +kernel
theorem dX8_solution_149 : decode cX8_solution 149 = .ok (.aload_n 0, 1) := by decide +kernel
theorem dX8_solution_150 : decode cX8_solution 150 = .ok (.invokevirtual 168, 3) := by decide +kernel
theorem dX8_solution_153 : decode cX8_solution 153 = .ok (.aload_n 0, 1) := by decide +kernel
theorem dX8_solution_154 : decode cX8_solution 154 = .ok (.getfield 25, 3) := by decide +kernel
theorem dX8_solution_157 : decode cX8_solution 157 = .ok (.bipush 8, 2) := by decide +kernel
theorem dX8_solution_159 : decode cX8_solution 159 = .ok (.iload_n 3, 1) := by decide +kernel
theorem dX8_solution_160 : decode cX8_solution 160 = .ok (.i2l, 1) := by decide +kernel
theorem dX8_solution_161 : decode cX8_solution 161 = .ok (.lastore, 1) := by decide +kernel
theorem dX8_solution_162 : decode cX8_solution 162 = .ok (.aload_n 0, 1) := by decide +kernel
theorem dX8_solution_163 : decode cX8_solution 163 = .ok (.iload_n 3, 1) := by decide +kernel
theorem dX8_solution_164 : decode cX8_solution 164 = .ok (.invokevirtual 81, 3) := by decide +kernel
theorem dX8_solution_167 : decode cX8_solution 167 = .ok (.ireturn, 1) := by decide +kernel
theorem dX8_remove_0 : decode cX8_remove 0 = .ok (.aload_n 0, 1) := by decide +kernel
theorem dX8_remove_1 : decode cX8_remove 1 = .ok (.invokevirtual 171, 3) := by decide +kernel
theorem dX8_remove_4 : decode cX8_remove 4 = .ok (.ifCond .ne 6, 3) := by decide +kernel
theorem dX8_remove_7 : decode cX8_remove 7 = .ok (.ldc 174, 2) := by decide +kernel
theorem dX8_remove_9 : decode cX8_remove 9 = .ok (.ireturn, 1) := by decide +kernel
theorem dX8_remove_10 : decode cX8_remove 10 = .ok (.aload_n 0, 1) := by decide +kernel
theorem dX8_remove_11 : decode cX8_remove 11 = .ok (.iload_n 1, 1) := by decide +kernel
theorem dX8_remove_12 : decode cX8_remove 12 = .ok (.invokevirtual 175, 3) := by decide +kernel
theorem dX8_remove_15 : decode cX8_remove 15 = .ok (.ifCond .ne 6, 3) := by decide +kernel
theorem dX8_remove_18 : decode cX8_remove 18 = .ok (.ldc 76, 2) := by decide +kernel
theorem dX8_remove_20 : decode cX8_remove 20 = .ok (.ireturn, 1) := by decide +kernel
theorem dX8_remove_21 : decode cX8_remove 21 = .ok (.aload_n 0, 1) := by decide +kernel
theorem dX8_remove_22 : decode cX8_remove 22 = .ok (.getfield 25, 3) := by decide +kernel
theorem dX8_remove_25 : decode cX8_remove 25 = .ok (.bipush 12, 2) := by decide +kernel
theorem dX8_remove_27 : decode cX8_remove 27 = .ok (.bipush 10, 2) := by decide +kernel
theorem dX8_remove_29 : decode cX8_remove 29 = .ok (.iload_n 1, 1) := by decide +kernel
theorem dX8_remove_30 : decode cX8_remove 30 = .ok (.imul, 1) := by decide +kernel
theorem dX8_remove_31 : decode cX8_remove 31 = .ok (.iadd, 1) := by decide +kernel
theorem dX8_remove_32 : decode cX8_remove 32 = .ok (.laload, 1) := by decide +kernel
theorem dX8_remove_33 : decode cX8_remove 33 = .ok (.ldc2_w 253, 3) := by decide +kernel
theorem dX8_remove_36 : decode cX8_remove 36 = .ok (.lcmp, 1) := by decide +kernel
theorem dX8_remove_37 : decode cX8_remove 37 = .ok (.ifCond .ge 44, 3) := by decide +kernel
theorem dX8_remove_40 : decode cX8_remove 40 = .ok (.aload_n 0, 1) := by decide +kernel
theorem dX8_remove_41 : decode cX8_remove 41 = .ok (.invokevirtual 222, 3) := by decide +kernel
theorem dX8_remove_44 : decode cX8_remove 44 = .ok (.ifCond .eq 10, 3) := by decide +kernel
theorem dX8_remove_47 : decode cX8_remove 47 = .ok (.aload_n 0, 1) := by decide +kernel
theorem dX8_remove_48 : decode cX8_remove 48 = .ok (.bipush 6, 2) := by decide +kernel
theorem dX8_remove_50 : decode cX8_remove 50 = .ok (.invokevirtual 77, 3) := by decide +kernel
theorem dX8_remove_53 : decode cX8_remove 53 = .ok (.ireturn, 1) := by decide +kernel
theorem dX8_remove_54 : decode cX8_remove 54 = .ok (.aload_n 0, 1) := by decide +kernel
theorem dX8_remove_55 : decode cX8_remove 55 = .ok (.aload_n 0, 1) := by decide +kernel
theorem dX8_remove_56 : decode cX8_remove 56 = .ok (.getfield 25, 3) := by decide +kernel
theorem dX8_remove_59 : decode cX8_remove 59 = .ok (.bipush 12, 2) := by decide +kernel
theorem dX8_remove_61 : decode cX8_remove 61 = .ok (.bipush 10, 2) := by decide +kernel
theorem dX8_remove_63 : decode cX8_remove 63 = .ok (.iload_n 1, 1) := by decide +kernel
theorem dX8_remove_64 : decode cX8_remove 64 = .ok (.imul, 1) := by decide +kernel
theorem dX8_remove_65 : decode cX8_remove 65 = .ok (.iadd, 1) := by decide +kernel
theorem dX8_remove_66 : decode cX8_remove 66 = .ok (.iload_n 1, 1) := by decide +kernel
theorem dX8_remove_67 : decode cX8_remove 67 = .ok (.iconst 0, 1) := by decide +kernel
theorem dX8_remove_68 : decode cX8_remove 68 = .ok (.invokevirtual 225, 3) := by decide +kernel
theorem dX8_remove_71 : decode cX8_remove 71 = .ok (.ifCond .ne 10, 3) := by decide +kernel
theorem dX8_remove_74 : decode cX8_remove 74 = .ok (.aload_n 0, 1) := by decide +kernel
theorem dX8_remove_75 : decode cX8_remove 75 = .ok (.ldc 60, 2) := by decide +kernel
theorem dX8_remove_77 : decode cX8_remove 77 = .ok (.invokevirtual 81, 3) := by decide +kernel
theorem dX8_remove_80 : decode cX8_remove 80 = .ok (.ireturn, 1) := by decide +kernel
theorem dX8_remove_81 : decode cX8_remove 81 = .ok (.aload_n 0, 1) := by decide +kernel
theorem dX8_remove_82 : decode cX8_remove 82 = .ok (.invokevirtual 168, 3) := by decide +kernel
theorem dX8_remove_85 : decode cX8_remove 85 = .ok (.aload_n 0, 1) := by decide +kernel
theorem dX8_remove_86 : decode cX8_remove 86 = .ok (.getfield 25, 3) := by decide +kernel
theorem dX8_remove_89 : decode cX8_remove 89 = .ok (.bipush 10, 2) := by decide +kernel
theorem dX8_remove_91 : decode cX8_remove 91 = .ok (.dup2, 1) := by decide +kernel
theorem dX8_remove_92 : decode cX8_remove 92 = .ok (.laload, 1) := by decide +kernel
theorem dX8_remove_93 : decode cX8_remove 93 = .ok (.lconst 1, 1) := by decide +kernel
theorem dX8_remove_94 : decode cX8_remove 94 = .ok (.iload_n 1, 1) := by decide +kernel
theorem dX8_remove_95 : decode cX8_remove 95 = .ok (.lshl, 1) := by decide +kernel
theorem dX8_remove_96 : decode cX8_remove 96 = .ok (.ldc2_w 194, 3) := by decide +kernel
theorem dX8_remove_99 : decode cX8_remove 99 = .ok (.lxor, 1) := by decide +kernel
theorem dX8_remove_100 : decode cX8_remove 100 = .ok (.land, 1) := by decide +kernel
theorem dX8_remove_101 : decode cX8_remove 101 = .ok (.lastore, 1) := by decide +kernel
theorem dX8_remove_102 : decode cX8_remove 102 = .ok (.aload_n 0, 1) := by decide +kernel
theorem dX8_remove_103 : decode cX8_remove 103 = .ok (.aload_n 0, 1) := by decide +kernel
theorem dX8_remove_104 : decode cX8_remove 104 = .ok (.getfield 25, 3) := by decide +kernel
theorem dX8_remove_107 : decode cX8_remove 107 = .ok (.bipush 10, 2) := by decide +kernel
theorem dX8_remove_109 : decode cX8_remove 109 = .ok (.laload, 1) := by decide +kernel
theorem dX8_remove_110 : decode cX8_remove 110 = .ok (.l2i, 1) := by decide +kernel
theorem dX8_remove_111 : decode cX8_remove 111 = .ok (.invokestatic 255, 3) := by decide +kernel
theorem dX8_remove_114 : decode cX8_remove 114 = .ok (.invokevirtual 81, 3) := by decide +kernel
theorem dX8_remove_117 : decode cX8_remove 117 = .ok (.ireturn, 1) := by decide +kernel
theorem dX8_undo_0 : decode cX8_undo 0 = .ok (.aload_n 0, 1) := by decide +kernel
theorem dX8_undo_1 : decode cX8_undo 1 = .ok (.getfield 163, 3) := by decide +kernel
theorem dX8_undo_4 : decode cX8_undo 4 = .ok (.ifCond .ne 6, 3) := by decide +kernel
theorem dX8_undo_7 : decode cX8_undo 7 = .ok (.ldc 174, 2) := by decide +kernel
theorem dX8_undo_9 : decode cX8_undo 9 = .ok (.ireturn, 1) := by decide +kernel
theorem dX8_undo_10 : decode cX8_undo 10 = .ok (.aload_n 0, 1) := by decide +kernel
theorem dX8_undo_11 : decode cX8_undo 11 = .ok (.dup, 1) := by decide +kernel
theorem dX8_undo_12 : decode cX8_undo 12 = .ok (.getfield 163, 3) := by decide +kernel
theorem dX8_undo_15 : decode cX8_undo 15 = .ok (.iconst 1, 1) := by decide +kernel
theorem dX8_undo_16 : decode cX8_undo 16 = .ok (.isub, 1) := by decide +kernel
theorem dX8_undo_17 : decode cX8_undo 17 = .ok (.putfield 163, 3) := by decide +kernel
theorem dX8_undo_20 : decode cX8_undo 20 = .ok (.aload_n 0, 1) := by decide +kernel
theorem dX8_undo_21 : decode cX8_undo 21 = .ok (.getfield 32, 3) := by decide +kernel
theorem dX8_undo_24 : decode cX8_undo 24 = .ok (.sipush 312, 3) := by decide +kernel
theorem dX8_undo_27 : decode cX8_undo 27 = .ok (.aload_n 0, 1) := by decide +kernel
theorem dX8_undo_28 : decode cX8_undo 28 = .ok (.getfield 163, 3) := by decide +kernel
theorem dX8_undo_31 : decode cX8_undo 31 = .ok (.imul, 1) := by decide +kernel
theorem dX8_undo_32 : decode cX8_undo 32 = .ok (.aload_n 0, 1) := by decide +kernel
theorem dX8_undo_33 : decode cX8_undo 33 = .ok (.getfield 25, 3) := by decide +kernel
theorem dX8_undo_36 : decode cX8_undo 36 = .ok (.iconst 0, 1) := by decide +kernel
theorem dX8_undo_37 : decode cX8_undo 37 = .ok (.sipush 312, 3) := by decide +kernel
theorem dX8_undo_40 : decode cX8_undo 40 = .ok (.invokestatic 154, 3) := by decide +kernel
theorem dX8_undo_43 : decode cX8_undo 43 = .ok (.aload_n 0, 1) := by decide +kernel
theorem dX8_undo_44 : decode cX8_undo 44 = .ok (.getfield 163, 3) := by decide +kernel
theorem dX8_undo_47 : decode cX8_undo 47 = .ok (.ireturn, 1) := by decide +kernel
theorem dX8_degree_0 : decode cX8_degree 0 = .ok (.aload_n 0, 1) := by decide +kernel
theorem dX8_degree_1 : decode cX8_degree 1 = .ok (.iload_n 1, 1) := by decide +kernel
theorem dX8_degree_2 : decode cX8_degree 2 = .ok (.invokevirtual 175, 3) := by decide +kernel
theorem dX8_degree_5 : decode cX8_degree 5 = .ok (.ifCond .eq 20, 3) := by decide +kernel
theorem dX8_degree_8 : decode cX8_degree 8 = .ok (.aload_n 0, 1) := by decide +kernel
theorem dX8_degree_9 : decode cX8_degree 9 = .ok (.getfield 25, 3) := by decide +kernel
theorem dX8_degree_12 : decode cX8_degree 12 = .ok (.bipush 12, 2) := by decide +kernel
theorem dX8_degree_14 : decode cX8_degree 14 = .ok (.bipush 10, 2) := by decide +kernel
theorem dX8_degree_16 : decode cX8_degree 16 = .ok (.iload_n 1, 1) := by decide +kernel
theorem dX8_degree_17 : decode cX8_degree 17 = .ok (.imul, 1) := by decide +kernel
theorem dX8_degree_18 : decode cX8_degree 18 = .ok (.iadd, 1) := by decide +kernel
theorem dX8_degree_19 : decode cX8_degree 19 = .ok (.iconst 1, 1) := by decide +kernel
theorem dX8_degree_20 : decode cX8_degree 20 = .ok (.iadd, 1) := by decide +kernel
theorem dX8_degree_21 : decode cX8_degree 21 = .ok (.laload, 1) := by decide +kernel
theorem dX8_degree_22 : decode cX8_degree 22 = .ok (.goto 6, 3) := by decide +kernel
theorem dX8_degree_25 : decode cX8_degree 25 = .ok (.ldc2_w 258, 3) := by decide +kernel
theorem dX8_degree_28 : decode cX8_degree 28 = .ok (.lreturn, 1) := by decide +kernel
theorem dX8_coefficient_0 : decode cX8_coefficient 0 = .ok (.aload_n 0, 1) := by decide +kernel
theorem dX8_coefficient_1 : decode cX8_coefficient 1 = .ok (.iload_n 1, 1) := by decide +kernel
theorem dX8_coefficient_2 : decode cX8_coefficient 2 = .ok (.invokevirtual 175, 3) := by decide +kernel
theorem dX8_coefficient_5 : decode cX8_coefficient 5 = .ok (.ifCond .eq 32, 3) := by decide +kernel
theorem dX8_coefficient_8 : decode cX8_coefficient 8 = .ok (.iload_n 2, 1) := by decide +kernel
theorem dX8_coefficient_9 : decode cX8_coefficient 9 = .ok (.iconst 0, 1) := by decide +kernel
theorem dX8_coefficient_10 : decode cX8_coefficient 10 = .ok (.bipush 7, 2) := by decide +kernel
theorem dX8_coefficient_12 : decode cX8_coefficient 12 = .ok (.invokestatic 68, 3) := by decide +kernel
theorem dX8_coefficient_15 : decode cX8_coefficient 15 = .ok (.ifCond .eq 22, 3) := by decide +kernel
theorem dX8_coefficient_18 : decode cX8_coefficient 18 = .ok (.aload_n 0, 1) := by decide +kernel
theorem dX8_coefficient_19 : decode cX8_coefficient 19 = .ok (.getfield 25, 3) := by decide +kernel
theorem dX8_coefficient_22 : decode cX8_coefficient 22 = .ok (.bipush 12, 2) := by decide +kernel
theorem dX8_coefficient_24 : decode cX8_coefficient 24 = .ok (.bipush 10, 2) := by decide +kernel
theorem dX8_coefficient_26 : decode cX8_coefficient 26 = .ok (.iload_n 1, 1) := by decide +kernel
theorem dX8_coefficient_27 : decode cX8_coefficient 27 = .ok (.imul, 1) := by decide +kernel
theorem dX8_coefficient_28 : decode cX8_coefficient 28 = .ok (.iadd, 1) := by decide +kernel
theorem dX8_coefficient_29 : decode cX8_coefficient 29 = .ok (.iconst 2, 1) := by decide +kernel
theorem dX8_coefficient_30 : decode cX8_coefficient 30 = .ok (.iadd, 1) := by decide +kernel
theorem dX8_coefficient_31 : decode cX8_coefficient 31 = .ok (.iload_n 2, 1) := by decide +kernel
theorem dX8_coefficient_32 : decode cX8_coefficient 32 = .ok (.iadd, 1) := by decide +kernel
theorem dX8_coefficient_33 : decode cX8_coefficient 33 = .ok (.laload, 1) := by decide +kernel
theorem dX8_coefficient_34 : decode cX8_coefficient 34 = .ok (.goto 6, 3) := by decide +kernel
theorem dX8_coefficient_37 : decode cX8_coefficient 37 = .ok (.ldc2_w 258, 3) := by decide +kernel
theorem dX8_coefficient_40 : decode cX8_coefficient 40 = .ok (.lreturn, 1) := by decide +kernel
theorem dX8_sum_0 : decode cX8_sum 0 = .ok (.aload_n 0, 1) := by decide +kernel
theorem dX8_sum_1 : decode cX8_sum 1 = .ok (.iload_n 1, 1) := by decide +kernel
theorem dX8_sum_2 : decode cX8_sum 2 = .ok (.invokevirtual 175, 3) := by decide +kernel
theorem dX8_sum_5 : decode cX8_sum 5 = .ok (.ifCond .ne 7, 3) := by decide +kernel
theorem dX8_sum_8 : decode cX8_sum 8 = .ok (.ldc2_w 258, 3) := by decide +kernel
theorem dX8_sum_11 : decode cX8_sum 11 = .ok (.lreturn, 1) := by decide +kernel
theorem dX8_sum_12 : decode cX8_sum 12 = .ok (.aload_n 0, 1) := by decide +kernel
theorem dX8_sum_13 : decode cX8_sum 13 = .ok (.getfield 25, 3) := by decide +kernel
theorem dX8_sum_16 : decode cX8_sum 16 = .ok (.bipush 12, 2) := by decide +kernel
theorem dX8_sum_18 : decode cX8_sum 18 = .ok (.bipush 10, 2) := by decide +kernel
theorem dX8_sum_20 : decode cX8_sum 20 = .ok (.iload_n 1, 1) := by decide +kernel
theorem dX8_sum_21 : decode cX8_sum 21 = .ok (.imul, 1) := by decide +kernel
theorem dX8_sum_22 : decode cX8_sum 22 = .ok (.iadd, 1) := by decide +kernel
theorem dX8_sum_23 : decode cX8_sum 23 = .ok (.invokestatic 196, 3) := by decide +kernel
theorem dX8_sum_26 : decode cX8_sum 26 = .ok (.lstore_n 2, 1) := by decide +kernel
theorem dX8_sum_27 : decode cX8_sum 27 = .ok (.lload_n 2, 1) := by decide +kernel
theorem dX8_sum_28 : decode cX8_sum 28 = .ok (.lconst 0, 1) := by decide +kernel
theorem dX8_sum_29 : decode cX8_sum 29 = .ok (.lcmp, 1) := by decide +kernel
theorem dX8_sum_30 : decode cX8_sum 30 = .ok (.ifCond .ge 11, 3) := by decide +kernel
theorem dX8_sum_33 : decode cX8_sum 33 = .ok (.aload_n 0, 1) := by decide +kernel
theorem dX8_sum_34 : decode cX8_sum 34 = .ok (.bipush 6, 2) := by decide +kernel
theorem dX8_sum_36 : decode cX8_sum 36 = .ok (.invokevirtual 77, 3) := by decide +kernel
theorem dX8_sum_39 : decode cX8_sum 39 = .ok (.i2l, 1) := by decide +kernel
theorem dX8_sum_40 : decode cX8_sum 40 = .ok (.lreturn, 1) := by decide +kernel
end
section
theorem dX8_sum_41 : decode cX8_sum 41 = .ok (.aload_n 0, 1) := by decide +kernel
theorem dX8_sum_42 : decode cX8_sum 42 = .ok (.iconst 0, 1) := by decide +kernel
theorem dX8_sum_43 : decode cX8_sum 43 = .ok (.putfield 63, 3) := by decide +kernel
theorem dX8_sum_46 : decode cX8_sum 46 = .ok (.lload_n 2, 1) := by decide +kernel
theorem dX8_sum_47 : decode cX8_sum 47 = .ok (.lreturn, 1) := by decide +kernel
theorem dX8_slack_0 : decode cX8_slack 0 = .ok (.aload_n 0, 1) := by decide +kernel
theorem dX8_slack_1 : decode cX8_slack 1 = .ok (.iload_n 1, 1) := by decide +kernel
theorem dX8_slack_2 : decode cX8_slack 2 = .ok (.invokevirtual 175, 3) := by decide +kernel
theorem dX8_slack_5 : decode cX8_slack 5 = .ok (.ifCond .eq 25, 3) := by decide +kernel
theorem dX8_slack_8 : decode cX8_slack 8 = .ok (.iload_n 2, 1) := by decide +kernel
theorem dX8_slack_9 : decode cX8_slack 9 = .ok (.iconst 0, 1) := by decide +kernel
theorem dX8_slack_10 : decode cX8_slack 10 = .ok (.sipush 255, 3) := by decide +kernel
theorem dX8_slack_13 : decode cX8_slack 13 = .ok (.invokestatic 68, 3) := by decide +kernel
theorem dX8_slack_16 : decode cX8_slack 16 = .ok (.ifCond .eq 14, 3) := by decide +kernel
theorem dX8_slack_19 : decode cX8_slack 19 = .ok (.iload_n 3, 1) := by decide +kernel
theorem dX8_slack_20 : decode cX8_slack 20 = .ok (.iconst 0, 1) := by decide +kernel
theorem dX8_slack_21 : decode cX8_slack 21 = .ok (.sipush 255, 3) := by decide +kernel
theorem dX8_slack_24 : decode cX8_slack 24 = .ok (.invokestatic 68, 3) := by decide +kernel
theorem dX8_slack_27 : decode cX8_slack 27 = .ok (.ifCond .ne 7, 3) := by decide +kernel
theorem dX8_slack_30 : decode cX8_slack 30 = .ok (.ldc2_w 258, 3) := by decide +kernel
theorem dX8_slack_33 : decode cX8_slack 33 = .ok (.lreturn, 1) := by decide +kernel
theorem dX8_slack_34 : decode cX8_slack 34 = .ok (.aload_n 0, 1) := by decide +kernel
theorem dX8_slack_35 : decode cX8_slack 35 = .ok (.getfield 25, 3) := by decide +kernel
theorem dX8_slack_38 : decode cX8_slack 38 = .ok (.bipush 12, 2) := by decide +kernel
theorem dX8_slack_40 : decode cX8_slack 40 = .ok (.bipush 10, 2) := by decide +kernel
theorem dX8_slack_42 : decode cX8_slack 42 = .ok (.iload_n 1, 1) := by decide +kernel
theorem dX8_slack_43 : decode cX8_slack 43 = .ok (.imul, 1) := by decide +kernel
theorem dX8_slack_44 : decode cX8_slack 44 = .ok (.iadd, 1) := by decide +kernel
theorem dX8_slack_45 : decode cX8_slack 45 = .ok (.invokestatic 196, 3) := by decide +kernel
theorem dX8_slack_48 : decode cX8_slack 48 = .ok (.lconst 0, 1) := by decide +kernel
theorem dX8_slack_49 : decode cX8_slack 49 = .ok (.lcmp, 1) := by decide +kernel
theorem dX8_slack_50 : decode cX8_slack 50 = .ok (.ifCond .ge 11, 3) := by decide +kernel
theorem dX8_slack_53 : decode cX8_slack 53 = .ok (.aload_n 0, 1) := by decide +kernel
theorem dX8_slack_54 : decode cX8_slack 54 = .ok (.bipush 6, 2) := by decide +kernel
theorem dX8_slack_56 : decode cX8_slack 56 = .ok (.invokevirtual 77, 3) := by decide +kernel
theorem dX8_slack_59 : decode cX8_slack 59 = .ok (.i2l, 1) := by decide +kernel
theorem dX8_slack_60 : decode cX8_slack 60 = .ok (.lreturn, 1) := by decide +kernel
theorem dX8_slack_61 : decode cX8_slack 61 = .ok (.aload_n 0, 1) := by decide +kernel
theorem dX8_slack_62 : decode cX8_slack 62 = .ok (.iconst 0, 1) := by decide +kernel
theorem dX8_slack_63 : decode cX8_slack 63 = .ok (.putfield 63, 3) := by decide +kernel
theorem dX8_slack_66 : decode cX8_slack 66 = .ok (.aload_n 0, 1) := by decide +kernel
theorem dX8_slack_67 : decode cX8_slack 67 = .ok (.getfield 25, 3) := by decide +kernel
theorem dX8_slack_70 : decode cX8_slack 70 = .ok (.bipush 12, 2) := by decide +kernel
theorem dX8_slack_72 : decode cX8_slack 72 = .ok (.bipush 10, 2) := by decide +kernel
theorem dX8_slack_74 : decode cX8_slack 74 = .ok (.iload_n 1, 1) := by decide +kernel
theorem dX8_slack_75 : decode cX8_slack 75 = .ok (.imul, 1) := by decide +kernel
theorem dX8_slack_76 : decode cX8_slack 76 = .ok (.iadd, 1) := by decide +kernel
theorem dX8_slack_77 : decode cX8_slack 77 = .ok (.iload_n 2, 1) := by decide +kernel
theorem dX8_slack_78 : decode cX8_slack 78 = .ok (.iload_n 3, 1) := by decide +kernel
theorem dX8_slack_79 : decode cX8_slack 79 = .ok (.invokestatic 206, 3) := by decide +kernel
theorem dX8_slack_82 : decode cX8_slack 82 = .ok (.lreturn, 1) := by decide +kernel
theorem dX8_forced_0 : decode cX8_forced 0 = .ok (.aload_n 0, 1) := by decide +kernel
theorem dX8_forced_1 : decode cX8_forced 1 = .ok (.invokevirtual 171, 3) := by decide +kernel
theorem dX8_forced_4 : decode cX8_forced 4 = .ok (.ifCond .ne 6, 3) := by decide +kernel
theorem dX8_forced_7 : decode cX8_forced 7 = .ok (.ldc 174, 2) := by decide +kernel
theorem dX8_forced_9 : decode cX8_forced 9 = .ok (.ireturn, 1) := by decide +kernel
theorem dX8_forced_10 : decode cX8_forced 10 = .ok (.iload_n 1, 1) := by decide +kernel
theorem dX8_forced_11 : decode cX8_forced 11 = .ok (.iconst 0, 1) := by decide +kernel
theorem dX8_forced_12 : decode cX8_forced 12 = .ok (.sipush 255, 3) := by decide +kernel
theorem dX8_forced_15 : decode cX8_forced 15 = .ok (.invokestatic 68, 3) := by decide +kernel
theorem dX8_forced_18 : decode cX8_forced 18 = .ok (.ifCond .eq 23, 3) := by decide +kernel
theorem dX8_forced_21 : decode cX8_forced 21 = .ok (.iload_n 2, 1) := by decide +kernel
theorem dX8_forced_22 : decode cX8_forced 22 = .ok (.iconst 0, 1) := by decide +kernel
theorem dX8_forced_23 : decode cX8_forced 23 = .ok (.sipush 255, 3) := by decide +kernel
theorem dX8_forced_26 : decode cX8_forced 26 = .ok (.invokestatic 68, 3) := by decide +kernel
theorem dX8_forced_29 : decode cX8_forced 29 = .ok (.ifCond .eq 12, 3) := by decide +kernel
theorem dX8_forced_32 : decode cX8_forced 32 = .ok (.iload_n 3, 1) := by decide +kernel
theorem dX8_forced_33 : decode cX8_forced 33 = .ok (.iconst 0, 1) := by decide +kernel
theorem dX8_forced_34 : decode cX8_forced 34 = .ok (.iconst 2, 1) := by decide +kernel
theorem dX8_forced_35 : decode cX8_forced 35 = .ok (.invokestatic 68, 3) := by decide +kernel
theorem dX8_forced_38 : decode cX8_forced 38 = .ok (.ifCond .ne 6, 3) := by decide +kernel
theorem dX8_forced_41 : decode cX8_forced 41 = .ok (.ldc 76, 2) := by decide +kernel
theorem dX8_forced_43 : decode cX8_forced 43 = .ok (.ireturn, 1) := by decide +kernel
theorem dX8_forced_44 : decode cX8_forced 44 = .ok (.aload_n 0, 1) := by decide +kernel
theorem dX8_forced_45 : decode cX8_forced 45 = .ok (.invokevirtual 222, 3) := by decide +kernel
theorem dX8_forced_48 : decode cX8_forced 48 = .ok (.ifCond .eq 10, 3) := by decide +kernel
theorem dX8_forced_51 : decode cX8_forced 51 = .ok (.aload_n 0, 1) := by decide +kernel
theorem dX8_forced_52 : decode cX8_forced 52 = .ok (.bipush 6, 2) := by decide +kernel
theorem dX8_forced_54 : decode cX8_forced 54 = .ok (.invokevirtual 77, 3) := by decide +kernel
theorem dX8_forced_57 : decode cX8_forced 57 = .ok (.ireturn, 1) := by decide +kernel
theorem dX8_forced_58 : decode cX8_forced 58 = .ok (.aload_n 0, 1) := by decide +kernel
theorem dX8_forced_59 : decode cX8_forced 59 = .ok (.iload_n 1, 1) := by decide +kernel
theorem dX8_forced_60 : decode cX8_forced 60 = .ok (.putfield 200, 3) := by decide +kernel
theorem dX8_forced_63 : decode cX8_forced 63 = .ok (.aload_n 0, 1) := by decide +kernel
theorem dX8_forced_64 : decode cX8_forced 64 = .ok (.iload_n 2, 1) := by decide +kernel
theorem dX8_forced_65 : decode cX8_forced 65 = .ok (.iload_n 1, 1) := by decide +kernel
theorem dX8_forced_66 : decode cX8_forced 66 = .ok (.iand, 1) := by decide +kernel
theorem dX8_forced_67 : decode cX8_forced 67 = .ok (.putfield 203, 3) := by decide +kernel
theorem dX8_forced_70 : decode cX8_forced 70 = .ok (.aload_n 0, 1) := by decide +kernel
theorem dX8_forced_71 : decode cX8_forced 71 = .ok (.ldc 60, 2) := by decide +kernel
theorem dX8_forced_73 : decode cX8_forced 73 = .ok (.iconst 0, 1) := by decide +kernel
theorem dX8_forced_74 : decode cX8_forced 74 = .ok (.iconst 0, 1) := by decide +kernel
theorem dX8_forced_75 : decode cX8_forced 75 = .ok (.invokevirtual 218, 3) := by decide +kernel
theorem dX8_forced_78 : decode cX8_forced 78 = .ok (.istore 4, 2) := by decide +kernel
theorem dX8_forced_80 : decode cX8_forced 80 = .ok (.aload_n 0, 1) := by decide +kernel
theorem dX8_forced_81 : decode cX8_forced 81 = .ok (.iload_n 3, 1) := by decide +kernel
theorem dX8_forced_82 : decode cX8_forced 82 = .ok (.ifCond .ne 16, 3) := by decide +kernel
theorem dX8_forced_85 : decode cX8_forced 85 = .ok (.iload 4, 2) := by decide +kernel
theorem dX8_forced_87 : decode cX8_forced 87 = .ok (.ifCond .eq 7, 3) := by decide +kernel
theorem dX8_forced_90 : decode cX8_forced 90 = .ok (.iconst 1, 1) := by decide +kernel
theorem dX8_forced_91 : decode cX8_forced 91 = .ok (.goto 33, 3) := by decide +kernel
theorem dX8_forced_94 : decode cX8_forced 94 = .ok (.iconst 0, 1) := by decide +kernel
theorem dX8_forced_95 : decode cX8_forced 95 = .ok (.goto 29, 3) := by decide +kernel
theorem dX8_forced_98 : decode cX8_forced 98 = .ok (.iload 4, 2) := by decide +kernel
theorem dX8_forced_100 : decode cX8_forced 100 = .ok (.ifCond .eq 8, 3) := by decide +kernel
theorem dX8_forced_103 : decode cX8_forced 103 = .ok (.ldc 60, 2) := by decide +kernel
theorem dX8_forced_105 : decode cX8_forced 105 = .ok (.goto 19, 3) := by decide +kernel
theorem dX8_forced_108 : decode cX8_forced 108 = .ok (.iload_n 3, 1) := by decide +kernel
theorem dX8_forced_109 : decode cX8_forced 109 = .ok (.iconst 1, 1) := by decide +kernel
theorem dX8_forced_110 : decode cX8_forced 110 = .ok (.if_icmp .ne 10, 3) := by decide +kernel
theorem dX8_forced_113 : decode cX8_forced 113 = .ok (.aload_n 0, 1) := by decide +kernel
theorem dX8_forced_114 : decode cX8_forced 114 = .ok (.getfield 200, 3) := by decide +kernel
theorem dX8_forced_117 : decode cX8_forced 117 = .ok (.goto 7, 3) := by decide +kernel
theorem dX8_forced_120 : decode cX8_forced 120 = .ok (.aload_n 0, 1) := by decide +kernel
theorem dX8_forced_121 : decode cX8_forced 121 = .ok (.getfield 203, 3) := by decide +kernel
theorem dX8_forced_124 : decode cX8_forced 124 = .ok (.invokevirtual 81, 3) := by decide +kernel
theorem dX8_forced_127 : decode cX8_forced 127 = .ok (.ireturn, 1) := by decide +kernel
theorem dX8_solutions_0 : decode cX8_solutions 0 = .ok (.aload_n 0, 1) := by decide +kernel
theorem dX8_solutions_1 : decode cX8_solutions 1 = .ok (.invokevirtual 171, 3) := by decide +kernel
theorem dX8_solutions_4 : decode cX8_solutions 4 = .ok (.ifCond .ne 6, 3) := by decide +kernel
theorem dX8_solutions_7 : decode cX8_solutions 7 = .ok (.ldc 174, 2) := by decide +kernel
theorem dX8_solutions_9 : decode cX8_solutions 9 = .ok (.ireturn, 1) := by decide +kernel
theorem dX8_solutions_10 : decode cX8_solutions 10 = .ok (.iload_n 1, 1) := by decide +kernel
theorem dX8_solutions_11 : decode cX8_solutions 11 = .ok (.iconst 0, 1) := by decide +kernel
theorem dX8_solutions_12 : decode cX8_solutions 12 = .ok (.iconst 2, 1) := by decide +kernel
theorem dX8_solutions_13 : decode cX8_solutions 13 = .ok (.invokestatic 68, 3) := by decide +kernel
theorem dX8_solutions_16 : decode cX8_solutions 16 = .ok (.ifCond .ne 6, 3) := by decide +kernel
theorem dX8_solutions_19 : decode cX8_solutions 19 = .ok (.ldc 76, 2) := by decide +kernel
theorem dX8_solutions_21 : decode cX8_solutions 21 = .ok (.ireturn, 1) := by decide +kernel
theorem dX8_solutions_22 : decode cX8_solutions 22 = .ok (.aload_n 0, 1) := by decide +kernel
theorem dX8_solutions_23 : decode cX8_solutions 23 = .ok (.invokevirtual 222, 3) := by decide +kernel
theorem dX8_solutions_26 : decode cX8_solutions 26 = .ok (.ifCond .eq 10, 3) := by decide +kernel
theorem dX8_solutions_29 : decode cX8_solutions 29 = .ok (.aload_n 0, 1) := by decide +kernel
theorem dX8_solutions_30 : decode cX8_solutions 30 = .ok (.bipush 6, 2) := by decide +kernel
theorem dX8_solutions_32 : decode cX8_solutions 32 = .ok (.invokevirtual 77, 3) := by decide +kernel
theorem dX8_solutions_35 : decode cX8_solutions 35 = .ok (.ireturn, 1) := by decide +kernel
theorem dX8_solutions_36 : decode cX8_solutions 36 = .ok (.iconst 0, 1) := by decide +kernel
theorem dX8_solutions_37 : decode cX8_solutions 37 = .ok (.istore_n 2, 1) := by decide +kernel
theorem dX8_solutions_38 : decode cX8_solutions 38 = .ok (.ldc 60, 2) := by decide +kernel
theorem dX8_solutions_40 : decode cX8_solutions 40 = .ok (.istore_n 3, 1) := by decide +kernel
theorem dX8_solutions_41 : decode cX8_solutions 41 = .ok (.ldc 60, 2) := by decide +kernel
theorem dX8_solutions_43 : decode cX8_solutions 43 = .ok (.istore 4, 2) := by decide +kernel
theorem dX8_solutions_45 : decode cX8_solutions 45 = .ok (.iconst 0, 1) := by decide +kernel
theorem dX8_solutions_46 : decode cX8_solutions 46 = .ok (.istore 5, 2) := by decide +kernel
theorem dX8_solutions_48 : decode cX8_solutions 48 = .ok (.iload 5, 2) := by decide +kernel
theorem dX8_solutions_50 : decode cX8_solutions 50 = .ok (.sipush 256, 3) := by decide +kernel
theorem dX8_solutions_53 : decode cX8_solutions 53 = .ok (.if_icmp .ge 65, 3) := by decide +kernel
theorem dX8_solutions_56 : decode cX8_solutions 56 = .ok (.aload_n 0, 1) := by decide +kernel
theorem dX8_solutions_57 : decode cX8_solutions 57 = .ok (.iload 5, 2) := by decide +kernel
theorem dX8_solutions_59 : decode cX8_solutions 59 = .ok (.invokevirtual 247, 3) := by decide +kernel
theorem dX8_solutions_62 : decode cX8_solutions 62 = .ok (.ifCond .eq 50, 3) := by decide +kernel
theorem dX8_solutions_65 : decode cX8_solutions 65 = .ok (.aload_n 0, 1) := by decide +kernel
theorem dX8_solutions_66 : decode cX8_solutions 66 = .ok (.iload 5, 2) := by decide +kernel
theorem dX8_solutions_68 : decode cX8_solutions 68 = .ok (.invokevirtual 250, 3) := by decide +kernel
theorem dX8_solutions_71 : decode cX8_solutions 71 = .ok (.istore 6, 2) := by decide +kernel
theorem dX8_solutions_73 : decode cX8_solutions 73 = .ok (.iload_n 2, 1) := by decide +kernel
theorem dX8_solutions_74 : decode cX8_solutions 74 = .ok (.ifCond .eq 9, 3) := by decide +kernel
theorem dX8_solutions_77 : decode cX8_solutions 77 = .ok (.iload 6, 2) := by decide +kernel
theorem dX8_solutions_79 : decode cX8_solutions 79 = .ok (.iload_n 3, 1) := by decide +kernel
theorem dX8_solutions_80 : decode cX8_solutions 80 = .ok (.if_icmp .ge 8, 3) := by decide +kernel
theorem dX8_solutions_83 : decode cX8_solutions 83 = .ok (.iload 5, 2) := by decide +kernel
theorem dX8_solutions_85 : decode cX8_solutions 85 = .ok (.goto 5, 3) := by decide +kernel
theorem dX8_solutions_88 : decode cX8_solutions 88 = .ok (.iload 4, 2) := by decide +kernel
theorem dX8_solutions_90 : decode cX8_solutions 90 = .ok (.istore 4, 2) := by decide +kernel
theorem dX8_solutions_92 : decode cX8_solutions 92 = .ok (.iload_n 2, 1) := by decide +kernel
theorem dX8_solutions_93 : decode cX8_solutions 93 = .ok (.ifCond .eq 9, 3) := by decide +kernel
theorem dX8_solutions_96 : decode cX8_solutions 96 = .ok (.iload 6, 2) := by decide +kernel
theorem dX8_solutions_98 : decode cX8_solutions 98 = .ok (.iload_n 3, 1) := by decide +kernel
theorem dX8_solutions_99 : decode cX8_solutions 99 = .ok (.if_icmp .ge 8, 3) := by decide +kernel
theorem dX8_solutions_102 : decode cX8_solutions 102 = .ok (.iload 6, 2) := by decide +kernel
theorem dX8_solutions_104 : decode cX8_solutions 104 = .ok (.goto 4, 3) := by decide +kernel
theorem dX8_solutions_107 : decode cX8_solutions 107 = .ok (.iload_n 3, 1) := by decide +kernel
theorem dX8_solutions_108 : decode cX8_solutions 108 = .ok (.istore_n 3, 1) := by decide +kernel
theorem dX8_solutions_109 : decode cX8_solutions 109 = .ok (.iinc 2 1, 3) := by decide +kernel
theorem dX8_solutions_112 : decode cX8_solutions 112 = .ok (.iinc 5 1, 3) := by decide +kernel
theorem dX8_solutions_115 : decode cX8_solutions 115 = .ok (.goto (-67), 3) := by decide +kernel
theorem dX8_solutions_118 : decode cX8_solutions 118 = .ok (.aload_n 0, 1) := by decide +kernel
theorem dX8_solutions_119 : decode cX8_solutions 119 = .ok (.iload_n 1, 1) := by decide +kernel
theorem dX8_solutions_120 : decode cX8_solutions 120 = .ok (.ifCond .ne 7, 3) := by decide +kernel
theorem dX8_solutions_123 : decode cX8_solutions 123 = .ok (.iload_n 2, 1) := by decide +kernel
theorem dX8_solutions_124 : decode cX8_solutions 124 = .ok (.goto 14, 3) := by decide +kernel
theorem dX8_solutions_127 : decode cX8_solutions 127 = .ok (.iload_n 1, 1) := by decide +kernel
theorem dX8_solutions_128 : decode cX8_solutions 128 = .ok (.iconst 1, 1) := by decide +kernel
theorem dX8_solutions_129 : decode cX8_solutions 129 = .ok (.if_icmp .ne 7, 3) := by decide +kernel
theorem dX8_solutions_132 : decode cX8_solutions 132 = .ok (.iload_n 3, 1) := by decide +kernel
theorem dX8_solutions_133 : decode cX8_solutions 133 = .ok (.goto 5, 3) := by decide +kernel
theorem dX8_solutions_136 : decode cX8_solutions 136 = .ok (.iload 4, 2) := by decide +kernel
theorem dX8_solutions_138 : decode cX8_solutions 138 = .ok (.invokevirtual 81, 3) := by decide +kernel
theorem dX8_solutions_141 : decode cX8_solutions 141 = .ok (.ireturn, 1) := by decide +kernel
theorem dX8_holds_0 : decode cX8_holds 0 = .ok (.aload_n 0, 1) := by decide +kernel
theorem dX8_holds_1 : decode cX8_holds 1 = .ok (.iload_n 1, 1) := by decide +kernel
theorem dX8_holds_2 : decode cX8_holds 2 = .ok (.invokevirtual 175, 3) := by decide +kernel
theorem dX8_holds_5 : decode cX8_holds 5 = .ok (.ifCond .ne 6, 3) := by decide +kernel
theorem dX8_holds_8 : decode cX8_holds 8 = .ok (.ldc 76, 2) := by decide +kernel
theorem dX8_holds_10 : decode cX8_holds 10 = .ok (.ireturn, 1) := by decide +kernel
theorem dX8_holds_11 : decode cX8_holds 11 = .ok (.aload_n 0, 1) := by decide +kernel
theorem dX8_holds_12 : decode cX8_holds 12 = .ok (.getfield 25, 3) := by decide +kernel
theorem dX8_holds_15 : decode cX8_holds 15 = .ok (.bipush 12, 2) := by decide +kernel
theorem dX8_holds_17 : decode cX8_holds 17 = .ok (.bipush 10, 2) := by decide +kernel
theorem dX8_holds_19 : decode cX8_holds 19 = .ok (.iload_n 1, 1) := by decide +kernel
theorem dX8_holds_20 : decode cX8_holds 20 = .ok (.imul, 1) := by decide +kernel
theorem dX8_holds_21 : decode cX8_holds 21 = .ok (.iadd, 1) := by decide +kernel
theorem dX8_holds_22 : decode cX8_holds 22 = .ok (.invokestatic 196, 3) := by decide +kernel
theorem dX8_holds_25 : decode cX8_holds 25 = .ok (.lconst 0, 1) := by decide +kernel
theorem dX8_holds_26 : decode cX8_holds 26 = .ok (.lcmp, 1) := by decide +kernel
theorem dX8_holds_27 : decode cX8_holds 27 = .ok (.ifCond .ge 10, 3) := by decide +kernel
theorem dX8_holds_30 : decode cX8_holds 30 = .ok (.aload_n 0, 1) := by decide +kernel
theorem dX8_holds_31 : decode cX8_holds 31 = .ok (.bipush 6, 2) := by decide +kernel
theorem dX8_holds_33 : decode cX8_holds 33 = .ok (.invokevirtual 77, 3) := by decide +kernel
theorem dX8_holds_36 : decode cX8_holds 36 = .ok (.ireturn, 1) := by decide +kernel
theorem dX8_holds_37 : decode cX8_holds 37 = .ok (.iconst 0, 1) := by decide +kernel
theorem dX8_holds_38 : decode cX8_holds 38 = .ok (.istore_n 2, 1) := by decide +kernel
theorem dX8_holds_39 : decode cX8_holds 39 = .ok (.iconst 0, 1) := by decide +kernel
theorem dX8_holds_40 : decode cX8_holds 40 = .ok (.istore_n 3, 1) := by decide +kernel
theorem dX8_holds_41 : decode cX8_holds 41 = .ok (.iload_n 3, 1) := by decide +kernel
theorem dX8_holds_42 : decode cX8_holds 42 = .ok (.sipush 256, 3) := by decide +kernel
theorem dX8_holds_45 : decode cX8_holds 45 = .ok (.if_icmp .ge 26, 3) := by decide +kernel
theorem dX8_holds_48 : decode cX8_holds 48 = .ok (.iload_n 2, 1) := by decide +kernel
theorem dX8_holds_49 : decode cX8_holds 49 = .ok (.aload_n 0, 1) := by decide +kernel
theorem dX8_holds_50 : decode cX8_holds 50 = .ok (.iload_n 1, 1) := by decide +kernel
theorem dX8_holds_51 : decode cX8_holds 51 = .ok (.iload_n 3, 1) := by decide +kernel
theorem dX8_holds_52 : decode cX8_holds 52 = .ok (.invokevirtual 244, 3) := by decide +kernel
theorem dX8_holds_55 : decode cX8_holds 55 = .ok (.ifCond .eq 7, 3) := by decide +kernel
theorem dX8_holds_58 : decode cX8_holds 58 = .ok (.iconst 1, 1) := by decide +kernel
theorem dX8_holds_59 : decode cX8_holds 59 = .ok (.goto 4, 3) := by decide +kernel
theorem dX8_holds_62 : decode cX8_holds 62 = .ok (.iconst 0, 1) := by decide +kernel
theorem dX8_holds_63 : decode cX8_holds 63 = .ok (.iadd, 1) := by decide +kernel
theorem dX8_holds_64 : decode cX8_holds 64 = .ok (.istore_n 2, 1) := by decide +kernel
theorem dX8_holds_65 : decode cX8_holds 65 = .ok (.iinc 3 1, 3) := by decide +kernel
theorem dX8_holds_68 : decode cX8_holds 68 = .ok (.goto (-27), 3) := by decide +kernel
theorem dX8_holds_71 : decode cX8_holds 71 = .ok (.aload_n 0, 1) := by decide +kernel
theorem dX8_holds_72 : decode cX8_holds 72 = .ok (.iload_n 2, 1) := by decide +kernel
theorem dX8_holds_73 : decode cX8_holds 73 = .ok (.invokevirtual 81, 3) := by decide +kernel
theorem dX8_holds_76 : decode cX8_holds 76 = .ok (.ireturn, 1) := by decide +kernel
theorem dX8_follows_0 : decode cX8_follows 0 = .ok (.aload_n 0, 1) := by decide +kernel
theorem dX8_follows_1 : decode cX8_follows 1 = .ok (.iload_n 1, 1) := by decide +kernel
theorem dX8_follows_2 : decode cX8_follows 2 = .ok (.invokevirtual 175, 3) := by decide +kernel
theorem dX8_follows_5 : decode cX8_follows 5 = .ok (.ifCond .ne 6, 3) := by decide +kernel
theorem dX8_follows_8 : decode cX8_follows 8 = .ok (.ldc 76, 2) := by decide +kernel
theorem dX8_follows_10 : decode cX8_follows 10 = .ok (.ireturn, 1) := by decide +kernel
theorem dX8_follows_11 : decode cX8_follows 11 = .ok (.aload_n 0, 1) := by decide +kernel
theorem dX8_follows_12 : decode cX8_follows 12 = .ok (.invokevirtual 222, 3) := by decide +kernel
theorem dX8_follows_15 : decode cX8_follows 15 = .ok (.ifCond .eq 10, 3) := by decide +kernel
theorem dX8_follows_18 : decode cX8_follows 18 = .ok (.aload_n 0, 1) := by decide +kernel
theorem dX8_follows_19 : decode cX8_follows 19 = .ok (.bipush 6, 2) := by decide +kernel
theorem dX8_follows_21 : decode cX8_follows 21 = .ok (.invokevirtual 77, 3) := by decide +kernel
theorem dX8_follows_24 : decode cX8_follows 24 = .ok (.ireturn, 1) := by decide +kernel
theorem dX8_follows_25 : decode cX8_follows 25 = .ok (.aload_n 0, 1) := by decide +kernel
theorem dX8_follows_26 : decode cX8_follows 26 = .ok (.aload_n 0, 1) := by decide +kernel
theorem dX8_follows_27 : decode cX8_follows 27 = .ok (.aload_n 0, 1) := by decide +kernel
theorem dX8_follows_28 : decode cX8_follows 28 = .ok (.getfield 25, 3) := by decide +kernel
theorem dX8_follows_31 : decode cX8_follows 31 = .ok (.bipush 12, 2) := by decide +kernel
theorem dX8_follows_33 : decode cX8_follows 33 = .ok (.bipush 10, 2) := by decide +kernel
theorem dX8_follows_35 : decode cX8_follows 35 = .ok (.iload_n 1, 1) := by decide +kernel
theorem dX8_follows_36 : decode cX8_follows 36 = .ok (.imul, 1) := by decide +kernel
theorem dX8_follows_37 : decode cX8_follows 37 = .ok (.iadd, 1) := by decide +kernel
theorem dX8_follows_38 : decode cX8_follows 38 = .ok (.iload_n 1, 1) := by decide +kernel
theorem dX8_follows_39 : decode cX8_follows 39 = .ok (.iconst 0, 1) := by decide +kernel
theorem dX8_follows_40 : decode cX8_follows 40 = .ok (.invokevirtual 225, 3) := by decide +kernel
theorem dX8_follows_43 : decode cX8_follows 43 = .ok (.ifCond .eq 7, 3) := by decide +kernel
theorem dX8_follows_46 : decode cX8_follows 46 = .ok (.iconst 1, 1) := by decide +kernel
theorem dX8_follows_47 : decode cX8_follows 47 = .ok (.goto 4, 3) := by decide +kernel
theorem dX8_follows_50 : decode cX8_follows 50 = .ok (.iconst 0, 1) := by decide +kernel
theorem dX8_follows_51 : decode cX8_follows 51 = .ok (.invokevirtual 81, 3) := by decide +kernel
theorem dX8_follows_54 : decode cX8_follows 54 = .ok (.ireturn, 1) := by decide +kernel
theorem dX8_verdict_0 : decode cX8_verdict 0 = .ok (.aload_n 0, 1) := by decide +kernel
theorem dX8_verdict_1 : decode cX8_verdict 1 = .ok (.invokevirtual 171, 3) := by decide +kernel
theorem dX8_verdict_4 : decode cX8_verdict 4 = .ok (.ifCond .ne 6, 3) := by decide +kernel
theorem dX8_verdict_7 : decode cX8_verdict 7 = .ok (.ldc 174, 2) := by decide +kernel
theorem dX8_verdict_9 : decode cX8_verdict 9 = .ok (.ireturn, 1) := by decide +kernel
theorem dX8_verdict_10 : decode cX8_verdict 10 = .ok (.aload_n 0, 1) := by decide +kernel
theorem dX8_verdict_11 : decode cX8_verdict 11 = .ok (.invokevirtual 222, 3) := by decide +kernel
theorem dX8_verdict_14 : decode cX8_verdict 14 = .ok (.ifCond .eq 10, 3) := by decide +kernel
theorem dX8_verdict_17 : decode cX8_verdict 17 = .ok (.aload_n 0, 1) := by decide +kernel
theorem dX8_verdict_18 : decode cX8_verdict 18 = .ok (.bipush 6, 2) := by decide +kernel
theorem dX8_verdict_20 : decode cX8_verdict 20 = .ok (.invokevirtual 77, 3) := by decide +kernel
theorem dX8_verdict_23 : decode cX8_verdict 23 = .ok (.ireturn, 1) := by decide +kernel
theorem dX8_verdict_24 : decode cX8_verdict 24 = .ok (.iconst 0, 1) := by decide +kernel
theorem dX8_verdict_25 : decode cX8_verdict 25 = .ok (.istore_n 1, 1) := by decide +kernel
theorem dX8_verdict_26 : decode cX8_verdict 26 = .ok (.iconst 0, 1) := by decide +kernel
theorem dX8_verdict_27 : decode cX8_verdict 27 = .ok (.istore_n 2, 1) := by decide +kernel
theorem dX8_verdict_28 : decode cX8_verdict 28 = .ok (.iload_n 2, 1) := by decide +kernel
theorem dX8_verdict_29 : decode cX8_verdict 29 = .ok (.bipush 30, 2) := by decide +kernel
theorem dX8_verdict_31 : decode cX8_verdict 31 = .ok (.if_icmp .ge 59, 3) := by decide +kernel
theorem dX8_verdict_34 : decode cX8_verdict 34 = .ok (.iload_n 1, 1) := by decide +kernel
theorem dX8_verdict_35 : decode cX8_verdict 35 = .ok (.ifCond .ne 43, 3) := by decide +kernel
theorem dX8_verdict_38 : decode cX8_verdict 38 = .ok (.aload_n 0, 1) := by decide +kernel
theorem dX8_verdict_39 : decode cX8_verdict 39 = .ok (.iload_n 2, 1) := by decide +kernel
theorem dX8_verdict_40 : decode cX8_verdict 40 = .ok (.invokevirtual 175, 3) := by decide +kernel
theorem dX8_verdict_43 : decode cX8_verdict 43 = .ok (.ifCond .eq 39, 3) := by decide +kernel
theorem dX8_verdict_46 : decode cX8_verdict 46 = .ok (.aload_n 0, 1) := by decide +kernel
theorem dX8_verdict_47 : decode cX8_verdict 47 = .ok (.getfield 25, 3) := by decide +kernel
theorem dX8_verdict_50 : decode cX8_verdict 50 = .ok (.bipush 12, 2) := by decide +kernel
theorem dX8_verdict_52 : decode cX8_verdict 52 = .ok (.bipush 10, 2) := by decide +kernel
theorem dX8_verdict_54 : decode cX8_verdict 54 = .ok (.iload_n 2, 1) := by decide +kernel
theorem dX8_verdict_55 : decode cX8_verdict 55 = .ok (.imul, 1) := by decide +kernel
theorem dX8_verdict_56 : decode cX8_verdict 56 = .ok (.iadd, 1) := by decide +kernel
theorem dX8_verdict_57 : decode cX8_verdict 57 = .ok (.iconst 1, 1) := by decide +kernel
theorem dX8_verdict_58 : decode cX8_verdict 58 = .ok (.iadd, 1) := by decide +kernel
theorem dX8_verdict_59 : decode cX8_verdict 59 = .ok (.laload, 1) := by decide +kernel
theorem dX8_verdict_60 : decode cX8_verdict 60 = .ok (.aload_n 0, 1) := by decide +kernel
theorem dX8_verdict_61 : decode cX8_verdict 61 = .ok (.getfield 25, 3) := by decide +kernel
theorem dX8_verdict_64 : decode cX8_verdict 64 = .ok (.bipush 12, 2) := by decide +kernel
theorem dX8_verdict_66 : decode cX8_verdict 66 = .ok (.bipush 10, 2) := by decide +kernel
theorem dX8_verdict_68 : decode cX8_verdict 68 = .ok (.iload_n 2, 1) := by decide +kernel
theorem dX8_verdict_69 : decode cX8_verdict 69 = .ok (.imul, 1) := by decide +kernel
theorem dX8_verdict_70 : decode cX8_verdict 70 = .ok (.iadd, 1) := by decide +kernel
theorem dX8_verdict_71 : decode cX8_verdict 71 = .ok (.invokestatic 196, 3) := by decide +kernel
theorem dX8_verdict_74 : decode cX8_verdict 74 = .ok (.lcmp, 1) := by decide +kernel
theorem dX8_verdict_75 : decode cX8_verdict 75 = .ok (.ifCond .le 7, 3) := by decide +kernel
theorem dX8_verdict_78 : decode cX8_verdict 78 = .ok (.iconst 1, 1) := by decide +kernel
theorem dX8_verdict_79 : decode cX8_verdict 79 = .ok (.goto 4, 3) := by decide +kernel
theorem dX8_verdict_82 : decode cX8_verdict 82 = .ok (.iconst 0, 1) := by decide +kernel
theorem dX8_verdict_83 : decode cX8_verdict 83 = .ok (.istore_n 1, 1) := by decide +kernel
theorem dX8_verdict_84 : decode cX8_verdict 84 = .ok (.iinc 2 1, 3) := by decide +kernel
theorem dX8_verdict_87 : decode cX8_verdict 87 = .ok (.goto (-59), 3) := by decide +kernel
theorem dX8_verdict_90 : decode cX8_verdict 90 = .ok (.aload_n 0, 1) := by decide +kernel
theorem dX8_verdict_91 : decode cX8_verdict 91 = .ok (.iload_n 1, 1) := by decide +kernel
theorem dX8_verdict_92 : decode cX8_verdict 92 = .ok (.ifCond .ne 7, 3) := by decide +kernel
theorem dX8_verdict_95 : decode cX8_verdict 95 = .ok (.iconst 0, 1) := by decide +kernel
theorem dX8_verdict_96 : decode cX8_verdict 96 = .ok (.goto 22, 3) := by decide +kernel
theorem dX8_verdict_99 : decode cX8_verdict 99 = .ok (.aload_n 0, 1) := by decide +kernel
theorem dX8_verdict_100 : decode cX8_verdict 100 = .ok (.getfield 25, 3) := by decide +kernel
theorem dX8_verdict_103 : decode cX8_verdict 103 = .ok (.bipush 8, 2) := by decide +kernel
theorem dX8_verdict_105 : decode cX8_verdict 105 = .ok (.laload, 1) := by decide +kernel
theorem dX8_verdict_106 : decode cX8_verdict 106 = .ok (.ldc2_w 61, 3) := by decide +kernel
theorem dX8_verdict_109 : decode cX8_verdict 109 = .ok (.lcmp, 1) := by decide +kernel
theorem dX8_verdict_110 : decode cX8_verdict 110 = .ok (.ifCond .ne 7, 3) := by decide +kernel
theorem dX8_verdict_113 : decode cX8_verdict 113 = .ok (.iconst 1, 1) := by decide +kernel
theorem dX8_verdict_114 : decode cX8_verdict 114 = .ok (.goto 4, 3) := by decide +kernel
theorem dX8_verdict_117 : decode cX8_verdict 117 = .ok (.iconst 2, 1) := by decide +kernel
theorem dX8_verdict_118 : decode cX8_verdict 118 = .ok (.invokevirtual 81, 3) := by decide +kernel
theorem dX8_verdict_121 : decode cX8_verdict 121 = .ok (.ireturn, 1) := by decide +kernel
theorem dX8_price_0 : decode cX8_price 0 = .ok (.iload_n 1, 1) := by decide +kernel
theorem dX8_price_1 : decode cX8_price 1 = .ok (.iconst 0, 1) := by decide +kernel
theorem dX8_price_2 : decode cX8_price 2 = .ok (.bipush 7, 2) := by decide +kernel
theorem dX8_price_4 : decode cX8_price 4 = .ok (.invokestatic 68, 3) := by decide +kernel
theorem dX8_price_7 : decode cX8_price 7 = .ok (.ifCond .eq 13, 3) := by decide +kernel
theorem dX8_price_10 : decode cX8_price 10 = .ok (.aload_n 0, 1) := by decide +kernel
theorem dX8_price_11 : decode cX8_price 11 = .ok (.getfield 25, 3) := by decide +kernel
theorem dX8_price_14 : decode cX8_price 14 = .ok (.iload_n 1, 1) := by decide +kernel
theorem dX8_price_15 : decode cX8_price 15 = .ok (.laload, 1) := by decide +kernel
theorem dX8_price_16 : decode cX8_price 16 = .ok (.l2i, 1) := by decide +kernel
theorem dX8_price_17 : decode cX8_price 17 = .ok (.goto 5, 3) := by decide +kernel
theorem dX8_price_20 : decode cX8_price 20 = .ok (.ldc 76, 2) := by decide +kernel
theorem dX8_price_22 : decode cX8_price 22 = .ok (.ireturn, 1) := by decide +kernel
theorem dX8_image_0 : decode cX8_image 0 = .ok (.iload_n 1, 1) := by decide +kernel
theorem dX8_image_1 : decode cX8_image 1 = .ok (.iconst 0, 1) := by decide +kernel
theorem dX8_image_2 : decode cX8_image 2 = .ok (.iconst 1, 1) := by decide +kernel
theorem dX8_image_3 : decode cX8_image 3 = .ok (.invokestatic 68, 3) := by decide +kernel
theorem dX8_image_6 : decode cX8_image 6 = .ok (.ifCond .ne 6, 3) := by decide +kernel
theorem dX8_image_9 : decode cX8_image 9 = .ok (.ldc 76, 2) := by decide +kernel
theorem dX8_image_11 : decode cX8_image 11 = .ok (.ireturn, 1) := by decide +kernel
theorem dX8_image_12 : decode cX8_image 12 = .ok (.aload_n 0, 1) := by decide +kernel
theorem dX8_image_13 : decode cX8_image 13 = .ok (.invokevirtual 171, 3) := by decide +kernel
theorem dX8_image_16 : decode cX8_image 16 = .ok (.ifCond .ne 6, 3) := by decide +kernel
theorem dX8_image_19 : decode cX8_image 19 = .ok (.ldc 174, 2) := by decide +kernel
theorem dX8_image_21 : decode cX8_image 21 = .ok (.ireturn, 1) := by decide +kernel
theorem dX8_image_22 : decode cX8_image 22 = .ok (.aload_n 0, 1) := by decide +kernel
theorem dX8_image_23 : decode cX8_image 23 = .ok (.getfield 25, 3) := by decide +kernel
theorem dX8_image_26 : decode cX8_image 26 = .ok (.iconst 0, 1) := by decide +kernel
theorem dX8_image_27 : decode cX8_image 27 = .ok (.aload_n 0, 1) := by decide +kernel
theorem dX8_image_28 : decode cX8_image 28 = .ok (.getfield 35, 3) := by decide +kernel
theorem dX8_image_31 : decode cX8_image 31 = .ok (.sipush 312, 3) := by decide +kernel
theorem dX8_image_34 : decode cX8_image 34 = .ok (.iload_n 1, 1) := by decide +kernel
theorem dX8_image_35 : decode cX8_image 35 = .ok (.imul, 1) := by decide +kernel
theorem dX8_image_36 : decode cX8_image 36 = .ok (.sipush 312, 3) := by decide +kernel
theorem dX8_image_39 : decode cX8_image 39 = .ok (.invokestatic 154, 3) := by decide +kernel
theorem dX8_image_42 : decode cX8_image 42 = .ok (.aload_n 0, 1) := by decide +kernel
theorem dX8_image_43 : decode cX8_image 43 = .ok (.getfield 38, 3) := by decide +kernel
theorem dX8_image_46 : decode cX8_image 46 = .ok (.iload_n 1, 1) := by decide +kernel
theorem dX8_image_47 : decode cX8_image 47 = .ok (.iconst 1, 1) := by decide +kernel
theorem dX8_image_48 : decode cX8_image 48 = .ok (.bastore, 1) := by decide +kernel
theorem dX8_image_49 : decode cX8_image 49 = .ok (.aload_n 0, 1) := by decide +kernel
theorem dX8_image_50 : decode cX8_image 50 = .ok (.getfield 25, 3) := by decide +kernel
theorem dX8_image_53 : decode cX8_image 53 = .ok (.bipush 10, 2) := by decide +kernel
theorem dX8_image_55 : decode cX8_image 55 = .ok (.laload, 1) := by decide +kernel
theorem dX8_image_56 : decode cX8_image 56 = .ok (.l2i, 1) := by decide +kernel
theorem dX8_image_57 : decode cX8_image 57 = .ok (.invokestatic 255, 3) := by decide +kernel
theorem dX8_image_60 : decode cX8_image 60 = .ok (.ireturn, 1) := by decide +kernel
theorem dX8_restore_0 : decode cX8_restore 0 = .ok (.iload_n 1, 1) := by decide +kernel
theorem dX8_restore_1 : decode cX8_restore 1 = .ok (.iconst 0, 1) := by decide +kernel
theorem dX8_restore_2 : decode cX8_restore 2 = .ok (.iconst 1, 1) := by decide +kernel
theorem dX8_restore_3 : decode cX8_restore 3 = .ok (.invokestatic 68, 3) := by decide +kernel
theorem dX8_restore_6 : decode cX8_restore 6 = .ok (.ifCond .ne 6, 3) := by decide +kernel
theorem dX8_restore_9 : decode cX8_restore 9 = .ok (.ldc 76, 2) := by decide +kernel
theorem dX8_restore_11 : decode cX8_restore 11 = .ok (.ireturn, 1) := by decide +kernel
theorem dX8_restore_12 : decode cX8_restore 12 = .ok (.aload_n 0, 1) := by decide +kernel
theorem dX8_restore_13 : decode cX8_restore 13 = .ok (.getfield 38, 3) := by decide +kernel
theorem dX8_restore_16 : decode cX8_restore 16 = .ok (.iload_n 1, 1) := by decide +kernel
theorem dX8_restore_17 : decode cX8_restore 17 = .ok (.baload, 1) := by decide +kernel
theorem dX8_restore_18 : decode cX8_restore 18 = .ok (.ifCond .ne 6, 3) := by decide +kernel
theorem dX8_restore_21 : decode cX8_restore 21 = .ok (.ldc 174, 2) := by decide +kernel
theorem dX8_restore_23 : decode cX8_restore 23 = .ok (.ireturn, 1) := by decide +kernel
theorem dX8_restore_24 : decode cX8_restore 24 = .ok (.aload_n 0, 1) := by decide +kernel
theorem dX8_restore_25 : decode cX8_restore 25 = .ok (.getfield 35, 3) := by decide +kernel
theorem dX8_restore_28 : decode cX8_restore 28 = .ok (.sipush 312, 3) := by decide +kernel
theorem dX8_restore_31 : decode cX8_restore 31 = .ok (.iload_n 1, 1) := by decide +kernel
theorem dX8_restore_32 : decode cX8_restore 32 = .ok (.imul, 1) := by decide +kernel
theorem dX8_restore_33 : decode cX8_restore 33 = .ok (.aload_n 0, 1) := by decide +kernel
theorem dX8_restore_34 : decode cX8_restore 34 = .ok (.getfield 25, 3) := by decide +kernel
theorem dX8_restore_37 : decode cX8_restore 37 = .ok (.iconst 0, 1) := by decide +kernel
theorem dX8_restore_38 : decode cX8_restore 38 = .ok (.sipush 312, 3) := by decide +kernel
theorem dX8_restore_41 : decode cX8_restore 41 = .ok (.invokestatic 154, 3) := by decide +kernel
theorem dX8_restore_44 : decode cX8_restore 44 = .ok (.aload_n 0, 1) := by decide +kernel
theorem dX8_restore_45 : decode cX8_restore 45 = .ok (.iconst 0, 1) := by decide +kernel
theorem dX8_restore_46 : decode cX8_restore 46 = .ok (.putfield 163, 3) := by decide +kernel
theorem dX8_restore_49 : decode cX8_restore 49 = .ok (.aload_n 0, 1) := by decide +kernel
theorem dX8_restore_50 : decode cX8_restore 50 = .ok (.getfield 25, 3) := by decide +kernel
theorem dX8_restore_53 : decode cX8_restore 53 = .ok (.bipush 10, 2) := by decide +kernel
theorem dX8_restore_55 : decode cX8_restore 55 = .ok (.laload, 1) := by decide +kernel
theorem dX8_restore_56 : decode cX8_restore 56 = .ok (.l2i, 1) := by decide +kernel
theorem dX8_restore_57 : decode cX8_restore 57 = .ok (.invokestatic 255, 3) := by decide +kernel
theorem dX8_restore_60 : decode cX8_restore 60 = .ok (.ireturn, 1) := by decide +kernel
theorem dX8_kindIn_0 : decode cX8_kindIn 0 = .ok (.aload_n 0, 1) := by decide +kernel
theorem dX8_kindIn_1 : decode cX8_kindIn 1 = .ok (.getfield 25, 3) := by decide +kernel
theorem dX8_kindIn_4 : decode cX8_kindIn 4 = .ok (.bipush 12, 2) := by decide +kernel
theorem dX8_kindIn_6 : decode cX8_kindIn 6 = .ok (.bipush 10, 2) := by decide +kernel
theorem dX8_kindIn_8 : decode cX8_kindIn 8 = .ok (.iload_n 1, 1) := by decide +kernel
theorem dX8_kindIn_9 : decode cX8_kindIn 9 = .ok (.imul, 1) := by decide +kernel
theorem dX8_kindIn_10 : decode cX8_kindIn 10 = .ok (.iadd, 1) := by decide +kernel
theorem dX8_kindIn_11 : decode cX8_kindIn 11 = .ok (.laload, 1) := by decide +kernel
theorem dX8_kindIn_12 : decode cX8_kindIn 12 = .ok (.l2i, 1) := by decide +kernel
theorem dX8_kindIn_13 : decode cX8_kindIn 13 = .ok (.ireturn, 1) := by decide +kernel
theorem dX8_variablesOf_0 : decode cX8_variablesOf 0 = .ok (.iconst 0, 1) := by decide +kernel
theorem dX8_variablesOf_1 : decode cX8_variablesOf 1 = .ok (.istore_n 2, 1) := by decide +kernel
theorem dX8_variablesOf_2 : decode cX8_variablesOf 2 = .ok (.iconst 0, 1) := by decide +kernel
theorem dX8_variablesOf_3 : decode cX8_variablesOf 3 = .ok (.istore_n 3, 1) := by decide +kernel
theorem dX8_variablesOf_4 : decode cX8_variablesOf 4 = .ok (.iload_n 3, 1) := by decide +kernel
theorem dX8_variablesOf_5 : decode cX8_variablesOf 5 = .ok (.bipush 8, 2) := by decide +kernel
theorem dX8_variablesOf_7 : decode cX8_variablesOf 7 = .ok (.if_icmp .ge 38, 3) := by decide +kernel
theorem dX8_variablesOf_10 : decode cX8_variablesOf 10 = .ok (.iload_n 2, 1) := by decide +kernel
theorem dX8_variablesOf_11 : decode cX8_variablesOf 11 = .ok (.aload_n 0, 1) := by decide +kernel
theorem dX8_variablesOf_12 : decode cX8_variablesOf 12 = .ok (.getfield 25, 3) := by decide +kernel
theorem dX8_variablesOf_15 : decode cX8_variablesOf 15 = .ok (.bipush 12, 2) := by decide +kernel
theorem dX8_variablesOf_17 : decode cX8_variablesOf 17 = .ok (.bipush 10, 2) := by decide +kernel
theorem dX8_variablesOf_19 : decode cX8_variablesOf 19 = .ok (.iload_n 1, 1) := by decide +kernel
theorem dX8_variablesOf_20 : decode cX8_variablesOf 20 = .ok (.imul, 1) := by decide +kernel
theorem dX8_variablesOf_21 : decode cX8_variablesOf 21 = .ok (.iadd, 1) := by decide +kernel
theorem dX8_variablesOf_22 : decode cX8_variablesOf 22 = .ok (.iconst 2, 1) := by decide +kernel
theorem dX8_variablesOf_23 : decode cX8_variablesOf 23 = .ok (.iadd, 1) := by decide +kernel
theorem dX8_variablesOf_24 : decode cX8_variablesOf 24 = .ok (.iload_n 3, 1) := by decide +kernel
theorem dX8_variablesOf_25 : decode cX8_variablesOf 25 = .ok (.iadd, 1) := by decide +kernel
theorem dX8_variablesOf_26 : decode cX8_variablesOf 26 = .ok (.laload, 1) := by decide +kernel
theorem dX8_variablesOf_27 : decode cX8_variablesOf 27 = .ok (.lconst 0, 1) := by decide +kernel
theorem dX8_variablesOf_28 : decode cX8_variablesOf 28 = .ok (.lcmp, 1) := by decide +kernel
theorem dX8_variablesOf_29 : decode cX8_variablesOf 29 = .ok (.ifCond .eq 7, 3) := by decide +kernel
theorem dX8_variablesOf_32 : decode cX8_variablesOf 32 = .ok (.iconst 1, 1) := by decide +kernel
theorem dX8_variablesOf_33 : decode cX8_variablesOf 33 = .ok (.goto 4, 3) := by decide +kernel
theorem dX8_variablesOf_36 : decode cX8_variablesOf 36 = .ok (.iconst 0, 1) := by decide +kernel
theorem dX8_variablesOf_37 : decode cX8_variablesOf 37 = .ok (.iadd, 1) := by decide +kernel
theorem dX8_variablesOf_38 : decode cX8_variablesOf 38 = .ok (.istore_n 2, 1) := by decide +kernel
theorem dX8_variablesOf_39 : decode cX8_variablesOf 39 = .ok (.iinc 3 1, 3) := by decide +kernel
theorem dX8_variablesOf_42 : decode cX8_variablesOf 42 = .ok (.goto (-38), 3) := by decide +kernel
theorem dX8_variablesOf_45 : decode cX8_variablesOf 45 = .ok (.iload_n 2, 1) := by decide +kernel
theorem dX8_variablesOf_46 : decode cX8_variablesOf 46 = .ok (.ireturn, 1) := by decide +kernel
theorem dX8_leastOf_0 : decode cX8_leastOf 0 = .ok (.iconst 0, 1) := by decide +kernel
theorem dX8_leastOf_1 : decode cX8_leastOf 1 = .ok (.istore_n 2, 1) := by decide +kernel
theorem dX8_leastOf_2 : decode cX8_leastOf 2 = .ok (.iload_n 2, 1) := by decide +kernel
theorem dX8_leastOf_3 : decode cX8_leastOf 3 = .ok (.bipush 8, 2) := by decide +kernel
theorem dX8_leastOf_5 : decode cX8_leastOf 5 = .ok (.if_icmp .ge 32, 3) := by decide +kernel
theorem dX8_leastOf_8 : decode cX8_leastOf 8 = .ok (.aload_n 0, 1) := by decide +kernel
theorem dX8_leastOf_9 : decode cX8_leastOf 9 = .ok (.getfield 25, 3) := by decide +kernel
theorem dX8_leastOf_12 : decode cX8_leastOf 12 = .ok (.bipush 12, 2) := by decide +kernel
theorem dX8_leastOf_14 : decode cX8_leastOf 14 = .ok (.bipush 10, 2) := by decide +kernel
theorem dX8_leastOf_16 : decode cX8_leastOf 16 = .ok (.iload_n 1, 1) := by decide +kernel
theorem dX8_leastOf_17 : decode cX8_leastOf 17 = .ok (.imul, 1) := by decide +kernel
theorem dX8_leastOf_18 : decode cX8_leastOf 18 = .ok (.iadd, 1) := by decide +kernel
theorem dX8_leastOf_19 : decode cX8_leastOf 19 = .ok (.iconst 2, 1) := by decide +kernel
theorem dX8_leastOf_20 : decode cX8_leastOf 20 = .ok (.iadd, 1) := by decide +kernel
theorem dX8_leastOf_21 : decode cX8_leastOf 21 = .ok (.iload_n 2, 1) := by decide +kernel
theorem dX8_leastOf_22 : decode cX8_leastOf 22 = .ok (.iadd, 1) := by decide +kernel
theorem dX8_leastOf_23 : decode cX8_leastOf 23 = .ok (.laload, 1) := by decide +kernel
theorem dX8_leastOf_24 : decode cX8_leastOf 24 = .ok (.lconst 0, 1) := by decide +kernel
theorem dX8_leastOf_25 : decode cX8_leastOf 25 = .ok (.lcmp, 1) := by decide +kernel
theorem dX8_leastOf_26 : decode cX8_leastOf 26 = .ok (.ifCond .eq 5, 3) := by decide +kernel
theorem dX8_leastOf_29 : decode cX8_leastOf 29 = .ok (.iload_n 2, 1) := by decide +kernel
theorem dX8_leastOf_30 : decode cX8_leastOf 30 = .ok (.ireturn, 1) := by decide +kernel
theorem dX8_leastOf_31 : decode cX8_leastOf 31 = .ok (.iinc 2 1, 3) := by decide +kernel
theorem dX8_leastOf_34 : decode cX8_leastOf 34 = .ok (.goto (-32), 3) := by decide +kernel
theorem dX8_leastOf_37 : decode cX8_leastOf 37 = .ok (.bipush 8, 2) := by decide +kernel
theorem dX8_leastOf_39 : decode cX8_leastOf 39 = .ok (.ireturn, 1) := by decide +kernel
theorem dX8_kind_0 : decode cX8_kind 0 = .ok (.aload_n 0, 1) := by decide +kernel
theorem dX8_kind_1 : decode cX8_kind 1 = .ok (.iload_n 1, 1) := by decide +kernel
theorem dX8_kind_2 : decode cX8_kind 2 = .ok (.invokevirtual 175, 3) := by decide +kernel
theorem dX8_kind_5 : decode cX8_kind 5 = .ok (.ifCond .eq 11, 3) := by decide +kernel
theorem dX8_kind_8 : decode cX8_kind 8 = .ok (.aload_n 0, 1) := by decide +kernel
theorem dX8_kind_9 : decode cX8_kind 9 = .ok (.iload_n 1, 1) := by decide +kernel
theorem dX8_kind_10 : decode cX8_kind 10 = .ok (.invokevirtual 260, 3) := by decide +kernel
theorem dX8_kind_13 : decode cX8_kind 13 = .ok (.goto 5, 3) := by decide +kernel
theorem dX8_kind_16 : decode cX8_kind 16 = .ok (.ldc 76, 2) := by decide +kernel
theorem dX8_kind_18 : decode cX8_kind 18 = .ok (.ireturn, 1) := by decide +kernel
theorem dX8_as_0 : decode cX8_as 0 = .ok (.aload_n 0, 1) := by decide +kernel
theorem dX8_as_1 : decode cX8_as 1 = .ok (.iload_n 1, 1) := by decide +kernel
theorem dX8_as_2 : decode cX8_as 2 = .ok (.invokevirtual 175, 3) := by decide +kernel
theorem dX8_as_5 : decode cX8_as 5 = .ok (.ifCond .eq 12, 3) := by decide +kernel
theorem dX8_as_8 : decode cX8_as 8 = .ok (.iload_n 2, 1) := by decide +kernel
theorem dX8_as_9 : decode cX8_as 9 = .ok (.iconst 0, 1) := by decide +kernel
theorem dX8_as_10 : decode cX8_as 10 = .ok (.iconst 5, 1) := by decide +kernel
theorem dX8_as_11 : decode cX8_as 11 = .ok (.invokestatic 68, 3) := by decide +kernel
theorem dX8_as_14 : decode cX8_as 14 = .ok (.ifCond .ne 6, 3) := by decide +kernel
theorem dX8_as_17 : decode cX8_as 17 = .ok (.ldc 76, 2) := by decide +kernel
theorem dX8_as_19 : decode cX8_as 19 = .ok (.ireturn, 1) := by decide +kernel
theorem dX8_as_20 : decode cX8_as 20 = .ok (.aload_n 0, 1) := by decide +kernel
theorem dX8_as_21 : decode cX8_as 21 = .ok (.iload_n 1, 1) := by decide +kernel
theorem dX8_as_22 : decode cX8_as 22 = .ok (.invokevirtual 260, 3) := by decide +kernel
theorem dX8_as_25 : decode cX8_as 25 = .ok (.istore_n 3, 1) := by decide +kernel
theorem dX8_as_26 : decode cX8_as 26 = .ok (.iload_n 2, 1) := by decide +kernel
theorem dX8_as_27 : decode cX8_as 27 = .ok (.ifCond .eq 28, 3) := by decide +kernel
theorem dX8_as_30 : decode cX8_as 30 = .ok (.iload_n 2, 1) := by decide +kernel
theorem dX8_as_31 : decode cX8_as 31 = .ok (.iload_n 3, 1) := by decide +kernel
theorem dX8_as_32 : decode cX8_as 32 = .ok (.if_icmp .eq 23, 3) := by decide +kernel
theorem dX8_as_35 : decode cX8_as 35 = .ok (.iload_n 2, 1) := by decide +kernel
theorem dX8_as_36 : decode cX8_as 36 = .ok (.iconst 1, 1) := by decide +kernel
theorem dX8_as_37 : decode cX8_as 37 = .ok (.if_icmp .ne 8, 3) := by decide +kernel
theorem dX8_as_40 : decode cX8_as 40 = .ok (.iload_n 3, 1) := by decide +kernel
theorem dX8_as_41 : decode cX8_as 41 = .ok (.iconst 4, 1) := by decide +kernel
theorem dX8_as_42 : decode cX8_as 42 = .ok (.if_icmp .lt 13, 3) := by decide +kernel
theorem dX8_as_45 : decode cX8_as 45 = .ok (.iload_n 2, 1) := by decide +kernel
theorem dX8_as_46 : decode cX8_as 46 = .ok (.iconst 4, 1) := by decide +kernel
theorem dX8_as_47 : decode cX8_as 47 = .ok (.if_icmp .ne 12, 3) := by decide +kernel
theorem dX8_as_50 : decode cX8_as 50 = .ok (.iload_n 3, 1) := by decide +kernel
theorem dX8_as_51 : decode cX8_as 51 = .ok (.iconst 5, 1) := by decide +kernel
theorem dX8_as_52 : decode cX8_as 52 = .ok (.if_icmp .ne 7, 3) := by decide +kernel
theorem dX8_as_55 : decode cX8_as 55 = .ok (.iconst 1, 1) := by decide +kernel
theorem dX8_as_56 : decode cX8_as 56 = .ok (.goto 4, 3) := by decide +kernel
theorem dX8_as_59 : decode cX8_as 59 = .ok (.iconst 0, 1) := by decide +kernel
theorem dX8_as_60 : decode cX8_as 60 = .ok (.istore 4, 2) := by decide +kernel
theorem dX8_as_62 : decode cX8_as 62 = .ok (.iload 4, 2) := by decide +kernel
theorem dX8_as_64 : decode cX8_as 64 = .ok (.ifCond .eq 11, 3) := by decide +kernel
theorem dX8_as_67 : decode cX8_as 67 = .ok (.aload_n 0, 1) := by decide +kernel
theorem dX8_as_68 : decode cX8_as 68 = .ok (.iload_n 1, 1) := by decide +kernel
theorem dX8_as_69 : decode cX8_as 69 = .ok (.invokevirtual 81, 3) := by decide +kernel
theorem dX8_as_72 : decode cX8_as 72 = .ok (.goto 8, 3) := by decide +kernel
theorem dX8_as_75 : decode cX8_as 75 = .ok (.aload_n 0, 1) := by decide +kernel
theorem dX8_as_76 : decode cX8_as 76 = .ok (.iconst 3, 1) := by decide +kernel
theorem dX8_as_77 : decode cX8_as 77 = .ok (.invokevirtual 77, 3) := by decide +kernel
theorem dX8_as_80 : decode cX8_as 80 = .ok (.ireturn, 1) := by decide +kernel
theorem dX8_traces_0 : decode cX8_traces 0 = .ok (.aload_n 0, 1) := by decide +kernel
theorem dX8_traces_1 : decode cX8_traces 1 = .ok (.getfield 263, 3) := by decide +kernel
theorem dX8_traces_4 : decode cX8_traces 4 = .ok (.bipush 16, 2) := by decide +kernel
theorem dX8_traces_6 : decode cX8_traces 6 = .ok (.if_icmp .ge 23, 3) := by decide +kernel
theorem dX8_traces_9 : decode cX8_traces 9 = .ok (.aload_n 0, 1) := by decide +kernel
theorem dX8_traces_10 : decode cX8_traces 10 = .ok (.getfield 57, 3) := by decide +kernel
theorem dX8_traces_13 : decode cX8_traces 13 = .ok (.aload_n 0, 1) := by decide +kernel
theorem dX8_traces_14 : decode cX8_traces 14 = .ok (.getfield 263, 3) := by decide +kernel
theorem dX8_traces_17 : decode cX8_traces 17 = .ok (.iload_n 1, 1) := by decide +kernel
theorem dX8_traces_18 : decode cX8_traces 18 = .ok (.iastore, 1) := by decide +kernel
theorem dX8_traces_19 : decode cX8_traces 19 = .ok (.aload_n 0, 1) := by decide +kernel
theorem dX8_traces_20 : decode cX8_traces 20 = .ok (.dup, 1) := by decide +kernel
theorem dX8_traces_21 : decode cX8_traces 21 = .ok (.getfield 263, 3) := by decide +kernel
theorem dX8_traces_24 : decode cX8_traces 24 = .ok (.iconst 1, 1) := by decide +kernel
theorem dX8_traces_25 : decode cX8_traces 25 = .ok (.iadd, 1) := by decide +kernel
theorem dX8_traces_26 : decode cX8_traces 26 = .ok (.putfield 263, 3) := by decide +kernel
theorem dX8_traces_29 : decode cX8_traces 29 = .ok (.return_, 1) := by decide +kernel
theorem dX8_givenMark_0 : decode cX8_givenMark 0 = .ok (.aload_n 0, 1) := by decide +kernel
theorem dX8_givenMark_1 : decode cX8_givenMark 1 = .ok (.iload_n 1, 1) := by decide +kernel
theorem dX8_givenMark_2 : decode cX8_givenMark 2 = .ok (.invokevirtual 260, 3) := by decide +kernel
theorem dX8_givenMark_5 : decode cX8_givenMark 5 = .ok (.istore_n 2, 1) := by decide +kernel
theorem dX8_givenMark_6 : decode cX8_givenMark 6 = .ok (.iload_n 2, 1) := by decide +kernel
theorem dX8_givenMark_7 : decode cX8_givenMark 7 = .ok (.iconst 1, 1) := by decide +kernel
theorem dX8_givenMark_8 : decode cX8_givenMark 8 = .ok (.if_icmp .eq 19, 3) := by decide +kernel
theorem dX8_givenMark_11 : decode cX8_givenMark 11 = .ok (.aload_n 0, 1) := by decide +kernel
theorem dX8_givenMark_12 : decode cX8_givenMark 12 = .ok (.iload_n 2, 1) := by decide +kernel
theorem dX8_givenMark_13 : decode cX8_givenMark 13 = .ok (.iconst 2, 1) := by decide +kernel
theorem dX8_givenMark_14 : decode cX8_givenMark 14 = .ok (.if_icmp .ne 8, 3) := by decide +kernel
theorem dX8_givenMark_17 : decode cX8_givenMark 17 = .ok (.bipush 24, 2) := by decide +kernel
theorem dX8_givenMark_19 : decode cX8_givenMark 19 = .ok (.goto 5, 3) := by decide +kernel
theorem dX8_givenMark_22 : decode cX8_givenMark 22 = .ok (.bipush 22, 2) := by decide +kernel
theorem dX8_givenMark_24 : decode cX8_givenMark 24 = .ok (.invokevirtual 266, 3) := by decide +kernel
theorem dX8_givenMark_27 : decode cX8_givenMark 27 = .ok (.aload_n 0, 1) := by decide +kernel
theorem dX8_givenMark_28 : decode cX8_givenMark 28 = .ok (.bipush 21, 2) := by decide +kernel
theorem dX8_givenMark_30 : decode cX8_givenMark 30 = .ok (.invokevirtual 266, 3) := by decide +kernel
theorem dX8_givenMark_33 : decode cX8_givenMark 33 = .ok (.aload_n 0, 1) := by decide +kernel
theorem dX8_givenMark_34 : decode cX8_givenMark 34 = .ok (.bipush 20, 2) := by decide +kernel
theorem dX8_givenMark_36 : decode cX8_givenMark 36 = .ok (.invokevirtual 266, 3) := by decide +kernel
theorem dX8_givenMark_39 : decode cX8_givenMark 39 = .ok (.iload_n 1, 1) := by decide +kernel
theorem dX8_givenMark_40 : decode cX8_givenMark 40 = .ok (.aload_n 0, 1) := by decide +kernel
theorem dX8_givenMark_41 : decode cX8_givenMark 41 = .ok (.iload_n 1, 1) := by decide +kernel
theorem dX8_givenMark_42 : decode cX8_givenMark 42 = .ok (.invokevirtual 269, 3) := by decide +kernel
theorem dX8_givenMark_45 : decode cX8_givenMark 45 = .ok (.iadd, 1) := by decide +kernel
theorem dX8_givenMark_46 : decode cX8_givenMark 46 = .ok (.istore_n 3, 1) := by decide +kernel
theorem dX8_givenMark_47 : decode cX8_givenMark 47 = .ok (.iload_n 2, 1) := by decide +kernel
theorem dX8_givenMark_48 : decode cX8_givenMark 48 = .ok (.iconst 2, 1) := by decide +kernel
theorem dX8_givenMark_49 : decode cX8_givenMark 49 = .ok (.if_icmp .ne 9, 3) := by decide +kernel
theorem dX8_givenMark_52 : decode cX8_givenMark 52 = .ok (.iconst 2, 1) := by decide +kernel
theorem dX8_givenMark_53 : decode cX8_givenMark 53 = .ok (.iload_n 3, 1) := by decide +kernel
theorem dX8_givenMark_54 : decode cX8_givenMark 54 = .ok (.imul, 1) := by decide +kernel
theorem dX8_givenMark_55 : decode cX8_givenMark 55 = .ok (.goto 17, 3) := by decide +kernel
theorem dX8_givenMark_58 : decode cX8_givenMark 58 = .ok (.iload_n 2, 1) := by decide +kernel
theorem dX8_givenMark_59 : decode cX8_givenMark 59 = .ok (.iconst 3, 1) := by decide +kernel
theorem dX8_givenMark_60 : decode cX8_givenMark 60 = .ok (.if_icmp .ne 11, 3) := by decide +kernel
theorem dX8_givenMark_63 : decode cX8_givenMark 63 = .ok (.iload_n 3, 1) := by decide +kernel
theorem dX8_givenMark_64 : decode cX8_givenMark 64 = .ok (.sipush 1000, 3) := by decide +kernel
theorem dX8_givenMark_67 : decode cX8_givenMark 67 = .ok (.isub, 1) := by decide +kernel
theorem dX8_givenMark_68 : decode cX8_givenMark 68 = .ok (.goto 4, 3) := by decide +kernel
theorem dX8_givenMark_71 : decode cX8_givenMark 71 = .ok (.iload_n 3, 1) := by decide +kernel
theorem dX8_givenMark_72 : decode cX8_givenMark 72 = .ok (.ireturn, 1) := by decide +kernel
theorem dX8_derivedSize_0 : decode cX8_derivedSize 0 = .ok (.aload_n 0, 1) := by decide +kernel
theorem dX8_derivedSize_1 : decode cX8_derivedSize 1 = .ok (.iload_n 1, 1) := by decide +kernel
theorem dX8_derivedSize_2 : decode cX8_derivedSize 2 = .ok (.invokevirtual 260, 3) := by decide +kernel
theorem dX8_derivedSize_5 : decode cX8_derivedSize 5 = .ok (.iconst 5, 1) := by decide +kernel
theorem dX8_derivedSize_6 : decode cX8_derivedSize 6 = .ok (.if_icmp .ne 7, 3) := by decide +kernel
theorem dX8_derivedSize_9 : decode cX8_derivedSize 9 = .ok (.iconst 1, 1) := by decide +kernel
theorem dX8_derivedSize_10 : decode cX8_derivedSize 10 = .ok (.goto 4, 3) := by decide +kernel
theorem dX8_derivedSize_13 : decode cX8_derivedSize 13 = .ok (.iconst 0, 1) := by decide +kernel
theorem dX8_derivedSize_14 : decode cX8_derivedSize 14 = .ok (.istore_n 2, 1) := by decide +kernel
theorem dX8_derivedSize_15 : decode cX8_derivedSize 15 = .ok (.iload_n 2, 1) := by decide +kernel
theorem dX8_derivedSize_16 : decode cX8_derivedSize 16 = .ok (.ifCond .eq 9, 3) := by decide +kernel
theorem dX8_derivedSize_19 : decode cX8_derivedSize 19 = .ok (.aload_n 0, 1) := by decide +kernel
theorem dX8_derivedSize_20 : decode cX8_derivedSize 20 = .ok (.bipush 14, 2) := by decide +kernel
theorem dX8_derivedSize_22 : decode cX8_derivedSize 22 = .ok (.invokevirtual 266, 3) := by decide +kernel
theorem dX8_derivedSize_25 : decode cX8_derivedSize 25 = .ok (.aload_n 0, 1) := by decide +kernel
theorem dX8_derivedSize_26 : decode cX8_derivedSize 26 = .ok (.bipush 13, 2) := by decide +kernel
theorem dX8_derivedSize_28 : decode cX8_derivedSize 28 = .ok (.invokevirtual 266, 3) := by decide +kernel
theorem dX8_derivedSize_31 : decode cX8_derivedSize 31 = .ok (.aload_n 0, 1) := by decide +kernel
theorem dX8_derivedSize_32 : decode cX8_derivedSize 32 = .ok (.bipush 10, 2) := by decide +kernel
theorem dX8_derivedSize_34 : decode cX8_derivedSize 34 = .ok (.invokevirtual 266, 3) := by decide +kernel
theorem dX8_derivedSize_37 : decode cX8_derivedSize 37 = .ok (.aload_n 0, 1) := by decide +kernel
theorem dX8_derivedSize_38 : decode cX8_derivedSize 38 = .ok (.iload_n 1, 1) := by decide +kernel
theorem dX8_derivedSize_39 : decode cX8_derivedSize 39 = .ok (.invokevirtual 272, 3) := by decide +kernel
theorem dX8_derivedSize_42 : decode cX8_derivedSize 42 = .ok (.bipush 100, 2) := by decide +kernel
theorem dX8_derivedSize_44 : decode cX8_derivedSize 44 = .ok (.isub, 1) := by decide +kernel
theorem dX8_derivedSize_45 : decode cX8_derivedSize 45 = .ok (.istore_n 3, 1) := by decide +kernel
theorem dX8_derivedSize_46 : decode cX8_derivedSize 46 = .ok (.iload_n 2, 1) := by decide +kernel
theorem dX8_derivedSize_47 : decode cX8_derivedSize 47 = .ok (.ifCond .eq 9, 3) := by decide +kernel
theorem dX8_derivedSize_50 : decode cX8_derivedSize 50 = .ok (.iconst 2, 1) := by decide +kernel
theorem dX8_derivedSize_51 : decode cX8_derivedSize 51 = .ok (.iload_n 3, 1) := by decide +kernel
theorem dX8_derivedSize_52 : decode cX8_derivedSize 52 = .ok (.imul, 1) := by decide +kernel
theorem dX8_derivedSize_53 : decode cX8_derivedSize 53 = .ok (.goto 4, 3) := by decide +kernel
theorem dX8_derivedSize_56 : decode cX8_derivedSize 56 = .ok (.iload_n 3, 1) := by decide +kernel
theorem dX8_derivedSize_57 : decode cX8_derivedSize 57 = .ok (.ireturn, 1) := by decide +kernel
theorem dX8_givenSize_0 : decode cX8_givenSize 0 = .ok (.aload_n 0, 1) := by decide +kernel
theorem dX8_givenSize_1 : decode cX8_givenSize 1 = .ok (.iload_n 1, 1) := by decide +kernel
theorem dX8_givenSize_2 : decode cX8_givenSize 2 = .ok (.invokevirtual 260, 3) := by decide +kernel
theorem dX8_givenSize_5 : decode cX8_givenSize 5 = .ok (.iconst 2, 1) := by decide +kernel
theorem dX8_givenSize_6 : decode cX8_givenSize 6 = .ok (.if_icmp .ne 7, 3) := by decide +kernel
theorem dX8_givenSize_9 : decode cX8_givenSize 9 = .ok (.iconst 1, 1) := by decide +kernel
theorem dX8_givenSize_10 : decode cX8_givenSize 10 = .ok (.goto 4, 3) := by decide +kernel
theorem dX8_givenSize_13 : decode cX8_givenSize 13 = .ok (.iconst 0, 1) := by decide +kernel
theorem dX8_givenSize_14 : decode cX8_givenSize 14 = .ok (.istore_n 2, 1) := by decide +kernel
theorem dX8_givenSize_15 : decode cX8_givenSize 15 = .ok (.iload_n 2, 1) := by decide +kernel
theorem dX8_givenSize_16 : decode cX8_givenSize 16 = .ok (.ifCond .eq 9, 3) := by decide +kernel
theorem dX8_givenSize_19 : decode cX8_givenSize 19 = .ok (.aload_n 0, 1) := by decide +kernel
theorem dX8_givenSize_20 : decode cX8_givenSize 20 = .ok (.bipush 12, 2) := by decide +kernel
theorem dX8_givenSize_22 : decode cX8_givenSize 22 = .ok (.invokevirtual 266, 3) := by decide +kernel
theorem dX8_givenSize_25 : decode cX8_givenSize 25 = .ok (.aload_n 0, 1) := by decide +kernel
theorem dX8_givenSize_26 : decode cX8_givenSize 26 = .ok (.bipush 11, 2) := by decide +kernel
theorem dX8_givenSize_28 : decode cX8_givenSize 28 = .ok (.invokevirtual 266, 3) := by decide +kernel
theorem dX8_givenSize_31 : decode cX8_givenSize 31 = .ok (.aload_n 0, 1) := by decide +kernel
theorem dX8_givenSize_32 : decode cX8_givenSize 32 = .ok (.bipush 10, 2) := by decide +kernel
theorem dX8_givenSize_34 : decode cX8_givenSize 34 = .ok (.invokevirtual 266, 3) := by decide +kernel
theorem dX8_givenSize_37 : decode cX8_givenSize 37 = .ok (.aload_n 0, 1) := by decide +kernel
theorem dX8_givenSize_38 : decode cX8_givenSize 38 = .ok (.iload_n 1, 1) := by decide +kernel
theorem dX8_givenSize_39 : decode cX8_givenSize 39 = .ok (.invokevirtual 272, 3) := by decide +kernel
theorem dX8_givenSize_42 : decode cX8_givenSize 42 = .ok (.aload_n 0, 1) := by decide +kernel
theorem dX8_givenSize_43 : decode cX8_givenSize 43 = .ok (.iload_n 1, 1) := by decide +kernel
theorem dX8_givenSize_44 : decode cX8_givenSize 44 = .ok (.invokevirtual 275, 3) := by decide +kernel
theorem dX8_givenSize_47 : decode cX8_givenSize 47 = .ok (.iadd, 1) := by decide +kernel
theorem dX8_givenSize_48 : decode cX8_givenSize 48 = .ok (.istore_n 3, 1) := by decide +kernel
theorem dX8_givenSize_49 : decode cX8_givenSize 49 = .ok (.iload_n 2, 1) := by decide +kernel
theorem dX8_givenSize_50 : decode cX8_givenSize 50 = .ok (.ifCond .eq 8, 3) := by decide +kernel
theorem dX8_givenSize_53 : decode cX8_givenSize 53 = .ok (.iload_n 3, 1) := by decide +kernel
theorem dX8_givenSize_54 : decode cX8_givenSize 54 = .ok (.ineg, 1) := by decide +kernel
theorem dX8_givenSize_55 : decode cX8_givenSize 55 = .ok (.goto 4, 3) := by decide +kernel
theorem dX8_givenSize_58 : decode cX8_givenSize 58 = .ok (.iload_n 3, 1) := by decide +kernel
theorem dX8_givenSize_59 : decode cX8_givenSize 59 = .ok (.ireturn, 1) := by decide +kernel
theorem dX8_derivedMark_0 : decode cX8_derivedMark 0 = .ok (.aload_n 0, 1) := by decide +kernel
theorem dX8_derivedMark_1 : decode cX8_derivedMark 1 = .ok (.bipush 23, 2) := by decide +kernel
theorem dX8_derivedMark_3 : decode cX8_derivedMark 3 = .ok (.invokevirtual 266, 3) := by decide +kernel
theorem dX8_derivedMark_6 : decode cX8_derivedMark 6 = .ok (.aload_n 0, 1) := by decide +kernel
theorem dX8_derivedMark_7 : decode cX8_derivedMark 7 = .ok (.bipush 20, 2) := by decide +kernel
theorem dX8_derivedMark_9 : decode cX8_derivedMark 9 = .ok (.invokevirtual 266, 3) := by decide +kernel
theorem dX8_derivedMark_12 : decode cX8_derivedMark 12 = .ok (.iload_n 1, 1) := by decide +kernel
theorem dX8_derivedMark_13 : decode cX8_derivedMark 13 = .ok (.aload_n 0, 1) := by decide +kernel
theorem dX8_derivedMark_14 : decode cX8_derivedMark 14 = .ok (.iload_n 1, 1) := by decide +kernel
theorem dX8_derivedMark_15 : decode cX8_derivedMark 15 = .ok (.invokevirtual 278, 3) := by decide +kernel
theorem dX8_derivedMark_18 : decode cX8_derivedMark 18 = .ok (.isub, 1) := by decide +kernel
theorem dX8_derivedMark_19 : decode cX8_derivedMark 19 = .ok (.ireturn, 1) := by decide +kernel
theorem dX8_ask_0 : decode cX8_ask 0 = .ok (.aload_n 0, 1) := by decide +kernel
theorem dX8_ask_1 : decode cX8_ask 1 = .ok (.iload_n 1, 1) := by decide +kernel
theorem dX8_ask_2 : decode cX8_ask 2 = .ok (.invokevirtual 175, 3) := by decide +kernel
theorem dX8_ask_5 : decode cX8_ask 5 = .ok (.ifCond .eq 12, 3) := by decide +kernel
theorem dX8_ask_8 : decode cX8_ask 8 = .ok (.iload_n 2, 1) := by decide +kernel
theorem dX8_ask_9 : decode cX8_ask 9 = .ok (.iconst 0, 1) := by decide +kernel
theorem dX8_ask_10 : decode cX8_ask 10 = .ok (.iconst 1, 1) := by decide +kernel
theorem dX8_ask_11 : decode cX8_ask 11 = .ok (.invokestatic 68, 3) := by decide +kernel
theorem dX8_ask_14 : decode cX8_ask 14 = .ok (.ifCond .ne 6, 3) := by decide +kernel
theorem dX8_ask_17 : decode cX8_ask 17 = .ok (.ldc 76, 2) := by decide +kernel
theorem dX8_ask_19 : decode cX8_ask 19 = .ok (.ireturn, 1) := by decide +kernel
theorem dX8_ask_20 : decode cX8_ask 20 = .ok (.aload_n 0, 1) := by decide +kernel
theorem dX8_ask_21 : decode cX8_ask 21 = .ok (.iconst 0, 1) := by decide +kernel
theorem dX8_ask_22 : decode cX8_ask 22 = .ok (.putfield 263, 3) := by decide +kernel
theorem dX8_ask_25 : decode cX8_ask 25 = .ok (.aload_n 0, 1) := by decide +kernel
theorem dX8_ask_26 : decode cX8_ask 26 = .ok (.iload_n 1, 1) := by decide +kernel
theorem dX8_ask_27 : decode cX8_ask 27 = .ok (.invokevirtual 260, 3) := by decide +kernel
theorem dX8_ask_30 : decode cX8_ask 30 = .ok (.iconst 4, 1) := by decide +kernel
theorem dX8_ask_31 : decode cX8_ask 31 = .ok (.if_icmp .lt 7, 3) := by decide +kernel
theorem dX8_ask_34 : decode cX8_ask 34 = .ok (.iconst 1, 1) := by decide +kernel
theorem dX8_ask_35 : decode cX8_ask 35 = .ok (.goto 4, 3) := by decide +kernel
theorem dX8_ask_38 : decode cX8_ask 38 = .ok (.iconst 0, 1) := by decide +kernel
theorem dX8_ask_39 : decode cX8_ask 39 = .ok (.istore_n 3, 1) := by decide +kernel
theorem dX8_ask_40 : decode cX8_ask 40 = .ok (.iload_n 2, 1) := by decide +kernel
theorem dX8_ask_41 : decode cX8_ask 41 = .ok (.ifCond .ne 21, 3) := by decide +kernel
theorem dX8_ask_44 : decode cX8_ask 44 = .ok (.iload_n 3, 1) := by decide +kernel
theorem dX8_ask_45 : decode cX8_ask 45 = .ok (.ifCond .eq 11, 3) := by decide +kernel
theorem dX8_ask_48 : decode cX8_ask 48 = .ok (.aload_n 0, 1) := by decide +kernel
theorem dX8_ask_49 : decode cX8_ask 49 = .ok (.iload_n 1, 1) := by decide +kernel
theorem dX8_ask_50 : decode cX8_ask 50 = .ok (.invokevirtual 278, 3) := by decide +kernel
theorem dX8_ask_53 : decode cX8_ask 53 = .ok (.goto 8, 3) := by decide +kernel
theorem dX8_ask_56 : decode cX8_ask 56 = .ok (.aload_n 0, 1) := by decide +kernel
theorem dX8_ask_57 : decode cX8_ask 57 = .ok (.iload_n 1, 1) := by decide +kernel
theorem dX8_ask_58 : decode cX8_ask 58 = .ok (.invokevirtual 281, 3) := by decide +kernel
theorem dX8_ask_61 : decode cX8_ask 61 = .ok (.ireturn, 1) := by decide +kernel
theorem dX8_ask_62 : decode cX8_ask 62 = .ok (.iload_n 3, 1) := by decide +kernel
theorem dX8_ask_63 : decode cX8_ask 63 = .ok (.ifCond .eq 11, 3) := by decide +kernel
theorem dX8_ask_66 : decode cX8_ask 66 = .ok (.aload_n 0, 1) := by decide +kernel
theorem dX8_ask_67 : decode cX8_ask 67 = .ok (.iload_n 1, 1) := by decide +kernel
theorem dX8_ask_68 : decode cX8_ask 68 = .ok (.invokevirtual 284, 3) := by decide +kernel
theorem dX8_ask_71 : decode cX8_ask 71 = .ok (.goto 8, 3) := by decide +kernel
theorem dX8_ask_74 : decode cX8_ask 74 = .ok (.aload_n 0, 1) := by decide +kernel
theorem dX8_ask_75 : decode cX8_ask 75 = .ok (.iload_n 1, 1) := by decide +kernel
theorem dX8_ask_76 : decode cX8_ask 76 = .ok (.invokevirtual 275, 3) := by decide +kernel
theorem dX8_ask_79 : decode cX8_ask 79 = .ok (.ireturn, 1) := by decide +kernel
theorem dX8_trace_0 : decode cX8_trace 0 = .ok (.iload_n 1, 1) := by decide +kernel
theorem dX8_trace_1 : decode cX8_trace 1 = .ok (.iconst 0, 1) := by decide +kernel
theorem dX8_trace_2 : decode cX8_trace 2 = .ok (.aload_n 0, 1) := by decide +kernel
theorem dX8_trace_3 : decode cX8_trace 3 = .ok (.getfield 263, 3) := by decide +kernel
theorem dX8_trace_6 : decode cX8_trace 6 = .ok (.iconst 1, 1) := by decide +kernel
theorem dX8_trace_7 : decode cX8_trace 7 = .ok (.isub, 1) := by decide +kernel
theorem dX8_trace_8 : decode cX8_trace 8 = .ok (.invokestatic 68, 3) := by decide +kernel
theorem dX8_trace_11 : decode cX8_trace 11 = .ok (.ifCond .eq 12, 3) := by decide +kernel
theorem dX8_trace_14 : decode cX8_trace 14 = .ok (.aload_n 0, 1) := by decide +kernel
theorem dX8_trace_15 : decode cX8_trace 15 = .ok (.getfield 57, 3) := by decide +kernel
theorem dX8_trace_18 : decode cX8_trace 18 = .ok (.iload_n 1, 1) := by decide +kernel
theorem dX8_trace_19 : decode cX8_trace 19 = .ok (.iaload, 1) := by decide +kernel
theorem dX8_trace_20 : decode cX8_trace 20 = .ok (.goto 5, 3) := by decide +kernel
theorem dX8_trace_23 : decode cX8_trace 23 = .ok (.ldc 60, 2) := by decide +kernel
theorem dX8_trace_25 : decode cX8_trace 25 = .ok (.ireturn, 1) := by decide +kernel
theorem dX8_count_0 : decode cX8_count 0 = .ok (.iconst 0, 1) := by decide +kernel
theorem dX8_count_1 : decode cX8_count 1 = .ok (.istore_n 2, 1) := by decide +kernel
theorem dX8_count_2 : decode cX8_count 2 = .ok (.iload_n 1, 1) := by decide +kernel
theorem dX8_count_3 : decode cX8_count 3 = .ok (.tableswitch 132 0 7 #[45, 77, 89, 98, 107, 116, 122, 127], 45) := by decide +kernel
theorem dX8_count_48 : decode cX8_count 48 = .ok (.iconst 0, 1) := by decide +kernel
theorem dX8_count_49 : decode cX8_count 49 = .ok (.istore_n 3, 1) := by decide +kernel
theorem dX8_count_50 : decode cX8_count 50 = .ok (.iload_n 3, 1) := by decide +kernel
theorem dX8_count_51 : decode cX8_count 51 = .ok (.bipush 8, 2) := by decide +kernel
theorem dX8_count_53 : decode cX8_count 53 = .ok (.if_icmp .ge 25, 3) := by decide +kernel
theorem dX8_count_56 : decode cX8_count 56 = .ok (.iload_n 2, 1) := by decide +kernel
theorem dX8_count_57 : decode cX8_count 57 = .ok (.aload_n 0, 1) := by decide +kernel
theorem dX8_count_58 : decode cX8_count 58 = .ok (.iload_n 3, 1) := by decide +kernel
theorem dX8_count_59 : decode cX8_count 59 = .ok (.invokevirtual 84, 3) := by decide +kernel
theorem dX8_count_62 : decode cX8_count 62 = .ok (.ifCond .eq 7, 3) := by decide +kernel
theorem dX8_count_65 : decode cX8_count 65 = .ok (.iconst 0, 1) := by decide +kernel
theorem dX8_count_66 : decode cX8_count 66 = .ok (.goto 4, 3) := by decide +kernel
theorem dX8_count_69 : decode cX8_count 69 = .ok (.iconst 1, 1) := by decide +kernel
theorem dX8_count_70 : decode cX8_count 70 = .ok (.iadd, 1) := by decide +kernel
theorem dX8_count_71 : decode cX8_count 71 = .ok (.istore_n 2, 1) := by decide +kernel
theorem dX8_count_72 : decode cX8_count 72 = .ok (.iinc 3 1, 3) := by decide +kernel
theorem dX8_count_75 : decode cX8_count 75 = .ok (.goto (-25), 3) := by decide +kernel
theorem dX8_count_78 : decode cX8_count 78 = .ok (.iload_n 2, 1) := by decide +kernel
theorem dX8_count_79 : decode cX8_count 79 = .ok (.ireturn, 1) := by decide +kernel
theorem dX8_count_80 : decode cX8_count 80 = .ok (.aload_n 0, 1) := by decide +kernel
theorem dX8_count_81 : decode cX8_count 81 = .ok (.getfield 25, 3) := by decide +kernel
theorem dX8_count_84 : decode cX8_count 84 = .ok (.bipush 10, 2) := by decide +kernel
theorem dX8_count_86 : decode cX8_count 86 = .ok (.laload, 1) := by decide +kernel
theorem dX8_count_87 : decode cX8_count 87 = .ok (.l2i, 1) := by decide +kernel
theorem dX8_count_88 : decode cX8_count 88 = .ok (.invokestatic 255, 3) := by decide +kernel
theorem dX8_count_91 : decode cX8_count 91 = .ok (.ireturn, 1) := by decide +kernel
theorem dX8_count_92 : decode cX8_count 92 = .ok (.aload_n 0, 1) := by decide +kernel
theorem dX8_count_93 : decode cX8_count 93 = .ok (.getfield 25, 3) := by decide +kernel
theorem dX8_count_96 : decode cX8_count 96 = .ok (.bipush 9, 2) := by decide +kernel
theorem dX8_count_98 : decode cX8_count 98 = .ok (.laload, 1) := by decide +kernel
theorem dX8_count_99 : decode cX8_count 99 = .ok (.l2i, 1) := by decide +kernel
theorem dX8_count_100 : decode cX8_count 100 = .ok (.ireturn, 1) := by decide +kernel
theorem dX8_count_101 : decode cX8_count 101 = .ok (.aload_n 0, 1) := by decide +kernel
theorem dX8_count_102 : decode cX8_count 102 = .ok (.getfield 25, 3) := by decide +kernel
theorem dX8_count_105 : decode cX8_count 105 = .ok (.bipush 10, 2) := by decide +kernel
theorem dX8_count_107 : decode cX8_count 107 = .ok (.laload, 1) := by decide +kernel
theorem dX8_count_108 : decode cX8_count 108 = .ok (.l2i, 1) := by decide +kernel
theorem dX8_count_109 : decode cX8_count 109 = .ok (.ireturn, 1) := by decide +kernel
theorem dX8_count_110 : decode cX8_count 110 = .ok (.aload_n 0, 1) := by decide +kernel
theorem dX8_count_111 : decode cX8_count 111 = .ok (.getfield 25, 3) := by decide +kernel
theorem dX8_count_114 : decode cX8_count 114 = .ok (.bipush 8, 2) := by decide +kernel
theorem dX8_count_116 : decode cX8_count 116 = .ok (.laload, 1) := by decide +kernel
theorem dX8_count_117 : decode cX8_count 117 = .ok (.l2i, 1) := by decide +kernel
theorem dX8_count_118 : decode cX8_count 118 = .ok (.ireturn, 1) := by decide +kernel
theorem dX8_count_119 : decode cX8_count 119 = .ok (.aload_n 0, 1) := by decide +kernel
theorem dX8_count_120 : decode cX8_count 120 = .ok (.invokevirtual 237, 3) := by decide +kernel
theorem dX8_count_123 : decode cX8_count 123 = .ok (.l2i, 1) := by decide +kernel
theorem dX8_count_124 : decode cX8_count 124 = .ok (.ireturn, 1) := by decide +kernel
theorem dX8_count_125 : decode cX8_count 125 = .ok (.aload_n 0, 1) := by decide +kernel
theorem dX8_count_126 : decode cX8_count 126 = .ok (.getfield 163, 3) := by decide +kernel
theorem dX8_count_129 : decode cX8_count 129 = .ok (.ireturn, 1) := by decide +kernel
theorem dX8_count_130 : decode cX8_count 130 = .ok (.aload_n 0, 1) := by decide +kernel
theorem dX8_count_131 : decode cX8_count 131 = .ok (.getfield 94, 3) := by decide +kernel
theorem dX8_count_134 : decode cX8_count 134 = .ok (.ireturn, 1) := by decide +kernel
theorem dX8_count_135 : decode cX8_count 135 = .ok (.ldc 76, 2) := by decide +kernel
theorem dX8_count_137 : decode cX8_count 137 = .ok (.ireturn, 1) := by decide +kernel
theorem dX8_status_0 : decode cX8_status 0 = .ok (.aload_n 0, 1) := by decide +kernel
theorem dX8_status_1 : decode cX8_status 1 = .ok (.getfield 63, 3) := by decide +kernel
theorem dX8_status_4 : decode cX8_status 4 = .ok (.ireturn, 1) := by decide +kernel
theorem dJ6_bitCount_0f7a4_0 : decode cJ6_bitCount_0f7a4 0 = .ok (.iload_n 0, 1) := by decide +kernel
theorem dJ6_bitCount_0f7a4_1 : decode cJ6_bitCount_0f7a4 1 = .ok (.iload_n 0, 1) := by decide +kernel
theorem dJ6_bitCount_0f7a4_2 : decode cJ6_bitCount_0f7a4 2 = .ok (.iconst 1, 1) := by decide +kernel
theorem dJ6_bitCount_0f7a4_3 : decode cJ6_bitCount_0f7a4 3 = .ok (.iushr, 1) := by decide +kernel
theorem dJ6_bitCount_0f7a4_4 : decode cJ6_bitCount_0f7a4 4 = .ok (.ldc_w 265, 3) := by decide +kernel
theorem dJ6_bitCount_0f7a4_7 : decode cJ6_bitCount_0f7a4 7 = .ok (.iand, 1) := by decide +kernel
theorem dJ6_bitCount_0f7a4_8 : decode cJ6_bitCount_0f7a4 8 = .ok (.isub, 1) := by decide +kernel
theorem dJ6_bitCount_0f7a4_9 : decode cJ6_bitCount_0f7a4 9 = .ok (.istore_n 0, 1) := by decide +kernel
theorem dJ6_bitCount_0f7a4_10 : decode cJ6_bitCount_0f7a4 10 = .ok (.iload_n 0, 1) := by decide +kernel
theorem dJ6_bitCount_0f7a4_11 : decode cJ6_bitCount_0f7a4 11 = .ok (.ldc_w 266, 3) := by decide +kernel
theorem dJ6_bitCount_0f7a4_14 : decode cJ6_bitCount_0f7a4 14 = .ok (.iand, 1) := by decide +kernel
theorem dJ6_bitCount_0f7a4_15 : decode cJ6_bitCount_0f7a4 15 = .ok (.iload_n 0, 1) := by decide +kernel
theorem dJ6_bitCount_0f7a4_16 : decode cJ6_bitCount_0f7a4 16 = .ok (.iconst 2, 1) := by decide +kernel
theorem dJ6_bitCount_0f7a4_17 : decode cJ6_bitCount_0f7a4 17 = .ok (.iushr, 1) := by decide +kernel
theorem dJ6_bitCount_0f7a4_18 : decode cJ6_bitCount_0f7a4 18 = .ok (.ldc_w 266, 3) := by decide +kernel
theorem dJ6_bitCount_0f7a4_21 : decode cJ6_bitCount_0f7a4 21 = .ok (.iand, 1) := by decide +kernel
theorem dJ6_bitCount_0f7a4_22 : decode cJ6_bitCount_0f7a4 22 = .ok (.iadd, 1) := by decide +kernel
theorem dJ6_bitCount_0f7a4_23 : decode cJ6_bitCount_0f7a4 23 = .ok (.istore_n 0, 1) := by decide +kernel
theorem dJ6_bitCount_0f7a4_24 : decode cJ6_bitCount_0f7a4 24 = .ok (.iload_n 0, 1) := by decide +kernel
theorem dJ6_bitCount_0f7a4_25 : decode cJ6_bitCount_0f7a4 25 = .ok (.iload_n 0, 1) := by decide +kernel
theorem dJ6_bitCount_0f7a4_26 : decode cJ6_bitCount_0f7a4 26 = .ok (.iconst 4, 1) := by decide +kernel
theorem dJ6_bitCount_0f7a4_27 : decode cJ6_bitCount_0f7a4 27 = .ok (.iushr, 1) := by decide +kernel
theorem dJ6_bitCount_0f7a4_28 : decode cJ6_bitCount_0f7a4 28 = .ok (.iadd, 1) := by decide +kernel
theorem dJ6_bitCount_0f7a4_29 : decode cJ6_bitCount_0f7a4 29 = .ok (.ldc_w 267, 3) := by decide +kernel
theorem dJ6_bitCount_0f7a4_32 : decode cJ6_bitCount_0f7a4 32 = .ok (.iand, 1) := by decide +kernel
theorem dJ6_bitCount_0f7a4_33 : decode cJ6_bitCount_0f7a4 33 = .ok (.istore_n 0, 1) := by decide +kernel
theorem dJ6_bitCount_0f7a4_34 : decode cJ6_bitCount_0f7a4 34 = .ok (.iload_n 0, 1) := by decide +kernel
theorem dJ6_bitCount_0f7a4_35 : decode cJ6_bitCount_0f7a4 35 = .ok (.iload_n 0, 1) := by decide +kernel
theorem dJ6_bitCount_0f7a4_36 : decode cJ6_bitCount_0f7a4 36 = .ok (.bipush 8, 2) := by decide +kernel
theorem dJ6_bitCount_0f7a4_38 : decode cJ6_bitCount_0f7a4 38 = .ok (.iushr, 1) := by decide +kernel
theorem dJ6_bitCount_0f7a4_39 : decode cJ6_bitCount_0f7a4 39 = .ok (.iadd, 1) := by decide +kernel
theorem dJ6_bitCount_0f7a4_40 : decode cJ6_bitCount_0f7a4 40 = .ok (.istore_n 0, 1) := by decide +kernel
theorem dJ6_bitCount_0f7a4_41 : decode cJ6_bitCount_0f7a4 41 = .ok (.iload_n 0, 1) := by decide +kernel
theorem dJ6_bitCount_0f7a4_42 : decode cJ6_bitCount_0f7a4 42 = .ok (.iload_n 0, 1) := by decide +kernel
theorem dJ6_bitCount_0f7a4_43 : decode cJ6_bitCount_0f7a4 43 = .ok (.bipush 16, 2) := by decide +kernel
theorem dJ6_bitCount_0f7a4_45 : decode cJ6_bitCount_0f7a4 45 = .ok (.iushr, 1) := by decide +kernel
theorem dJ6_bitCount_0f7a4_46 : decode cJ6_bitCount_0f7a4 46 = .ok (.iadd, 1) := by decide +kernel
theorem dJ6_bitCount_0f7a4_47 : decode cJ6_bitCount_0f7a4 47 = .ok (.istore_n 0, 1) := by decide +kernel
theorem dJ6_bitCount_0f7a4_48 : decode cJ6_bitCount_0f7a4 48 = .ok (.iload_n 0, 1) := by decide +kernel
theorem dJ6_bitCount_0f7a4_49 : decode cJ6_bitCount_0f7a4 49 = .ok (.bipush 63, 2) := by decide +kernel
theorem dJ6_bitCount_0f7a4_51 : decode cJ6_bitCount_0f7a4 51 = .ok (.iand, 1) := by decide +kernel
theorem dJ6_bitCount_0f7a4_52 : decode cJ6_bitCount_0f7a4 52 = .ok (.ireturn, 1) := by decide +kernel
theorem dJ9_abs_067f4_0 : decode cJ9_abs_067f4 0 = .ok (.lload_n 0, 1) := by decide +kernel
theorem dJ9_abs_067f4_1 : decode cJ9_abs_067f4 1 = .ok (.lconst 0, 1) := by decide +kernel
theorem dJ9_abs_067f4_2 : decode cJ9_abs_067f4 2 = .ok (.lcmp, 1) := by decide +kernel
theorem dJ9_abs_067f4_3 : decode cJ9_abs_067f4 3 = .ok (.ifCond .ge 8, 3) := by decide +kernel
theorem dJ9_abs_067f4_6 : decode cJ9_abs_067f4 6 = .ok (.lload_n 0, 1) := by decide +kernel
theorem dJ9_abs_067f4_7 : decode cJ9_abs_067f4 7 = .ok (.lneg, 1) := by decide +kernel
theorem dJ9_abs_067f4_8 : decode cJ9_abs_067f4 8 = .ok (.goto 4, 3) := by decide +kernel
theorem dJ9_abs_067f4_11 : decode cJ9_abs_067f4 11 = .ok (.lload_n 0, 1) := by decide +kernel
theorem dJ9_abs_067f4_12 : decode cJ9_abs_067f4 12 = .ok (.lreturn, 1) := by decide +kernel
theorem dJ9_max_f86c9_0 : decode cJ9_max_f86c9 0 = .ok (.lload_n 0, 1) := by decide +kernel
theorem dJ9_max_f86c9_1 : decode cJ9_max_f86c9 1 = .ok (.lload_n 2, 1) := by decide +kernel
theorem dJ9_max_f86c9_2 : decode cJ9_max_f86c9 2 = .ok (.lcmp, 1) := by decide +kernel
theorem dJ9_max_f86c9_3 : decode cJ9_max_f86c9 3 = .ok (.ifCond .lt 7, 3) := by decide +kernel
theorem dJ9_max_f86c9_6 : decode cJ9_max_f86c9 6 = .ok (.lload_n 0, 1) := by decide +kernel
theorem dJ9_max_f86c9_7 : decode cJ9_max_f86c9 7 = .ok (.goto 4, 3) := by decide +kernel
theorem dJ9_max_f86c9_10 : decode cJ9_max_f86c9 10 = .ok (.lload_n 2, 1) := by decide +kernel
theorem dJ9_max_f86c9_11 : decode cJ9_max_f86c9 11 = .ok (.lreturn, 1) := by decide +kernel
theorem dJ9_min_f86c9_0 : decode cJ9_min_f86c9 0 = .ok (.lload_n 0, 1) := by decide +kernel
theorem dJ9_min_f86c9_1 : decode cJ9_min_f86c9 1 = .ok (.lload_n 2, 1) := by decide +kernel
theorem dJ9_min_f86c9_2 : decode cJ9_min_f86c9 2 = .ok (.lcmp, 1) := by decide +kernel
theorem dJ9_min_f86c9_3 : decode cJ9_min_f86c9 3 = .ok (.ifCond .gt 7, 3) := by decide +kernel
theorem dJ9_min_f86c9_6 : decode cJ9_min_f86c9 6 = .ok (.lload_n 0, 1) := by decide +kernel
theorem dJ9_min_f86c9_7 : decode cJ9_min_f86c9 7 = .ok (.goto 4, 3) := by decide +kernel
theorem dJ9_min_f86c9_10 : decode cJ9_min_f86c9 10 = .ok (.lload_n 2, 1) := by decide +kernel
theorem dJ9_min_f86c9_11 : decode cJ9_min_f86c9 11 = .ok (.lreturn, 1) := by decide +kernel
theorem dJ7_fill_d0a16_0 : decode cJ7_fill_d0a16 0 = .ok (.iconst 0, 1) := by decide +kernel
theorem dJ7_fill_d0a16_1 : decode cJ7_fill_d0a16 1 = .ok (.istore_n 3, 1) := by decide +kernel
theorem dJ7_fill_d0a16_2 : decode cJ7_fill_d0a16 2 = .ok (.aload_n 0, 1) := by decide +kernel
theorem dJ7_fill_d0a16_3 : decode cJ7_fill_d0a16 3 = .ok (.arraylength, 1) := by decide +kernel
theorem dJ7_fill_d0a16_4 : decode cJ7_fill_d0a16 4 = .ok (.istore 4, 2) := by decide +kernel
theorem dJ7_fill_d0a16_6 : decode cJ7_fill_d0a16 6 = .ok (.iload_n 3, 1) := by decide +kernel
theorem dJ7_fill_d0a16_7 : decode cJ7_fill_d0a16 7 = .ok (.iload 4, 2) := by decide +kernel
theorem dJ7_fill_d0a16_9 : decode cJ7_fill_d0a16 9 = .ok (.if_icmp .ge 13, 3) := by decide +kernel
theorem dJ7_fill_d0a16_12 : decode cJ7_fill_d0a16 12 = .ok (.aload_n 0, 1) := by decide +kernel
theorem dJ7_fill_d0a16_13 : decode cJ7_fill_d0a16 13 = .ok (.iload_n 3, 1) := by decide +kernel
theorem dJ7_fill_d0a16_14 : decode cJ7_fill_d0a16 14 = .ok (.lload_n 1, 1) := by decide +kernel
theorem dJ7_fill_d0a16_15 : decode cJ7_fill_d0a16 15 = .ok (.lastore, 1) := by decide +kernel
theorem dJ7_fill_d0a16_16 : decode cJ7_fill_d0a16 16 = .ok (.iinc 3 1, 3) := by decide +kernel
theorem dJ7_fill_d0a16_19 : decode cJ7_fill_d0a16 19 = .ok (.goto (-13), 3) := by decide +kernel
theorem dJ7_fill_d0a16_22 : decode cJ7_fill_d0a16 22 = .ok (.return_, 1) := by decide +kernel
theorem dJ7_fill_53178_0 : decode cJ7_fill_53178 0 = .ok (.iconst 0, 1) := by decide +kernel
theorem dJ7_fill_53178_1 : decode cJ7_fill_53178 1 = .ok (.istore_n 2, 1) := by decide +kernel
theorem dJ7_fill_53178_2 : decode cJ7_fill_53178 2 = .ok (.aload_n 0, 1) := by decide +kernel
theorem dJ7_fill_53178_3 : decode cJ7_fill_53178 3 = .ok (.arraylength, 1) := by decide +kernel
theorem dJ7_fill_53178_4 : decode cJ7_fill_53178 4 = .ok (.istore_n 3, 1) := by decide +kernel
theorem dJ7_fill_53178_5 : decode cJ7_fill_53178 5 = .ok (.iload_n 2, 1) := by decide +kernel
theorem dJ7_fill_53178_6 : decode cJ7_fill_53178 6 = .ok (.iload_n 3, 1) := by decide +kernel
theorem dJ7_fill_53178_7 : decode cJ7_fill_53178 7 = .ok (.if_icmp .ge 13, 3) := by decide +kernel
theorem dJ7_fill_53178_10 : decode cJ7_fill_53178 10 = .ok (.aload_n 0, 1) := by decide +kernel
theorem dJ7_fill_53178_11 : decode cJ7_fill_53178 11 = .ok (.iload_n 2, 1) := by decide +kernel
theorem dJ7_fill_53178_12 : decode cJ7_fill_53178 12 = .ok (.iload_n 1, 1) := by decide +kernel
theorem dJ7_fill_53178_13 : decode cJ7_fill_53178 13 = .ok (.iastore, 1) := by decide +kernel
theorem dJ7_fill_53178_14 : decode cJ7_fill_53178 14 = .ok (.iinc 2 1, 3) := by decide +kernel
theorem dJ7_fill_53178_17 : decode cJ7_fill_53178 17 = .ok (.goto (-12), 3) := by decide +kernel
theorem dJ7_fill_53178_20 : decode cJ7_fill_53178 20 = .ok (.return_, 1) := by decide +kernel
theorem dL_law_0 : decode cL_law 0 = .ok (.new 7, 3) := by decide +kernel
theorem dL_law_3 : decode cL_law 3 = .ok (.dup, 1) := by decide +kernel
theorem dL_law_4 : decode cL_law 4 = .ok (.invokespecial 9, 3) := by decide +kernel
theorem dL_law_7 : decode cL_law 7 = .ok (.astore_n 1, 1) := by decide +kernel
theorem dL_law_8 : decode cL_law 8 = .ok (.new 10, 3) := by decide +kernel
theorem dL_law_11 : decode cL_law 11 = .ok (.dup, 1) := by decide +kernel
theorem dL_law_12 : decode cL_law 12 = .ok (.invokespecial 12, 3) := by decide +kernel
theorem dL_law_15 : decode cL_law 15 = .ok (.astore_n 2, 1) := by decide +kernel
theorem dL_law_16 : decode cL_law 16 = .ok (.iconst 0, 1) := by decide +kernel
theorem dL_law_17 : decode cL_law 17 = .ok (.istore_n 3, 1) := by decide +kernel
theorem dL_law_18 : decode cL_law 18 = .ok (.iload_n 3, 1) := by decide +kernel
theorem dL_law_19 : decode cL_law 19 = .ok (.aload_n 0, 1) := by decide +kernel
theorem dL_law_20 : decode cL_law 20 = .ok (.arraylength, 1) := by decide +kernel
theorem dL_law_21 : decode cL_law 21 = .ok (.bipush 6, 2) := by decide +kernel
theorem dL_law_23 : decode cL_law 23 = .ok (.isub, 1) := by decide +kernel
theorem dL_law_24 : decode cL_law 24 = .ok (.if_icmp .gt 1146, 3) := by decide +kernel
theorem dL_law_27 : decode cL_law 27 = .ok (.aload_n 0, 1) := by decide +kernel
theorem dL_law_28 : decode cL_law 28 = .ok (.iload_n 3, 1) := by decide +kernel
theorem dL_law_29 : decode cL_law 29 = .ok (.iaload, 1) := by decide +kernel
theorem dL_law_30 : decode cL_law 30 = .ok (.bipush 63, 2) := by decide +kernel
theorem dL_law_32 : decode cL_law 32 = .ok (.iand, 1) := by decide +kernel
theorem dL_law_33 : decode cL_law 33 = .ok (.tableswitch 1131 0 35 #[159, 202, 245, 308, 331, 354, 367, 380, 413, 446, 479, 502, 535, 568, 581, 604, 627, 650, 663, 687, 721, 745, 789, 832, 855, 878, 901, 914, 937, 960, 983, 1006, 1039, 1072, 1095, 1118], 159) := by decide +kernel
theorem dL_law_192 : decode cL_law 192 = .ok (.aload_n 1, 1) := by decide +kernel
theorem dL_law_193 : decode cL_law 193 = .ok (.aload_n 0, 1) := by decide +kernel
theorem dL_law_194 : decode cL_law 194 = .ok (.iload_n 3, 1) := by decide +kernel
theorem dL_law_195 : decode cL_law 195 = .ok (.iconst 1, 1) := by decide +kernel
theorem dL_law_196 : decode cL_law 196 = .ok (.iadd, 1) := by decide +kernel
theorem dL_law_197 : decode cL_law 197 = .ok (.iaload, 1) := by decide +kernel
theorem dL_law_198 : decode cL_law 198 = .ok (.aload_n 0, 1) := by decide +kernel
theorem dL_law_199 : decode cL_law 199 = .ok (.iload_n 3, 1) := by decide +kernel
theorem dL_law_200 : decode cL_law 200 = .ok (.iconst 2, 1) := by decide +kernel
theorem dL_law_201 : decode cL_law 201 = .ok (.iadd, 1) := by decide +kernel
theorem dL_law_202 : decode cL_law 202 = .ok (.iaload, 1) := by decide +kernel
theorem dL_law_203 : decode cL_law 203 = .ok (.aload_n 0, 1) := by decide +kernel
theorem dL_law_204 : decode cL_law 204 = .ok (.iload_n 3, 1) := by decide +kernel
theorem dL_law_205 : decode cL_law 205 = .ok (.iconst 3, 1) := by decide +kernel
theorem dL_law_206 : decode cL_law 206 = .ok (.iadd, 1) := by decide +kernel
theorem dL_law_207 : decode cL_law 207 = .ok (.iaload, 1) := by decide +kernel
theorem dL_law_208 : decode cL_law 208 = .ok (.invokevirtual 13, 3) := by decide +kernel
theorem dL_law_211 : decode cL_law 211 = .ok (.aload_n 2, 1) := by decide +kernel
theorem dL_law_212 : decode cL_law 212 = .ok (.aload_n 0, 1) := by decide +kernel
theorem dL_law_213 : decode cL_law 213 = .ok (.iload_n 3, 1) := by decide +kernel
theorem dL_law_214 : decode cL_law 214 = .ok (.iconst 1, 1) := by decide +kernel
theorem dL_law_215 : decode cL_law 215 = .ok (.iadd, 1) := by decide +kernel
theorem dL_law_216 : decode cL_law 216 = .ok (.iaload, 1) := by decide +kernel
theorem dL_law_217 : decode cL_law 217 = .ok (.aload_n 0, 1) := by decide +kernel
theorem dL_law_218 : decode cL_law 218 = .ok (.iload_n 3, 1) := by decide +kernel
theorem dL_law_219 : decode cL_law 219 = .ok (.iconst 2, 1) := by decide +kernel
theorem dL_law_220 : decode cL_law 220 = .ok (.iadd, 1) := by decide +kernel
theorem dL_law_221 : decode cL_law 221 = .ok (.iaload, 1) := by decide +kernel
theorem dL_law_222 : decode cL_law 222 = .ok (.aload_n 0, 1) := by decide +kernel
theorem dL_law_223 : decode cL_law 223 = .ok (.iload_n 3, 1) := by decide +kernel
theorem dL_law_224 : decode cL_law 224 = .ok (.iconst 3, 1) := by decide +kernel
theorem dL_law_225 : decode cL_law 225 = .ok (.iadd, 1) := by decide +kernel
theorem dL_law_226 : decode cL_law 226 = .ok (.iaload, 1) := by decide +kernel
theorem dL_law_227 : decode cL_law 227 = .ok (.invokevirtual 17, 3) := by decide +kernel
theorem dL_law_230 : decode cL_law 230 = .ok (.if_icmp .eq 934, 3) := by decide +kernel
theorem dL_law_233 : decode cL_law 233 = .ok (.iconst 0, 1) := by decide +kernel
theorem dL_law_234 : decode cL_law 234 = .ok (.ireturn, 1) := by decide +kernel
theorem dL_law_235 : decode cL_law 235 = .ok (.aload_n 1, 1) := by decide +kernel
theorem dL_law_236 : decode cL_law 236 = .ok (.aload_n 0, 1) := by decide +kernel
theorem dL_law_237 : decode cL_law 237 = .ok (.iload_n 3, 1) := by decide +kernel
theorem dL_law_238 : decode cL_law 238 = .ok (.iconst 1, 1) := by decide +kernel
theorem dL_law_239 : decode cL_law 239 = .ok (.iadd, 1) := by decide +kernel
theorem dL_law_240 : decode cL_law 240 = .ok (.iaload, 1) := by decide +kernel
theorem dL_law_241 : decode cL_law 241 = .ok (.aload_n 0, 1) := by decide +kernel
theorem dL_law_242 : decode cL_law 242 = .ok (.iload_n 3, 1) := by decide +kernel
theorem dL_law_243 : decode cL_law 243 = .ok (.iconst 2, 1) := by decide +kernel
theorem dL_law_244 : decode cL_law 244 = .ok (.iadd, 1) := by decide +kernel
theorem dL_law_245 : decode cL_law 245 = .ok (.iaload, 1) := by decide +kernel
theorem dL_law_246 : decode cL_law 246 = .ok (.aload_n 0, 1) := by decide +kernel
theorem dL_law_247 : decode cL_law 247 = .ok (.iload_n 3, 1) := by decide +kernel
theorem dL_law_248 : decode cL_law 248 = .ok (.iconst 3, 1) := by decide +kernel
theorem dL_law_249 : decode cL_law 249 = .ok (.iadd, 1) := by decide +kernel
theorem dL_law_250 : decode cL_law 250 = .ok (.iaload, 1) := by decide +kernel
theorem dL_law_251 : decode cL_law 251 = .ok (.invokevirtual 18, 3) := by decide +kernel
theorem dL_law_254 : decode cL_law 254 = .ok (.aload_n 2, 1) := by decide +kernel
theorem dL_law_255 : decode cL_law 255 = .ok (.aload_n 0, 1) := by decide +kernel
theorem dL_law_256 : decode cL_law 256 = .ok (.iload_n 3, 1) := by decide +kernel
theorem dL_law_257 : decode cL_law 257 = .ok (.iconst 1, 1) := by decide +kernel
theorem dL_law_258 : decode cL_law 258 = .ok (.iadd, 1) := by decide +kernel
theorem dL_law_259 : decode cL_law 259 = .ok (.iaload, 1) := by decide +kernel
theorem dL_law_260 : decode cL_law 260 = .ok (.aload_n 0, 1) := by decide +kernel
theorem dL_law_261 : decode cL_law 261 = .ok (.iload_n 3, 1) := by decide +kernel
theorem dL_law_262 : decode cL_law 262 = .ok (.iconst 2, 1) := by decide +kernel
theorem dL_law_263 : decode cL_law 263 = .ok (.iadd, 1) := by decide +kernel
theorem dL_law_264 : decode cL_law 264 = .ok (.iaload, 1) := by decide +kernel
theorem dL_law_265 : decode cL_law 265 = .ok (.aload_n 0, 1) := by decide +kernel
theorem dL_law_266 : decode cL_law 266 = .ok (.iload_n 3, 1) := by decide +kernel
theorem dL_law_267 : decode cL_law 267 = .ok (.iconst 3, 1) := by decide +kernel
theorem dL_law_268 : decode cL_law 268 = .ok (.iadd, 1) := by decide +kernel
theorem dL_law_269 : decode cL_law 269 = .ok (.iaload, 1) := by decide +kernel
theorem dL_law_270 : decode cL_law 270 = .ok (.invokevirtual 21, 3) := by decide +kernel
theorem dL_law_273 : decode cL_law 273 = .ok (.if_icmp .eq 891, 3) := by decide +kernel
theorem dL_law_276 : decode cL_law 276 = .ok (.iconst 0, 1) := by decide +kernel
theorem dL_law_277 : decode cL_law 277 = .ok (.ireturn, 1) := by decide +kernel
theorem dL_law_278 : decode cL_law 278 = .ok (.aload_n 1, 1) := by decide +kernel
theorem dL_law_279 : decode cL_law 279 = .ok (.aload_n 0, 1) := by decide +kernel
theorem dL_law_280 : decode cL_law 280 = .ok (.iload_n 3, 1) := by decide +kernel
theorem dL_law_281 : decode cL_law 281 = .ok (.iconst 1, 1) := by decide +kernel
theorem dL_law_282 : decode cL_law 282 = .ok (.iadd, 1) := by decide +kernel
theorem dL_law_283 : decode cL_law 283 = .ok (.iaload, 1) := by decide +kernel
theorem dL_law_284 : decode cL_law 284 = .ok (.aload_n 0, 1) := by decide +kernel
theorem dL_law_285 : decode cL_law 285 = .ok (.iload_n 3, 1) := by decide +kernel
theorem dL_law_286 : decode cL_law 286 = .ok (.iconst 2, 1) := by decide +kernel
theorem dL_law_287 : decode cL_law 287 = .ok (.iadd, 1) := by decide +kernel
theorem dL_law_288 : decode cL_law 288 = .ok (.iaload, 1) := by decide +kernel
theorem dL_law_289 : decode cL_law 289 = .ok (.aload_n 0, 1) := by decide +kernel
theorem dL_law_290 : decode cL_law 290 = .ok (.iload_n 3, 1) := by decide +kernel
theorem dL_law_291 : decode cL_law 291 = .ok (.iconst 3, 1) := by decide +kernel
theorem dL_law_292 : decode cL_law 292 = .ok (.iadd, 1) := by decide +kernel
theorem dL_law_293 : decode cL_law 293 = .ok (.iaload, 1) := by decide +kernel
theorem dL_law_294 : decode cL_law 294 = .ok (.aload_n 0, 1) := by decide +kernel
theorem dL_law_295 : decode cL_law 295 = .ok (.iload_n 3, 1) := by decide +kernel
theorem dL_law_296 : decode cL_law 296 = .ok (.iconst 4, 1) := by decide +kernel
theorem dL_law_297 : decode cL_law 297 = .ok (.iadd, 1) := by decide +kernel
theorem dL_law_298 : decode cL_law 298 = .ok (.iaload, 1) := by decide +kernel
theorem dL_law_299 : decode cL_law 299 = .ok (.aload_n 0, 1) := by decide +kernel
theorem dL_law_300 : decode cL_law 300 = .ok (.iload_n 3, 1) := by decide +kernel
theorem dL_law_301 : decode cL_law 301 = .ok (.iconst 5, 1) := by decide +kernel
theorem dL_law_302 : decode cL_law 302 = .ok (.iadd, 1) := by decide +kernel
theorem dL_law_303 : decode cL_law 303 = .ok (.iaload, 1) := by decide +kernel
theorem dL_law_304 : decode cL_law 304 = .ok (.invokevirtual 22, 3) := by decide +kernel
theorem dL_law_307 : decode cL_law 307 = .ok (.aload_n 2, 1) := by decide +kernel
theorem dL_law_308 : decode cL_law 308 = .ok (.aload_n 0, 1) := by decide +kernel
theorem dL_law_309 : decode cL_law 309 = .ok (.iload_n 3, 1) := by decide +kernel
theorem dL_law_310 : decode cL_law 310 = .ok (.iconst 1, 1) := by decide +kernel
theorem dL_law_311 : decode cL_law 311 = .ok (.iadd, 1) := by decide +kernel
theorem dL_law_312 : decode cL_law 312 = .ok (.iaload, 1) := by decide +kernel
theorem dL_law_313 : decode cL_law 313 = .ok (.aload_n 0, 1) := by decide +kernel
theorem dL_law_314 : decode cL_law 314 = .ok (.iload_n 3, 1) := by decide +kernel
theorem dL_law_315 : decode cL_law 315 = .ok (.iconst 2, 1) := by decide +kernel
theorem dL_law_316 : decode cL_law 316 = .ok (.iadd, 1) := by decide +kernel
theorem dL_law_317 : decode cL_law 317 = .ok (.iaload, 1) := by decide +kernel
theorem dL_law_318 : decode cL_law 318 = .ok (.aload_n 0, 1) := by decide +kernel
theorem dL_law_319 : decode cL_law 319 = .ok (.iload_n 3, 1) := by decide +kernel
theorem dL_law_320 : decode cL_law 320 = .ok (.iconst 3, 1) := by decide +kernel
theorem dL_law_321 : decode cL_law 321 = .ok (.iadd, 1) := by decide +kernel
theorem dL_law_322 : decode cL_law 322 = .ok (.iaload, 1) := by decide +kernel
theorem dL_law_323 : decode cL_law 323 = .ok (.aload_n 0, 1) := by decide +kernel
theorem dL_law_324 : decode cL_law 324 = .ok (.iload_n 3, 1) := by decide +kernel
theorem dL_law_325 : decode cL_law 325 = .ok (.iconst 4, 1) := by decide +kernel
theorem dL_law_326 : decode cL_law 326 = .ok (.iadd, 1) := by decide +kernel
theorem dL_law_327 : decode cL_law 327 = .ok (.iaload, 1) := by decide +kernel
theorem dL_law_328 : decode cL_law 328 = .ok (.aload_n 0, 1) := by decide +kernel
theorem dL_law_329 : decode cL_law 329 = .ok (.iload_n 3, 1) := by decide +kernel
theorem dL_law_330 : decode cL_law 330 = .ok (.iconst 5, 1) := by decide +kernel
theorem dL_law_331 : decode cL_law 331 = .ok (.iadd, 1) := by decide +kernel
theorem dL_law_332 : decode cL_law 332 = .ok (.iaload, 1) := by decide +kernel
theorem dL_law_333 : decode cL_law 333 = .ok (.invokevirtual 26, 3) := by decide +kernel
theorem dL_law_336 : decode cL_law 336 = .ok (.if_icmp .eq 828, 3) := by decide +kernel
theorem dL_law_339 : decode cL_law 339 = .ok (.iconst 0, 1) := by decide +kernel
theorem dL_law_340 : decode cL_law 340 = .ok (.ireturn, 1) := by decide +kernel
theorem dL_law_341 : decode cL_law 341 = .ok (.aload_n 1, 1) := by decide +kernel
theorem dL_law_342 : decode cL_law 342 = .ok (.aload_n 0, 1) := by decide +kernel
theorem dL_law_343 : decode cL_law 343 = .ok (.iload_n 3, 1) := by decide +kernel
theorem dL_law_344 : decode cL_law 344 = .ok (.iconst 1, 1) := by decide +kernel
theorem dL_law_345 : decode cL_law 345 = .ok (.iadd, 1) := by decide +kernel
theorem dL_law_346 : decode cL_law 346 = .ok (.iaload, 1) := by decide +kernel
theorem dL_law_347 : decode cL_law 347 = .ok (.invokevirtual 27, 3) := by decide +kernel
theorem dL_law_350 : decode cL_law 350 = .ok (.aload_n 2, 1) := by decide +kernel
theorem dL_law_351 : decode cL_law 351 = .ok (.aload_n 0, 1) := by decide +kernel
theorem dL_law_352 : decode cL_law 352 = .ok (.iload_n 3, 1) := by decide +kernel
theorem dL_law_353 : decode cL_law 353 = .ok (.iconst 1, 1) := by decide +kernel
theorem dL_law_354 : decode cL_law 354 = .ok (.iadd, 1) := by decide +kernel
theorem dL_law_355 : decode cL_law 355 = .ok (.iaload, 1) := by decide +kernel
theorem dL_law_356 : decode cL_law 356 = .ok (.invokevirtual 31, 3) := by decide +kernel
theorem dL_law_359 : decode cL_law 359 = .ok (.if_icmp .eq 805, 3) := by decide +kernel
theorem dL_law_362 : decode cL_law 362 = .ok (.iconst 0, 1) := by decide +kernel
theorem dL_law_363 : decode cL_law 363 = .ok (.ireturn, 1) := by decide +kernel
theorem dL_law_364 : decode cL_law 364 = .ok (.aload_n 1, 1) := by decide +kernel
theorem dL_law_365 : decode cL_law 365 = .ok (.aload_n 0, 1) := by decide +kernel
theorem dL_law_366 : decode cL_law 366 = .ok (.iload_n 3, 1) := by decide +kernel
theorem dL_law_367 : decode cL_law 367 = .ok (.iconst 1, 1) := by decide +kernel
theorem dL_law_368 : decode cL_law 368 = .ok (.iadd, 1) := by decide +kernel
theorem dL_law_369 : decode cL_law 369 = .ok (.iaload, 1) := by decide +kernel
theorem dL_law_370 : decode cL_law 370 = .ok (.invokevirtual 32, 3) := by decide +kernel
theorem dL_law_373 : decode cL_law 373 = .ok (.aload_n 2, 1) := by decide +kernel
theorem dL_law_374 : decode cL_law 374 = .ok (.aload_n 0, 1) := by decide +kernel
theorem dL_law_375 : decode cL_law 375 = .ok (.iload_n 3, 1) := by decide +kernel
theorem dL_law_376 : decode cL_law 376 = .ok (.iconst 1, 1) := by decide +kernel
theorem dL_law_377 : decode cL_law 377 = .ok (.iadd, 1) := by decide +kernel
theorem dL_law_378 : decode cL_law 378 = .ok (.iaload, 1) := by decide +kernel
theorem dL_law_379 : decode cL_law 379 = .ok (.invokevirtual 35, 3) := by decide +kernel
theorem dL_law_382 : decode cL_law 382 = .ok (.if_icmp .eq 782, 3) := by decide +kernel
theorem dL_law_385 : decode cL_law 385 = .ok (.iconst 0, 1) := by decide +kernel
theorem dL_law_386 : decode cL_law 386 = .ok (.ireturn, 1) := by decide +kernel
theorem dL_law_387 : decode cL_law 387 = .ok (.aload_n 1, 1) := by decide +kernel
theorem dL_law_388 : decode cL_law 388 = .ok (.invokevirtual 36, 3) := by decide +kernel
theorem dL_law_391 : decode cL_law 391 = .ok (.aload_n 2, 1) := by decide +kernel
theorem dL_law_392 : decode cL_law 392 = .ok (.invokevirtual 40, 3) := by decide +kernel
theorem dL_law_395 : decode cL_law 395 = .ok (.if_icmp .eq 769, 3) := by decide +kernel
theorem dL_law_398 : decode cL_law 398 = .ok (.iconst 0, 1) := by decide +kernel
theorem dL_law_399 : decode cL_law 399 = .ok (.ireturn, 1) := by decide +kernel
theorem dL_law_400 : decode cL_law 400 = .ok (.aload_n 1, 1) := by decide +kernel
theorem dL_law_401 : decode cL_law 401 = .ok (.invokevirtual 41, 3) := by decide +kernel
theorem dL_law_404 : decode cL_law 404 = .ok (.aload_n 2, 1) := by decide +kernel
theorem dL_law_405 : decode cL_law 405 = .ok (.invokevirtual 44, 3) := by decide +kernel
theorem dL_law_408 : decode cL_law 408 = .ok (.if_icmp .eq 756, 3) := by decide +kernel
theorem dL_law_411 : decode cL_law 411 = .ok (.iconst 0, 1) := by decide +kernel
theorem dL_law_412 : decode cL_law 412 = .ok (.ireturn, 1) := by decide +kernel
theorem dL_law_413 : decode cL_law 413 = .ok (.aload_n 1, 1) := by decide +kernel
theorem dL_law_414 : decode cL_law 414 = .ok (.aload_n 0, 1) := by decide +kernel
theorem dL_law_415 : decode cL_law 415 = .ok (.iload_n 3, 1) := by decide +kernel
theorem dL_law_416 : decode cL_law 416 = .ok (.iconst 1, 1) := by decide +kernel
theorem dL_law_417 : decode cL_law 417 = .ok (.iadd, 1) := by decide +kernel
theorem dL_law_418 : decode cL_law 418 = .ok (.iaload, 1) := by decide +kernel
theorem dL_law_419 : decode cL_law 419 = .ok (.aload_n 0, 1) := by decide +kernel
theorem dL_law_420 : decode cL_law 420 = .ok (.iload_n 3, 1) := by decide +kernel
theorem dL_law_421 : decode cL_law 421 = .ok (.iconst 2, 1) := by decide +kernel
theorem dL_law_422 : decode cL_law 422 = .ok (.iadd, 1) := by decide +kernel
theorem dL_law_423 : decode cL_law 423 = .ok (.iaload, 1) := by decide +kernel
theorem dL_law_424 : decode cL_law 424 = .ok (.invokevirtual 45, 3) := by decide +kernel
theorem dL_law_427 : decode cL_law 427 = .ok (.aload_n 2, 1) := by decide +kernel
theorem dL_law_428 : decode cL_law 428 = .ok (.aload_n 0, 1) := by decide +kernel
theorem dL_law_429 : decode cL_law 429 = .ok (.iload_n 3, 1) := by decide +kernel
theorem dL_law_430 : decode cL_law 430 = .ok (.iconst 1, 1) := by decide +kernel
theorem dL_law_431 : decode cL_law 431 = .ok (.iadd, 1) := by decide +kernel
theorem dL_law_432 : decode cL_law 432 = .ok (.iaload, 1) := by decide +kernel
theorem dL_law_433 : decode cL_law 433 = .ok (.aload_n 0, 1) := by decide +kernel
theorem dL_law_434 : decode cL_law 434 = .ok (.iload_n 3, 1) := by decide +kernel
theorem dL_law_435 : decode cL_law 435 = .ok (.iconst 2, 1) := by decide +kernel
theorem dL_law_436 : decode cL_law 436 = .ok (.iadd, 1) := by decide +kernel
theorem dL_law_437 : decode cL_law 437 = .ok (.iaload, 1) := by decide +kernel
theorem dL_law_438 : decode cL_law 438 = .ok (.invokevirtual 49, 3) := by decide +kernel
theorem dL_law_441 : decode cL_law 441 = .ok (.if_icmp .eq 723, 3) := by decide +kernel
theorem dL_law_444 : decode cL_law 444 = .ok (.iconst 0, 1) := by decide +kernel
theorem dL_law_445 : decode cL_law 445 = .ok (.ireturn, 1) := by decide +kernel
theorem dL_law_446 : decode cL_law 446 = .ok (.aload_n 1, 1) := by decide +kernel
theorem dL_law_447 : decode cL_law 447 = .ok (.aload_n 0, 1) := by decide +kernel
theorem dL_law_448 : decode cL_law 448 = .ok (.iload_n 3, 1) := by decide +kernel
theorem dL_law_449 : decode cL_law 449 = .ok (.iconst 1, 1) := by decide +kernel
theorem dL_law_450 : decode cL_law 450 = .ok (.iadd, 1) := by decide +kernel
theorem dL_law_451 : decode cL_law 451 = .ok (.iaload, 1) := by decide +kernel
theorem dL_law_452 : decode cL_law 452 = .ok (.aload_n 0, 1) := by decide +kernel
theorem dL_law_453 : decode cL_law 453 = .ok (.iload_n 3, 1) := by decide +kernel
theorem dL_law_454 : decode cL_law 454 = .ok (.iconst 2, 1) := by decide +kernel
theorem dL_law_455 : decode cL_law 455 = .ok (.iadd, 1) := by decide +kernel
theorem dL_law_456 : decode cL_law 456 = .ok (.iaload, 1) := by decide +kernel
theorem dL_law_457 : decode cL_law 457 = .ok (.invokevirtual 50, 3) := by decide +kernel
theorem dL_law_460 : decode cL_law 460 = .ok (.aload_n 2, 1) := by decide +kernel
theorem dL_law_461 : decode cL_law 461 = .ok (.aload_n 0, 1) := by decide +kernel
theorem dL_law_462 : decode cL_law 462 = .ok (.iload_n 3, 1) := by decide +kernel
theorem dL_law_463 : decode cL_law 463 = .ok (.iconst 1, 1) := by decide +kernel
theorem dL_law_464 : decode cL_law 464 = .ok (.iadd, 1) := by decide +kernel
theorem dL_law_465 : decode cL_law 465 = .ok (.iaload, 1) := by decide +kernel
theorem dL_law_466 : decode cL_law 466 = .ok (.aload_n 0, 1) := by decide +kernel
theorem dL_law_467 : decode cL_law 467 = .ok (.iload_n 3, 1) := by decide +kernel
theorem dL_law_468 : decode cL_law 468 = .ok (.iconst 2, 1) := by decide +kernel
theorem dL_law_469 : decode cL_law 469 = .ok (.iadd, 1) := by decide +kernel
theorem dL_law_470 : decode cL_law 470 = .ok (.iaload, 1) := by decide +kernel
theorem dL_law_471 : decode cL_law 471 = .ok (.invokevirtual 53, 3) := by decide +kernel
theorem dL_law_474 : decode cL_law 474 = .ok (.if_icmp .eq 690, 3) := by decide +kernel
theorem dL_law_477 : decode cL_law 477 = .ok (.iconst 0, 1) := by decide +kernel
theorem dL_law_478 : decode cL_law 478 = .ok (.ireturn, 1) := by decide +kernel
theorem dL_law_479 : decode cL_law 479 = .ok (.aload_n 1, 1) := by decide +kernel
theorem dL_law_480 : decode cL_law 480 = .ok (.aload_n 0, 1) := by decide +kernel
theorem dL_law_481 : decode cL_law 481 = .ok (.iload_n 3, 1) := by decide +kernel
theorem dL_law_482 : decode cL_law 482 = .ok (.iconst 1, 1) := by decide +kernel
theorem dL_law_483 : decode cL_law 483 = .ok (.iadd, 1) := by decide +kernel
theorem dL_law_484 : decode cL_law 484 = .ok (.iaload, 1) := by decide +kernel
theorem dL_law_485 : decode cL_law 485 = .ok (.aload_n 0, 1) := by decide +kernel
theorem dL_law_486 : decode cL_law 486 = .ok (.iload_n 3, 1) := by decide +kernel
theorem dL_law_487 : decode cL_law 487 = .ok (.iconst 2, 1) := by decide +kernel
theorem dL_law_488 : decode cL_law 488 = .ok (.iadd, 1) := by decide +kernel
theorem dL_law_489 : decode cL_law 489 = .ok (.iaload, 1) := by decide +kernel
theorem dL_law_490 : decode cL_law 490 = .ok (.invokevirtual 54, 3) := by decide +kernel
theorem dL_law_493 : decode cL_law 493 = .ok (.aload_n 2, 1) := by decide +kernel
theorem dL_law_494 : decode cL_law 494 = .ok (.aload_n 0, 1) := by decide +kernel
theorem dL_law_495 : decode cL_law 495 = .ok (.iload_n 3, 1) := by decide +kernel
theorem dL_law_496 : decode cL_law 496 = .ok (.iconst 1, 1) := by decide +kernel
theorem dL_law_497 : decode cL_law 497 = .ok (.iadd, 1) := by decide +kernel
theorem dL_law_498 : decode cL_law 498 = .ok (.iaload, 1) := by decide +kernel
theorem dL_law_499 : decode cL_law 499 = .ok (.aload_n 0, 1) := by decide +kernel
theorem dL_law_500 : decode cL_law 500 = .ok (.iload_n 3, 1) := by decide +kernel
theorem dL_law_501 : decode cL_law 501 = .ok (.iconst 2, 1) := by decide +kernel
theorem dL_law_502 : decode cL_law 502 = .ok (.iadd, 1) := by decide +kernel
theorem dL_law_503 : decode cL_law 503 = .ok (.iaload, 1) := by decide +kernel
theorem dL_law_504 : decode cL_law 504 = .ok (.invokevirtual 57, 3) := by decide +kernel
theorem dL_law_507 : decode cL_law 507 = .ok (.if_icmp .eq 657, 3) := by decide +kernel
theorem dL_law_510 : decode cL_law 510 = .ok (.iconst 0, 1) := by decide +kernel
theorem dL_law_511 : decode cL_law 511 = .ok (.ireturn, 1) := by decide +kernel
theorem dL_law_512 : decode cL_law 512 = .ok (.aload_n 1, 1) := by decide +kernel
theorem dL_law_513 : decode cL_law 513 = .ok (.aload_n 0, 1) := by decide +kernel
theorem dL_law_514 : decode cL_law 514 = .ok (.iload_n 3, 1) := by decide +kernel
theorem dL_law_515 : decode cL_law 515 = .ok (.iconst 1, 1) := by decide +kernel
theorem dL_law_516 : decode cL_law 516 = .ok (.iadd, 1) := by decide +kernel
theorem dL_law_517 : decode cL_law 517 = .ok (.iaload, 1) := by decide +kernel
theorem dL_law_518 : decode cL_law 518 = .ok (.invokevirtual 58, 3) := by decide +kernel
theorem dL_law_521 : decode cL_law 521 = .ok (.aload_n 2, 1) := by decide +kernel
theorem dL_law_522 : decode cL_law 522 = .ok (.aload_n 0, 1) := by decide +kernel
theorem dL_law_523 : decode cL_law 523 = .ok (.iload_n 3, 1) := by decide +kernel
theorem dL_law_524 : decode cL_law 524 = .ok (.iconst 1, 1) := by decide +kernel
theorem dL_law_525 : decode cL_law 525 = .ok (.iadd, 1) := by decide +kernel
theorem dL_law_526 : decode cL_law 526 = .ok (.iaload, 1) := by decide +kernel
theorem dL_law_527 : decode cL_law 527 = .ok (.invokevirtual 61, 3) := by decide +kernel
theorem dL_law_530 : decode cL_law 530 = .ok (.if_icmp .eq 634, 3) := by decide +kernel
theorem dL_law_533 : decode cL_law 533 = .ok (.iconst 0, 1) := by decide +kernel
theorem dL_law_534 : decode cL_law 534 = .ok (.ireturn, 1) := by decide +kernel
theorem dL_law_535 : decode cL_law 535 = .ok (.aload_n 1, 1) := by decide +kernel
theorem dL_law_536 : decode cL_law 536 = .ok (.aload_n 0, 1) := by decide +kernel
theorem dL_law_537 : decode cL_law 537 = .ok (.iload_n 3, 1) := by decide +kernel
theorem dL_law_538 : decode cL_law 538 = .ok (.iconst 1, 1) := by decide +kernel
theorem dL_law_539 : decode cL_law 539 = .ok (.iadd, 1) := by decide +kernel
theorem dL_law_540 : decode cL_law 540 = .ok (.iaload, 1) := by decide +kernel
theorem dL_law_541 : decode cL_law 541 = .ok (.aload_n 0, 1) := by decide +kernel
theorem dL_law_542 : decode cL_law 542 = .ok (.iload_n 3, 1) := by decide +kernel
theorem dL_law_543 : decode cL_law 543 = .ok (.iconst 2, 1) := by decide +kernel
theorem dL_law_544 : decode cL_law 544 = .ok (.iadd, 1) := by decide +kernel
theorem dL_law_545 : decode cL_law 545 = .ok (.iaload, 1) := by decide +kernel
theorem dL_law_546 : decode cL_law 546 = .ok (.invokevirtual 62, 3) := by decide +kernel
theorem dL_law_549 : decode cL_law 549 = .ok (.aload_n 2, 1) := by decide +kernel
theorem dL_law_550 : decode cL_law 550 = .ok (.aload_n 0, 1) := by decide +kernel
theorem dL_law_551 : decode cL_law 551 = .ok (.iload_n 3, 1) := by decide +kernel
theorem dL_law_552 : decode cL_law 552 = .ok (.iconst 1, 1) := by decide +kernel
theorem dL_law_553 : decode cL_law 553 = .ok (.iadd, 1) := by decide +kernel
theorem dL_law_554 : decode cL_law 554 = .ok (.iaload, 1) := by decide +kernel
theorem dL_law_555 : decode cL_law 555 = .ok (.aload_n 0, 1) := by decide +kernel
theorem dL_law_556 : decode cL_law 556 = .ok (.iload_n 3, 1) := by decide +kernel
theorem dL_law_557 : decode cL_law 557 = .ok (.iconst 2, 1) := by decide +kernel
theorem dL_law_558 : decode cL_law 558 = .ok (.iadd, 1) := by decide +kernel
theorem dL_law_559 : decode cL_law 559 = .ok (.iaload, 1) := by decide +kernel
theorem dL_law_560 : decode cL_law 560 = .ok (.invokevirtual 65, 3) := by decide +kernel
theorem dL_law_563 : decode cL_law 563 = .ok (.if_icmp .eq 601, 3) := by decide +kernel
theorem dL_law_566 : decode cL_law 566 = .ok (.iconst 0, 1) := by decide +kernel
theorem dL_law_567 : decode cL_law 567 = .ok (.ireturn, 1) := by decide +kernel
theorem dL_law_568 : decode cL_law 568 = .ok (.aload_n 1, 1) := by decide +kernel
theorem dL_law_569 : decode cL_law 569 = .ok (.aload_n 0, 1) := by decide +kernel
theorem dL_law_570 : decode cL_law 570 = .ok (.iload_n 3, 1) := by decide +kernel
theorem dL_law_571 : decode cL_law 571 = .ok (.iconst 1, 1) := by decide +kernel
theorem dL_law_572 : decode cL_law 572 = .ok (.iadd, 1) := by decide +kernel
theorem dL_law_573 : decode cL_law 573 = .ok (.iaload, 1) := by decide +kernel
theorem dL_law_574 : decode cL_law 574 = .ok (.aload_n 0, 1) := by decide +kernel
theorem dL_law_575 : decode cL_law 575 = .ok (.iload_n 3, 1) := by decide +kernel
theorem dL_law_576 : decode cL_law 576 = .ok (.iconst 2, 1) := by decide +kernel
theorem dL_law_577 : decode cL_law 577 = .ok (.iadd, 1) := by decide +kernel
theorem dL_law_578 : decode cL_law 578 = .ok (.iaload, 1) := by decide +kernel
theorem dL_law_579 : decode cL_law 579 = .ok (.invokevirtual 66, 3) := by decide +kernel
theorem dL_law_582 : decode cL_law 582 = .ok (.aload_n 2, 1) := by decide +kernel
theorem dL_law_583 : decode cL_law 583 = .ok (.aload_n 0, 1) := by decide +kernel
theorem dL_law_584 : decode cL_law 584 = .ok (.iload_n 3, 1) := by decide +kernel
theorem dL_law_585 : decode cL_law 585 = .ok (.iconst 1, 1) := by decide +kernel
theorem dL_law_586 : decode cL_law 586 = .ok (.iadd, 1) := by decide +kernel
theorem dL_law_587 : decode cL_law 587 = .ok (.iaload, 1) := by decide +kernel
theorem dL_law_588 : decode cL_law 588 = .ok (.aload_n 0, 1) := by decide +kernel
theorem dL_law_589 : decode cL_law 589 = .ok (.iload_n 3, 1) := by decide +kernel
theorem dL_law_590 : decode cL_law 590 = .ok (.iconst 2, 1) := by decide +kernel
theorem dL_law_591 : decode cL_law 591 = .ok (.iadd, 1) := by decide +kernel
theorem dL_law_592 : decode cL_law 592 = .ok (.iaload, 1) := by decide +kernel
theorem dL_law_593 : decode cL_law 593 = .ok (.invokevirtual 69, 3) := by decide +kernel
theorem dL_law_596 : decode cL_law 596 = .ok (.if_icmp .eq 568, 3) := by decide +kernel
theorem dL_law_599 : decode cL_law 599 = .ok (.iconst 0, 1) := by decide +kernel
theorem dL_law_600 : decode cL_law 600 = .ok (.ireturn, 1) := by decide +kernel
theorem dL_law_601 : decode cL_law 601 = .ok (.aload_n 1, 1) := by decide +kernel
theorem dL_law_602 : decode cL_law 602 = .ok (.invokevirtual 70, 3) := by decide +kernel
theorem dL_law_605 : decode cL_law 605 = .ok (.aload_n 2, 1) := by decide +kernel
theorem dL_law_606 : decode cL_law 606 = .ok (.invokevirtual 73, 3) := by decide +kernel
theorem dL_law_609 : decode cL_law 609 = .ok (.if_icmp .eq 555, 3) := by decide +kernel
theorem dL_law_612 : decode cL_law 612 = .ok (.iconst 0, 1) := by decide +kernel
theorem dL_law_613 : decode cL_law 613 = .ok (.ireturn, 1) := by decide +kernel
theorem dL_law_614 : decode cL_law 614 = .ok (.aload_n 1, 1) := by decide +kernel
theorem dL_law_615 : decode cL_law 615 = .ok (.aload_n 0, 1) := by decide +kernel
theorem dL_law_616 : decode cL_law 616 = .ok (.iload_n 3, 1) := by decide +kernel
theorem dL_law_617 : decode cL_law 617 = .ok (.iconst 1, 1) := by decide +kernel
theorem dL_law_618 : decode cL_law 618 = .ok (.iadd, 1) := by decide +kernel
theorem dL_law_619 : decode cL_law 619 = .ok (.iaload, 1) := by decide +kernel
theorem dL_law_620 : decode cL_law 620 = .ok (.invokevirtual 74, 3) := by decide +kernel
theorem dL_law_623 : decode cL_law 623 = .ok (.aload_n 2, 1) := by decide +kernel
theorem dL_law_624 : decode cL_law 624 = .ok (.aload_n 0, 1) := by decide +kernel
theorem dL_law_625 : decode cL_law 625 = .ok (.iload_n 3, 1) := by decide +kernel
theorem dL_law_626 : decode cL_law 626 = .ok (.iconst 1, 1) := by decide +kernel
theorem dL_law_627 : decode cL_law 627 = .ok (.iadd, 1) := by decide +kernel
theorem dL_law_628 : decode cL_law 628 = .ok (.iaload, 1) := by decide +kernel
theorem dL_law_629 : decode cL_law 629 = .ok (.invokevirtual 77, 3) := by decide +kernel
theorem dL_law_632 : decode cL_law 632 = .ok (.if_icmp .eq 532, 3) := by decide +kernel
theorem dL_law_635 : decode cL_law 635 = .ok (.iconst 0, 1) := by decide +kernel
theorem dL_law_636 : decode cL_law 636 = .ok (.ireturn, 1) := by decide +kernel
theorem dL_law_637 : decode cL_law 637 = .ok (.aload_n 1, 1) := by decide +kernel
theorem dL_law_638 : decode cL_law 638 = .ok (.aload_n 0, 1) := by decide +kernel
theorem dL_law_639 : decode cL_law 639 = .ok (.iload_n 3, 1) := by decide +kernel
theorem dL_law_640 : decode cL_law 640 = .ok (.iconst 1, 1) := by decide +kernel
theorem dL_law_641 : decode cL_law 641 = .ok (.iadd, 1) := by decide +kernel
theorem dL_law_642 : decode cL_law 642 = .ok (.iaload, 1) := by decide +kernel
theorem dL_law_643 : decode cL_law 643 = .ok (.invokevirtual 78, 3) := by decide +kernel
theorem dL_law_646 : decode cL_law 646 = .ok (.aload_n 2, 1) := by decide +kernel
theorem dL_law_647 : decode cL_law 647 = .ok (.aload_n 0, 1) := by decide +kernel
theorem dL_law_648 : decode cL_law 648 = .ok (.iload_n 3, 1) := by decide +kernel
theorem dL_law_649 : decode cL_law 649 = .ok (.iconst 1, 1) := by decide +kernel
theorem dL_law_650 : decode cL_law 650 = .ok (.iadd, 1) := by decide +kernel
theorem dL_law_651 : decode cL_law 651 = .ok (.iaload, 1) := by decide +kernel
theorem dL_law_652 : decode cL_law 652 = .ok (.invokevirtual 81, 3) := by decide +kernel
theorem dL_law_655 : decode cL_law 655 = .ok (.if_icmp .eq 509, 3) := by decide +kernel
theorem dL_law_658 : decode cL_law 658 = .ok (.iconst 0, 1) := by decide +kernel
theorem dL_law_659 : decode cL_law 659 = .ok (.ireturn, 1) := by decide +kernel
theorem dL_law_660 : decode cL_law 660 = .ok (.aload_n 1, 1) := by decide +kernel
theorem dL_law_661 : decode cL_law 661 = .ok (.aload_n 0, 1) := by decide +kernel
theorem dL_law_662 : decode cL_law 662 = .ok (.iload_n 3, 1) := by decide +kernel
theorem dL_law_663 : decode cL_law 663 = .ok (.iconst 1, 1) := by decide +kernel
theorem dL_law_664 : decode cL_law 664 = .ok (.iadd, 1) := by decide +kernel
theorem dL_law_665 : decode cL_law 665 = .ok (.iaload, 1) := by decide +kernel
theorem dL_law_666 : decode cL_law 666 = .ok (.invokevirtual 82, 3) := by decide +kernel
theorem dL_law_669 : decode cL_law 669 = .ok (.aload_n 2, 1) := by decide +kernel
theorem dL_law_670 : decode cL_law 670 = .ok (.aload_n 0, 1) := by decide +kernel
theorem dL_law_671 : decode cL_law 671 = .ok (.iload_n 3, 1) := by decide +kernel
theorem dL_law_672 : decode cL_law 672 = .ok (.iconst 1, 1) := by decide +kernel
theorem dL_law_673 : decode cL_law 673 = .ok (.iadd, 1) := by decide +kernel
theorem dL_law_674 : decode cL_law 674 = .ok (.iaload, 1) := by decide +kernel
theorem dL_law_675 : decode cL_law 675 = .ok (.invokevirtual 85, 3) := by decide +kernel
theorem dL_law_678 : decode cL_law 678 = .ok (.if_icmp .eq 486, 3) := by decide +kernel
theorem dL_law_681 : decode cL_law 681 = .ok (.iconst 0, 1) := by decide +kernel
theorem dL_law_682 : decode cL_law 682 = .ok (.ireturn, 1) := by decide +kernel
theorem dL_law_683 : decode cL_law 683 = .ok (.aload_n 1, 1) := by decide +kernel
theorem dL_law_684 : decode cL_law 684 = .ok (.invokevirtual 86, 3) := by decide +kernel
theorem dL_law_687 : decode cL_law 687 = .ok (.aload_n 2, 1) := by decide +kernel
theorem dL_law_688 : decode cL_law 688 = .ok (.invokevirtual 89, 3) := by decide +kernel
theorem dL_law_691 : decode cL_law 691 = .ok (.if_icmp .eq 473, 3) := by decide +kernel
theorem dL_law_694 : decode cL_law 694 = .ok (.iconst 0, 1) := by decide +kernel
theorem dL_law_695 : decode cL_law 695 = .ok (.ireturn, 1) := by decide +kernel
theorem dL_law_696 : decode cL_law 696 = .ok (.aload_n 1, 1) := by decide +kernel
theorem dL_law_697 : decode cL_law 697 = .ok (.aload_n 0, 1) := by decide +kernel
theorem dL_law_698 : decode cL_law 698 = .ok (.iload_n 3, 1) := by decide +kernel
theorem dL_law_699 : decode cL_law 699 = .ok (.iconst 1, 1) := by decide +kernel
theorem dL_law_700 : decode cL_law 700 = .ok (.iadd, 1) := by decide +kernel
theorem dL_law_701 : decode cL_law 701 = .ok (.iaload, 1) := by decide +kernel
theorem dL_law_702 : decode cL_law 702 = .ok (.invokevirtual 90, 3) := by decide +kernel
theorem dL_law_705 : decode cL_law 705 = .ok (.aload_n 2, 1) := by decide +kernel
theorem dL_law_706 : decode cL_law 706 = .ok (.aload_n 0, 1) := by decide +kernel
theorem dL_law_707 : decode cL_law 707 = .ok (.iload_n 3, 1) := by decide +kernel
theorem dL_law_708 : decode cL_law 708 = .ok (.iconst 1, 1) := by decide +kernel
theorem dL_law_709 : decode cL_law 709 = .ok (.iadd, 1) := by decide +kernel
theorem dL_law_710 : decode cL_law 710 = .ok (.iaload, 1) := by decide +kernel
theorem dL_law_711 : decode cL_law 711 = .ok (.invokevirtual 94, 3) := by decide +kernel
theorem dL_law_714 : decode cL_law 714 = .ok (.lcmp, 1) := by decide +kernel
theorem dL_law_715 : decode cL_law 715 = .ok (.ifCond .eq 449, 3) := by decide +kernel
theorem dL_law_718 : decode cL_law 718 = .ok (.iconst 0, 1) := by decide +kernel
theorem dL_law_719 : decode cL_law 719 = .ok (.ireturn, 1) := by decide +kernel
theorem dL_law_720 : decode cL_law 720 = .ok (.aload_n 1, 1) := by decide +kernel
theorem dL_law_721 : decode cL_law 721 = .ok (.aload_n 0, 1) := by decide +kernel
theorem dL_law_722 : decode cL_law 722 = .ok (.iload_n 3, 1) := by decide +kernel
theorem dL_law_723 : decode cL_law 723 = .ok (.iconst 1, 1) := by decide +kernel
theorem dL_law_724 : decode cL_law 724 = .ok (.iadd, 1) := by decide +kernel
theorem dL_law_725 : decode cL_law 725 = .ok (.iaload, 1) := by decide +kernel
theorem dL_law_726 : decode cL_law 726 = .ok (.aload_n 0, 1) := by decide +kernel
theorem dL_law_727 : decode cL_law 727 = .ok (.iload_n 3, 1) := by decide +kernel
theorem dL_law_728 : decode cL_law 728 = .ok (.iconst 2, 1) := by decide +kernel
theorem dL_law_729 : decode cL_law 729 = .ok (.iadd, 1) := by decide +kernel
theorem dL_law_730 : decode cL_law 730 = .ok (.iaload, 1) := by decide +kernel
theorem dL_law_731 : decode cL_law 731 = .ok (.invokevirtual 95, 3) := by decide +kernel
theorem dL_law_734 : decode cL_law 734 = .ok (.aload_n 2, 1) := by decide +kernel
theorem dL_law_735 : decode cL_law 735 = .ok (.aload_n 0, 1) := by decide +kernel
theorem dL_law_736 : decode cL_law 736 = .ok (.iload_n 3, 1) := by decide +kernel
theorem dL_law_737 : decode cL_law 737 = .ok (.iconst 1, 1) := by decide +kernel
theorem dL_law_738 : decode cL_law 738 = .ok (.iadd, 1) := by decide +kernel
theorem dL_law_739 : decode cL_law 739 = .ok (.iaload, 1) := by decide +kernel
theorem dL_law_740 : decode cL_law 740 = .ok (.aload_n 0, 1) := by decide +kernel
theorem dL_law_741 : decode cL_law 741 = .ok (.iload_n 3, 1) := by decide +kernel
theorem dL_law_742 : decode cL_law 742 = .ok (.iconst 2, 1) := by decide +kernel
theorem dL_law_743 : decode cL_law 743 = .ok (.iadd, 1) := by decide +kernel
theorem dL_law_744 : decode cL_law 744 = .ok (.iaload, 1) := by decide +kernel
theorem dL_law_745 : decode cL_law 745 = .ok (.invokevirtual 99, 3) := by decide +kernel
theorem dL_law_748 : decode cL_law 748 = .ok (.lcmp, 1) := by decide +kernel
theorem dL_law_749 : decode cL_law 749 = .ok (.ifCond .eq 415, 3) := by decide +kernel
theorem dL_law_752 : decode cL_law 752 = .ok (.iconst 0, 1) := by decide +kernel
theorem dL_law_753 : decode cL_law 753 = .ok (.ireturn, 1) := by decide +kernel
theorem dL_law_754 : decode cL_law 754 = .ok (.aload_n 1, 1) := by decide +kernel
theorem dL_law_755 : decode cL_law 755 = .ok (.aload_n 0, 1) := by decide +kernel
theorem dL_law_756 : decode cL_law 756 = .ok (.iload_n 3, 1) := by decide +kernel
theorem dL_law_757 : decode cL_law 757 = .ok (.iconst 1, 1) := by decide +kernel
theorem dL_law_758 : decode cL_law 758 = .ok (.iadd, 1) := by decide +kernel
theorem dL_law_759 : decode cL_law 759 = .ok (.iaload, 1) := by decide +kernel
theorem dL_law_760 : decode cL_law 760 = .ok (.invokevirtual 100, 3) := by decide +kernel
theorem dL_law_763 : decode cL_law 763 = .ok (.aload_n 2, 1) := by decide +kernel
theorem dL_law_764 : decode cL_law 764 = .ok (.aload_n 0, 1) := by decide +kernel
theorem dL_law_765 : decode cL_law 765 = .ok (.iload_n 3, 1) := by decide +kernel
theorem dL_law_766 : decode cL_law 766 = .ok (.iconst 1, 1) := by decide +kernel
theorem dL_law_767 : decode cL_law 767 = .ok (.iadd, 1) := by decide +kernel
theorem dL_law_768 : decode cL_law 768 = .ok (.iaload, 1) := by decide +kernel
theorem dL_law_769 : decode cL_law 769 = .ok (.invokevirtual 103, 3) := by decide +kernel
theorem dL_law_772 : decode cL_law 772 = .ok (.lcmp, 1) := by decide +kernel
theorem dL_law_773 : decode cL_law 773 = .ok (.ifCond .eq 391, 3) := by decide +kernel
theorem dL_law_776 : decode cL_law 776 = .ok (.iconst 0, 1) := by decide +kernel
theorem dL_law_777 : decode cL_law 777 = .ok (.ireturn, 1) := by decide +kernel
theorem dL_law_778 : decode cL_law 778 = .ok (.aload_n 1, 1) := by decide +kernel
theorem dL_law_779 : decode cL_law 779 = .ok (.aload_n 0, 1) := by decide +kernel
theorem dL_law_780 : decode cL_law 780 = .ok (.iload_n 3, 1) := by decide +kernel
theorem dL_law_781 : decode cL_law 781 = .ok (.iconst 1, 1) := by decide +kernel
theorem dL_law_782 : decode cL_law 782 = .ok (.iadd, 1) := by decide +kernel
theorem dL_law_783 : decode cL_law 783 = .ok (.iaload, 1) := by decide +kernel
theorem dL_law_784 : decode cL_law 784 = .ok (.aload_n 0, 1) := by decide +kernel
theorem dL_law_785 : decode cL_law 785 = .ok (.iload_n 3, 1) := by decide +kernel
theorem dL_law_786 : decode cL_law 786 = .ok (.iconst 2, 1) := by decide +kernel
theorem dL_law_787 : decode cL_law 787 = .ok (.iadd, 1) := by decide +kernel
theorem dL_law_788 : decode cL_law 788 = .ok (.iaload, 1) := by decide +kernel
theorem dL_law_789 : decode cL_law 789 = .ok (.aload_n 0, 1) := by decide +kernel
theorem dL_law_790 : decode cL_law 790 = .ok (.iload_n 3, 1) := by decide +kernel
theorem dL_law_791 : decode cL_law 791 = .ok (.iconst 3, 1) := by decide +kernel
theorem dL_law_792 : decode cL_law 792 = .ok (.iadd, 1) := by decide +kernel
theorem dL_law_793 : decode cL_law 793 = .ok (.iaload, 1) := by decide +kernel
theorem dL_law_794 : decode cL_law 794 = .ok (.invokevirtual 104, 3) := by decide +kernel
theorem dL_law_797 : decode cL_law 797 = .ok (.aload_n 2, 1) := by decide +kernel
theorem dL_law_798 : decode cL_law 798 = .ok (.aload_n 0, 1) := by decide +kernel
theorem dL_law_799 : decode cL_law 799 = .ok (.iload_n 3, 1) := by decide +kernel
theorem dL_law_800 : decode cL_law 800 = .ok (.iconst 1, 1) := by decide +kernel
theorem dL_law_801 : decode cL_law 801 = .ok (.iadd, 1) := by decide +kernel
theorem dL_law_802 : decode cL_law 802 = .ok (.iaload, 1) := by decide +kernel
theorem dL_law_803 : decode cL_law 803 = .ok (.aload_n 0, 1) := by decide +kernel
theorem dL_law_804 : decode cL_law 804 = .ok (.iload_n 3, 1) := by decide +kernel
theorem dL_law_805 : decode cL_law 805 = .ok (.iconst 2, 1) := by decide +kernel
theorem dL_law_806 : decode cL_law 806 = .ok (.iadd, 1) := by decide +kernel
theorem dL_law_807 : decode cL_law 807 = .ok (.iaload, 1) := by decide +kernel
theorem dL_law_808 : decode cL_law 808 = .ok (.aload_n 0, 1) := by decide +kernel
theorem dL_law_809 : decode cL_law 809 = .ok (.iload_n 3, 1) := by decide +kernel
theorem dL_law_810 : decode cL_law 810 = .ok (.iconst 3, 1) := by decide +kernel
theorem dL_law_811 : decode cL_law 811 = .ok (.iadd, 1) := by decide +kernel
theorem dL_law_812 : decode cL_law 812 = .ok (.iaload, 1) := by decide +kernel
theorem dL_law_813 : decode cL_law 813 = .ok (.invokevirtual 108, 3) := by decide +kernel
theorem dL_law_816 : decode cL_law 816 = .ok (.lcmp, 1) := by decide +kernel
theorem dL_law_817 : decode cL_law 817 = .ok (.ifCond .eq 347, 3) := by decide +kernel
theorem dL_law_820 : decode cL_law 820 = .ok (.iconst 0, 1) := by decide +kernel
theorem dL_law_821 : decode cL_law 821 = .ok (.ireturn, 1) := by decide +kernel
theorem dL_law_822 : decode cL_law 822 = .ok (.aload_n 1, 1) := by decide +kernel
theorem dL_law_823 : decode cL_law 823 = .ok (.aload_n 0, 1) := by decide +kernel
theorem dL_law_824 : decode cL_law 824 = .ok (.iload_n 3, 1) := by decide +kernel
theorem dL_law_825 : decode cL_law 825 = .ok (.iconst 1, 1) := by decide +kernel
theorem dL_law_826 : decode cL_law 826 = .ok (.iadd, 1) := by decide +kernel
theorem dL_law_827 : decode cL_law 827 = .ok (.iaload, 1) := by decide +kernel
theorem dL_law_828 : decode cL_law 828 = .ok (.aload_n 0, 1) := by decide +kernel
theorem dL_law_829 : decode cL_law 829 = .ok (.iload_n 3, 1) := by decide +kernel
theorem dL_law_830 : decode cL_law 830 = .ok (.iconst 2, 1) := by decide +kernel
theorem dL_law_831 : decode cL_law 831 = .ok (.iadd, 1) := by decide +kernel
theorem dL_law_832 : decode cL_law 832 = .ok (.iaload, 1) := by decide +kernel
theorem dL_law_833 : decode cL_law 833 = .ok (.aload_n 0, 1) := by decide +kernel
theorem dL_law_834 : decode cL_law 834 = .ok (.iload_n 3, 1) := by decide +kernel
theorem dL_law_835 : decode cL_law 835 = .ok (.iconst 3, 1) := by decide +kernel
theorem dL_law_836 : decode cL_law 836 = .ok (.iadd, 1) := by decide +kernel
theorem dL_law_837 : decode cL_law 837 = .ok (.iaload, 1) := by decide +kernel
theorem dL_law_838 : decode cL_law 838 = .ok (.invokevirtual 109, 3) := by decide +kernel
theorem dL_law_841 : decode cL_law 841 = .ok (.aload_n 2, 1) := by decide +kernel
theorem dL_law_842 : decode cL_law 842 = .ok (.aload_n 0, 1) := by decide +kernel
theorem dL_law_843 : decode cL_law 843 = .ok (.iload_n 3, 1) := by decide +kernel
theorem dL_law_844 : decode cL_law 844 = .ok (.iconst 1, 1) := by decide +kernel
theorem dL_law_845 : decode cL_law 845 = .ok (.iadd, 1) := by decide +kernel
theorem dL_law_846 : decode cL_law 846 = .ok (.iaload, 1) := by decide +kernel
theorem dL_law_847 : decode cL_law 847 = .ok (.aload_n 0, 1) := by decide +kernel
theorem dL_law_848 : decode cL_law 848 = .ok (.iload_n 3, 1) := by decide +kernel
theorem dL_law_849 : decode cL_law 849 = .ok (.iconst 2, 1) := by decide +kernel
theorem dL_law_850 : decode cL_law 850 = .ok (.iadd, 1) := by decide +kernel
theorem dL_law_851 : decode cL_law 851 = .ok (.iaload, 1) := by decide +kernel
theorem dL_law_852 : decode cL_law 852 = .ok (.aload_n 0, 1) := by decide +kernel
theorem dL_law_853 : decode cL_law 853 = .ok (.iload_n 3, 1) := by decide +kernel
theorem dL_law_854 : decode cL_law 854 = .ok (.iconst 3, 1) := by decide +kernel
theorem dL_law_855 : decode cL_law 855 = .ok (.iadd, 1) := by decide +kernel
theorem dL_law_856 : decode cL_law 856 = .ok (.iaload, 1) := by decide +kernel
theorem dL_law_857 : decode cL_law 857 = .ok (.invokevirtual 112, 3) := by decide +kernel
theorem dL_law_860 : decode cL_law 860 = .ok (.if_icmp .eq 304, 3) := by decide +kernel
theorem dL_law_863 : decode cL_law 863 = .ok (.iconst 0, 1) := by decide +kernel
theorem dL_law_864 : decode cL_law 864 = .ok (.ireturn, 1) := by decide +kernel
theorem dL_law_865 : decode cL_law 865 = .ok (.aload_n 1, 1) := by decide +kernel
theorem dL_law_866 : decode cL_law 866 = .ok (.aload_n 0, 1) := by decide +kernel
theorem dL_law_867 : decode cL_law 867 = .ok (.iload_n 3, 1) := by decide +kernel
theorem dL_law_868 : decode cL_law 868 = .ok (.iconst 1, 1) := by decide +kernel
theorem dL_law_869 : decode cL_law 869 = .ok (.iadd, 1) := by decide +kernel
theorem dL_law_870 : decode cL_law 870 = .ok (.iaload, 1) := by decide +kernel
theorem dL_law_871 : decode cL_law 871 = .ok (.invokevirtual 113, 3) := by decide +kernel
theorem dL_law_874 : decode cL_law 874 = .ok (.aload_n 2, 1) := by decide +kernel
theorem dL_law_875 : decode cL_law 875 = .ok (.aload_n 0, 1) := by decide +kernel
theorem dL_law_876 : decode cL_law 876 = .ok (.iload_n 3, 1) := by decide +kernel
theorem dL_law_877 : decode cL_law 877 = .ok (.iconst 1, 1) := by decide +kernel
theorem dL_law_878 : decode cL_law 878 = .ok (.iadd, 1) := by decide +kernel
theorem dL_law_879 : decode cL_law 879 = .ok (.iaload, 1) := by decide +kernel
theorem dL_law_880 : decode cL_law 880 = .ok (.invokevirtual 116, 3) := by decide +kernel
theorem dL_law_883 : decode cL_law 883 = .ok (.if_icmp .eq 281, 3) := by decide +kernel
theorem dL_law_886 : decode cL_law 886 = .ok (.iconst 0, 1) := by decide +kernel
theorem dL_law_887 : decode cL_law 887 = .ok (.ireturn, 1) := by decide +kernel
theorem dL_law_888 : decode cL_law 888 = .ok (.aload_n 1, 1) := by decide +kernel
theorem dL_law_889 : decode cL_law 889 = .ok (.aload_n 0, 1) := by decide +kernel
theorem dL_law_890 : decode cL_law 890 = .ok (.iload_n 3, 1) := by decide +kernel
theorem dL_law_891 : decode cL_law 891 = .ok (.iconst 1, 1) := by decide +kernel
theorem dL_law_892 : decode cL_law 892 = .ok (.iadd, 1) := by decide +kernel
theorem dL_law_893 : decode cL_law 893 = .ok (.iaload, 1) := by decide +kernel
theorem dL_law_894 : decode cL_law 894 = .ok (.invokevirtual 117, 3) := by decide +kernel
theorem dL_law_897 : decode cL_law 897 = .ok (.aload_n 2, 1) := by decide +kernel
theorem dL_law_898 : decode cL_law 898 = .ok (.aload_n 0, 1) := by decide +kernel
theorem dL_law_899 : decode cL_law 899 = .ok (.iload_n 3, 1) := by decide +kernel
theorem dL_law_900 : decode cL_law 900 = .ok (.iconst 1, 1) := by decide +kernel
theorem dL_law_901 : decode cL_law 901 = .ok (.iadd, 1) := by decide +kernel
theorem dL_law_902 : decode cL_law 902 = .ok (.iaload, 1) := by decide +kernel
theorem dL_law_903 : decode cL_law 903 = .ok (.invokevirtual 120, 3) := by decide +kernel
theorem dL_law_906 : decode cL_law 906 = .ok (.if_icmp .eq 258, 3) := by decide +kernel
theorem dL_law_909 : decode cL_law 909 = .ok (.iconst 0, 1) := by decide +kernel
theorem dL_law_910 : decode cL_law 910 = .ok (.ireturn, 1) := by decide +kernel
theorem dL_law_911 : decode cL_law 911 = .ok (.aload_n 1, 1) := by decide +kernel
theorem dL_law_912 : decode cL_law 912 = .ok (.aload_n 0, 1) := by decide +kernel
theorem dL_law_913 : decode cL_law 913 = .ok (.iload_n 3, 1) := by decide +kernel
theorem dL_law_914 : decode cL_law 914 = .ok (.iconst 1, 1) := by decide +kernel
theorem dL_law_915 : decode cL_law 915 = .ok (.iadd, 1) := by decide +kernel
theorem dL_law_916 : decode cL_law 916 = .ok (.iaload, 1) := by decide +kernel
theorem dL_law_917 : decode cL_law 917 = .ok (.invokevirtual 121, 3) := by decide +kernel
theorem dL_law_920 : decode cL_law 920 = .ok (.aload_n 2, 1) := by decide +kernel
theorem dL_law_921 : decode cL_law 921 = .ok (.aload_n 0, 1) := by decide +kernel
theorem dL_law_922 : decode cL_law 922 = .ok (.iload_n 3, 1) := by decide +kernel
theorem dL_law_923 : decode cL_law 923 = .ok (.iconst 1, 1) := by decide +kernel
theorem dL_law_924 : decode cL_law 924 = .ok (.iadd, 1) := by decide +kernel
theorem dL_law_925 : decode cL_law 925 = .ok (.iaload, 1) := by decide +kernel
theorem dL_law_926 : decode cL_law 926 = .ok (.invokevirtual 124, 3) := by decide +kernel
theorem dL_law_929 : decode cL_law 929 = .ok (.if_icmp .eq 235, 3) := by decide +kernel
theorem dL_law_932 : decode cL_law 932 = .ok (.iconst 0, 1) := by decide +kernel
theorem dL_law_933 : decode cL_law 933 = .ok (.ireturn, 1) := by decide +kernel
theorem dL_law_934 : decode cL_law 934 = .ok (.aload_n 1, 1) := by decide +kernel
theorem dL_law_935 : decode cL_law 935 = .ok (.invokevirtual 125, 3) := by decide +kernel
theorem dL_law_938 : decode cL_law 938 = .ok (.aload_n 2, 1) := by decide +kernel
theorem dL_law_939 : decode cL_law 939 = .ok (.invokevirtual 128, 3) := by decide +kernel
theorem dL_law_942 : decode cL_law 942 = .ok (.if_icmp .eq 222, 3) := by decide +kernel
theorem dL_law_945 : decode cL_law 945 = .ok (.iconst 0, 1) := by decide +kernel
theorem dL_law_946 : decode cL_law 946 = .ok (.ireturn, 1) := by decide +kernel
theorem dL_law_947 : decode cL_law 947 = .ok (.aload_n 1, 1) := by decide +kernel
theorem dL_law_948 : decode cL_law 948 = .ok (.aload_n 0, 1) := by decide +kernel
theorem dL_law_949 : decode cL_law 949 = .ok (.iload_n 3, 1) := by decide +kernel
theorem dL_law_950 : decode cL_law 950 = .ok (.iconst 1, 1) := by decide +kernel
theorem dL_law_951 : decode cL_law 951 = .ok (.iadd, 1) := by decide +kernel
theorem dL_law_952 : decode cL_law 952 = .ok (.iaload, 1) := by decide +kernel
theorem dL_law_953 : decode cL_law 953 = .ok (.invokevirtual 129, 3) := by decide +kernel
theorem dL_law_956 : decode cL_law 956 = .ok (.aload_n 2, 1) := by decide +kernel
theorem dL_law_957 : decode cL_law 957 = .ok (.aload_n 0, 1) := by decide +kernel
theorem dL_law_958 : decode cL_law 958 = .ok (.iload_n 3, 1) := by decide +kernel
theorem dL_law_959 : decode cL_law 959 = .ok (.iconst 1, 1) := by decide +kernel
theorem dL_law_960 : decode cL_law 960 = .ok (.iadd, 1) := by decide +kernel
theorem dL_law_961 : decode cL_law 961 = .ok (.iaload, 1) := by decide +kernel
theorem dL_law_962 : decode cL_law 962 = .ok (.invokevirtual 132, 3) := by decide +kernel
theorem dL_law_965 : decode cL_law 965 = .ok (.if_icmp .eq 199, 3) := by decide +kernel
theorem dL_law_968 : decode cL_law 968 = .ok (.iconst 0, 1) := by decide +kernel
theorem dL_law_969 : decode cL_law 969 = .ok (.ireturn, 1) := by decide +kernel
theorem dL_law_970 : decode cL_law 970 = .ok (.aload_n 1, 1) := by decide +kernel
theorem dL_law_971 : decode cL_law 971 = .ok (.aload_n 0, 1) := by decide +kernel
theorem dL_law_972 : decode cL_law 972 = .ok (.iload_n 3, 1) := by decide +kernel
theorem dL_law_973 : decode cL_law 973 = .ok (.iconst 1, 1) := by decide +kernel
theorem dL_law_974 : decode cL_law 974 = .ok (.iadd, 1) := by decide +kernel
theorem dL_law_975 : decode cL_law 975 = .ok (.iaload, 1) := by decide +kernel
theorem dL_law_976 : decode cL_law 976 = .ok (.invokevirtual 133, 3) := by decide +kernel
theorem dL_law_979 : decode cL_law 979 = .ok (.aload_n 2, 1) := by decide +kernel
theorem dL_law_980 : decode cL_law 980 = .ok (.aload_n 0, 1) := by decide +kernel
theorem dL_law_981 : decode cL_law 981 = .ok (.iload_n 3, 1) := by decide +kernel
theorem dL_law_982 : decode cL_law 982 = .ok (.iconst 1, 1) := by decide +kernel
theorem dL_law_983 : decode cL_law 983 = .ok (.iadd, 1) := by decide +kernel
theorem dL_law_984 : decode cL_law 984 = .ok (.iaload, 1) := by decide +kernel
theorem dL_law_985 : decode cL_law 985 = .ok (.invokevirtual 136, 3) := by decide +kernel
theorem dL_law_988 : decode cL_law 988 = .ok (.if_icmp .eq 176, 3) := by decide +kernel
theorem dL_law_991 : decode cL_law 991 = .ok (.iconst 0, 1) := by decide +kernel
theorem dL_law_992 : decode cL_law 992 = .ok (.ireturn, 1) := by decide +kernel
theorem dL_law_993 : decode cL_law 993 = .ok (.aload_n 1, 1) := by decide +kernel
theorem dL_law_994 : decode cL_law 994 = .ok (.aload_n 0, 1) := by decide +kernel
theorem dL_law_995 : decode cL_law 995 = .ok (.iload_n 3, 1) := by decide +kernel
theorem dL_law_996 : decode cL_law 996 = .ok (.iconst 1, 1) := by decide +kernel
theorem dL_law_997 : decode cL_law 997 = .ok (.iadd, 1) := by decide +kernel
theorem dL_law_998 : decode cL_law 998 = .ok (.iaload, 1) := by decide +kernel
theorem dL_law_999 : decode cL_law 999 = .ok (.invokevirtual 137, 3) := by decide +kernel
theorem dL_law_1002 : decode cL_law 1002 = .ok (.aload_n 2, 1) := by decide +kernel
theorem dL_law_1003 : decode cL_law 1003 = .ok (.aload_n 0, 1) := by decide +kernel
theorem dL_law_1004 : decode cL_law 1004 = .ok (.iload_n 3, 1) := by decide +kernel
theorem dL_law_1005 : decode cL_law 1005 = .ok (.iconst 1, 1) := by decide +kernel
theorem dL_law_1006 : decode cL_law 1006 = .ok (.iadd, 1) := by decide +kernel
theorem dL_law_1007 : decode cL_law 1007 = .ok (.iaload, 1) := by decide +kernel
theorem dL_law_1008 : decode cL_law 1008 = .ok (.invokevirtual 140, 3) := by decide +kernel
theorem dL_law_1011 : decode cL_law 1011 = .ok (.if_icmp .eq 153, 3) := by decide +kernel
theorem dL_law_1014 : decode cL_law 1014 = .ok (.iconst 0, 1) := by decide +kernel
theorem dL_law_1015 : decode cL_law 1015 = .ok (.ireturn, 1) := by decide +kernel
theorem dL_law_1016 : decode cL_law 1016 = .ok (.aload_n 1, 1) := by decide +kernel
theorem dL_law_1017 : decode cL_law 1017 = .ok (.aload_n 0, 1) := by decide +kernel
theorem dL_law_1018 : decode cL_law 1018 = .ok (.iload_n 3, 1) := by decide +kernel
theorem dL_law_1019 : decode cL_law 1019 = .ok (.iconst 1, 1) := by decide +kernel
theorem dL_law_1020 : decode cL_law 1020 = .ok (.iadd, 1) := by decide +kernel
theorem dL_law_1021 : decode cL_law 1021 = .ok (.iaload, 1) := by decide +kernel
theorem dL_law_1022 : decode cL_law 1022 = .ok (.invokevirtual 141, 3) := by decide +kernel
theorem dL_law_1025 : decode cL_law 1025 = .ok (.aload_n 2, 1) := by decide +kernel
theorem dL_law_1026 : decode cL_law 1026 = .ok (.aload_n 0, 1) := by decide +kernel
theorem dL_law_1027 : decode cL_law 1027 = .ok (.iload_n 3, 1) := by decide +kernel
theorem dL_law_1028 : decode cL_law 1028 = .ok (.iconst 1, 1) := by decide +kernel
theorem dL_law_1029 : decode cL_law 1029 = .ok (.iadd, 1) := by decide +kernel
theorem dL_law_1030 : decode cL_law 1030 = .ok (.iaload, 1) := by decide +kernel
theorem dL_law_1031 : decode cL_law 1031 = .ok (.invokevirtual 144, 3) := by decide +kernel
theorem dL_law_1034 : decode cL_law 1034 = .ok (.if_icmp .eq 130, 3) := by decide +kernel
theorem dL_law_1037 : decode cL_law 1037 = .ok (.iconst 0, 1) := by decide +kernel
theorem dL_law_1038 : decode cL_law 1038 = .ok (.ireturn, 1) := by decide +kernel
theorem dL_law_1039 : decode cL_law 1039 = .ok (.aload_n 1, 1) := by decide +kernel
theorem dL_law_1040 : decode cL_law 1040 = .ok (.aload_n 0, 1) := by decide +kernel
theorem dL_law_1041 : decode cL_law 1041 = .ok (.iload_n 3, 1) := by decide +kernel
theorem dL_law_1042 : decode cL_law 1042 = .ok (.iconst 1, 1) := by decide +kernel
theorem dL_law_1043 : decode cL_law 1043 = .ok (.iadd, 1) := by decide +kernel
theorem dL_law_1044 : decode cL_law 1044 = .ok (.iaload, 1) := by decide +kernel
theorem dL_law_1045 : decode cL_law 1045 = .ok (.aload_n 0, 1) := by decide +kernel
theorem dL_law_1046 : decode cL_law 1046 = .ok (.iload_n 3, 1) := by decide +kernel
theorem dL_law_1047 : decode cL_law 1047 = .ok (.iconst 2, 1) := by decide +kernel
theorem dL_law_1048 : decode cL_law 1048 = .ok (.iadd, 1) := by decide +kernel
theorem dL_law_1049 : decode cL_law 1049 = .ok (.iaload, 1) := by decide +kernel
theorem dL_law_1050 : decode cL_law 1050 = .ok (.invokevirtual 145, 3) := by decide +kernel
theorem dL_law_1053 : decode cL_law 1053 = .ok (.aload_n 2, 1) := by decide +kernel
theorem dL_law_1054 : decode cL_law 1054 = .ok (.aload_n 0, 1) := by decide +kernel
theorem dL_law_1055 : decode cL_law 1055 = .ok (.iload_n 3, 1) := by decide +kernel
theorem dL_law_1056 : decode cL_law 1056 = .ok (.iconst 1, 1) := by decide +kernel
theorem dL_law_1057 : decode cL_law 1057 = .ok (.iadd, 1) := by decide +kernel
theorem dL_law_1058 : decode cL_law 1058 = .ok (.iaload, 1) := by decide +kernel
end
section
theorem dL_law_1059 : decode cL_law 1059 = .ok (.aload_n 0, 1) := by decide +kernel
theorem dL_law_1060 : decode cL_law 1060 = .ok (.iload_n 3, 1) := by decide +kernel
theorem dL_law_1061 : decode cL_law 1061 = .ok (.iconst 2, 1) := by decide +kernel
theorem dL_law_1062 : decode cL_law 1062 = .ok (.iadd, 1) := by decide +kernel
theorem dL_law_1063 : decode cL_law 1063 = .ok (.iaload, 1) := by decide +kernel
theorem dL_law_1064 : decode cL_law 1064 = .ok (.invokevirtual 148, 3) := by decide +kernel
theorem dL_law_1067 : decode cL_law 1067 = .ok (.if_icmp .eq 97, 3) := by decide +kernel
theorem dL_law_1070 : decode cL_law 1070 = .ok (.iconst 0, 1) := by decide +kernel
theorem dL_law_1071 : decode cL_law 1071 = .ok (.ireturn, 1) := by decide +kernel
theorem dL_law_1072 : decode cL_law 1072 = .ok (.aload_n 1, 1) := by decide +kernel
theorem dL_law_1073 : decode cL_law 1073 = .ok (.aload_n 0, 1) := by decide +kernel
theorem dL_law_1074 : decode cL_law 1074 = .ok (.iload_n 3, 1) := by decide +kernel
theorem dL_law_1075 : decode cL_law 1075 = .ok (.iconst 1, 1) := by decide +kernel
theorem dL_law_1076 : decode cL_law 1076 = .ok (.iadd, 1) := by decide +kernel
theorem dL_law_1077 : decode cL_law 1077 = .ok (.iaload, 1) := by decide +kernel
theorem dL_law_1078 : decode cL_law 1078 = .ok (.aload_n 0, 1) := by decide +kernel
theorem dL_law_1079 : decode cL_law 1079 = .ok (.iload_n 3, 1) := by decide +kernel
theorem dL_law_1080 : decode cL_law 1080 = .ok (.iconst 2, 1) := by decide +kernel
theorem dL_law_1081 : decode cL_law 1081 = .ok (.iadd, 1) := by decide +kernel
theorem dL_law_1082 : decode cL_law 1082 = .ok (.iaload, 1) := by decide +kernel
theorem dL_law_1083 : decode cL_law 1083 = .ok (.invokevirtual 149, 3) := by decide +kernel
theorem dL_law_1086 : decode cL_law 1086 = .ok (.aload_n 2, 1) := by decide +kernel
theorem dL_law_1087 : decode cL_law 1087 = .ok (.aload_n 0, 1) := by decide +kernel
theorem dL_law_1088 : decode cL_law 1088 = .ok (.iload_n 3, 1) := by decide +kernel
theorem dL_law_1089 : decode cL_law 1089 = .ok (.iconst 1, 1) := by decide +kernel
theorem dL_law_1090 : decode cL_law 1090 = .ok (.iadd, 1) := by decide +kernel
theorem dL_law_1091 : decode cL_law 1091 = .ok (.iaload, 1) := by decide +kernel
theorem dL_law_1092 : decode cL_law 1092 = .ok (.aload_n 0, 1) := by decide +kernel
theorem dL_law_1093 : decode cL_law 1093 = .ok (.iload_n 3, 1) := by decide +kernel
theorem dL_law_1094 : decode cL_law 1094 = .ok (.iconst 2, 1) := by decide +kernel
theorem dL_law_1095 : decode cL_law 1095 = .ok (.iadd, 1) := by decide +kernel
theorem dL_law_1096 : decode cL_law 1096 = .ok (.iaload, 1) := by decide +kernel
theorem dL_law_1097 : decode cL_law 1097 = .ok (.invokevirtual 152, 3) := by decide +kernel
theorem dL_law_1100 : decode cL_law 1100 = .ok (.if_icmp .eq 64, 3) := by decide +kernel
theorem dL_law_1103 : decode cL_law 1103 = .ok (.iconst 0, 1) := by decide +kernel
theorem dL_law_1104 : decode cL_law 1104 = .ok (.ireturn, 1) := by decide +kernel
theorem dL_law_1105 : decode cL_law 1105 = .ok (.aload_n 1, 1) := by decide +kernel
theorem dL_law_1106 : decode cL_law 1106 = .ok (.aload_n 0, 1) := by decide +kernel
theorem dL_law_1107 : decode cL_law 1107 = .ok (.iload_n 3, 1) := by decide +kernel
theorem dL_law_1108 : decode cL_law 1108 = .ok (.iconst 1, 1) := by decide +kernel
theorem dL_law_1109 : decode cL_law 1109 = .ok (.iadd, 1) := by decide +kernel
theorem dL_law_1110 : decode cL_law 1110 = .ok (.iaload, 1) := by decide +kernel
theorem dL_law_1111 : decode cL_law 1111 = .ok (.invokevirtual 153, 3) := by decide +kernel
theorem dL_law_1114 : decode cL_law 1114 = .ok (.aload_n 2, 1) := by decide +kernel
theorem dL_law_1115 : decode cL_law 1115 = .ok (.aload_n 0, 1) := by decide +kernel
theorem dL_law_1116 : decode cL_law 1116 = .ok (.iload_n 3, 1) := by decide +kernel
theorem dL_law_1117 : decode cL_law 1117 = .ok (.iconst 1, 1) := by decide +kernel
theorem dL_law_1118 : decode cL_law 1118 = .ok (.iadd, 1) := by decide +kernel
theorem dL_law_1119 : decode cL_law 1119 = .ok (.iaload, 1) := by decide +kernel
theorem dL_law_1120 : decode cL_law 1120 = .ok (.invokevirtual 156, 3) := by decide +kernel
theorem dL_law_1123 : decode cL_law 1123 = .ok (.if_icmp .eq 41, 3) := by decide +kernel
theorem dL_law_1126 : decode cL_law 1126 = .ok (.iconst 0, 1) := by decide +kernel
theorem dL_law_1127 : decode cL_law 1127 = .ok (.ireturn, 1) := by decide +kernel
theorem dL_law_1128 : decode cL_law 1128 = .ok (.aload_n 1, 1) := by decide +kernel
theorem dL_law_1129 : decode cL_law 1129 = .ok (.aload_n 0, 1) := by decide +kernel
theorem dL_law_1130 : decode cL_law 1130 = .ok (.iload_n 3, 1) := by decide +kernel
theorem dL_law_1131 : decode cL_law 1131 = .ok (.iconst 1, 1) := by decide +kernel
theorem dL_law_1132 : decode cL_law 1132 = .ok (.iadd, 1) := by decide +kernel
theorem dL_law_1133 : decode cL_law 1133 = .ok (.iaload, 1) := by decide +kernel
theorem dL_law_1134 : decode cL_law 1134 = .ok (.invokevirtual 157, 3) := by decide +kernel
theorem dL_law_1137 : decode cL_law 1137 = .ok (.aload_n 2, 1) := by decide +kernel
theorem dL_law_1138 : decode cL_law 1138 = .ok (.aload_n 0, 1) := by decide +kernel
theorem dL_law_1139 : decode cL_law 1139 = .ok (.iload_n 3, 1) := by decide +kernel
theorem dL_law_1140 : decode cL_law 1140 = .ok (.iconst 1, 1) := by decide +kernel
theorem dL_law_1141 : decode cL_law 1141 = .ok (.iadd, 1) := by decide +kernel
theorem dL_law_1142 : decode cL_law 1142 = .ok (.iaload, 1) := by decide +kernel
theorem dL_law_1143 : decode cL_law 1143 = .ok (.invokevirtual 160, 3) := by decide +kernel
theorem dL_law_1146 : decode cL_law 1146 = .ok (.if_icmp .eq 18, 3) := by decide +kernel
theorem dL_law_1149 : decode cL_law 1149 = .ok (.iconst 0, 1) := by decide +kernel
theorem dL_law_1150 : decode cL_law 1150 = .ok (.ireturn, 1) := by decide +kernel
theorem dL_law_1151 : decode cL_law 1151 = .ok (.aload_n 1, 1) := by decide +kernel
theorem dL_law_1152 : decode cL_law 1152 = .ok (.invokevirtual 161, 3) := by decide +kernel
theorem dL_law_1155 : decode cL_law 1155 = .ok (.aload_n 2, 1) := by decide +kernel
theorem dL_law_1156 : decode cL_law 1156 = .ok (.invokevirtual 164, 3) := by decide +kernel
theorem dL_law_1159 : decode cL_law 1159 = .ok (.if_icmp .eq 5, 3) := by decide +kernel
theorem dL_law_1162 : decode cL_law 1162 = .ok (.iconst 0, 1) := by decide +kernel
theorem dL_law_1163 : decode cL_law 1163 = .ok (.ireturn, 1) := by decide +kernel
theorem dL_law_1164 : decode cL_law 1164 = .ok (.iinc 3 6, 3) := by decide +kernel
theorem dL_law_1167 : decode cL_law 1167 = .ok (.goto (-1149), 3) := by decide +kernel
theorem dL_law_1170 : decode cL_law 1170 = .ok (.iconst 1, 1) := by decide +kernel
theorem dL_law_1171 : decode cL_law 1171 = .ok (.ireturn, 1) := by decide +kernel
end
section
/-! ===== the words that a call may hand on ===== -/
def tb : List Cond := lw_tbl.filter goodWord
theorem tb_in {w : Cond} (i : Nat) (h : lw_tbl[i]? = some w) (hg : goodWord w = true) : w ∈ tb := List.mem_filter.mpr ⟨List.mem_of_getElem? h, hg⟩
theorem tb_hts {args : Array Value} {s : State} (h : ∀ w ∈ lw_tbl, w.before args s = true) : ∀ w ∈ tb, w.before args s = true := fun w hw => h w (List.mem_filter.mp hw).1
theorem inX0 : ∀ w ∈ u_ws RX0 TX0 5, w ∈ tb := by decide +kernel
theorem inX1 : ∀ w ∈ u_ws RX1 TX1 2, w ∈ tb := by decide +kernel
theorem inX2 : ∀ w ∈ u_ws RX2 TX2 6, w ∈ tb := by decide +kernel
theorem inX3 : ∀ w ∈ u_ws RX3 TX3 4, w ∈ tb := by decide +kernel
theorem inX4 : ∀ w ∈ u_ws RX4 TX4 7, w ∈ tb := by decide +kernel
theorem inX5 : ∀ w ∈ u_ws RX5 TX5 9, w ∈ tb := by decide +kernel
theorem inX6 : ∀ w ∈ u_ws RX6 TX6 3, w ∈ tb := by decide +kernel
theorem inX7 : ∀ w ∈ u_ws RX7 TX7 8, w ∈ tb := by decide +kernel
theorem inX8 : ∀ w ∈ u_ws RX8 TX8 28, w ∈ tb := by decide +kernel
/-! ===== the store: ints and longs by cell and place; the layout: what each cell is; the picture of the heap ===== -/
abbrev Sto : Type := (Nat → Nat → Int32) × (Nat → Nat → Int64)
def pI (σ : Sto) (k j : Nat) (x : Int32) : Sto := (fun a b => if a = k ∧ b = j then x else σ.1 a b, σ.2)
def pL (σ : Sto) (k j : Nat) (x : Int64) : Sto := (σ.1, fun a b => if a = k ∧ b = j then x else σ.2 a b)
def cpI (σ : Sto) (k1 sp k2 dp n : Nat) : Sto := (fun a b => if a = k2 ∧ dp ≤ b ∧ b < dp + n then σ.1 k1 (sp + (b - dp)) else σ.1 a b, σ.2)
def cpL (σ : Sto) (k1 sp k2 dp n : Nat) : Sto := (σ.1, fun a b => if a = k2 ∧ dp ≤ b ∧ b < dp + n then σ.2 k1 (sp + (b - dp)) else σ.2 a b)
abbrev Kind : Type := Nat ⊕ (FieldType × Nat)
abbrev Lay : Type := (Nat → Kind) × (Nat → Nat → Nat) × Nat
abbrev Gd : Type := (Nat → ClassId) × (Nat → Nat → Nat) × (FieldType → ClassId)
def tyOf (ci : Nat) : Nat → FieldType := match ci with
  | 0 => tyX0
  | 1 => tyX1
  | 2 => tyX2
  | 3 => tyX3
  | 4 => tyX4
  | 5 => tyX5
  | 6 => tyX6
  | 7 => tyX7
  | _ => tyX8
def eTys : List FieldType := [.int, .long, .boolean, .object "SlackProofs$Clause", .object "SlackProofs$Book", .array .int]
def vl (L : Lay) (B : Nat) (σ : Sto) (ty : FieldType) (k j : Nat) : Value := match ty with
  | .int => .int (σ.1 k j)
  | .boolean => .int (σ.1 k j)
  | .long => .long (σ.2 k j)
  | _ => .ref (B + L.2.1 k j)
def cAt (G : Gd) (L : Lay) (B : Nat) (σ : Sto) (k : Nat) (H : Heap) : Prop := match L.1 k with
  | .inl ci => ∃ r : vw_C, vwCl[ci]? = some r ∧ t_OB (B + k) (G.1 ci) r.2.2 (G.2.1 ci) H (fun j => vl L B σ (tyOf ci j) k j)
  | .inr a => H[B + k]? = some (arrV (G.2.2 a.1) a.2 (fun j => vl L B σ a.1 k j))
def HX (G : Gd) (L : Lay) (B : Nat) (σ : Sto) (H : Heap) : Prop := ∀ k, k < L.2.2 → cAt G L B σ k H
def KK (G : Gd) (U : State) : Prop := (∀ (ci : Nat) (q : vw_C), vwCl[ci]? = some q → u_Kn U q.1 q.2.1 q.2.2 (G.1 ci) (G.2.1 ci)) ∧ ∀ ty ∈ eTys, ArrOfT U (G.2.2 ty) ty ∧ va_RA U (G.2.2 ty) ty
theorem KK.moved {G : Gd} {u U : State} (hvm : u.vm.Alike U.vm) (h : KK G u) : KK G U := ⟨fun c q hq => u_Kn_moved hvm (h.1 c q hq), fun ty ht => ⟨arrOfT_moved hvm (h.2 ty ht).1, va_RA.moved hvm (h.2 ty ht).2⟩⟩
def inW (L : Lay) (B q : Nat) : Prop := B ≤ q ∧ q < B + L.2.2
def Cx (p : Program) (s : State) (m : MethodId) (args : Array Value) (c : Code) (cc : ByteArray) (nL : Nat) (own : String) (G : Gd) : Prop :=
  p.tables.exec = Jvm.exec ∧ c.code = cc ∧ c.maxLocals = nL ∧ s.vm.findClass own = some m.cls ∧ (∀ w ∈ tb, w.before args s = true) ∧ KK G s
/-- a class of the tables: its number, its row, its fields' types -/
def Cls (ci : Nat) (C : String) (T : u_T) (N : Nat) : Prop := vwCl[ci]? = some (C, T, N) ∧ (∀ w ∈ u_ws C T N, w ∈ tb) ∧ (∀ k, k < N → parseFieldDescriptor (T k).2.2.1 = some (tyOf ci k)) ∧ ∀ a, a < N → ∀ b, b < N → a ≠ b → (T a).2.1 ≠ (T b).2.1
theorem kX0 : Cls 0 RX0 TX0 5 := ⟨rfl, inX0, tyX0_ok, nmX0⟩
theorem kX1 : Cls 1 RX1 TX1 2 := ⟨rfl, inX1, tyX1_ok, nmX1⟩
theorem kX2 : Cls 2 RX2 TX2 6 := ⟨rfl, inX2, tyX2_ok, nmX2⟩
theorem kX3 : Cls 3 RX3 TX3 4 := ⟨rfl, inX3, tyX3_ok, nmX3⟩
theorem kX4 : Cls 4 RX4 TX4 7 := ⟨rfl, inX4, tyX4_ok, nmX4⟩
theorem kX5 : Cls 5 RX5 TX5 9 := ⟨rfl, inX5, tyX5_ok, nmX5⟩
theorem kX6 : Cls 6 RX6 TX6 3 := ⟨rfl, inX6, tyX6_ok, nmX6⟩
theorem kX7 : Cls 7 RX7 TX7 8 := ⟨rfl, inX7, tyX7_ok, nmX7⟩
theorem kX8 : Cls 8 RX8 TX8 28 := ⟨rfl, inX8, tyX8_ok, nmX8⟩
theorem tbl_good : ∀ w ∈ tb, ((w.onTables && w.keeps) = true ∨ ∃ ty, w = .arrayClass ty) := fun _ hw => good_of_word (List.mem_filter.mp hw).2
section HXP
variable {G : Gd} {L : Lay} {B : Nat} {σ σ' : Sto} {H H1 : Heap} {k k' j j' : Nat} {ty : FieldType}
theorem vl_pI_k {x : Int32} (h : k' ≠ k) : vl L B (pI σ k j x) ty k' j' = vl L B σ ty k' j' := by
  cases ty <;> simp [vl, pI, h]
theorem vl_pI_j {x : Int32} (h : j' ≠ j) : vl L B (pI σ k j x) ty k j' = vl L B σ ty k j' := by
  cases ty <;> simp [vl, pI, h]
theorem vl_pI_at {x : Int32} (h : ty = .int ∨ ty = .boolean) : vl L B (pI σ k j x) ty k j = .int x := by
  rcases h with rfl | rfl <;> simp [vl, pI]
theorem vl_pL_k {x : Int64} (h : k' ≠ k) : vl L B (pL σ k j x) ty k' j' = vl L B σ ty k' j' := by
  cases ty <;> simp [vl, pL, h]
theorem vl_pL_j {x : Int64} (h : j' ≠ j) : vl L B (pL σ k j x) ty k j' = vl L B σ ty k j' := by
  cases ty <;> simp [vl, pL, h]
theorem vl_pL_at {x : Int64} : vl L B (pL σ k j x) .long k j = .long x := by
  simp [vl, pL]
theorem cAt.kept (h : cAt G L B σ k H) (hv : ∀ ty j, vl L B σ' ty k j = vl L B σ ty k j) (hq : H1[B + k]? = H[B + k]?) : cAt G L B σ' k H1 := by
  unfold cAt at h ⊢
  cases hk : L.1 k with
  | inl ci =>
    simp only [hk] at h ⊢
    obtain ⟨r, h1, h2⟩ := h
    exact ⟨r, h1, (h2.kept hq).to (fun j _ => (hv _ _).symm)⟩
  | inr a =>
    simp only [hk] at h ⊢
    rw [hq, h, show (fun j => vl L B σ' a.1 k j) = fun j => vl L B σ a.1 k j from funext (hv _)]
theorem HX.set (h : HX G L B σ H) (hk : cAt G L B σ' k H1) (hv : ∀ k', k' ≠ k → ∀ ty j, vl L B σ' ty k' j = vl L B σ ty k' j) (oq : ∀ q, q ≠ B + k → H1[q]? = H[q]?) : HX G L B σ' H1 := by
  intro k' hk'
  by_cases e : k' = k
  · subst e
    exact hk
  · exact (h k' hk').kept (hv k' e) (oq _ (by omega))
theorem HX.kept (h : HX G L B σ H) (oq : ∀ q, B ≤ q → q < B + L.2.2 → H1[q]? = H[q]?) : HX G L B σ H1 := fun k hk => (h k hk).kept (fun _ _ => rfl) (oq _ (by omega) (by omega))
theorem cAt.obj {ci : Nat} {r : vw_C} {V : Nat → Value} (hkd : L.1 k = .inl ci) (hc : vwCl[ci]? = some r) (h : t_OB (B + k) (G.1 ci) r.2.2 (G.2.1 ci) H V) (hV : ∀ j, j < r.2.2 → V j = vl L B σ (tyOf ci j) k j) : cAt G L B σ k H := by
  unfold cAt
  simp only [hkd]
  exact ⟨r, hc, h.to hV⟩
theorem cAt.arr {a : FieldType × Nat} {V : Nat → Value} (hkd : L.1 k = .inr a) (h : H[B + k]? = some (arrV (G.2.2 a.1) a.2 V)) (hV : ∀ j, V j = vl L B σ a.1 k j) : cAt G L B σ k H := by
  unfold cAt
  simp only [hkd]
  rw [h, show V = fun j => vl L B σ a.1 k j from funext hV]
theorem HX.toObj {ci : Nat} {C : String} {T : u_T} {N : Nat} (h : HX G L B σ H) (hk : k < L.2.2) (hkd : L.1 k = .inl ci) (hc : vwCl[ci]? = some (C, T, N)) : t_OB (B + k) (G.1 ci) N (G.2.1 ci) H (fun j => vl L B σ (tyOf ci j) k j) := by
  have h1 := h k hk
  unfold cAt at h1
  simp only [hkd] at h1
  obtain ⟨r, hr, h2⟩ := h1
  have hr : r = (C, T, N) := Option.some.inj (hr.symm.trans hc)
  subst hr
  exact h2
theorem HX.toArr {a : FieldType × Nat} (h : HX G L B σ H) (hk : k < L.2.2) (hkd : L.1 k = .inr a) : H[B + k]? = some (arrV (G.2.2 a.1) a.2 (fun j => vl L B σ a.1 k j)) := by
  have h1 := h k hk
  unfold cAt at h1
  simp only [hkd] at h1
  exact h1
end HXP
section HXS
variable {p : Program} {l : Launch} {e : Env} {R : Room} {s : State} {m : MethodId} {args : Array Value} {below : List Frame} {meth : Method} {c : Code} {H : Heap} {locs : List Loc} {cells slots : Nat} {Q : State → Prop}
variable {cc : ByteArray} {pc nL : Nat} {ls : Array Slot} {rest : List Value} {own : String} {G : Gd} {L : Lay} {B : Nat} {σ : Sto} {A : Nat → Prop} {H0 : Heap}
theorem g_get {C : String} {T : u_T} {N ci : Nat} (hC : Cls ci C T N) {j index : Nat} (hj : j < N) (hl : Cond.fieldLink own index (T j).1 (T j).2.1 (T j).2.2.1 ∈ tb) (X : Cx p s m args c cc nL own G) (hH : HX G L B σ H) {k : Nat} (hk : k < L.2.2 ∧ L.1 k = .inl ci) {v : Value} (hv : vl L B σ (tyOf ci j) k j = v) (hdg : decode cc pc = .ok (.getfield index, 3))
    (kk : W p l e R s m args below meth c H locs cells slots Q (F0 m (pc + 3) ls (v :: rest))) : W p l e R s m args below meth c H locs cells slots Q (F0 m pc ls (.ref (B + k) :: rest)) := by
  obtain ⟨hx, hb, hml, hown, hts, hK⟩ := X
  obtain ⟨hc, hin, hty, hnm⟩ := hC
  obtain ⟨cell, q1, q2, q3, q4⟩ := hH.toObj hk.1 hk.2 hc
  obtain ⟨hS, hfc, kC, hkC, hkind⟩ := hK.1 ci _ hc
  obtain ⟨cf, kf, fi, f, hi, hsl⟩ := hS j hj
  refine W.getf hx hb hown (hts _ hl) hi (u_facts hfc hkC (u_lays hts hin hj) hi).1 q1 (by rw [q3]; exact fun h => by cases h) (v := v) ?_ rfl rfl hdg kk
  rw [hsl, q4 j hj]
  exact congrArg some hv
theorem g_put {C : String} {T : u_T} {N ci : Nat} (hC : Cls ci C T N) {j index : Nat} (hj : j < N) (hl : Cond.fieldLink own index (T j).1 (T j).2.1 (T j).2.2.1 ∈ tb) (hfin : (T j).2.2.2 = false) (X : Cx p s m args c cc nL own G) (hH : HX G L B σ H) (hS0 : va_S A H0 H locs) {k : Nat} (hk : k < L.2.2 ∧ L.1 k = .inl ci) (hA : A (B + k)) {v : Value} (hn : narrow (tyOf ci j) v = v) (hfit : fits (tyOf ci j) v = true) {σ' : Sto} (hv1 : vl L B σ' (tyOf ci j) k j = v) (hv2 : ∀ (ty : FieldType) (j' : Nat), j' ≠ j → vl L B σ' ty k j' = vl L B σ ty k j') (hv3 : ∀ k', k' ≠ k → ∀ (ty : FieldType) (j' : Nat), vl L B σ' ty k' j' = vl L B σ ty k' j') (hdg : decode cc pc = .ok (.putfield index, 3))
    (kk : ∀ (H1 : Heap) (locs1 : List Loc), HX G L B σ' H1 → va_S A H0 H1 locs1 → W p l e R s m args below meth c H1 locs1 cells slots Q (F0 m (pc + 3) ls rest)) : W p l e R s m args below meth c H locs cells slots Q (F0 m pc ls (v :: .ref (B + k) :: rest)) := by
  obtain ⟨hx, hb, hml, hown, hts, hK⟩ := X
  obtain ⟨hc, hin, hty, hnm⟩ := hC
  have hap := va_apart (own := own) (D := (G.1, G.2.1)) (cl := vwCl) (tys := []) hts hin (tyOf ci) hty hnm ⟨hK.1, fun k q h => by simp at h⟩ hc
  obtain ⟨cell, q1, q2, q3, q4⟩ := hH.toObj hk.1 hk.2 hc
  obtain ⟨hS, hfc, kC, hkC, hkind⟩ := hK.1 ci _ hc
  obtain ⟨cf, kf, fi, f, hi, hsl⟩ := hS j hj
  have hlay := hts _ (hin _ (u_in_lay hj))
  unfold u_lay at hlay
  rw [if_neg (by rw [hfin]; decide)] at hlay
  have hst := (u_facts hfc hkC (u_lays hts hin hj) hi).1
  have h6 := u_store hfc hkC hkind hlay hi (hty j hj) hn hfit
  refine W.putK hx hb (f := f) ⟨hown, hts _ hl, ⟨_, _, _, hi⟩, hst⟩ (by rw [q2]; exact h6) q1 q3 (by rw [hsl]; exact k2_hasslot (q4 j hj)) rfl rfl hdg fun H' e1 e2 e3 => ?_
  rw [hsl] at e1 ⊢
  refine kk H' _ (hH.set (cAt.obj (V := updV (fun j => vl L B σ (tyOf ci j) k j) j v) hk.2 hc ⟨_, e1, q2, q3, t_set q4 hap hj v⟩ (fun j' _ => ?_)) hv3 e3) (hS0.put e2 e3 hA)
  by_cases e : j' = j
  · subst e
    simp only [updV, if_true]
    exact hv1.symm
  · simp only [updV, if_neg e]
    exact (hv2 _ _ e).symm
theorem g_putI {C : String} {T : u_T} {N ci : Nat} (hC : Cls ci C T N) {j index : Nat} (hj : j < N) (hl : Cond.fieldLink own index (T j).1 (T j).2.1 (T j).2.2.1 ∈ tb) (hfin : (T j).2.2.2 = false) (hti : tyOf ci j = .int) (X : Cx p s m args c cc nL own G) (hH : HX G L B σ H) (hS0 : va_S (inW L B) H0 H locs) {k : Nat} (hk : k < L.2.2 ∧ L.1 k = .inl ci) {x : Int32} (hdg : decode cc pc = .ok (.putfield index, 3))
    (kk : ∀ (H1 : Heap) (locs1 : List Loc), HX G L B (pI σ k j x) H1 → va_S (inW L B) H0 H1 locs1 → W p l e R s m args below meth c H1 locs1 cells slots Q (F0 m (pc + 3) ls rest)) : W p l e R s m args below meth c H locs cells slots Q (F0 m pc ls (.int x :: .ref (B + k) :: rest)) :=
  g_put hC hj hl hfin X hH hS0 hk ⟨by omega, by omega⟩ (by rw [hti]; rfl) (by rw [hti]; rfl) (vl_pI_at (Or.inl hti)) (fun _ _ h => vl_pI_j h) (fun _ h _ _ => vl_pI_k h) hdg kk
theorem g_putZ {C : String} {T : u_T} {N ci : Nat} (hC : Cls ci C T N) {j index : Nat} (hj : j < N) (hl : Cond.fieldLink own index (T j).1 (T j).2.1 (T j).2.2.1 ∈ tb) (hfin : (T j).2.2.2 = false) (hti : tyOf ci j = .boolean) (X : Cx p s m args c cc nL own G) (hH : HX G L B σ H) (hS0 : va_S (inW L B) H0 H locs) {k : Nat} (hk : k < L.2.2 ∧ L.1 k = .inl ci) {x : Int32} (hx : narrow .boolean (.int x) = .int x ∧ fits .boolean (.int x) = true) (hdg : decode cc pc = .ok (.putfield index, 3))
    (kk : ∀ (H1 : Heap) (locs1 : List Loc), HX G L B (pI σ k j x) H1 → va_S (inW L B) H0 H1 locs1 → W p l e R s m args below meth c H1 locs1 cells slots Q (F0 m (pc + 3) ls rest)) : W p l e R s m args below meth c H locs cells slots Q (F0 m pc ls (.int x :: .ref (B + k) :: rest)) :=
  g_put hC hj hl hfin X hH hS0 hk ⟨by omega, by omega⟩ (by rw [hti]; exact hx.1) (by rw [hti]; exact hx.2) (vl_pI_at (Or.inr hti)) (fun _ _ h => vl_pI_j h) (fun _ h _ _ => vl_pI_k h) hdg kk
theorem g_putL {C : String} {T : u_T} {N ci : Nat} (hC : Cls ci C T N) {j index : Nat} (hj : j < N) (hl : Cond.fieldLink own index (T j).1 (T j).2.1 (T j).2.2.1 ∈ tb) (hfin : (T j).2.2.2 = false) (hti : tyOf ci j = .long) (X : Cx p s m args c cc nL own G) (hH : HX G L B σ H) (hS0 : va_S (inW L B) H0 H locs) {k : Nat} (hk : k < L.2.2 ∧ L.1 k = .inl ci) {x : Int64} (hdg : decode cc pc = .ok (.putfield index, 3))
    (kk : ∀ (H1 : Heap) (locs1 : List Loc), HX G L B (pL σ k j x) H1 → va_S (inW L B) H0 H1 locs1 → W p l e R s m args below meth c H1 locs1 cells slots Q (F0 m (pc + 3) ls rest)) : W p l e R s m args below meth c H locs cells slots Q (F0 m pc ls (.long x :: .ref (B + k) :: rest)) :=
  g_put hC hj hl hfin X hH hS0 hk ⟨by omega, by omega⟩ (by rw [hti]; rfl) (by rw [hti]; rfl) (by rw [hti]; exact vl_pL_at) (fun _ _ h => vl_pL_j h) (fun _ h _ _ => vl_pL_k h) hdg kk
theorem g_iald (X : Cx p s m args c cc nL own G) (hH : HX G L B σ H) {k n : Nat} (hk : k < L.2.2 ∧ L.1 k = .inr (.int, n)) {i : Int32} (hin : ¬ (i < 0 ∨ n ≤ i.toNatClampNeg)) (hdg : decode cc pc = .ok (.iaload, 1))
    (kk : W p l e R s m args below meth c H locs cells slots Q (F0 m (pc + 1) ls (.int (σ.1 k i.toNatClampNeg) :: rest))) : W p l e R s m args below meth c H locs cells slots Q (F0 m pc ls (.int i :: .ref (B + k) :: rest)) := by
  obtain ⟨hx, hb, hml, hown, hts, hK⟩ := X
  have hlt : i.toNatClampNeg < n := Nat.not_le.mp fun q => hin (Or.inr q)
  exact W.iald (v := .int (σ.1 k i.toNatClampNeg)) hx hb (hH.toArr hk.1 hk.2) ((hK.2 .int (by decide)).1 n _) (fun q => by cases q) (by rw [arrV_size]; exact hin) (by rw [arrV_read _ _ hlt]; rfl) rfl rfl hdg kk
theorem g_lald (X : Cx p s m args c cc nL own G) (hH : HX G L B σ H) {k n : Nat} (hk : k < L.2.2 ∧ L.1 k = .inr (.long, n)) {i : Int32} (hin : ¬ (i < 0 ∨ n ≤ i.toNatClampNeg)) (hdg : decode cc pc = .ok (.laload, 1))
    (kk : W p l e R s m args below meth c H locs cells slots Q (F0 m (pc + 1) ls (.long (σ.2 k i.toNatClampNeg) :: rest))) : W p l e R s m args below meth c H locs cells slots Q (F0 m pc ls (.int i :: .ref (B + k) :: rest)) := by
  obtain ⟨hx, hb, hml, hown, hts, hK⟩ := X
  have hlt : i.toNatClampNeg < n := Nat.not_le.mp fun q => hin (Or.inr q)
  exact W.lald (v := .long (σ.2 k i.toNatClampNeg)) hx hb (hH.toArr hk.1 hk.2) ((hK.2 .long (by decide)).1 n _) (fun q => by cases q) (by rw [arrV_size]; exact hin) (by rw [arrV_read _ _ hlt]; rfl) rfl rfl hdg kk
theorem g_zald (X : Cx p s m args c cc nL own G) (hH : HX G L B σ H) {k n : Nat} (hk : k < L.2.2 ∧ L.1 k = .inr (.boolean, n)) {i : Int32} (hin : ¬ (i < 0 ∨ n ≤ i.toNatClampNeg)) (hdg : decode cc pc = .ok (.baload, 1))
    (kk : W p l e R s m args below meth c H locs cells slots Q (F0 m (pc + 1) ls (.int (σ.1 k i.toNatClampNeg) :: rest))) : W p l e R s m args below meth c H locs cells slots Q (F0 m pc ls (.int i :: .ref (B + k) :: rest)) := by
  obtain ⟨hx, hb, hml, hown, hts, hK⟩ := X
  have hlt : i.toNatClampNeg < n := Nat.not_le.mp fun q => hin (Or.inr q)
  exact W.zald (v := .int (σ.1 k i.toNatClampNeg)) hx hb (hH.toArr hk.1 hk.2) ((hK.2 .boolean (by decide)).1 n _) (fun q => by cases q) (by rw [arrV_size]; exact hin) (by rw [arrV_read _ _ hlt]; rfl) rfl rfl hdg kk
theorem g_aald (X : Cx p s m args c cc nL own G) (hH : HX G L B σ H) {k n : Nat} {ty : FieldType} (hk : k < L.2.2 ∧ L.1 k = .inr (ty, n)) (hty : ty ∈ eTys ∧ ty.isReference = true) {i : Int32} (hin : ¬ (i < 0 ∨ n ≤ i.toNatClampNeg)) {b : Nat} (hr : L.2.1 k i.toNatClampNeg = b) (hdg : decode cc pc = .ok (.aaload, 1))
    (kk : W p l e R s m args below meth c H locs cells slots Q (F0 m (pc + 1) ls (.ref (B + b) :: rest))) : W p l e R s m args below meth c H locs cells slots Q (F0 m pc ls (.int i :: .ref (B + k) :: rest)) := by
  obtain ⟨hx, hb, hml, hown, hts, hK⟩ := X
  have hlt : i.toNatClampNeg < n := Nat.not_le.mp fun q => hin (Or.inr q)
  subst hr
  refine W.aald (v := .ref (B + L.2.1 k i.toNatClampNeg)) (ty := ty) hx hb (hH.toArr hk.1 hk.2) ((hK.2 ty hty.1).1 n _) hty.2 (fun q => by cases q) (by rw [arrV_size]; exact hin) (by
    rw [arrV_read _ _ hlt]
    have h2 := hty.2
    cases ty <;> first | rfl | (exact absurd h2 (by decide))) rfl rfl hdg kk
theorem g_alen (X : Cx p s m args c cc nL own G) (hH : HX G L B σ H) {k n : Nat} {ty : FieldType} (hk : k < L.2.2 ∧ L.1 k = .inr (ty, n)) (hty : ty ∈ eTys) (hdg : decode cc pc = .ok (.arraylength, 1))
    (kk : W p l e R s m args below meth c H locs cells slots Q (F0 m (pc + 1) ls (.int (nI n) :: rest))) : W p l e R s m args below meth c H locs cells slots Q (F0 m pc ls (.ref (B + k) :: rest)) := by
  obtain ⟨hx, hb, hml, hown, hts, hK⟩ := X
  exact W.alen (n := nI n) hx hb (hH.toArr hk.1 hk.2) ((hK.2 ty hty).1 n _) (by rw [arrV_size]; rfl) rfl rfl hdg kk
theorem g_iast (X : Cx p s m args c cc nL own G) (hH : HX G L B σ H) (hS0 : va_S (inW L B) H0 H locs) {k n : Nat} (hk : k < L.2.2 ∧ L.1 k = .inr (.int, n)) {i x : Int32} (hin : ¬ (i < 0 ∨ n ≤ i.toNatClampNeg)) (hdg : decode cc pc = .ok (.iastore, 1))
    (kk : ∀ (H1 : Heap) (locs1 : List Loc), HX G L B (pI σ k i.toNatClampNeg x) H1 → va_S (inW L B) H0 H1 locs1 → W p l e R s m args below meth c H1 locs1 cells slots Q (F0 m (pc + 1) ls rest)) : W p l e R s m args below meth c H locs cells slots Q (F0 m pc ls (.int x :: .int i :: .ref (B + k) :: rest)) := by
  obtain ⟨hx, hb, hml, hown, hts, hK⟩ := X
  refine W.iast hx hb (hH.toArr hk.1 hk.2) ((hK.2 .int (by decide)).1 n _) (fun q => by cases q) (by rw [arrV_size]; exact hin) rfl rfl hdg fun H1 e1 z oq => ?_
  rw [arrV_store] at e1
  refine kk H1 _ (hH.set (cAt.arr hk.2 e1 (fun j => ?_)) (fun _ h _ _ => vl_pI_k h) oq) (hS0.put z oq ⟨by omega, by omega⟩)
  by_cases hq : j = i.toNatClampNeg
  · subst hq
    simp only [updV, if_true]
    exact (vl_pI_at (Or.inl rfl)).symm
  · simp only [updV, if_neg hq]
    exact (vl_pI_j hq).symm
theorem g_zast (X : Cx p s m args c cc nL own G) (hH : HX G L B σ H) (hS0 : va_S (inW L B) H0 H locs) {k n : Nat} (hk : k < L.2.2 ∧ L.1 k = .inr (.boolean, n)) {i x : Int32} (hn : narrow .boolean (.int x) = .int x) (hin : ¬ (i < 0 ∨ n ≤ i.toNatClampNeg)) (hdg : decode cc pc = .ok (.bastore, 1))
    (kk : ∀ (H1 : Heap) (locs1 : List Loc), HX G L B (pI σ k i.toNatClampNeg x) H1 → va_S (inW L B) H0 H1 locs1 → W p l e R s m args below meth c H1 locs1 cells slots Q (F0 m (pc + 1) ls rest)) : W p l e R s m args below meth c H locs cells slots Q (F0 m pc ls (.int x :: .int i :: .ref (B + k) :: rest)) := by
  obtain ⟨hx, hb, hml, hown, hts, hK⟩ := X
  refine W.zast hx hb (hH.toArr hk.1 hk.2) ((hK.2 .boolean (by decide)).1 n _) (fun q => by cases q) (by rw [arrV_size]; exact hin) rfl rfl hdg fun H1 e1 z oq => ?_
  rw [hn, arrV_store] at e1
  refine kk H1 _ (hH.set (cAt.arr hk.2 e1 (fun j => ?_)) (fun _ h _ _ => vl_pI_k h) oq) (hS0.put z oq ⟨by omega, by omega⟩)
  by_cases hq : j = i.toNatClampNeg
  · subst hq
    simp only [updV, if_true]
    exact (vl_pI_at (Or.inr rfl)).symm
  · simp only [updV, if_neg hq]
    exact (vl_pI_j hq).symm
theorem g_last (X : Cx p s m args c cc nL own G) (hH : HX G L B σ H) (hS0 : va_S (inW L B) H0 H locs) {k n : Nat} (hk : k < L.2.2 ∧ L.1 k = .inr (.long, n)) {i : Int32} {x : Int64} (hin : ¬ (i < 0 ∨ n ≤ i.toNatClampNeg)) (hdg : decode cc pc = .ok (.lastore, 1))
    (kk : ∀ (H1 : Heap) (locs1 : List Loc), HX G L B (pL σ k i.toNatClampNeg x) H1 → va_S (inW L B) H0 H1 locs1 → W p l e R s m args below meth c H1 locs1 cells slots Q (F0 m (pc + 1) ls rest)) : W p l e R s m args below meth c H locs cells slots Q (F0 m pc ls (.long x :: .int i :: .ref (B + k) :: rest)) := by
  obtain ⟨hx, hb, hml, hown, hts, hK⟩ := X
  refine W.last hx hb (hH.toArr hk.1 hk.2) ((hK.2 .long (by decide)).1 n _) (fun q => by cases q) (by rw [arrV_size]; exact hin) rfl rfl hdg fun H1 e1 z oq => ?_
  rw [arrV_store] at e1
  refine kk H1 _ (hH.set (cAt.arr hk.2 e1 (fun j => ?_)) (fun _ h _ _ => vl_pL_k h) oq) (hS0.put z oq ⟨by omega, by omega⟩)
  by_cases hq : j = i.toNatClampNeg
  · subst hq
    simp only [updV, if_true]
    exact vl_pL_at.symm
  · simp only [updV, if_neg hq]
    exact (vl_pL_j hq).symm
end HXS
end
section
/-! ===== contracts and calls over the picture ===== -/
def rmk (d : Nat) : Room := { frames := d, cells := 0, slots := 0, locals := 40 * d }
def Qt (G : Gd) (L : Lay) (B : Nat) (res : Option Value) (σ' : Sto) : Array Value → State → Outcome → State → Prop := fun _ st oc t => oc = .returned res ∧ HX G L B σ' t.heap ∧ va_F (inW L B) st t
def Ct (l : Launch) (G : Gd) (L : Lay) (B : Nat) (y : MethodName) (cc : ByteArray) (maxL : Nat) (ret : Option FieldType) (d : Nat) (as : List Value) (res : Option Value) (σ σ' : Sto) : Prop :=
  Met l y (.code y cc maxL ret :: tb) (rmk d) (va_Pc as (fun U => HX G L B σ U.heap ∧ KK G U)) (Qt G L B res σ') 0 0 (inW L B)
/-- the W that a method's walk is about -/
abbrev WM (p : Program) (l : Launch) (e : Env) (d : Nat) (s : State) (m : MethodId) (args : Array Value) (below : List Frame) (meth : Method) (c : Code) (H : Heap) (locs : List Loc) (G : Gd) (L : Lay) (B : Nat) (res : Option Value) (σ' : Sto) (g : JFrame) : Prop :=
  W p l e (rmk d) s m args below meth c H locs 0 0 (MQ below (Qt G L B res σ') args s 0 0 (inW L B)) g
/-- what a walk stands on: the machine, the code, the tables, the return's type -/
def Cm (p : Program) (s : State) (m : MethodId) (args : Array Value) (meth : Method) (c : Code) (cc : ByteArray) (nL : Nat) (own : String) (G : Gd) (ret : Option FieldType) : Prop :=
  Cx p s m args c cc nL own G ∧ meth.sig.returnType = ret ∧ meth.locks = false
theorem Ct.ofW {l : Launch} {G : Gd} {L : Lay} {B : Nat} {y : MethodName} {cc : ByteArray} {maxL : Nat} {ret : Option FieldType} {d : Nat} {as : List Value} {res : Option Value} {σ σ' : Sto} (hy : plainName y.cls = true) (hlen : (lg_sl as).length ≤ maxL)
    (body : ∀ (p : Program) (e : Env) (s : State) (m : MethodId) (below : List Frame) (meth : Method) (c : Code), Cm p s m as.toArray meth c cc maxL y.cls G ret → HX G L B σ s.heap → va_S (inW L B) s.heap s.heap [] → ∀ ls : Array Slot, lv_has ls maxL (lv_args 0 as) → WM p l e d s m as.toArray below meth c s.heap [] G L B res σ' (F0 m 0 ls [])) : Ct l G L B y cc maxL ret d as res σ σ' := by
  refine Met.ofW (cc := cc) (maxL := maxL) (ret := ret) hy rfl ?_
  intro p e s m args below meth c s₁ Bd hml hv
  obtain ⟨rfl, hH, hK⟩ := hv
  have hts := atoms_spec (ws := Cond.code y cc maxL ret :: tb) Bd.pre
  have hown : s.vm.findClass y.cls = some m.cls := findClass_of_methodNamed Bd.named
  have hl := lv_entry as (n := maxL) hlen
  rw [lg_entry_eq]
  exact body p e s m below meth c ⟨⟨Bd.exec, Bd.bytes, hml, hown, fun w hw => hts w (List.mem_cons_of_mem _ hw), hK⟩, Bd.returns, Bd.notSynchronized⟩ hH va_S.rf _ hl
section HXC
variable {p : Program} {l : Launch} {e : Env} {R : Room} {s : State} {m : MethodId} {args : Array Value} {below : List Frame} {meth : Method} {c : Code} {H : Heap} {locs : List Loc} {cells slots : Nat} {Q : State → Prop}
variable {cc : ByteArray} {pc nL : Nat} {ls : Array Slot} {rest st0 : List Value} {own : String} {G : Gd} {L : Lay} {B : Nat} {σ σ' : Sto} {A : Nat → Prop} {H0 : Heap} {res : Option Value} {ret : Option FieldType} {d D : Nat} {lv : List (Nat × Value)}
theorem g_iret (X : Cm p s m args meth c cc nL own G (some .int)) (hH : HX G L B σ' H) (hS : va_S (inW L B) s.heap H locs) {v : Int32} (hdg : decode cc pc = .ok (.ireturn, 1)) : WM p l e d s m args below meth c H locs G L B (some (.int v)) σ' (F0 m pc ls [.int v]) :=
  W.iret X.1.1 X.1.2.1 X.2.1 (fun t ht hW => ⟨rfl, by rw [ht]; exact hH, hS.F ht⟩) hS.2.2 hdg X.2.2
theorem g_zret (X : Cm p s m args meth c cc nL own G (some .boolean)) (hH : HX G L B σ' H) (hS : va_S (inW L B) s.heap H locs) {v : Int32} (hv : v = 0 ∨ v = 1) (hdg : decode cc pc = .ok (.ireturn, 1)) : WM p l e d s m args below meth c H locs G L B (some (.int v)) σ' (F0 m pc ls [.int v]) :=
  W.zret X.1.1 X.1.2.1 X.2.1 (by rcases hv with rfl | rfl <;> rfl) (fun t ht hW => ⟨rfl, by rw [ht]; exact hH, hS.F ht⟩) hS.2.2 hdg X.2.2
theorem g_lret (X : Cm p s m args meth c cc nL own G (some .long)) (hH : HX G L B σ' H) (hS : va_S (inW L B) s.heap H locs) {v : Int64} (hdg : decode cc pc = .ok (.lreturn, 1)) : WM p l e d s m args below meth c H locs G L B (some (.long v)) σ' (F0 m pc ls [.long v]) :=
  W.lret X.1.1 X.1.2.1 X.2.1 (fun t ht hW => ⟨rfl, by rw [ht]; exact hH, hS.F ht⟩) hS.2.2 hdg X.2.2
theorem g_vret (X : Cm p s m args meth c cc nL own G none) (hH : HX G L B σ' H) (hS : va_S (inW L B) s.heap H locs) (hdg : decode cc pc = .ok (.return_, 1)) : WM p l e d s m args below meth c H locs G L B none σ' (F0 m pc ls []) :=
  W.vret X.1.1 X.1.2.1 X.2.1 (fun t ht hW => ⟨rfl, by rw [ht]; exact hH, hS.F ht⟩) hS.2.2 hdg X.2.2
theorem g_aret {C : String} (X : Cm p s m args meth c cc nL own G (some (.object C))) (hH : HX G L B σ' H) (hS : va_S (inW L B) s.heap H locs) {a : Nat} (hdg : decode cc pc = .ok (.areturn, 1)) : WM p l e d s m args below meth c H locs G L B (some (.ref a)) σ' (F0 m pc ls [.ref a]) :=
  W.aret X.1.1 X.1.2.1 X.2.1 (Or.inl ⟨_, rfl⟩) (Or.inr ⟨_, rfl⟩) (fun t ht hW => ⟨rfl, by rw [ht]; exact hH, hS.F ht⟩) hS.2.2 hdg X.2.2
def CwB (own : String) (idx : Nat) (y : MethodName) (cc : ByteArray) (maxL : Nat) (ret : Option FieldType) (n : Nat) : Prop := Cond.methodLink own idx y ∈ tb ∧ Cond.initialized y.cls ∈ tb ∧ Cond.code y cc maxL ret ∈ tb ∧ (y.cls ≠ "java/lang/invoke/MethodHandle" ∧ y.cls ≠ "java/lang/invoke/VarHandle" ∧ (parseMethodDescriptor y.desc).map (fun d => d.parameters.length) = some n)
theorem CwB.to {idx : Nat} {y : MethodName} {bytes : ByteArray} {maxL n : Nat} (h : CwB own idx y bytes maxL ret n) (hts : ∀ w ∈ tb, w.before args s = true) (hR : d + 1 ≤ R.frames ∧ 8 + (maxL + 11) + 40 * d ≤ R.locals) : CallB R s args own idx y bytes maxL ret (Cond.code y bytes maxL ret :: tb) (rmk d) 0 0 n :=
  callB_of n hts (fun w hw => by
    rcases List.mem_cons.mp hw with rfl | hw
    · exact ⟨h.2.2.1, tbl_good _ h.2.2.1⟩
    · exact ⟨hw, tbl_good _ hw⟩) rfl rfl rfl (hts _ h.2.1) (hts _ h.1) h.2.2.2 hR
theorem blindP {as : List Value} : FrameBlind (va_Pc as (fun U => HX G L B σ U.heap ∧ KK G U)) := fun a U g mk q => by
  obtain ⟨q0, q1, q2⟩ := q
  exact ⟨q0, q1, KK.moved (u := U) (U := U.calling g mk a) (Vm.Alike.refl U.vm) q2⟩
theorem g_go (hr : va_Run p l e R s m args below meth c H locs cells slots 0 0 (F0 m pc ls st0) rest (fun st oc t => oc = .returned res ∧ HX G L B σ' t.heap ∧ va_F (inW L B) st t) (inW L B)) (hS : va_S A H0 H locs) (hA : ∀ q, inW L B q → A q)
    (kk : ∀ (H1 : Heap) (locs1 : List Loc), HX G L B σ' H1 → va_S A H0 H1 locs1 → H.size ≤ H1.size → (∀ q : Nat, q < H.size → ¬ inW L B q → H1[q]? = H[q]?) → W p l e R s m args below meth c H1 locs1 cells slots Q (F0 m (pc + 3) ls (res.toList ++ rest))) : W p l e R s m args below meth c H locs cells slots Q (F0 m pc ls st0) := by
  intro T hT X
  obtain ⟨v, st₀, t, T', Lc, h0, X', hL, e1, e2, ⟨hv, hX, hz, hk⟩, st⟩ := hr T hT X
  cases hv
  rw [h0] at hz hk
  obtain ⟨t2, a1, b1⟩ := kk T'.heap (locs ++ Lc) (by rw [e1]; exact hX)
    ⟨Nat.le_trans hS.1 (by rw [e1]; exact hz), fun q h1 h2 => by rw [e1, hk q (Nat.lt_of_lt_of_le h1 hS.1) (fun z => h2 (hA q z))]; exact hS.2.1 q h1 h2, fun q hq => by
      rcases List.mem_append.mp hq with h | h
      · exact hS.2.2 q h
      · exact hA _ (hL q h)⟩ (by rw [e1]; exact hz) (fun q h1 h2 => by rw [e1]; exact hk q h1 h2) T' rfl X'
  exact ⟨t2, st t2 a1, b1⟩
theorem g_virt {idx k n maxL ci N : Nat} {y : MethodName} {bytes : ByteArray} {As : List Value} {T : u_T} {C : String} (X : Cx p s m args c cc nL own G) (hH : HX G L B σ H) (hS : va_S A H0 H locs) (hA : ∀ q, inW L B q → A q) (hM : Ct l G L B y bytes maxL ret d (.ref (B + k) :: As) res σ σ') (hw : CwB own idx y bytes maxL ret n) (hw2 : Cond.instanceMethod y ∈ tb ∧ Cond.selects C y y ∈ tb) (hC : vwCl[ci]? = some (C, T, N)) (hk : k < L.2.2 ∧ L.1 k = .inl ci) (hR : d + 1 ≤ R.frames ∧ 8 + (maxL + 11) + 40 * d ≤ R.locals) (hcs : cells ≤ R.cells ∧ slots ≤ R.slots) (hn : As.length = n) (hls : ls.size = nL) (hcat : (rest.map fun v => v.category).sum ≤ 8) (hst : st0 = As.reverse ++ .ref (B + k) :: rest) (hdg : decode cc pc = .ok (.invokevirtual idx, 3))
    (kk : ∀ (H1 : Heap) (locs1 : List Loc), HX G L B σ' H1 → va_S A H0 H1 locs1 → H.size ≤ H1.size → (∀ q : Nat, q < H.size → ¬ inW L B q → H1[q]? = H[q]?) → W p l e R s m args below meth c H1 locs1 cells slots Q (F0 m (pc + 3) ls (res.toList ++ rest))) : W p l e R s m args below meth c H locs cells slots Q (F0 m pc ls st0) := by
  obtain ⟨hx, hb, hml, hown, hts, hK⟩ := X
  obtain ⟨cell, q1, q2, q3, q4⟩ := hH.toObj hk.1 hk.2 hC
  obtain ⟨-, hfc, -⟩ := hK.1 ci _ hC
  exact g_go (va_runV (As := As) (rest := rest) (g := F0 m pc ls st0) ⟨hx, hb, hml, hown, hts⟩ hM ⟨hw.to hts hR, hts _ hw2.1, hts _ hw2.2⟩ ⟨blindP, ⟨cell, q1, by rw [q3]; rfl, by rw [q2]; exact hfc⟩, fun U hU hW => ⟨rfl, by rw [hU]; exact hH, KK.moved hW.alike hK⟩⟩ rfl hn hls hst (lv_room hcat) hdg hcs) hS hA kk
theorem g_stat {idx n maxL : Nat} {y : MethodName} {bytes : ByteArray} {As : List Value} (X : Cx p s m args c cc nL own G) (hH : HX G L B σ H) (hS : va_S A H0 H locs) (hA : ∀ q, inW L B q → A q) (hM : Ct l G L B y bytes maxL ret d As res σ σ') (hw : CwB own idx y bytes maxL ret n) (hw2 : Cond.static y ∈ tb) (hR : d + 1 ≤ R.frames ∧ 8 + (maxL + 11) + 40 * d ≤ R.locals) (hcs : cells ≤ R.cells ∧ slots ≤ R.slots) (hn : As.length = n) (hls : ls.size = nL) (hcat : (rest.map fun v => v.category).sum ≤ 8) (hst : st0 = As.reverse ++ rest) (hdg : decode cc pc = .ok (.invokestatic idx, 3))
    (kk : ∀ (H1 : Heap) (locs1 : List Loc), HX G L B σ' H1 → va_S A H0 H1 locs1 → H.size ≤ H1.size → (∀ q : Nat, q < H.size → ¬ inW L B q → H1[q]? = H[q]?) → W p l e R s m args below meth c H1 locs1 cells slots Q (F0 m (pc + 3) ls (res.toList ++ rest))) : W p l e R s m args below meth c H locs cells slots Q (F0 m pc ls st0) := by
  obtain ⟨hx, hb, hml, hown, hts, hK⟩ := X
  exact g_go (va_runS (As := As) (rest := rest) (g := F0 m pc ls st0) ⟨hx, hb, hml, hown, hts⟩ hM ⟨hw.to hts hR, hts _ hw2⟩ ⟨blindP, fun U hU hW => ⟨rfl, by rw [hU]; exact hH, KK.moved hW.alike hK⟩⟩ rfl hn hls hst (lv_room hcat) hdg hcs) hS hA kk
/-- calls inside a method's walk -/
theorem g_cV {idx k n maxL ci N : Nat} {y : MethodName} {bytes : ByteArray} {As : List Value} {T : u_T} {C : String} (X : Cx p s m args c cc nL own G) (hH : HX G L B σ H) (hS : va_S (inW L B) s.heap H locs) (hM : Ct l G L B y bytes maxL ret d (.ref (B + k) :: As) res σ σ') (hw : CwB own idx y bytes maxL ret n ∧ Cond.instanceMethod y ∈ tb ∧ Cond.selects C y y ∈ tb) (hC : Cls ci C T N) (hk : k < L.2.2 ∧ L.1 k = .inl ci) (hR : d < D ∧ maxL ≤ 21) (hn : As.length = n) (hl : lv_has ls nL lv) (hcat : (rest.map fun v => v.category).sum ≤ 8) (hst : st0 = As.reverse ++ .ref (B + k) :: rest) (hdg : decode cc pc = .ok (.invokevirtual idx, 3))
    (kk : ∀ (H1 : Heap) (locs1 : List Loc), HX G L B σ' H1 → va_S (inW L B) s.heap H1 locs1 → W p l e (rmk D) s m args below meth c H1 locs1 0 0 Q (F0 m (pc + 3) ls (res.toList ++ rest))) : W p l e (rmk D) s m args below meth c H locs 0 0 Q (F0 m pc ls st0) :=
  g_virt X hH hS (fun _ h => h) hM hw.1 hw.2 hC.1 hk ⟨by show d + 1 ≤ D; omega, by show 8 + (maxL + 11) + 40 * d ≤ 40 * D; omega⟩ ⟨Nat.le_refl 0, Nat.le_refl 0⟩ hn hl.1 hcat hst hdg (fun H1 locs1 h1 h2 _ _ => kk H1 locs1 h1 h2)
theorem g_cS {idx n maxL : Nat} {y : MethodName} {bytes : ByteArray} {As : List Value} (X : Cx p s m args c cc nL own G) (hH : HX G L B σ H) (hS : va_S (inW L B) s.heap H locs) (hM : Ct l G L B y bytes maxL ret d As res σ σ') (hw : CwB own idx y bytes maxL ret n ∧ Cond.static y ∈ tb) (hR : d < D ∧ maxL ≤ 21) (hn : As.length = n) (hl : lv_has ls nL lv) (hcat : (rest.map fun v => v.category).sum ≤ 8) (hst : st0 = As.reverse ++ rest) (hdg : decode cc pc = .ok (.invokestatic idx, 3))
    (kk : ∀ (H1 : Heap) (locs1 : List Loc), HX G L B σ' H1 → va_S (inW L B) s.heap H1 locs1 → W p l e (rmk D) s m args below meth c H1 locs1 0 0 Q (F0 m (pc + 3) ls (res.toList ++ rest))) : W p l e (rmk D) s m args below meth c H locs 0 0 Q (F0 m pc ls st0) :=
  g_stat X hH hS (fun _ h => h) hM hw.1 hw.2 ⟨by show d + 1 ≤ D; omega, by show 8 + (maxL + 11) + 40 * d ≤ 40 * D; omega⟩ ⟨Nat.le_refl 0, Nat.le_refl 0⟩ hn hl.1 hcat hst hdg (fun H1 locs1 h1 h2 _ _ => kk H1 locs1 h1 h2)
/-! Math of longs -/
def mabs (x : Int64) : Int64 := if 0 < x then x else -x
def mmax (x y : Int64) : Int64 := if y < x then x else y
def mmin (x y : Int64) : Int64 := if y < x then y else x
theorem g_abs {idx : Nat} {x : Int64} (X : Cx p s m args c cc nL own G) (hw : Cond.methodLink own idx Lib.MathLoose.abs_long.x ∈ tb ∧ Cond.static Lib.MathLoose.abs_long.x ∈ tb ∧ Cond.initialized "java/lang/Math" ∈ tb ∧ Cond.code Lib.MathLoose.abs_long.x Lib.MathLoose.abs_long.code 2 (some .long) ∈ tb) (hR : 0 < D) (hl : lv_has ls nL lv) (hcat : (rest.map fun v => v.category).sum ≤ 8) (hdg : decode cc pc = .ok (.invokestatic idx, 3))
    (kk : W p l e (rmk D) s m args below meth c H locs 0 0 Q (F0 m (pc + 3) ls (.long (mabs x) :: rest))) : W p l e (rmk D) s m args below meth c H locs 0 0 Q (F0 m pc ls (.long x :: rest)) :=
  va_mabs_long X.1 X.2.1 (X.2.2.1.trans hl.1.symm) X.2.2.2.1 (X.2.2.2.2.1 _ hw.1) (X.2.2.2.2.1 _ hw.2.1) (X.2.2.2.2.1 _ hw.2.2.1) (X.2.2.2.2.1 _ hw.2.2.2) (by show 1 ≤ D; omega) (by show _ ≤ 40 * D; omega) (Nat.zero_le _) (Nat.zero_le _) hdg kk
theorem g_max {idx : Nat} {x y : Int64} (X : Cx p s m args c cc nL own G) (hw : Cond.methodLink own idx Lib.MathLoose.max_long.x ∈ tb ∧ Cond.static Lib.MathLoose.max_long.x ∈ tb ∧ Cond.initialized "java/lang/Math" ∈ tb ∧ Cond.code Lib.MathLoose.max_long.x Lib.MathLoose.max_long.code 4 (some .long) ∈ tb) (hR : 0 < D) (hl : lv_has ls nL lv) (hcat : (rest.map fun v => v.category).sum ≤ 8) (hdg : decode cc pc = .ok (.invokestatic idx, 3))
    (kk : W p l e (rmk D) s m args below meth c H locs 0 0 Q (F0 m (pc + 3) ls (.long (mmax x y) :: rest))) : W p l e (rmk D) s m args below meth c H locs 0 0 Q (F0 m pc ls (.long y :: .long x :: rest)) :=
  va_mmax_long X.1 X.2.1 (X.2.2.1.trans hl.1.symm) X.2.2.2.1 (X.2.2.2.2.1 _ hw.1) (X.2.2.2.2.1 _ hw.2.1) (X.2.2.2.2.1 _ hw.2.2.1) (X.2.2.2.2.1 _ hw.2.2.2) (by show 1 ≤ D; omega) (by show _ ≤ 40 * D; omega) (Nat.zero_le _) (Nat.zero_le _) hdg kk
theorem g_min {idx : Nat} {x y : Int64} (X : Cx p s m args c cc nL own G) (hw : Cond.methodLink own idx Lib.MathLoose.min_long.x ∈ tb ∧ Cond.static Lib.MathLoose.min_long.x ∈ tb ∧ Cond.initialized "java/lang/Math" ∈ tb ∧ Cond.code Lib.MathLoose.min_long.x Lib.MathLoose.min_long.code 4 (some .long) ∈ tb) (hR : 0 < D) (hl : lv_has ls nL lv) (hcat : (rest.map fun v => v.category).sum ≤ 8) (hdg : decode cc pc = .ok (.invokestatic idx, 3))
    (kk : W p l e (rmk D) s m args below meth c H locs 0 0 Q (F0 m (pc + 3) ls (.long (mmin x y) :: rest))) : W p l e (rmk D) s m args below meth c H locs 0 0 Q (F0 m pc ls (.long y :: .long x :: rest)) :=
  va_mmin_long X.1 X.2.1 (X.2.2.1.trans hl.1.symm) X.2.2.2.1 (X.2.2.2.2.1 _ hw.1) (X.2.2.2.2.1 _ hw.2.1) (X.2.2.2.2.1 _ hw.2.2.1) (X.2.2.2.2.1 _ hw.2.2.2) (by show 1 ≤ D; omega) (by show _ ≤ 40 * D; omega) (Nat.zero_le _) (Nat.zero_le _) hdg kk
/-! compares of longs with their branch -/
theorem g_leq (X : Cx p s m args c cc nL own G) {x y : Int64} {off : Int} {tgt : Nat} (hd1 : decode cc pc = .ok (.lcmp, 1)) (hdg : decode cc (pc + 1) = .ok (.ifCond .eq off, 3)) (ht : ((pc + 1 : Nat) : Int) + off = (tgt : Int))
    (kt : x = y → W p l e R s m args below meth c H locs cells slots Q (F0 m tgt ls rest)) (kf : ¬ x = y → W p l e R s m args below meth c H locs cells slots Q (F0 m (pc + 4) ls rest)) : W p l e R s m args below meth c H locs cells slots Q (F0 m pc ls (.long y :: .long x :: rest)) :=
  W.lcmp X.1 X.2.1 hd1 (lv_if_eq X.1 X.2.1 hdg ht (fun h => kt ((lg_cmp_eq x y).mp h)) (fun h => kf (fun q => h ((lg_cmp_eq x y).mpr q))))
theorem g_lne (X : Cx p s m args c cc nL own G) {x y : Int64} {off : Int} {tgt : Nat} (hd1 : decode cc pc = .ok (.lcmp, 1)) (hdg : decode cc (pc + 1) = .ok (.ifCond .ne off, 3)) (ht : ((pc + 1 : Nat) : Int) + off = (tgt : Int))
    (kt : ¬ x = y → W p l e R s m args below meth c H locs cells slots Q (F0 m tgt ls rest)) (kf : x = y → W p l e R s m args below meth c H locs cells slots Q (F0 m (pc + 4) ls rest)) : W p l e R s m args below meth c H locs cells slots Q (F0 m pc ls (.long y :: .long x :: rest)) :=
  W.lcmp X.1 X.2.1 hd1 (lv_if_ne X.1 X.2.1 hdg ht (fun h => kt (fun q => h ((lg_cmp_eq x y).mpr q))) (fun h => kf ((lg_cmp_eq x y).mp h)))
theorem g_llt (X : Cx p s m args c cc nL own G) {x y : Int64} {off : Int} {tgt : Nat} (hd1 : decode cc pc = .ok (.lcmp, 1)) (hdg : decode cc (pc + 1) = .ok (.ifCond .lt off, 3)) (ht : ((pc + 1 : Nat) : Int) + off = (tgt : Int))
    (kt : x < y → W p l e R s m args below meth c H locs cells slots Q (F0 m tgt ls rest)) (kf : ¬ x < y → W p l e R s m args below meth c H locs cells slots Q (F0 m (pc + 4) ls rest)) : W p l e R s m args below meth c H locs cells slots Q (F0 m pc ls (.long y :: .long x :: rest)) :=
  W.lcmp X.1 X.2.1 hd1 (lv_if_lt X.1 X.2.1 hdg ht (fun h => kt ((lg_cmp_lt x y).mp h)) (fun h => kf (fun q => h ((lg_cmp_lt x y).mpr q))))
theorem g_lge (X : Cx p s m args c cc nL own G) {x y : Int64} {off : Int} {tgt : Nat} (hd1 : decode cc pc = .ok (.lcmp, 1)) (hdg : decode cc (pc + 1) = .ok (.ifCond .ge off, 3)) (ht : ((pc + 1 : Nat) : Int) + off = (tgt : Int))
    (kt : y ≤ x → W p l e R s m args below meth c H locs cells slots Q (F0 m tgt ls rest)) (kf : ¬ y ≤ x → W p l e R s m args below meth c H locs cells slots Q (F0 m (pc + 4) ls rest)) : W p l e R s m args below meth c H locs cells slots Q (F0 m pc ls (.long y :: .long x :: rest)) :=
  W.lcmp X.1 X.2.1 hd1 (lv_if_ge X.1 X.2.1 hdg ht (fun h => kt ((lg_cmp_ge x y).mp h)) (fun h => kf (fun q => h ((lg_cmp_ge x y).mpr q))))
theorem g_lgt (X : Cx p s m args c cc nL own G) {x y : Int64} {off : Int} {tgt : Nat} (hd1 : decode cc pc = .ok (.lcmp, 1)) (hdg : decode cc (pc + 1) = .ok (.ifCond .gt off, 3)) (ht : ((pc + 1 : Nat) : Int) + off = (tgt : Int))
    (kt : y < x → W p l e R s m args below meth c H locs cells slots Q (F0 m tgt ls rest)) (kf : ¬ y < x → W p l e R s m args below meth c H locs cells slots Q (F0 m (pc + 4) ls rest)) : W p l e R s m args below meth c H locs cells slots Q (F0 m pc ls (.long y :: .long x :: rest)) :=
  W.lcmp X.1 X.2.1 hd1 (lv_if_gt X.1 X.2.1 hdg ht (fun h => kt ((lg_cmp_gt x y).mp h)) (fun h => kf (fun q => h ((lg_cmp_gt x y).mpr q))))
theorem g_lle (X : Cx p s m args c cc nL own G) {x y : Int64} {off : Int} {tgt : Nat} (hd1 : decode cc pc = .ok (.lcmp, 1)) (hdg : decode cc (pc + 1) = .ok (.ifCond .le off, 3)) (ht : ((pc + 1 : Nat) : Int) + off = (tgt : Int))
    (kt : x ≤ y → W p l e R s m args below meth c H locs cells slots Q (F0 m tgt ls rest)) (kf : ¬ x ≤ y → W p l e R s m args below meth c H locs cells slots Q (F0 m (pc + 4) ls rest)) : W p l e R s m args below meth c H locs cells slots Q (F0 m pc ls (.long y :: .long x :: rest)) :=
  W.lcmp X.1 X.2.1 hd1 (lv_if_le X.1 X.2.1 hdg ht (fun h => kt ((lg_cmp_le x y).mp h)) (fun h => kf (fun q => h ((lg_cmp_le x y).mpr q))))
theorem nneg (z : Int32) (hz : ¬ z < 0) : z.toInt = (z.toNatClampNeg : Int) := by
  have hz0 : (0 : Int) ≤ z.toInt := by
    have := Int32.not_lt.mp hz
    simpa using Int32.le_iff_toInt_le.mp this
  show z.toInt = ((z.toInt.toNat : Nat) : Int)
  omega
def CwC (own : String) (idx : Nat) : Prop := Cond.methodLink own idx arraycopyName ∈ tb ∧ Cond.native arraycopyName ∈ tb ∧ Cond.static arraycopyName ∈ tb ∧ Cond.initialized "java/lang/System" ∈ tb
theorem g_copy {α : Type} (mk : α → Value) {ty : FieldType} (hty : ty ∈ eTys ∧ refKind ty = false) (hfit : ∀ x : α, fits ty (mk x) = true) (hne : ∀ (x : α) (a : Addr), mk x ≠ .ref a) {f g : Nat → α} {k1 k2 n1 n2 : Nat} (X : Cx p s m args c cc nL own G) {idx : Nat} (hw : CwC own idx) (hc0 : H[B + k1]? = some (arrV (G.2.2 ty) n1 (fun j => mk (f j)))) (hc1 : H[B + k2]? = some (arrV (G.2.2 ty) n2 (fun j => mk (g j)))) (hS0 : va_S A H0 H locs) (hA : A (B + k2))
    {sp dp n : Int32} (hin : ¬ (sp < 0 ∨ dp < 0 ∨ n < 0 ∨ n1 < sp.toNatClampNeg + n.toNatClampNeg ∨ n2 < dp.toNatClampNeg + n.toNatClampNeg)) (hls : ls.size = nL) (hframes : 1 ≤ R.frames) (hlocals : (rest.map fun v => v.category).sum + (nativeFrameWords "java/lang/System" "arraycopy" 5 + 11) ≤ R.locals) (hdg : decode cc pc = .ok (.invokestatic idx, 3))
    (kk : ∀ (H1 : Heap) (locs1 : List Loc), H1[B + k2]? = some (arrV (G.2.2 ty) n2 (fun j => mk (va_cpy f g sp.toNatClampNeg dp.toNatClampNeg n.toNatClampNeg j))) → (∀ q, q ≠ B + k2 → H1[q]? = H[q]?) → va_S A H0 H1 locs1 → W p l e R s m args below meth c H1 locs1 cells slots Q (F0 m (pc + 3) ls rest)) : W p l e R s m args below meth c H locs cells slots Q (F0 m pc ls (.int n :: .int dp :: .ref (B + k2) :: .int sp :: .ref (B + k1) :: rest)) := by
  obtain ⟨hx, hb, hml, hown, hts, hK⟩ := X
  simp only [not_or, Nat.not_lt] at hin
  obtain ⟨h1, h2, h3, h4, h5⟩ := hin
  intro T hT X
  obtain ⟨-, q0, hk0, cm0, hkk0⟩ := (hK.2 ty hty.1).1 n1 (fun j => mk (f j))
  obtain ⟨-, q1, hk1, cm1, hkk1⟩ := (hK.2 ty hty.1).1 n2 (fun j => mk (g j))
  obtain ⟨vm', X', step⟩ := X.arraycopy hx hown (hts _ hw.1) (hts _ hw.2.1) (hts _ hw.2.2.1) (hts _ hw.2.2.2) (src := B + k1) (dst := B + k2) (cs := arrV (G.2.2 ty) n1 (fun j => mk (f j))) (cd := arrV (G.2.2 ty) n2 (fun j => mk (g j))) (srcPos := sp) (destPos := dp) (n := n) (by rw [hT]; exact hc0) (by rw [hT]; exact hc1)
    (fun _ h => by cases h) (fun _ h => by cases h) (fun h => by cases h) (fun h => by cases h) hk0 hk1 hkk0 hkk1 (by simp [hty.2]) h1 h2 h3
    (by rw [nneg sp h1, nneg n h3, arrV_size]; omega)
    (by rw [nneg dp h2, nneg n h3, arrV_size]; omega)
    (fun vm₁ _ i hi => by
      have e : (arrV (G.2.2 ty) n1 (fun j => mk (f j))).slots.getD (sp.toNatClampNeg + i) .null = mk (f (sp.toNatClampNeg + i)) := by
        rw [Array.getD_eq_getD_getElem?, arrV_read _ _ (by omega)]
        rfl
      refine ⟨?_, ?_⟩
      · rw [e]
        exact hfit _
      · rw [e]
        cases h9 : mk (f (sp.toNatClampNeg + i)) <;> first | exact trivial | exact absurd h9 (hne _ _))
    (g := F0 m pc ls (.int n :: .int dp :: .ref (B + k2) :: .int sp :: .ref (B + k1) :: rest)) rfl (by rw [hml]; exact hls) (rest := rest) rfl (by rw [hb]; exact hdg) hframes (by show 2 * 0 + _ + _ ≤ _; omega)
  have e1 : copied (arrV (G.2.2 ty) n1 (fun j => mk (f j))) (arrV (G.2.2 ty) n2 (fun j => mk (g j))) sp dp n = arrV (G.2.2 ty) n2 (fun j => mk (va_cpy f g sp.toNatClampNeg dp.toNatClampNeg n.toNatClampNeg j)) := va_copied mk (G.2.2 ty) (G.2.2 ty) f g h4
  rw [e1] at X' step
  have hl : B + k2 < H.size := (Array.getElem?_eq_some_iff.mp hc1).1
  have oq : ∀ q : Nat, q ≠ B + k2 → (H.setIfInBounds (B + k2) (arrV (G.2.2 ty) n2 (fun j => mk (va_cpy f g sp.toNatClampNeg dp.toNatClampNeg n.toNatClampNeg j))))[q]? = H[q]? := fun q hq => by simp [Array.getElem?_setIfInBounds, Ne.symm hq]
  have hheap : ((T.setVm vm').setCell (B + k2) (arrV (G.2.2 ty) n2 (fun j => mk (va_cpy f g sp.toNatClampNeg dp.toNatClampNeg n.toNatClampNeg j)))).heap = H.setIfInBounds (B + k2) (arrV (G.2.2 ty) n2 (fun j => mk (va_cpy f g sp.toNatClampNeg dp.toNatClampNeg n.toNatClampNeg j))) := by rw [← hT]; rfl
  obtain ⟨t, a1, b1⟩ := kk _ _ (by simp [Array.getElem?_setIfInBounds, hl]) oq ⟨by simp; exact hS0.1, fun q g1 g2 => by
      rw [oq q (fun e => g2 (by rw [e]; exact hA))]
      exact hS0.2.1 q g1 g2, fun q hq => by
      rcases List.mem_append.mp hq with h | h
      · exact hS0.2.2 q h
      · obtain ⟨z, -, hz⟩ := List.mem_map.mp h
        rw [← hz]
        exact hA⟩ _ hheap X'
  exact ⟨t, step t a1, b1⟩
theorem nfw : nativeFrameWords "java/lang/System" "arraycopy" 5 ≤ 20 := by decide
theorem g_cpI {k1 k2 n1 n2 idx : Nat} (X : Cx p s m args c cc nL own G) (hw : CwC own idx) (hH : HX G L B σ H) (hS0 : va_S (inW L B) H0 H locs) (hk1 : k1 < L.2.2 ∧ L.1 k1 = .inr (.int, n1)) (hk2 : k2 < L.2.2 ∧ L.1 k2 = .inr (.int, n2)) {sp dp n : Int32} (hin : ¬ (sp < 0 ∨ dp < 0 ∨ n < 0 ∨ n1 < sp.toNatClampNeg + n.toNatClampNeg ∨ n2 < dp.toNatClampNeg + n.toNatClampNeg)) (hl : lv_has ls nL lv) (hR : 1 < D) (hcat : (rest.map fun v => v.category).sum ≤ 8) (hdg : decode cc pc = .ok (.invokestatic idx, 3))
    (kk : ∀ (H1 : Heap) (locs1 : List Loc), HX G L B (cpI σ k1 sp.toNatClampNeg k2 dp.toNatClampNeg n.toNatClampNeg) H1 → va_S (inW L B) H0 H1 locs1 → W p l e (rmk D) s m args below meth c H1 locs1 cells slots Q (F0 m (pc + 3) ls rest)) : W p l e (rmk D) s m args below meth c H locs cells slots Q (F0 m pc ls (.int n :: .int dp :: .ref (B + k2) :: .int sp :: .ref (B + k1) :: rest)) := by
  refine g_copy (fun z => Value.int z) (ty := .int) ⟨by decide, rfl⟩ (fun _ => rfl) (fun _ _ h => by cases h) (f := σ.1 k1) (g := σ.1 k2) X hw (hH.toArr hk1.1 hk1.2) (hH.toArr hk2.1 hk2.2) hS0 ⟨by omega, by omega⟩ hin hl.1 (by show 1 ≤ D; omega) (by show _ ≤ 40 * D; have := nfw; omega) hdg (fun H1 locs1 e1 oq hS => kk H1 locs1 (hH.set (cAt.arr hk2.2 e1 (fun j => ?_)) (fun k' h ty j => ?_) oq) hS)
  · simp only [va_cpy, vl, cpI, true_and]
  · cases ty <;> simp [vl, cpI, h]
theorem g_cpL {k1 k2 n1 n2 idx : Nat} (X : Cx p s m args c cc nL own G) (hw : CwC own idx) (hH : HX G L B σ H) (hS0 : va_S (inW L B) H0 H locs) (hk1 : k1 < L.2.2 ∧ L.1 k1 = .inr (.long, n1)) (hk2 : k2 < L.2.2 ∧ L.1 k2 = .inr (.long, n2)) {sp dp n : Int32} (hin : ¬ (sp < 0 ∨ dp < 0 ∨ n < 0 ∨ n1 < sp.toNatClampNeg + n.toNatClampNeg ∨ n2 < dp.toNatClampNeg + n.toNatClampNeg)) (hl : lv_has ls nL lv) (hR : 1 < D) (hcat : (rest.map fun v => v.category).sum ≤ 8) (hdg : decode cc pc = .ok (.invokestatic idx, 3))
    (kk : ∀ (H1 : Heap) (locs1 : List Loc), HX G L B (cpL σ k1 sp.toNatClampNeg k2 dp.toNatClampNeg n.toNatClampNeg) H1 → va_S (inW L B) H0 H1 locs1 → W p l e (rmk D) s m args below meth c H1 locs1 cells slots Q (F0 m (pc + 3) ls rest)) : W p l e (rmk D) s m args below meth c H locs cells slots Q (F0 m pc ls (.int n :: .int dp :: .ref (B + k2) :: .int sp :: .ref (B + k1) :: rest)) := by
  refine g_copy (fun z => Value.long z) (ty := .long) ⟨by decide, rfl⟩ (fun _ => rfl) (fun _ _ h => by cases h) (f := σ.2 k1) (g := σ.2 k2) X hw (hH.toArr hk1.1 hk1.2) (hH.toArr hk2.1 hk2.2) hS0 ⟨by omega, by omega⟩ hin hl.1 (by show 1 ≤ D; omega) (by show _ ≤ 40 * D; have := nfw; omega) hdg (fun H1 locs1 e1 oq hS => kk H1 locs1 (hH.set (cAt.arr hk2.2 e1 (fun j => ?_)) (fun k' h ty j => ?_) oq) hS)
  · simp only [va_cpy, vl, cpL, true_and]
  · cases ty <;> simp [vl, cpL, h]
end HXC
/-! reading the functions -/
theorem chk {c : Prop} [Decidable c] {α : Type} {x : Option α} {r : α} (h : (if c then none else x) = some r) : ¬ c ∧ x = some r := by
  by_cases hc : c
  · rw [if_pos hc] at h
    cases h
  · rw [if_neg hc] at h
    exact ⟨hc, h⟩
theorem brT {c : Prop} [Decidable c] {α : Type} {x y : Option α} {r : α} (h : (if c then x else y) = some r) (hc : c) : x = some r := by rw [if_pos hc] at h; exact h
theorem brF {c : Prop} [Decidable c] {α : Type} {x y : Option α} {r : α} (h : (if c then x else y) = some r) (hc : ¬ c) : y = some r := by rw [if_neg hc] at h; exact h
theorem bnd {α β : Type} {x : Option α} {f : α → Option β} {r : β} (h : x.bind f = some r) : ∃ a, x = some a ∧ f a = some r := Option.bind_eq_some_iff.mp h
end
