/-- a private method of a class that the tables say can be made, by its rows of tables_1 -/
def lw_okq (q : MethodName × Nat) : Prop := (q.1.cls ≠ "java/lang/invoke/MethodHandle" ∧ q.1.cls ≠ "java/lang/invoke/VarHandle") ∧ Cond.instantiable q.1.cls q.2 ∈ tables_1 ∧ Cond.privateMethod q.1 ∈ tables_1 ∧ Cond.instanceMethod q.1 ∈ tables_1
theorem lw_p0 : lw_okq (⟨"TwigMatches", "failed", "(I)I"⟩, 13) := ⟨⟨by decide +kernel, by decide +kernel⟩, List.mem_of_getElem? (i := 13) (by decide +kernel), List.mem_of_getElem? (i := 285) (by decide +kernel), List.mem_of_getElem? (i := 286) (by decide +kernel)⟩
theorem lw_p1 : lw_okq (⟨"TwigMatches", "keep", "()V"⟩, 13) := ⟨⟨by decide +kernel, by decide +kernel⟩, List.mem_of_getElem? (i := 13) (by decide +kernel), List.mem_of_getElem? (i := 289) (by decide +kernel), List.mem_of_getElem? (i := 290) (by decide +kernel)⟩
theorem lw_p2 : lw_okq (⟨"TwigMatches", "nodeFault", "(IIZ)I"⟩, 13) := ⟨⟨by decide +kernel, by decide +kernel⟩, List.mem_of_getElem? (i := 13) (by decide +kernel), List.mem_of_getElem? (i := 364) (by decide +kernel), List.mem_of_getElem? (i := 365) (by decide +kernel)⟩
theorem lw_p3 : lw_okq (⟨"TwigMatches", "twigFault", "(IZ)I"⟩, 13) := ⟨⟨by decide +kernel, by decide +kernel⟩, List.mem_of_getElem? (i := 13) (by decide +kernel), List.mem_of_getElem? (i := 383) (by decide +kernel), List.mem_of_getElem? (i := 384) (by decide +kernel)⟩
theorem lw_p4 : lw_okq (⟨"TwigMatches", "countMatches", "(I)J"⟩, 13) := ⟨⟨by decide +kernel, by decide +kernel⟩, List.mem_of_getElem? (i := 13) (by decide +kernel), List.mem_of_getElem? (i := 435) (by decide +kernel), List.mem_of_getElem? (i := 436) (by decide +kernel)⟩
theorem lw_p5 : lw_okq (⟨"TwigMatches", "tally", "(I)I"⟩, 13) := ⟨⟨by decide +kernel, by decide +kernel⟩, List.mem_of_getElem? (i := 13) (by decide +kernel), List.mem_of_getElem? (i := 677) (by decide +kernel), List.mem_of_getElem? (i := 678) (by decide +kernel)⟩
theorem lw_p6 : lw_okq (⟨"TwigMatchesModel", "no", "()I"⟩, 34) := ⟨⟨by decide +kernel, by decide +kernel⟩, List.mem_of_getElem? (i := 694) (by decide +kernel), List.mem_of_getElem? (i := 807) (by decide +kernel), List.mem_of_getElem? (i := 808) (by decide +kernel)⟩
theorem lw_p7 : lw_okq (⟨"TwigMatchesModel", "tellsTree", "()V"⟩, 34) := ⟨⟨by decide +kernel, by decide +kernel⟩, List.mem_of_getElem? (i := 694) (by decide +kernel), List.mem_of_getElem? (i := 811) (by decide +kernel), List.mem_of_getElem? (i := 812) (by decide +kernel)⟩
theorem lw_p8 : lw_okq (⟨"TwigMatchesModel", "isElement", "(I)Z"⟩, 34) := ⟨⟨by decide +kernel, by decide +kernel⟩, List.mem_of_getElem? (i := 694) (by decide +kernel), List.mem_of_getElem? (i := 819) (by decide +kernel), List.mem_of_getElem? (i := 820) (by decide +kernel)⟩
theorem lw_p9 : lw_okq (⟨"TwigMatchesModel", "children", "(I)I"⟩, 34) := ⟨⟨by decide +kernel, by decide +kernel⟩, List.mem_of_getElem? (i := 694) (by decide +kernel), List.mem_of_getElem? (i := 826) (by decide +kernel), List.mem_of_getElem? (i := 827) (by decide +kernel)⟩
theorem lw_p10 : lw_okq (⟨"TwigMatchesModel", "bad", "()I"⟩, 34) := ⟨⟨by decide +kernel, by decide +kernel⟩, List.mem_of_getElem? (i := 694) (by decide +kernel), List.mem_of_getElem? (i := 830) (by decide +kernel), List.mem_of_getElem? (i := 831) (by decide +kernel)⟩
theorem lw_p11 : lw_okq (⟨"TwigMatchesModel", "full", "()I"⟩, 34) := ⟨⟨by decide +kernel, by decide +kernel⟩, List.mem_of_getElem? (i := 694) (by decide +kernel), List.mem_of_getElem? (i := 834) (by decide +kernel), List.mem_of_getElem? (i := 835) (by decide +kernel)⟩
theorem lw_p12 : lw_okq (⟨"TwigMatchesModel", "leavesState", "()V"⟩, 34) := ⟨⟨by decide +kernel, by decide +kernel⟩, List.mem_of_getElem? (i := 694) (by decide +kernel), List.mem_of_getElem? (i := 838) (by decide +kernel), List.mem_of_getElem? (i := 839) (by decide +kernel)⟩
theorem lw_p13 : lw_okq (⟨"TwigMatchesModel", "spot", "(II)I"⟩, 34) := ⟨⟨by decide +kernel, by decide +kernel⟩, List.mem_of_getElem? (i := 694) (by decide +kernel), List.mem_of_getElem? (i := 842) (by decide +kernel), List.mem_of_getElem? (i := 843) (by decide +kernel)⟩
theorem lw_p14 : lw_okq (⟨"TwigMatchesModel", "makesRoom", "(II)V"⟩, 34) := ⟨⟨by decide +kernel, by decide +kernel⟩, List.mem_of_getElem? (i := 694) (by decide +kernel), List.mem_of_getElem? (i := 846) (by decide +kernel), List.mem_of_getElem? (i := 847) (by decide +kernel)⟩
theorem lw_p15 : lw_okq (⟨"TwigMatchesModel", "copies", "(II)V"⟩, 34) := ⟨⟨by decide +kernel, by decide +kernel⟩, List.mem_of_getElem? (i := 694) (by decide +kernel), List.mem_of_getElem? (i := 850) (by decide +kernel), List.mem_of_getElem? (i := 851) (by decide +kernel)⟩
def lw_privs_1 : List (MethodName × Nat) := [(⟨"TwigMatches", "failed", "(I)I"⟩, 13), (⟨"TwigMatches", "keep", "()V"⟩, 13), (⟨"TwigMatches", "nodeFault", "(IIZ)I"⟩, 13), (⟨"TwigMatches", "twigFault", "(IZ)I"⟩, 13), (⟨"TwigMatches", "countMatches", "(I)J"⟩, 13), (⟨"TwigMatches", "tally", "(I)I"⟩, 13), (⟨"TwigMatchesModel", "no", "()I"⟩, 34), (⟨"TwigMatchesModel", "tellsTree", "()V"⟩, 34), (⟨"TwigMatchesModel", "isElement", "(I)Z"⟩, 34), (⟨"TwigMatchesModel", "children", "(I)I"⟩, 34), (⟨"TwigMatchesModel", "bad", "()I"⟩, 34), (⟨"TwigMatchesModel", "full", "()I"⟩, 34), (⟨"TwigMatchesModel", "leavesState", "()V"⟩, 34), (⟨"TwigMatchesModel", "spot", "(II)I"⟩, 34), (⟨"TwigMatchesModel", "makesRoom", "(II)V"⟩, 34), (⟨"TwigMatchesModel", "copies", "(II)V"⟩, 34)]
theorem lw_r1 : ∀ q ∈ lw_privs_1, lw_okq q := List.forall_mem_cons.mpr ⟨lw_p0, List.forall_mem_cons.mpr ⟨lw_p1, List.forall_mem_cons.mpr ⟨lw_p2, List.forall_mem_cons.mpr ⟨lw_p3, List.forall_mem_cons.mpr ⟨lw_p4, List.forall_mem_cons.mpr ⟨lw_p5, List.forall_mem_cons.mpr ⟨lw_p6, List.forall_mem_cons.mpr ⟨lw_p7, List.forall_mem_cons.mpr ⟨lw_p8, List.forall_mem_cons.mpr ⟨lw_p9, List.forall_mem_cons.mpr ⟨lw_p10, List.forall_mem_cons.mpr ⟨lw_p11, List.forall_mem_cons.mpr ⟨lw_p12, List.forall_mem_cons.mpr ⟨lw_p13, List.forall_mem_cons.mpr ⟨lw_p14, List.forall_mem_cons.mpr ⟨lw_p15, fun _ h => absurd h List.not_mem_nil⟩⟩⟩⟩⟩⟩⟩⟩⟩⟩⟩⟩⟩⟩⟩⟩
theorem lw_p16 : lw_okq (⟨"TwigMatchesModel", "closes", "(II)V"⟩, 34) := ⟨⟨by decide +kernel, by decide +kernel⟩, List.mem_of_getElem? (i := 694) (by decide +kernel), List.mem_of_getElem? (i := 858) (by decide +kernel), List.mem_of_getElem? (i := 859) (by decide +kernel)⟩
theorem lw_p17 : lw_okq (⟨"TwigMatchesModel", "deepest", "(I)I"⟩, 34) := ⟨⟨by decide +kernel, by decide +kernel⟩, List.mem_of_getElem? (i := 694) (by decide +kernel), List.mem_of_getElem? (i := 870) (by decide +kernel), List.mem_of_getElem? (i := 871) (by decide +kernel)⟩
theorem lw_p18 : lw_okq (⟨"TwigMatchesModel", "nodeIs", "(III)I"⟩, 34) := ⟨⟨by decide +kernel, by decide +kernel⟩, List.mem_of_getElem? (i := 694) (by decide +kernel), List.mem_of_getElem? (i := 889) (by decide +kernel), List.mem_of_getElem? (i := 890) (by decide +kernel)⟩
theorem lw_p19 : lw_okq (⟨"TwigMatchesModel", "tagOf", "(II)I"⟩, 34) := ⟨⟨by decide +kernel, by decide +kernel⟩, List.mem_of_getElem? (i := 694) (by decide +kernel), List.mem_of_getElem? (i := 893) (by decide +kernel), List.mem_of_getElem? (i := 894) (by decide +kernel)⟩
theorem lw_p20 : lw_okq (⟨"TwigMatchesModel", "passing", "(II)I"⟩, 34) := ⟨⟨by decide +kernel, by decide +kernel⟩, List.mem_of_getElem? (i := 694) (by decide +kernel), List.mem_of_getElem? (i := 900) (by decide +kernel), List.mem_of_getElem? (i := 901) (by decide +kernel)⟩
theorem lw_p21 : lw_okq (⟨"TwigMatchesModel", "passes", "(III)Z"⟩, 34) := ⟨⟨by decide +kernel, by decide +kernel⟩, List.mem_of_getElem? (i := 694) (by decide +kernel), List.mem_of_getElem? (i := 904) (by decide +kernel), List.mem_of_getElem? (i := 905) (by decide +kernel)⟩
theorem lw_p22 : lw_okq (⟨"TwigMatchesModel", "jointOf", "(II)I"⟩, 34) := ⟨⟨by decide +kernel, by decide +kernel⟩, List.mem_of_getElem? (i := 694) (by decide +kernel), List.mem_of_getElem? (i := 908) (by decide +kernel), List.mem_of_getElem? (i := 909) (by decide +kernel)⟩
theorem lw_p23 : lw_okq (⟨"TwigMatchesModel", "ofNode", "(II)I"⟩, 34) := ⟨⟨by decide +kernel, by decide +kernel⟩, List.mem_of_getElem? (i := 694) (by decide +kernel), List.mem_of_getElem? (i := 912) (by decide +kernel), List.mem_of_getElem? (i := 913) (by decide +kernel)⟩
theorem lw_p24 : lw_okq (⟨"TwigMatchesModel", "hasOrder", "(I)Z"⟩, 34) := ⟨⟨by decide +kernel, by decide +kernel⟩, List.mem_of_getElem? (i := 694) (by decide +kernel), List.mem_of_getElem? (i := 928) (by decide +kernel), List.mem_of_getElem? (i := 929) (by decide +kernel)⟩
theorem lw_p25 : lw_okq (⟨"TwigMatchesModel", "isOrdered", "(II)Z"⟩, 34) := ⟨⟨by decide +kernel, by decide +kernel⟩, List.mem_of_getElem? (i := 694) (by decide +kernel), List.mem_of_getElem? (i := 932) (by decide +kernel), List.mem_of_getElem? (i := 933) (by decide +kernel)⟩
theorem lw_p26 : lw_okq (⟨"TwigMatchesModel", "findsFolds", "(III)V"⟩, 34) := ⟨⟨by decide +kernel, by decide +kernel⟩, List.mem_of_getElem? (i := 694) (by decide +kernel), List.mem_of_getElem? (i := 936) (by decide +kernel), List.mem_of_getElem? (i := 937) (by decide +kernel)⟩
theorem lw_p27 : lw_okq (⟨"TwigMatchesModel", "takes", "(IIII)Z"⟩, 34) := ⟨⟨by decide +kernel, by decide +kernel⟩, List.mem_of_getElem? (i := 694) (by decide +kernel), List.mem_of_getElem? (i := 940) (by decide +kernel), List.mem_of_getElem? (i := 941) (by decide +kernel)⟩
theorem lw_p28 : lw_okq (⟨"TwigMatchesModel", "follows", "(IIII)Z"⟩, 34) := ⟨⟨by decide +kernel, by decide +kernel⟩, List.mem_of_getElem? (i := 694) (by decide +kernel), List.mem_of_getElem? (i := 944) (by decide +kernel), List.mem_of_getElem? (i := 945) (by decide +kernel)⟩
theorem lw_p29 : lw_okq (⟨"TwigMatchesModel", "isWithin", "(III)Z"⟩, 34) := ⟨⟨by decide +kernel, by decide +kernel⟩, List.mem_of_getElem? (i := 694) (by decide +kernel), List.mem_of_getElem? (i := 948) (by decide +kernel), List.mem_of_getElem? (i := 949) (by decide +kernel)⟩
theorem lw_p30 : lw_okq (⟨"TwigMatchesModel", "matchesOf", "(I)J"⟩, 34) := ⟨⟨by decide +kernel, by decide +kernel⟩, List.mem_of_getElem? (i := 694) (by decide +kernel), List.mem_of_getElem? (i := 960) (by decide +kernel), List.mem_of_getElem? (i := 961) (by decide +kernel)⟩
theorem lw_p31 : lw_okq (⟨"TwigMatchesModel", "mayAll", "()V"⟩, 34) := ⟨⟨by decide +kernel, by decide +kernel⟩, List.mem_of_getElem? (i := 694) (by decide +kernel), List.mem_of_getElem? (i := 964) (by decide +kernel), List.mem_of_getElem? (i := 965) (by decide +kernel)⟩
def lw_privs_2 : List (MethodName × Nat) := [(⟨"TwigMatchesModel", "closes", "(II)V"⟩, 34), (⟨"TwigMatchesModel", "deepest", "(I)I"⟩, 34), (⟨"TwigMatchesModel", "nodeIs", "(III)I"⟩, 34), (⟨"TwigMatchesModel", "tagOf", "(II)I"⟩, 34), (⟨"TwigMatchesModel", "passing", "(II)I"⟩, 34), (⟨"TwigMatchesModel", "passes", "(III)Z"⟩, 34), (⟨"TwigMatchesModel", "jointOf", "(II)I"⟩, 34), (⟨"TwigMatchesModel", "ofNode", "(II)I"⟩, 34), (⟨"TwigMatchesModel", "hasOrder", "(I)Z"⟩, 34), (⟨"TwigMatchesModel", "isOrdered", "(II)Z"⟩, 34), (⟨"TwigMatchesModel", "findsFolds", "(III)V"⟩, 34), (⟨"TwigMatchesModel", "takes", "(IIII)Z"⟩, 34), (⟨"TwigMatchesModel", "follows", "(IIII)Z"⟩, 34), (⟨"TwigMatchesModel", "isWithin", "(III)Z"⟩, 34), (⟨"TwigMatchesModel", "matchesOf", "(I)J"⟩, 34), (⟨"TwigMatchesModel", "mayAll", "()V"⟩, 34)]
theorem lw_r2 : ∀ q ∈ lw_privs_2, lw_okq q := List.forall_mem_cons.mpr ⟨lw_p16, List.forall_mem_cons.mpr ⟨lw_p17, List.forall_mem_cons.mpr ⟨lw_p18, List.forall_mem_cons.mpr ⟨lw_p19, List.forall_mem_cons.mpr ⟨lw_p20, List.forall_mem_cons.mpr ⟨lw_p21, List.forall_mem_cons.mpr ⟨lw_p22, List.forall_mem_cons.mpr ⟨lw_p23, List.forall_mem_cons.mpr ⟨lw_p24, List.forall_mem_cons.mpr ⟨lw_p25, List.forall_mem_cons.mpr ⟨lw_p26, List.forall_mem_cons.mpr ⟨lw_p27, List.forall_mem_cons.mpr ⟨lw_p28, List.forall_mem_cons.mpr ⟨lw_p29, List.forall_mem_cons.mpr ⟨lw_p30, List.forall_mem_cons.mpr ⟨lw_p31, fun _ h => absurd h List.not_mem_nil⟩⟩⟩⟩⟩⟩⟩⟩⟩⟩⟩⟩⟩⟩⟩⟩
theorem lw_p32 : lw_okq (⟨"TwigMatchesModel", "counts", "(I)J"⟩, 34) := ⟨⟨by decide +kernel, by decide +kernel⟩, List.mem_of_getElem? (i := 694) (by decide +kernel), List.mem_of_getElem? (i := 968) (by decide +kernel), List.mem_of_getElem? (i := 969) (by decide +kernel)⟩
theorem lw_p33 : lw_okq (⟨"TwigMatchesModel", "fitsIn", "(III)Z"⟩, 34) := ⟨⟨by decide +kernel, by decide +kernel⟩, List.mem_of_getElem? (i := 694) (by decide +kernel), List.mem_of_getElem? (i := 972) (by decide +kernel), List.mem_of_getElem? (i := 973) (by decide +kernel)⟩
theorem lw_p34 : lw_okq (⟨"TwigMatchesModel", "chains", "(IIIII)J"⟩, 34) := ⟨⟨by decide +kernel, by decide +kernel⟩, List.mem_of_getElem? (i := 694) (by decide +kernel), List.mem_of_getElem? (i := 976) (by decide +kernel), List.mem_of_getElem? (i := 977) (by decide +kernel)⟩
theorem lw_p35 : lw_okq (⟨"TwigMatchesModel", "isJoined", "(IIII)Z"⟩, 34) := ⟨⟨by decide +kernel, by decide +kernel⟩, List.mem_of_getElem? (i := 694) (by decide +kernel), List.mem_of_getElem? (i := 980) (by decide +kernel), List.mem_of_getElem? (i := 981) (by decide +kernel)⟩
theorem lw_p36 : lw_okq (⟨"TwigMatchesModel", "goesOn", "(ZZ)V"⟩, 34) := ⟨⟨by decide +kernel, by decide +kernel⟩, List.mem_of_getElem? (i := 694) (by decide +kernel), List.mem_of_getElem? (i := 984) (by decide +kernel), List.mem_of_getElem? (i := 985) (by decide +kernel)⟩
theorem lw_p37 : lw_okq (⟨"TwigMatchesModel", "partOf", "(III)J"⟩, 34) := ⟨⟨by decide +kernel, by decide +kernel⟩, List.mem_of_getElem? (i := 694) (by decide +kernel), List.mem_of_getElem? (i := 1006) (by decide +kernel), List.mem_of_getElem? (i := 1007) (by decide +kernel)⟩
theorem lw_p38 : lw_okq (⟨"TwigMatchesModel", "climbs", "(IIZ)V"⟩, 34) := ⟨⟨by decide +kernel, by decide +kernel⟩, List.mem_of_getElem? (i := 694) (by decide +kernel), List.mem_of_getElem? (i := 1018) (by decide +kernel), List.mem_of_getElem? (i := 1019) (by decide +kernel)⟩
theorem lw_p39 : lw_okq (⟨"TwigMatchesModel", "readsDocument", "()Z"⟩, 34) := ⟨⟨by decide +kernel, by decide +kernel⟩, List.mem_of_getElem? (i := 694) (by decide +kernel), List.mem_of_getElem? (i := 1038) (by decide +kernel), List.mem_of_getElem? (i := 1039) (by decide +kernel)⟩
theorem lw_p40 : lw_okq (⟨"TwigMatchesModel", "readsElement", "(I)Z"⟩, 34) := ⟨⟨by decide +kernel, by decide +kernel⟩, List.mem_of_getElem? (i := 694) (by decide +kernel), List.mem_of_getElem? (i := 1042) (by decide +kernel), List.mem_of_getElem? (i := 1043) (by decide +kernel)⟩
theorem lw_p41 : lw_okq (⟨"TwigMatchesModel", "here", "()I"⟩, 34) := ⟨⟨by decide +kernel, by decide +kernel⟩, List.mem_of_getElem? (i := 694) (by decide +kernel), List.mem_of_getElem? (i := 1046) (by decide +kernel), List.mem_of_getElem? (i := 1047) (by decide +kernel)⟩
theorem lw_p42 : lw_okq (⟨"TwigMatchesModel", "wrong", "(I)Z"⟩, 34) := ⟨⟨by decide +kernel, by decide +kernel⟩, List.mem_of_getElem? (i := 694) (by decide +kernel), List.mem_of_getElem? (i := 1050) (by decide +kernel), List.mem_of_getElem? (i := 1051) (by decide +kernel)⟩
theorem lw_p43 : lw_okq (⟨"TwigMatchesModel", "readsTwig", "()Z"⟩, 34) := ⟨⟨by decide +kernel, by decide +kernel⟩, List.mem_of_getElem? (i := 694) (by decide +kernel), List.mem_of_getElem? (i := 1058) (by decide +kernel), List.mem_of_getElem? (i := 1059) (by decide +kernel)⟩
theorem lw_p44 : lw_okq (⟨"TwigMatchesModel", "readsNode", "(III)Z"⟩, 34) := ⟨⟨by decide +kernel, by decide +kernel⟩, List.mem_of_getElem? (i := 694) (by decide +kernel), List.mem_of_getElem? (i := 1062) (by decide +kernel), List.mem_of_getElem? (i := 1063) (by decide +kernel)⟩
theorem lw_p45 : lw_okq (⟨"TwigMatchesModel", "readsBranch", "(IZ)Z"⟩, 34) := ⟨⟨by decide +kernel, by decide +kernel⟩, List.mem_of_getElem? (i := 694) (by decide +kernel), List.mem_of_getElem? (i := 1066) (by decide +kernel), List.mem_of_getElem? (i := 1067) (by decide +kernel)⟩
theorem lw_p46 : lw_okq (⟨"TwigMatchesModel", "showsTree", "()V"⟩, 34) := ⟨⟨by decide +kernel, by decide +kernel⟩, List.mem_of_getElem? (i := 694) (by decide +kernel), List.mem_of_getElem? (i := 1078) (by decide +kernel), List.mem_of_getElem? (i := 1079) (by decide +kernel)⟩
theorem lw_p47 : lw_okq (⟨"TwigMatchesModel", "shows", "(I)V"⟩, 34) := ⟨⟨by decide +kernel, by decide +kernel⟩, List.mem_of_getElem? (i := 694) (by decide +kernel), List.mem_of_getElem? (i := 1082) (by decide +kernel), List.mem_of_getElem? (i := 1083) (by decide +kernel)⟩
def lw_privs_3 : List (MethodName × Nat) := [(⟨"TwigMatchesModel", "counts", "(I)J"⟩, 34), (⟨"TwigMatchesModel", "fitsIn", "(III)Z"⟩, 34), (⟨"TwigMatchesModel", "chains", "(IIIII)J"⟩, 34), (⟨"TwigMatchesModel", "isJoined", "(IIII)Z"⟩, 34), (⟨"TwigMatchesModel", "goesOn", "(ZZ)V"⟩, 34), (⟨"TwigMatchesModel", "partOf", "(III)J"⟩, 34), (⟨"TwigMatchesModel", "climbs", "(IIZ)V"⟩, 34), (⟨"TwigMatchesModel", "readsDocument", "()Z"⟩, 34), (⟨"TwigMatchesModel", "readsElement", "(I)Z"⟩, 34), (⟨"TwigMatchesModel", "here", "()I"⟩, 34), (⟨"TwigMatchesModel", "wrong", "(I)Z"⟩, 34), (⟨"TwigMatchesModel", "readsTwig", "()Z"⟩, 34), (⟨"TwigMatchesModel", "readsNode", "(III)Z"⟩, 34), (⟨"TwigMatchesModel", "readsBranch", "(IZ)Z"⟩, 34), (⟨"TwigMatchesModel", "showsTree", "()V"⟩, 34), (⟨"TwigMatchesModel", "shows", "(I)V"⟩, 34)]
theorem lw_r3 : ∀ q ∈ lw_privs_3, lw_okq q := List.forall_mem_cons.mpr ⟨lw_p32, List.forall_mem_cons.mpr ⟨lw_p33, List.forall_mem_cons.mpr ⟨lw_p34, List.forall_mem_cons.mpr ⟨lw_p35, List.forall_mem_cons.mpr ⟨lw_p36, List.forall_mem_cons.mpr ⟨lw_p37, List.forall_mem_cons.mpr ⟨lw_p38, List.forall_mem_cons.mpr ⟨lw_p39, List.forall_mem_cons.mpr ⟨lw_p40, List.forall_mem_cons.mpr ⟨lw_p41, List.forall_mem_cons.mpr ⟨lw_p42, List.forall_mem_cons.mpr ⟨lw_p43, List.forall_mem_cons.mpr ⟨lw_p44, List.forall_mem_cons.mpr ⟨lw_p45, List.forall_mem_cons.mpr ⟨lw_p46, List.forall_mem_cons.mpr ⟨lw_p47, fun _ h => absurd h List.not_mem_nil⟩⟩⟩⟩⟩⟩⟩⟩⟩⟩⟩⟩⟩⟩⟩⟩
theorem lw_p48 : lw_okq (⟨"TwigMatchesModel", "showsTwig", "(I)V"⟩, 34) := ⟨⟨by decide +kernel, by decide +kernel⟩, List.mem_of_getElem? (i := 694) (by decide +kernel), List.mem_of_getElem? (i := 1086) (by decide +kernel), List.mem_of_getElem? (i := 1087) (by decide +kernel)⟩
theorem lw_p49 : lw_okq (⟨"TwigMatchesModel", "depth", "(II)I"⟩, 34) := ⟨⟨by decide +kernel, by decide +kernel⟩, List.mem_of_getElem? (i := 694) (by decide +kernel), List.mem_of_getElem? (i := 1090) (by decide +kernel), List.mem_of_getElem? (i := 1091) (by decide +kernel)⟩
theorem lw_p50 : lw_okq (⟨"TwigMatchesModel", "toldBy", "(I)I"⟩, 34) := ⟨⟨by decide +kernel, by decide +kernel⟩, List.mem_of_getElem? (i := 694) (by decide +kernel), List.mem_of_getElem? (i := 1098) (by decide +kernel), List.mem_of_getElem? (i := 1099) (by decide +kernel)⟩
def lw_privs_4 : List (MethodName × Nat) := [(⟨"TwigMatchesModel", "showsTwig", "(I)V"⟩, 34), (⟨"TwigMatchesModel", "depth", "(II)I"⟩, 34), (⟨"TwigMatchesModel", "toldBy", "(I)I"⟩, 34)]
theorem lw_r4 : ∀ q ∈ lw_privs_4, lw_okq q := List.forall_mem_cons.mpr ⟨lw_p48, List.forall_mem_cons.mpr ⟨lw_p49, List.forall_mem_cons.mpr ⟨lw_p50, fun _ h => absurd h List.not_mem_nil⟩⟩⟩
def lw_privs : List (MethodName × Nat) := lw_privs_1 ++ (lw_privs_2 ++ (lw_privs_3 ++ (lw_privs_4)))
def lw_tbl : List Cond := k2_sels lw_privs ++ tables_1
theorem lw_privs_ok : ∀ q ∈ lw_privs, lw_okq q := by
  show ∀ q ∈ lw_privs_1 ++ (lw_privs_2 ++ (lw_privs_3 ++ (lw_privs_4))), lw_okq q
  exact List.forall_mem_append.mpr ⟨lw_r1, List.forall_mem_append.mpr ⟨lw_r2, List.forall_mem_append.mpr ⟨lw_r3, lw_r4⟩⟩⟩
def RX0 : String := "TwigMatches$Mapping"
def TX0 : u_T := fun k => match k with
  | _ => ("TwigMatches$Mapping", "targets", "[I", true)
def tyX0 : Nat → FieldType := fun k => match k with
  | _ => .array .int
abbrev wsX00 : List Cond := u_ws RX0 TX0 1
theorem nmX0 : ∀ a, a < 1 → ∀ b, b < 1 → a ≠ b → (TX0 a).2.1 ≠ (TX0 b).2.1 := by decide +kernel
theorem tyX0_ok : ∀ k, k < 1 → parseFieldDescriptor (TX0 k).2.2.1 = some (tyX0 k) := by decide +kernel
abbrev cX0_init : ByteArray := prog_2_method_1_code
def yX0_init : MethodName := ⟨RX0, "<init>", "()V"⟩
abbrev cX0_rootTargets : ByteArray := prog_2_method_2_code
def yX0_rootTargets : MethodName := ⟨RX0, "rootTargets", "(LTwigMatches$Twig;LTwigMatches$Twig;I)I"⟩
abbrev cX0_covers : ByteArray := prog_2_method_3_code
def yX0_covers : MethodName := ⟨RX0, "covers", "(LTwigMatches$Twig;ILTwigMatches$Twig;I)Z"⟩
abbrev cX0_branchesMap : ByteArray := prog_2_method_4_code
def yX0_branchesMap : MethodName := ⟨RX0, "branchesMap", "(LTwigMatches$Twig;ILTwigMatches$Twig;I)Z"⟩
abbrev cX0_placesBelow : ByteArray := prog_2_method_5_code
def yX0_placesBelow : MethodName := ⟨RX0, "placesBelow", "(ILTwigMatches$Twig;I)I"⟩
def RX1 : String := "TwigMatches$Matcher"
def TX1 : u_T := fun k => match k with
  | 0 => ("TwigMatches$Matcher", "tree", "LTwigMatches$Tree;", true)
  | 1 => ("TwigMatches$Matcher", "twig", "LTwigMatches$Twig;", false)
  | 2 => ("TwigMatches$Matcher", "allowed", "[I", true)
  | 3 => ("TwigMatches$Matcher", "whole", "[[J", true)
  | 4 => ("TwigMatches$Matcher", "tail", "[[J", true)
  | 5 => ("TwigMatches$Matcher", "head", "[[J", true)
  | 6 => ("TwigMatches$Matcher", "paths", "[[J", true)
  | 7 => ("TwigMatches$Matcher", "chosen", "[I", true)
  | _ => ("TwigMatches$Matcher", "outer", "[J", true)
def tyX1 : Nat → FieldType := fun k => match k with
  | 0 => .object "TwigMatches$Tree"
  | 1 => .object "TwigMatches$Twig"
  | 2 => .array .int
  | 3 => .array (.array .long)
  | 4 => .array (.array .long)
  | 5 => .array (.array .long)
  | 6 => .array (.array .long)
  | 7 => .array .int
  | _ => .array .long
abbrev wsX10 : List Cond := u_ws RX1 TX1 9
theorem nmX1 : ∀ a, a < 9 → ∀ b, b < 9 → a ≠ b → (TX1 a).2.1 ≠ (TX1 b).2.1 := by decide +kernel
theorem tyX1_ok : ∀ k, k < 9 → parseFieldDescriptor (TX1 k).2.2.1 = some (tyX1 k) := by decide +kernel
abbrev cX1_init : ByteArray := prog_3_method_1_code
def yX1_init : MethodName := ⟨RX1, "<init>", "(LTwigMatches$Tree;LTwigMatches$Twig;)V"⟩
abbrev cX1_open : ByteArray := prog_3_method_2_code
def yX1_open : MethodName := ⟨RX1, "open", "(LTwigMatches$Twig;)V"⟩
abbrev cX1_hide : ByteArray := prog_3_method_3_code
def yX1_hide : MethodName := ⟨RX1, "hide", "(I)V"⟩
abbrev cX1_pin : ByteArray := prog_3_method_4_code
def yX1_pin : MethodName := ⟨RX1, "pin", "(II)V"⟩
abbrev cX1_solve : ByteArray := prog_3_method_5_code
def yX1_solve : MethodName := ⟨RX1, "solve", "()J"⟩
abbrev cX1_waysBelow : ByteArray := prog_3_method_6_code
def yX1_waysBelow : MethodName := ⟨RX1, "waysBelow", "(II)J"⟩
abbrev cX1_spread : ByteArray := prog_3_method_7_code
def yX1_spread : MethodName := ⟨RX1, "spread", "(II)V"⟩
abbrev cX1_fillTail : ByteArray := prog_3_method_8_code
def yX1_fillTail : MethodName := ⟨RX1, "fillTail", "(II)V"⟩
abbrev cX1_edgeHolds : ByteArray := prog_3_method_9_code
def yX1_edgeHolds : MethodName := ⟨RX1, "edgeHolds", "(III)Z"⟩
abbrev cX1_waysAfter : ByteArray := prog_3_method_10_code
def yX1_waysAfter : MethodName := ⟨RX1, "waysAfter", "(III)J"⟩
abbrev cX1_fillHead : ByteArray := prog_3_method_11_code
def yX1_fillHead : MethodName := ⟨RX1, "fillHead", "(II)V"⟩
abbrev cX1_waysBefore : ByteArray := prog_3_method_12_code
def yX1_waysBefore : MethodName := ⟨RX1, "waysBefore", "(III)J"⟩
abbrev cX1_elementAbove : ByteArray := prog_3_method_13_code
def yX1_elementAbove : MethodName := ⟨RX1, "elementAbove", "(I)I"⟩
abbrev cX1_least : ByteArray := prog_3_method_14_code
def yX1_least : MethodName := ⟨RX1, "least", "(I)I"⟩
abbrev cX1_outerAbove : ByteArray := prog_3_method_15_code
def yX1_outerAbove : MethodName := ⟨RX1, "outerAbove", "(I)J"⟩
abbrev cX1_choose : ByteArray := prog_3_method_16_code
def yX1_choose : MethodName := ⟨RX1, "choose", "(II)V"⟩
abbrev cX1_elementOf : ByteArray := prog_3_method_17_code
def yX1_elementOf : MethodName := ⟨RX1, "elementOf", "(JI)I"⟩
abbrev cX1_waysAt : ByteArray := prog_3_method_18_code
def yX1_waysAt : MethodName := ⟨RX1, "waysAt", "(II)J"⟩
abbrev cX1_rankOf : ByteArray := prog_3_method_19_code
def yX1_rankOf : MethodName := ⟨RX1, "rankOf", "(J)J"⟩
abbrev cX1_walkPaths : ByteArray := prog_3_method_20_code
def yX1_walkPaths : MethodName := ⟨RX1, "walkPaths", "(IZ)V"⟩
abbrev cX1_stepDown : ByteArray := prog_3_method_21_code
def yX1_stepDown : MethodName := ⟨RX1, "stepDown", "(IZ)V"⟩
abbrev cX1_fillHeadsBefore : ByteArray := prog_3_method_22_code
def yX1_fillHeadsBefore : MethodName := ⟨RX1, "fillHeadsBefore", "(II)V"⟩
abbrev cX1_lengthenPaths : ByteArray := prog_3_method_23_code
def yX1_lengthenPaths : MethodName := ⟨RX1, "lengthenPaths", "(IIZ)V"⟩
abbrev cX1_isUsed : ByteArray := prog_3_method_24_code
def yX1_isUsed : MethodName := ⟨RX1, "isUsed", "(III)Z"⟩
abbrev cX1_reached : ByteArray := prog_3_method_25_code
def yX1_reached : MethodName := ⟨RX1, "reached", "(I)I"⟩
abbrev cX1_pathsTo : ByteArray := prog_3_method_26_code
def yX1_pathsTo : MethodName := ⟨RX1, "pathsTo", "(I)J"⟩
def RX2 : String := "TwigMatches$State"
def TX2 : u_T := fun k => match k with
  | 0 => ("TwigMatches$State", "tree", "LTwigMatches$Tree;", true)
  | _ => ("TwigMatches$State", "twigs", "[LTwigMatches$Twig;", true)
def tyX2 : Nat → FieldType := fun k => match k with
  | 0 => .object "TwigMatches$Tree"
  | _ => .array (.object "TwigMatches$Twig")
abbrev wsX20 : List Cond := u_ws RX2 TX2 2
theorem nmX2 : ∀ a, a < 2 → ∀ b, b < 2 → a ≠ b → (TX2 a).2.1 ≠ (TX2 b).2.1 := by decide +kernel
theorem tyX2_ok : ∀ k, k < 2 → parseFieldDescriptor (TX2 k).2.2.1 = some (tyX2 k) := by decide +kernel
abbrev cX2_init : ByteArray := prog_4_method_1_code
def yX2_init : MethodName := ⟨RX2, "<init>", "()V"⟩
abbrev cX2_copyFrom : ByteArray := prog_4_method_2_code
def yX2_copyFrom : MethodName := ⟨RX2, "copyFrom", "(LTwigMatches$State;)V"⟩
abbrev cX2_existing : ByteArray := prog_4_method_3_code
def yX2_existing : MethodName := ⟨RX2, "existing", "()I"⟩
def RX3 : String := "TwigMatches$Text"
def TX3 : u_T := fun k => match k with
  | 0 => ("TwigMatches$Text", "bytes", "[I", true)
  | 1 => ("TwigMatches$Text", "length", "I", false)
  | _ => ("TwigMatches$Text", "reason", "I", false)
def tyX3 : Nat → FieldType := fun k => match k with
  | 0 => .array .int
  | 1 => .int
  | _ => .int
abbrev wsX30 : List Cond := u_ws RX3 TX3 3
theorem nmX3 : ∀ a, a < 3 → ∀ b, b < 3 → a ≠ b → (TX3 a).2.1 ≠ (TX3 b).2.1 := by decide +kernel
theorem tyX3_ok : ∀ k, k < 3 → parseFieldDescriptor (TX3 k).2.2.1 = some (tyX3 k) := by decide +kernel
abbrev cX3_init : ByteArray := prog_5_method_1_code
def yX3_init : MethodName := ⟨RX3, "<init>", "()V"⟩
abbrev cX3_readDocument : ByteArray := prog_5_method_2_code
def yX3_readDocument : MethodName := ⟨RX3, "readDocument", "(LTwigMatches$Tree;)I"⟩
abbrev cX3_readTwig : ByteArray := prog_5_method_3_code
def yX3_readTwig : MethodName := ⟨RX3, "readTwig", "(LTwigMatches$Twig;)I"⟩
abbrev cX3_fault : ByteArray := prog_5_method_4_code
def yX3_fault : MethodName := ⟨RX3, "fault", "(II)I"⟩
abbrev cX3_isWhole : ByteArray := prog_5_method_5_code
def yX3_isWhole : MethodName := ⟨RX3, "isWhole", "(I)Z"⟩
abbrev cX3_isLetter : ByteArray := prog_5_method_6_code
def yX3_isLetter : MethodName := ⟨RX3, "isLetter", "(I)Z"⟩
abbrev cX3_isDigit : ByteArray := prog_5_method_7_code
def yX3_isDigit : MethodName := ⟨RX3, "isDigit", "(I)Z"⟩
def RX4 : String := "TwigMatches$Tree"
def TX4 : u_T := fun k => match k with
  | 0 => ("TwigMatches$Tree", "count", "I", false)
  | 1 => ("TwigMatches$Tree", "tag", "[I", true)
  | 2 => ("TwigMatches$Tree", "value", "[I", true)
  | 3 => ("TwigMatches$Tree", "level", "[I", true)
  | 4 => ("TwigMatches$Tree", "parent", "[I", true)
  | _ => ("TwigMatches$Tree", "last", "[I", true)
def tyX4 : Nat → FieldType := fun k => match k with
  | 0 => .int
  | 1 => .array .int
  | 2 => .array .int
  | 3 => .array .int
  | 4 => .array .int
  | _ => .array .int
abbrev wsX40 : List Cond := u_ws RX4 TX4 6
theorem nmX4 : ∀ a, a < 6 → ∀ b, b < 6 → a ≠ b → (TX4 a).2.1 ≠ (TX4 b).2.1 := by decide +kernel
theorem tyX4_ok : ∀ k, k < 6 → parseFieldDescriptor (TX4 k).2.2.1 = some (tyX4 k) := by decide +kernel
abbrev cX4_init : ByteArray := prog_6_method_1_code
def yX4_init : MethodName := ⟨RX4, "<init>", "()V"⟩
abbrev cX4_has : ByteArray := prog_6_method_2_code
def yX4_has : MethodName := ⟨RX4, "has", "(I)Z"⟩
abbrev cX4_copyFrom : ByteArray := prog_6_method_3_code
def yX4_copyFrom : MethodName := ⟨RX4, "copyFrom", "(LTwigMatches$Tree;)V"⟩
abbrev cX4_append : ByteArray := prog_6_method_4_code
def yX4_append : MethodName := ⟨RX4, "append", "(II)V"⟩
abbrev cX4_put : ByteArray := prog_6_method_5_code
def yX4_put : MethodName := ⟨RX4, "put", "(IIII)V"⟩
abbrev cX4_link : ByteArray := prog_6_method_6_code
def yX4_link : MethodName := ⟨RX4, "link", "()V"⟩
abbrev cX4_insert : ByteArray := prog_6_method_7_code
def yX4_insert : MethodName := ⟨RX4, "insert", "(IIII)V"⟩
abbrev cX4_remove : ByteArray := prog_6_method_8_code
def yX4_remove : MethodName := ⟨RX4, "remove", "(II)V"⟩
abbrev cX4_relocate : ByteArray := prog_6_method_9_code
def yX4_relocate : MethodName := ⟨RX4, "relocate", "(LTwigMatches$Tree;III)V"⟩
abbrev cX4_childCount : ByteArray := prog_6_method_10_code
def yX4_childCount : MethodName := ⟨RX4, "childCount", "(II)I"⟩
abbrev cX4_slot : ByteArray := prog_6_method_11_code
def yX4_slot : MethodName := ⟨RX4, "slot", "(III)I"⟩
abbrev cX4_deepest : ByteArray := prog_6_method_12_code
def yX4_deepest : MethodName := ⟨RX4, "deepest", "(I)I"⟩
abbrev cX4_start : ByteArray := prog_6_method_13_code
def yX4_start : MethodName := ⟨RX4, "start", "(I)I"⟩
abbrev cX4_end : ByteArray := prog_6_method_14_code
def yX4_end : MethodName := ⟨RX4, "end", "(I)I"⟩
abbrev cX4_lastBelow : ByteArray := prog_6_method_15_code
def yX4_lastBelow : MethodName := ⟨RX4, "lastBelow", "(I)I"⟩
def RX5 : String := "TwigMatches$Twig"
def TX5 : u_T := fun k => match k with
  | 0 => ("TwigMatches$Twig", "count", "I", false)
  | 1 => ("TwigMatches$Twig", "tag", "[I", true)
  | 2 => ("TwigMatches$Twig", "sign", "[I", true)
  | 3 => ("TwigMatches$Twig", "digit", "[I", true)
  | 4 => ("TwigMatches$Twig", "edge", "[I", true)
  | 5 => ("TwigMatches$Twig", "ordered", "[I", true)
  | _ => ("TwigMatches$Twig", "above", "[I", true)
def tyX5 : Nat → FieldType := fun k => match k with
  | 0 => .int
  | 1 => .array .int
  | 2 => .array .int
  | 3 => .array .int
  | 4 => .array .int
  | 5 => .array .int
  | _ => .array .int
abbrev wsX50 : List Cond := u_ws RX5 TX5 7
theorem nmX5 : ∀ a, a < 7 → ∀ b, b < 7 → a ≠ b → (TX5 a).2.1 ≠ (TX5 b).2.1 := by decide +kernel
theorem tyX5_ok : ∀ k, k < 7 → parseFieldDescriptor (TX5 k).2.2.1 = some (tyX5 k) := by decide +kernel
abbrev cX5_init : ByteArray := prog_7_method_1_code
def yX5_init : MethodName := ⟨RX5, "<init>", "()V"⟩
abbrev cX5_copyFrom : ByteArray := prog_7_method_2_code
def yX5_copyFrom : MethodName := ⟨RX5, "copyFrom", "(LTwigMatches$Twig;)V"⟩
abbrev cX5_append : ByteArray := prog_7_method_3_code
def yX5_append : MethodName := ⟨RX5, "append", "(IIII)V"⟩
abbrev cX5_property : ByteArray := prog_7_method_4_code
def yX5_property : MethodName := ⟨RX5, "property", "(II)I"⟩
abbrev cX5_passing : ByteArray := prog_7_method_5_code
def yX5_passing : MethodName := ⟨RX5, "passing", "(I)I"⟩
abbrev cX5_hasOrdered : ByteArray := prog_7_method_6_code
def yX5_hasOrdered : MethodName := ⟨RX5, "hasOrdered", "()Z"⟩
abbrev cX5_last : ByteArray := prog_7_method_7_code
def yX5_last : MethodName := ⟨RX5, "last", "(I)I"⟩
abbrev cX5_firstBranch : ByteArray := prog_7_method_8_code
def yX5_firstBranch : MethodName := ⟨RX5, "firstBranch", "(I)I"⟩
abbrev cX5_nextBranch : ByteArray := prog_7_method_9_code
def yX5_nextBranch : MethodName := ⟨RX5, "nextBranch", "(I)I"⟩
abbrev cX5_previousBranch : ByteArray := prog_7_method_10_code
def yX5_previousBranch : MethodName := ⟨RX5, "previousBranch", "(I)I"⟩
abbrev cX5_depth : ByteArray := prog_7_method_11_code
def yX5_depth : MethodName := ⟨RX5, "depth", "(I)I"⟩
def RX6 : String := "TwigMatches$Writer"
def TX6 : u_T := fun k => match k with
  | 0 => ("TwigMatches$Writer", "wanted", "I", false)
  | 1 => ("TwigMatches$Writer", "written", "I", false)
  | _ => ("TwigMatches$Writer", "caught", "I", false)
def tyX6 : Nat → FieldType := fun k => match k with
  | 0 => .int
  | 1 => .int
  | _ => .int
abbrev wsX60 : List Cond := u_ws RX6 TX6 3
theorem nmX6 : ∀ a, a < 3 → ∀ b, b < 3 → a ≠ b → (TX6 a).2.1 ≠ (TX6 b).2.1 := by decide +kernel
theorem tyX6_ok : ∀ k, k < 3 → parseFieldDescriptor (TX6 k).2.2.1 = some (tyX6 k) := by decide +kernel
abbrev cX6_init : ByteArray := prog_8_method_1_code
def yX6_init : MethodName := ⟨RX6, "<init>", "()V"⟩
abbrev cX6_start : ByteArray := prog_8_method_2_code
def yX6_start : MethodName := ⟨RX6, "start", "(I)V"⟩
abbrev cX6_put : ByteArray := prog_8_method_3_code
def yX6_put : MethodName := ⟨RX6, "put", "(I)V"⟩
abbrev cX6_putParentheses : ByteArray := prog_8_method_4_code
def yX6_putParentheses : MethodName := ⟨RX6, "putParentheses", "(II)V"⟩
abbrev cX6_writeTree : ByteArray := prog_8_method_5_code
def yX6_writeTree : MethodName := ⟨RX6, "writeTree", "(LTwigMatches$Tree;)V"⟩
abbrev cX6_writeTwig : ByteArray := prog_8_method_6_code
def yX6_writeTwig : MethodName := ⟨RX6, "writeTwig", "(LTwigMatches$Twig;)V"⟩
def RX7 : String := "TwigMatches"
def TX7 : u_T := fun k => match k with
  | 0 => ("TwigMatches", "now", "LTwigMatches$State;", true)
  | 1 => ("TwigMatches", "kept", "[LTwigMatches$State;", true)
  | 2 => ("TwigMatches", "oldestKept", "I", false)
  | 3 => ("TwigMatches", "keptCount", "I", false)
  | 4 => ("TwigMatches", "text", "LTwigMatches$Text;", true)
  | 5 => ("TwigMatches", "draftTree", "LTwigMatches$Tree;", true)
  | 6 => ("TwigMatches", "draftTwig", "LTwigMatches$Twig;", true)
  | 7 => ("TwigMatches", "matcher", "LTwigMatches$Matcher;", true)
  | 8 => ("TwigMatches", "mapping", "LTwigMatches$Mapping;", true)
  | 9 => ("TwigMatches", "writer", "LTwigMatches$Writer;", true)
  | 10 => ("TwigMatches", "badCount", "I", false)
  | 11 => ("TwigMatches", "noCount", "I", false)
  | _ => ("TwigMatches", "fullCount", "I", false)
def tyX7 : Nat → FieldType := fun k => match k with
  | 0 => .object "TwigMatches$State"
  | 1 => .array (.object "TwigMatches$State")
  | 2 => .int
  | 3 => .int
  | 4 => .object "TwigMatches$Text"
  | 5 => .object "TwigMatches$Tree"
  | 6 => .object "TwigMatches$Twig"
  | 7 => .object "TwigMatches$Matcher"
  | 8 => .object "TwigMatches$Mapping"
  | 9 => .object "TwigMatches$Writer"
  | 10 => .int
  | 11 => .int
  | _ => .int
abbrev wsX70 : List Cond := u_ws RX7 TX7 13
theorem nmX7 : ∀ a, a < 13 → ∀ b, b < 13 → a ≠ b → (TX7 a).2.1 ≠ (TX7 b).2.1 := by decide +kernel
theorem tyX7_ok : ∀ k, k < 13 → parseFieldDescriptor (TX7 k).2.2.1 = some (tyX7 k) := by decide +kernel
abbrev cX7_init : ByteArray := prog_1_method_1_code
def yX7_init : MethodName := ⟨RX7, "<init>", "()V"⟩
abbrev cX7_adds : ByteArray := prog_1_method_2_code
def yX7_adds : MethodName := ⟨RX7, "adds", "(IIII)I"⟩
abbrev cX7_drops : ByteArray := prog_1_method_3_code
def yX7_drops : MethodName := ⟨RX7, "drops", "(I)I"⟩
abbrev cX7_sets : ByteArray := prog_1_method_4_code
def yX7_sets : MethodName := ⟨RX7, "sets", "(III)I"⟩
abbrev cX7_moves : ByteArray := prog_1_method_5_code
def yX7_moves : MethodName := ⟨RX7, "moves", "(III)I"⟩
abbrev cX7_element : ByteArray := prog_1_method_6_code
def yX7_element : MethodName := ⟨RX7, "element", "(II)I"⟩
abbrev cX7_size : ByteArray := prog_1_method_7_code
def yX7_size : MethodName := ⟨RX7, "size", "()I"⟩
abbrev cX7_node : ByteArray := prog_1_method_8_code
def yX7_node : MethodName := ⟨RX7, "node", "(III)I"⟩
abbrev cX7_forgets : ByteArray := prog_1_method_9_code
def yX7_forgets : MethodName := ⟨RX7, "forgets", "(I)I"⟩
abbrev cX7_nodes : ByteArray := prog_1_method_10_code
def yX7_nodes : MethodName := ⟨RX7, "nodes", "(I)I"⟩
abbrev cX7_folds : ByteArray := prog_1_method_11_code
def yX7_folds : MethodName := ⟨RX7, "folds", "(II)I"⟩
abbrev cX7_spare : ByteArray := prog_1_method_12_code
def yX7_spare : MethodName := ⟨RX7, "spare", "(II)I"⟩
abbrev cX7_matches : ByteArray := prog_1_method_13_code
def yX7_matches : MethodName := ⟨RX7, "matches", "(I)J"⟩
abbrev cX7_match : ByteArray := prog_1_method_14_code
def yX7_match : MethodName := ⟨RX7, "match", "(IJI)I"⟩
abbrev cX7_place : ByteArray := prog_1_method_15_code
def yX7_place : MethodName := ⟨RX7, "place", "(IJ)J"⟩
abbrev cX7_fits : ByteArray := prog_1_method_16_code
def yX7_fits : MethodName := ⟨RX7, "fits", "(II)I"⟩
abbrev cX7_found : ByteArray := prog_1_method_17_code
def yX7_found : MethodName := ⟨RX7, "found", "(II)I"⟩
abbrev cX7_part : ByteArray := prog_1_method_18_code
def yX7_part : MethodName := ⟨RX7, "part", "(III)J"⟩
abbrev cX7_ways : ByteArray := prog_1_method_19_code
def yX7_ways : MethodName := ⟨RX7, "ways", "(III)J"⟩
abbrev cX7_less : ByteArray := prog_1_method_20_code
def yX7_less : MethodName := ⟨RX7, "less", "(II)J"⟩
abbrev cX7_type : ByteArray := prog_1_method_21_code
def yX7_type : MethodName := ⟨RX7, "type", "(I)I"⟩
abbrev cX7_clear : ByteArray := prog_1_method_22_code
def yX7_clear : MethodName := ⟨RX7, "clear", "()I"⟩
abbrev cX7_builds : ByteArray := prog_1_method_23_code
def yX7_builds : MethodName := ⟨RX7, "builds", "()I"⟩
abbrev cX7_twigs : ByteArray := prog_1_method_24_code
def yX7_twigs : MethodName := ⟨RX7, "twigs", "(I)I"⟩
abbrev cX7_why : ByteArray := prog_1_method_25_code
def yX7_why : MethodName := ⟨RX7, "why", "()I"⟩
abbrev cX7_shown : ByteArray := prog_1_method_26_code
def yX7_shown : MethodName := ⟨RX7, "shown", "(II)I"⟩
abbrev cX7_back : ByteArray := prog_1_method_27_code
def yX7_back : MethodName := ⟨RX7, "back", "()I"⟩
abbrev cX7_told : ByteArray := prog_1_method_28_code
def yX7_told : MethodName := ⟨RX7, "told", "(I)I"⟩
abbrev cX7_digest : ByteArray := prog_1_method_29_code
def yX7_digest : MethodName := ⟨RX7, "digest", "()J"⟩
abbrev cX7_digestTwig : ByteArray := prog_1_method_30_code
def yX7_digestTwig : MethodName := ⟨RX7, "digestTwig", "(JLTwigMatches$Twig;)J"⟩
abbrev cX7_tally : ByteArray := prog_1_method_31_code
def yX7_tally : MethodName := ⟨RX7, "tally", "(I)I"⟩
abbrev cX7_failed : ByteArray := prog_1_method_32_code
def yX7_failed : MethodName := ⟨RX7, "failed", "(I)I"⟩
abbrev cX7_twigFault : ByteArray := prog_1_method_33_code
def yX7_twigFault : MethodName := ⟨RX7, "twigFault", "(IZ)I"⟩
abbrev cX7_nodeFault : ByteArray := prog_1_method_34_code
def yX7_nodeFault : MethodName := ⟨RX7, "nodeFault", "(IIZ)I"⟩
abbrev cX7_countMatches : ByteArray := prog_1_method_35_code
def yX7_countMatches : MethodName := ⟨RX7, "countMatches", "(I)J"⟩
abbrev cX7_keep : ByteArray := prog_1_method_36_code
def yX7_keep : MethodName := ⟨RX7, "keep", "()V"⟩
abbrev cX7_isTwigNumber : ByteArray := prog_1_method_37_code
def yX7_isTwigNumber : MethodName := ⟨RX7, "isTwigNumber", "(I)Z"⟩
abbrev cX7_isLabel : ByteArray := prog_1_method_38_code
def yX7_isLabel : MethodName := ⟨RX7, "isLabel", "(II)Z"⟩
abbrev cX7_span : ByteArray := prog_1_method_39_code
def yX7_span : MethodName := ⟨RX7, "span", "(II)I"⟩
abbrev cX7_holds : ByteArray := prog_1_method_40_code
def yX7_holds : MethodName := ⟨RX7, "holds", "(II)Z"⟩
abbrev cX7_fitting : ByteArray := prog_1_method_41_code
def yX7_fitting : MethodName := ⟨RX7, "fitting", "(LTwigMatches$Tree;LTwigMatches$Twig;I)I"⟩
def RX8 : String := "TwigMatchesModel"
def TX8 : u_T := fun k => match k with
  | 0 => ("TwigMatchesModel", "refused", "[I", true)
  | 1 => ("TwigMatchesModel", "many", "I", false)
  | 2 => ("TwigMatchesModel", "tag", "[I", true)
  | 3 => ("TwigMatchesModel", "number", "[I", true)
  | 4 => ("TwigMatchesModel", "level", "[I", true)
  | 5 => ("TwigMatchesModel", "end", "[I", true)
  | 6 => ("TwigMatchesModel", "parent", "[I", true)
  | 7 => ("TwigMatchesModel", "nodes", "[I", true)
  | 8 => ("TwigMatchesModel", "its", "[I", true)
  | 9 => ("TwigMatchesModel", "states", "I", false)
  | 10 => ("TwigMatchesModel", "kept", "[I", true)
  | 11 => ("TwigMatchesModel", "moving", "[I", true)
  | 12 => ("TwigMatchesModel", "can", "[I", true)
  | 13 => ("TwigMatchesModel", "may", "[I", true)
  | 14 => ("TwigMatchesModel", "below", "[J", true)
  | 15 => ("TwigMatchesModel", "far", "[J", true)
  | 16 => ("TwigMatchesModel", "next", "[J", true)
  | 17 => ("TwigMatchesModel", "ends", "[J", true)
  | 18 => ("TwigMatchesModel", "told", "[I", true)
  | 19 => ("TwigMatchesModel", "ups", "[J", true)
  | 20 => ("TwigMatchesModel", "upper", "[J", true)
  | 21 => ("TwigMatchesModel", "text", "[I", true)
  | 22 => ("TwigMatchesModel", "length", "I", false)
  | 23 => ("TwigMatchesModel", "why", "I", false)
  | 24 => ("TwigMatchesModel", "faultAt", "I", false)
  | 25 => ("TwigMatchesModel", "readAt", "I", false)
  | 26 => ("TwigMatchesModel", "newTag", "[I", true)
  | 27 => ("TwigMatchesModel", "newNumber", "[I", true)
  | 28 => ("TwigMatchesModel", "newLevel", "[I", true)
  | 29 => ("TwigMatchesModel", "newMany", "I", false)
  | 30 => ("TwigMatchesModel", "fresh", "[I", true)
  | 31 => ("TwigMatchesModel", "freshMany", "I", false)
  | 32 => ("TwigMatchesModel", "shownText", "[I", true)
  | _ => ("TwigMatchesModel", "shownLength", "I", false)
def tyX8 : Nat → FieldType := fun k => match k with
  | 0 => .array .int
  | 1 => .int
  | 2 => .array .int
  | 3 => .array .int
  | 4 => .array .int
  | 5 => .array .int
  | 6 => .array .int
  | 7 => .array .int
  | 8 => .array .int
  | 9 => .int
  | 10 => .array .int
  | 11 => .array .int
  | 12 => .array .int
  | 13 => .array .int
  | 14 => .array .long
  | 15 => .array .long
  | 16 => .array .long
  | 17 => .array .long
  | 18 => .array .int
  | 19 => .array .long
  | 20 => .array .long
  | 21 => .array .int
  | 22 => .int
  | 23 => .int
  | 24 => .int
  | 25 => .int
  | 26 => .array .int
  | 27 => .array .int
  | 28 => .array .int
  | 29 => .int
  | 30 => .array .int
  | 31 => .int
  | 32 => .array .int
  | _ => .int
abbrev wsX80 : List Cond := u_ws RX8 TX8 34
theorem nmX8 : ∀ a, a < 34 → ∀ b, b < 34 → a ≠ b → (TX8 a).2.1 ≠ (TX8 b).2.1 := by decide +kernel
theorem tyX8_ok : ∀ k, k < 34 → parseFieldDescriptor (TX8 k).2.2.1 = some (tyX8 k) := by decide +kernel
abbrev cX8_init : ByteArray := prog_10_method_1_code
def yX8_init : MethodName := ⟨RX8, "<init>", "()V"⟩
abbrev cX8_bad : ByteArray := prog_10_method_2_code
def yX8_bad : MethodName := ⟨RX8, "bad", "()I"⟩
abbrev cX8_no : ByteArray := prog_10_method_3_code
def yX8_no : MethodName := ⟨RX8, "no", "()I"⟩
abbrev cX8_full : ByteArray := prog_10_method_4_code
def yX8_full : MethodName := ⟨RX8, "full", "()I"⟩
abbrev cX8_in : ByteArray := prog_10_method_5_code
def yX8_in : MethodName := ⟨RX8, "in", "(III)Z"⟩
abbrev cX8_isElement : ByteArray := prog_10_method_7_code
def yX8_isElement : MethodName := ⟨RX8, "isElement", "(I)Z"⟩
abbrev cX8_tellsTree : ByteArray := prog_10_method_8_code
def yX8_tellsTree : MethodName := ⟨RX8, "tellsTree", "()V"⟩
abbrev cX8_children : ByteArray := prog_10_method_9_code
def yX8_children : MethodName := ⟨RX8, "children", "(I)I"⟩
abbrev cX8_spot : ByteArray := prog_10_method_10_code
def yX8_spot : MethodName := ⟨RX8, "spot", "(II)I"⟩
abbrev cX8_copies : ByteArray := prog_10_method_11_code
def yX8_copies : MethodName := ⟨RX8, "copies", "(II)V"⟩
abbrev cX8_makesRoom : ByteArray := prog_10_method_12_code
def yX8_makesRoom : MethodName := ⟨RX8, "makesRoom", "(II)V"⟩
abbrev cX8_closes : ByteArray := prog_10_method_13_code
def yX8_closes : MethodName := ⟨RX8, "closes", "(II)V"⟩
abbrev cX8_cell : ByteArray := prog_10_method_14_code
def yX8_cell : MethodName := ⟨RX8, "cell", "(III)I"⟩
abbrev cX8_tagOf : ByteArray := prog_10_method_15_code
def yX8_tagOf : MethodName := ⟨RX8, "tagOf", "(II)I"⟩
abbrev cX8_jointOf : ByteArray := prog_10_method_16_code
def yX8_jointOf : MethodName := ⟨RX8, "jointOf", "(II)I"⟩
abbrev cX8_isOrdered : ByteArray := prog_10_method_17_code
def yX8_isOrdered : MethodName := ⟨RX8, "isOrdered", "(II)Z"⟩
abbrev cX8_ofNode : ByteArray := prog_10_method_18_code
def yX8_ofNode : MethodName := ⟨RX8, "ofNode", "(II)I"⟩
abbrev cX8_isTwig : ByteArray := prog_10_method_19_code
def yX8_isTwig : MethodName := ⟨RX8, "isTwig", "(I)Z"⟩
abbrev cX8_passes : ByteArray := prog_10_method_20_code
def yX8_passes : MethodName := ⟨RX8, "passes", "(III)Z"⟩
abbrev cX8_passing : ByteArray := prog_10_method_21_code
def yX8_passing : MethodName := ⟨RX8, "passing", "(II)I"⟩
abbrev cX8_fitsIn : ByteArray := prog_10_method_22_code
def yX8_fitsIn : MethodName := ⟨RX8, "fitsIn", "(III)Z"⟩
abbrev cX8_hasOrder : ByteArray := prog_10_method_23_code
def yX8_hasOrder : MethodName := ⟨RX8, "hasOrder", "(I)Z"⟩
abbrev cX8_isWithin : ByteArray := prog_10_method_24_code
def yX8_isWithin : MethodName := ⟨RX8, "isWithin", "(III)Z"⟩
abbrev cX8_leavesState : ByteArray := prog_10_method_25_code
def yX8_leavesState : MethodName := ⟨RX8, "leavesState", "()V"⟩
abbrev cX8_back : ByteArray := prog_10_method_26_code
def yX8_back : MethodName := ⟨RX8, "back", "()I"⟩
abbrev cX8_adds : ByteArray := prog_10_method_27_code
def yX8_adds : MethodName := ⟨RX8, "adds", "(IIII)I"⟩
abbrev cX8_drops : ByteArray := prog_10_method_28_code
def yX8_drops : MethodName := ⟨RX8, "drops", "(I)I"⟩
abbrev cX8_sets : ByteArray := prog_10_method_29_code
def yX8_sets : MethodName := ⟨RX8, "sets", "(III)I"⟩
abbrev cX8_deepest : ByteArray := prog_10_method_30_code
def yX8_deepest : MethodName := ⟨RX8, "deepest", "(I)I"⟩
abbrev cX8_moves : ByteArray := prog_10_method_31_code
def yX8_moves : MethodName := ⟨RX8, "moves", "(III)I"⟩
abbrev cX8_element : ByteArray := prog_10_method_32_code
def yX8_element : MethodName := ⟨RX8, "element", "(II)I"⟩
abbrev cX8_size : ByteArray := prog_10_method_33_code
def yX8_size : MethodName := ⟨RX8, "size", "()I"⟩
abbrev cX8_nodeIs : ByteArray := prog_10_method_34_code
def yX8_nodeIs : MethodName := ⟨RX8, "nodeIs", "(III)I"⟩
abbrev cX8_node : ByteArray := prog_10_method_35_code
def yX8_node : MethodName := ⟨RX8, "node", "(III)I"⟩
abbrev cX8_forgets : ByteArray := prog_10_method_36_code
def yX8_forgets : MethodName := ⟨RX8, "forgets", "(I)I"⟩
abbrev cX8_nodes : ByteArray := prog_10_method_37_code
def yX8_nodes : MethodName := ⟨RX8, "nodes", "(I)I"⟩
abbrev cX8_takes : ByteArray := prog_10_method_38_code
def yX8_takes : MethodName := ⟨RX8, "takes", "(IIII)Z"⟩
abbrev cX8_follows : ByteArray := prog_10_method_39_code
def yX8_follows : MethodName := ⟨RX8, "follows", "(IIII)Z"⟩
abbrev cX8_findsFolds : ByteArray := prog_10_method_40_code
def yX8_findsFolds : MethodName := ⟨RX8, "findsFolds", "(III)V"⟩
abbrev cX8_folds : ByteArray := prog_10_method_41_code
def yX8_folds : MethodName := ⟨RX8, "folds", "(II)I"⟩
abbrev cX8_spare : ByteArray := prog_10_method_42_code
def yX8_spare : MethodName := ⟨RX8, "spare", "(II)I"⟩
abbrev cX8_isJoined : ByteArray := prog_10_method_43_code
def yX8_isJoined : MethodName := ⟨RX8, "isJoined", "(IIII)Z"⟩
abbrev cX8_goesOn : ByteArray := prog_10_method_44_code
def yX8_goesOn : MethodName := ⟨RX8, "goesOn", "(ZZ)V"⟩
abbrev cX8_chains : ByteArray := prog_10_method_45_code
def yX8_chains : MethodName := ⟨RX8, "chains", "(IIIII)J"⟩
abbrev cX8_counts : ByteArray := prog_10_method_46_code
def yX8_counts : MethodName := ⟨RX8, "counts", "(I)J"⟩
abbrev cX8_mayAll : ByteArray := prog_10_method_47_code
def yX8_mayAll : MethodName := ⟨RX8, "mayAll", "()V"⟩
abbrev cX8_matchesOf : ByteArray := prog_10_method_48_code
def yX8_matchesOf : MethodName := ⟨RX8, "matchesOf", "(I)J"⟩
abbrev cX8_matches : ByteArray := prog_10_method_49_code
def yX8_matches : MethodName := ⟨RX8, "matches", "(I)J"⟩
abbrev cX8_match : ByteArray := prog_10_method_50_code
def yX8_match : MethodName := ⟨RX8, "match", "(IJI)I"⟩
abbrev cX8_place : ByteArray := prog_10_method_51_code
def yX8_place : MethodName := ⟨RX8, "place", "(IJ)J"⟩
abbrev cX8_fits : ByteArray := prog_10_method_52_code
def yX8_fits : MethodName := ⟨RX8, "fits", "(II)I"⟩
abbrev cX8_partOf : ByteArray := prog_10_method_53_code
def yX8_partOf : MethodName := ⟨RX8, "partOf", "(III)J"⟩
abbrev cX8_found : ByteArray := prog_10_method_54_code
def yX8_found : MethodName := ⟨RX8, "found", "(II)I"⟩
abbrev cX8_part : ByteArray := prog_10_method_55_code
def yX8_part : MethodName := ⟨RX8, "part", "(III)J"⟩
abbrev cX8_climbs : ByteArray := prog_10_method_56_code
def yX8_climbs : MethodName := ⟨RX8, "climbs", "(IIZ)V"⟩
abbrev cX8_ways : ByteArray := prog_10_method_57_code
def yX8_ways : MethodName := ⟨RX8, "ways", "(III)J"⟩
abbrev cX8_less : ByteArray := prog_10_method_58_code
def yX8_less : MethodName := ⟨RX8, "less", "(II)J"⟩
abbrev cX8_type : ByteArray := prog_10_method_59_code
def yX8_type : MethodName := ⟨RX8, "type", "(I)I"⟩
abbrev cX8_clear : ByteArray := prog_10_method_60_code
def yX8_clear : MethodName := ⟨RX8, "clear", "()I"⟩
abbrev cX8_here : ByteArray := prog_10_method_61_code
def yX8_here : MethodName := ⟨RX8, "here", "()I"⟩
abbrev cX8_wrong : ByteArray := prog_10_method_62_code
def yX8_wrong : MethodName := ⟨RX8, "wrong", "(I)Z"⟩
abbrev cX8_readsElement : ByteArray := prog_10_method_63_code
def yX8_readsElement : MethodName := ⟨RX8, "readsElement", "(I)Z"⟩
abbrev cX8_readsDocument : ByteArray := prog_10_method_64_code
def yX8_readsDocument : MethodName := ⟨RX8, "readsDocument", "()Z"⟩
abbrev cX8_builds : ByteArray := prog_10_method_65_code
def yX8_builds : MethodName := ⟨RX8, "builds", "()I"⟩
abbrev cX8_readsNode : ByteArray := prog_10_method_66_code
def yX8_readsNode : MethodName := ⟨RX8, "readsNode", "(III)Z"⟩
abbrev cX8_readsBranch : ByteArray := prog_10_method_67_code
def yX8_readsBranch : MethodName := ⟨RX8, "readsBranch", "(IZ)Z"⟩
abbrev cX8_readsTwig : ByteArray := prog_10_method_68_code
def yX8_readsTwig : MethodName := ⟨RX8, "readsTwig", "()Z"⟩
abbrev cX8_twigs : ByteArray := prog_10_method_69_code
def yX8_twigs : MethodName := ⟨RX8, "twigs", "(I)I"⟩
abbrev cX8_why : ByteArray := prog_10_method_70_code
def yX8_why : MethodName := ⟨RX8, "why", "()I"⟩
abbrev cX8_shows : ByteArray := prog_10_method_71_code
def yX8_shows : MethodName := ⟨RX8, "shows", "(I)V"⟩
abbrev cX8_showsTree : ByteArray := prog_10_method_72_code
def yX8_showsTree : MethodName := ⟨RX8, "showsTree", "()V"⟩
abbrev cX8_depth : ByteArray := prog_10_method_73_code
def yX8_depth : MethodName := ⟨RX8, "depth", "(II)I"⟩
abbrev cX8_showsTwig : ByteArray := prog_10_method_74_code
def yX8_showsTwig : MethodName := ⟨RX8, "showsTwig", "(I)V"⟩
abbrev cX8_shown : ByteArray := prog_10_method_75_code
def yX8_shown : MethodName := ⟨RX8, "shown", "(II)I"⟩
abbrev cX8_toldBy : ByteArray := prog_10_method_76_code
def yX8_toldBy : MethodName := ⟨RX8, "toldBy", "(I)I"⟩
abbrev cX8_told : ByteArray := prog_10_method_77_code
def yX8_told : MethodName := ⟨RX8, "told", "(I)I"⟩
abbrev cX8_digest : ByteArray := prog_10_method_78_code
def yX8_digest : MethodName := ⟨RX8, "digest", "()J"⟩
def RJ9 : String := "java/lang/Math"
def TJ9 : u_T := fun k => match k with
  | _ => ("", "", "", false)
def tyJ9 : Nat → FieldType := fun k => match k with
  | _ => .int
abbrev wsJ90 : List Cond := u_ws RJ9 TJ9 0
theorem nmJ9 : ∀ a, a < 0 → ∀ b, b < 0 → a ≠ b → (TJ9 a).2.1 ≠ (TJ9 b).2.1 := by decide +kernel
theorem tyJ9_ok : ∀ k, k < 0 → parseFieldDescriptor (TJ9 k).2.2.1 = some (tyJ9 k) := by decide +kernel
abbrev cJ9_max_7cf53 : ByteArray := prog_11_method_65_code
def yJ9_max_7cf53 : MethodName := ⟨RJ9, "max", "(II)I"⟩
def RJ10 : String := "java/lang/System"
def TJ10 : u_T := fun k => match k with
  | _ => ("", "", "", false)
def tyJ10 : Nat → FieldType := fun k => match k with
  | _ => .int
abbrev wsJ100 : List Cond := u_ws RJ10 TJ10 0
theorem nmJ10 : ∀ a, a < 0 → ∀ b, b < 0 → a ≠ b → (TJ10 a).2.1 ≠ (TJ10 b).2.1 := by decide +kernel
theorem tyJ10_ok : ∀ k, k < 0 → parseFieldDescriptor (TJ10 k).2.2.1 = some (tyJ10 k) := by decide +kernel
def RL : String := "TwigMatchesLaw"
abbrev cL_law : ByteArray := code
def yL_law : MethodName := ⟨RL, "law", "([I)Z"⟩
abbrev vwCl : List vw_C := [(RX0, TX0, 1), (RX1, TX1, 9), (RX2, TX2, 2), (RX3, TX3, 3), (RX4, TX4, 6), (RX5, TX5, 7), (RX6, TX6, 3), (RX7, TX7, 13), (RX8, TX8, 34)]
/-- the tables' words that hold in every warmed state -/
def TBg : List Cond := lw_tbl.filter goodWord
theorem tb_mem {w : Cond} (i : Nat) (h : tables_1[i]? = some w) (g : goodWord w = true) : w ∈ TBg := List.mem_filter.mpr ⟨List.mem_append_right _ (List.mem_of_getElem? h), g⟩
theorem tb_sel {w : Cond} (i : Nat) (h : (k2_sels lw_privs)[i]? = some w) (g : goodWord w = true) : w ∈ TBg := List.mem_filter.mpr ⟨List.mem_append_left _ (List.mem_of_getElem? h), g⟩
theorem tb1 {w : Cond} (i : Nat) (h : tables_1_1[i]? = some w) (g : goodWord w = true) : w ∈ TBg := List.mem_filter.mpr ⟨List.mem_append_right _ (List.mem_append_left _ (List.mem_of_getElem? h)), g⟩
theorem tb2 {w : Cond} (i : Nat) (h : tables_1_2[i]? = some w) (g : goodWord w = true) : w ∈ TBg := List.mem_filter.mpr ⟨List.mem_append_right _ (List.mem_append_right _ (List.mem_append_left _ (List.mem_of_getElem? h))), g⟩
theorem tb3 {w : Cond} (i : Nat) (h : tables_1_3[i]? = some w) (g : goodWord w = true) : w ∈ TBg := List.mem_filter.mpr ⟨List.mem_append_right _ (List.mem_append_right _ (List.mem_append_right _ (List.mem_append_left _ (List.mem_of_getElem? h)))), g⟩
theorem tb4 {w : Cond} (i : Nat) (h : tables_1_4[i]? = some w) (g : goodWord w = true) : w ∈ TBg := List.mem_filter.mpr ⟨List.mem_append_right _ (List.mem_append_right _ (List.mem_append_right _ (List.mem_append_right _ (List.mem_append_left _ (List.mem_of_getElem? h))))), g⟩
theorem tb5 {w : Cond} (i : Nat) (h : tables_1_5[i]? = some w) (g : goodWord w = true) : w ∈ TBg := List.mem_filter.mpr ⟨List.mem_append_right _ (List.mem_append_right _ (List.mem_append_right _ (List.mem_append_right _ (List.mem_append_right _ (List.mem_of_getElem? h))))), g⟩
theorem tb_good {c : Cond} : GoodIn (c :: TBg) TBg := fun w hw => ⟨List.mem_cons_of_mem _ hw, good_of_word (List.mem_filter.mp hw).2⟩
theorem ut_X0 : ∀ w ∈ u_ws RX0 TX0 1, w ∈ TBg := by decide +kernel
theorem ut_X1 : ∀ w ∈ u_ws RX1 TX1 9, w ∈ TBg := by decide +kernel
theorem ut_X2 : ∀ w ∈ u_ws RX2 TX2 2, w ∈ TBg := by decide +kernel
theorem ut_X3 : ∀ w ∈ u_ws RX3 TX3 3, w ∈ TBg := by decide +kernel
theorem ut_X4 : ∀ w ∈ u_ws RX4 TX4 6, w ∈ TBg := by decide +kernel
theorem ut_X5 : ∀ w ∈ u_ws RX5 TX5 7, w ∈ TBg := by decide +kernel
theorem ut_X6 : ∀ w ∈ u_ws RX6 TX6 3, w ∈ TBg := by decide +kernel
theorem ut_X7 : ∀ w ∈ u_ws RX7 TX7 13, w ∈ TBg := by decide +kernel
theorem ut_X8 : ∀ w ∈ u_ws RX8 TX8 34, w ∈ TBg := by decide +kernel
