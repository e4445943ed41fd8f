section
-- ===== PART A: goes FIRST, ahead of the names: the tables' words, and 'selects' of the private methods out of them =====
/-- a private method of a class that the tables say can be made, by its rows of tables_1 -/
def lw_okq (q : MethodName × Nat) : Prop := (q.1.cls ≠ "java/lang/invoke/MethodHandle" ∧ q.1.cls ≠ "java/lang/invoke/VarHandle") ∧ Cond.instantiable q.1.cls q.2 ∈ tables_1 ∧ Cond.privateMethod q.1 ∈ tables_1 ∧ Cond.instanceMethod q.1 ∈ tables_1
theorem lw_p0 : lw_okq (⟨"HandNews$Posts", "reckon", "()V"⟩, 5) := ⟨⟨by decide +kernel, by decide +kernel⟩, List.mem_of_getElem? (i := 27) (by decide +kernel), List.mem_of_getElem? (i := 33) (by decide +kernel), List.mem_of_getElem? (i := 34) (by decide +kernel)⟩
theorem lw_p1 : lw_okq (⟨"HandNews$Posts", "layPosts", "()V"⟩, 5) := ⟨⟨by decide +kernel, by decide +kernel⟩, List.mem_of_getElem? (i := 27) (by decide +kernel), List.mem_of_getElem? (i := 37) (by decide +kernel), List.mem_of_getElem? (i := 38) (by decide +kernel)⟩
theorem lw_p2 : lw_okq (⟨"HandNews$Posts", "goThrough", "(III)V"⟩, 5) := ⟨⟨by decide +kernel, by decide +kernel⟩, List.mem_of_getElem? (i := 27) (by decide +kernel), List.mem_of_getElem? (i := 42) (by decide +kernel), List.mem_of_getElem? (i := 43) (by decide +kernel)⟩
theorem lw_p3 : lw_okq (⟨"HandNews", "isSheet", "(I)Z"⟩, 13) := ⟨⟨by decide +kernel, by decide +kernel⟩, List.mem_of_getElem? (i := 19) (by decide +kernel), List.mem_of_getElem? (i := 345) (by decide +kernel), List.mem_of_getElem? (i := 346) (by decide +kernel)⟩
theorem lw_p4 : lw_okq (⟨"HandNews", "reachesAllThatSay", "(II)Z"⟩, 13) := ⟨⟨by decide +kernel, by decide +kernel⟩, List.mem_of_getElem? (i := 19) (by decide +kernel), List.mem_of_getElem? (i := 368) (by decide +kernel), List.mem_of_getElem? (i := 369) (by decide +kernel)⟩
theorem lw_p5 : lw_okq (⟨"HandNews", "isQuarrel", "()Z"⟩, 13) := ⟨⟨by decide +kernel, by decide +kernel⟩, List.mem_of_getElem? (i := 19) (by decide +kernel), List.mem_of_getElem? (i := 380) (by decide +kernel), List.mem_of_getElem? (i := 381) (by decide +kernel)⟩
theorem lw_p6 : lw_okq (⟨"HandNews$Spans", "layFloors", "(LHandNews$Papers;LHandNews$Posts;[I)V"⟩, 4) := ⟨⟨by decide +kernel, by decide +kernel⟩, List.mem_of_getElem? (i := 152) (by decide +kernel), List.mem_of_getElem? (i := 388) (by decide +kernel), List.mem_of_getElem? (i := 389) (by decide +kernel)⟩
theorem lw_p7 : lw_okq (⟨"HandNews$Spans", "rises", "(LHandNews$Papers;LHandNews$Posts;[III)Z"⟩, 4) := ⟨⟨by decide +kernel, by decide +kernel⟩, List.mem_of_getElem? (i := 152) (by decide +kernel), List.mem_of_getElem? (i := 397) (by decide +kernel), List.mem_of_getElem? (i := 398) (by decide +kernel)⟩
theorem lw_p8 : lw_okq (⟨"HandNews$Spans", "layCeilings", "(LHandNews$Papers;)V"⟩, 4) := ⟨⟨by decide +kernel, by decide +kernel⟩, List.mem_of_getElem? (i := 152) (by decide +kernel), List.mem_of_getElem? (i := 413) (by decide +kernel), List.mem_of_getElem? (i := 414) (by decide +kernel)⟩
theorem lw_p9 : lw_okq (⟨"HandNews$Spans", "sink", "(LHandNews$Papers;LHandNews$Posts;)V"⟩, 4) := ⟨⟨by decide +kernel, by decide +kernel⟩, List.mem_of_getElem? (i := 152) (by decide +kernel), List.mem_of_getElem? (i := 417) (by decide +kernel), List.mem_of_getElem? (i := 418) (by decide +kernel)⟩
theorem lw_p10 : lw_okq (⟨"HandNews$Tree", "climb", "(I)V"⟩, 3) := ⟨⟨by decide +kernel, by decide +kernel⟩, List.mem_of_getElem? (i := 176) (by decide +kernel), List.mem_of_getElem? (i := 457) (by decide +kernel), List.mem_of_getElem? (i := 458) (by decide +kernel)⟩
theorem lw_p11 : lw_okq (⟨"HandNews", "isSaying", "(I)Z"⟩, 13) := ⟨⟨by decide +kernel, by decide +kernel⟩, List.mem_of_getElem? (i := 19) (by decide +kernel), List.mem_of_getElem? (i := 488) (by decide +kernel), List.mem_of_getElem? (i := 489) (by decide +kernel)⟩
theorem lw_p12 : lw_okq (⟨"HandNews", "followers", "(I)I"⟩, 13) := ⟨⟨by decide +kernel, by decide +kernel⟩, List.mem_of_getElem? (i := 19) (by decide +kernel), List.mem_of_getElem? (i := 509) (by decide +kernel), List.mem_of_getElem? (i := 510) (by decide +kernel)⟩
theorem lw_p13 : lw_okq (⟨"HandNews", "growth", "(I)I"⟩, 13) := ⟨⟨by decide +kernel, by decide +kernel⟩, List.mem_of_getElem? (i := 19) (by decide +kernel), List.mem_of_getElem? (i := 524) (by decide +kernel), List.mem_of_getElem? (i := 525) (by decide +kernel)⟩
theorem lw_p14 : lw_okq (⟨"HandNews$Items", "readItem", "(LHandNews$Text;)Z"⟩, 8) := ⟨⟨by decide +kernel, by decide +kernel⟩, List.mem_of_getElem? (i := 221) (by decide +kernel), List.mem_of_getElem? (i := 558) (by decide +kernel), List.mem_of_getElem? (i := 559) (by decide +kernel)⟩
theorem lw_p15 : lw_okq (⟨"HandNews$Items", "readParts", "(LHandNews$Text;I)Z"⟩, 8) := ⟨⟨by decide +kernel, by decide +kernel⟩, List.mem_of_getElem? (i := 221) (by decide +kernel), List.mem_of_getElem? (i := 618) (by decide +kernel), List.mem_of_getElem? (i := 619) (by decide +kernel)⟩
def lw_privs_1 : List (MethodName × Nat) := [(⟨"HandNews$Posts", "reckon", "()V"⟩, 5), (⟨"HandNews$Posts", "layPosts", "()V"⟩, 5), (⟨"HandNews$Posts", "goThrough", "(III)V"⟩, 5), (⟨"HandNews", "isSheet", "(I)Z"⟩, 13), (⟨"HandNews", "reachesAllThatSay", "(II)Z"⟩, 13), (⟨"HandNews", "isQuarrel", "()Z"⟩, 13), (⟨"HandNews$Spans", "layFloors", "(LHandNews$Papers;LHandNews$Posts;[I)V"⟩, 4), (⟨"HandNews$Spans", "rises", "(LHandNews$Papers;LHandNews$Posts;[III)Z"⟩, 4), (⟨"HandNews$Spans", "layCeilings", "(LHandNews$Papers;)V"⟩, 4), (⟨"HandNews$Spans", "sink", "(LHandNews$Papers;LHandNews$Posts;)V"⟩, 4), (⟨"HandNews$Tree", "climb", "(I)V"⟩, 3), (⟨"HandNews", "isSaying", "(I)Z"⟩, 13), (⟨"HandNews", "followers", "(I)I"⟩, 13), (⟨"HandNews", "growth", "(I)I"⟩, 13), (⟨"HandNews$Items", "readItem", "(LHandNews$Text;)Z"⟩, 8), (⟨"HandNews$Items", "readParts", "(LHandNews$Text;I)Z"⟩, 8)]
theorem lw_r1 : ∀ q ∈ lw_privs_1, lw_okq q := List.forall_mem_cons.mpr ⟨lw_p0, List.forall_mem_cons.mpr ⟨lw_p1, List.forall_mem_cons.mpr ⟨lw_p2, List.forall_mem_cons.mpr ⟨lw_p3, List.forall_mem_cons.mpr ⟨lw_p4, List.forall_mem_cons.mpr ⟨lw_p5, List.forall_mem_cons.mpr ⟨lw_p6, List.forall_mem_cons.mpr ⟨lw_p7, List.forall_mem_cons.mpr ⟨lw_p8, List.forall_mem_cons.mpr ⟨lw_p9, List.forall_mem_cons.mpr ⟨lw_p10, List.forall_mem_cons.mpr ⟨lw_p11, List.forall_mem_cons.mpr ⟨lw_p12, List.forall_mem_cons.mpr ⟨lw_p13, List.forall_mem_cons.mpr ⟨lw_p14, List.forall_mem_cons.mpr ⟨lw_p15, fun _ h => absurd h List.not_mem_nil⟩⟩⟩⟩⟩⟩⟩⟩⟩⟩⟩⟩⟩⟩⟩⟩
theorem lw_p16 : lw_okq (⟨"HandNews$Items", "readNumber", "(LHandNews$Text;)I"⟩, 8) := ⟨⟨by decide +kernel, by decide +kernel⟩, List.mem_of_getElem? (i := 221) (by decide +kernel), List.mem_of_getElem? (i := 624) (by decide +kernel), List.mem_of_getElem? (i := 625) (by decide +kernel)⟩
theorem lw_p17 : lw_okq (⟨"HandNews$Items", "disagree", "(II)Z"⟩, 8) := ⟨⟨by decide +kernel, by decide +kernel⟩, List.mem_of_getElem? (i := 221) (by decide +kernel), List.mem_of_getElem? (i := 665) (by decide +kernel), List.mem_of_getElem? (i := 666) (by decide +kernel)⟩
theorem lw_p18 : lw_okq (⟨"HandNews", "arrival", "(I)I"⟩, 13) := ⟨⟨by decide +kernel, by decide +kernel⟩, List.mem_of_getElem? (i := 19) (by decide +kernel), List.mem_of_getElem? (i := 677) (by decide +kernel), List.mem_of_getElem? (i := 678) (by decide +kernel)⟩
theorem lw_p19 : lw_okq (⟨"HandNews", "weightOf", "(II)I"⟩, 13) := ⟨⟨by decide +kernel, by decide +kernel⟩, List.mem_of_getElem? (i := 19) (by decide +kernel), List.mem_of_getElem? (i := 685) (by decide +kernel), List.mem_of_getElem? (i := 686) (by decide +kernel)⟩
theorem lw_p20 : lw_okq (⟨"HandNews", "voicesHeard", "(II)I"⟩, 13) := ⟨⟨by decide +kernel, by decide +kernel⟩, List.mem_of_getElem? (i := 19) (by decide +kernel), List.mem_of_getElem? (i := 689) (by decide +kernel), List.mem_of_getElem? (i := 690) (by decide +kernel)⟩
theorem lw_p21 : lw_okq (⟨"HandNews", "weightOfVoice", "(II)I"⟩, 13) := ⟨⟨by decide +kernel, by decide +kernel⟩, List.mem_of_getElem? (i := 19) (by decide +kernel), List.mem_of_getElem? (i := 694) (by decide +kernel), List.mem_of_getElem? (i := 695) (by decide +kernel)⟩
theorem lw_p22 : lw_okq (⟨"HandNews", "isForbidden", "(I)Z"⟩, 13) := ⟨⟨by decide +kernel, by decide +kernel⟩, List.mem_of_getElem? (i := 19) (by decide +kernel), List.mem_of_getElem? (i := 702) (by decide +kernel), List.mem_of_getElem? (i := 703) (by decide +kernel)⟩
theorem lw_p23 : lw_okq (⟨"HandNews", "isTried", "(I)Z"⟩, 13) := ⟨⟨by decide +kernel, by decide +kernel⟩, List.mem_of_getElem? (i := 19) (by decide +kernel), List.mem_of_getElem? (i := 718) (by decide +kernel), List.mem_of_getElem? (i := 719) (by decide +kernel)⟩
theorem lw_p24 : lw_okq (⟨"HandNews", "outcome", "(II)I"⟩, 13) := ⟨⟨by decide +kernel, by decide +kernel⟩, List.mem_of_getElem? (i := 19) (by decide +kernel), List.mem_of_getElem? (i := 722) (by decide +kernel), List.mem_of_getElem? (i := 723) (by decide +kernel)⟩
theorem lw_p25 : lw_okq (⟨"HandNews", "firstKnown", "(II)I"⟩, 13) := ⟨⟨by decide +kernel, by decide +kernel⟩, List.mem_of_getElem? (i := 19) (by decide +kernel), List.mem_of_getElem? (i := 744) (by decide +kernel), List.mem_of_getElem? (i := 745) (by decide +kernel)⟩
theorem lw_p26 : lw_okq (⟨"HandNews", "lagBehind", "(II)I"⟩, 13) := ⟨⟨by decide +kernel, by decide +kernel⟩, List.mem_of_getElem? (i := 19) (by decide +kernel), List.mem_of_getElem? (i := 748) (by decide +kernel), List.mem_of_getElem? (i := 749) (by decide +kernel)⟩
theorem lw_p27 : lw_okq (⟨"HandNews$Worths", "bestOf", "(II)I"⟩, 1) := ⟨⟨by decide +kernel, by decide +kernel⟩, List.mem_of_getElem? (i := 211) (by decide +kernel), List.mem_of_getElem? (i := 783) (by decide +kernel), List.mem_of_getElem? (i := 784) (by decide +kernel)⟩
theorem lw_p28 : lw_okq (⟨"HandNewsModel", "layWays", "()V"⟩, 26) := ⟨⟨by decide +kernel, by decide +kernel⟩, List.mem_of_getElem? (i := 811) (by decide +kernel), List.mem_of_getElem? (i := 817) (by decide +kernel), List.mem_of_getElem? (i := 818) (by decide +kernel)⟩
theorem lw_p29 : lw_okq (⟨"HandNewsModel", "isSheet", "(I)Z"⟩, 26) := ⟨⟨by decide +kernel, by decide +kernel⟩, List.mem_of_getElem? (i := 811) (by decide +kernel), List.mem_of_getElem? (i := 931) (by decide +kernel), List.mem_of_getElem? (i := 932) (by decide +kernel)⟩
theorem lw_p30 : lw_okq (⟨"HandNewsModel", "wayOf", "(II)I"⟩, 26) := ⟨⟨by decide +kernel, by decide +kernel⟩, List.mem_of_getElem? (i := 811) (by decide +kernel), List.mem_of_getElem? (i := 939) (by decide +kernel), List.mem_of_getElem? (i := 940) (by decide +kernel)⟩
theorem lw_p31 : lw_okq (⟨"HandNewsModel", "areDays", "()Z"⟩, 26) := ⟨⟨by decide +kernel, by decide +kernel⟩, List.mem_of_getElem? (i := 811) (by decide +kernel), List.mem_of_getElem? (i := 958) (by decide +kernel), List.mem_of_getElem? (i := 959) (by decide +kernel)⟩
def lw_privs_2 : List (MethodName × Nat) := [(⟨"HandNews$Items", "readNumber", "(LHandNews$Text;)I"⟩, 8), (⟨"HandNews$Items", "disagree", "(II)Z"⟩, 8), (⟨"HandNews", "arrival", "(I)I"⟩, 13), (⟨"HandNews", "weightOf", "(II)I"⟩, 13), (⟨"HandNews", "voicesHeard", "(II)I"⟩, 13), (⟨"HandNews", "weightOfVoice", "(II)I"⟩, 13), (⟨"HandNews", "isForbidden", "(I)Z"⟩, 13), (⟨"HandNews", "isTried", "(I)Z"⟩, 13), (⟨"HandNews", "outcome", "(II)I"⟩, 13), (⟨"HandNews", "firstKnown", "(II)I"⟩, 13), (⟨"HandNews", "lagBehind", "(II)I"⟩, 13), (⟨"HandNews$Worths", "bestOf", "(II)I"⟩, 1), (⟨"HandNewsModel", "layWays", "()V"⟩, 26), (⟨"HandNewsModel", "isSheet", "(I)Z"⟩, 26), (⟨"HandNewsModel", "wayOf", "(II)I"⟩, 26), (⟨"HandNewsModel", "areDays", "()Z"⟩, 26)]
theorem lw_r2 : ∀ q ∈ lw_privs_2, lw_okq q := List.forall_mem_cons.mpr ⟨lw_p16, List.forall_mem_cons.mpr ⟨lw_p17, List.forall_mem_cons.mpr ⟨lw_p18, List.forall_mem_cons.mpr ⟨lw_p19, List.forall_mem_cons.mpr ⟨lw_p20, List.forall_mem_cons.mpr ⟨lw_p21, List.forall_mem_cons.mpr ⟨lw_p22, List.forall_mem_cons.mpr ⟨lw_p23, List.forall_mem_cons.mpr ⟨lw_p24, List.forall_mem_cons.mpr ⟨lw_p25, List.forall_mem_cons.mpr ⟨lw_p26, List.forall_mem_cons.mpr ⟨lw_p27, List.forall_mem_cons.mpr ⟨lw_p28, List.forall_mem_cons.mpr ⟨lw_p29, List.forall_mem_cons.mpr ⟨lw_p30, List.forall_mem_cons.mpr ⟨lw_p31, fun _ h => absurd h List.not_mem_nil⟩⟩⟩⟩⟩⟩⟩⟩⟩⟩⟩⟩⟩⟩⟩⟩
theorem lw_p32 : lw_okq (⟨"HandNewsModel", "layDays", "(II)Z"⟩, 26) := ⟨⟨by decide +kernel, by decide +kernel⟩, List.mem_of_getElem? (i := 811) (by decide +kernel), List.mem_of_getElem? (i := 962) (by decide +kernel), List.mem_of_getElem? (i := 963) (by decide +kernel)⟩
theorem lw_p33 : lw_okq (⟨"HandNewsModel", "isLet", "()Z"⟩, 26) := ⟨⟨by decide +kernel, by decide +kernel⟩, List.mem_of_getElem? (i := 811) (by decide +kernel), List.mem_of_getElem? (i := 966) (by decide +kernel), List.mem_of_getElem? (i := 967) (by decide +kernel)⟩
theorem lw_p34 : lw_okq (⟨"HandNewsModel", "push", "(III)V"⟩, 26) := ⟨⟨by decide +kernel, by decide +kernel⟩, List.mem_of_getElem? (i := 811) (by decide +kernel), List.mem_of_getElem? (i := 970) (by decide +kernel), List.mem_of_getElem? (i := 971) (by decide +kernel)⟩
theorem lw_p35 : lw_okq (⟨"HandNewsModel", "isSaying", "(I)Z"⟩, 26) := ⟨⟨by decide +kernel, by decide +kernel⟩, List.mem_of_getElem? (i := 811) (by decide +kernel), List.mem_of_getElem? (i := 988) (by decide +kernel), List.mem_of_getElem? (i := 989) (by decide +kernel)⟩
theorem lw_p36 : lw_okq (⟨"HandNewsModel", "changeOf", "(II)I"⟩, 26) := ⟨⟨by decide +kernel, by decide +kernel⟩, List.mem_of_getElem? (i := 811) (by decide +kernel), List.mem_of_getElem? (i := 992) (by decide +kernel), List.mem_of_getElem? (i := 993) (by decide +kernel)⟩
theorem lw_p37 : lw_okq (⟨"HandNewsModel", "layTree", "()Z"⟩, 26) := ⟨⟨by decide +kernel, by decide +kernel⟩, List.mem_of_getElem? (i := 811) (by decide +kernel), List.mem_of_getElem? (i := 1005) (by decide +kernel), List.mem_of_getElem? (i := 1006) (by decide +kernel)⟩
theorem lw_p38 : lw_okq (⟨"HandNewsModel", "couldCopy", "(II)Z"⟩, 26) := ⟨⟨by decide +kernel, by decide +kernel⟩, List.mem_of_getElem? (i := 811) (by decide +kernel), List.mem_of_getElem? (i := 1009) (by decide +kernel), List.mem_of_getElem? (i := 1010) (by decide +kernel)⟩
theorem lw_p39 : lw_okq (⟨"HandNewsModel", "rootOf", "(I)I"⟩, 26) := ⟨⟨by decide +kernel, by decide +kernel⟩, List.mem_of_getElem? (i := 811) (by decide +kernel), List.mem_of_getElem? (i := 1018) (by decide +kernel), List.mem_of_getElem? (i := 1019) (by decide +kernel)⟩
theorem lw_p40 : lw_okq (⟨"HandNewsModel", "grewOf", "(I)I"⟩, 26) := ⟨⟨by decide +kernel, by decide +kernel⟩, List.mem_of_getElem? (i := 811) (by decide +kernel), List.mem_of_getElem? (i := 1031) (by decide +kernel), List.mem_of_getElem? (i := 1032) (by decide +kernel)⟩
theorem lw_p41 : lw_okq (⟨"HandNewsModel", "writerOf", "(I)I"⟩, 26) := ⟨⟨by decide +kernel, by decide +kernel⟩, List.mem_of_getElem? (i := 811) (by decide +kernel), List.mem_of_getElem? (i := 1042) (by decide +kernel), List.mem_of_getElem? (i := 1043) (by decide +kernel)⟩
theorem lw_p42 : lw_okq (⟨"HandNewsModel", "readAll", "()I"⟩, 26) := ⟨⟨by decide +kernel, by decide +kernel⟩, List.mem_of_getElem? (i := 811) (by decide +kernel), List.mem_of_getElem? (i := 1059) (by decide +kernel), List.mem_of_getElem? (i := 1060) (by decide +kernel)⟩
theorem lw_p43 : lw_okq (⟨"HandNewsModel", "item", "()Z"⟩, 26) := ⟨⟨by decide +kernel, by decide +kernel⟩, List.mem_of_getElem? (i := 811) (by decide +kernel), List.mem_of_getElem? (i := 1063) (by decide +kernel), List.mem_of_getElem? (i := 1064) (by decide +kernel)⟩
theorem lw_p44 : lw_okq (⟨"HandNewsModel", "numbers", "(I)Z"⟩, 26) := ⟨⟨by decide +kernel, by decide +kernel⟩, List.mem_of_getElem? (i := 811) (by decide +kernel), List.mem_of_getElem? (i := 1067) (by decide +kernel), List.mem_of_getElem? (i := 1068) (by decide +kernel)⟩
theorem lw_p45 : lw_okq (⟨"HandNewsModel", "ruleOf", "(III)I"⟩, 26) := ⟨⟨by decide +kernel, by decide +kernel⟩, List.mem_of_getElem? (i := 811) (by decide +kernel), List.mem_of_getElem? (i := 1087) (by decide +kernel), List.mem_of_getElem? (i := 1088) (by decide +kernel)⟩
theorem lw_p46 : lw_okq (⟨"HandNewsModel", "whyOf", "(III)I"⟩, 26) := ⟨⟨by decide +kernel, by decide +kernel⟩, List.mem_of_getElem? (i := 811) (by decide +kernel), List.mem_of_getElem? (i := 1091) (by decide +kernel), List.mem_of_getElem? (i := 1092) (by decide +kernel)⟩
theorem lw_p47 : lw_okq (⟨"HandNewsModel", "cameOf", "(I)I"⟩, 26) := ⟨⟨by decide +kernel, by decide +kernel⟩, List.mem_of_getElem? (i := 811) (by decide +kernel), List.mem_of_getElem? (i := 1114) (by decide +kernel), List.mem_of_getElem? (i := 1115) (by decide +kernel)⟩
def lw_privs_3 : List (MethodName × Nat) := [(⟨"HandNewsModel", "layDays", "(II)Z"⟩, 26), (⟨"HandNewsModel", "isLet", "()Z"⟩, 26), (⟨"HandNewsModel", "push", "(III)V"⟩, 26), (⟨"HandNewsModel", "isSaying", "(I)Z"⟩, 26), (⟨"HandNewsModel", "changeOf", "(II)I"⟩, 26), (⟨"HandNewsModel", "layTree", "()Z"⟩, 26), (⟨"HandNewsModel", "couldCopy", "(II)Z"⟩, 26), (⟨"HandNewsModel", "rootOf", "(I)I"⟩, 26), (⟨"HandNewsModel", "grewOf", "(I)I"⟩, 26), (⟨"HandNewsModel", "writerOf", "(I)I"⟩, 26), (⟨"HandNewsModel", "readAll", "()I"⟩, 26), (⟨"HandNewsModel", "item", "()Z"⟩, 26), (⟨"HandNewsModel", "numbers", "(I)Z"⟩, 26), (⟨"HandNewsModel", "ruleOf", "(III)I"⟩, 26), (⟨"HandNewsModel", "whyOf", "(III)I"⟩, 26), (⟨"HandNewsModel", "cameOf", "(I)I"⟩, 26)]
theorem lw_r3 : ∀ q ∈ lw_privs_3, lw_okq q := List.forall_mem_cons.mpr ⟨lw_p32, List.forall_mem_cons.mpr ⟨lw_p33, List.forall_mem_cons.mpr ⟨lw_p34, List.forall_mem_cons.mpr ⟨lw_p35, List.forall_mem_cons.mpr ⟨lw_p36, List.forall_mem_cons.mpr ⟨lw_p37, List.forall_mem_cons.mpr ⟨lw_p38, List.forall_mem_cons.mpr ⟨lw_p39, List.forall_mem_cons.mpr ⟨lw_p40, List.forall_mem_cons.mpr ⟨lw_p41, List.forall_mem_cons.mpr ⟨lw_p42, List.forall_mem_cons.mpr ⟨lw_p43, List.forall_mem_cons.mpr ⟨lw_p44, List.forall_mem_cons.mpr ⟨lw_p45, List.forall_mem_cons.mpr ⟨lw_p46, List.forall_mem_cons.mpr ⟨lw_p47, fun _ h => absurd h List.not_mem_nil⟩⟩⟩⟩⟩⟩⟩⟩⟩⟩⟩⟩⟩⟩⟩⟩
theorem lw_p48 : lw_okq (⟨"HandNewsModel", "isHeard", "(II)Z"⟩, 26) := ⟨⟨by decide +kernel, by decide +kernel⟩, List.mem_of_getElem? (i := 811) (by decide +kernel), List.mem_of_getElem? (i := 1122) (by decide +kernel), List.mem_of_getElem? (i := 1123) (by decide +kernel)⟩
theorem lw_p49 : lw_okq (⟨"HandNewsModel", "isBanned", "(I)Z"⟩, 26) := ⟨⟨by decide +kernel, by decide +kernel⟩, List.mem_of_getElem? (i := 811) (by decide +kernel), List.mem_of_getElem? (i := 1130) (by decide +kernel), List.mem_of_getElem? (i := 1131) (by decide +kernel)⟩
theorem lw_p50 : lw_okq (⟨"HandNewsModel", "knownIn", "(II)I"⟩, 26) := ⟨⟨by decide +kernel, by decide +kernel⟩, List.mem_of_getElem? (i := 811) (by decide +kernel), List.mem_of_getElem? (i := 1152) (by decide +kernel), List.mem_of_getElem? (i := 1153) (by decide +kernel)⟩
theorem lw_p51 : lw_okq (⟨"HandNewsModel", "copy", "(II)V"⟩, 26) := ⟨⟨by decide +kernel, by decide +kernel⟩, List.mem_of_getElem? (i := 811) (by decide +kernel), List.mem_of_getElem? (i := 1172) (by decide +kernel), List.mem_of_getElem? (i := 1173) (by decide +kernel)⟩
def lw_privs_4 : List (MethodName × Nat) := [(⟨"HandNewsModel", "isHeard", "(II)Z"⟩, 26), (⟨"HandNewsModel", "isBanned", "(I)Z"⟩, 26), (⟨"HandNewsModel", "knownIn", "(II)I"⟩, 26), (⟨"HandNewsModel", "copy", "(II)V"⟩, 26)]
theorem lw_r4 : ∀ q ∈ lw_privs_4, lw_okq q := List.forall_mem_cons.mpr ⟨lw_p48, List.forall_mem_cons.mpr ⟨lw_p49, List.forall_mem_cons.mpr ⟨lw_p50, List.forall_mem_cons.mpr ⟨lw_p51, fun _ h => absurd h List.not_mem_nil⟩⟩⟩⟩
def lw_privs : List (MethodName × Nat) := lw_privs_1 ++ (lw_privs_2 ++ (lw_privs_3 ++ (lw_privs_4)))
def lw_tbl : List Cond := k2_sels lw_privs ++ tables_1
theorem lw_privs_ok : ∀ q ∈ lw_privs, lw_okq q := by
  show ∀ q ∈ lw_privs_1 ++ (lw_privs_2 ++ (lw_privs_3 ++ (lw_privs_4))), lw_okq q
  exact List.forall_mem_append.mpr ⟨lw_r1, List.forall_mem_append.mpr ⟨lw_r2, List.forall_mem_append.mpr ⟨lw_r3, lw_r4⟩⟩⟩
end
section
def RX0 : String := "HandNews$Items"
def TX0 : u_T := fun k => match k with
  | 0 => ("HandNews$Items", "kind", "[I", true)
  | 1 => ("HandNews$Items", "subject", "[I", true)
  | 2 => ("HandNews$Items", "amount", "[I", true)
  | 3 => ("HandNews$Items", "since", "[I", true)
  | 4 => ("HandNews$Items", "until", "[I", true)
  | 5 => ("HandNews$Items", "part", "[I", true)
  | 6 => ("HandNews$Items", "size", "I", false)
  | _ => ("HandNews$Items", "place", "I", false)
def tyX0 : Nat → FieldType := fun k => match k with
  | 0 => .array .int
  | 1 => .array .int
  | 2 => .array .int
  | 3 => .array .int
  | 4 => .array .int
  | 5 => .array .int
  | 6 => .int
  | _ => .int
abbrev wsX00 : List Cond := u_ws RX0 TX0 8
theorem nmX0 : ∀ a, a < 8 → ∀ b, b < 8 → a ≠ b → (TX0 a).2.1 ≠ (TX0 b).2.1 := by decide +kernel
theorem tyX0_ok : ∀ k, k < 8 → parseFieldDescriptor (TX0 k).2.2.1 = some (tyX0 k) := by decide +kernel
abbrev cX0_init : ByteArray := prog_2_method_1_code
def yX0_init : MethodName := ⟨RX0, "<init>", "()V"⟩
abbrev cX0_read : ByteArray := prog_2_method_2_code
def yX0_read : MethodName := ⟨RX0, "read", "(LHandNews$Text;)I"⟩
abbrev cX0_readItem : ByteArray := prog_2_method_3_code
def yX0_readItem : MethodName := ⟨RX0, "readItem", "(LHandNews$Text;)Z"⟩
abbrev cX0_kindOf : ByteArray := prog_2_method_4_code
def yX0_kindOf : MethodName := ⟨RX0, "kindOf", "(I)I"⟩
abbrev cX0_readParts : ByteArray := prog_2_method_5_code
def yX0_readParts : MethodName := ⟨RX0, "readParts", "(LHandNews$Text;I)Z"⟩
abbrev cX0_readNumber : ByteArray := prog_2_method_6_code
def yX0_readNumber : MethodName := ⟨RX0, "readNumber", "(LHandNews$Text;)I"⟩
abbrev cX0_isFigure : ByteArray := prog_2_method_7_code
def yX0_isFigure : MethodName := ⟨RX0, "isFigure", "(I)Z"⟩
abbrev cX0_holding : ByteArray := prog_2_method_8_code
def yX0_holding : MethodName := ⟨RX0, "holding", "(III)I"⟩
abbrev cX0_amountOn : ByteArray := prog_2_method_9_code
def yX0_amountOn : MethodName := ⟨RX0, "amountOn", "(III)I"⟩
abbrev cX0_firstQuarrel : ByteArray := prog_2_method_10_code
def yX0_firstQuarrel : MethodName := ⟨RX0, "firstQuarrel", "()I"⟩
abbrev cX0_disagree : ByteArray := prog_2_method_11_code
def yX0_disagree : MethodName := ⟨RX0, "disagree", "(II)Z"⟩
abbrev cX0_forbids : ByteArray := prog_2_method_12_code
def yX0_forbids : MethodName := ⟨RX0, "forbids", "(IIII)Z"⟩
def RX1 : String := "HandNews$Papers"
def TX1 : u_T := fun k => match k with
  | 0 => ("HandNews$Papers", "sheets", "I", false)
  | 1 => ("HandNews$Papers", "sheetTown", "[I", true)
  | 2 => ("HandNews$Papers", "sheetWriter", "[I", true)
  | 3 => ("HandNews$Papers", "sheetDay", "[I", true)
  | 4 => ("HandNews$Papers", "pairs", "I", false)
  | 5 => ("HandNews$Papers", "later", "[I", true)
  | 6 => ("HandNews$Papers", "earlier", "[I", true)
  | 7 => ("HandNews$Papers", "sayings", "I", false)
  | 8 => ("HandNews$Papers", "sheetOf", "[I", true)
  | 9 => ("HandNews$Papers", "thingOf", "[I", true)
  | 10 => ("HandNews$Papers", "number", "[I", true)
  | 11 => ("HandNews$Papers", "words", "[I", true)
  | 12 => ("HandNews$Papers", "seenOnes", "I", false)
  | 13 => ("HandNews$Papers", "deniedOnes", "I", false)
  | 14 => ("HandNews$Papers", "thingTown", "[I", true)
  | 15 => ("HandNews$Papers", "thingDay", "[I", true)
  | _ => ("HandNews$Papers", "truthOf", "[I", true)
def tyX1 : Nat → FieldType := fun k => match k with
  | 0 => .int
  | 1 => .array .int
  | 2 => .array .int
  | 3 => .array .int
  | 4 => .int
  | 5 => .array .int
  | 6 => .array .int
  | 7 => .int
  | 8 => .array .int
  | 9 => .array .int
  | 10 => .array .int
  | 11 => .array .int
  | 12 => .int
  | 13 => .int
  | 14 => .array .int
  | 15 => .array .int
  | _ => .array .int
abbrev wsX10 : List Cond := u_ws RX1 TX1 17
theorem nmX1 : ∀ a, a < 17 → ∀ b, b < 17 → a ≠ b → (TX1 a).2.1 ≠ (TX1 b).2.1 := by decide +kernel
theorem tyX1_ok : ∀ k, k < 17 → parseFieldDescriptor (TX1 k).2.2.1 = some (tyX1 k) := by decide +kernel
abbrev cX1_init : ByteArray := prog_3_method_1_code
def yX1_init : MethodName := ⟨RX1, "<init>", "()V"⟩
abbrev cX1_addSheet : ByteArray := prog_3_method_2_code
def yX1_addSheet : MethodName := ⟨RX1, "addSheet", "(III)I"⟩
abbrev cX1_addPair : ByteArray := prog_3_method_3_code
def yX1_addPair : MethodName := ⟨RX1, "addPair", "(II)I"⟩
abbrev cX1_addSaying : ByteArray := prog_3_method_4_code
def yX1_addSaying : MethodName := ⟨RX1, "addSaying", "(IIII)I"⟩
abbrev cX1_mark : ByteArray := prog_3_method_5_code
def yX1_mark : MethodName := ⟨RX1, "mark", "(IZZ)V"⟩
abbrev cX1_isSeen : ByteArray := prog_3_method_6_code
def yX1_isSeen : MethodName := ⟨RX1, "isSeen", "(I)Z"⟩
abbrev cX1_isDenied : ByteArray := prog_3_method_7_code
def yX1_isDenied : MethodName := ⟨RX1, "isDenied", "(I)Z"⟩
abbrev cX1_hasHappened : ByteArray := prog_3_method_8_code
def yX1_hasHappened : MethodName := ⟨RX1, "hasHappened", "(I)Z"⟩
abbrev cX1_townOf : ByteArray := prog_3_method_9_code
def yX1_townOf : MethodName := ⟨RX1, "townOf", "(I)I"⟩
abbrev cX1_writerOf : ByteArray := prog_3_method_10_code
def yX1_writerOf : MethodName := ⟨RX1, "writerOf", "(I)I"⟩
abbrev cX1_unlikeness : ByteArray := prog_3_method_11_code
def yX1_unlikeness : MethodName := ⟨RX1, "unlikeness", "(II)I"⟩
abbrev cX1_copyFrom : ByteArray := prog_3_method_12_code
def yX1_copyFrom : MethodName := ⟨RX1, "copyFrom", "(LHandNews$Papers;)V"⟩
def RX2 : String := "HandNews$Posts"
def TX2 : u_T := fun k => match k with
  | 0 => ("HandNews$Posts", "least", "[I", true)
  | 1 => ("HandNews$Posts", "most", "[I", true)
  | 2 => ("HandNews$Posts", "shortest", "[I", true)
  | 3 => ("HandNews$Posts", "slowest", "[I", true)
  | _ => ("HandNews$Posts", "told", "I", false)
def tyX2 : Nat → FieldType := fun k => match k with
  | 0 => .array .int
  | 1 => .array .int
  | 2 => .array .int
  | 3 => .array .int
  | _ => .int
abbrev wsX20 : List Cond := u_ws RX2 TX2 5
theorem nmX2 : ∀ a, a < 5 → ∀ b, b < 5 → a ≠ b → (TX2 a).2.1 ≠ (TX2 b).2.1 := by decide +kernel
theorem tyX2_ok : ∀ k, k < 5 → parseFieldDescriptor (TX2 k).2.2.1 = some (tyX2 k) := by decide +kernel
abbrev cX2_init : ByteArray := prog_4_method_1_code
def yX2_init : MethodName := ⟨RX2, "<init>", "()V"⟩
abbrev cX2_tell : ByteArray := prog_4_method_2_code
def yX2_tell : MethodName := ⟨RX2, "tell", "(IIII)V"⟩
abbrev cX2_leads : ByteArray := prog_4_method_3_code
def yX2_leads : MethodName := ⟨RX2, "leads", "(II)Z"⟩
abbrev cX2_days : ByteArray := prog_4_method_4_code
def yX2_days : MethodName := ⟨RX2, "days", "(II)I"⟩
abbrev cX2_slowestDays : ByteArray := prog_4_method_5_code
def yX2_slowestDays : MethodName := ⟨RX2, "slowestDays", "(II)I"⟩
abbrev cX2_reckon : ByteArray := prog_4_method_6_code
def yX2_reckon : MethodName := ⟨RX2, "reckon", "()V"⟩
abbrev cX2_layPosts : ByteArray := prog_4_method_7_code
def yX2_layPosts : MethodName := ⟨RX2, "layPosts", "()V"⟩
abbrev cX2_goThrough : ByteArray := prog_4_method_8_code
def yX2_goThrough : MethodName := ⟨RX2, "goThrough", "(III)V"⟩
def RX3 : String := "HandNews$Spans"
def TX3 : u_T := fun k => match k with
  | 0 => ("HandNews$Spans", "first", "[I", true)
  | 1 => ("HandNews$Spans", "last", "[I", true)
  | 2 => ("HandNews$Spans", "trial", "[I", true)
  | _ => ("HandNews$Spans", "quarrels", "Z", false)
def tyX3 : Nat → FieldType := fun k => match k with
  | 0 => .array .int
  | 1 => .array .int
  | 2 => .array .int
  | _ => .boolean
abbrev wsX30 : List Cond := u_ws RX3 TX3 4
theorem nmX3 : ∀ a, a < 4 → ∀ b, b < 4 → a ≠ b → (TX3 a).2.1 ≠ (TX3 b).2.1 := by decide +kernel
theorem tyX3_ok : ∀ k, k < 4 → parseFieldDescriptor (TX3 k).2.2.1 = some (tyX3 k) := by decide +kernel
abbrev cX3_init : ByteArray := prog_5_method_1_code
def yX3_init : MethodName := ⟨RX3, "<init>", "()V"⟩
abbrev cX3_reckon : ByteArray := prog_5_method_2_code
def yX3_reckon : MethodName := ⟨RX3, "reckon", "(LHandNews$Papers;LHandNews$Posts;)V"⟩
abbrev cX3_canBeNoEarlier : ByteArray := prog_5_method_3_code
def yX3_canBeNoEarlier : MethodName := ⟨RX3, "canBeNoEarlier", "(LHandNews$Papers;LHandNews$Posts;II)Z"⟩
abbrev cX3_layFloors : ByteArray := prog_5_method_4_code
def yX3_layFloors : MethodName := ⟨RX3, "layFloors", "(LHandNews$Papers;LHandNews$Posts;[I)V"⟩
abbrev cX3_layCeilings : ByteArray := prog_5_method_5_code
def yX3_layCeilings : MethodName := ⟨RX3, "layCeilings", "(LHandNews$Papers;)V"⟩
abbrev cX3_ceiling : ByteArray := prog_5_method_6_code
def yX3_ceiling : MethodName := ⟨RX3, "ceiling", "(LHandNews$Papers;I)I"⟩
abbrev cX3_rises : ByteArray := prog_5_method_7_code
def yX3_rises : MethodName := ⟨RX3, "rises", "(LHandNews$Papers;LHandNews$Posts;[III)Z"⟩
abbrev cX3_raise : ByteArray := prog_5_method_8_code
def yX3_raise : MethodName := ⟨RX3, "raise", "(LHandNews$Papers;LHandNews$Posts;[I)Z"⟩
abbrev cX3_staysBelow : ByteArray := prog_5_method_9_code
def yX3_staysBelow : MethodName := ⟨RX3, "staysBelow", "(LHandNews$Papers;[I)Z"⟩
abbrev cX3_sink : ByteArray := prog_5_method_10_code
def yX3_sink : MethodName := ⟨RX3, "sink", "(LHandNews$Papers;LHandNews$Posts;)V"⟩
abbrev cX3_gap : ByteArray := prog_5_method_11_code
def yX3_gap : MethodName := ⟨RX3, "gap", "(LHandNews$Papers;LHandNews$Posts;I)I"⟩
def RX4 : String := "HandNews$Text"
def TX4 : u_T := fun k => match k with
  | 0 => ("HandNews$Text", "bytes", "[B", true)
  | _ => ("HandNews$Text", "length", "I", false)
def tyX4 : Nat → FieldType := fun k => match k with
  | 0 => .array .byte
  | _ => .int
abbrev wsX40 : List Cond := u_ws RX4 TX4 2
theorem nmX4 : ∀ a, a < 2 → ∀ b, b < 2 → a ≠ b → (TX4 a).2.1 ≠ (TX4 b).2.1 := by decide +kernel
theorem tyX4_ok : ∀ k, k < 2 → parseFieldDescriptor (TX4 k).2.2.1 = some (tyX4 k) := by decide +kernel
abbrev cX4_init : ByteArray := prog_6_method_1_code
def yX4_init : MethodName := ⟨RX4, "<init>", "()V"⟩
abbrev cX4_append : ByteArray := prog_6_method_2_code
def yX4_append : MethodName := ⟨RX4, "append", "(IJ)V"⟩
abbrev cX4_byteAt : ByteArray := prog_6_method_3_code
def yX4_byteAt : MethodName := ⟨RX4, "byteAt", "(I)I"⟩
def RX5 : String := "HandNews$Tree"
def TX5 : u_T := fun k => match k with
  | 0 => ("HandNews$Tree", "source", "[I", true)
  | 1 => ("HandNews$Tree", "root", "[I", true)
  | _ => ("HandNews$Tree", "copies", "[I", true)
def tyX5 : Nat → FieldType := fun k => match k with
  | 0 => .array .int
  | 1 => .array .int
  | _ => .array .int
abbrev wsX50 : List Cond := u_ws RX5 TX5 3
theorem nmX5 : ∀ a, a < 3 → ∀ b, b < 3 → a ≠ b → (TX5 a).2.1 ≠ (TX5 b).2.1 := by decide +kernel
theorem tyX5_ok : ∀ k, k < 3 → parseFieldDescriptor (TX5 k).2.2.1 = some (tyX5 k) := by decide +kernel
abbrev cX5_init : ByteArray := prog_7_method_1_code
def yX5_init : MethodName := ⟨RX5, "<init>", "()V"⟩
abbrev cX5_isVoice : ByteArray := prog_7_method_2_code
def yX5_isVoice : MethodName := ⟨RX5, "isVoice", "(I)Z"⟩
abbrev cX5_grow : ByteArray := prog_7_method_3_code
def yX5_grow : MethodName := ⟨RX5, "grow", "(LHandNews$Papers;LHandNews$Posts;LHandNews$Spans;I)V"⟩
abbrev cX5_nearest : ByteArray := prog_7_method_4_code
def yX5_nearest : MethodName := ⟨RX5, "nearest", "(LHandNews$Papers;LHandNews$Posts;LHandNews$Spans;II)I"⟩
abbrev cX5_couldCopy : ByteArray := prog_7_method_5_code
def yX5_couldCopy : MethodName := ⟨RX5, "couldCopy", "(LHandNews$Papers;LHandNews$Posts;LHandNews$Spans;II)Z"⟩
abbrev cX5_climb : ByteArray := prog_7_method_6_code
def yX5_climb : MethodName := ⟨RX5, "climb", "(I)V"⟩
def RX6 : String := "HandNews$Worths"
def TX6 : u_T := fun k => match k with
  | _ => ("HandNews$Worths", "worthOf", "[I", true)
def tyX6 : Nat → FieldType := fun k => match k with
  | _ => .array .int
abbrev wsX60 : List Cond := u_ws RX6 TX6 1
theorem nmX6 : ∀ a, a < 1 → ∀ b, b < 1 → a ≠ b → (TX6 a).2.1 ≠ (TX6 b).2.1 := by decide +kernel
theorem tyX6_ok : ∀ k, k < 1 → parseFieldDescriptor (TX6 k).2.2.1 = some (tyX6 k) := by decide +kernel
abbrev cX6_init : ByteArray := prog_8_method_1_code
def yX6_init : MethodName := ⟨RX6, "<init>", "()V"⟩
abbrev cX6_put : ByteArray := prog_8_method_2_code
def yX6_put : MethodName := ⟨RX6, "put", "(III)I"⟩
abbrev cX6_safest : ByteArray := prog_8_method_3_code
def yX6_safest : MethodName := ⟨RX6, "safest", "(II)I"⟩
abbrev cX6_leastOf : ByteArray := prog_8_method_4_code
def yX6_leastOf : MethodName := ⟨RX6, "leastOf", "(II)I"⟩
abbrev cX6_calmest : ByteArray := prog_8_method_5_code
def yX6_calmest : MethodName := ⟨RX6, "calmest", "(II)I"⟩
abbrev cX6_regretOf : ByteArray := prog_8_method_6_code
def yX6_regretOf : MethodName := ⟨RX6, "regretOf", "(III)I"⟩
abbrev cX6_bestOf : ByteArray := prog_8_method_7_code
def yX6_bestOf : MethodName := ⟨RX6, "bestOf", "(II)I"⟩
def RX7 : String := "HandNews"
def TX7 : u_T := fun k => match k with
  | 0 => ("HandNews", "posts", "LHandNews$Posts;", true)
  | 1 => ("HandNews", "papers", "LHandNews$Papers;", true)
  | 2 => ("HandNews", "kept", "[LHandNews$Papers;", true)
  | 3 => ("HandNews", "spans", "LHandNews$Spans;", true)
  | 4 => ("HandNews", "tree", "LHandNews$Tree;", true)
  | 5 => ("HandNews", "text", "LHandNews$Text;", true)
  | 6 => ("HandNews", "worths", "LHandNews$Worths;", true)
  | 7 => ("HandNews", "inForce", "LHandNews$Items;", false)
  | 8 => ("HandNews", "spare", "LHandNews$Items;", false)
  | 9 => ("HandNews", "keptCount", "I", false)
  | 10 => ("HandNews", "ownLimit", "I", false)
  | 11 => ("HandNews", "closetTown", "I", false)
  | _ => ("HandNews", "settled", "Z", false)
def tyX7 : Nat → FieldType := fun k => match k with
  | 0 => .object "HandNews$Posts"
  | 1 => .object "HandNews$Papers"
  | 2 => .array (.object "HandNews$Papers")
  | 3 => .object "HandNews$Spans"
  | 4 => .object "HandNews$Tree"
  | 5 => .object "HandNews$Text"
  | 6 => .object "HandNews$Worths"
  | 7 => .object "HandNews$Items"
  | 8 => .object "HandNews$Items"
  | 9 => .int
  | 10 => .int
  | 11 => .int
  | _ => .boolean
abbrev wsX70 : List Cond := u_ws RX7 TX7 13
theorem nmX7 : ∀ a, a < 13 → ∀ b, b < 13 → a ≠ b → (TX7 a).2.1 ≠ (TX7 b).2.1 := by decide +kernel
theorem tyX7_ok : ∀ k, k < 13 → parseFieldDescriptor (TX7 k).2.2.1 = some (tyX7 k) := by decide +kernel
abbrev cX7_init : ByteArray := prog_1_method_1_code
def yX7_init : MethodName := ⟨RX7, "<init>", "()V"⟩
abbrev cX7_post : ByteArray := prog_1_method_2_code
def yX7_post : MethodName := ⟨RX7, "post", "(IIII)I"⟩
abbrev cX7_way : ByteArray := prog_1_method_3_code
def yX7_way : MethodName := ⟨RX7, "way", "(II)I"⟩
abbrev cX7_slow : ByteArray := prog_1_method_4_code
def yX7_slow : MethodName := ⟨RX7, "slow", "(II)I"⟩
abbrev cX7_sheet : ByteArray := prog_1_method_5_code
def yX7_sheet : MethodName := ⟨RX7, "sheet", "(III)I"⟩
abbrev cX7_dated : ByteArray := prog_1_method_6_code
def yX7_dated : MethodName := ⟨RX7, "dated", "(II)I"⟩
abbrev cX7_behind : ByteArray := prog_1_method_7_code
def yX7_behind : MethodName := ⟨RX7, "behind", "(II)I"⟩
abbrev cX7_happened : ByteArray := prog_1_method_8_code
def yX7_happened : MethodName := ⟨RX7, "happened", "(III)I"⟩
abbrev cX7_span : ByteArray := prog_1_method_9_code
def yX7_span : MethodName := ⟨RX7, "span", "(II)I"⟩
abbrev cX7_ahead : ByteArray := prog_1_method_10_code
def yX7_ahead : MethodName := ⟨RX7, "ahead", "(II)I"⟩
abbrev cX7_say : ByteArray := prog_1_method_11_code
def yX7_say : MethodName := ⟨RX7, "say", "(IIIIZZ)I"⟩
abbrev cX7_change : ByteArray := prog_1_method_12_code
def yX7_change : MethodName := ⟨RX7, "change", "(II)I"⟩
abbrev cX7_own : ByteArray := prog_1_method_13_code
def yX7_own : MethodName := ⟨RX7, "own", "(I)I"⟩
abbrev cX7_from : ByteArray := prog_1_method_14_code
def yX7_from : MethodName := ⟨RX7, "from", "(I)I"⟩
abbrev cX7_voice : ByteArray := prog_1_method_15_code
def yX7_voice : MethodName := ⟨RX7, "voice", "(II)I"⟩
abbrev cX7_voices : ByteArray := prog_1_method_16_code
def yX7_voices : MethodName := ⟨RX7, "voices", "(IZ)I"⟩
abbrev cX7_grew : ByteArray := prog_1_method_17_code
def yX7_grew : MethodName := ⟨RX7, "grew", "(I)I"⟩
abbrev cX7_habit : ByteArray := prog_1_method_18_code
def yX7_habit : MethodName := ⟨RX7, "habit", "(I)I"⟩
abbrev cX7_write : ByteArray := prog_1_method_19_code
def yX7_write : MethodName := ⟨RX7, "write", "(IJ)I"⟩
abbrev cX7_wipe : ByteArray := prog_1_method_20_code
def yX7_wipe : MethodName := ⟨RX7, "wipe", "()I"⟩
abbrev cX7_fault : ByteArray := prog_1_method_21_code
def yX7_fault : MethodName := ⟨RX7, "fault", "()I"⟩
abbrev cX7_force : ByteArray := prog_1_method_22_code
def yX7_force : MethodName := ⟨RX7, "force", "()I"⟩
abbrev cX7_rule : ByteArray := prog_1_method_23_code
def yX7_rule : MethodName := ⟨RX7, "rule", "(III)I"⟩
abbrev cX7_why : ByteArray := prog_1_method_24_code
def yX7_why : MethodName := ⟨RX7, "why", "(III)I"⟩
abbrev cX7_quarrel : ByteArray := prog_1_method_25_code
def yX7_quarrel : MethodName := ⟨RX7, "quarrel", "()I"⟩
abbrev cX7_closet : ByteArray := prog_1_method_26_code
def yX7_closet : MethodName := ⟨RX7, "closet", "(I)I"⟩
abbrev cX7_came : ByteArray := prog_1_method_27_code
def yX7_came : MethodName := ⟨RX7, "came", "(I)I"⟩
abbrev cX7_belief : ByteArray := prog_1_method_28_code
def yX7_belief : MethodName := ⟨RX7, "belief", "(III)I"⟩
abbrev cX7_banned : ByteArray := prog_1_method_29_code
def yX7_banned : MethodName := ⟨RX7, "banned", "(I)I"⟩
abbrev cX7_truth : ByteArray := prog_1_method_30_code
def yX7_truth : MethodName := ⟨RX7, "truth", "(II)I"⟩
abbrev cX7_right : ByteArray := prog_1_method_31_code
def yX7_right : MethodName := ⟨RX7, "right", "(II)I"⟩
abbrev cX7_beyond : ByteArray := prog_1_method_32_code
def yX7_beyond : MethodName := ⟨RX7, "beyond", "(III)J"⟩
abbrev cX7_known : ByteArray := prog_1_method_33_code
def yX7_known : MethodName := ⟨RX7, "known", "(III)I"⟩
abbrev cX7_worth : ByteArray := prog_1_method_34_code
def yX7_worth : MethodName := ⟨RX7, "worth", "(III)I"⟩
abbrev cX7_buy : ByteArray := prog_1_method_35_code
def yX7_buy : MethodName := ⟨RX7, "buy", "(III)I"⟩
abbrev cX7_keep : ByteArray := prog_1_method_36_code
def yX7_keep : MethodName := ⟨RX7, "keep", "()I"⟩
abbrev cX7_back : ByteArray := prog_1_method_37_code
def yX7_back : MethodName := ⟨RX7, "back", "()I"⟩
abbrev cX7_count : ByteArray := prog_1_method_38_code
def yX7_count : MethodName := ⟨RX7, "count", "(I)I"⟩
abbrev cX7_isTown : ByteArray := prog_1_method_39_code
def yX7_isTown : MethodName := ⟨RX7, "isTown", "(I)Z"⟩
abbrev cX7_isWriter : ByteArray := prog_1_method_40_code
def yX7_isWriter : MethodName := ⟨RX7, "isWriter", "(I)Z"⟩
abbrev cX7_isThing : ByteArray := prog_1_method_41_code
def yX7_isThing : MethodName := ⟨RX7, "isThing", "(I)Z"⟩
abbrev cX7_isDay : ByteArray := prog_1_method_42_code
def yX7_isDay : MethodName := ⟨RX7, "isDay", "(I)Z"⟩
abbrev cX7_isDayOrNone : ByteArray := prog_1_method_43_code
def yX7_isDayOrNone : MethodName := ⟨RX7, "isDayOrNone", "(I)Z"⟩
abbrev cX7_isSheet : ByteArray := prog_1_method_44_code
def yX7_isSheet : MethodName := ⟨RX7, "isSheet", "(I)Z"⟩
abbrev cX7_isSaying : ByteArray := prog_1_method_45_code
def yX7_isSaying : MethodName := ⟨RX7, "isSaying", "(I)Z"⟩
abbrev cX7_isRule : ByteArray := prog_1_method_46_code
def yX7_isRule : MethodName := ⟨RX7, "isRule", "(II)Z"⟩
abbrev cX7_isIn : ByteArray := prog_1_method_47_code
def yX7_isIn : MethodName := ⟨RX7, "isIn", "(II)Z"⟩
abbrev cX7_with : ByteArray := prog_1_method_48_code
def yX7_with : MethodName := ⟨RX7, "with", "(IIZ)I"⟩
abbrev cX7_toldIn : ByteArray := prog_1_method_49_code
def yX7_toldIn : MethodName := ⟨RX7, "toldIn", "([I)I"⟩
abbrev cX7_isQuarrel : ByteArray := prog_1_method_50_code
def yX7_isQuarrel : MethodName := ⟨RX7, "isQuarrel", "()Z"⟩
abbrev cX7_reachesAllThatSay : ByteArray := prog_1_method_51_code
def yX7_reachesAllThatSay : MethodName := ⟨RX7, "reachesAllThatSay", "(II)Z"⟩
abbrev cX7_followers : ByteArray := prog_1_method_52_code
def yX7_followers : MethodName := ⟨RX7, "followers", "(I)I"⟩
abbrev cX7_growth : ByteArray := prog_1_method_53_code
def yX7_growth : MethodName := ⟨RX7, "growth", "(I)I"⟩
abbrev cX7_arrival : ByteArray := prog_1_method_54_code
def yX7_arrival : MethodName := ⟨RX7, "arrival", "(I)I"⟩
abbrev cX7_weightOf : ByteArray := prog_1_method_55_code
def yX7_weightOf : MethodName := ⟨RX7, "weightOf", "(II)I"⟩
abbrev cX7_voicesHeard : ByteArray := prog_1_method_56_code
def yX7_voicesHeard : MethodName := ⟨RX7, "voicesHeard", "(II)I"⟩
abbrev cX7_weightOfVoice : ByteArray := prog_1_method_57_code
def yX7_weightOfVoice : MethodName := ⟨RX7, "weightOfVoice", "(II)I"⟩
abbrev cX7_isForbidden : ByteArray := prog_1_method_58_code
def yX7_isForbidden : MethodName := ⟨RX7, "isForbidden", "(I)Z"⟩
abbrev cX7_isTried : ByteArray := prog_1_method_59_code
def yX7_isTried : MethodName := ⟨RX7, "isTried", "(I)Z"⟩
abbrev cX7_outcome : ByteArray := prog_1_method_60_code
def yX7_outcome : MethodName := ⟨RX7, "outcome", "(II)I"⟩
abbrev cX7_choices : ByteArray := prog_1_method_61_code
def yX7_choices : MethodName := ⟨RX7, "choices", "(II)J"⟩
abbrev cX7_power : ByteArray := prog_1_method_62_code
def yX7_power : MethodName := ⟨RX7, "power", "(II)J"⟩
abbrev cX7_firstKnown : ByteArray := prog_1_method_63_code
def yX7_firstKnown : MethodName := ⟨RX7, "firstKnown", "(II)I"⟩
abbrev cX7_lagBehind : ByteArray := prog_1_method_64_code
def yX7_lagBehind : MethodName := ⟨RX7, "lagBehind", "(II)I"⟩
def RX8 : String := "HandNewsModel"
def TX8 : u_T := fun k => match k with
  | 0 => ("HandNewsModel", "least", "[I", true)
  | 1 => ("HandNewsModel", "most", "[I", true)
  | 2 => ("HandNewsModel", "ways", "[I", true)
  | 3 => ("HandNewsModel", "sheetMany", "[I", true)
  | 4 => ("HandNewsModel", "sheets", "[I", true)
  | 5 => ("HandNewsModel", "behindMany", "[I", true)
  | 6 => ("HandNewsModel", "behinds", "[I", true)
  | 7 => ("HandNewsModel", "sayingMany", "[I", true)
  | 8 => ("HandNewsModel", "sayings", "[I", true)
  | 9 => ("HandNewsModel", "events", "[I", true)
  | 10 => ("HandNewsModel", "truths", "[I", true)
  | 11 => ("HandNewsModel", "keptMany", "I", false)
  | 12 => ("HandNewsModel", "own", "I", false)
  | 13 => ("HandNewsModel", "closet", "I", false)
  | 14 => ("HandNewsModel", "length", "I", false)
  | 15 => ("HandNewsModel", "text", "[I", true)
  | 16 => ("HandNewsModel", "itemMany", "[I", true)
  | 17 => ("HandNewsModel", "items", "[I", true)
  | 18 => ("HandNewsModel", "worths", "[I", true)
  | 19 => ("HandNewsModel", "slows", "[I", true)
  | 20 => ("HandNewsModel", "first", "[I", true)
  | 21 => ("HandNewsModel", "last", "[I", true)
  | 22 => ("HandNewsModel", "moves", "Z", false)
  | 23 => ("HandNewsModel", "source", "[I", true)
  | 24 => ("HandNewsModel", "at", "I", false)
  | _ => ("HandNewsModel", "told", "[I", true)
def tyX8 : Nat → FieldType := fun k => match k with
  | 0 => .array .int
  | 1 => .array .int
  | 2 => .array .int
  | 3 => .array .int
  | 4 => .array .int
  | 5 => .array .int
  | 6 => .array .int
  | 7 => .array .int
  | 8 => .array .int
  | 9 => .array .int
  | 10 => .array .int
  | 11 => .int
  | 12 => .int
  | 13 => .int
  | 14 => .int
  | 15 => .array .int
  | 16 => .array .int
  | 17 => .array .int
  | 18 => .array .int
  | 19 => .array .int
  | 20 => .array .int
  | 21 => .array .int
  | 22 => .boolean
  | 23 => .array .int
  | 24 => .int
  | _ => .array .int
abbrev wsX80 : List Cond := u_ws RX8 TX8 26
theorem nmX8 : ∀ a, a < 26 → ∀ b, b < 26 → a ≠ b → (TX8 a).2.1 ≠ (TX8 b).2.1 := by decide +kernel
theorem tyX8_ok : ∀ k, k < 26 → parseFieldDescriptor (TX8 k).2.2.1 = some (tyX8 k) := by decide +kernel
abbrev cX8_init : ByteArray := prog_10_method_1_code
def yX8_init : MethodName := ⟨RX8, "<init>", "()V"⟩
abbrev cX8_in : ByteArray := prog_10_method_2_code
def yX8_in : MethodName := ⟨RX8, "in", "(JJJ)Z"⟩
abbrev cX8_isTown : ByteArray := prog_10_method_3_code
def yX8_isTown : MethodName := ⟨RX8, "isTown", "(I)Z"⟩
abbrev cX8_isDay : ByteArray := prog_10_method_4_code
def yX8_isDay : MethodName := ⟨RX8, "isDay", "(I)Z"⟩
abbrev cX8_isThing : ByteArray := prog_10_method_5_code
def yX8_isThing : MethodName := ⟨RX8, "isThing", "(I)Z"⟩
abbrev cX8_isSheet : ByteArray := prog_10_method_6_code
def yX8_isSheet : MethodName := ⟨RX8, "isSheet", "(I)Z"⟩
abbrev cX8_isSaying : ByteArray := prog_10_method_7_code
def yX8_isSaying : MethodName := ⟨RX8, "isSaying", "(I)Z"⟩
abbrev cX8_layWays : ByteArray := prog_10_method_8_code
def yX8_layWays : MethodName := ⟨RX8, "layWays", "()V"⟩
abbrev cX8_post : ByteArray := prog_10_method_9_code
def yX8_post : MethodName := ⟨RX8, "post", "(IIII)I"⟩
abbrev cX8_way : ByteArray := prog_10_method_10_code
def yX8_way : MethodName := ⟨RX8, "way", "(II)I"⟩
abbrev cX8_slow : ByteArray := prog_10_method_11_code
def yX8_slow : MethodName := ⟨RX8, "slow", "(II)I"⟩
abbrev cX8_sheet : ByteArray := prog_10_method_12_code
def yX8_sheet : MethodName := ⟨RX8, "sheet", "(III)I"⟩
abbrev cX8_dated : ByteArray := prog_10_method_13_code
def yX8_dated : MethodName := ⟨RX8, "dated", "(II)I"⟩
abbrev cX8_wayOf : ByteArray := prog_10_method_14_code
def yX8_wayOf : MethodName := ⟨RX8, "wayOf", "(II)I"⟩
abbrev cX8_behind : ByteArray := prog_10_method_15_code
def yX8_behind : MethodName := ⟨RX8, "behind", "(II)I"⟩
abbrev cX8_happened : ByteArray := prog_10_method_16_code
def yX8_happened : MethodName := ⟨RX8, "happened", "(III)I"⟩
abbrev cX8_push : ByteArray := prog_10_method_17_code
def yX8_push : MethodName := ⟨RX8, "push", "(III)V"⟩
abbrev cX8_isLet : ByteArray := prog_10_method_18_code
def yX8_isLet : MethodName := ⟨RX8, "isLet", "()Z"⟩
abbrev cX8_layDays : ByteArray := prog_10_method_19_code
def yX8_layDays : MethodName := ⟨RX8, "layDays", "(II)Z"⟩
abbrev cX8_areDays : ByteArray := prog_10_method_20_code
def yX8_areDays : MethodName := ⟨RX8, "areDays", "()Z"⟩
abbrev cX8_span : ByteArray := prog_10_method_21_code
def yX8_span : MethodName := ⟨RX8, "span", "(II)I"⟩
abbrev cX8_ahead : ByteArray := prog_10_method_22_code
def yX8_ahead : MethodName := ⟨RX8, "ahead", "(II)I"⟩
abbrev cX8_say : ByteArray := prog_10_method_23_code
def yX8_say : MethodName := ⟨RX8, "say", "(IIIIZZ)I"⟩
abbrev cX8_changeOf : ByteArray := prog_10_method_24_code
def yX8_changeOf : MethodName := ⟨RX8, "changeOf", "(II)I"⟩
abbrev cX8_change : ByteArray := prog_10_method_25_code
def yX8_change : MethodName := ⟨RX8, "change", "(II)I"⟩
abbrev cX8_own : ByteArray := prog_10_method_26_code
def yX8_own : MethodName := ⟨RX8, "own", "(I)I"⟩
abbrev cX8_couldCopy : ByteArray := prog_10_method_27_code
def yX8_couldCopy : MethodName := ⟨RX8, "couldCopy", "(II)Z"⟩
abbrev cX8_layTree : ByteArray := prog_10_method_28_code
def yX8_layTree : MethodName := ⟨RX8, "layTree", "()Z"⟩
abbrev cX8_from : ByteArray := prog_10_method_29_code
def yX8_from : MethodName := ⟨RX8, "from", "(I)I"⟩
abbrev cX8_rootOf : ByteArray := prog_10_method_30_code
def yX8_rootOf : MethodName := ⟨RX8, "rootOf", "(I)I"⟩
abbrev cX8_voice : ByteArray := prog_10_method_31_code
def yX8_voice : MethodName := ⟨RX8, "voice", "(II)I"⟩
abbrev cX8_voices : ByteArray := prog_10_method_32_code
def yX8_voices : MethodName := ⟨RX8, "voices", "(IZ)I"⟩
abbrev cX8_grewOf : ByteArray := prog_10_method_33_code
def yX8_grewOf : MethodName := ⟨RX8, "grewOf", "(I)I"⟩
abbrev cX8_grew : ByteArray := prog_10_method_34_code
def yX8_grew : MethodName := ⟨RX8, "grew", "(I)I"⟩
abbrev cX8_writerOf : ByteArray := prog_10_method_35_code
def yX8_writerOf : MethodName := ⟨RX8, "writerOf", "(I)I"⟩
abbrev cX8_habit : ByteArray := prog_10_method_36_code
def yX8_habit : MethodName := ⟨RX8, "habit", "(I)I"⟩
abbrev cX8_write : ByteArray := prog_10_method_37_code
def yX8_write : MethodName := ⟨RX8, "write", "(IJ)I"⟩
abbrev cX8_wipe : ByteArray := prog_10_method_38_code
def yX8_wipe : MethodName := ⟨RX8, "wipe", "()I"⟩
abbrev cX8_numbers : ByteArray := prog_10_method_39_code
def yX8_numbers : MethodName := ⟨RX8, "numbers", "(I)Z"⟩
abbrev cX8_item : ByteArray := prog_10_method_40_code
def yX8_item : MethodName := ⟨RX8, "item", "()Z"⟩
abbrev cX8_readAll : ByteArray := prog_10_method_41_code
def yX8_readAll : MethodName := ⟨RX8, "readAll", "()I"⟩
abbrev cX8_fault : ByteArray := prog_10_method_42_code
def yX8_fault : MethodName := ⟨RX8, "fault", "()I"⟩
abbrev cX8_force : ByteArray := prog_10_method_43_code
def yX8_force : MethodName := ⟨RX8, "force", "()I"⟩
abbrev cX8_letterOf : ByteArray := prog_10_method_44_code
def yX8_letterOf : MethodName := ⟨RX8, "letterOf", "(I)I"⟩
abbrev cX8_whyOf : ByteArray := prog_10_method_45_code
def yX8_whyOf : MethodName := ⟨RX8, "whyOf", "(III)I"⟩
abbrev cX8_ruleOf : ByteArray := prog_10_method_46_code
def yX8_ruleOf : MethodName := ⟨RX8, "ruleOf", "(III)I"⟩
abbrev cX8_isAsked : ByteArray := prog_10_method_47_code
def yX8_isAsked : MethodName := ⟨RX8, "isAsked", "(III)Z"⟩
abbrev cX8_rule : ByteArray := prog_10_method_48_code
def yX8_rule : MethodName := ⟨RX8, "rule", "(III)I"⟩
abbrev cX8_why : ByteArray := prog_10_method_49_code
def yX8_why : MethodName := ⟨RX8, "why", "(III)I"⟩
abbrev cX8_quarrel : ByteArray := prog_10_method_50_code
def yX8_quarrel : MethodName := ⟨RX8, "quarrel", "()I"⟩
abbrev cX8_closet : ByteArray := prog_10_method_51_code
def yX8_closet : MethodName := ⟨RX8, "closet", "(I)I"⟩
abbrev cX8_cameOf : ByteArray := prog_10_method_52_code
def yX8_cameOf : MethodName := ⟨RX8, "cameOf", "(I)I"⟩
abbrev cX8_came : ByteArray := prog_10_method_53_code
def yX8_came : MethodName := ⟨RX8, "came", "(I)I"⟩
abbrev cX8_isHeard : ByteArray := prog_10_method_54_code
def yX8_isHeard : MethodName := ⟨RX8, "isHeard", "(II)Z"⟩
abbrev cX8_belief : ByteArray := prog_10_method_55_code
def yX8_belief : MethodName := ⟨RX8, "belief", "(III)I"⟩
abbrev cX8_isBanned : ByteArray := prog_10_method_56_code
def yX8_isBanned : MethodName := ⟨RX8, "isBanned", "(I)Z"⟩
abbrev cX8_banned : ByteArray := prog_10_method_57_code
def yX8_banned : MethodName := ⟨RX8, "banned", "(I)I"⟩
abbrev cX8_truth : ByteArray := prog_10_method_58_code
def yX8_truth : MethodName := ⟨RX8, "truth", "(II)I"⟩
abbrev cX8_right : ByteArray := prog_10_method_59_code
def yX8_right : MethodName := ⟨RX8, "right", "(II)I"⟩
abbrev cX8_beyond : ByteArray := prog_10_method_60_code
def yX8_beyond : MethodName := ⟨RX8, "beyond", "(III)J"⟩
abbrev cX8_knownIn : ByteArray := prog_10_method_61_code
def yX8_knownIn : MethodName := ⟨RX8, "knownIn", "(II)I"⟩
abbrev cX8_known : ByteArray := prog_10_method_62_code
def yX8_known : MethodName := ⟨RX8, "known", "(III)I"⟩
abbrev cX8_worth : ByteArray := prog_10_method_63_code
def yX8_worth : MethodName := ⟨RX8, "worth", "(III)I"⟩
abbrev cX8_buy : ByteArray := prog_10_method_64_code
def yX8_buy : MethodName := ⟨RX8, "buy", "(III)I"⟩
abbrev cX8_copy : ByteArray := prog_10_method_65_code
def yX8_copy : MethodName := ⟨RX8, "copy", "(II)V"⟩
abbrev cX8_keep : ByteArray := prog_10_method_66_code
def yX8_keep : MethodName := ⟨RX8, "keep", "()I"⟩
abbrev cX8_back : ByteArray := prog_10_method_67_code
def yX8_back : MethodName := ⟨RX8, "back", "()I"⟩
abbrev cX8_count : ByteArray := prog_10_method_68_code
def yX8_count : MethodName := ⟨RX8, "count", "(I)I"⟩
def RJ6 : String := "java/lang/Integer"
def TJ6 : u_T := fun k => match k with
  | _ => ("", "", "", false)
def tyJ6 : Nat → FieldType := fun k => match k with
  | _ => .int
abbrev cJ6_bitCount_0f7a4 : ByteArray := prog_11_method_49_code
def yJ6_bitCount_0f7a4 : MethodName := ⟨RJ6, "bitCount", "(I)I"⟩
def RJ9 : String := "java/lang/Math"
def TJ9 : u_T := fun k => match k with
  | _ => ("", "", "", false)
def tyJ9 : Nat → FieldType := fun k => match k with
  | _ => .int
abbrev cJ9_abs_0f7a4 : ByteArray := prog_12_method_59_code
def yJ9_abs_0f7a4 : MethodName := ⟨RJ9, "abs", "(I)I"⟩
abbrev cJ9_max_7cf53 : ByteArray := prog_12_method_65_code
def yJ9_max_7cf53 : MethodName := ⟨RJ9, "max", "(II)I"⟩
abbrev cJ9_min_7cf53 : ByteArray := prog_12_method_69_code
def yJ9_min_7cf53 : MethodName := ⟨RJ9, "min", "(II)I"⟩
def RJ0 : String := "java/lang/String"
def TJ0 : u_T := fun k => match k with
  | _ => ("", "", "", false)
def tyJ0 : Nat → FieldType := fun k => match k with
  | _ => .int
abbrev cJ0_length_8abf5 : ByteArray := prog_13_method_54_code
def yJ0_length_8abf5 : MethodName := ⟨RJ0, "length", "()I"⟩
abbrev cJ0_charAt_5068e : ByteArray := prog_13_method_56_code
def yJ0_charAt_5068e : MethodName := ⟨RJ0, "charAt", "(I)C"⟩
abbrev cJ0_coder_7d493 : ByteArray := prog_13_method_152_code
def yJ0_coder_7d493 : MethodName := ⟨RJ0, "coder", "()B"⟩
abbrev cJ0_isLatin1_aae02 : ByteArray := prog_13_method_154_code
def yJ0_isLatin1_aae02 : MethodName := ⟨RJ0, "isLatin1", "()Z"⟩
abbrev cJ0_checkIndex_df160 : ByteArray := prog_13_method_155_code
def yJ0_checkIndex_df160 : MethodName := ⟨RJ0, "checkIndex", "(II)V"⟩
def RJ1 : String := "java/lang/StringLatin1"
def TJ1 : u_T := fun k => match k with
  | _ => ("", "", "", false)
def tyJ1 : Nat → FieldType := fun k => match k with
  | _ => .int
abbrev cJ1_charAt_3b067 : ByteArray := prog_14_method_2_code
def yJ1_charAt_3b067 : MethodName := ⟨RJ1, "charAt", "([BI)C"⟩
def RJ2 : String := "java/lang/StringUTF16"
def TJ2 : u_T := fun k => match k with
  | _ => ("", "", "", false)
def tyJ2 : Nat → FieldType := fun k => match k with
  | _ => .int
abbrev cJ2_getChar_3b067 : ByteArray := prog_15_method_5_code
def yJ2_getChar_3b067 : MethodName := ⟨RJ2, "getChar", "([BI)C"⟩
abbrev cJ2_length_9d52b : ByteArray := prog_15_method_6_code
def yJ2_length_9d52b : MethodName := ⟨RJ2, "length", "([B)I"⟩
abbrev cJ2_charAt_3b067 : ByteArray := prog_15_method_83_code
def yJ2_charAt_3b067 : MethodName := ⟨RJ2, "charAt", "([BI)C"⟩
abbrev cJ2_checkIndex_2214a : ByteArray := prog_15_method_91_code
def yJ2_checkIndex_2214a : MethodName := ⟨RJ2, "checkIndex", "(I[B)V"⟩
def RJ10 : String := "java/lang/System"
def TJ10 : u_T := fun k => match k with
  | _ => ("", "", "", false)
def tyJ10 : Nat → FieldType := fun k => match k with
  | _ => .int
def RJ7 : String := "java/util/Arrays"
def TJ7 : u_T := fun k => match k with
  | _ => ("", "", "", false)
def tyJ7 : Nat → FieldType := fun k => match k with
  | _ => .int
abbrev cJ7_fill_53178 : ByteArray := prog_17_method_103_code
def yJ7_fill_53178 : MethodName := ⟨RJ7, "fill", "([II)V"⟩
def RJ3 : String := "jdk/internal/util/Preconditions"
def TJ3 : u_T := fun k => match k with
  | _ => ("", "", "", false)
def tyJ3 : Nat → FieldType := fun k => match k with
  | _ => .int
abbrev cJ3_checkIndex_8e157 : ByteArray := prog_18_method_11_code
def yJ3_checkIndex_8e157 : MethodName := ⟨RJ3, "checkIndex", "(IILjava/util/function/BiFunction;)I"⟩
def RL : String := "HandNewsLaw"
abbrev cL_law : ByteArray := code
def yL_law : MethodName := ⟨RL, "law", "([I)Z"⟩
abbrev vwCl : List vw_C := [(RX0, TX0, 8), (RX1, TX1, 17), (RX2, TX2, 5), (RX3, TX3, 4), (RX4, TX4, 2), (RX5, TX5, 3), (RX6, TX6, 1), (RX7, TX7, 13), (RX8, TX8, 26)]
end
section
theorem dX0_init_0 : decode cX0_init 0 = .ok (.aload_n 0, 1) := by decide +kernel
theorem dX0_init_1 : decode cX0_init 1 = .ok (.invokespecial 3, 3) := by decide +kernel
theorem dX0_init_4 : decode cX0_init 4 = .ok (.aload_n 0, 1) := by decide +kernel
theorem dX0_init_5 : decode cX0_init 5 = .ok (.bipush 40, 2) := by decide +kernel
theorem dX0_init_7 : decode cX0_init 7 = .ok (.newarray .int, 2) := by decide +kernel
theorem dX0_init_9 : decode cX0_init 9 = .ok (.putfield 11, 3) := by decide +kernel
theorem dX0_init_12 : decode cX0_init 12 = .ok (.aload_n 0, 1) := by decide +kernel
theorem dX0_init_13 : decode cX0_init 13 = .ok (.bipush 40, 2) := by decide +kernel
theorem dX0_init_15 : decode cX0_init 15 = .ok (.newarray .int, 2) := by decide +kernel
theorem dX0_init_17 : decode cX0_init 17 = .ok (.putfield 15, 3) := by decide +kernel
theorem dX0_init_20 : decode cX0_init 20 = .ok (.aload_n 0, 1) := by decide +kernel
theorem dX0_init_21 : decode cX0_init 21 = .ok (.bipush 40, 2) := by decide +kernel
theorem dX0_init_23 : decode cX0_init 23 = .ok (.newarray .int, 2) := by decide +kernel
theorem dX0_init_25 : decode cX0_init 25 = .ok (.putfield 18, 3) := by decide +kernel
theorem dX0_init_28 : decode cX0_init 28 = .ok (.aload_n 0, 1) := by decide +kernel
theorem dX0_init_29 : decode cX0_init 29 = .ok (.bipush 40, 2) := by decide +kernel
theorem dX0_init_31 : decode cX0_init 31 = .ok (.newarray .int, 2) := by decide +kernel
theorem dX0_init_33 : decode cX0_init 33 = .ok (.putfield 21, 3) := by decide +kernel
theorem dX0_init_36 : decode cX0_init 36 = .ok (.aload_n 0, 1) := by decide +kernel
theorem dX0_init_37 : decode cX0_init 37 = .ok (.bipush 40, 2) := by decide +kernel
theorem dX0_init_39 : decode cX0_init 39 = .ok (.newarray .int, 2) := by decide +kernel
theorem dX0_init_41 : decode cX0_init 41 = .ok (.putfield 24, 3) := by decide +kernel
theorem dX0_init_44 : decode cX0_init 44 = .ok (.aload_n 0, 1) := by decide +kernel
theorem dX0_init_45 : decode cX0_init 45 = .ok (.iconst 4, 1) := by decide +kernel
theorem dX0_init_46 : decode cX0_init 46 = .ok (.newarray .int, 2) := by decide +kernel
theorem dX0_init_48 : decode cX0_init 48 = .ok (.putfield 27, 3) := by decide +kernel
theorem dX0_init_51 : decode cX0_init 51 = .ok (.aload_n 0, 1) := by decide +kernel
theorem dX0_init_52 : decode cX0_init 52 = .ok (.iconst 0, 1) := by decide +kernel
theorem dX0_init_53 : decode cX0_init 53 = .ok (.putfield 30, 3) := by decide +kernel
theorem dX0_init_56 : decode cX0_init 56 = .ok (.aload_n 0, 1) := by decide +kernel
theorem dX0_init_57 : decode cX0_init 57 = .ok (.iconst 0, 1) := by decide +kernel
theorem dX0_init_58 : decode cX0_init 58 = .ok (.putfield 34, 3) := by decide +kernel
theorem dX0_init_61 : decode cX0_init 61 = .ok (.return_, 1) := by decide +kernel
theorem dX0_read_0 : decode cX0_read 0 = .ok (.aload_n 0, 1) := by decide +kernel
theorem dX0_read_1 : decode cX0_read 1 = .ok (.iconst 0, 1) := by decide +kernel
theorem dX0_read_2 : decode cX0_read 2 = .ok (.putfield 30, 3) := by decide +kernel
theorem dX0_read_5 : decode cX0_read 5 = .ok (.aload_n 0, 1) := by decide +kernel
theorem dX0_read_6 : decode cX0_read 6 = .ok (.iconst 0, 1) := by decide +kernel
theorem dX0_read_7 : decode cX0_read 7 = .ok (.putfield 34, 3) := by decide +kernel
theorem dX0_read_10 : decode cX0_read 10 = .ok (.aload_n 0, 1) := by decide +kernel
theorem dX0_read_11 : decode cX0_read 11 = .ok (.getfield 34, 3) := by decide +kernel
theorem dX0_read_14 : decode cX0_read 14 = .ok (.aload_n 1, 1) := by decide +kernel
theorem dX0_read_15 : decode cX0_read 15 = .ok (.getfield 37, 3) := by decide +kernel
theorem dX0_read_18 : decode cX0_read 18 = .ok (.if_icmp .ge 40, 3) := by decide +kernel
theorem dX0_read_21 : decode cX0_read 21 = .ok (.aload_n 0, 1) := by decide +kernel
theorem dX0_read_22 : decode cX0_read 22 = .ok (.getfield 30, 3) := by decide +kernel
theorem dX0_read_25 : decode cX0_read 25 = .ok (.bipush 40, 2) := by decide +kernel
theorem dX0_read_27 : decode cX0_read 27 = .ok (.if_icmp .ge 31, 3) := by decide +kernel
theorem dX0_read_30 : decode cX0_read 30 = .ok (.aload_n 0, 1) := by decide +kernel
theorem dX0_read_31 : decode cX0_read 31 = .ok (.getfield 34, 3) := by decide +kernel
theorem dX0_read_34 : decode cX0_read 34 = .ok (.istore_n 2, 1) := by decide +kernel
theorem dX0_read_35 : decode cX0_read 35 = .ok (.aload_n 0, 1) := by decide +kernel
theorem dX0_read_36 : decode cX0_read 36 = .ok (.aload_n 1, 1) := by decide +kernel
theorem dX0_read_37 : decode cX0_read 37 = .ok (.invokevirtual 42, 3) := by decide +kernel
theorem dX0_read_40 : decode cX0_read 40 = .ok (.ifCond .ne 5, 3) := by decide +kernel
theorem dX0_read_43 : decode cX0_read 43 = .ok (.iload_n 2, 1) := by decide +kernel
theorem dX0_read_44 : decode cX0_read 44 = .ok (.ireturn, 1) := by decide +kernel
theorem dX0_read_45 : decode cX0_read 45 = .ok (.aload_n 0, 1) := by decide +kernel
theorem dX0_read_46 : decode cX0_read 46 = .ok (.dup, 1) := by decide +kernel
theorem dX0_read_47 : decode cX0_read 47 = .ok (.getfield 30, 3) := by decide +kernel
theorem dX0_read_50 : decode cX0_read 50 = .ok (.iconst 1, 1) := by decide +kernel
theorem dX0_read_51 : decode cX0_read 51 = .ok (.iadd, 1) := by decide +kernel
theorem dX0_read_52 : decode cX0_read 52 = .ok (.putfield 30, 3) := by decide +kernel
theorem dX0_read_55 : decode cX0_read 55 = .ok (.goto (-45), 3) := by decide +kernel
theorem dX0_read_58 : decode cX0_read 58 = .ok (.aload_n 0, 1) := by decide +kernel
theorem dX0_read_59 : decode cX0_read 59 = .ok (.getfield 34, 3) := by decide +kernel
theorem dX0_read_62 : decode cX0_read 62 = .ok (.aload_n 1, 1) := by decide +kernel
theorem dX0_read_63 : decode cX0_read 63 = .ok (.getfield 37, 3) := by decide +kernel
theorem dX0_read_66 : decode cX0_read 66 = .ok (.if_icmp .ge 10, 3) := by decide +kernel
theorem dX0_read_69 : decode cX0_read 69 = .ok (.aload_n 0, 1) := by decide +kernel
theorem dX0_read_70 : decode cX0_read 70 = .ok (.getfield 34, 3) := by decide +kernel
theorem dX0_read_73 : decode cX0_read 73 = .ok (.goto 5, 3) := by decide +kernel
theorem dX0_read_76 : decode cX0_read 76 = .ok (.bipush (-4), 2) := by decide +kernel
theorem dX0_read_78 : decode cX0_read 78 = .ok (.ireturn, 1) := by decide +kernel
theorem dX0_readItem_0 : decode cX0_readItem 0 = .ok (.aload_n 1, 1) := by decide +kernel
theorem dX0_readItem_1 : decode cX0_readItem 1 = .ok (.aload_n 0, 1) := by decide +kernel
theorem dX0_readItem_2 : decode cX0_readItem 2 = .ok (.getfield 34, 3) := by decide +kernel
theorem dX0_readItem_5 : decode cX0_readItem 5 = .ok (.invokevirtual 46, 3) := by decide +kernel
theorem dX0_readItem_8 : decode cX0_readItem 8 = .ok (.invokestatic 50, 3) := by decide +kernel
theorem dX0_readItem_11 : decode cX0_readItem 11 = .ok (.istore_n 2, 1) := by decide +kernel
theorem dX0_readItem_12 : decode cX0_readItem 12 = .ok (.iload_n 2, 1) := by decide +kernel
theorem dX0_readItem_13 : decode cX0_readItem 13 = .ok (.iconst (-1), 1) := by decide +kernel
theorem dX0_readItem_14 : decode cX0_readItem 14 = .ok (.if_icmp .ne 5, 3) := by decide +kernel
theorem dX0_readItem_17 : decode cX0_readItem 17 = .ok (.iconst 0, 1) := by decide +kernel
theorem dX0_readItem_18 : decode cX0_readItem 18 = .ok (.ireturn, 1) := by decide +kernel
theorem dX0_readItem_19 : decode cX0_readItem 19 = .ok (.aload_n 0, 1) := by decide +kernel
theorem dX0_readItem_20 : decode cX0_readItem 20 = .ok (.dup, 1) := by decide +kernel
theorem dX0_readItem_21 : decode cX0_readItem 21 = .ok (.getfield 34, 3) := by decide +kernel
theorem dX0_readItem_24 : decode cX0_readItem 24 = .ok (.iconst 1, 1) := by decide +kernel
theorem dX0_readItem_25 : decode cX0_readItem 25 = .ok (.iadd, 1) := by decide +kernel
theorem dX0_readItem_26 : decode cX0_readItem 26 = .ok (.putfield 34, 3) := by decide +kernel
theorem dX0_readItem_29 : decode cX0_readItem 29 = .ok (.aload_n 0, 1) := by decide +kernel
theorem dX0_readItem_30 : decode cX0_readItem 30 = .ok (.aload_n 1, 1) := by decide +kernel
theorem dX0_readItem_31 : decode cX0_readItem 31 = .ok (.iload_n 2, 1) := by decide +kernel
theorem dX0_readItem_32 : decode cX0_readItem 32 = .ok (.invokevirtual 53, 3) := by decide +kernel
theorem dX0_readItem_35 : decode cX0_readItem 35 = .ok (.ifCond .ne 5, 3) := by decide +kernel
theorem dX0_readItem_38 : decode cX0_readItem 38 = .ok (.iconst 0, 1) := by decide +kernel
theorem dX0_readItem_39 : decode cX0_readItem 39 = .ok (.ireturn, 1) := by decide +kernel
theorem dX0_readItem_40 : decode cX0_readItem 40 = .ok (.iload_n 2, 1) := by decide +kernel
theorem dX0_readItem_41 : decode cX0_readItem 41 = .ok (.iconst 3, 1) := by decide +kernel
theorem dX0_readItem_42 : decode cX0_readItem 42 = .ok (.if_icmp .ne 13, 3) := by decide +kernel
theorem dX0_readItem_45 : decode cX0_readItem 45 = .ok (.aload_n 0, 1) := by decide +kernel
theorem dX0_readItem_46 : decode cX0_readItem 46 = .ok (.getfield 27, 3) := by decide +kernel
theorem dX0_readItem_49 : decode cX0_readItem 49 = .ok (.iconst 1, 1) := by decide +kernel
theorem dX0_readItem_50 : decode cX0_readItem 50 = .ok (.iaload, 1) := by decide +kernel
theorem dX0_readItem_51 : decode cX0_readItem 51 = .ok (.iconst 1, 1) := by decide +kernel
theorem dX0_readItem_52 : decode cX0_readItem 52 = .ok (.if_icmp .lt 23, 3) := by decide +kernel
theorem dX0_readItem_55 : decode cX0_readItem 55 = .ok (.iload_n 2, 1) := by decide +kernel
theorem dX0_readItem_56 : decode cX0_readItem 56 = .ok (.iconst 5, 1) := by decide +kernel
theorem dX0_readItem_57 : decode cX0_readItem 57 = .ok (.if_icmp .ne 20, 3) := by decide +kernel
theorem dX0_readItem_60 : decode cX0_readItem 60 = .ok (.aload_n 0, 1) := by decide +kernel
theorem dX0_readItem_61 : decode cX0_readItem 61 = .ok (.getfield 27, 3) := by decide +kernel
theorem dX0_readItem_64 : decode cX0_readItem 64 = .ok (.iconst 2, 1) := by decide +kernel
theorem dX0_readItem_65 : decode cX0_readItem 65 = .ok (.iaload, 1) := by decide +kernel
theorem dX0_readItem_66 : decode cX0_readItem 66 = .ok (.aload_n 0, 1) := by decide +kernel
theorem dX0_readItem_67 : decode cX0_readItem 67 = .ok (.getfield 27, 3) := by decide +kernel
theorem dX0_readItem_70 : decode cX0_readItem 70 = .ok (.iconst 3, 1) := by decide +kernel
theorem dX0_readItem_71 : decode cX0_readItem 71 = .ok (.iaload, 1) := by decide +kernel
theorem dX0_readItem_72 : decode cX0_readItem 72 = .ok (.if_icmp .le 5, 3) := by decide +kernel
theorem dX0_readItem_75 : decode cX0_readItem 75 = .ok (.iconst 0, 1) := by decide +kernel
theorem dX0_readItem_76 : decode cX0_readItem 76 = .ok (.ireturn, 1) := by decide +kernel
theorem dX0_readItem_77 : decode cX0_readItem 77 = .ok (.aload_n 0, 1) := by decide +kernel
theorem dX0_readItem_78 : decode cX0_readItem 78 = .ok (.getfield 11, 3) := by decide +kernel
theorem dX0_readItem_81 : decode cX0_readItem 81 = .ok (.aload_n 0, 1) := by decide +kernel
theorem dX0_readItem_82 : decode cX0_readItem 82 = .ok (.getfield 30, 3) := by decide +kernel
theorem dX0_readItem_85 : decode cX0_readItem 85 = .ok (.iload_n 2, 1) := by decide +kernel
theorem dX0_readItem_86 : decode cX0_readItem 86 = .ok (.iastore, 1) := by decide +kernel
theorem dX0_readItem_87 : decode cX0_readItem 87 = .ok (.aload_n 0, 1) := by decide +kernel
theorem dX0_readItem_88 : decode cX0_readItem 88 = .ok (.getfield 15, 3) := by decide +kernel
theorem dX0_readItem_91 : decode cX0_readItem 91 = .ok (.aload_n 0, 1) := by decide +kernel
theorem dX0_readItem_92 : decode cX0_readItem 92 = .ok (.getfield 30, 3) := by decide +kernel
theorem dX0_readItem_95 : decode cX0_readItem 95 = .ok (.aload_n 0, 1) := by decide +kernel
theorem dX0_readItem_96 : decode cX0_readItem 96 = .ok (.getfield 27, 3) := by decide +kernel
theorem dX0_readItem_99 : decode cX0_readItem 99 = .ok (.iconst 0, 1) := by decide +kernel
theorem dX0_readItem_100 : decode cX0_readItem 100 = .ok (.iaload, 1) := by decide +kernel
theorem dX0_readItem_101 : decode cX0_readItem 101 = .ok (.iastore, 1) := by decide +kernel
theorem dX0_readItem_102 : decode cX0_readItem 102 = .ok (.aload_n 0, 1) := by decide +kernel
theorem dX0_readItem_103 : decode cX0_readItem 103 = .ok (.getfield 18, 3) := by decide +kernel
theorem dX0_readItem_106 : decode cX0_readItem 106 = .ok (.aload_n 0, 1) := by decide +kernel
theorem dX0_readItem_107 : decode cX0_readItem 107 = .ok (.getfield 30, 3) := by decide +kernel
theorem dX0_readItem_110 : decode cX0_readItem 110 = .ok (.aload_n 0, 1) := by decide +kernel
theorem dX0_readItem_111 : decode cX0_readItem 111 = .ok (.getfield 27, 3) := by decide +kernel
theorem dX0_readItem_114 : decode cX0_readItem 114 = .ok (.iconst 1, 1) := by decide +kernel
theorem dX0_readItem_115 : decode cX0_readItem 115 = .ok (.iaload, 1) := by decide +kernel
theorem dX0_readItem_116 : decode cX0_readItem 116 = .ok (.iastore, 1) := by decide +kernel
theorem dX0_readItem_117 : decode cX0_readItem 117 = .ok (.aload_n 0, 1) := by decide +kernel
theorem dX0_readItem_118 : decode cX0_readItem 118 = .ok (.getfield 21, 3) := by decide +kernel
theorem dX0_readItem_121 : decode cX0_readItem 121 = .ok (.aload_n 0, 1) := by decide +kernel
theorem dX0_readItem_122 : decode cX0_readItem 122 = .ok (.getfield 30, 3) := by decide +kernel
theorem dX0_readItem_125 : decode cX0_readItem 125 = .ok (.aload_n 0, 1) := by decide +kernel
theorem dX0_readItem_126 : decode cX0_readItem 126 = .ok (.getfield 27, 3) := by decide +kernel
theorem dX0_readItem_129 : decode cX0_readItem 129 = .ok (.iconst 2, 1) := by decide +kernel
theorem dX0_readItem_130 : decode cX0_readItem 130 = .ok (.iaload, 1) := by decide +kernel
theorem dX0_readItem_131 : decode cX0_readItem 131 = .ok (.iastore, 1) := by decide +kernel
theorem dX0_readItem_132 : decode cX0_readItem 132 = .ok (.aload_n 0, 1) := by decide +kernel
theorem dX0_readItem_133 : decode cX0_readItem 133 = .ok (.getfield 24, 3) := by decide +kernel
theorem dX0_readItem_136 : decode cX0_readItem 136 = .ok (.aload_n 0, 1) := by decide +kernel
theorem dX0_readItem_137 : decode cX0_readItem 137 = .ok (.getfield 30, 3) := by decide +kernel
theorem dX0_readItem_140 : decode cX0_readItem 140 = .ok (.aload_n 0, 1) := by decide +kernel
theorem dX0_readItem_141 : decode cX0_readItem 141 = .ok (.getfield 27, 3) := by decide +kernel
theorem dX0_readItem_144 : decode cX0_readItem 144 = .ok (.iconst 3, 1) := by decide +kernel
theorem dX0_readItem_145 : decode cX0_readItem 145 = .ok (.iaload, 1) := by decide +kernel
theorem dX0_readItem_146 : decode cX0_readItem 146 = .ok (.iastore, 1) := by decide +kernel
theorem dX0_readItem_147 : decode cX0_readItem 147 = .ok (.iconst 1, 1) := by decide +kernel
theorem dX0_readItem_148 : decode cX0_readItem 148 = .ok (.ireturn, 1) := by decide +kernel
theorem dX0_kindOf_0 : decode cX0_kindOf 0 = .ok (.iconst 0, 1) := by decide +kernel
theorem dX0_kindOf_1 : decode cX0_kindOf 1 = .ok (.istore_n 1, 1) := by decide +kernel
theorem dX0_kindOf_2 : decode cX0_kindOf 2 = .ok (.iload_n 1, 1) := by decide +kernel
theorem dX0_kindOf_3 : decode cX0_kindOf 3 = .ok (.ldc 57, 2) := by decide +kernel
theorem dX0_kindOf_5 : decode cX0_kindOf 5 = .ok (.invokevirtual 59, 3) := by decide +kernel
theorem dX0_kindOf_8 : decode cX0_kindOf 8 = .ok (.if_icmp .ge 21, 3) := by decide +kernel
theorem dX0_kindOf_11 : decode cX0_kindOf 11 = .ok (.ldc 57, 2) := by decide +kernel
theorem dX0_kindOf_13 : decode cX0_kindOf 13 = .ok (.iload_n 1, 1) := by decide +kernel
theorem dX0_kindOf_14 : decode cX0_kindOf 14 = .ok (.invokevirtual 64, 3) := by decide +kernel
theorem dX0_kindOf_17 : decode cX0_kindOf 17 = .ok (.iload_n 0, 1) := by decide +kernel
theorem dX0_kindOf_18 : decode cX0_kindOf 18 = .ok (.if_icmp .ne 5, 3) := by decide +kernel
theorem dX0_kindOf_21 : decode cX0_kindOf 21 = .ok (.iload_n 1, 1) := by decide +kernel
theorem dX0_kindOf_22 : decode cX0_kindOf 22 = .ok (.ireturn, 1) := by decide +kernel
theorem dX0_kindOf_23 : decode cX0_kindOf 23 = .ok (.iinc 1 1, 3) := by decide +kernel
theorem dX0_kindOf_26 : decode cX0_kindOf 26 = .ok (.goto (-24), 3) := by decide +kernel
theorem dX0_kindOf_29 : decode cX0_kindOf 29 = .ok (.iconst (-1), 1) := by decide +kernel
theorem dX0_kindOf_30 : decode cX0_kindOf 30 = .ok (.ireturn, 1) := by decide +kernel
theorem dX0_readParts_0 : decode cX0_readParts 0 = .ok (.iload_n 2, 1) := by decide +kernel
theorem dX0_readParts_1 : decode cX0_readParts 1 = .ok (.iconst 5, 1) := by decide +kernel
theorem dX0_readParts_2 : decode cX0_readParts 2 = .ok (.if_icmp .ne 7, 3) := by decide +kernel
theorem dX0_readParts_5 : decode cX0_readParts 5 = .ok (.iconst 3, 1) := by decide +kernel
theorem dX0_readParts_6 : decode cX0_readParts 6 = .ok (.goto 4, 3) := by decide +kernel
theorem dX0_readParts_9 : decode cX0_readParts 9 = .ok (.iconst 2, 1) := by decide +kernel
theorem dX0_readParts_10 : decode cX0_readParts 10 = .ok (.istore_n 3, 1) := by decide +kernel
theorem dX0_readParts_11 : decode cX0_readParts 11 = .ok (.iconst 0, 1) := by decide +kernel
theorem dX0_readParts_12 : decode cX0_readParts 12 = .ok (.istore 4, 2) := by decide +kernel
theorem dX0_readParts_14 : decode cX0_readParts 14 = .ok (.iload 4, 2) := by decide +kernel
theorem dX0_readParts_16 : decode cX0_readParts 16 = .ok (.iconst 4, 1) := by decide +kernel
theorem dX0_readParts_17 : decode cX0_readParts 17 = .ok (.if_icmp .ge 105, 3) := by decide +kernel
theorem dX0_readParts_20 : decode cX0_readParts 20 = .ok (.aload_n 0, 1) := by decide +kernel
theorem dX0_readParts_21 : decode cX0_readParts 21 = .ok (.getfield 27, 3) := by decide +kernel
theorem dX0_readParts_24 : decode cX0_readParts 24 = .ok (.iload 4, 2) := by decide +kernel
theorem dX0_readParts_26 : decode cX0_readParts 26 = .ok (.iconst 0, 1) := by decide +kernel
theorem dX0_readParts_27 : decode cX0_readParts 27 = .ok (.iastore, 1) := by decide +kernel
theorem dX0_readParts_28 : decode cX0_readParts 28 = .ok (.getstatic 68, 3) := by decide +kernel
theorem dX0_readParts_31 : decode cX0_readParts 31 = .ok (.iload_n 2, 1) := by decide +kernel
theorem dX0_readParts_32 : decode cX0_readParts 32 = .ok (.iconst 4, 1) := by decide +kernel
theorem dX0_readParts_33 : decode cX0_readParts 33 = .ok (.imul, 1) := by decide +kernel
theorem dX0_readParts_34 : decode cX0_readParts 34 = .ok (.iload 4, 2) := by decide +kernel
theorem dX0_readParts_36 : decode cX0_readParts 36 = .ok (.iadd, 1) := by decide +kernel
theorem dX0_readParts_37 : decode cX0_readParts 37 = .ok (.iaload, 1) := by decide +kernel
theorem dX0_readParts_38 : decode cX0_readParts 38 = .ok (.istore 5, 2) := by decide +kernel
theorem dX0_readParts_40 : decode cX0_readParts 40 = .ok (.iload 5, 2) := by decide +kernel
theorem dX0_readParts_42 : decode cX0_readParts 42 = .ok (.iconst (-1), 1) := by decide +kernel
theorem dX0_readParts_43 : decode cX0_readParts 43 = .ok (.if_icmp .ne 6, 3) := by decide +kernel
theorem dX0_readParts_46 : decode cX0_readParts 46 = .ok (.goto 70, 3) := by decide +kernel
theorem dX0_readParts_49 : decode cX0_readParts 49 = .ok (.aload_n 0, 1) := by decide +kernel
theorem dX0_readParts_50 : decode cX0_readParts 50 = .ok (.aload_n 1, 1) := by decide +kernel
theorem dX0_readParts_51 : decode cX0_readParts 51 = .ok (.invokevirtual 71, 3) := by decide +kernel
theorem dX0_readParts_54 : decode cX0_readParts 54 = .ok (.istore 6, 2) := by decide +kernel
theorem dX0_readParts_56 : decode cX0_readParts 56 = .ok (.iload 6, 2) := by decide +kernel
theorem dX0_readParts_58 : decode cX0_readParts 58 = .ok (.iconst (-1), 1) := by decide +kernel
theorem dX0_readParts_59 : decode cX0_readParts 59 = .ok (.if_icmp .eq 10, 3) := by decide +kernel
theorem dX0_readParts_62 : decode cX0_readParts 62 = .ok (.iload 6, 2) := by decide +kernel
theorem dX0_readParts_64 : decode cX0_readParts 64 = .ok (.iload 5, 2) := by decide +kernel
theorem dX0_readParts_66 : decode cX0_readParts 66 = .ok (.if_icmp .le 5, 3) := by decide +kernel
theorem dX0_readParts_69 : decode cX0_readParts 69 = .ok (.iconst 0, 1) := by decide +kernel
theorem dX0_readParts_70 : decode cX0_readParts 70 = .ok (.ireturn, 1) := by decide +kernel
theorem dX0_readParts_71 : decode cX0_readParts 71 = .ok (.aload_n 0, 1) := by decide +kernel
theorem dX0_readParts_72 : decode cX0_readParts 72 = .ok (.getfield 27, 3) := by decide +kernel
theorem dX0_readParts_75 : decode cX0_readParts 75 = .ok (.iload 4, 2) := by decide +kernel
theorem dX0_readParts_77 : decode cX0_readParts 77 = .ok (.iload 6, 2) := by decide +kernel
theorem dX0_readParts_79 : decode cX0_readParts 79 = .ok (.iastore, 1) := by decide +kernel
theorem dX0_readParts_80 : decode cX0_readParts 80 = .ok (.aload_n 1, 1) := by decide +kernel
theorem dX0_readParts_81 : decode cX0_readParts 81 = .ok (.aload_n 0, 1) := by decide +kernel
theorem dX0_readParts_82 : decode cX0_readParts 82 = .ok (.getfield 34, 3) := by decide +kernel
theorem dX0_readParts_85 : decode cX0_readParts 85 = .ok (.invokevirtual 46, 3) := by decide +kernel
theorem dX0_readParts_88 : decode cX0_readParts 88 = .ok (.iload 4, 2) := by decide +kernel
theorem dX0_readParts_90 : decode cX0_readParts 90 = .ok (.iload_n 3, 1) := by decide +kernel
theorem dX0_readParts_91 : decode cX0_readParts 91 = .ok (.if_icmp .ne 8, 3) := by decide +kernel
theorem dX0_readParts_94 : decode cX0_readParts 94 = .ok (.bipush 59, 2) := by decide +kernel
theorem dX0_readParts_96 : decode cX0_readParts 96 = .ok (.goto 5, 3) := by decide +kernel
theorem dX0_readParts_99 : decode cX0_readParts 99 = .ok (.bipush 44, 2) := by decide +kernel
theorem dX0_readParts_101 : decode cX0_readParts 101 = .ok (.if_icmp .eq 5, 3) := by decide +kernel
theorem dX0_readParts_104 : decode cX0_readParts 104 = .ok (.iconst 0, 1) := by decide +kernel
theorem dX0_readParts_105 : decode cX0_readParts 105 = .ok (.ireturn, 1) := by decide +kernel
theorem dX0_readParts_106 : decode cX0_readParts 106 = .ok (.aload_n 0, 1) := by decide +kernel
theorem dX0_readParts_107 : decode cX0_readParts 107 = .ok (.dup, 1) := by decide +kernel
theorem dX0_readParts_108 : decode cX0_readParts 108 = .ok (.getfield 34, 3) := by decide +kernel
theorem dX0_readParts_111 : decode cX0_readParts 111 = .ok (.iconst 1, 1) := by decide +kernel
theorem dX0_readParts_112 : decode cX0_readParts 112 = .ok (.iadd, 1) := by decide +kernel
theorem dX0_readParts_113 : decode cX0_readParts 113 = .ok (.putfield 34, 3) := by decide +kernel
theorem dX0_readParts_116 : decode cX0_readParts 116 = .ok (.iinc 4 1, 3) := by decide +kernel
theorem dX0_readParts_119 : decode cX0_readParts 119 = .ok (.goto (-105), 3) := by decide +kernel
theorem dX0_readParts_122 : decode cX0_readParts 122 = .ok (.iconst 1, 1) := by decide +kernel
theorem dX0_readParts_123 : decode cX0_readParts 123 = .ok (.ireturn, 1) := by decide +kernel
theorem dX0_readNumber_0 : decode cX0_readNumber 0 = .ok (.iconst 0, 1) := by decide +kernel
theorem dX0_readNumber_1 : decode cX0_readNumber 1 = .ok (.istore_n 2, 1) := by decide +kernel
theorem dX0_readNumber_2 : decode cX0_readNumber 2 = .ok (.iconst 0, 1) := by decide +kernel
theorem dX0_readNumber_3 : decode cX0_readNumber 3 = .ok (.istore_n 3, 1) := by decide +kernel
theorem dX0_readNumber_4 : decode cX0_readNumber 4 = .ok (.iload_n 3, 1) := by decide +kernel
theorem dX0_readNumber_5 : decode cX0_readNumber 5 = .ok (.iconst 3, 1) := by decide +kernel
theorem dX0_readNumber_6 : decode cX0_readNumber 6 = .ok (.if_icmp .ge 50, 3) := by decide +kernel
theorem dX0_readNumber_9 : decode cX0_readNumber 9 = .ok (.aload_n 1, 1) := by decide +kernel
theorem dX0_readNumber_10 : decode cX0_readNumber 10 = .ok (.aload_n 0, 1) := by decide +kernel
theorem dX0_readNumber_11 : decode cX0_readNumber 11 = .ok (.getfield 34, 3) := by decide +kernel
theorem dX0_readNumber_14 : decode cX0_readNumber 14 = .ok (.invokevirtual 46, 3) := by decide +kernel
theorem dX0_readNumber_17 : decode cX0_readNumber 17 = .ok (.invokestatic 75, 3) := by decide +kernel
theorem dX0_readNumber_20 : decode cX0_readNumber 20 = .ok (.ifCond .eq 36, 3) := by decide +kernel
theorem dX0_readNumber_23 : decode cX0_readNumber 23 = .ok (.bipush 10, 2) := by decide +kernel
theorem dX0_readNumber_25 : decode cX0_readNumber 25 = .ok (.iload_n 2, 1) := by decide +kernel
theorem dX0_readNumber_26 : decode cX0_readNumber 26 = .ok (.imul, 1) := by decide +kernel
theorem dX0_readNumber_27 : decode cX0_readNumber 27 = .ok (.aload_n 1, 1) := by decide +kernel
theorem dX0_readNumber_28 : decode cX0_readNumber 28 = .ok (.aload_n 0, 1) := by decide +kernel
theorem dX0_readNumber_29 : decode cX0_readNumber 29 = .ok (.getfield 34, 3) := by decide +kernel
theorem dX0_readNumber_32 : decode cX0_readNumber 32 = .ok (.invokevirtual 46, 3) := by decide +kernel
theorem dX0_readNumber_35 : decode cX0_readNumber 35 = .ok (.iadd, 1) := by decide +kernel
theorem dX0_readNumber_36 : decode cX0_readNumber 36 = .ok (.bipush 48, 2) := by decide +kernel
theorem dX0_readNumber_38 : decode cX0_readNumber 38 = .ok (.isub, 1) := by decide +kernel
theorem dX0_readNumber_39 : decode cX0_readNumber 39 = .ok (.istore_n 2, 1) := by decide +kernel
theorem dX0_readNumber_40 : decode cX0_readNumber 40 = .ok (.aload_n 0, 1) := by decide +kernel
theorem dX0_readNumber_41 : decode cX0_readNumber 41 = .ok (.dup, 1) := by decide +kernel
theorem dX0_readNumber_42 : decode cX0_readNumber 42 = .ok (.getfield 34, 3) := by decide +kernel
theorem dX0_readNumber_45 : decode cX0_readNumber 45 = .ok (.iconst 1, 1) := by decide +kernel
theorem dX0_readNumber_46 : decode cX0_readNumber 46 = .ok (.iadd, 1) := by decide +kernel
theorem dX0_readNumber_47 : decode cX0_readNumber 47 = .ok (.putfield 34, 3) := by decide +kernel
theorem dX0_readNumber_50 : decode cX0_readNumber 50 = .ok (.iinc 3 1, 3) := by decide +kernel
theorem dX0_readNumber_53 : decode cX0_readNumber 53 = .ok (.goto (-49), 3) := by decide +kernel
theorem dX0_readNumber_56 : decode cX0_readNumber 56 = .ok (.iload_n 3, 1) := by decide +kernel
theorem dX0_readNumber_57 : decode cX0_readNumber 57 = .ok (.ifCond .ne 7, 3) := by decide +kernel
theorem dX0_readNumber_60 : decode cX0_readNumber 60 = .ok (.iconst (-1), 1) := by decide +kernel
theorem dX0_readNumber_61 : decode cX0_readNumber 61 = .ok (.goto 4, 3) := by decide +kernel
theorem dX0_readNumber_64 : decode cX0_readNumber 64 = .ok (.iload_n 2, 1) := by decide +kernel
theorem dX0_readNumber_65 : decode cX0_readNumber 65 = .ok (.ireturn, 1) := by decide +kernel
theorem dX0_isFigure_0 : decode cX0_isFigure 0 = .ok (.iload_n 0, 1) := by decide +kernel
theorem dX0_isFigure_1 : decode cX0_isFigure 1 = .ok (.bipush 48, 2) := by decide +kernel
theorem dX0_isFigure_3 : decode cX0_isFigure 3 = .ok (.if_icmp .lt 13, 3) := by decide +kernel
theorem dX0_isFigure_6 : decode cX0_isFigure 6 = .ok (.iload_n 0, 1) := by decide +kernel
theorem dX0_isFigure_7 : decode cX0_isFigure 7 = .ok (.bipush 57, 2) := by decide +kernel
theorem dX0_isFigure_9 : decode cX0_isFigure 9 = .ok (.if_icmp .gt 7, 3) := by decide +kernel
theorem dX0_isFigure_12 : decode cX0_isFigure 12 = .ok (.iconst 1, 1) := by decide +kernel
theorem dX0_isFigure_13 : decode cX0_isFigure 13 = .ok (.goto 4, 3) := by decide +kernel
theorem dX0_isFigure_16 : decode cX0_isFigure 16 = .ok (.iconst 0, 1) := by decide +kernel
theorem dX0_isFigure_17 : decode cX0_isFigure 17 = .ok (.ireturn, 1) := by decide +kernel
theorem dX0_holding_0 : decode cX0_holding 0 = .ok (.iload_n 1, 1) := by decide +kernel
theorem dX0_holding_1 : decode cX0_holding 1 = .ok (.iconst 1, 1) := by decide +kernel
theorem dX0_holding_2 : decode cX0_holding 2 = .ok (.if_icmp .le 7, 3) := by decide +kernel
theorem dX0_holding_5 : decode cX0_holding 5 = .ok (.iconst 0, 1) := by decide +kernel
theorem dX0_holding_6 : decode cX0_holding 6 = .ok (.goto 4, 3) := by decide +kernel
theorem dX0_holding_9 : decode cX0_holding 9 = .ok (.iload_n 2, 1) := by decide +kernel
theorem dX0_holding_10 : decode cX0_holding 10 = .ok (.istore 4, 2) := by decide +kernel
theorem dX0_holding_12 : decode cX0_holding 12 = .ok (.aload_n 0, 1) := by decide +kernel
theorem dX0_holding_13 : decode cX0_holding 13 = .ok (.getfield 30, 3) := by decide +kernel
theorem dX0_holding_16 : decode cX0_holding 16 = .ok (.iconst 1, 1) := by decide +kernel
theorem dX0_holding_17 : decode cX0_holding 17 = .ok (.isub, 1) := by decide +kernel
theorem dX0_holding_18 : decode cX0_holding 18 = .ok (.istore 5, 2) := by decide +kernel
theorem dX0_holding_20 : decode cX0_holding 20 = .ok (.iload 5, 2) := by decide +kernel
theorem dX0_holding_22 : decode cX0_holding 22 = .ok (.ifCond .lt 46, 3) := by decide +kernel
theorem dX0_holding_25 : decode cX0_holding 25 = .ok (.aload_n 0, 1) := by decide +kernel
theorem dX0_holding_26 : decode cX0_holding 26 = .ok (.getfield 11, 3) := by decide +kernel
theorem dX0_holding_29 : decode cX0_holding 29 = .ok (.iload 5, 2) := by decide +kernel
theorem dX0_holding_31 : decode cX0_holding 31 = .ok (.iaload, 1) := by decide +kernel
theorem dX0_holding_32 : decode cX0_holding 32 = .ok (.iload_n 1, 1) := by decide +kernel
theorem dX0_holding_33 : decode cX0_holding 33 = .ok (.if_icmp .ne 29, 3) := by decide +kernel
theorem dX0_holding_36 : decode cX0_holding 36 = .ok (.aload_n 0, 1) := by decide +kernel
theorem dX0_holding_37 : decode cX0_holding 37 = .ok (.getfield 15, 3) := by decide +kernel
theorem dX0_holding_40 : decode cX0_holding 40 = .ok (.iload 5, 2) := by decide +kernel
theorem dX0_holding_42 : decode cX0_holding 42 = .ok (.iaload, 1) := by decide +kernel
theorem dX0_holding_43 : decode cX0_holding 43 = .ok (.iload 4, 2) := by decide +kernel
theorem dX0_holding_45 : decode cX0_holding 45 = .ok (.if_icmp .ne 17, 3) := by decide +kernel
theorem dX0_holding_48 : decode cX0_holding 48 = .ok (.aload_n 0, 1) := by decide +kernel
theorem dX0_holding_49 : decode cX0_holding 49 = .ok (.getfield 21, 3) := by decide +kernel
theorem dX0_holding_52 : decode cX0_holding 52 = .ok (.iload 5, 2) := by decide +kernel
theorem dX0_holding_54 : decode cX0_holding 54 = .ok (.iaload, 1) := by decide +kernel
theorem dX0_holding_55 : decode cX0_holding 55 = .ok (.iload_n 3, 1) := by decide +kernel
theorem dX0_holding_56 : decode cX0_holding 56 = .ok (.if_icmp .gt 6, 3) := by decide +kernel
theorem dX0_holding_59 : decode cX0_holding 59 = .ok (.iload 5, 2) := by decide +kernel
theorem dX0_holding_61 : decode cX0_holding 61 = .ok (.ireturn, 1) := by decide +kernel
theorem dX0_holding_62 : decode cX0_holding 62 = .ok (.iinc 5 (-1), 3) := by decide +kernel
theorem dX0_holding_65 : decode cX0_holding 65 = .ok (.goto (-45), 3) := by decide +kernel
theorem dX0_holding_68 : decode cX0_holding 68 = .ok (.bipush (-4), 2) := by decide +kernel
theorem dX0_holding_70 : decode cX0_holding 70 = .ok (.ireturn, 1) := by decide +kernel
theorem dX0_amountOn_0 : decode cX0_amountOn 0 = .ok (.aload_n 0, 1) := by decide +kernel
theorem dX0_amountOn_1 : decode cX0_amountOn 1 = .ok (.iload_n 1, 1) := by decide +kernel
theorem dX0_amountOn_2 : decode cX0_amountOn 2 = .ok (.iload_n 2, 1) := by decide +kernel
theorem dX0_amountOn_3 : decode cX0_amountOn 3 = .ok (.iload_n 3, 1) := by decide +kernel
theorem dX0_amountOn_4 : decode cX0_amountOn 4 = .ok (.invokevirtual 79, 3) := by decide +kernel
theorem dX0_amountOn_7 : decode cX0_amountOn 7 = .ok (.istore 4, 2) := by decide +kernel
theorem dX0_amountOn_9 : decode cX0_amountOn 9 = .ok (.iload 4, 2) := by decide +kernel
theorem dX0_amountOn_11 : decode cX0_amountOn 11 = .ok (.bipush (-4), 2) := by decide +kernel
theorem dX0_amountOn_13 : decode cX0_amountOn 13 = .ok (.if_icmp .ne 11, 3) := by decide +kernel
theorem dX0_amountOn_16 : decode cX0_amountOn 16 = .ok (.getstatic 83, 3) := by decide +kernel
theorem dX0_amountOn_19 : decode cX0_amountOn 19 = .ok (.iload_n 1, 1) := by decide +kernel
theorem dX0_amountOn_20 : decode cX0_amountOn 20 = .ok (.iaload, 1) := by decide +kernel
theorem dX0_amountOn_21 : decode cX0_amountOn 21 = .ok (.goto 10, 3) := by decide +kernel
theorem dX0_amountOn_24 : decode cX0_amountOn 24 = .ok (.aload_n 0, 1) := by decide +kernel
theorem dX0_amountOn_25 : decode cX0_amountOn 25 = .ok (.getfield 18, 3) := by decide +kernel
theorem dX0_amountOn_28 : decode cX0_amountOn 28 = .ok (.iload 4, 2) := by decide +kernel
theorem dX0_amountOn_30 : decode cX0_amountOn 30 = .ok (.iaload, 1) := by decide +kernel
theorem dX0_amountOn_31 : decode cX0_amountOn 31 = .ok (.ireturn, 1) := by decide +kernel
theorem dX0_firstQuarrel_0 : decode cX0_firstQuarrel 0 = .ok (.iconst 0, 1) := by decide +kernel
theorem dX0_firstQuarrel_1 : decode cX0_firstQuarrel 1 = .ok (.istore_n 1, 1) := by decide +kernel
theorem dX0_firstQuarrel_2 : decode cX0_firstQuarrel 2 = .ok (.iload_n 1, 1) := by decide +kernel
theorem dX0_firstQuarrel_3 : decode cX0_firstQuarrel 3 = .ok (.aload_n 0, 1) := by decide +kernel
theorem dX0_firstQuarrel_4 : decode cX0_firstQuarrel 4 = .ok (.getfield 30, 3) := by decide +kernel
theorem dX0_firstQuarrel_7 : decode cX0_firstQuarrel 7 = .ok (.if_icmp .ge 43, 3) := by decide +kernel
theorem dX0_firstQuarrel_10 : decode cX0_firstQuarrel 10 = .ok (.iload_n 1, 1) := by decide +kernel
theorem dX0_firstQuarrel_11 : decode cX0_firstQuarrel 11 = .ok (.iconst 1, 1) := by decide +kernel
theorem dX0_firstQuarrel_12 : decode cX0_firstQuarrel 12 = .ok (.iadd, 1) := by decide +kernel
theorem dX0_firstQuarrel_13 : decode cX0_firstQuarrel 13 = .ok (.istore_n 2, 1) := by decide +kernel
theorem dX0_firstQuarrel_14 : decode cX0_firstQuarrel 14 = .ok (.iload_n 2, 1) := by decide +kernel
theorem dX0_firstQuarrel_15 : decode cX0_firstQuarrel 15 = .ok (.aload_n 0, 1) := by decide +kernel
theorem dX0_firstQuarrel_16 : decode cX0_firstQuarrel 16 = .ok (.getfield 30, 3) := by decide +kernel
theorem dX0_firstQuarrel_19 : decode cX0_firstQuarrel 19 = .ok (.if_icmp .ge 25, 3) := by decide +kernel
theorem dX0_firstQuarrel_22 : decode cX0_firstQuarrel 22 = .ok (.aload_n 0, 1) := by decide +kernel
theorem dX0_firstQuarrel_23 : decode cX0_firstQuarrel 23 = .ok (.iload_n 1, 1) := by decide +kernel
theorem dX0_firstQuarrel_24 : decode cX0_firstQuarrel 24 = .ok (.iload_n 2, 1) := by decide +kernel
theorem dX0_firstQuarrel_25 : decode cX0_firstQuarrel 25 = .ok (.invokevirtual 86, 3) := by decide +kernel
theorem dX0_firstQuarrel_28 : decode cX0_firstQuarrel 28 = .ok (.ifCond .eq 10, 3) := by decide +kernel
theorem dX0_firstQuarrel_31 : decode cX0_firstQuarrel 31 = .ok (.bipush 100, 2) := by decide +kernel
theorem dX0_firstQuarrel_33 : decode cX0_firstQuarrel 33 = .ok (.iload_n 1, 1) := by decide +kernel
theorem dX0_firstQuarrel_34 : decode cX0_firstQuarrel 34 = .ok (.imul, 1) := by decide +kernel
theorem dX0_firstQuarrel_35 : decode cX0_firstQuarrel 35 = .ok (.iload_n 2, 1) := by decide +kernel
theorem dX0_firstQuarrel_36 : decode cX0_firstQuarrel 36 = .ok (.iadd, 1) := by decide +kernel
theorem dX0_firstQuarrel_37 : decode cX0_firstQuarrel 37 = .ok (.ireturn, 1) := by decide +kernel
theorem dX0_firstQuarrel_38 : decode cX0_firstQuarrel 38 = .ok (.iinc 2 1, 3) := by decide +kernel
theorem dX0_firstQuarrel_41 : decode cX0_firstQuarrel 41 = .ok (.goto (-27), 3) := by decide +kernel
theorem dX0_firstQuarrel_44 : decode cX0_firstQuarrel 44 = .ok (.iinc 1 1, 3) := by decide +kernel
theorem dX0_firstQuarrel_47 : decode cX0_firstQuarrel 47 = .ok (.goto (-45), 3) := by decide +kernel
theorem dX0_firstQuarrel_50 : decode cX0_firstQuarrel 50 = .ok (.bipush (-4), 2) := by decide +kernel
theorem dX0_firstQuarrel_52 : decode cX0_firstQuarrel 52 = .ok (.ireturn, 1) := by decide +kernel
theorem dX0_disagree_0 : decode cX0_disagree 0 = .ok (.aload_n 0, 1) := by decide +kernel
theorem dX0_disagree_1 : decode cX0_disagree 1 = .ok (.getfield 11, 3) := by decide +kernel
theorem dX0_disagree_4 : decode cX0_disagree 4 = .ok (.iload_n 1, 1) := by decide +kernel
theorem dX0_disagree_5 : decode cX0_disagree 5 = .ok (.iaload, 1) := by decide +kernel
theorem dX0_disagree_6 : decode cX0_disagree 6 = .ok (.iconst 5, 1) := by decide +kernel
theorem dX0_disagree_7 : decode cX0_disagree 7 = .ok (.if_icmp .eq 67, 3) := by decide +kernel
theorem dX0_disagree_10 : decode cX0_disagree 10 = .ok (.aload_n 0, 1) := by decide +kernel
theorem dX0_disagree_11 : decode cX0_disagree 11 = .ok (.getfield 11, 3) := by decide +kernel
theorem dX0_disagree_14 : decode cX0_disagree 14 = .ok (.iload_n 1, 1) := by decide +kernel
theorem dX0_disagree_15 : decode cX0_disagree 15 = .ok (.iaload, 1) := by decide +kernel
theorem dX0_disagree_16 : decode cX0_disagree 16 = .ok (.aload_n 0, 1) := by decide +kernel
theorem dX0_disagree_17 : decode cX0_disagree 17 = .ok (.getfield 11, 3) := by decide +kernel
theorem dX0_disagree_20 : decode cX0_disagree 20 = .ok (.iload_n 2, 1) := by decide +kernel
theorem dX0_disagree_21 : decode cX0_disagree 21 = .ok (.iaload, 1) := by decide +kernel
theorem dX0_disagree_22 : decode cX0_disagree 22 = .ok (.if_icmp .ne 52, 3) := by decide +kernel
theorem dX0_disagree_25 : decode cX0_disagree 25 = .ok (.aload_n 0, 1) := by decide +kernel
theorem dX0_disagree_26 : decode cX0_disagree 26 = .ok (.getfield 15, 3) := by decide +kernel
theorem dX0_disagree_29 : decode cX0_disagree 29 = .ok (.iload_n 1, 1) := by decide +kernel
theorem dX0_disagree_30 : decode cX0_disagree 30 = .ok (.iaload, 1) := by decide +kernel
theorem dX0_disagree_31 : decode cX0_disagree 31 = .ok (.aload_n 0, 1) := by decide +kernel
theorem dX0_disagree_32 : decode cX0_disagree 32 = .ok (.getfield 15, 3) := by decide +kernel
theorem dX0_disagree_35 : decode cX0_disagree 35 = .ok (.iload_n 2, 1) := by decide +kernel
theorem dX0_disagree_36 : decode cX0_disagree 36 = .ok (.iaload, 1) := by decide +kernel
theorem dX0_disagree_37 : decode cX0_disagree 37 = .ok (.if_icmp .ne 37, 3) := by decide +kernel
theorem dX0_disagree_40 : decode cX0_disagree 40 = .ok (.aload_n 0, 1) := by decide +kernel
theorem dX0_disagree_41 : decode cX0_disagree 41 = .ok (.getfield 21, 3) := by decide +kernel
theorem dX0_disagree_44 : decode cX0_disagree 44 = .ok (.iload_n 1, 1) := by decide +kernel
theorem dX0_disagree_45 : decode cX0_disagree 45 = .ok (.iaload, 1) := by decide +kernel
theorem dX0_disagree_46 : decode cX0_disagree 46 = .ok (.aload_n 0, 1) := by decide +kernel
theorem dX0_disagree_47 : decode cX0_disagree 47 = .ok (.getfield 21, 3) := by decide +kernel
theorem dX0_disagree_50 : decode cX0_disagree 50 = .ok (.iload_n 2, 1) := by decide +kernel
theorem dX0_disagree_51 : decode cX0_disagree 51 = .ok (.iaload, 1) := by decide +kernel
theorem dX0_disagree_52 : decode cX0_disagree 52 = .ok (.if_icmp .ne 22, 3) := by decide +kernel
theorem dX0_disagree_55 : decode cX0_disagree 55 = .ok (.aload_n 0, 1) := by decide +kernel
theorem dX0_disagree_56 : decode cX0_disagree 56 = .ok (.getfield 18, 3) := by decide +kernel
theorem dX0_disagree_59 : decode cX0_disagree 59 = .ok (.iload_n 1, 1) := by decide +kernel
theorem dX0_disagree_60 : decode cX0_disagree 60 = .ok (.iaload, 1) := by decide +kernel
theorem dX0_disagree_61 : decode cX0_disagree 61 = .ok (.aload_n 0, 1) := by decide +kernel
theorem dX0_disagree_62 : decode cX0_disagree 62 = .ok (.getfield 18, 3) := by decide +kernel
theorem dX0_disagree_65 : decode cX0_disagree 65 = .ok (.iload_n 2, 1) := by decide +kernel
theorem dX0_disagree_66 : decode cX0_disagree 66 = .ok (.iaload, 1) := by decide +kernel
theorem dX0_disagree_67 : decode cX0_disagree 67 = .ok (.if_icmp .eq 7, 3) := by decide +kernel
theorem dX0_disagree_70 : decode cX0_disagree 70 = .ok (.iconst 1, 1) := by decide +kernel
theorem dX0_disagree_71 : decode cX0_disagree 71 = .ok (.goto 4, 3) := by decide +kernel
theorem dX0_disagree_74 : decode cX0_disagree 74 = .ok (.iconst 0, 1) := by decide +kernel
theorem dX0_disagree_75 : decode cX0_disagree 75 = .ok (.ireturn, 1) := by decide +kernel
theorem dX0_forbids_0 : decode cX0_forbids 0 = .ok (.iconst 0, 1) := by decide +kernel
theorem dX0_forbids_1 : decode cX0_forbids 1 = .ok (.istore 5, 2) := by decide +kernel
theorem dX0_forbids_3 : decode cX0_forbids 3 = .ok (.iload 5, 2) := by decide +kernel
theorem dX0_forbids_5 : decode cX0_forbids 5 = .ok (.aload_n 0, 1) := by decide +kernel
theorem dX0_forbids_6 : decode cX0_forbids 6 = .ok (.getfield 30, 3) := by decide +kernel
theorem dX0_forbids_9 : decode cX0_forbids 9 = .ok (.if_icmp .ge 67, 3) := by decide +kernel
theorem dX0_forbids_12 : decode cX0_forbids 12 = .ok (.aload_n 0, 1) := by decide +kernel
theorem dX0_forbids_13 : decode cX0_forbids 13 = .ok (.getfield 11, 3) := by decide +kernel
theorem dX0_forbids_16 : decode cX0_forbids 16 = .ok (.iload 5, 2) := by decide +kernel
theorem dX0_forbids_18 : decode cX0_forbids 18 = .ok (.iaload, 1) := by decide +kernel
theorem dX0_forbids_19 : decode cX0_forbids 19 = .ok (.iconst 5, 1) := by decide +kernel
theorem dX0_forbids_20 : decode cX0_forbids 20 = .ok (.if_icmp .ne 50, 3) := by decide +kernel
theorem dX0_forbids_23 : decode cX0_forbids 23 = .ok (.aload_n 0, 1) := by decide +kernel
theorem dX0_forbids_24 : decode cX0_forbids 24 = .ok (.getfield 15, 3) := by decide +kernel
theorem dX0_forbids_27 : decode cX0_forbids 27 = .ok (.iload 5, 2) := by decide +kernel
theorem dX0_forbids_29 : decode cX0_forbids 29 = .ok (.iaload, 1) := by decide +kernel
theorem dX0_forbids_30 : decode cX0_forbids 30 = .ok (.iload_n 1, 1) := by decide +kernel
theorem dX0_forbids_31 : decode cX0_forbids 31 = .ok (.if_icmp .ne 39, 3) := by decide +kernel
theorem dX0_forbids_34 : decode cX0_forbids 34 = .ok (.aload_n 0, 1) := by decide +kernel
theorem dX0_forbids_35 : decode cX0_forbids 35 = .ok (.getfield 18, 3) := by decide +kernel
theorem dX0_forbids_38 : decode cX0_forbids 38 = .ok (.iload 5, 2) := by decide +kernel
theorem dX0_forbids_40 : decode cX0_forbids 40 = .ok (.iaload, 1) := by decide +kernel
theorem dX0_forbids_41 : decode cX0_forbids 41 = .ok (.iload_n 2, 1) := by decide +kernel
theorem dX0_forbids_42 : decode cX0_forbids 42 = .ok (.if_icmp .ne 28, 3) := by decide +kernel
theorem dX0_forbids_45 : decode cX0_forbids 45 = .ok (.aload_n 0, 1) := by decide +kernel
theorem dX0_forbids_46 : decode cX0_forbids 46 = .ok (.getfield 21, 3) := by decide +kernel
theorem dX0_forbids_49 : decode cX0_forbids 49 = .ok (.iload 5, 2) := by decide +kernel
theorem dX0_forbids_51 : decode cX0_forbids 51 = .ok (.iaload, 1) := by decide +kernel
theorem dX0_forbids_52 : decode cX0_forbids 52 = .ok (.iload 4, 2) := by decide +kernel
theorem dX0_forbids_54 : decode cX0_forbids 54 = .ok (.if_icmp .gt 16, 3) := by decide +kernel
theorem dX0_forbids_57 : decode cX0_forbids 57 = .ok (.aload_n 0, 1) := by decide +kernel
theorem dX0_forbids_58 : decode cX0_forbids 58 = .ok (.getfield 24, 3) := by decide +kernel
theorem dX0_forbids_61 : decode cX0_forbids 61 = .ok (.iload 5, 2) := by decide +kernel
theorem dX0_forbids_63 : decode cX0_forbids 63 = .ok (.iaload, 1) := by decide +kernel
theorem dX0_forbids_64 : decode cX0_forbids 64 = .ok (.iload_n 3, 1) := by decide +kernel
theorem dX0_forbids_65 : decode cX0_forbids 65 = .ok (.if_icmp .lt 5, 3) := by decide +kernel
theorem dX0_forbids_68 : decode cX0_forbids 68 = .ok (.iconst 1, 1) := by decide +kernel
theorem dX0_forbids_69 : decode cX0_forbids 69 = .ok (.ireturn, 1) := by decide +kernel
theorem dX0_forbids_70 : decode cX0_forbids 70 = .ok (.iinc 5 1, 3) := by decide +kernel
theorem dX0_forbids_73 : decode cX0_forbids 73 = .ok (.goto (-70), 3) := by decide +kernel
theorem dX0_forbids_76 : decode cX0_forbids 76 = .ok (.iconst 0, 1) := by decide +kernel
theorem dX0_forbids_77 : decode cX0_forbids 77 = .ok (.ireturn, 1) := by decide +kernel
theorem dX1_init_0 : decode cX1_init 0 = .ok (.aload_n 0, 1) := by decide +kernel
theorem dX1_init_1 : decode cX1_init 1 = .ok (.invokespecial 3, 3) := by decide +kernel
theorem dX1_init_4 : decode cX1_init 4 = .ok (.aload_n 0, 1) := by decide +kernel
theorem dX1_init_5 : decode cX1_init 5 = .ok (.iconst 0, 1) := by decide +kernel
theorem dX1_init_6 : decode cX1_init 6 = .ok (.putfield 9, 3) := by decide +kernel
theorem dX1_init_9 : decode cX1_init 9 = .ok (.aload_n 0, 1) := by decide +kernel
theorem dX1_init_10 : decode cX1_init 10 = .ok (.bipush 12, 2) := by decide +kernel
theorem dX1_init_12 : decode cX1_init 12 = .ok (.newarray .int, 2) := by decide +kernel
theorem dX1_init_14 : decode cX1_init 14 = .ok (.putfield 15, 3) := by decide +kernel
theorem dX1_init_17 : decode cX1_init 17 = .ok (.aload_n 0, 1) := by decide +kernel
theorem dX1_init_18 : decode cX1_init 18 = .ok (.bipush 12, 2) := by decide +kernel
theorem dX1_init_20 : decode cX1_init 20 = .ok (.newarray .int, 2) := by decide +kernel
theorem dX1_init_22 : decode cX1_init 22 = .ok (.putfield 19, 3) := by decide +kernel
theorem dX1_init_25 : decode cX1_init 25 = .ok (.aload_n 0, 1) := by decide +kernel
theorem dX1_init_26 : decode cX1_init 26 = .ok (.bipush 12, 2) := by decide +kernel
theorem dX1_init_28 : decode cX1_init 28 = .ok (.newarray .int, 2) := by decide +kernel
theorem dX1_init_30 : decode cX1_init 30 = .ok (.putfield 22, 3) := by decide +kernel
theorem dX1_init_33 : decode cX1_init 33 = .ok (.aload_n 0, 1) := by decide +kernel
theorem dX1_init_34 : decode cX1_init 34 = .ok (.iconst 0, 1) := by decide +kernel
theorem dX1_init_35 : decode cX1_init 35 = .ok (.putfield 25, 3) := by decide +kernel
theorem dX1_init_38 : decode cX1_init 38 = .ok (.aload_n 0, 1) := by decide +kernel
theorem dX1_init_39 : decode cX1_init 39 = .ok (.bipush 20, 2) := by decide +kernel
theorem dX1_init_41 : decode cX1_init 41 = .ok (.newarray .int, 2) := by decide +kernel
theorem dX1_init_43 : decode cX1_init 43 = .ok (.putfield 28, 3) := by decide +kernel
theorem dX1_init_46 : decode cX1_init 46 = .ok (.aload_n 0, 1) := by decide +kernel
theorem dX1_init_47 : decode cX1_init 47 = .ok (.bipush 20, 2) := by decide +kernel
theorem dX1_init_49 : decode cX1_init 49 = .ok (.newarray .int, 2) := by decide +kernel
theorem dX1_init_51 : decode cX1_init 51 = .ok (.putfield 31, 3) := by decide +kernel
theorem dX1_init_54 : decode cX1_init 54 = .ok (.aload_n 0, 1) := by decide +kernel
theorem dX1_init_55 : decode cX1_init 55 = .ok (.iconst 0, 1) := by decide +kernel
theorem dX1_init_56 : decode cX1_init 56 = .ok (.putfield 34, 3) := by decide +kernel
theorem dX1_init_59 : decode cX1_init 59 = .ok (.aload_n 0, 1) := by decide +kernel
theorem dX1_init_60 : decode cX1_init 60 = .ok (.bipush 30, 2) := by decide +kernel
theorem dX1_init_62 : decode cX1_init 62 = .ok (.newarray .int, 2) := by decide +kernel
theorem dX1_init_64 : decode cX1_init 64 = .ok (.putfield 37, 3) := by decide +kernel
theorem dX1_init_67 : decode cX1_init 67 = .ok (.aload_n 0, 1) := by decide +kernel
theorem dX1_init_68 : decode cX1_init 68 = .ok (.bipush 30, 2) := by decide +kernel
theorem dX1_init_70 : decode cX1_init 70 = .ok (.newarray .int, 2) := by decide +kernel
theorem dX1_init_72 : decode cX1_init 72 = .ok (.putfield 40, 3) := by decide +kernel
theorem dX1_init_75 : decode cX1_init 75 = .ok (.aload_n 0, 1) := by decide +kernel
theorem dX1_init_76 : decode cX1_init 76 = .ok (.bipush 30, 2) := by decide +kernel
theorem dX1_init_78 : decode cX1_init 78 = .ok (.newarray .int, 2) := by decide +kernel
theorem dX1_init_80 : decode cX1_init 80 = .ok (.putfield 43, 3) := by decide +kernel
theorem dX1_init_83 : decode cX1_init 83 = .ok (.aload_n 0, 1) := by decide +kernel
theorem dX1_init_84 : decode cX1_init 84 = .ok (.bipush 30, 2) := by decide +kernel
theorem dX1_init_86 : decode cX1_init 86 = .ok (.newarray .int, 2) := by decide +kernel
theorem dX1_init_88 : decode cX1_init 88 = .ok (.putfield 46, 3) := by decide +kernel
theorem dX1_init_91 : decode cX1_init 91 = .ok (.aload_n 0, 1) := by decide +kernel
theorem dX1_init_92 : decode cX1_init 92 = .ok (.iconst 0, 1) := by decide +kernel
theorem dX1_init_93 : decode cX1_init 93 = .ok (.putfield 49, 3) := by decide +kernel
theorem dX1_init_96 : decode cX1_init 96 = .ok (.aload_n 0, 1) := by decide +kernel
theorem dX1_init_97 : decode cX1_init 97 = .ok (.iconst 0, 1) := by decide +kernel
theorem dX1_init_98 : decode cX1_init 98 = .ok (.putfield 52, 3) := by decide +kernel
theorem dX1_init_101 : decode cX1_init 101 = .ok (.aload_n 0, 1) := by decide +kernel
theorem dX1_init_102 : decode cX1_init 102 = .ok (.bipush 10, 2) := by decide +kernel
theorem dX1_init_104 : decode cX1_init 104 = .ok (.newarray .int, 2) := by decide +kernel
theorem dX1_init_106 : decode cX1_init 106 = .ok (.putfield 55, 3) := by decide +kernel
theorem dX1_init_109 : decode cX1_init 109 = .ok (.aload_n 0, 1) := by decide +kernel
theorem dX1_init_110 : decode cX1_init 110 = .ok (.bipush 10, 2) := by decide +kernel
theorem dX1_init_112 : decode cX1_init 112 = .ok (.newarray .int, 2) := by decide +kernel
theorem dX1_init_114 : decode cX1_init 114 = .ok (.putfield 58, 3) := by decide +kernel
theorem dX1_init_117 : decode cX1_init 117 = .ok (.aload_n 0, 1) := by decide +kernel
theorem dX1_init_118 : decode cX1_init 118 = .ok (.bipush 10, 2) := by decide +kernel
theorem dX1_init_120 : decode cX1_init 120 = .ok (.newarray .int, 2) := by decide +kernel
theorem dX1_init_122 : decode cX1_init 122 = .ok (.putfield 61, 3) := by decide +kernel
theorem dX1_init_125 : decode cX1_init 125 = .ok (.aload_n 0, 1) := by decide +kernel
theorem dX1_init_126 : decode cX1_init 126 = .ok (.getfield 58, 3) := by decide +kernel
theorem dX1_init_129 : decode cX1_init 129 = .ok (.iconst (-1), 1) := by decide +kernel
theorem dX1_init_130 : decode cX1_init 130 = .ok (.invokestatic 64, 3) := by decide +kernel
theorem dX1_init_133 : decode cX1_init 133 = .ok (.aload_n 0, 1) := by decide +kernel
theorem dX1_init_134 : decode cX1_init 134 = .ok (.getfield 61, 3) := by decide +kernel
theorem dX1_init_137 : decode cX1_init 137 = .ok (.iconst (-1), 1) := by decide +kernel
theorem dX1_init_138 : decode cX1_init 138 = .ok (.invokestatic 64, 3) := by decide +kernel
theorem dX1_init_141 : decode cX1_init 141 = .ok (.return_, 1) := by decide +kernel
theorem dX1_addSheet_0 : decode cX1_addSheet 0 = .ok (.aload_n 0, 1) := by decide +kernel
theorem dX1_addSheet_1 : decode cX1_addSheet 1 = .ok (.getfield 9, 3) := by decide +kernel
theorem dX1_addSheet_4 : decode cX1_addSheet 4 = .ok (.istore 4, 2) := by decide +kernel
theorem dX1_addSheet_6 : decode cX1_addSheet 6 = .ok (.aload_n 0, 1) := by decide +kernel
theorem dX1_addSheet_7 : decode cX1_addSheet 7 = .ok (.getfield 15, 3) := by decide +kernel
theorem dX1_addSheet_10 : decode cX1_addSheet 10 = .ok (.iload 4, 2) := by decide +kernel
theorem dX1_addSheet_12 : decode cX1_addSheet 12 = .ok (.iload_n 1, 1) := by decide +kernel
theorem dX1_addSheet_13 : decode cX1_addSheet 13 = .ok (.iastore, 1) := by decide +kernel
theorem dX1_addSheet_14 : decode cX1_addSheet 14 = .ok (.aload_n 0, 1) := by decide +kernel
theorem dX1_addSheet_15 : decode cX1_addSheet 15 = .ok (.getfield 19, 3) := by decide +kernel
theorem dX1_addSheet_18 : decode cX1_addSheet 18 = .ok (.iload 4, 2) := by decide +kernel
theorem dX1_addSheet_20 : decode cX1_addSheet 20 = .ok (.iload_n 2, 1) := by decide +kernel
theorem dX1_addSheet_21 : decode cX1_addSheet 21 = .ok (.iastore, 1) := by decide +kernel
theorem dX1_addSheet_22 : decode cX1_addSheet 22 = .ok (.aload_n 0, 1) := by decide +kernel
theorem dX1_addSheet_23 : decode cX1_addSheet 23 = .ok (.getfield 22, 3) := by decide +kernel
theorem dX1_addSheet_26 : decode cX1_addSheet 26 = .ok (.iload 4, 2) := by decide +kernel
theorem dX1_addSheet_28 : decode cX1_addSheet 28 = .ok (.iload_n 3, 1) := by decide +kernel
theorem dX1_addSheet_29 : decode cX1_addSheet 29 = .ok (.iastore, 1) := by decide +kernel
theorem dX1_addSheet_30 : decode cX1_addSheet 30 = .ok (.aload_n 0, 1) := by decide +kernel
theorem dX1_addSheet_31 : decode cX1_addSheet 31 = .ok (.dup, 1) := by decide +kernel
theorem dX1_addSheet_32 : decode cX1_addSheet 32 = .ok (.getfield 9, 3) := by decide +kernel
theorem dX1_addSheet_35 : decode cX1_addSheet 35 = .ok (.iconst 1, 1) := by decide +kernel
theorem dX1_addSheet_36 : decode cX1_addSheet 36 = .ok (.iadd, 1) := by decide +kernel
theorem dX1_addSheet_37 : decode cX1_addSheet 37 = .ok (.putfield 9, 3) := by decide +kernel
theorem dX1_addSheet_40 : decode cX1_addSheet 40 = .ok (.iload 4, 2) := by decide +kernel
theorem dX1_addSheet_42 : decode cX1_addSheet 42 = .ok (.ireturn, 1) := by decide +kernel
theorem dX1_addPair_0 : decode cX1_addPair 0 = .ok (.aload_n 0, 1) := by decide +kernel
theorem dX1_addPair_1 : decode cX1_addPair 1 = .ok (.getfield 28, 3) := by decide +kernel
theorem dX1_addPair_4 : decode cX1_addPair 4 = .ok (.aload_n 0, 1) := by decide +kernel
theorem dX1_addPair_5 : decode cX1_addPair 5 = .ok (.getfield 25, 3) := by decide +kernel
theorem dX1_addPair_8 : decode cX1_addPair 8 = .ok (.iload_n 1, 1) := by decide +kernel
theorem dX1_addPair_9 : decode cX1_addPair 9 = .ok (.iastore, 1) := by decide +kernel
theorem dX1_addPair_10 : decode cX1_addPair 10 = .ok (.aload_n 0, 1) := by decide +kernel
theorem dX1_addPair_11 : decode cX1_addPair 11 = .ok (.getfield 31, 3) := by decide +kernel
theorem dX1_addPair_14 : decode cX1_addPair 14 = .ok (.aload_n 0, 1) := by decide +kernel
theorem dX1_addPair_15 : decode cX1_addPair 15 = .ok (.getfield 25, 3) := by decide +kernel
theorem dX1_addPair_18 : decode cX1_addPair 18 = .ok (.iload_n 2, 1) := by decide +kernel
theorem dX1_addPair_19 : decode cX1_addPair 19 = .ok (.iastore, 1) := by decide +kernel
theorem dX1_addPair_20 : decode cX1_addPair 20 = .ok (.aload_n 0, 1) := by decide +kernel
theorem dX1_addPair_21 : decode cX1_addPair 21 = .ok (.dup, 1) := by decide +kernel
theorem dX1_addPair_22 : decode cX1_addPair 22 = .ok (.getfield 25, 3) := by decide +kernel
theorem dX1_addPair_25 : decode cX1_addPair 25 = .ok (.iconst 1, 1) := by decide +kernel
theorem dX1_addPair_26 : decode cX1_addPair 26 = .ok (.iadd, 1) := by decide +kernel
theorem dX1_addPair_27 : decode cX1_addPair 27 = .ok (.putfield 25, 3) := by decide +kernel
theorem dX1_addPair_30 : decode cX1_addPair 30 = .ok (.aload_n 0, 1) := by decide +kernel
theorem dX1_addPair_31 : decode cX1_addPair 31 = .ok (.getfield 25, 3) := by decide +kernel
theorem dX1_addPair_34 : decode cX1_addPair 34 = .ok (.ireturn, 1) := by decide +kernel
theorem dX1_addSaying_0 : decode cX1_addSaying 0 = .ok (.aload_n 0, 1) := by decide +kernel
theorem dX1_addSaying_1 : decode cX1_addSaying 1 = .ok (.getfield 34, 3) := by decide +kernel
theorem dX1_addSaying_4 : decode cX1_addSaying 4 = .ok (.istore 5, 2) := by decide +kernel
theorem dX1_addSaying_6 : decode cX1_addSaying 6 = .ok (.aload_n 0, 1) := by decide +kernel
theorem dX1_addSaying_7 : decode cX1_addSaying 7 = .ok (.getfield 37, 3) := by decide +kernel
theorem dX1_addSaying_10 : decode cX1_addSaying 10 = .ok (.iload 5, 2) := by decide +kernel
theorem dX1_addSaying_12 : decode cX1_addSaying 12 = .ok (.iload_n 1, 1) := by decide +kernel
theorem dX1_addSaying_13 : decode cX1_addSaying 13 = .ok (.iastore, 1) := by decide +kernel
theorem dX1_addSaying_14 : decode cX1_addSaying 14 = .ok (.aload_n 0, 1) := by decide +kernel
theorem dX1_addSaying_15 : decode cX1_addSaying 15 = .ok (.getfield 40, 3) := by decide +kernel
theorem dX1_addSaying_18 : decode cX1_addSaying 18 = .ok (.iload 5, 2) := by decide +kernel
theorem dX1_addSaying_20 : decode cX1_addSaying 20 = .ok (.iload_n 2, 1) := by decide +kernel
theorem dX1_addSaying_21 : decode cX1_addSaying 21 = .ok (.iastore, 1) := by decide +kernel
theorem dX1_addSaying_22 : decode cX1_addSaying 22 = .ok (.aload_n 0, 1) := by decide +kernel
theorem dX1_addSaying_23 : decode cX1_addSaying 23 = .ok (.getfield 43, 3) := by decide +kernel
theorem dX1_addSaying_26 : decode cX1_addSaying 26 = .ok (.iload 5, 2) := by decide +kernel
theorem dX1_addSaying_28 : decode cX1_addSaying 28 = .ok (.iload_n 3, 1) := by decide +kernel
theorem dX1_addSaying_29 : decode cX1_addSaying 29 = .ok (.iastore, 1) := by decide +kernel
theorem dX1_addSaying_30 : decode cX1_addSaying 30 = .ok (.aload_n 0, 1) := by decide +kernel
theorem dX1_addSaying_31 : decode cX1_addSaying 31 = .ok (.getfield 46, 3) := by decide +kernel
theorem dX1_addSaying_34 : decode cX1_addSaying 34 = .ok (.iload 5, 2) := by decide +kernel
theorem dX1_addSaying_36 : decode cX1_addSaying 36 = .ok (.iload 4, 2) := by decide +kernel
theorem dX1_addSaying_38 : decode cX1_addSaying 38 = .ok (.iastore, 1) := by decide +kernel
theorem dX1_addSaying_39 : decode cX1_addSaying 39 = .ok (.aload_n 0, 1) := by decide +kernel
theorem dX1_addSaying_40 : decode cX1_addSaying 40 = .ok (.dup, 1) := by decide +kernel
theorem dX1_addSaying_41 : decode cX1_addSaying 41 = .ok (.getfield 34, 3) := by decide +kernel
theorem dX1_addSaying_44 : decode cX1_addSaying 44 = .ok (.iconst 1, 1) := by decide +kernel
theorem dX1_addSaying_45 : decode cX1_addSaying 45 = .ok (.iadd, 1) := by decide +kernel
theorem dX1_addSaying_46 : decode cX1_addSaying 46 = .ok (.putfield 34, 3) := by decide +kernel
theorem dX1_addSaying_49 : decode cX1_addSaying 49 = .ok (.iload 5, 2) := by decide +kernel
theorem dX1_addSaying_51 : decode cX1_addSaying 51 = .ok (.ireturn, 1) := by decide +kernel
theorem dX1_mark_0 : decode cX1_mark 0 = .ok (.aload_n 0, 1) := by decide +kernel
theorem dX1_mark_1 : decode cX1_mark 1 = .ok (.aload_n 0, 1) := by decide +kernel
theorem dX1_mark_2 : decode cX1_mark 2 = .ok (.getfield 49, 3) := by decide +kernel
theorem dX1_mark_5 : decode cX1_mark 5 = .ok (.iload_n 1, 1) := by decide +kernel
theorem dX1_mark_6 : decode cX1_mark 6 = .ok (.iload_n 2, 1) := by decide +kernel
theorem dX1_mark_7 : decode cX1_mark 7 = .ok (.invokestatic 70, 3) := by decide +kernel
theorem dX1_mark_10 : decode cX1_mark 10 = .ok (.putfield 49, 3) := by decide +kernel
theorem dX1_mark_13 : decode cX1_mark 13 = .ok (.aload_n 0, 1) := by decide +kernel
theorem dX1_mark_14 : decode cX1_mark 14 = .ok (.aload_n 0, 1) := by decide +kernel
theorem dX1_mark_15 : decode cX1_mark 15 = .ok (.getfield 52, 3) := by decide +kernel
theorem dX1_mark_18 : decode cX1_mark 18 = .ok (.iload_n 1, 1) := by decide +kernel
theorem dX1_mark_19 : decode cX1_mark 19 = .ok (.iload_n 3, 1) := by decide +kernel
theorem dX1_mark_20 : decode cX1_mark 20 = .ok (.invokestatic 70, 3) := by decide +kernel
theorem dX1_mark_23 : decode cX1_mark 23 = .ok (.putfield 52, 3) := by decide +kernel
theorem dX1_mark_26 : decode cX1_mark 26 = .ok (.return_, 1) := by decide +kernel
theorem dX1_isSeen_0 : decode cX1_isSeen 0 = .ok (.aload_n 0, 1) := by decide +kernel
theorem dX1_isSeen_1 : decode cX1_isSeen 1 = .ok (.getfield 49, 3) := by decide +kernel
theorem dX1_isSeen_4 : decode cX1_isSeen 4 = .ok (.iload_n 1, 1) := by decide +kernel
theorem dX1_isSeen_5 : decode cX1_isSeen 5 = .ok (.invokestatic 74, 3) := by decide +kernel
theorem dX1_isSeen_8 : decode cX1_isSeen 8 = .ok (.ireturn, 1) := by decide +kernel
theorem dX1_isDenied_0 : decode cX1_isDenied 0 = .ok (.aload_n 0, 1) := by decide +kernel
theorem dX1_isDenied_1 : decode cX1_isDenied 1 = .ok (.getfield 52, 3) := by decide +kernel
theorem dX1_isDenied_4 : decode cX1_isDenied 4 = .ok (.iload_n 1, 1) := by decide +kernel
theorem dX1_isDenied_5 : decode cX1_isDenied 5 = .ok (.invokestatic 74, 3) := by decide +kernel
theorem dX1_isDenied_8 : decode cX1_isDenied 8 = .ok (.ireturn, 1) := by decide +kernel
theorem dX1_hasHappened_0 : decode cX1_hasHappened 0 = .ok (.aload_n 0, 1) := by decide +kernel
theorem dX1_hasHappened_1 : decode cX1_hasHappened 1 = .ok (.getfield 58, 3) := by decide +kernel
theorem dX1_hasHappened_4 : decode cX1_hasHappened 4 = .ok (.iload_n 1, 1) := by decide +kernel
theorem dX1_hasHappened_5 : decode cX1_hasHappened 5 = .ok (.iaload, 1) := by decide +kernel
theorem dX1_hasHappened_6 : decode cX1_hasHappened 6 = .ok (.iconst (-1), 1) := by decide +kernel
theorem dX1_hasHappened_7 : decode cX1_hasHappened 7 = .ok (.if_icmp .eq 7, 3) := by decide +kernel
theorem dX1_hasHappened_10 : decode cX1_hasHappened 10 = .ok (.iconst 1, 1) := by decide +kernel
theorem dX1_hasHappened_11 : decode cX1_hasHappened 11 = .ok (.goto 4, 3) := by decide +kernel
theorem dX1_hasHappened_14 : decode cX1_hasHappened 14 = .ok (.iconst 0, 1) := by decide +kernel
theorem dX1_hasHappened_15 : decode cX1_hasHappened 15 = .ok (.ireturn, 1) := by decide +kernel
theorem dX1_townOf_0 : decode cX1_townOf 0 = .ok (.aload_n 0, 1) := by decide +kernel
theorem dX1_townOf_1 : decode cX1_townOf 1 = .ok (.getfield 15, 3) := by decide +kernel
theorem dX1_townOf_4 : decode cX1_townOf 4 = .ok (.aload_n 0, 1) := by decide +kernel
theorem dX1_townOf_5 : decode cX1_townOf 5 = .ok (.getfield 37, 3) := by decide +kernel
theorem dX1_townOf_8 : decode cX1_townOf 8 = .ok (.iload_n 1, 1) := by decide +kernel
theorem dX1_townOf_9 : decode cX1_townOf 9 = .ok (.iaload, 1) := by decide +kernel
theorem dX1_townOf_10 : decode cX1_townOf 10 = .ok (.iaload, 1) := by decide +kernel
theorem dX1_townOf_11 : decode cX1_townOf 11 = .ok (.ireturn, 1) := by decide +kernel
theorem dX1_writerOf_0 : decode cX1_writerOf 0 = .ok (.aload_n 0, 1) := by decide +kernel
theorem dX1_writerOf_1 : decode cX1_writerOf 1 = .ok (.getfield 19, 3) := by decide +kernel
theorem dX1_writerOf_4 : decode cX1_writerOf 4 = .ok (.aload_n 0, 1) := by decide +kernel
theorem dX1_writerOf_5 : decode cX1_writerOf 5 = .ok (.getfield 37, 3) := by decide +kernel
theorem dX1_writerOf_8 : decode cX1_writerOf 8 = .ok (.iload_n 1, 1) := by decide +kernel
theorem dX1_writerOf_9 : decode cX1_writerOf 9 = .ok (.iaload, 1) := by decide +kernel
theorem dX1_writerOf_10 : decode cX1_writerOf 10 = .ok (.iaload, 1) := by decide +kernel
theorem dX1_writerOf_11 : decode cX1_writerOf 11 = .ok (.ireturn, 1) := by decide +kernel
theorem dX1_unlikeness_0 : decode cX1_unlikeness 0 = .ok (.aload_n 0, 1) := by decide +kernel
theorem dX1_unlikeness_1 : decode cX1_unlikeness 1 = .ok (.getfield 46, 3) := by decide +kernel
theorem dX1_unlikeness_4 : decode cX1_unlikeness 4 = .ok (.iload_n 1, 1) := by decide +kernel
theorem dX1_unlikeness_5 : decode cX1_unlikeness 5 = .ok (.iaload, 1) := by decide +kernel
theorem dX1_unlikeness_6 : decode cX1_unlikeness 6 = .ok (.aload_n 0, 1) := by decide +kernel
theorem dX1_unlikeness_7 : decode cX1_unlikeness 7 = .ok (.getfield 46, 3) := by decide +kernel
theorem dX1_unlikeness_10 : decode cX1_unlikeness 10 = .ok (.iload_n 2, 1) := by decide +kernel
theorem dX1_unlikeness_11 : decode cX1_unlikeness 11 = .ok (.iaload, 1) := by decide +kernel
theorem dX1_unlikeness_12 : decode cX1_unlikeness 12 = .ok (.ixor, 1) := by decide +kernel
theorem dX1_unlikeness_13 : decode cX1_unlikeness 13 = .ok (.invokestatic 78, 3) := by decide +kernel
theorem dX1_unlikeness_16 : decode cX1_unlikeness 16 = .ok (.istore_n 3, 1) := by decide +kernel
theorem dX1_unlikeness_17 : decode cX1_unlikeness 17 = .ok (.aload_n 0, 1) := by decide +kernel
theorem dX1_unlikeness_18 : decode cX1_unlikeness 18 = .ok (.getfield 43, 3) := by decide +kernel
theorem dX1_unlikeness_21 : decode cX1_unlikeness 21 = .ok (.iload_n 1, 1) := by decide +kernel
theorem dX1_unlikeness_22 : decode cX1_unlikeness 22 = .ok (.iaload, 1) := by decide +kernel
theorem dX1_unlikeness_23 : decode cX1_unlikeness 23 = .ok (.istore 4, 2) := by decide +kernel
theorem dX1_unlikeness_25 : decode cX1_unlikeness 25 = .ok (.aload_n 0, 1) := by decide +kernel
theorem dX1_unlikeness_26 : decode cX1_unlikeness 26 = .ok (.getfield 43, 3) := by decide +kernel
theorem dX1_unlikeness_29 : decode cX1_unlikeness 29 = .ok (.iload_n 2, 1) := by decide +kernel
theorem dX1_unlikeness_30 : decode cX1_unlikeness 30 = .ok (.iaload, 1) := by decide +kernel
theorem dX1_unlikeness_31 : decode cX1_unlikeness 31 = .ok (.istore 5, 2) := by decide +kernel
theorem dX1_unlikeness_33 : decode cX1_unlikeness 33 = .ok (.iconst 0, 1) := by decide +kernel
theorem dX1_unlikeness_34 : decode cX1_unlikeness 34 = .ok (.istore 6, 2) := by decide +kernel
theorem dX1_unlikeness_36 : decode cX1_unlikeness 36 = .ok (.iload 6, 2) := by decide +kernel
theorem dX1_unlikeness_38 : decode cX1_unlikeness 38 = .ok (.iconst 4, 1) := by decide +kernel
theorem dX1_unlikeness_39 : decode cX1_unlikeness 39 = .ok (.if_icmp .ge 39, 3) := by decide +kernel
theorem dX1_unlikeness_42 : decode cX1_unlikeness 42 = .ok (.iload 4, 2) := by decide +kernel
theorem dX1_unlikeness_44 : decode cX1_unlikeness 44 = .ok (.bipush 10, 2) := by decide +kernel
theorem dX1_unlikeness_46 : decode cX1_unlikeness 46 = .ok (.irem, 1) := by decide +kernel
theorem dX1_unlikeness_47 : decode cX1_unlikeness 47 = .ok (.iload 5, 2) := by decide +kernel
theorem dX1_unlikeness_49 : decode cX1_unlikeness 49 = .ok (.bipush 10, 2) := by decide +kernel
theorem dX1_unlikeness_51 : decode cX1_unlikeness 51 = .ok (.irem, 1) := by decide +kernel
theorem dX1_unlikeness_52 : decode cX1_unlikeness 52 = .ok (.if_icmp .eq 6, 3) := by decide +kernel
theorem dX1_unlikeness_55 : decode cX1_unlikeness 55 = .ok (.iinc 3 3, 3) := by decide +kernel
theorem dX1_unlikeness_58 : decode cX1_unlikeness 58 = .ok (.iload 4, 2) := by decide +kernel
theorem dX1_unlikeness_60 : decode cX1_unlikeness 60 = .ok (.bipush 10, 2) := by decide +kernel
theorem dX1_unlikeness_62 : decode cX1_unlikeness 62 = .ok (.idiv, 1) := by decide +kernel
theorem dX1_unlikeness_63 : decode cX1_unlikeness 63 = .ok (.istore 4, 2) := by decide +kernel
theorem dX1_unlikeness_65 : decode cX1_unlikeness 65 = .ok (.iload 5, 2) := by decide +kernel
theorem dX1_unlikeness_67 : decode cX1_unlikeness 67 = .ok (.bipush 10, 2) := by decide +kernel
theorem dX1_unlikeness_69 : decode cX1_unlikeness 69 = .ok (.idiv, 1) := by decide +kernel
theorem dX1_unlikeness_70 : decode cX1_unlikeness 70 = .ok (.istore 5, 2) := by decide +kernel
theorem dX1_unlikeness_72 : decode cX1_unlikeness 72 = .ok (.iinc 6 1, 3) := by decide +kernel
theorem dX1_unlikeness_75 : decode cX1_unlikeness 75 = .ok (.goto (-39), 3) := by decide +kernel
theorem dX1_unlikeness_78 : decode cX1_unlikeness 78 = .ok (.iload_n 3, 1) := by decide +kernel
theorem dX1_unlikeness_79 : decode cX1_unlikeness 79 = .ok (.ireturn, 1) := by decide +kernel
theorem dX1_copyFrom_0 : decode cX1_copyFrom 0 = .ok (.aload_n 0, 1) := by decide +kernel
theorem dX1_copyFrom_1 : decode cX1_copyFrom 1 = .ok (.aload_n 1, 1) := by decide +kernel
theorem dX1_copyFrom_2 : decode cX1_copyFrom 2 = .ok (.getfield 9, 3) := by decide +kernel
theorem dX1_copyFrom_5 : decode cX1_copyFrom 5 = .ok (.putfield 9, 3) := by decide +kernel
theorem dX1_copyFrom_8 : decode cX1_copyFrom 8 = .ok (.aload_n 1, 1) := by decide +kernel
theorem dX1_copyFrom_9 : decode cX1_copyFrom 9 = .ok (.getfield 15, 3) := by decide +kernel
theorem dX1_copyFrom_12 : decode cX1_copyFrom 12 = .ok (.iconst 0, 1) := by decide +kernel
theorem dX1_copyFrom_13 : decode cX1_copyFrom 13 = .ok (.aload_n 0, 1) := by decide +kernel
theorem dX1_copyFrom_14 : decode cX1_copyFrom 14 = .ok (.getfield 15, 3) := by decide +kernel
theorem dX1_copyFrom_17 : decode cX1_copyFrom 17 = .ok (.iconst 0, 1) := by decide +kernel
theorem dX1_copyFrom_18 : decode cX1_copyFrom 18 = .ok (.bipush 12, 2) := by decide +kernel
theorem dX1_copyFrom_20 : decode cX1_copyFrom 20 = .ok (.invokestatic 84, 3) := by decide +kernel
theorem dX1_copyFrom_23 : decode cX1_copyFrom 23 = .ok (.aload_n 1, 1) := by decide +kernel
theorem dX1_copyFrom_24 : decode cX1_copyFrom 24 = .ok (.getfield 19, 3) := by decide +kernel
theorem dX1_copyFrom_27 : decode cX1_copyFrom 27 = .ok (.iconst 0, 1) := by decide +kernel
theorem dX1_copyFrom_28 : decode cX1_copyFrom 28 = .ok (.aload_n 0, 1) := by decide +kernel
theorem dX1_copyFrom_29 : decode cX1_copyFrom 29 = .ok (.getfield 19, 3) := by decide +kernel
theorem dX1_copyFrom_32 : decode cX1_copyFrom 32 = .ok (.iconst 0, 1) := by decide +kernel
theorem dX1_copyFrom_33 : decode cX1_copyFrom 33 = .ok (.bipush 12, 2) := by decide +kernel
theorem dX1_copyFrom_35 : decode cX1_copyFrom 35 = .ok (.invokestatic 84, 3) := by decide +kernel
theorem dX1_copyFrom_38 : decode cX1_copyFrom 38 = .ok (.aload_n 1, 1) := by decide +kernel
theorem dX1_copyFrom_39 : decode cX1_copyFrom 39 = .ok (.getfield 22, 3) := by decide +kernel
theorem dX1_copyFrom_42 : decode cX1_copyFrom 42 = .ok (.iconst 0, 1) := by decide +kernel
theorem dX1_copyFrom_43 : decode cX1_copyFrom 43 = .ok (.aload_n 0, 1) := by decide +kernel
theorem dX1_copyFrom_44 : decode cX1_copyFrom 44 = .ok (.getfield 22, 3) := by decide +kernel
theorem dX1_copyFrom_47 : decode cX1_copyFrom 47 = .ok (.iconst 0, 1) := by decide +kernel
theorem dX1_copyFrom_48 : decode cX1_copyFrom 48 = .ok (.bipush 12, 2) := by decide +kernel
theorem dX1_copyFrom_50 : decode cX1_copyFrom 50 = .ok (.invokestatic 84, 3) := by decide +kernel
theorem dX1_copyFrom_53 : decode cX1_copyFrom 53 = .ok (.aload_n 0, 1) := by decide +kernel
theorem dX1_copyFrom_54 : decode cX1_copyFrom 54 = .ok (.aload_n 1, 1) := by decide +kernel
theorem dX1_copyFrom_55 : decode cX1_copyFrom 55 = .ok (.getfield 25, 3) := by decide +kernel
theorem dX1_copyFrom_58 : decode cX1_copyFrom 58 = .ok (.putfield 25, 3) := by decide +kernel
theorem dX1_copyFrom_61 : decode cX1_copyFrom 61 = .ok (.aload_n 1, 1) := by decide +kernel
theorem dX1_copyFrom_62 : decode cX1_copyFrom 62 = .ok (.getfield 28, 3) := by decide +kernel
theorem dX1_copyFrom_65 : decode cX1_copyFrom 65 = .ok (.iconst 0, 1) := by decide +kernel
theorem dX1_copyFrom_66 : decode cX1_copyFrom 66 = .ok (.aload_n 0, 1) := by decide +kernel
theorem dX1_copyFrom_67 : decode cX1_copyFrom 67 = .ok (.getfield 28, 3) := by decide +kernel
theorem dX1_copyFrom_70 : decode cX1_copyFrom 70 = .ok (.iconst 0, 1) := by decide +kernel
theorem dX1_copyFrom_71 : decode cX1_copyFrom 71 = .ok (.bipush 20, 2) := by decide +kernel
theorem dX1_copyFrom_73 : decode cX1_copyFrom 73 = .ok (.invokestatic 84, 3) := by decide +kernel
theorem dX1_copyFrom_76 : decode cX1_copyFrom 76 = .ok (.aload_n 1, 1) := by decide +kernel
theorem dX1_copyFrom_77 : decode cX1_copyFrom 77 = .ok (.getfield 31, 3) := by decide +kernel
theorem dX1_copyFrom_80 : decode cX1_copyFrom 80 = .ok (.iconst 0, 1) := by decide +kernel
theorem dX1_copyFrom_81 : decode cX1_copyFrom 81 = .ok (.aload_n 0, 1) := by decide +kernel
theorem dX1_copyFrom_82 : decode cX1_copyFrom 82 = .ok (.getfield 31, 3) := by decide +kernel
theorem dX1_copyFrom_85 : decode cX1_copyFrom 85 = .ok (.iconst 0, 1) := by decide +kernel
theorem dX1_copyFrom_86 : decode cX1_copyFrom 86 = .ok (.bipush 20, 2) := by decide +kernel
theorem dX1_copyFrom_88 : decode cX1_copyFrom 88 = .ok (.invokestatic 84, 3) := by decide +kernel
theorem dX1_copyFrom_91 : decode cX1_copyFrom 91 = .ok (.aload_n 0, 1) := by decide +kernel
theorem dX1_copyFrom_92 : decode cX1_copyFrom 92 = .ok (.aload_n 1, 1) := by decide +kernel
theorem dX1_copyFrom_93 : decode cX1_copyFrom 93 = .ok (.getfield 34, 3) := by decide +kernel
theorem dX1_copyFrom_96 : decode cX1_copyFrom 96 = .ok (.putfield 34, 3) := by decide +kernel
theorem dX1_copyFrom_99 : decode cX1_copyFrom 99 = .ok (.aload_n 1, 1) := by decide +kernel
theorem dX1_copyFrom_100 : decode cX1_copyFrom 100 = .ok (.getfield 37, 3) := by decide +kernel
theorem dX1_copyFrom_103 : decode cX1_copyFrom 103 = .ok (.iconst 0, 1) := by decide +kernel
theorem dX1_copyFrom_104 : decode cX1_copyFrom 104 = .ok (.aload_n 0, 1) := by decide +kernel
theorem dX1_copyFrom_105 : decode cX1_copyFrom 105 = .ok (.getfield 37, 3) := by decide +kernel
theorem dX1_copyFrom_108 : decode cX1_copyFrom 108 = .ok (.iconst 0, 1) := by decide +kernel
theorem dX1_copyFrom_109 : decode cX1_copyFrom 109 = .ok (.bipush 30, 2) := by decide +kernel
theorem dX1_copyFrom_111 : decode cX1_copyFrom 111 = .ok (.invokestatic 84, 3) := by decide +kernel
theorem dX1_copyFrom_114 : decode cX1_copyFrom 114 = .ok (.aload_n 1, 1) := by decide +kernel
theorem dX1_copyFrom_115 : decode cX1_copyFrom 115 = .ok (.getfield 40, 3) := by decide +kernel
theorem dX1_copyFrom_118 : decode cX1_copyFrom 118 = .ok (.iconst 0, 1) := by decide +kernel
theorem dX1_copyFrom_119 : decode cX1_copyFrom 119 = .ok (.aload_n 0, 1) := by decide +kernel
theorem dX1_copyFrom_120 : decode cX1_copyFrom 120 = .ok (.getfield 40, 3) := by decide +kernel
theorem dX1_copyFrom_123 : decode cX1_copyFrom 123 = .ok (.iconst 0, 1) := by decide +kernel
theorem dX1_copyFrom_124 : decode cX1_copyFrom 124 = .ok (.bipush 30, 2) := by decide +kernel
theorem dX1_copyFrom_126 : decode cX1_copyFrom 126 = .ok (.invokestatic 84, 3) := by decide +kernel
theorem dX1_copyFrom_129 : decode cX1_copyFrom 129 = .ok (.aload_n 1, 1) := by decide +kernel
theorem dX1_copyFrom_130 : decode cX1_copyFrom 130 = .ok (.getfield 43, 3) := by decide +kernel
theorem dX1_copyFrom_133 : decode cX1_copyFrom 133 = .ok (.iconst 0, 1) := by decide +kernel
theorem dX1_copyFrom_134 : decode cX1_copyFrom 134 = .ok (.aload_n 0, 1) := by decide +kernel
theorem dX1_copyFrom_135 : decode cX1_copyFrom 135 = .ok (.getfield 43, 3) := by decide +kernel
theorem dX1_copyFrom_138 : decode cX1_copyFrom 138 = .ok (.iconst 0, 1) := by decide +kernel
theorem dX1_copyFrom_139 : decode cX1_copyFrom 139 = .ok (.bipush 30, 2) := by decide +kernel
theorem dX1_copyFrom_141 : decode cX1_copyFrom 141 = .ok (.invokestatic 84, 3) := by decide +kernel
theorem dX1_copyFrom_144 : decode cX1_copyFrom 144 = .ok (.aload_n 1, 1) := by decide +kernel
theorem dX1_copyFrom_145 : decode cX1_copyFrom 145 = .ok (.getfield 46, 3) := by decide +kernel
theorem dX1_copyFrom_148 : decode cX1_copyFrom 148 = .ok (.iconst 0, 1) := by decide +kernel
theorem dX1_copyFrom_149 : decode cX1_copyFrom 149 = .ok (.aload_n 0, 1) := by decide +kernel
theorem dX1_copyFrom_150 : decode cX1_copyFrom 150 = .ok (.getfield 46, 3) := by decide +kernel
theorem dX1_copyFrom_153 : decode cX1_copyFrom 153 = .ok (.iconst 0, 1) := by decide +kernel
theorem dX1_copyFrom_154 : decode cX1_copyFrom 154 = .ok (.bipush 30, 2) := by decide +kernel
theorem dX1_copyFrom_156 : decode cX1_copyFrom 156 = .ok (.invokestatic 84, 3) := by decide +kernel
theorem dX1_copyFrom_159 : decode cX1_copyFrom 159 = .ok (.aload_n 0, 1) := by decide +kernel
theorem dX1_copyFrom_160 : decode cX1_copyFrom 160 = .ok (.aload_n 1, 1) := by decide +kernel
theorem dX1_copyFrom_161 : decode cX1_copyFrom 161 = .ok (.getfield 49, 3) := by decide +kernel
theorem dX1_copyFrom_164 : decode cX1_copyFrom 164 = .ok (.putfield 49, 3) := by decide +kernel
theorem dX1_copyFrom_167 : decode cX1_copyFrom 167 = .ok (.aload_n 0, 1) := by decide +kernel
theorem dX1_copyFrom_168 : decode cX1_copyFrom 168 = .ok (.aload_n 1, 1) := by decide +kernel
theorem dX1_copyFrom_169 : decode cX1_copyFrom 169 = .ok (.getfield 52, 3) := by decide +kernel
theorem dX1_copyFrom_172 : decode cX1_copyFrom 172 = .ok (.putfield 52, 3) := by decide +kernel
theorem dX1_copyFrom_175 : decode cX1_copyFrom 175 = .ok (.aload_n 1, 1) := by decide +kernel
theorem dX1_copyFrom_176 : decode cX1_copyFrom 176 = .ok (.getfield 55, 3) := by decide +kernel
theorem dX1_copyFrom_179 : decode cX1_copyFrom 179 = .ok (.iconst 0, 1) := by decide +kernel
theorem dX1_copyFrom_180 : decode cX1_copyFrom 180 = .ok (.aload_n 0, 1) := by decide +kernel
theorem dX1_copyFrom_181 : decode cX1_copyFrom 181 = .ok (.getfield 55, 3) := by decide +kernel
theorem dX1_copyFrom_184 : decode cX1_copyFrom 184 = .ok (.iconst 0, 1) := by decide +kernel
theorem dX1_copyFrom_185 : decode cX1_copyFrom 185 = .ok (.bipush 10, 2) := by decide +kernel
theorem dX1_copyFrom_187 : decode cX1_copyFrom 187 = .ok (.invokestatic 84, 3) := by decide +kernel
theorem dX1_copyFrom_190 : decode cX1_copyFrom 190 = .ok (.aload_n 1, 1) := by decide +kernel
theorem dX1_copyFrom_191 : decode cX1_copyFrom 191 = .ok (.getfield 58, 3) := by decide +kernel
theorem dX1_copyFrom_194 : decode cX1_copyFrom 194 = .ok (.iconst 0, 1) := by decide +kernel
theorem dX1_copyFrom_195 : decode cX1_copyFrom 195 = .ok (.aload_n 0, 1) := by decide +kernel
theorem dX1_copyFrom_196 : decode cX1_copyFrom 196 = .ok (.getfield 58, 3) := by decide +kernel
theorem dX1_copyFrom_199 : decode cX1_copyFrom 199 = .ok (.iconst 0, 1) := by decide +kernel
theorem dX1_copyFrom_200 : decode cX1_copyFrom 200 = .ok (.bipush 10, 2) := by decide +kernel
theorem dX1_copyFrom_202 : decode cX1_copyFrom 202 = .ok (.invokestatic 84, 3) := by decide +kernel
theorem dX1_copyFrom_205 : decode cX1_copyFrom 205 = .ok (.aload_n 1, 1) := by decide +kernel
theorem dX1_copyFrom_206 : decode cX1_copyFrom 206 = .ok (.getfield 61, 3) := by decide +kernel
theorem dX1_copyFrom_209 : decode cX1_copyFrom 209 = .ok (.iconst 0, 1) := by decide +kernel
theorem dX1_copyFrom_210 : decode cX1_copyFrom 210 = .ok (.aload_n 0, 1) := by decide +kernel
theorem dX1_copyFrom_211 : decode cX1_copyFrom 211 = .ok (.getfield 61, 3) := by decide +kernel
theorem dX1_copyFrom_214 : decode cX1_copyFrom 214 = .ok (.iconst 0, 1) := by decide +kernel
theorem dX1_copyFrom_215 : decode cX1_copyFrom 215 = .ok (.bipush 10, 2) := by decide +kernel
theorem dX1_copyFrom_217 : decode cX1_copyFrom 217 = .ok (.invokestatic 84, 3) := by decide +kernel
theorem dX1_copyFrom_220 : decode cX1_copyFrom 220 = .ok (.return_, 1) := by decide +kernel
theorem dX2_init_0 : decode cX2_init 0 = .ok (.aload_n 0, 1) := by decide +kernel
theorem dX2_init_1 : decode cX2_init 1 = .ok (.invokespecial 3, 3) := by decide +kernel
theorem dX2_init_4 : decode cX2_init 4 = .ok (.aload_n 0, 1) := by decide +kernel
theorem dX2_init_5 : decode cX2_init 5 = .ok (.bipush 36, 2) := by decide +kernel
theorem dX2_init_7 : decode cX2_init 7 = .ok (.newarray .int, 2) := by decide +kernel
theorem dX2_init_9 : decode cX2_init 9 = .ok (.putfield 9, 3) := by decide +kernel
theorem dX2_init_12 : decode cX2_init 12 = .ok (.aload_n 0, 1) := by decide +kernel
theorem dX2_init_13 : decode cX2_init 13 = .ok (.bipush 36, 2) := by decide +kernel
theorem dX2_init_15 : decode cX2_init 15 = .ok (.newarray .int, 2) := by decide +kernel
theorem dX2_init_17 : decode cX2_init 17 = .ok (.putfield 15, 3) := by decide +kernel
theorem dX2_init_20 : decode cX2_init 20 = .ok (.aload_n 0, 1) := by decide +kernel
theorem dX2_init_21 : decode cX2_init 21 = .ok (.bipush 36, 2) := by decide +kernel
theorem dX2_init_23 : decode cX2_init 23 = .ok (.newarray .int, 2) := by decide +kernel
theorem dX2_init_25 : decode cX2_init 25 = .ok (.putfield 18, 3) := by decide +kernel
theorem dX2_init_28 : decode cX2_init 28 = .ok (.aload_n 0, 1) := by decide +kernel
theorem dX2_init_29 : decode cX2_init 29 = .ok (.bipush 36, 2) := by decide +kernel
theorem dX2_init_31 : decode cX2_init 31 = .ok (.newarray .int, 2) := by decide +kernel
theorem dX2_init_33 : decode cX2_init 33 = .ok (.putfield 21, 3) := by decide +kernel
theorem dX2_init_36 : decode cX2_init 36 = .ok (.aload_n 0, 1) := by decide +kernel
theorem dX2_init_37 : decode cX2_init 37 = .ok (.iconst 0, 1) := by decide +kernel
theorem dX2_init_38 : decode cX2_init 38 = .ok (.putfield 24, 3) := by decide +kernel
theorem dX2_init_41 : decode cX2_init 41 = .ok (.aload_n 0, 1) := by decide +kernel
theorem dX2_init_42 : decode cX2_init 42 = .ok (.invokevirtual 28, 3) := by decide +kernel
theorem dX2_init_45 : decode cX2_init 45 = .ok (.return_, 1) := by decide +kernel
theorem dX2_tell_0 : decode cX2_tell 0 = .ok (.iload_n 1, 1) := by decide +kernel
theorem dX2_tell_1 : decode cX2_tell 1 = .ok (.bipush 6, 2) := by decide +kernel
theorem dX2_tell_3 : decode cX2_tell 3 = .ok (.imul, 1) := by decide +kernel
theorem dX2_tell_4 : decode cX2_tell 4 = .ok (.iload_n 2, 1) := by decide +kernel
theorem dX2_tell_5 : decode cX2_tell 5 = .ok (.iadd, 1) := by decide +kernel
theorem dX2_tell_6 : decode cX2_tell 6 = .ok (.istore 5, 2) := by decide +kernel
theorem dX2_tell_8 : decode cX2_tell 8 = .ok (.aload_n 0, 1) := by decide +kernel
theorem dX2_tell_9 : decode cX2_tell 9 = .ok (.getfield 9, 3) := by decide +kernel
theorem dX2_tell_12 : decode cX2_tell 12 = .ok (.iload 5, 2) := by decide +kernel
theorem dX2_tell_14 : decode cX2_tell 14 = .ok (.iaload, 1) := by decide +kernel
theorem dX2_tell_15 : decode cX2_tell 15 = .ok (.ifCond .ne 13, 3) := by decide +kernel
theorem dX2_tell_18 : decode cX2_tell 18 = .ok (.aload_n 0, 1) := by decide +kernel
theorem dX2_tell_19 : decode cX2_tell 19 = .ok (.dup, 1) := by decide +kernel
theorem dX2_tell_20 : decode cX2_tell 20 = .ok (.getfield 24, 3) := by decide +kernel
theorem dX2_tell_23 : decode cX2_tell 23 = .ok (.iconst 1, 1) := by decide +kernel
theorem dX2_tell_24 : decode cX2_tell 24 = .ok (.iadd, 1) := by decide +kernel
theorem dX2_tell_25 : decode cX2_tell 25 = .ok (.putfield 24, 3) := by decide +kernel
theorem dX2_tell_28 : decode cX2_tell 28 = .ok (.aload_n 0, 1) := by decide +kernel
theorem dX2_tell_29 : decode cX2_tell 29 = .ok (.getfield 9, 3) := by decide +kernel
theorem dX2_tell_32 : decode cX2_tell 32 = .ok (.iload 5, 2) := by decide +kernel
theorem dX2_tell_34 : decode cX2_tell 34 = .ok (.iload_n 3, 1) := by decide +kernel
theorem dX2_tell_35 : decode cX2_tell 35 = .ok (.iastore, 1) := by decide +kernel
theorem dX2_tell_36 : decode cX2_tell 36 = .ok (.aload_n 0, 1) := by decide +kernel
theorem dX2_tell_37 : decode cX2_tell 37 = .ok (.getfield 15, 3) := by decide +kernel
theorem dX2_tell_40 : decode cX2_tell 40 = .ok (.iload 5, 2) := by decide +kernel
theorem dX2_tell_42 : decode cX2_tell 42 = .ok (.iload 4, 2) := by decide +kernel
theorem dX2_tell_44 : decode cX2_tell 44 = .ok (.iastore, 1) := by decide +kernel
theorem dX2_tell_45 : decode cX2_tell 45 = .ok (.aload_n 0, 1) := by decide +kernel
theorem dX2_tell_46 : decode cX2_tell 46 = .ok (.invokevirtual 28, 3) := by decide +kernel
theorem dX2_tell_49 : decode cX2_tell 49 = .ok (.return_, 1) := by decide +kernel
theorem dX2_leads_0 : decode cX2_leads 0 = .ok (.aload_n 0, 1) := by decide +kernel
theorem dX2_leads_1 : decode cX2_leads 1 = .ok (.getfield 18, 3) := by decide +kernel
theorem dX2_leads_4 : decode cX2_leads 4 = .ok (.iload_n 1, 1) := by decide +kernel
theorem dX2_leads_5 : decode cX2_leads 5 = .ok (.bipush 6, 2) := by decide +kernel
theorem dX2_leads_7 : decode cX2_leads 7 = .ok (.imul, 1) := by decide +kernel
theorem dX2_leads_8 : decode cX2_leads 8 = .ok (.iload_n 2, 1) := by decide +kernel
theorem dX2_leads_9 : decode cX2_leads 9 = .ok (.iadd, 1) := by decide +kernel
theorem dX2_leads_10 : decode cX2_leads 10 = .ok (.iaload, 1) := by decide +kernel
theorem dX2_leads_11 : decode cX2_leads 11 = .ok (.ldc 31, 2) := by decide +kernel
theorem dX2_leads_13 : decode cX2_leads 13 = .ok (.if_icmp .ge 7, 3) := by decide +kernel
theorem dX2_leads_16 : decode cX2_leads 16 = .ok (.iconst 1, 1) := by decide +kernel
theorem dX2_leads_17 : decode cX2_leads 17 = .ok (.goto 4, 3) := by decide +kernel
theorem dX2_leads_20 : decode cX2_leads 20 = .ok (.iconst 0, 1) := by decide +kernel
theorem dX2_leads_21 : decode cX2_leads 21 = .ok (.ireturn, 1) := by decide +kernel
theorem dX2_days_0 : decode cX2_days 0 = .ok (.aload_n 0, 1) := by decide +kernel
theorem dX2_days_1 : decode cX2_days 1 = .ok (.getfield 18, 3) := by decide +kernel
theorem dX2_days_4 : decode cX2_days 4 = .ok (.iload_n 1, 1) := by decide +kernel
theorem dX2_days_5 : decode cX2_days 5 = .ok (.bipush 6, 2) := by decide +kernel
theorem dX2_days_7 : decode cX2_days 7 = .ok (.imul, 1) := by decide +kernel
theorem dX2_days_8 : decode cX2_days 8 = .ok (.iload_n 2, 1) := by decide +kernel
theorem dX2_days_9 : decode cX2_days 9 = .ok (.iadd, 1) := by decide +kernel
theorem dX2_days_10 : decode cX2_days 10 = .ok (.iaload, 1) := by decide +kernel
theorem dX2_days_11 : decode cX2_days 11 = .ok (.ireturn, 1) := by decide +kernel
theorem dX2_slowestDays_0 : decode cX2_slowestDays 0 = .ok (.aload_n 0, 1) := by decide +kernel
theorem dX2_slowestDays_1 : decode cX2_slowestDays 1 = .ok (.getfield 21, 3) := by decide +kernel
theorem dX2_slowestDays_4 : decode cX2_slowestDays 4 = .ok (.iload_n 1, 1) := by decide +kernel
theorem dX2_slowestDays_5 : decode cX2_slowestDays 5 = .ok (.bipush 6, 2) := by decide +kernel
theorem dX2_slowestDays_7 : decode cX2_slowestDays 7 = .ok (.imul, 1) := by decide +kernel
theorem dX2_slowestDays_8 : decode cX2_slowestDays 8 = .ok (.iload_n 2, 1) := by decide +kernel
theorem dX2_slowestDays_9 : decode cX2_slowestDays 9 = .ok (.iadd, 1) := by decide +kernel
theorem dX2_slowestDays_10 : decode cX2_slowestDays 10 = .ok (.iaload, 1) := by decide +kernel
theorem dX2_slowestDays_11 : decode cX2_slowestDays 11 = .ok (.ireturn, 1) := by decide +kernel
theorem dX2_reckon_0 : decode cX2_reckon 0 = .ok (.aload_n 0, 1) := by decide +kernel
theorem dX2_reckon_1 : decode cX2_reckon 1 = .ok (.invokevirtual 32, 3) := by decide +kernel
theorem dX2_reckon_4 : decode cX2_reckon 4 = .ok (.iconst 0, 1) := by decide +kernel
theorem dX2_reckon_5 : decode cX2_reckon 5 = .ok (.istore_n 1, 1) := by decide +kernel
theorem dX2_reckon_6 : decode cX2_reckon 6 = .ok (.iload_n 1, 1) := by decide +kernel
theorem dX2_reckon_7 : decode cX2_reckon 7 = .ok (.bipush 6, 2) := by decide +kernel
theorem dX2_reckon_9 : decode cX2_reckon 9 = .ok (.if_icmp .ge 44, 3) := by decide +kernel
theorem dX2_reckon_12 : decode cX2_reckon 12 = .ok (.iconst 0, 1) := by decide +kernel
theorem dX2_reckon_13 : decode cX2_reckon 13 = .ok (.istore_n 2, 1) := by decide +kernel
theorem dX2_reckon_14 : decode cX2_reckon 14 = .ok (.iload_n 2, 1) := by decide +kernel
theorem dX2_reckon_15 : decode cX2_reckon 15 = .ok (.bipush 6, 2) := by decide +kernel
theorem dX2_reckon_17 : decode cX2_reckon 17 = .ok (.if_icmp .ge 30, 3) := by decide +kernel
theorem dX2_reckon_20 : decode cX2_reckon 20 = .ok (.iconst 0, 1) := by decide +kernel
theorem dX2_reckon_21 : decode cX2_reckon 21 = .ok (.istore_n 3, 1) := by decide +kernel
theorem dX2_reckon_22 : decode cX2_reckon 22 = .ok (.iload_n 3, 1) := by decide +kernel
theorem dX2_reckon_23 : decode cX2_reckon 23 = .ok (.bipush 6, 2) := by decide +kernel
theorem dX2_reckon_25 : decode cX2_reckon 25 = .ok (.if_icmp .ge 16, 3) := by decide +kernel
theorem dX2_reckon_28 : decode cX2_reckon 28 = .ok (.aload_n 0, 1) := by decide +kernel
theorem dX2_reckon_29 : decode cX2_reckon 29 = .ok (.iload_n 2, 1) := by decide +kernel
theorem dX2_reckon_30 : decode cX2_reckon 30 = .ok (.iload_n 1, 1) := by decide +kernel
theorem dX2_reckon_31 : decode cX2_reckon 31 = .ok (.iload_n 3, 1) := by decide +kernel
theorem dX2_reckon_32 : decode cX2_reckon 32 = .ok (.invokevirtual 35, 3) := by decide +kernel
theorem dX2_reckon_35 : decode cX2_reckon 35 = .ok (.iinc 3 1, 3) := by decide +kernel
theorem dX2_reckon_38 : decode cX2_reckon 38 = .ok (.goto (-16), 3) := by decide +kernel
theorem dX2_reckon_41 : decode cX2_reckon 41 = .ok (.iinc 2 1, 3) := by decide +kernel
theorem dX2_reckon_44 : decode cX2_reckon 44 = .ok (.goto (-30), 3) := by decide +kernel
theorem dX2_reckon_47 : decode cX2_reckon 47 = .ok (.iinc 1 1, 3) := by decide +kernel
theorem dX2_reckon_50 : decode cX2_reckon 50 = .ok (.goto (-44), 3) := by decide +kernel
theorem dX2_reckon_53 : decode cX2_reckon 53 = .ok (.return_, 1) := by decide +kernel
theorem dX2_layPosts_0 : decode cX2_layPosts 0 = .ok (.iconst 0, 1) := by decide +kernel
theorem dX2_layPosts_1 : decode cX2_layPosts 1 = .ok (.istore_n 1, 1) := by decide +kernel
theorem dX2_layPosts_2 : decode cX2_layPosts 2 = .ok (.iload_n 1, 1) := by decide +kernel
theorem dX2_layPosts_3 : decode cX2_layPosts 3 = .ok (.bipush 36, 2) := by decide +kernel
theorem dX2_layPosts_5 : decode cX2_layPosts 5 = .ok (.if_icmp .ge 72, 3) := by decide +kernel
theorem dX2_layPosts_8 : decode cX2_layPosts 8 = .ok (.iload_n 1, 1) := by decide +kernel
theorem dX2_layPosts_9 : decode cX2_layPosts 9 = .ok (.bipush 6, 2) := by decide +kernel
theorem dX2_layPosts_11 : decode cX2_layPosts 11 = .ok (.idiv, 1) := by decide +kernel
theorem dX2_layPosts_12 : decode cX2_layPosts 12 = .ok (.iload_n 1, 1) := by decide +kernel
theorem dX2_layPosts_13 : decode cX2_layPosts 13 = .ok (.bipush 6, 2) := by decide +kernel
theorem dX2_layPosts_15 : decode cX2_layPosts 15 = .ok (.irem, 1) := by decide +kernel
theorem dX2_layPosts_16 : decode cX2_layPosts 16 = .ok (.if_icmp .ne 7, 3) := by decide +kernel
theorem dX2_layPosts_19 : decode cX2_layPosts 19 = .ok (.iconst 1, 1) := by decide +kernel
theorem dX2_layPosts_20 : decode cX2_layPosts 20 = .ok (.goto 4, 3) := by decide +kernel
theorem dX2_layPosts_23 : decode cX2_layPosts 23 = .ok (.iconst 0, 1) := by decide +kernel
theorem dX2_layPosts_24 : decode cX2_layPosts 24 = .ok (.istore_n 2, 1) := by decide +kernel
theorem dX2_layPosts_25 : decode cX2_layPosts 25 = .ok (.aload_n 0, 1) := by decide +kernel
theorem dX2_layPosts_26 : decode cX2_layPosts 26 = .ok (.getfield 18, 3) := by decide +kernel
theorem dX2_layPosts_29 : decode cX2_layPosts 29 = .ok (.iload_n 1, 1) := by decide +kernel
theorem dX2_layPosts_30 : decode cX2_layPosts 30 = .ok (.iload_n 2, 1) := by decide +kernel
theorem dX2_layPosts_31 : decode cX2_layPosts 31 = .ok (.ifCond .eq 7, 3) := by decide +kernel
theorem dX2_layPosts_34 : decode cX2_layPosts 34 = .ok (.iconst 0, 1) := by decide +kernel
theorem dX2_layPosts_35 : decode cX2_layPosts 35 = .ok (.goto 23, 3) := by decide +kernel
theorem dX2_layPosts_38 : decode cX2_layPosts 38 = .ok (.aload_n 0, 1) := by decide +kernel
theorem dX2_layPosts_39 : decode cX2_layPosts 39 = .ok (.getfield 9, 3) := by decide +kernel
theorem dX2_layPosts_42 : decode cX2_layPosts 42 = .ok (.iload_n 1, 1) := by decide +kernel
theorem dX2_layPosts_43 : decode cX2_layPosts 43 = .ok (.iaload, 1) := by decide +kernel
theorem dX2_layPosts_44 : decode cX2_layPosts 44 = .ok (.ifCond .le 12, 3) := by decide +kernel
theorem dX2_layPosts_47 : decode cX2_layPosts 47 = .ok (.aload_n 0, 1) := by decide +kernel
theorem dX2_layPosts_48 : decode cX2_layPosts 48 = .ok (.getfield 9, 3) := by decide +kernel
theorem dX2_layPosts_51 : decode cX2_layPosts 51 = .ok (.iload_n 1, 1) := by decide +kernel
theorem dX2_layPosts_52 : decode cX2_layPosts 52 = .ok (.iaload, 1) := by decide +kernel
theorem dX2_layPosts_53 : decode cX2_layPosts 53 = .ok (.goto 5, 3) := by decide +kernel
theorem dX2_layPosts_56 : decode cX2_layPosts 56 = .ok (.ldc 31, 2) := by decide +kernel
theorem dX2_layPosts_58 : decode cX2_layPosts 58 = .ok (.iastore, 1) := by decide +kernel
theorem dX2_layPosts_59 : decode cX2_layPosts 59 = .ok (.aload_n 0, 1) := by decide +kernel
theorem dX2_layPosts_60 : decode cX2_layPosts 60 = .ok (.getfield 21, 3) := by decide +kernel
theorem dX2_layPosts_63 : decode cX2_layPosts 63 = .ok (.iload_n 1, 1) := by decide +kernel
theorem dX2_layPosts_64 : decode cX2_layPosts 64 = .ok (.aload_n 0, 1) := by decide +kernel
theorem dX2_layPosts_65 : decode cX2_layPosts 65 = .ok (.getfield 15, 3) := by decide +kernel
theorem dX2_layPosts_68 : decode cX2_layPosts 68 = .ok (.iload_n 1, 1) := by decide +kernel
theorem dX2_layPosts_69 : decode cX2_layPosts 69 = .ok (.iaload, 1) := by decide +kernel
theorem dX2_layPosts_70 : decode cX2_layPosts 70 = .ok (.iastore, 1) := by decide +kernel
theorem dX2_layPosts_71 : decode cX2_layPosts 71 = .ok (.iinc 1 1, 3) := by decide +kernel
theorem dX2_layPosts_74 : decode cX2_layPosts 74 = .ok (.goto (-72), 3) := by decide +kernel
theorem dX2_layPosts_77 : decode cX2_layPosts 77 = .ok (.return_, 1) := by decide +kernel
theorem dX2_goThrough_0 : decode cX2_goThrough 0 = .ok (.iload_n 1, 1) := by decide +kernel
theorem dX2_goThrough_1 : decode cX2_goThrough 1 = .ok (.bipush 6, 2) := by decide +kernel
theorem dX2_goThrough_3 : decode cX2_goThrough 3 = .ok (.imul, 1) := by decide +kernel
theorem dX2_goThrough_4 : decode cX2_goThrough 4 = .ok (.iload_n 3, 1) := by decide +kernel
theorem dX2_goThrough_5 : decode cX2_goThrough 5 = .ok (.iadd, 1) := by decide +kernel
theorem dX2_goThrough_6 : decode cX2_goThrough 6 = .ok (.istore 4, 2) := by decide +kernel
theorem dX2_goThrough_8 : decode cX2_goThrough 8 = .ok (.iload_n 1, 1) := by decide +kernel
theorem dX2_goThrough_9 : decode cX2_goThrough 9 = .ok (.bipush 6, 2) := by decide +kernel
theorem dX2_goThrough_11 : decode cX2_goThrough 11 = .ok (.imul, 1) := by decide +kernel
theorem dX2_goThrough_12 : decode cX2_goThrough 12 = .ok (.iload_n 2, 1) := by decide +kernel
theorem dX2_goThrough_13 : decode cX2_goThrough 13 = .ok (.iadd, 1) := by decide +kernel
theorem dX2_goThrough_14 : decode cX2_goThrough 14 = .ok (.istore 5, 2) := by decide +kernel
theorem dX2_goThrough_16 : decode cX2_goThrough 16 = .ok (.iload_n 2, 1) := by decide +kernel
theorem dX2_goThrough_17 : decode cX2_goThrough 17 = .ok (.bipush 6, 2) := by decide +kernel
theorem dX2_goThrough_19 : decode cX2_goThrough 19 = .ok (.imul, 1) := by decide +kernel
theorem dX2_goThrough_20 : decode cX2_goThrough 20 = .ok (.iload_n 3, 1) := by decide +kernel
theorem dX2_goThrough_21 : decode cX2_goThrough 21 = .ok (.iadd, 1) := by decide +kernel
theorem dX2_goThrough_22 : decode cX2_goThrough 22 = .ok (.istore 6, 2) := by decide +kernel
theorem dX2_goThrough_24 : decode cX2_goThrough 24 = .ok (.aload_n 0, 1) := by decide +kernel
theorem dX2_goThrough_25 : decode cX2_goThrough 25 = .ok (.getfield 18, 3) := by decide +kernel
theorem dX2_goThrough_28 : decode cX2_goThrough 28 = .ok (.iload 5, 2) := by decide +kernel
theorem dX2_goThrough_30 : decode cX2_goThrough 30 = .ok (.iaload, 1) := by decide +kernel
theorem dX2_goThrough_31 : decode cX2_goThrough 31 = .ok (.aload_n 0, 1) := by decide +kernel
theorem dX2_goThrough_32 : decode cX2_goThrough 32 = .ok (.getfield 18, 3) := by decide +kernel
theorem dX2_goThrough_35 : decode cX2_goThrough 35 = .ok (.iload 6, 2) := by decide +kernel
theorem dX2_goThrough_37 : decode cX2_goThrough 37 = .ok (.iaload, 1) := by decide +kernel
theorem dX2_goThrough_38 : decode cX2_goThrough 38 = .ok (.iadd, 1) := by decide +kernel
theorem dX2_goThrough_39 : decode cX2_goThrough 39 = .ok (.istore 7, 2) := by decide +kernel
theorem dX2_goThrough_41 : decode cX2_goThrough 41 = .ok (.aload_n 0, 1) := by decide +kernel
theorem dX2_goThrough_42 : decode cX2_goThrough 42 = .ok (.getfield 21, 3) := by decide +kernel
theorem dX2_goThrough_45 : decode cX2_goThrough 45 = .ok (.iload 5, 2) := by decide +kernel
theorem dX2_goThrough_47 : decode cX2_goThrough 47 = .ok (.iaload, 1) := by decide +kernel
theorem dX2_goThrough_48 : decode cX2_goThrough 48 = .ok (.aload_n 0, 1) := by decide +kernel
theorem dX2_goThrough_49 : decode cX2_goThrough 49 = .ok (.getfield 21, 3) := by decide +kernel
theorem dX2_goThrough_52 : decode cX2_goThrough 52 = .ok (.iload 6, 2) := by decide +kernel
theorem dX2_goThrough_54 : decode cX2_goThrough 54 = .ok (.iaload, 1) := by decide +kernel
theorem dX2_goThrough_55 : decode cX2_goThrough 55 = .ok (.iadd, 1) := by decide +kernel
theorem dX2_goThrough_56 : decode cX2_goThrough 56 = .ok (.istore 8, 2) := by decide +kernel
theorem dX2_goThrough_58 : decode cX2_goThrough 58 = .ok (.iload 7, 2) := by decide +kernel
theorem dX2_goThrough_60 : decode cX2_goThrough 60 = .ok (.ldc 31, 2) := by decide +kernel
theorem dX2_goThrough_62 : decode cX2_goThrough 62 = .ok (.if_icmp .lt 4, 3) := by decide +kernel
theorem dX2_goThrough_65 : decode cX2_goThrough 65 = .ok (.return_, 1) := by decide +kernel
theorem dX2_goThrough_66 : decode cX2_goThrough 66 = .ok (.iload 7, 2) := by decide +kernel
theorem dX2_goThrough_68 : decode cX2_goThrough 68 = .ok (.aload_n 0, 1) := by decide +kernel
theorem dX2_goThrough_69 : decode cX2_goThrough 69 = .ok (.getfield 18, 3) := by decide +kernel
theorem dX2_goThrough_72 : decode cX2_goThrough 72 = .ok (.iload 4, 2) := by decide +kernel
theorem dX2_goThrough_74 : decode cX2_goThrough 74 = .ok (.iaload, 1) := by decide +kernel
theorem dX2_goThrough_75 : decode cX2_goThrough 75 = .ok (.if_icmp .lt 27, 3) := by decide +kernel
theorem dX2_goThrough_78 : decode cX2_goThrough 78 = .ok (.iload 7, 2) := by decide +kernel
theorem dX2_goThrough_80 : decode cX2_goThrough 80 = .ok (.aload_n 0, 1) := by decide +kernel
theorem dX2_goThrough_81 : decode cX2_goThrough 81 = .ok (.getfield 18, 3) := by decide +kernel
theorem dX2_goThrough_84 : decode cX2_goThrough 84 = .ok (.iload 4, 2) := by decide +kernel
theorem dX2_goThrough_86 : decode cX2_goThrough 86 = .ok (.iaload, 1) := by decide +kernel
theorem dX2_goThrough_87 : decode cX2_goThrough 87 = .ok (.if_icmp .ne 33, 3) := by decide +kernel
theorem dX2_goThrough_90 : decode cX2_goThrough 90 = .ok (.iload 8, 2) := by decide +kernel
theorem dX2_goThrough_92 : decode cX2_goThrough 92 = .ok (.aload_n 0, 1) := by decide +kernel
theorem dX2_goThrough_93 : decode cX2_goThrough 93 = .ok (.getfield 21, 3) := by decide +kernel
theorem dX2_goThrough_96 : decode cX2_goThrough 96 = .ok (.iload 4, 2) := by decide +kernel
theorem dX2_goThrough_98 : decode cX2_goThrough 98 = .ok (.iaload, 1) := by decide +kernel
theorem dX2_goThrough_99 : decode cX2_goThrough 99 = .ok (.if_icmp .le 21, 3) := by decide +kernel
theorem dX2_goThrough_102 : decode cX2_goThrough 102 = .ok (.aload_n 0, 1) := by decide +kernel
theorem dX2_goThrough_103 : decode cX2_goThrough 103 = .ok (.getfield 18, 3) := by decide +kernel
theorem dX2_goThrough_106 : decode cX2_goThrough 106 = .ok (.iload 4, 2) := by decide +kernel
theorem dX2_goThrough_108 : decode cX2_goThrough 108 = .ok (.iload 7, 2) := by decide +kernel
theorem dX2_goThrough_110 : decode cX2_goThrough 110 = .ok (.iastore, 1) := by decide +kernel
theorem dX2_goThrough_111 : decode cX2_goThrough 111 = .ok (.aload_n 0, 1) := by decide +kernel
theorem dX2_goThrough_112 : decode cX2_goThrough 112 = .ok (.getfield 21, 3) := by decide +kernel
theorem dX2_goThrough_115 : decode cX2_goThrough 115 = .ok (.iload 4, 2) := by decide +kernel
theorem dX2_goThrough_117 : decode cX2_goThrough 117 = .ok (.iload 8, 2) := by decide +kernel
theorem dX2_goThrough_119 : decode cX2_goThrough 119 = .ok (.iastore, 1) := by decide +kernel
theorem dX2_goThrough_120 : decode cX2_goThrough 120 = .ok (.return_, 1) := by decide +kernel
theorem dX3_init_0 : decode cX3_init 0 = .ok (.aload_n 0, 1) := by decide +kernel
theorem dX3_init_1 : decode cX3_init 1 = .ok (.invokespecial 3, 3) := by decide +kernel
theorem dX3_init_4 : decode cX3_init 4 = .ok (.aload_n 0, 1) := by decide +kernel
theorem dX3_init_5 : decode cX3_init 5 = .ok (.bipush 12, 2) := by decide +kernel
theorem dX3_init_7 : decode cX3_init 7 = .ok (.newarray .int, 2) := by decide +kernel
theorem dX3_init_9 : decode cX3_init 9 = .ok (.putfield 9, 3) := by decide +kernel
theorem dX3_init_12 : decode cX3_init 12 = .ok (.aload_n 0, 1) := by decide +kernel
theorem dX3_init_13 : decode cX3_init 13 = .ok (.bipush 12, 2) := by decide +kernel
theorem dX3_init_15 : decode cX3_init 15 = .ok (.newarray .int, 2) := by decide +kernel
theorem dX3_init_17 : decode cX3_init 17 = .ok (.putfield 15, 3) := by decide +kernel
theorem dX3_init_20 : decode cX3_init 20 = .ok (.aload_n 0, 1) := by decide +kernel
theorem dX3_init_21 : decode cX3_init 21 = .ok (.bipush 12, 2) := by decide +kernel
theorem dX3_init_23 : decode cX3_init 23 = .ok (.newarray .int, 2) := by decide +kernel
theorem dX3_init_25 : decode cX3_init 25 = .ok (.putfield 18, 3) := by decide +kernel
theorem dX3_init_28 : decode cX3_init 28 = .ok (.aload_n 0, 1) := by decide +kernel
theorem dX3_init_29 : decode cX3_init 29 = .ok (.iconst 0, 1) := by decide +kernel
theorem dX3_init_30 : decode cX3_init 30 = .ok (.putfield 21, 3) := by decide +kernel
theorem dX3_init_33 : decode cX3_init 33 = .ok (.return_, 1) := by decide +kernel
theorem dX3_reckon_0 : decode cX3_reckon 0 = .ok (.aload_n 0, 1) := by decide +kernel
theorem dX3_reckon_1 : decode cX3_reckon 1 = .ok (.aload_n 1, 1) := by decide +kernel
theorem dX3_reckon_2 : decode cX3_reckon 2 = .ok (.aload_n 2, 1) := by decide +kernel
theorem dX3_reckon_3 : decode cX3_reckon 3 = .ok (.aload_n 0, 1) := by decide +kernel
theorem dX3_reckon_4 : decode cX3_reckon 4 = .ok (.getfield 9, 3) := by decide +kernel
theorem dX3_reckon_7 : decode cX3_reckon 7 = .ok (.invokevirtual 25, 3) := by decide +kernel
theorem dX3_reckon_10 : decode cX3_reckon 10 = .ok (.aload_n 0, 1) := by decide +kernel
theorem dX3_reckon_11 : decode cX3_reckon 11 = .ok (.aload_n 0, 1) := by decide +kernel
theorem dX3_reckon_12 : decode cX3_reckon 12 = .ok (.aload_n 1, 1) := by decide +kernel
theorem dX3_reckon_13 : decode cX3_reckon 13 = .ok (.aload_n 2, 1) := by decide +kernel
theorem dX3_reckon_14 : decode cX3_reckon 14 = .ok (.aload_n 0, 1) := by decide +kernel
theorem dX3_reckon_15 : decode cX3_reckon 15 = .ok (.getfield 9, 3) := by decide +kernel
theorem dX3_reckon_18 : decode cX3_reckon 18 = .ok (.iconst (-1), 1) := by decide +kernel
theorem dX3_reckon_19 : decode cX3_reckon 19 = .ok (.iconst (-1), 1) := by decide +kernel
theorem dX3_reckon_20 : decode cX3_reckon 20 = .ok (.invokevirtual 29, 3) := by decide +kernel
theorem dX3_reckon_23 : decode cX3_reckon 23 = .ok (.ifCond .ne 7, 3) := by decide +kernel
theorem dX3_reckon_26 : decode cX3_reckon 26 = .ok (.iconst 1, 1) := by decide +kernel
theorem dX3_reckon_27 : decode cX3_reckon 27 = .ok (.goto 4, 3) := by decide +kernel
theorem dX3_reckon_30 : decode cX3_reckon 30 = .ok (.iconst 0, 1) := by decide +kernel
theorem dX3_reckon_31 : decode cX3_reckon 31 = .ok (.putfield 21, 3) := by decide +kernel
theorem dX3_reckon_34 : decode cX3_reckon 34 = .ok (.aload_n 0, 1) := by decide +kernel
theorem dX3_reckon_35 : decode cX3_reckon 35 = .ok (.getfield 21, 3) := by decide +kernel
theorem dX3_reckon_38 : decode cX3_reckon 38 = .ok (.ifCond .ne 14, 3) := by decide +kernel
theorem dX3_reckon_41 : decode cX3_reckon 41 = .ok (.aload_n 0, 1) := by decide +kernel
theorem dX3_reckon_42 : decode cX3_reckon 42 = .ok (.aload_n 1, 1) := by decide +kernel
theorem dX3_reckon_43 : decode cX3_reckon 43 = .ok (.invokevirtual 33, 3) := by decide +kernel
theorem dX3_reckon_46 : decode cX3_reckon 46 = .ok (.aload_n 0, 1) := by decide +kernel
theorem dX3_reckon_47 : decode cX3_reckon 47 = .ok (.aload_n 1, 1) := by decide +kernel
theorem dX3_reckon_48 : decode cX3_reckon 48 = .ok (.aload_n 2, 1) := by decide +kernel
theorem dX3_reckon_49 : decode cX3_reckon 49 = .ok (.invokevirtual 37, 3) := by decide +kernel
theorem dX3_reckon_52 : decode cX3_reckon 52 = .ok (.return_, 1) := by decide +kernel
theorem dX3_canBeNoEarlier_0 : decode cX3_canBeNoEarlier 0 = .ok (.aload_n 0, 1) := by decide +kernel
theorem dX3_canBeNoEarlier_1 : decode cX3_canBeNoEarlier 1 = .ok (.aload_n 1, 1) := by decide +kernel
theorem dX3_canBeNoEarlier_2 : decode cX3_canBeNoEarlier 2 = .ok (.aload_n 2, 1) := by decide +kernel
theorem dX3_canBeNoEarlier_3 : decode cX3_canBeNoEarlier 3 = .ok (.aload_n 0, 1) := by decide +kernel
theorem dX3_canBeNoEarlier_4 : decode cX3_canBeNoEarlier 4 = .ok (.getfield 18, 3) := by decide +kernel
theorem dX3_canBeNoEarlier_7 : decode cX3_canBeNoEarlier 7 = .ok (.invokevirtual 25, 3) := by decide +kernel
theorem dX3_canBeNoEarlier_10 : decode cX3_canBeNoEarlier 10 = .ok (.aload_n 0, 1) := by decide +kernel
theorem dX3_canBeNoEarlier_11 : decode cX3_canBeNoEarlier 11 = .ok (.aload_n 1, 1) := by decide +kernel
theorem dX3_canBeNoEarlier_12 : decode cX3_canBeNoEarlier 12 = .ok (.aload_n 2, 1) := by decide +kernel
theorem dX3_canBeNoEarlier_13 : decode cX3_canBeNoEarlier 13 = .ok (.aload_n 0, 1) := by decide +kernel
theorem dX3_canBeNoEarlier_14 : decode cX3_canBeNoEarlier 14 = .ok (.getfield 18, 3) := by decide +kernel
theorem dX3_canBeNoEarlier_17 : decode cX3_canBeNoEarlier 17 = .ok (.iload_n 3, 1) := by decide +kernel
theorem dX3_canBeNoEarlier_18 : decode cX3_canBeNoEarlier 18 = .ok (.iload 4, 2) := by decide +kernel
theorem dX3_canBeNoEarlier_20 : decode cX3_canBeNoEarlier 20 = .ok (.invokevirtual 29, 3) := by decide +kernel
theorem dX3_canBeNoEarlier_23 : decode cX3_canBeNoEarlier 23 = .ok (.ireturn, 1) := by decide +kernel
theorem dX3_layFloors_0 : decode cX3_layFloors 0 = .ok (.iconst 0, 1) := by decide +kernel
theorem dX3_layFloors_1 : decode cX3_layFloors 1 = .ok (.istore 4, 2) := by decide +kernel
theorem dX3_layFloors_3 : decode cX3_layFloors 3 = .ok (.iload 4, 2) := by decide +kernel
theorem dX3_layFloors_5 : decode cX3_layFloors 5 = .ok (.aload_n 1, 1) := by decide +kernel
theorem dX3_layFloors_6 : decode cX3_layFloors 6 = .ok (.getfield 41, 3) := by decide +kernel
theorem dX3_layFloors_9 : decode cX3_layFloors 9 = .ok (.if_icmp .ge 24, 3) := by decide +kernel
theorem dX3_layFloors_12 : decode cX3_layFloors 12 = .ok (.aload_n 3, 1) := by decide +kernel
theorem dX3_layFloors_13 : decode cX3_layFloors 13 = .ok (.iload 4, 2) := by decide +kernel
theorem dX3_layFloors_15 : decode cX3_layFloors 15 = .ok (.aload_n 1, 1) := by decide +kernel
theorem dX3_layFloors_16 : decode cX3_layFloors 16 = .ok (.getfield 47, 3) := by decide +kernel
theorem dX3_layFloors_19 : decode cX3_layFloors 19 = .ok (.iload 4, 2) := by decide +kernel
theorem dX3_layFloors_21 : decode cX3_layFloors 21 = .ok (.iaload, 1) := by decide +kernel
theorem dX3_layFloors_22 : decode cX3_layFloors 22 = .ok (.iconst 0, 1) := by decide +kernel
theorem dX3_layFloors_23 : decode cX3_layFloors 23 = .ok (.invokestatic 50, 3) := by decide +kernel
theorem dX3_layFloors_26 : decode cX3_layFloors 26 = .ok (.iastore, 1) := by decide +kernel
theorem dX3_layFloors_27 : decode cX3_layFloors 27 = .ok (.iinc 4 1, 3) := by decide +kernel
theorem dX3_layFloors_30 : decode cX3_layFloors 30 = .ok (.goto (-27), 3) := by decide +kernel
theorem dX3_layFloors_33 : decode cX3_layFloors 33 = .ok (.iconst 0, 1) := by decide +kernel
theorem dX3_layFloors_34 : decode cX3_layFloors 34 = .ok (.istore 4, 2) := by decide +kernel
theorem dX3_layFloors_36 : decode cX3_layFloors 36 = .ok (.iload 4, 2) := by decide +kernel
theorem dX3_layFloors_38 : decode cX3_layFloors 38 = .ok (.aload_n 1, 1) := by decide +kernel
theorem dX3_layFloors_39 : decode cX3_layFloors 39 = .ok (.getfield 56, 3) := by decide +kernel
theorem dX3_layFloors_42 : decode cX3_layFloors 42 = .ok (.if_icmp .ge 77, 3) := by decide +kernel
theorem dX3_layFloors_45 : decode cX3_layFloors 45 = .ok (.aload_n 1, 1) := by decide +kernel
theorem dX3_layFloors_46 : decode cX3_layFloors 46 = .ok (.getfield 59, 3) := by decide +kernel
theorem dX3_layFloors_49 : decode cX3_layFloors 49 = .ok (.iload 4, 2) := by decide +kernel
theorem dX3_layFloors_51 : decode cX3_layFloors 51 = .ok (.iaload, 1) := by decide +kernel
theorem dX3_layFloors_52 : decode cX3_layFloors 52 = .ok (.istore 5, 2) := by decide +kernel
theorem dX3_layFloors_54 : decode cX3_layFloors 54 = .ok (.aload_n 1, 1) := by decide +kernel
theorem dX3_layFloors_55 : decode cX3_layFloors 55 = .ok (.getfield 62, 3) := by decide +kernel
theorem dX3_layFloors_58 : decode cX3_layFloors 58 = .ok (.iload 4, 2) := by decide +kernel
theorem dX3_layFloors_60 : decode cX3_layFloors 60 = .ok (.iaload, 1) := by decide +kernel
theorem dX3_layFloors_61 : decode cX3_layFloors 61 = .ok (.istore 6, 2) := by decide +kernel
theorem dX3_layFloors_63 : decode cX3_layFloors 63 = .ok (.aload_n 1, 1) := by decide +kernel
theorem dX3_layFloors_64 : decode cX3_layFloors 64 = .ok (.iload 5, 2) := by decide +kernel
theorem dX3_layFloors_66 : decode cX3_layFloors 66 = .ok (.invokevirtual 65, 3) := by decide +kernel
theorem dX3_layFloors_69 : decode cX3_layFloors 69 = .ok (.ifCond .eq 44, 3) := by decide +kernel
theorem dX3_layFloors_72 : decode cX3_layFloors 72 = .ok (.aload_n 1, 1) := by decide +kernel
theorem dX3_layFloors_73 : decode cX3_layFloors 73 = .ok (.getfield 69, 3) := by decide +kernel
theorem dX3_layFloors_76 : decode cX3_layFloors 76 = .ok (.iload 5, 2) := by decide +kernel
theorem dX3_layFloors_78 : decode cX3_layFloors 78 = .ok (.iaload, 1) := by decide +kernel
theorem dX3_layFloors_79 : decode cX3_layFloors 79 = .ok (.aload_n 2, 1) := by decide +kernel
theorem dX3_layFloors_80 : decode cX3_layFloors 80 = .ok (.aload_n 1, 1) := by decide +kernel
theorem dX3_layFloors_81 : decode cX3_layFloors 81 = .ok (.getfield 72, 3) := by decide +kernel
theorem dX3_layFloors_84 : decode cX3_layFloors 84 = .ok (.iload 5, 2) := by decide +kernel
theorem dX3_layFloors_86 : decode cX3_layFloors 86 = .ok (.iaload, 1) := by decide +kernel
theorem dX3_layFloors_87 : decode cX3_layFloors 87 = .ok (.aload_n 1, 1) := by decide +kernel
theorem dX3_layFloors_88 : decode cX3_layFloors 88 = .ok (.getfield 75, 3) := by decide +kernel
theorem dX3_layFloors_91 : decode cX3_layFloors 91 = .ok (.iload 6, 2) := by decide +kernel
theorem dX3_layFloors_93 : decode cX3_layFloors 93 = .ok (.iaload, 1) := by decide +kernel
theorem dX3_layFloors_94 : decode cX3_layFloors 94 = .ok (.invokevirtual 78, 3) := by decide +kernel
theorem dX3_layFloors_97 : decode cX3_layFloors 97 = .ok (.iadd, 1) := by decide +kernel
theorem dX3_layFloors_98 : decode cX3_layFloors 98 = .ok (.istore 7, 2) := by decide +kernel
theorem dX3_layFloors_100 : decode cX3_layFloors 100 = .ok (.aload_n 3, 1) := by decide +kernel
theorem dX3_layFloors_101 : decode cX3_layFloors 101 = .ok (.iload 6, 2) := by decide +kernel
theorem dX3_layFloors_103 : decode cX3_layFloors 103 = .ok (.aload_n 3, 1) := by decide +kernel
theorem dX3_layFloors_104 : decode cX3_layFloors 104 = .ok (.iload 6, 2) := by decide +kernel
theorem dX3_layFloors_106 : decode cX3_layFloors 106 = .ok (.iaload, 1) := by decide +kernel
theorem dX3_layFloors_107 : decode cX3_layFloors 107 = .ok (.iload 7, 2) := by decide +kernel
theorem dX3_layFloors_109 : decode cX3_layFloors 109 = .ok (.invokestatic 50, 3) := by decide +kernel
theorem dX3_layFloors_112 : decode cX3_layFloors 112 = .ok (.iastore, 1) := by decide +kernel
theorem dX3_layFloors_113 : decode cX3_layFloors 113 = .ok (.iinc 4 1, 3) := by decide +kernel
theorem dX3_layFloors_116 : decode cX3_layFloors 116 = .ok (.goto (-80), 3) := by decide +kernel
theorem dX3_layFloors_119 : decode cX3_layFloors 119 = .ok (.return_, 1) := by decide +kernel
theorem dX3_layCeilings_0 : decode cX3_layCeilings 0 = .ok (.iconst 0, 1) := by decide +kernel
theorem dX3_layCeilings_1 : decode cX3_layCeilings 1 = .ok (.istore_n 2, 1) := by decide +kernel
theorem dX3_layCeilings_2 : decode cX3_layCeilings 2 = .ok (.iload_n 2, 1) := by decide +kernel
theorem dX3_layCeilings_3 : decode cX3_layCeilings 3 = .ok (.aload_n 1, 1) := by decide +kernel
theorem dX3_layCeilings_4 : decode cX3_layCeilings 4 = .ok (.getfield 41, 3) := by decide +kernel
theorem dX3_layCeilings_7 : decode cX3_layCeilings 7 = .ok (.if_icmp .ge 20, 3) := by decide +kernel
theorem dX3_layCeilings_10 : decode cX3_layCeilings 10 = .ok (.aload_n 0, 1) := by decide +kernel
theorem dX3_layCeilings_11 : decode cX3_layCeilings 11 = .ok (.getfield 15, 3) := by decide +kernel
theorem dX3_layCeilings_14 : decode cX3_layCeilings 14 = .ok (.iload_n 2, 1) := by decide +kernel
theorem dX3_layCeilings_15 : decode cX3_layCeilings 15 = .ok (.aload_n 1, 1) := by decide +kernel
theorem dX3_layCeilings_16 : decode cX3_layCeilings 16 = .ok (.iload_n 2, 1) := by decide +kernel
theorem dX3_layCeilings_17 : decode cX3_layCeilings 17 = .ok (.invokestatic 83, 3) := by decide +kernel
theorem dX3_layCeilings_20 : decode cX3_layCeilings 20 = .ok (.iastore, 1) := by decide +kernel
theorem dX3_layCeilings_21 : decode cX3_layCeilings 21 = .ok (.iinc 2 1, 3) := by decide +kernel
theorem dX3_layCeilings_24 : decode cX3_layCeilings 24 = .ok (.goto (-22), 3) := by decide +kernel
theorem dX3_layCeilings_27 : decode cX3_layCeilings 27 = .ok (.return_, 1) := by decide +kernel
theorem dX3_ceiling_0 : decode cX3_ceiling 0 = .ok (.aload_n 0, 1) := by decide +kernel
theorem dX3_ceiling_1 : decode cX3_ceiling 1 = .ok (.getfield 47, 3) := by decide +kernel
theorem dX3_ceiling_4 : decode cX3_ceiling 4 = .ok (.iload_n 1, 1) := by decide +kernel
theorem dX3_ceiling_5 : decode cX3_ceiling 5 = .ok (.iaload, 1) := by decide +kernel
theorem dX3_ceiling_6 : decode cX3_ceiling 6 = .ok (.iconst (-1), 1) := by decide +kernel
theorem dX3_ceiling_7 : decode cX3_ceiling 7 = .ok (.if_icmp .ne 9, 3) := by decide +kernel
theorem dX3_ceiling_10 : decode cX3_ceiling 10 = .ok (.sipush 999, 3) := by decide +kernel
theorem dX3_ceiling_13 : decode cX3_ceiling 13 = .ok (.goto 9, 3) := by decide +kernel
theorem dX3_ceiling_16 : decode cX3_ceiling 16 = .ok (.aload_n 0, 1) := by decide +kernel
theorem dX3_ceiling_17 : decode cX3_ceiling 17 = .ok (.getfield 47, 3) := by decide +kernel
theorem dX3_ceiling_20 : decode cX3_ceiling 20 = .ok (.iload_n 1, 1) := by decide +kernel
theorem dX3_ceiling_21 : decode cX3_ceiling 21 = .ok (.iaload, 1) := by decide +kernel
theorem dX3_ceiling_22 : decode cX3_ceiling 22 = .ok (.ireturn, 1) := by decide +kernel
theorem dX3_rises_0 : decode cX3_rises 0 = .ok (.iconst 1, 1) := by decide +kernel
theorem dX3_rises_1 : decode cX3_rises 1 = .ok (.istore 6, 2) := by decide +kernel
theorem dX3_rises_3 : decode cX3_rises 3 = .ok (.iconst 0, 1) := by decide +kernel
theorem dX3_rises_4 : decode cX3_rises 4 = .ok (.istore 7, 2) := by decide +kernel
theorem dX3_rises_6 : decode cX3_rises 6 = .ok (.iload 7, 2) := by decide +kernel
theorem dX3_rises_8 : decode cX3_rises 8 = .ok (.bipush 12, 2) := by decide +kernel
theorem dX3_rises_10 : decode cX3_rises 10 = .ok (.if_icmp .gt 50, 3) := by decide +kernel
theorem dX3_rises_13 : decode cX3_rises 13 = .ok (.iload 6, 2) := by decide +kernel
theorem dX3_rises_15 : decode cX3_rises 15 = .ok (.ifCond .eq 45, 3) := by decide +kernel
theorem dX3_rises_18 : decode cX3_rises 18 = .ok (.aload_n 1, 1) := by decide +kernel
theorem dX3_rises_19 : decode cX3_rises 19 = .ok (.aload_n 2, 1) := by decide +kernel
theorem dX3_rises_20 : decode cX3_rises 20 = .ok (.aload_n 3, 1) := by decide +kernel
theorem dX3_rises_21 : decode cX3_rises 21 = .ok (.invokestatic 87, 3) := by decide +kernel
theorem dX3_rises_24 : decode cX3_rises 24 = .ok (.istore 6, 2) := by decide +kernel
theorem dX3_rises_26 : decode cX3_rises 26 = .ok (.iload 4, 2) := by decide +kernel
theorem dX3_rises_28 : decode cX3_rises 28 = .ok (.iconst (-1), 1) := by decide +kernel
theorem dX3_rises_29 : decode cX3_rises 29 = .ok (.if_icmp .eq 25, 3) := by decide +kernel
theorem dX3_rises_32 : decode cX3_rises 32 = .ok (.aload_n 3, 1) := by decide +kernel
theorem dX3_rises_33 : decode cX3_rises 33 = .ok (.iload 4, 2) := by decide +kernel
theorem dX3_rises_35 : decode cX3_rises 35 = .ok (.iaload, 1) := by decide +kernel
theorem dX3_rises_36 : decode cX3_rises 36 = .ok (.aload_n 3, 1) := by decide +kernel
theorem dX3_rises_37 : decode cX3_rises 37 = .ok (.iload 5, 2) := by decide +kernel
theorem dX3_rises_39 : decode cX3_rises 39 = .ok (.iaload, 1) := by decide +kernel
theorem dX3_rises_40 : decode cX3_rises 40 = .ok (.if_icmp .ge 14, 3) := by decide +kernel
theorem dX3_rises_43 : decode cX3_rises 43 = .ok (.aload_n 3, 1) := by decide +kernel
theorem dX3_rises_44 : decode cX3_rises 44 = .ok (.iload 4, 2) := by decide +kernel
theorem dX3_rises_46 : decode cX3_rises 46 = .ok (.aload_n 3, 1) := by decide +kernel
theorem dX3_rises_47 : decode cX3_rises 47 = .ok (.iload 5, 2) := by decide +kernel
theorem dX3_rises_49 : decode cX3_rises 49 = .ok (.iaload, 1) := by decide +kernel
theorem dX3_rises_50 : decode cX3_rises 50 = .ok (.iastore, 1) := by decide +kernel
theorem dX3_rises_51 : decode cX3_rises 51 = .ok (.iconst 1, 1) := by decide +kernel
theorem dX3_rises_52 : decode cX3_rises 52 = .ok (.istore 6, 2) := by decide +kernel
theorem dX3_rises_54 : decode cX3_rises 54 = .ok (.iinc 7 1, 3) := by decide +kernel
theorem dX3_rises_57 : decode cX3_rises 57 = .ok (.goto (-51), 3) := by decide +kernel
theorem dX3_rises_60 : decode cX3_rises 60 = .ok (.iload 6, 2) := by decide +kernel
theorem dX3_rises_62 : decode cX3_rises 62 = .ok (.ifCond .ne 15, 3) := by decide +kernel
theorem dX3_rises_65 : decode cX3_rises 65 = .ok (.aload_n 1, 1) := by decide +kernel
theorem dX3_rises_66 : decode cX3_rises 66 = .ok (.aload_n 3, 1) := by decide +kernel
theorem dX3_rises_67 : decode cX3_rises 67 = .ok (.invokestatic 91, 3) := by decide +kernel
theorem dX3_rises_70 : decode cX3_rises 70 = .ok (.ifCond .eq 7, 3) := by decide +kernel
theorem dX3_rises_73 : decode cX3_rises 73 = .ok (.iconst 1, 1) := by decide +kernel
theorem dX3_rises_74 : decode cX3_rises 74 = .ok (.goto 4, 3) := by decide +kernel
theorem dX3_rises_77 : decode cX3_rises 77 = .ok (.iconst 0, 1) := by decide +kernel
theorem dX3_rises_78 : decode cX3_rises 78 = .ok (.ireturn, 1) := by decide +kernel
theorem dX3_raise_0 : decode cX3_raise 0 = .ok (.iconst 0, 1) := by decide +kernel
theorem dX3_raise_1 : decode cX3_raise 1 = .ok (.istore_n 3, 1) := by decide +kernel
theorem dX3_raise_2 : decode cX3_raise 2 = .ok (.iconst 0, 1) := by decide +kernel
theorem dX3_raise_3 : decode cX3_raise 3 = .ok (.istore 4, 2) := by decide +kernel
theorem dX3_raise_5 : decode cX3_raise 5 = .ok (.iload 4, 2) := by decide +kernel
theorem dX3_raise_7 : decode cX3_raise 7 = .ok (.aload_n 0, 1) := by decide +kernel
theorem dX3_raise_8 : decode cX3_raise 8 = .ok (.getfield 95, 3) := by decide +kernel
theorem dX3_raise_11 : decode cX3_raise 11 = .ok (.if_icmp .ge 55, 3) := by decide +kernel
theorem dX3_raise_14 : decode cX3_raise 14 = .ok (.aload_n 2, 1) := by decide +kernel
theorem dX3_raise_15 : decode cX3_raise 15 = .ok (.aload_n 0, 1) := by decide +kernel
theorem dX3_raise_16 : decode cX3_raise 16 = .ok (.getfield 98, 3) := by decide +kernel
theorem dX3_raise_19 : decode cX3_raise 19 = .ok (.iload 4, 2) := by decide +kernel
theorem dX3_raise_21 : decode cX3_raise 21 = .ok (.iaload, 1) := by decide +kernel
theorem dX3_raise_22 : decode cX3_raise 22 = .ok (.iaload, 1) := by decide +kernel
theorem dX3_raise_23 : decode cX3_raise 23 = .ok (.aload_n 0, 1) := by decide +kernel
theorem dX3_raise_24 : decode cX3_raise 24 = .ok (.aload_n 1, 1) := by decide +kernel
theorem dX3_raise_25 : decode cX3_raise 25 = .ok (.iload 4, 2) := by decide +kernel
theorem dX3_raise_27 : decode cX3_raise 27 = .ok (.invokestatic 101, 3) := by decide +kernel
theorem dX3_raise_30 : decode cX3_raise 30 = .ok (.iadd, 1) := by decide +kernel
theorem dX3_raise_31 : decode cX3_raise 31 = .ok (.istore 5, 2) := by decide +kernel
theorem dX3_raise_33 : decode cX3_raise 33 = .ok (.aload_n 2, 1) := by decide +kernel
theorem dX3_raise_34 : decode cX3_raise 34 = .ok (.aload_n 0, 1) := by decide +kernel
theorem dX3_raise_35 : decode cX3_raise 35 = .ok (.getfield 105, 3) := by decide +kernel
theorem dX3_raise_38 : decode cX3_raise 38 = .ok (.iload 4, 2) := by decide +kernel
theorem dX3_raise_40 : decode cX3_raise 40 = .ok (.iaload, 1) := by decide +kernel
theorem dX3_raise_41 : decode cX3_raise 41 = .ok (.iaload, 1) := by decide +kernel
theorem dX3_raise_42 : decode cX3_raise 42 = .ok (.iload 5, 2) := by decide +kernel
theorem dX3_raise_44 : decode cX3_raise 44 = .ok (.if_icmp .ge 16, 3) := by decide +kernel
theorem dX3_raise_47 : decode cX3_raise 47 = .ok (.aload_n 2, 1) := by decide +kernel
theorem dX3_raise_48 : decode cX3_raise 48 = .ok (.aload_n 0, 1) := by decide +kernel
theorem dX3_raise_49 : decode cX3_raise 49 = .ok (.getfield 105, 3) := by decide +kernel
theorem dX3_raise_52 : decode cX3_raise 52 = .ok (.iload 4, 2) := by decide +kernel
theorem dX3_raise_54 : decode cX3_raise 54 = .ok (.iaload, 1) := by decide +kernel
theorem dX3_raise_55 : decode cX3_raise 55 = .ok (.iload 5, 2) := by decide +kernel
theorem dX3_raise_57 : decode cX3_raise 57 = .ok (.iastore, 1) := by decide +kernel
theorem dX3_raise_58 : decode cX3_raise 58 = .ok (.iconst 1, 1) := by decide +kernel
theorem dX3_raise_59 : decode cX3_raise 59 = .ok (.istore_n 3, 1) := by decide +kernel
theorem dX3_raise_60 : decode cX3_raise 60 = .ok (.iinc 4 1, 3) := by decide +kernel
theorem dX3_raise_63 : decode cX3_raise 63 = .ok (.goto (-58), 3) := by decide +kernel
theorem dX3_raise_66 : decode cX3_raise 66 = .ok (.iload_n 3, 1) := by decide +kernel
theorem dX3_raise_67 : decode cX3_raise 67 = .ok (.ireturn, 1) := by decide +kernel
theorem dX3_staysBelow_0 : decode cX3_staysBelow 0 = .ok (.iconst 0, 1) := by decide +kernel
theorem dX3_staysBelow_1 : decode cX3_staysBelow 1 = .ok (.istore_n 2, 1) := by decide +kernel
theorem dX3_staysBelow_2 : decode cX3_staysBelow 2 = .ok (.iload_n 2, 1) := by decide +kernel
theorem dX3_staysBelow_3 : decode cX3_staysBelow 3 = .ok (.aload_n 0, 1) := by decide +kernel
theorem dX3_staysBelow_4 : decode cX3_staysBelow 4 = .ok (.getfield 41, 3) := by decide +kernel
theorem dX3_staysBelow_7 : decode cX3_staysBelow 7 = .ok (.if_icmp .ge 22, 3) := by decide +kernel
theorem dX3_staysBelow_10 : decode cX3_staysBelow 10 = .ok (.aload_n 1, 1) := by decide +kernel
theorem dX3_staysBelow_11 : decode cX3_staysBelow 11 = .ok (.iload_n 2, 1) := by decide +kernel
theorem dX3_staysBelow_12 : decode cX3_staysBelow 12 = .ok (.iaload, 1) := by decide +kernel
theorem dX3_staysBelow_13 : decode cX3_staysBelow 13 = .ok (.aload_n 0, 1) := by decide +kernel
theorem dX3_staysBelow_14 : decode cX3_staysBelow 14 = .ok (.iload_n 2, 1) := by decide +kernel
theorem dX3_staysBelow_15 : decode cX3_staysBelow 15 = .ok (.invokestatic 83, 3) := by decide +kernel
theorem dX3_staysBelow_18 : decode cX3_staysBelow 18 = .ok (.if_icmp .le 5, 3) := by decide +kernel
theorem dX3_staysBelow_21 : decode cX3_staysBelow 21 = .ok (.iconst 0, 1) := by decide +kernel
theorem dX3_staysBelow_22 : decode cX3_staysBelow 22 = .ok (.ireturn, 1) := by decide +kernel
theorem dX3_staysBelow_23 : decode cX3_staysBelow 23 = .ok (.iinc 2 1, 3) := by decide +kernel
theorem dX3_staysBelow_26 : decode cX3_staysBelow 26 = .ok (.goto (-24), 3) := by decide +kernel
theorem dX3_staysBelow_29 : decode cX3_staysBelow 29 = .ok (.iconst 1, 1) := by decide +kernel
theorem dX3_staysBelow_30 : decode cX3_staysBelow 30 = .ok (.ireturn, 1) := by decide +kernel
theorem dX3_sink_0 : decode cX3_sink 0 = .ok (.iconst 0, 1) := by decide +kernel
theorem dX3_sink_1 : decode cX3_sink 1 = .ok (.istore_n 3, 1) := by decide +kernel
theorem dX3_sink_2 : decode cX3_sink 2 = .ok (.iload_n 3, 1) := by decide +kernel
theorem dX3_sink_3 : decode cX3_sink 3 = .ok (.bipush 12, 2) := by decide +kernel
theorem dX3_sink_5 : decode cX3_sink 5 = .ok (.if_icmp .ge 77, 3) := by decide +kernel
theorem dX3_sink_8 : decode cX3_sink 8 = .ok (.iconst 0, 1) := by decide +kernel
theorem dX3_sink_9 : decode cX3_sink 9 = .ok (.istore 4, 2) := by decide +kernel
theorem dX3_sink_11 : decode cX3_sink 11 = .ok (.iload 4, 2) := by decide +kernel
theorem dX3_sink_13 : decode cX3_sink 13 = .ok (.aload_n 1, 1) := by decide +kernel
theorem dX3_sink_14 : decode cX3_sink 14 = .ok (.getfield 95, 3) := by decide +kernel
theorem dX3_sink_17 : decode cX3_sink 17 = .ok (.if_icmp .ge 59, 3) := by decide +kernel
theorem dX3_sink_20 : decode cX3_sink 20 = .ok (.aload_n 0, 1) := by decide +kernel
theorem dX3_sink_21 : decode cX3_sink 21 = .ok (.getfield 15, 3) := by decide +kernel
theorem dX3_sink_24 : decode cX3_sink 24 = .ok (.aload_n 1, 1) := by decide +kernel
theorem dX3_sink_25 : decode cX3_sink 25 = .ok (.getfield 105, 3) := by decide +kernel
theorem dX3_sink_28 : decode cX3_sink 28 = .ok (.iload 4, 2) := by decide +kernel
theorem dX3_sink_30 : decode cX3_sink 30 = .ok (.iaload, 1) := by decide +kernel
theorem dX3_sink_31 : decode cX3_sink 31 = .ok (.iaload, 1) := by decide +kernel
theorem dX3_sink_32 : decode cX3_sink 32 = .ok (.aload_n 1, 1) := by decide +kernel
theorem dX3_sink_33 : decode cX3_sink 33 = .ok (.aload_n 2, 1) := by decide +kernel
theorem dX3_sink_34 : decode cX3_sink 34 = .ok (.iload 4, 2) := by decide +kernel
theorem dX3_sink_36 : decode cX3_sink 36 = .ok (.invokestatic 101, 3) := by decide +kernel
theorem dX3_sink_39 : decode cX3_sink 39 = .ok (.isub, 1) := by decide +kernel
theorem dX3_sink_40 : decode cX3_sink 40 = .ok (.istore 5, 2) := by decide +kernel
theorem dX3_sink_42 : decode cX3_sink 42 = .ok (.aload_n 1, 1) := by decide +kernel
theorem dX3_sink_43 : decode cX3_sink 43 = .ok (.getfield 98, 3) := by decide +kernel
theorem dX3_sink_46 : decode cX3_sink 46 = .ok (.iload 4, 2) := by decide +kernel
theorem dX3_sink_48 : decode cX3_sink 48 = .ok (.iaload, 1) := by decide +kernel
theorem dX3_sink_49 : decode cX3_sink 49 = .ok (.istore 6, 2) := by decide +kernel
theorem dX3_sink_51 : decode cX3_sink 51 = .ok (.aload_n 0, 1) := by decide +kernel
theorem dX3_sink_52 : decode cX3_sink 52 = .ok (.getfield 15, 3) := by decide +kernel
theorem dX3_sink_55 : decode cX3_sink 55 = .ok (.iload 6, 2) := by decide +kernel
theorem dX3_sink_57 : decode cX3_sink 57 = .ok (.aload_n 0, 1) := by decide +kernel
theorem dX3_sink_58 : decode cX3_sink 58 = .ok (.getfield 15, 3) := by decide +kernel
theorem dX3_sink_61 : decode cX3_sink 61 = .ok (.iload 6, 2) := by decide +kernel
theorem dX3_sink_63 : decode cX3_sink 63 = .ok (.iaload, 1) := by decide +kernel
theorem dX3_sink_64 : decode cX3_sink 64 = .ok (.iload 5, 2) := by decide +kernel
theorem dX3_sink_66 : decode cX3_sink 66 = .ok (.invokestatic 108, 3) := by decide +kernel
theorem dX3_sink_69 : decode cX3_sink 69 = .ok (.iastore, 1) := by decide +kernel
theorem dX3_sink_70 : decode cX3_sink 70 = .ok (.iinc 4 1, 3) := by decide +kernel
theorem dX3_sink_73 : decode cX3_sink 73 = .ok (.goto (-62), 3) := by decide +kernel
theorem dX3_sink_76 : decode cX3_sink 76 = .ok (.iinc 3 1, 3) := by decide +kernel
theorem dX3_sink_79 : decode cX3_sink 79 = .ok (.goto (-77), 3) := by decide +kernel
theorem dX3_sink_82 : decode cX3_sink 82 = .ok (.return_, 1) := by decide +kernel
theorem dX3_gap_0 : decode cX3_gap 0 = .ok (.aload_n 1, 1) := by decide +kernel
theorem dX3_gap_1 : decode cX3_gap 1 = .ok (.aload_n 0, 1) := by decide +kernel
theorem dX3_gap_2 : decode cX3_gap 2 = .ok (.getfield 75, 3) := by decide +kernel
theorem dX3_gap_5 : decode cX3_gap 5 = .ok (.aload_n 0, 1) := by decide +kernel
theorem dX3_gap_6 : decode cX3_gap 6 = .ok (.getfield 98, 3) := by decide +kernel
theorem dX3_gap_9 : decode cX3_gap 9 = .ok (.iload_n 2, 1) := by decide +kernel
theorem dX3_gap_10 : decode cX3_gap 10 = .ok (.iaload, 1) := by decide +kernel
theorem dX3_gap_11 : decode cX3_gap 11 = .ok (.iaload, 1) := by decide +kernel
theorem dX3_gap_12 : decode cX3_gap 12 = .ok (.aload_n 0, 1) := by decide +kernel
theorem dX3_gap_13 : decode cX3_gap 13 = .ok (.getfield 75, 3) := by decide +kernel
theorem dX3_gap_16 : decode cX3_gap 16 = .ok (.aload_n 0, 1) := by decide +kernel
theorem dX3_gap_17 : decode cX3_gap 17 = .ok (.getfield 105, 3) := by decide +kernel
theorem dX3_gap_20 : decode cX3_gap 20 = .ok (.iload_n 2, 1) := by decide +kernel
theorem dX3_gap_21 : decode cX3_gap 21 = .ok (.iaload, 1) := by decide +kernel
theorem dX3_gap_22 : decode cX3_gap 22 = .ok (.iaload, 1) := by decide +kernel
theorem dX3_gap_23 : decode cX3_gap 23 = .ok (.invokevirtual 78, 3) := by decide +kernel
theorem dX3_gap_26 : decode cX3_gap 26 = .ok (.ireturn, 1) := by decide +kernel
theorem dX4_init_0 : decode cX4_init 0 = .ok (.aload_n 0, 1) := by decide +kernel
theorem dX4_init_1 : decode cX4_init 1 = .ok (.invokespecial 3, 3) := by decide +kernel
theorem dX4_init_4 : decode cX4_init 4 = .ok (.aload_n 0, 1) := by decide +kernel
theorem dX4_init_5 : decode cX4_init 5 = .ok (.sipush 200, 3) := by decide +kernel
theorem dX4_init_8 : decode cX4_init 8 = .ok (.newarray .byte, 2) := by decide +kernel
theorem dX4_init_10 : decode cX4_init 10 = .ok (.putfield 9, 3) := by decide +kernel
end
section
theorem dX4_init_13 : decode cX4_init 13 = .ok (.aload_n 0, 1) := by decide +kernel
theorem dX4_init_14 : decode cX4_init 14 = .ok (.iconst 0, 1) := by decide +kernel
theorem dX4_init_15 : decode cX4_init 15 = .ok (.putfield 15, 3) := by decide +kernel
theorem dX4_init_18 : decode cX4_init 18 = .ok (.return_, 1) := by decide +kernel
theorem dX4_append_0 : decode cX4_append 0 = .ok (.bipush 8, 2) := by decide +kernel
theorem dX4_append_2 : decode cX4_append 2 = .ok (.iload_n 1, 1) := by decide +kernel
theorem dX4_append_3 : decode cX4_append 3 = .ok (.iconst 1, 1) := by decide +kernel
theorem dX4_append_4 : decode cX4_append 4 = .ok (.isub, 1) := by decide +kernel
theorem dX4_append_5 : decode cX4_append 5 = .ok (.imul, 1) := by decide +kernel
theorem dX4_append_6 : decode cX4_append 6 = .ok (.istore 4, 2) := by decide +kernel
theorem dX4_append_8 : decode cX4_append 8 = .ok (.iload 4, 2) := by decide +kernel
theorem dX4_append_10 : decode cX4_append 10 = .ok (.ifCond .lt 34, 3) := by decide +kernel
theorem dX4_append_13 : decode cX4_append 13 = .ok (.aload_n 0, 1) := by decide +kernel
theorem dX4_append_14 : decode cX4_append 14 = .ok (.getfield 9, 3) := by decide +kernel
theorem dX4_append_17 : decode cX4_append 17 = .ok (.aload_n 0, 1) := by decide +kernel
theorem dX4_append_18 : decode cX4_append 18 = .ok (.getfield 15, 3) := by decide +kernel
theorem dX4_append_21 : decode cX4_append 21 = .ok (.lload_n 2, 1) := by decide +kernel
theorem dX4_append_22 : decode cX4_append 22 = .ok (.iload 4, 2) := by decide +kernel
theorem dX4_append_24 : decode cX4_append 24 = .ok (.lushr, 1) := by decide +kernel
theorem dX4_append_25 : decode cX4_append 25 = .ok (.l2i, 1) := by decide +kernel
theorem dX4_append_26 : decode cX4_append 26 = .ok (.i2b, 1) := by decide +kernel
theorem dX4_append_27 : decode cX4_append 27 = .ok (.bastore, 1) := by decide +kernel
theorem dX4_append_28 : decode cX4_append 28 = .ok (.aload_n 0, 1) := by decide +kernel
theorem dX4_append_29 : decode cX4_append 29 = .ok (.dup, 1) := by decide +kernel
theorem dX4_append_30 : decode cX4_append 30 = .ok (.getfield 15, 3) := by decide +kernel
theorem dX4_append_33 : decode cX4_append 33 = .ok (.iconst 1, 1) := by decide +kernel
theorem dX4_append_34 : decode cX4_append 34 = .ok (.iadd, 1) := by decide +kernel
theorem dX4_append_35 : decode cX4_append 35 = .ok (.putfield 15, 3) := by decide +kernel
theorem dX4_append_38 : decode cX4_append 38 = .ok (.iinc 4 (-8), 3) := by decide +kernel
theorem dX4_append_41 : decode cX4_append 41 = .ok (.goto (-33), 3) := by decide +kernel
theorem dX4_append_44 : decode cX4_append 44 = .ok (.return_, 1) := by decide +kernel
theorem dX4_byteAt_0 : decode cX4_byteAt 0 = .ok (.iload_n 1, 1) := by decide +kernel
theorem dX4_byteAt_1 : decode cX4_byteAt 1 = .ok (.ifCond .lt 20, 3) := by decide +kernel
theorem dX4_byteAt_4 : decode cX4_byteAt 4 = .ok (.iload_n 1, 1) := by decide +kernel
theorem dX4_byteAt_5 : decode cX4_byteAt 5 = .ok (.aload_n 0, 1) := by decide +kernel
theorem dX4_byteAt_6 : decode cX4_byteAt 6 = .ok (.getfield 15, 3) := by decide +kernel
theorem dX4_byteAt_9 : decode cX4_byteAt 9 = .ok (.if_icmp .ge 12, 3) := by decide +kernel
theorem dX4_byteAt_12 : decode cX4_byteAt 12 = .ok (.aload_n 0, 1) := by decide +kernel
theorem dX4_byteAt_13 : decode cX4_byteAt 13 = .ok (.getfield 9, 3) := by decide +kernel
theorem dX4_byteAt_16 : decode cX4_byteAt 16 = .ok (.iload_n 1, 1) := by decide +kernel
theorem dX4_byteAt_17 : decode cX4_byteAt 17 = .ok (.baload, 1) := by decide +kernel
theorem dX4_byteAt_18 : decode cX4_byteAt 18 = .ok (.goto 4, 3) := by decide +kernel
theorem dX4_byteAt_21 : decode cX4_byteAt 21 = .ok (.iconst (-1), 1) := by decide +kernel
theorem dX4_byteAt_22 : decode cX4_byteAt 22 = .ok (.ireturn, 1) := by decide +kernel
theorem dX5_init_0 : decode cX5_init 0 = .ok (.aload_n 0, 1) := by decide +kernel
theorem dX5_init_1 : decode cX5_init 1 = .ok (.invokespecial 3, 3) := by decide +kernel
theorem dX5_init_4 : decode cX5_init 4 = .ok (.aload_n 0, 1) := by decide +kernel
theorem dX5_init_5 : decode cX5_init 5 = .ok (.bipush 30, 2) := by decide +kernel
theorem dX5_init_7 : decode cX5_init 7 = .ok (.newarray .int, 2) := by decide +kernel
theorem dX5_init_9 : decode cX5_init 9 = .ok (.putfield 9, 3) := by decide +kernel
theorem dX5_init_12 : decode cX5_init 12 = .ok (.aload_n 0, 1) := by decide +kernel
theorem dX5_init_13 : decode cX5_init 13 = .ok (.bipush 30, 2) := by decide +kernel
theorem dX5_init_15 : decode cX5_init 15 = .ok (.newarray .int, 2) := by decide +kernel
theorem dX5_init_17 : decode cX5_init 17 = .ok (.putfield 15, 3) := by decide +kernel
theorem dX5_init_20 : decode cX5_init 20 = .ok (.aload_n 0, 1) := by decide +kernel
theorem dX5_init_21 : decode cX5_init 21 = .ok (.bipush 30, 2) := by decide +kernel
theorem dX5_init_23 : decode cX5_init 23 = .ok (.newarray .int, 2) := by decide +kernel
theorem dX5_init_25 : decode cX5_init 25 = .ok (.putfield 18, 3) := by decide +kernel
theorem dX5_init_28 : decode cX5_init 28 = .ok (.return_, 1) := by decide +kernel
theorem dX5_isVoice_0 : decode cX5_isVoice 0 = .ok (.aload_n 0, 1) := by decide +kernel
theorem dX5_isVoice_1 : decode cX5_isVoice 1 = .ok (.getfield 9, 3) := by decide +kernel
theorem dX5_isVoice_4 : decode cX5_isVoice 4 = .ok (.iload_n 1, 1) := by decide +kernel
theorem dX5_isVoice_5 : decode cX5_isVoice 5 = .ok (.iaload, 1) := by decide +kernel
theorem dX5_isVoice_6 : decode cX5_isVoice 6 = .ok (.iconst (-1), 1) := by decide +kernel
theorem dX5_isVoice_7 : decode cX5_isVoice 7 = .ok (.if_icmp .ne 7, 3) := by decide +kernel
theorem dX5_isVoice_10 : decode cX5_isVoice 10 = .ok (.iconst 1, 1) := by decide +kernel
theorem dX5_isVoice_11 : decode cX5_isVoice 11 = .ok (.goto 4, 3) := by decide +kernel
theorem dX5_isVoice_14 : decode cX5_isVoice 14 = .ok (.iconst 0, 1) := by decide +kernel
theorem dX5_isVoice_15 : decode cX5_isVoice 15 = .ok (.ireturn, 1) := by decide +kernel
theorem dX5_grow_0 : decode cX5_grow 0 = .ok (.iconst 0, 1) := by decide +kernel
theorem dX5_grow_1 : decode cX5_grow 1 = .ok (.istore 5, 2) := by decide +kernel
theorem dX5_grow_3 : decode cX5_grow 3 = .ok (.iload 5, 2) := by decide +kernel
theorem dX5_grow_5 : decode cX5_grow 5 = .ok (.aload_n 1, 1) := by decide +kernel
theorem dX5_grow_6 : decode cX5_grow 6 = .ok (.getfield 21, 3) := by decide +kernel
theorem dX5_grow_9 : decode cX5_grow 9 = .ok (.if_icmp .ge 39, 3) := by decide +kernel
theorem dX5_grow_12 : decode cX5_grow 12 = .ok (.aload_n 0, 1) := by decide +kernel
theorem dX5_grow_13 : decode cX5_grow 13 = .ok (.getfield 9, 3) := by decide +kernel
theorem dX5_grow_16 : decode cX5_grow 16 = .ok (.iload 5, 2) := by decide +kernel
theorem dX5_grow_18 : decode cX5_grow 18 = .ok (.aload_n 1, 1) := by decide +kernel
theorem dX5_grow_19 : decode cX5_grow 19 = .ok (.iload 5, 2) := by decide +kernel
theorem dX5_grow_21 : decode cX5_grow 21 = .ok (.invokevirtual 27, 3) := by decide +kernel
theorem dX5_grow_24 : decode cX5_grow 24 = .ok (.ifCond .eq 7, 3) := by decide +kernel
theorem dX5_grow_27 : decode cX5_grow 27 = .ok (.iconst (-1), 1) := by decide +kernel
theorem dX5_grow_28 : decode cX5_grow 28 = .ok (.goto 13, 3) := by decide +kernel
theorem dX5_grow_31 : decode cX5_grow 31 = .ok (.aload_n 1, 1) := by decide +kernel
theorem dX5_grow_32 : decode cX5_grow 32 = .ok (.aload_n 2, 1) := by decide +kernel
theorem dX5_grow_33 : decode cX5_grow 33 = .ok (.aload_n 3, 1) := by decide +kernel
theorem dX5_grow_34 : decode cX5_grow 34 = .ok (.iload 5, 2) := by decide +kernel
theorem dX5_grow_36 : decode cX5_grow 36 = .ok (.iload 4, 2) := by decide +kernel
theorem dX5_grow_38 : decode cX5_grow 38 = .ok (.invokestatic 31, 3) := by decide +kernel
theorem dX5_grow_41 : decode cX5_grow 41 = .ok (.iastore, 1) := by decide +kernel
theorem dX5_grow_42 : decode cX5_grow 42 = .ok (.iinc 5 1, 3) := by decide +kernel
theorem dX5_grow_45 : decode cX5_grow 45 = .ok (.goto (-42), 3) := by decide +kernel
theorem dX5_grow_48 : decode cX5_grow 48 = .ok (.iconst 0, 1) := by decide +kernel
theorem dX5_grow_49 : decode cX5_grow 49 = .ok (.istore 5, 2) := by decide +kernel
theorem dX5_grow_51 : decode cX5_grow 51 = .ok (.iload 5, 2) := by decide +kernel
theorem dX5_grow_53 : decode cX5_grow 53 = .ok (.aload_n 1, 1) := by decide +kernel
theorem dX5_grow_54 : decode cX5_grow 54 = .ok (.getfield 21, 3) := by decide +kernel
theorem dX5_grow_57 : decode cX5_grow 57 = .ok (.if_icmp .ge 15, 3) := by decide +kernel
theorem dX5_grow_60 : decode cX5_grow 60 = .ok (.aload_n 0, 1) := by decide +kernel
theorem dX5_grow_61 : decode cX5_grow 61 = .ok (.iload 5, 2) := by decide +kernel
theorem dX5_grow_63 : decode cX5_grow 63 = .ok (.invokevirtual 35, 3) := by decide +kernel
theorem dX5_grow_66 : decode cX5_grow 66 = .ok (.iinc 5 1, 3) := by decide +kernel
theorem dX5_grow_69 : decode cX5_grow 69 = .ok (.goto (-18), 3) := by decide +kernel
theorem dX5_grow_72 : decode cX5_grow 72 = .ok (.return_, 1) := by decide +kernel
theorem dX5_nearest_0 : decode cX5_nearest 0 = .ok (.iconst (-1), 1) := by decide +kernel
theorem dX5_nearest_1 : decode cX5_nearest 1 = .ok (.istore 5, 2) := by decide +kernel
theorem dX5_nearest_3 : decode cX5_nearest 3 = .ok (.iload 4, 2) := by decide +kernel
theorem dX5_nearest_5 : decode cX5_nearest 5 = .ok (.iconst 1, 1) := by decide +kernel
theorem dX5_nearest_6 : decode cX5_nearest 6 = .ok (.iadd, 1) := by decide +kernel
theorem dX5_nearest_7 : decode cX5_nearest 7 = .ok (.istore 6, 2) := by decide +kernel
theorem dX5_nearest_9 : decode cX5_nearest 9 = .ok (.iconst 0, 1) := by decide +kernel
theorem dX5_nearest_10 : decode cX5_nearest 10 = .ok (.istore 7, 2) := by decide +kernel
theorem dX5_nearest_12 : decode cX5_nearest 12 = .ok (.iload 7, 2) := by decide +kernel
theorem dX5_nearest_14 : decode cX5_nearest 14 = .ok (.aload_n 0, 1) := by decide +kernel
theorem dX5_nearest_15 : decode cX5_nearest 15 = .ok (.getfield 21, 3) := by decide +kernel
theorem dX5_nearest_18 : decode cX5_nearest 18 = .ok (.if_icmp .ge 48, 3) := by decide +kernel
theorem dX5_nearest_21 : decode cX5_nearest 21 = .ok (.aload_n 0, 1) := by decide +kernel
theorem dX5_nearest_22 : decode cX5_nearest 22 = .ok (.aload_n 1, 1) := by decide +kernel
theorem dX5_nearest_23 : decode cX5_nearest 23 = .ok (.aload_n 2, 1) := by decide +kernel
theorem dX5_nearest_24 : decode cX5_nearest 24 = .ok (.iload_n 3, 1) := by decide +kernel
theorem dX5_nearest_25 : decode cX5_nearest 25 = .ok (.iload 7, 2) := by decide +kernel
theorem dX5_nearest_27 : decode cX5_nearest 27 = .ok (.invokestatic 39, 3) := by decide +kernel
theorem dX5_nearest_30 : decode cX5_nearest 30 = .ok (.ifCond .ne 6, 3) := by decide +kernel
theorem dX5_nearest_33 : decode cX5_nearest 33 = .ok (.goto 27, 3) := by decide +kernel
theorem dX5_nearest_36 : decode cX5_nearest 36 = .ok (.aload_n 0, 1) := by decide +kernel
theorem dX5_nearest_37 : decode cX5_nearest 37 = .ok (.iload_n 3, 1) := by decide +kernel
theorem dX5_nearest_38 : decode cX5_nearest 38 = .ok (.iload 7, 2) := by decide +kernel
theorem dX5_nearest_40 : decode cX5_nearest 40 = .ok (.invokevirtual 43, 3) := by decide +kernel
theorem dX5_nearest_43 : decode cX5_nearest 43 = .ok (.istore 8, 2) := by decide +kernel
theorem dX5_nearest_45 : decode cX5_nearest 45 = .ok (.iload 8, 2) := by decide +kernel
theorem dX5_nearest_47 : decode cX5_nearest 47 = .ok (.iload 6, 2) := by decide +kernel
theorem dX5_nearest_49 : decode cX5_nearest 49 = .ok (.if_icmp .ge 11, 3) := by decide +kernel
theorem dX5_nearest_52 : decode cX5_nearest 52 = .ok (.iload 8, 2) := by decide +kernel
theorem dX5_nearest_54 : decode cX5_nearest 54 = .ok (.istore 6, 2) := by decide +kernel
theorem dX5_nearest_56 : decode cX5_nearest 56 = .ok (.iload 7, 2) := by decide +kernel
theorem dX5_nearest_58 : decode cX5_nearest 58 = .ok (.istore 5, 2) := by decide +kernel
theorem dX5_nearest_60 : decode cX5_nearest 60 = .ok (.iinc 7 1, 3) := by decide +kernel
theorem dX5_nearest_63 : decode cX5_nearest 63 = .ok (.goto (-51), 3) := by decide +kernel
theorem dX5_nearest_66 : decode cX5_nearest 66 = .ok (.iload 5, 2) := by decide +kernel
theorem dX5_nearest_68 : decode cX5_nearest 68 = .ok (.ireturn, 1) := by decide +kernel
theorem dX5_couldCopy_0 : decode cX5_couldCopy 0 = .ok (.aload_n 0, 1) := by decide +kernel
theorem dX5_couldCopy_1 : decode cX5_couldCopy 1 = .ok (.getfield 47, 3) := by decide +kernel
theorem dX5_couldCopy_4 : decode cX5_couldCopy 4 = .ok (.iload_n 3, 1) := by decide +kernel
theorem dX5_couldCopy_5 : decode cX5_couldCopy 5 = .ok (.iaload, 1) := by decide +kernel
theorem dX5_couldCopy_6 : decode cX5_couldCopy 6 = .ok (.istore 5, 2) := by decide +kernel
theorem dX5_couldCopy_8 : decode cX5_couldCopy 8 = .ok (.aload_n 0, 1) := by decide +kernel
theorem dX5_couldCopy_9 : decode cX5_couldCopy 9 = .ok (.getfield 47, 3) := by decide +kernel
theorem dX5_couldCopy_12 : decode cX5_couldCopy 12 = .ok (.iload 4, 2) := by decide +kernel
theorem dX5_couldCopy_14 : decode cX5_couldCopy 14 = .ok (.iaload, 1) := by decide +kernel
theorem dX5_couldCopy_15 : decode cX5_couldCopy 15 = .ok (.istore 6, 2) := by decide +kernel
theorem dX5_couldCopy_17 : decode cX5_couldCopy 17 = .ok (.iload 5, 2) := by decide +kernel
theorem dX5_couldCopy_19 : decode cX5_couldCopy 19 = .ok (.iload 6, 2) := by decide +kernel
theorem dX5_couldCopy_21 : decode cX5_couldCopy 21 = .ok (.if_icmp .eq 33, 3) := by decide +kernel
theorem dX5_couldCopy_24 : decode cX5_couldCopy 24 = .ok (.aload_n 0, 1) := by decide +kernel
theorem dX5_couldCopy_25 : decode cX5_couldCopy 25 = .ok (.getfield 50, 3) := by decide +kernel
theorem dX5_couldCopy_28 : decode cX5_couldCopy 28 = .ok (.iload_n 3, 1) := by decide +kernel
theorem dX5_couldCopy_29 : decode cX5_couldCopy 29 = .ok (.iaload, 1) := by decide +kernel
theorem dX5_couldCopy_30 : decode cX5_couldCopy 30 = .ok (.aload_n 0, 1) := by decide +kernel
theorem dX5_couldCopy_31 : decode cX5_couldCopy 31 = .ok (.getfield 50, 3) := by decide +kernel
theorem dX5_couldCopy_34 : decode cX5_couldCopy 34 = .ok (.iload 4, 2) := by decide +kernel
theorem dX5_couldCopy_36 : decode cX5_couldCopy 36 = .ok (.iaload, 1) := by decide +kernel
theorem dX5_couldCopy_37 : decode cX5_couldCopy 37 = .ok (.if_icmp .ne 17, 3) := by decide +kernel
theorem dX5_couldCopy_40 : decode cX5_couldCopy 40 = .ok (.aload_n 0, 1) := by decide +kernel
theorem dX5_couldCopy_41 : decode cX5_couldCopy 41 = .ok (.iload_n 3, 1) := by decide +kernel
theorem dX5_couldCopy_42 : decode cX5_couldCopy 42 = .ok (.invokevirtual 53, 3) := by decide +kernel
theorem dX5_couldCopy_45 : decode cX5_couldCopy 45 = .ok (.aload_n 0, 1) := by decide +kernel
theorem dX5_couldCopy_46 : decode cX5_couldCopy 46 = .ok (.iload 4, 2) := by decide +kernel
theorem dX5_couldCopy_48 : decode cX5_couldCopy 48 = .ok (.invokevirtual 53, 3) := by decide +kernel
theorem dX5_couldCopy_51 : decode cX5_couldCopy 51 = .ok (.if_icmp .eq 5, 3) := by decide +kernel
theorem dX5_couldCopy_54 : decode cX5_couldCopy 54 = .ok (.iconst 0, 1) := by decide +kernel
theorem dX5_couldCopy_55 : decode cX5_couldCopy 55 = .ok (.ireturn, 1) := by decide +kernel
theorem dX5_couldCopy_56 : decode cX5_couldCopy 56 = .ok (.aload_n 0, 1) := by decide +kernel
theorem dX5_couldCopy_57 : decode cX5_couldCopy 57 = .ok (.getfield 56, 3) := by decide +kernel
theorem dX5_couldCopy_60 : decode cX5_couldCopy 60 = .ok (.iload 6, 2) := by decide +kernel
theorem dX5_couldCopy_62 : decode cX5_couldCopy 62 = .ok (.iaload, 1) := by decide +kernel
theorem dX5_couldCopy_63 : decode cX5_couldCopy 63 = .ok (.istore 7, 2) := by decide +kernel
theorem dX5_couldCopy_65 : decode cX5_couldCopy 65 = .ok (.aload_n 0, 1) := by decide +kernel
theorem dX5_couldCopy_66 : decode cX5_couldCopy 66 = .ok (.getfield 56, 3) := by decide +kernel
theorem dX5_couldCopy_69 : decode cX5_couldCopy 69 = .ok (.iload 5, 2) := by decide +kernel
theorem dX5_couldCopy_71 : decode cX5_couldCopy 71 = .ok (.iaload, 1) := by decide +kernel
theorem dX5_couldCopy_72 : decode cX5_couldCopy 72 = .ok (.istore 8, 2) := by decide +kernel
theorem dX5_couldCopy_74 : decode cX5_couldCopy 74 = .ok (.aload_n 1, 1) := by decide +kernel
theorem dX5_couldCopy_75 : decode cX5_couldCopy 75 = .ok (.iload 7, 2) := by decide +kernel
theorem dX5_couldCopy_77 : decode cX5_couldCopy 77 = .ok (.iload 8, 2) := by decide +kernel
theorem dX5_couldCopy_79 : decode cX5_couldCopy 79 = .ok (.invokevirtual 59, 3) := by decide +kernel
theorem dX5_couldCopy_82 : decode cX5_couldCopy 82 = .ok (.ifCond .eq 29, 3) := by decide +kernel
theorem dX5_couldCopy_85 : decode cX5_couldCopy 85 = .ok (.aload_n 2, 1) := by decide +kernel
theorem dX5_couldCopy_86 : decode cX5_couldCopy 86 = .ok (.getfield 65, 3) := by decide +kernel
theorem dX5_couldCopy_89 : decode cX5_couldCopy 89 = .ok (.iload 5, 2) := by decide +kernel
theorem dX5_couldCopy_91 : decode cX5_couldCopy 91 = .ok (.iaload, 1) := by decide +kernel
theorem dX5_couldCopy_92 : decode cX5_couldCopy 92 = .ok (.aload_n 2, 1) := by decide +kernel
theorem dX5_couldCopy_93 : decode cX5_couldCopy 93 = .ok (.getfield 70, 3) := by decide +kernel
theorem dX5_couldCopy_96 : decode cX5_couldCopy 96 = .ok (.iload 6, 2) := by decide +kernel
theorem dX5_couldCopy_98 : decode cX5_couldCopy 98 = .ok (.iaload, 1) := by decide +kernel
theorem dX5_couldCopy_99 : decode cX5_couldCopy 99 = .ok (.aload_n 1, 1) := by decide +kernel
theorem dX5_couldCopy_100 : decode cX5_couldCopy 100 = .ok (.iload 7, 2) := by decide +kernel
theorem dX5_couldCopy_102 : decode cX5_couldCopy 102 = .ok (.iload 8, 2) := by decide +kernel
theorem dX5_couldCopy_104 : decode cX5_couldCopy 104 = .ok (.invokevirtual 73, 3) := by decide +kernel
theorem dX5_couldCopy_107 : decode cX5_couldCopy 107 = .ok (.iadd, 1) := by decide +kernel
theorem dX5_couldCopy_108 : decode cX5_couldCopy 108 = .ok (.if_icmp .ge 5, 3) := by decide +kernel
theorem dX5_couldCopy_111 : decode cX5_couldCopy 111 = .ok (.iconst 0, 1) := by decide +kernel
theorem dX5_couldCopy_112 : decode cX5_couldCopy 112 = .ok (.ireturn, 1) := by decide +kernel
theorem dX5_couldCopy_113 : decode cX5_couldCopy 113 = .ok (.aload_n 2, 1) := by decide +kernel
theorem dX5_couldCopy_114 : decode cX5_couldCopy 114 = .ok (.getfield 70, 3) := by decide +kernel
theorem dX5_couldCopy_117 : decode cX5_couldCopy 117 = .ok (.iload 6, 2) := by decide +kernel
theorem dX5_couldCopy_119 : decode cX5_couldCopy 119 = .ok (.iaload, 1) := by decide +kernel
theorem dX5_couldCopy_120 : decode cX5_couldCopy 120 = .ok (.aload_n 2, 1) := by decide +kernel
theorem dX5_couldCopy_121 : decode cX5_couldCopy 121 = .ok (.getfield 70, 3) := by decide +kernel
theorem dX5_couldCopy_124 : decode cX5_couldCopy 124 = .ok (.iload 5, 2) := by decide +kernel
theorem dX5_couldCopy_126 : decode cX5_couldCopy 126 = .ok (.iaload, 1) := by decide +kernel
theorem dX5_couldCopy_127 : decode cX5_couldCopy 127 = .ok (.if_icmp .lt 27, 3) := by decide +kernel
theorem dX5_couldCopy_130 : decode cX5_couldCopy 130 = .ok (.aload_n 2, 1) := by decide +kernel
theorem dX5_couldCopy_131 : decode cX5_couldCopy 131 = .ok (.getfield 70, 3) := by decide +kernel
theorem dX5_couldCopy_134 : decode cX5_couldCopy 134 = .ok (.iload 6, 2) := by decide +kernel
theorem dX5_couldCopy_136 : decode cX5_couldCopy 136 = .ok (.iaload, 1) := by decide +kernel
theorem dX5_couldCopy_137 : decode cX5_couldCopy 137 = .ok (.aload_n 2, 1) := by decide +kernel
theorem dX5_couldCopy_138 : decode cX5_couldCopy 138 = .ok (.getfield 70, 3) := by decide +kernel
theorem dX5_couldCopy_141 : decode cX5_couldCopy 141 = .ok (.iload 5, 2) := by decide +kernel
theorem dX5_couldCopy_143 : decode cX5_couldCopy 143 = .ok (.iaload, 1) := by decide +kernel
theorem dX5_couldCopy_144 : decode cX5_couldCopy 144 = .ok (.if_icmp .ne 14, 3) := by decide +kernel
theorem dX5_couldCopy_147 : decode cX5_couldCopy 147 = .ok (.iload 6, 2) := by decide +kernel
theorem dX5_couldCopy_149 : decode cX5_couldCopy 149 = .ok (.iload 5, 2) := by decide +kernel
theorem dX5_couldCopy_151 : decode cX5_couldCopy 151 = .ok (.if_icmp .ge 7, 3) := by decide +kernel
theorem dX5_couldCopy_154 : decode cX5_couldCopy 154 = .ok (.iconst 1, 1) := by decide +kernel
theorem dX5_couldCopy_155 : decode cX5_couldCopy 155 = .ok (.goto 4, 3) := by decide +kernel
theorem dX5_couldCopy_158 : decode cX5_couldCopy 158 = .ok (.iconst 0, 1) := by decide +kernel
theorem dX5_couldCopy_159 : decode cX5_couldCopy 159 = .ok (.ireturn, 1) := by decide +kernel
theorem dX5_climb_0 : decode cX5_climb 0 = .ok (.iload_n 1, 1) := by decide +kernel
theorem dX5_climb_1 : decode cX5_climb 1 = .ok (.istore_n 2, 1) := by decide +kernel
theorem dX5_climb_2 : decode cX5_climb 2 = .ok (.iconst 0, 1) := by decide +kernel
theorem dX5_climb_3 : decode cX5_climb 3 = .ok (.istore_n 3, 1) := by decide +kernel
theorem dX5_climb_4 : decode cX5_climb 4 = .ok (.iload_n 3, 1) := by decide +kernel
theorem dX5_climb_5 : decode cX5_climb 5 = .ok (.bipush 12, 2) := by decide +kernel
theorem dX5_climb_7 : decode cX5_climb 7 = .ok (.if_icmp .ge 26, 3) := by decide +kernel
theorem dX5_climb_10 : decode cX5_climb 10 = .ok (.aload_n 0, 1) := by decide +kernel
theorem dX5_climb_11 : decode cX5_climb 11 = .ok (.getfield 9, 3) := by decide +kernel
theorem dX5_climb_14 : decode cX5_climb 14 = .ok (.iload_n 2, 1) := by decide +kernel
theorem dX5_climb_15 : decode cX5_climb 15 = .ok (.iaload, 1) := by decide +kernel
theorem dX5_climb_16 : decode cX5_climb 16 = .ok (.iconst (-1), 1) := by decide +kernel
theorem dX5_climb_17 : decode cX5_climb 17 = .ok (.if_icmp .eq 16, 3) := by decide +kernel
theorem dX5_climb_20 : decode cX5_climb 20 = .ok (.aload_n 0, 1) := by decide +kernel
theorem dX5_climb_21 : decode cX5_climb 21 = .ok (.getfield 9, 3) := by decide +kernel
theorem dX5_climb_24 : decode cX5_climb 24 = .ok (.iload_n 2, 1) := by decide +kernel
theorem dX5_climb_25 : decode cX5_climb 25 = .ok (.iaload, 1) := by decide +kernel
theorem dX5_climb_26 : decode cX5_climb 26 = .ok (.istore_n 2, 1) := by decide +kernel
theorem dX5_climb_27 : decode cX5_climb 27 = .ok (.iinc 3 1, 3) := by decide +kernel
theorem dX5_climb_30 : decode cX5_climb 30 = .ok (.goto (-26), 3) := by decide +kernel
theorem dX5_climb_33 : decode cX5_climb 33 = .ok (.aload_n 0, 1) := by decide +kernel
theorem dX5_climb_34 : decode cX5_climb 34 = .ok (.getfield 15, 3) := by decide +kernel
theorem dX5_climb_37 : decode cX5_climb 37 = .ok (.iload_n 1, 1) := by decide +kernel
theorem dX5_climb_38 : decode cX5_climb 38 = .ok (.iload_n 2, 1) := by decide +kernel
theorem dX5_climb_39 : decode cX5_climb 39 = .ok (.iastore, 1) := by decide +kernel
theorem dX5_climb_40 : decode cX5_climb 40 = .ok (.aload_n 0, 1) := by decide +kernel
theorem dX5_climb_41 : decode cX5_climb 41 = .ok (.getfield 18, 3) := by decide +kernel
theorem dX5_climb_44 : decode cX5_climb 44 = .ok (.iload_n 1, 1) := by decide +kernel
theorem dX5_climb_45 : decode cX5_climb 45 = .ok (.iload_n 3, 1) := by decide +kernel
theorem dX5_climb_46 : decode cX5_climb 46 = .ok (.iastore, 1) := by decide +kernel
theorem dX5_climb_47 : decode cX5_climb 47 = .ok (.return_, 1) := by decide +kernel
theorem dX6_init_0 : decode cX6_init 0 = .ok (.aload_n 0, 1) := by decide +kernel
theorem dX6_init_1 : decode cX6_init 1 = .ok (.invokespecial 3, 3) := by decide +kernel
theorem dX6_init_4 : decode cX6_init 4 = .ok (.aload_n 0, 1) := by decide +kernel
theorem dX6_init_5 : decode cX6_init 5 = .ok (.bipush 24, 2) := by decide +kernel
theorem dX6_init_7 : decode cX6_init 7 = .ok (.newarray .int, 2) := by decide +kernel
theorem dX6_init_9 : decode cX6_init 9 = .ok (.putfield 9, 3) := by decide +kernel
theorem dX6_init_12 : decode cX6_init 12 = .ok (.return_, 1) := by decide +kernel
theorem dX6_put_0 : decode cX6_put 0 = .ok (.aload_n 0, 1) := by decide +kernel
theorem dX6_put_1 : decode cX6_put 1 = .ok (.getfield 9, 3) := by decide +kernel
theorem dX6_put_4 : decode cX6_put 4 = .ok (.iload_n 1, 1) := by decide +kernel
theorem dX6_put_5 : decode cX6_put 5 = .ok (.iconst 4, 1) := by decide +kernel
theorem dX6_put_6 : decode cX6_put 6 = .ok (.imul, 1) := by decide +kernel
theorem dX6_put_7 : decode cX6_put 7 = .ok (.iload_n 2, 1) := by decide +kernel
theorem dX6_put_8 : decode cX6_put 8 = .ok (.iadd, 1) := by decide +kernel
theorem dX6_put_9 : decode cX6_put 9 = .ok (.iaload, 1) := by decide +kernel
theorem dX6_put_10 : decode cX6_put 10 = .ok (.istore 4, 2) := by decide +kernel
theorem dX6_put_12 : decode cX6_put 12 = .ok (.aload_n 0, 1) := by decide +kernel
theorem dX6_put_13 : decode cX6_put 13 = .ok (.getfield 9, 3) := by decide +kernel
theorem dX6_put_16 : decode cX6_put 16 = .ok (.iload_n 1, 1) := by decide +kernel
theorem dX6_put_17 : decode cX6_put 17 = .ok (.iconst 4, 1) := by decide +kernel
theorem dX6_put_18 : decode cX6_put 18 = .ok (.imul, 1) := by decide +kernel
theorem dX6_put_19 : decode cX6_put 19 = .ok (.iload_n 2, 1) := by decide +kernel
theorem dX6_put_20 : decode cX6_put 20 = .ok (.iadd, 1) := by decide +kernel
theorem dX6_put_21 : decode cX6_put 21 = .ok (.iload_n 3, 1) := by decide +kernel
theorem dX6_put_22 : decode cX6_put 22 = .ok (.iastore, 1) := by decide +kernel
theorem dX6_put_23 : decode cX6_put 23 = .ok (.iload 4, 2) := by decide +kernel
theorem dX6_put_25 : decode cX6_put 25 = .ok (.ireturn, 1) := by decide +kernel
theorem dX6_safest_0 : decode cX6_safest 0 = .ok (.iconst 0, 1) := by decide +kernel
theorem dX6_safest_1 : decode cX6_safest 1 = .ok (.istore_n 3, 1) := by decide +kernel
theorem dX6_safest_2 : decode cX6_safest 2 = .ok (.iconst 1, 1) := by decide +kernel
theorem dX6_safest_3 : decode cX6_safest 3 = .ok (.istore 4, 2) := by decide +kernel
theorem dX6_safest_5 : decode cX6_safest 5 = .ok (.iload 4, 2) := by decide +kernel
theorem dX6_safest_7 : decode cX6_safest 7 = .ok (.iload_n 1, 1) := by decide +kernel
theorem dX6_safest_8 : decode cX6_safest 8 = .ok (.if_icmp .ge 28, 3) := by decide +kernel
theorem dX6_safest_11 : decode cX6_safest 11 = .ok (.aload_n 0, 1) := by decide +kernel
theorem dX6_safest_12 : decode cX6_safest 12 = .ok (.iload 4, 2) := by decide +kernel
theorem dX6_safest_14 : decode cX6_safest 14 = .ok (.iload_n 2, 1) := by decide +kernel
theorem dX6_safest_15 : decode cX6_safest 15 = .ok (.invokevirtual 15, 3) := by decide +kernel
theorem dX6_safest_18 : decode cX6_safest 18 = .ok (.aload_n 0, 1) := by decide +kernel
theorem dX6_safest_19 : decode cX6_safest 19 = .ok (.iload_n 3, 1) := by decide +kernel
theorem dX6_safest_20 : decode cX6_safest 20 = .ok (.iload_n 2, 1) := by decide +kernel
theorem dX6_safest_21 : decode cX6_safest 21 = .ok (.invokevirtual 15, 3) := by decide +kernel
theorem dX6_safest_24 : decode cX6_safest 24 = .ok (.if_icmp .le 6, 3) := by decide +kernel
theorem dX6_safest_27 : decode cX6_safest 27 = .ok (.iload 4, 2) := by decide +kernel
theorem dX6_safest_29 : decode cX6_safest 29 = .ok (.istore_n 3, 1) := by decide +kernel
theorem dX6_safest_30 : decode cX6_safest 30 = .ok (.iinc 4 1, 3) := by decide +kernel
theorem dX6_safest_33 : decode cX6_safest 33 = .ok (.goto (-28), 3) := by decide +kernel
theorem dX6_safest_36 : decode cX6_safest 36 = .ok (.iload_n 3, 1) := by decide +kernel
theorem dX6_safest_37 : decode cX6_safest 37 = .ok (.ireturn, 1) := by decide +kernel
theorem dX6_leastOf_0 : decode cX6_leastOf 0 = .ok (.sipush 1000, 3) := by decide +kernel
theorem dX6_leastOf_3 : decode cX6_leastOf 3 = .ok (.istore_n 3, 1) := by decide +kernel
theorem dX6_leastOf_4 : decode cX6_leastOf 4 = .ok (.iconst 0, 1) := by decide +kernel
theorem dX6_leastOf_5 : decode cX6_leastOf 5 = .ok (.istore 4, 2) := by decide +kernel
theorem dX6_leastOf_7 : decode cX6_leastOf 7 = .ok (.iload 4, 2) := by decide +kernel
theorem dX6_leastOf_9 : decode cX6_leastOf 9 = .ok (.iconst 4, 1) := by decide +kernel
theorem dX6_leastOf_10 : decode cX6_leastOf 10 = .ok (.if_icmp .ge 34, 3) := by decide +kernel
theorem dX6_leastOf_13 : decode cX6_leastOf 13 = .ok (.iload_n 2, 1) := by decide +kernel
theorem dX6_leastOf_14 : decode cX6_leastOf 14 = .ok (.iload 4, 2) := by decide +kernel
theorem dX6_leastOf_16 : decode cX6_leastOf 16 = .ok (.invokestatic 19, 3) := by decide +kernel
theorem dX6_leastOf_19 : decode cX6_leastOf 19 = .ok (.ifCond .eq 19, 3) := by decide +kernel
theorem dX6_leastOf_22 : decode cX6_leastOf 22 = .ok (.iload_n 3, 1) := by decide +kernel
theorem dX6_leastOf_23 : decode cX6_leastOf 23 = .ok (.aload_n 0, 1) := by decide +kernel
theorem dX6_leastOf_24 : decode cX6_leastOf 24 = .ok (.getfield 9, 3) := by decide +kernel
theorem dX6_leastOf_27 : decode cX6_leastOf 27 = .ok (.iload_n 1, 1) := by decide +kernel
theorem dX6_leastOf_28 : decode cX6_leastOf 28 = .ok (.iconst 4, 1) := by decide +kernel
theorem dX6_leastOf_29 : decode cX6_leastOf 29 = .ok (.imul, 1) := by decide +kernel
theorem dX6_leastOf_30 : decode cX6_leastOf 30 = .ok (.iload 4, 2) := by decide +kernel
theorem dX6_leastOf_32 : decode cX6_leastOf 32 = .ok (.iadd, 1) := by decide +kernel
theorem dX6_leastOf_33 : decode cX6_leastOf 33 = .ok (.iaload, 1) := by decide +kernel
theorem dX6_leastOf_34 : decode cX6_leastOf 34 = .ok (.invokestatic 23, 3) := by decide +kernel
theorem dX6_leastOf_37 : decode cX6_leastOf 37 = .ok (.istore_n 3, 1) := by decide +kernel
theorem dX6_leastOf_38 : decode cX6_leastOf 38 = .ok (.iinc 4 1, 3) := by decide +kernel
theorem dX6_leastOf_41 : decode cX6_leastOf 41 = .ok (.goto (-34), 3) := by decide +kernel
theorem dX6_leastOf_44 : decode cX6_leastOf 44 = .ok (.iload_n 3, 1) := by decide +kernel
theorem dX6_leastOf_45 : decode cX6_leastOf 45 = .ok (.ireturn, 1) := by decide +kernel
theorem dX6_calmest_0 : decode cX6_calmest 0 = .ok (.iconst 0, 1) := by decide +kernel
theorem dX6_calmest_1 : decode cX6_calmest 1 = .ok (.istore_n 3, 1) := by decide +kernel
theorem dX6_calmest_2 : decode cX6_calmest 2 = .ok (.iconst 1, 1) := by decide +kernel
theorem dX6_calmest_3 : decode cX6_calmest 3 = .ok (.istore 4, 2) := by decide +kernel
theorem dX6_calmest_5 : decode cX6_calmest 5 = .ok (.iload 4, 2) := by decide +kernel
theorem dX6_calmest_7 : decode cX6_calmest 7 = .ok (.iload_n 1, 1) := by decide +kernel
theorem dX6_calmest_8 : decode cX6_calmest 8 = .ok (.if_icmp .ge 30, 3) := by decide +kernel
theorem dX6_calmest_11 : decode cX6_calmest 11 = .ok (.aload_n 0, 1) := by decide +kernel
theorem dX6_calmest_12 : decode cX6_calmest 12 = .ok (.iload 4, 2) := by decide +kernel
theorem dX6_calmest_14 : decode cX6_calmest 14 = .ok (.iload_n 1, 1) := by decide +kernel
theorem dX6_calmest_15 : decode cX6_calmest 15 = .ok (.iload_n 2, 1) := by decide +kernel
theorem dX6_calmest_16 : decode cX6_calmest 16 = .ok (.invokevirtual 28, 3) := by decide +kernel
theorem dX6_calmest_19 : decode cX6_calmest 19 = .ok (.aload_n 0, 1) := by decide +kernel
theorem dX6_calmest_20 : decode cX6_calmest 20 = .ok (.iload_n 3, 1) := by decide +kernel
theorem dX6_calmest_21 : decode cX6_calmest 21 = .ok (.iload_n 1, 1) := by decide +kernel
theorem dX6_calmest_22 : decode cX6_calmest 22 = .ok (.iload_n 2, 1) := by decide +kernel
theorem dX6_calmest_23 : decode cX6_calmest 23 = .ok (.invokevirtual 28, 3) := by decide +kernel
theorem dX6_calmest_26 : decode cX6_calmest 26 = .ok (.if_icmp .ge 6, 3) := by decide +kernel
theorem dX6_calmest_29 : decode cX6_calmest 29 = .ok (.iload 4, 2) := by decide +kernel
theorem dX6_calmest_31 : decode cX6_calmest 31 = .ok (.istore_n 3, 1) := by decide +kernel
theorem dX6_calmest_32 : decode cX6_calmest 32 = .ok (.iinc 4 1, 3) := by decide +kernel
theorem dX6_calmest_35 : decode cX6_calmest 35 = .ok (.goto (-30), 3) := by decide +kernel
theorem dX6_calmest_38 : decode cX6_calmest 38 = .ok (.iload_n 3, 1) := by decide +kernel
theorem dX6_calmest_39 : decode cX6_calmest 39 = .ok (.ireturn, 1) := by decide +kernel
theorem dX6_regretOf_0 : decode cX6_regretOf 0 = .ok (.iconst 0, 1) := by decide +kernel
theorem dX6_regretOf_1 : decode cX6_regretOf 1 = .ok (.istore 4, 2) := by decide +kernel
theorem dX6_regretOf_3 : decode cX6_regretOf 3 = .ok (.iconst 0, 1) := by decide +kernel
theorem dX6_regretOf_4 : decode cX6_regretOf 4 = .ok (.istore 5, 2) := by decide +kernel
theorem dX6_regretOf_6 : decode cX6_regretOf 6 = .ok (.iload 5, 2) := by decide +kernel
theorem dX6_regretOf_8 : decode cX6_regretOf 8 = .ok (.iconst 4, 1) := by decide +kernel
theorem dX6_regretOf_9 : decode cX6_regretOf 9 = .ok (.if_icmp .ge 48, 3) := by decide +kernel
theorem dX6_regretOf_12 : decode cX6_regretOf 12 = .ok (.iload_n 3, 1) := by decide +kernel
theorem dX6_regretOf_13 : decode cX6_regretOf 13 = .ok (.iload 5, 2) := by decide +kernel
theorem dX6_regretOf_15 : decode cX6_regretOf 15 = .ok (.invokestatic 19, 3) := by decide +kernel
theorem dX6_regretOf_18 : decode cX6_regretOf 18 = .ok (.ifCond .eq 33, 3) := by decide +kernel
theorem dX6_regretOf_21 : decode cX6_regretOf 21 = .ok (.aload_n 0, 1) := by decide +kernel
theorem dX6_regretOf_22 : decode cX6_regretOf 22 = .ok (.iload 5, 2) := by decide +kernel
theorem dX6_regretOf_24 : decode cX6_regretOf 24 = .ok (.iload_n 2, 1) := by decide +kernel
theorem dX6_regretOf_25 : decode cX6_regretOf 25 = .ok (.invokevirtual 32, 3) := by decide +kernel
theorem dX6_regretOf_28 : decode cX6_regretOf 28 = .ok (.aload_n 0, 1) := by decide +kernel
theorem dX6_regretOf_29 : decode cX6_regretOf 29 = .ok (.getfield 9, 3) := by decide +kernel
theorem dX6_regretOf_32 : decode cX6_regretOf 32 = .ok (.iload_n 1, 1) := by decide +kernel
theorem dX6_regretOf_33 : decode cX6_regretOf 33 = .ok (.iconst 4, 1) := by decide +kernel
theorem dX6_regretOf_34 : decode cX6_regretOf 34 = .ok (.imul, 1) := by decide +kernel
theorem dX6_regretOf_35 : decode cX6_regretOf 35 = .ok (.iload 5, 2) := by decide +kernel
theorem dX6_regretOf_37 : decode cX6_regretOf 37 = .ok (.iadd, 1) := by decide +kernel
theorem dX6_regretOf_38 : decode cX6_regretOf 38 = .ok (.iaload, 1) := by decide +kernel
theorem dX6_regretOf_39 : decode cX6_regretOf 39 = .ok (.isub, 1) := by decide +kernel
theorem dX6_regretOf_40 : decode cX6_regretOf 40 = .ok (.istore 6, 2) := by decide +kernel
theorem dX6_regretOf_42 : decode cX6_regretOf 42 = .ok (.iload 4, 2) := by decide +kernel
theorem dX6_regretOf_44 : decode cX6_regretOf 44 = .ok (.iload 6, 2) := by decide +kernel
theorem dX6_regretOf_46 : decode cX6_regretOf 46 = .ok (.invokestatic 35, 3) := by decide +kernel
theorem dX6_regretOf_49 : decode cX6_regretOf 49 = .ok (.istore 4, 2) := by decide +kernel
theorem dX6_regretOf_51 : decode cX6_regretOf 51 = .ok (.iinc 5 1, 3) := by decide +kernel
theorem dX6_regretOf_54 : decode cX6_regretOf 54 = .ok (.goto (-48), 3) := by decide +kernel
theorem dX6_regretOf_57 : decode cX6_regretOf 57 = .ok (.iload 4, 2) := by decide +kernel
theorem dX6_regretOf_59 : decode cX6_regretOf 59 = .ok (.ireturn, 1) := by decide +kernel
theorem dX6_bestOf_0 : decode cX6_bestOf 0 = .ok (.sipush (-1000), 3) := by decide +kernel
theorem dX6_bestOf_3 : decode cX6_bestOf 3 = .ok (.istore_n 3, 1) := by decide +kernel
theorem dX6_bestOf_4 : decode cX6_bestOf 4 = .ok (.iconst 0, 1) := by decide +kernel
theorem dX6_bestOf_5 : decode cX6_bestOf 5 = .ok (.istore 4, 2) := by decide +kernel
theorem dX6_bestOf_7 : decode cX6_bestOf 7 = .ok (.iload 4, 2) := by decide +kernel
theorem dX6_bestOf_9 : decode cX6_bestOf 9 = .ok (.iload_n 2, 1) := by decide +kernel
theorem dX6_bestOf_10 : decode cX6_bestOf 10 = .ok (.if_icmp .ge 25, 3) := by decide +kernel
theorem dX6_bestOf_13 : decode cX6_bestOf 13 = .ok (.iload_n 3, 1) := by decide +kernel
theorem dX6_bestOf_14 : decode cX6_bestOf 14 = .ok (.aload_n 0, 1) := by decide +kernel
theorem dX6_bestOf_15 : decode cX6_bestOf 15 = .ok (.getfield 9, 3) := by decide +kernel
theorem dX6_bestOf_18 : decode cX6_bestOf 18 = .ok (.iload 4, 2) := by decide +kernel
theorem dX6_bestOf_20 : decode cX6_bestOf 20 = .ok (.iconst 4, 1) := by decide +kernel
theorem dX6_bestOf_21 : decode cX6_bestOf 21 = .ok (.imul, 1) := by decide +kernel
theorem dX6_bestOf_22 : decode cX6_bestOf 22 = .ok (.iload_n 1, 1) := by decide +kernel
theorem dX6_bestOf_23 : decode cX6_bestOf 23 = .ok (.iadd, 1) := by decide +kernel
theorem dX6_bestOf_24 : decode cX6_bestOf 24 = .ok (.iaload, 1) := by decide +kernel
theorem dX6_bestOf_25 : decode cX6_bestOf 25 = .ok (.invokestatic 35, 3) := by decide +kernel
theorem dX6_bestOf_28 : decode cX6_bestOf 28 = .ok (.istore_n 3, 1) := by decide +kernel
theorem dX6_bestOf_29 : decode cX6_bestOf 29 = .ok (.iinc 4 1, 3) := by decide +kernel
theorem dX6_bestOf_32 : decode cX6_bestOf 32 = .ok (.goto (-25), 3) := by decide +kernel
theorem dX6_bestOf_35 : decode cX6_bestOf 35 = .ok (.iload_n 3, 1) := by decide +kernel
theorem dX6_bestOf_36 : decode cX6_bestOf 36 = .ok (.ireturn, 1) := by decide +kernel
theorem dX7_init_0 : decode cX7_init 0 = .ok (.aload_n 0, 1) := by decide +kernel
theorem dX7_init_1 : decode cX7_init 1 = .ok (.invokespecial 1, 3) := by decide +kernel
theorem dX7_init_4 : decode cX7_init 4 = .ok (.aload_n 0, 1) := by decide +kernel
theorem dX7_init_5 : decode cX7_init 5 = .ok (.new 7, 3) := by decide +kernel
theorem dX7_init_8 : decode cX7_init 8 = .ok (.dup, 1) := by decide +kernel
theorem dX7_init_9 : decode cX7_init 9 = .ok (.invokespecial 9, 3) := by decide +kernel
theorem dX7_init_12 : decode cX7_init 12 = .ok (.putfield 10, 3) := by decide +kernel
theorem dX7_init_15 : decode cX7_init 15 = .ok (.aload_n 0, 1) := by decide +kernel
theorem dX7_init_16 : decode cX7_init 16 = .ok (.new 16, 3) := by decide +kernel
theorem dX7_init_19 : decode cX7_init 19 = .ok (.dup, 1) := by decide +kernel
theorem dX7_init_20 : decode cX7_init 20 = .ok (.invokespecial 18, 3) := by decide +kernel
theorem dX7_init_23 : decode cX7_init 23 = .ok (.putfield 19, 3) := by decide +kernel
theorem dX7_init_26 : decode cX7_init 26 = .ok (.aload_n 0, 1) := by decide +kernel
theorem dX7_init_27 : decode cX7_init 27 = .ok (.iconst 2, 1) := by decide +kernel
theorem dX7_init_28 : decode cX7_init 28 = .ok (.anewarray 16, 3) := by decide +kernel
theorem dX7_init_31 : decode cX7_init 31 = .ok (.dup, 1) := by decide +kernel
theorem dX7_init_32 : decode cX7_init 32 = .ok (.iconst 0, 1) := by decide +kernel
theorem dX7_init_33 : decode cX7_init 33 = .ok (.new 16, 3) := by decide +kernel
theorem dX7_init_36 : decode cX7_init 36 = .ok (.dup, 1) := by decide +kernel
theorem dX7_init_37 : decode cX7_init 37 = .ok (.invokespecial 18, 3) := by decide +kernel
theorem dX7_init_40 : decode cX7_init 40 = .ok (.aastore, 1) := by decide +kernel
theorem dX7_init_41 : decode cX7_init 41 = .ok (.dup, 1) := by decide +kernel
theorem dX7_init_42 : decode cX7_init 42 = .ok (.iconst 1, 1) := by decide +kernel
theorem dX7_init_43 : decode cX7_init 43 = .ok (.new 16, 3) := by decide +kernel
theorem dX7_init_46 : decode cX7_init 46 = .ok (.dup, 1) := by decide +kernel
theorem dX7_init_47 : decode cX7_init 47 = .ok (.invokespecial 18, 3) := by decide +kernel
theorem dX7_init_50 : decode cX7_init 50 = .ok (.aastore, 1) := by decide +kernel
theorem dX7_init_51 : decode cX7_init 51 = .ok (.putfield 23, 3) := by decide +kernel
theorem dX7_init_54 : decode cX7_init 54 = .ok (.aload_n 0, 1) := by decide +kernel
theorem dX7_init_55 : decode cX7_init 55 = .ok (.new 27, 3) := by decide +kernel
theorem dX7_init_58 : decode cX7_init 58 = .ok (.dup, 1) := by decide +kernel
theorem dX7_init_59 : decode cX7_init 59 = .ok (.invokespecial 29, 3) := by decide +kernel
theorem dX7_init_62 : decode cX7_init 62 = .ok (.putfield 30, 3) := by decide +kernel
theorem dX7_init_65 : decode cX7_init 65 = .ok (.aload_n 0, 1) := by decide +kernel
theorem dX7_init_66 : decode cX7_init 66 = .ok (.new 34, 3) := by decide +kernel
theorem dX7_init_69 : decode cX7_init 69 = .ok (.dup, 1) := by decide +kernel
theorem dX7_init_70 : decode cX7_init 70 = .ok (.invokespecial 36, 3) := by decide +kernel
theorem dX7_init_73 : decode cX7_init 73 = .ok (.putfield 37, 3) := by decide +kernel
theorem dX7_init_76 : decode cX7_init 76 = .ok (.aload_n 0, 1) := by decide +kernel
theorem dX7_init_77 : decode cX7_init 77 = .ok (.new 41, 3) := by decide +kernel
theorem dX7_init_80 : decode cX7_init 80 = .ok (.dup, 1) := by decide +kernel
theorem dX7_init_81 : decode cX7_init 81 = .ok (.invokespecial 43, 3) := by decide +kernel
theorem dX7_init_84 : decode cX7_init 84 = .ok (.putfield 44, 3) := by decide +kernel
theorem dX7_init_87 : decode cX7_init 87 = .ok (.aload_n 0, 1) := by decide +kernel
theorem dX7_init_88 : decode cX7_init 88 = .ok (.new 48, 3) := by decide +kernel
theorem dX7_init_91 : decode cX7_init 91 = .ok (.dup, 1) := by decide +kernel
theorem dX7_init_92 : decode cX7_init 92 = .ok (.invokespecial 50, 3) := by decide +kernel
theorem dX7_init_95 : decode cX7_init 95 = .ok (.putfield 51, 3) := by decide +kernel
theorem dX7_init_98 : decode cX7_init 98 = .ok (.aload_n 0, 1) := by decide +kernel
theorem dX7_init_99 : decode cX7_init 99 = .ok (.new 55, 3) := by decide +kernel
theorem dX7_init_102 : decode cX7_init 102 = .ok (.dup, 1) := by decide +kernel
theorem dX7_init_103 : decode cX7_init 103 = .ok (.invokespecial 57, 3) := by decide +kernel
theorem dX7_init_106 : decode cX7_init 106 = .ok (.putfield 58, 3) := by decide +kernel
theorem dX7_init_109 : decode cX7_init 109 = .ok (.aload_n 0, 1) := by decide +kernel
theorem dX7_init_110 : decode cX7_init 110 = .ok (.new 55, 3) := by decide +kernel
theorem dX7_init_113 : decode cX7_init 113 = .ok (.dup, 1) := by decide +kernel
theorem dX7_init_114 : decode cX7_init 114 = .ok (.invokespecial 57, 3) := by decide +kernel
theorem dX7_init_117 : decode cX7_init 117 = .ok (.putfield 62, 3) := by decide +kernel
theorem dX7_init_120 : decode cX7_init 120 = .ok (.aload_n 0, 1) := by decide +kernel
theorem dX7_init_121 : decode cX7_init 121 = .ok (.iconst 0, 1) := by decide +kernel
theorem dX7_init_122 : decode cX7_init 122 = .ok (.putfield 65, 3) := by decide +kernel
theorem dX7_init_125 : decode cX7_init 125 = .ok (.aload_n 0, 1) := by decide +kernel
theorem dX7_init_126 : decode cX7_init 126 = .ok (.bipush 12, 2) := by decide +kernel
theorem dX7_init_128 : decode cX7_init 128 = .ok (.putfield 69, 3) := by decide +kernel
theorem dX7_init_131 : decode cX7_init 131 = .ok (.aload_n 0, 1) := by decide +kernel
theorem dX7_init_132 : decode cX7_init 132 = .ok (.iconst 0, 1) := by decide +kernel
theorem dX7_init_133 : decode cX7_init 133 = .ok (.putfield 72, 3) := by decide +kernel
theorem dX7_init_136 : decode cX7_init 136 = .ok (.aload_n 0, 1) := by decide +kernel
theorem dX7_init_137 : decode cX7_init 137 = .ok (.iconst 0, 1) := by decide +kernel
theorem dX7_init_138 : decode cX7_init 138 = .ok (.putfield 75, 3) := by decide +kernel
theorem dX7_init_141 : decode cX7_init 141 = .ok (.return_, 1) := by decide +kernel
theorem dX7_post_0 : decode cX7_post 0 = .ok (.iload_n 1, 1) := by decide +kernel
theorem dX7_post_1 : decode cX7_post 1 = .ok (.invokestatic 79, 3) := by decide +kernel
theorem dX7_post_4 : decode cX7_post 4 = .ok (.ifCond .eq 15, 3) := by decide +kernel
theorem dX7_post_7 : decode cX7_post 7 = .ok (.iload_n 2, 1) := by decide +kernel
theorem dX7_post_8 : decode cX7_post 8 = .ok (.invokestatic 79, 3) := by decide +kernel
theorem dX7_post_11 : decode cX7_post 11 = .ok (.ifCond .eq 8, 3) := by decide +kernel
theorem dX7_post_14 : decode cX7_post 14 = .ok (.iload_n 1, 1) := by decide +kernel
theorem dX7_post_15 : decode cX7_post 15 = .ok (.iload_n 2, 1) := by decide +kernel
theorem dX7_post_16 : decode cX7_post 16 = .ok (.if_icmp .ne 5, 3) := by decide +kernel
theorem dX7_post_19 : decode cX7_post 19 = .ok (.iconst (-1), 1) := by decide +kernel
theorem dX7_post_20 : decode cX7_post 20 = .ok (.ireturn, 1) := by decide +kernel
theorem dX7_post_21 : decode cX7_post 21 = .ok (.iload_n 3, 1) := by decide +kernel
theorem dX7_post_22 : decode cX7_post 22 = .ok (.iconst 1, 1) := by decide +kernel
theorem dX7_post_23 : decode cX7_post 23 = .ok (.if_icmp .lt 16, 3) := by decide +kernel
theorem dX7_post_26 : decode cX7_post 26 = .ok (.iload 4, 2) := by decide +kernel
theorem dX7_post_28 : decode cX7_post 28 = .ok (.bipush 60, 2) := by decide +kernel
theorem dX7_post_30 : decode cX7_post 30 = .ok (.if_icmp .gt 9, 3) := by decide +kernel
theorem dX7_post_33 : decode cX7_post 33 = .ok (.iload_n 3, 1) := by decide +kernel
theorem dX7_post_34 : decode cX7_post 34 = .ok (.iload 4, 2) := by decide +kernel
theorem dX7_post_36 : decode cX7_post 36 = .ok (.if_icmp .le 5, 3) := by decide +kernel
theorem dX7_post_39 : decode cX7_post 39 = .ok (.iconst (-1), 1) := by decide +kernel
theorem dX7_post_40 : decode cX7_post 40 = .ok (.ireturn, 1) := by decide +kernel
theorem dX7_post_41 : decode cX7_post 41 = .ok (.aload_n 0, 1) := by decide +kernel
theorem dX7_post_42 : decode cX7_post 42 = .ok (.getfield 19, 3) := by decide +kernel
theorem dX7_post_45 : decode cX7_post 45 = .ok (.getfield 83, 3) := by decide +kernel
theorem dX7_post_48 : decode cX7_post 48 = .ok (.ifCond .le 6, 3) := by decide +kernel
theorem dX7_post_51 : decode cX7_post 51 = .ok (.bipush (-2), 2) := by decide +kernel
theorem dX7_post_53 : decode cX7_post 53 = .ok (.ireturn, 1) := by decide +kernel
theorem dX7_post_54 : decode cX7_post 54 = .ok (.aload_n 0, 1) := by decide +kernel
theorem dX7_post_55 : decode cX7_post 55 = .ok (.getfield 10, 3) := by decide +kernel
theorem dX7_post_58 : decode cX7_post 58 = .ok (.iload_n 1, 1) := by decide +kernel
theorem dX7_post_59 : decode cX7_post 59 = .ok (.iload_n 2, 1) := by decide +kernel
theorem dX7_post_60 : decode cX7_post 60 = .ok (.iload_n 3, 1) := by decide +kernel
theorem dX7_post_61 : decode cX7_post 61 = .ok (.iload 4, 2) := by decide +kernel
theorem dX7_post_63 : decode cX7_post 63 = .ok (.invokevirtual 86, 3) := by decide +kernel
theorem dX7_post_66 : decode cX7_post 66 = .ok (.aload_n 0, 1) := by decide +kernel
theorem dX7_post_67 : decode cX7_post 67 = .ok (.iconst 0, 1) := by decide +kernel
theorem dX7_post_68 : decode cX7_post 68 = .ok (.putfield 75, 3) := by decide +kernel
theorem dX7_post_71 : decode cX7_post 71 = .ok (.iconst 0, 1) := by decide +kernel
theorem dX7_post_72 : decode cX7_post 72 = .ok (.ireturn, 1) := by decide +kernel
theorem dX7_way_0 : decode cX7_way 0 = .ok (.iload_n 1, 1) := by decide +kernel
theorem dX7_way_1 : decode cX7_way 1 = .ok (.invokestatic 79, 3) := by decide +kernel
theorem dX7_way_4 : decode cX7_way 4 = .ok (.ifCond .eq 10, 3) := by decide +kernel
theorem dX7_way_7 : decode cX7_way 7 = .ok (.iload_n 2, 1) := by decide +kernel
theorem dX7_way_8 : decode cX7_way 8 = .ok (.invokestatic 79, 3) := by decide +kernel
theorem dX7_way_11 : decode cX7_way 11 = .ok (.ifCond .ne 5, 3) := by decide +kernel
theorem dX7_way_14 : decode cX7_way 14 = .ok (.iconst (-1), 1) := by decide +kernel
theorem dX7_way_15 : decode cX7_way 15 = .ok (.ireturn, 1) := by decide +kernel
theorem dX7_way_16 : decode cX7_way 16 = .ok (.aload_n 0, 1) := by decide +kernel
theorem dX7_way_17 : decode cX7_way 17 = .ok (.getfield 10, 3) := by decide +kernel
theorem dX7_way_20 : decode cX7_way 20 = .ok (.iload_n 1, 1) := by decide +kernel
theorem dX7_way_21 : decode cX7_way 21 = .ok (.iload_n 2, 1) := by decide +kernel
theorem dX7_way_22 : decode cX7_way 22 = .ok (.invokevirtual 90, 3) := by decide +kernel
theorem dX7_way_25 : decode cX7_way 25 = .ok (.ifCond .eq 15, 3) := by decide +kernel
theorem dX7_way_28 : decode cX7_way 28 = .ok (.aload_n 0, 1) := by decide +kernel
theorem dX7_way_29 : decode cX7_way 29 = .ok (.getfield 10, 3) := by decide +kernel
theorem dX7_way_32 : decode cX7_way 32 = .ok (.iload_n 1, 1) := by decide +kernel
theorem dX7_way_33 : decode cX7_way 33 = .ok (.iload_n 2, 1) := by decide +kernel
theorem dX7_way_34 : decode cX7_way 34 = .ok (.invokevirtual 94, 3) := by decide +kernel
theorem dX7_way_37 : decode cX7_way 37 = .ok (.goto 5, 3) := by decide +kernel
theorem dX7_way_40 : decode cX7_way 40 = .ok (.bipush (-4), 2) := by decide +kernel
theorem dX7_way_42 : decode cX7_way 42 = .ok (.ireturn, 1) := by decide +kernel
theorem dX7_slow_0 : decode cX7_slow 0 = .ok (.iload_n 1, 1) := by decide +kernel
theorem dX7_slow_1 : decode cX7_slow 1 = .ok (.invokestatic 79, 3) := by decide +kernel
theorem dX7_slow_4 : decode cX7_slow 4 = .ok (.ifCond .eq 10, 3) := by decide +kernel
theorem dX7_slow_7 : decode cX7_slow 7 = .ok (.iload_n 2, 1) := by decide +kernel
theorem dX7_slow_8 : decode cX7_slow 8 = .ok (.invokestatic 79, 3) := by decide +kernel
theorem dX7_slow_11 : decode cX7_slow 11 = .ok (.ifCond .ne 5, 3) := by decide +kernel
theorem dX7_slow_14 : decode cX7_slow 14 = .ok (.iconst (-1), 1) := by decide +kernel
theorem dX7_slow_15 : decode cX7_slow 15 = .ok (.ireturn, 1) := by decide +kernel
theorem dX7_slow_16 : decode cX7_slow 16 = .ok (.aload_n 0, 1) := by decide +kernel
theorem dX7_slow_17 : decode cX7_slow 17 = .ok (.getfield 10, 3) := by decide +kernel
theorem dX7_slow_20 : decode cX7_slow 20 = .ok (.iload_n 1, 1) := by decide +kernel
theorem dX7_slow_21 : decode cX7_slow 21 = .ok (.iload_n 2, 1) := by decide +kernel
theorem dX7_slow_22 : decode cX7_slow 22 = .ok (.invokevirtual 90, 3) := by decide +kernel
theorem dX7_slow_25 : decode cX7_slow 25 = .ok (.ifCond .eq 15, 3) := by decide +kernel
theorem dX7_slow_28 : decode cX7_slow 28 = .ok (.aload_n 0, 1) := by decide +kernel
theorem dX7_slow_29 : decode cX7_slow 29 = .ok (.getfield 10, 3) := by decide +kernel
theorem dX7_slow_32 : decode cX7_slow 32 = .ok (.iload_n 1, 1) := by decide +kernel
theorem dX7_slow_33 : decode cX7_slow 33 = .ok (.iload_n 2, 1) := by decide +kernel
theorem dX7_slow_34 : decode cX7_slow 34 = .ok (.invokevirtual 98, 3) := by decide +kernel
theorem dX7_slow_37 : decode cX7_slow 37 = .ok (.goto 5, 3) := by decide +kernel
theorem dX7_slow_40 : decode cX7_slow 40 = .ok (.bipush (-4), 2) := by decide +kernel
theorem dX7_slow_42 : decode cX7_slow 42 = .ok (.ireturn, 1) := by decide +kernel
theorem dX7_sheet_0 : decode cX7_sheet 0 = .ok (.iload_n 1, 1) := by decide +kernel
theorem dX7_sheet_1 : decode cX7_sheet 1 = .ok (.invokestatic 79, 3) := by decide +kernel
theorem dX7_sheet_4 : decode cX7_sheet 4 = .ok (.ifCond .eq 17, 3) := by decide +kernel
theorem dX7_sheet_7 : decode cX7_sheet 7 = .ok (.iload_n 2, 1) := by decide +kernel
theorem dX7_sheet_8 : decode cX7_sheet 8 = .ok (.invokestatic 101, 3) := by decide +kernel
theorem dX7_sheet_11 : decode cX7_sheet 11 = .ok (.ifCond .eq 10, 3) := by decide +kernel
theorem dX7_sheet_14 : decode cX7_sheet 14 = .ok (.iload_n 3, 1) := by decide +kernel
theorem dX7_sheet_15 : decode cX7_sheet 15 = .ok (.invokestatic 104, 3) := by decide +kernel
theorem dX7_sheet_18 : decode cX7_sheet 18 = .ok (.ifCond .ne 5, 3) := by decide +kernel
theorem dX7_sheet_21 : decode cX7_sheet 21 = .ok (.iconst (-1), 1) := by decide +kernel
theorem dX7_sheet_22 : decode cX7_sheet 22 = .ok (.ireturn, 1) := by decide +kernel
theorem dX7_sheet_23 : decode cX7_sheet 23 = .ok (.aload_n 0, 1) := by decide +kernel
theorem dX7_sheet_24 : decode cX7_sheet 24 = .ok (.getfield 19, 3) := by decide +kernel
theorem dX7_sheet_27 : decode cX7_sheet 27 = .ok (.getfield 83, 3) := by decide +kernel
theorem dX7_sheet_30 : decode cX7_sheet 30 = .ok (.bipush 12, 2) := by decide +kernel
theorem dX7_sheet_32 : decode cX7_sheet 32 = .ok (.if_icmp .lt 6, 3) := by decide +kernel
theorem dX7_sheet_35 : decode cX7_sheet 35 = .ok (.bipush (-3), 2) := by decide +kernel
theorem dX7_sheet_37 : decode cX7_sheet 37 = .ok (.ireturn, 1) := by decide +kernel
theorem dX7_sheet_38 : decode cX7_sheet 38 = .ok (.aload_n 0, 1) := by decide +kernel
theorem dX7_sheet_39 : decode cX7_sheet 39 = .ok (.iconst 0, 1) := by decide +kernel
theorem dX7_sheet_40 : decode cX7_sheet 40 = .ok (.putfield 75, 3) := by decide +kernel
theorem dX7_sheet_43 : decode cX7_sheet 43 = .ok (.aload_n 0, 1) := by decide +kernel
theorem dX7_sheet_44 : decode cX7_sheet 44 = .ok (.getfield 19, 3) := by decide +kernel
theorem dX7_sheet_47 : decode cX7_sheet 47 = .ok (.iload_n 1, 1) := by decide +kernel
theorem dX7_sheet_48 : decode cX7_sheet 48 = .ok (.iload_n 2, 1) := by decide +kernel
theorem dX7_sheet_49 : decode cX7_sheet 49 = .ok (.iload_n 3, 1) := by decide +kernel
theorem dX7_sheet_50 : decode cX7_sheet 50 = .ok (.invokevirtual 107, 3) := by decide +kernel
theorem dX7_sheet_53 : decode cX7_sheet 53 = .ok (.ireturn, 1) := by decide +kernel
theorem dX7_dated_0 : decode cX7_dated 0 = .ok (.aload_n 0, 1) := by decide +kernel
theorem dX7_dated_1 : decode cX7_dated 1 = .ok (.iload_n 1, 1) := by decide +kernel
theorem dX7_dated_2 : decode cX7_dated 2 = .ok (.invokevirtual 111, 3) := by decide +kernel
theorem dX7_dated_5 : decode cX7_dated 5 = .ok (.ifCond .eq 10, 3) := by decide +kernel
theorem dX7_dated_8 : decode cX7_dated 8 = .ok (.iload_n 2, 1) := by decide +kernel
theorem dX7_dated_9 : decode cX7_dated 9 = .ok (.invokestatic 104, 3) := by decide +kernel
theorem dX7_dated_12 : decode cX7_dated 12 = .ok (.ifCond .ne 6, 3) := by decide +kernel
theorem dX7_dated_15 : decode cX7_dated 15 = .ok (.bipush (-100), 2) := by decide +kernel
theorem dX7_dated_17 : decode cX7_dated 17 = .ok (.ireturn, 1) := by decide +kernel
theorem dX7_dated_18 : decode cX7_dated 18 = .ok (.aload_n 0, 1) := by decide +kernel
theorem dX7_dated_19 : decode cX7_dated 19 = .ok (.getfield 19, 3) := by decide +kernel
theorem dX7_dated_22 : decode cX7_dated 22 = .ok (.getfield 114, 3) := by decide +kernel
theorem dX7_dated_25 : decode cX7_dated 25 = .ok (.iload_n 1, 1) := by decide +kernel
theorem dX7_dated_26 : decode cX7_dated 26 = .ok (.iaload, 1) := by decide +kernel
theorem dX7_dated_27 : decode cX7_dated 27 = .ok (.istore_n 3, 1) := by decide +kernel
theorem dX7_dated_28 : decode cX7_dated 28 = .ok (.aload_n 0, 1) := by decide +kernel
theorem dX7_dated_29 : decode cX7_dated 29 = .ok (.getfield 19, 3) := by decide +kernel
theorem dX7_dated_32 : decode cX7_dated 32 = .ok (.getfield 114, 3) := by decide +kernel
theorem dX7_dated_35 : decode cX7_dated 35 = .ok (.iload_n 1, 1) := by decide +kernel
theorem dX7_dated_36 : decode cX7_dated 36 = .ok (.iload_n 2, 1) := by decide +kernel
theorem dX7_dated_37 : decode cX7_dated 37 = .ok (.iastore, 1) := by decide +kernel
theorem dX7_dated_38 : decode cX7_dated 38 = .ok (.aload_n 0, 1) := by decide +kernel
theorem dX7_dated_39 : decode cX7_dated 39 = .ok (.iconst 0, 1) := by decide +kernel
theorem dX7_dated_40 : decode cX7_dated 40 = .ok (.putfield 75, 3) := by decide +kernel
theorem dX7_dated_43 : decode cX7_dated 43 = .ok (.iload_n 3, 1) := by decide +kernel
theorem dX7_dated_44 : decode cX7_dated 44 = .ok (.ireturn, 1) := by decide +kernel
theorem dX7_behind_0 : decode cX7_behind 0 = .ok (.aload_n 0, 1) := by decide +kernel
theorem dX7_behind_1 : decode cX7_behind 1 = .ok (.iload_n 1, 1) := by decide +kernel
theorem dX7_behind_2 : decode cX7_behind 2 = .ok (.invokevirtual 111, 3) := by decide +kernel
theorem dX7_behind_5 : decode cX7_behind 5 = .ok (.ifCond .eq 16, 3) := by decide +kernel
theorem dX7_behind_8 : decode cX7_behind 8 = .ok (.aload_n 0, 1) := by decide +kernel
theorem dX7_behind_9 : decode cX7_behind 9 = .ok (.iload_n 2, 1) := by decide +kernel
theorem dX7_behind_10 : decode cX7_behind 10 = .ok (.invokevirtual 111, 3) := by decide +kernel
theorem dX7_behind_13 : decode cX7_behind 13 = .ok (.ifCond .eq 8, 3) := by decide +kernel
theorem dX7_behind_16 : decode cX7_behind 16 = .ok (.iload_n 1, 1) := by decide +kernel
theorem dX7_behind_17 : decode cX7_behind 17 = .ok (.iload_n 2, 1) := by decide +kernel
theorem dX7_behind_18 : decode cX7_behind 18 = .ok (.if_icmp .ne 5, 3) := by decide +kernel
theorem dX7_behind_21 : decode cX7_behind 21 = .ok (.iconst (-1), 1) := by decide +kernel
theorem dX7_behind_22 : decode cX7_behind 22 = .ok (.ireturn, 1) := by decide +kernel
theorem dX7_behind_23 : decode cX7_behind 23 = .ok (.aload_n 0, 1) := by decide +kernel
theorem dX7_behind_24 : decode cX7_behind 24 = .ok (.getfield 10, 3) := by decide +kernel
theorem dX7_behind_27 : decode cX7_behind 27 = .ok (.aload_n 0, 1) := by decide +kernel
theorem dX7_behind_28 : decode cX7_behind 28 = .ok (.getfield 19, 3) := by decide +kernel
theorem dX7_behind_31 : decode cX7_behind 31 = .ok (.getfield 118, 3) := by decide +kernel
theorem dX7_behind_34 : decode cX7_behind 34 = .ok (.iload_n 2, 1) := by decide +kernel
theorem dX7_behind_35 : decode cX7_behind 35 = .ok (.iaload, 1) := by decide +kernel
theorem dX7_behind_36 : decode cX7_behind 36 = .ok (.aload_n 0, 1) := by decide +kernel
theorem dX7_behind_37 : decode cX7_behind 37 = .ok (.getfield 19, 3) := by decide +kernel
theorem dX7_behind_40 : decode cX7_behind 40 = .ok (.getfield 118, 3) := by decide +kernel
theorem dX7_behind_43 : decode cX7_behind 43 = .ok (.iload_n 1, 1) := by decide +kernel
theorem dX7_behind_44 : decode cX7_behind 44 = .ok (.iaload, 1) := by decide +kernel
theorem dX7_behind_45 : decode cX7_behind 45 = .ok (.invokevirtual 90, 3) := by decide +kernel
theorem dX7_behind_48 : decode cX7_behind 48 = .ok (.ifCond .ne 6, 3) := by decide +kernel
theorem dX7_behind_51 : decode cX7_behind 51 = .ok (.bipush (-2), 2) := by decide +kernel
theorem dX7_behind_53 : decode cX7_behind 53 = .ok (.ireturn, 1) := by decide +kernel
theorem dX7_behind_54 : decode cX7_behind 54 = .ok (.aload_n 0, 1) := by decide +kernel
theorem dX7_behind_55 : decode cX7_behind 55 = .ok (.getfield 19, 3) := by decide +kernel
theorem dX7_behind_58 : decode cX7_behind 58 = .ok (.getfield 121, 3) := by decide +kernel
theorem dX7_behind_61 : decode cX7_behind 61 = .ok (.bipush 20, 2) := by decide +kernel
theorem dX7_behind_63 : decode cX7_behind 63 = .ok (.if_icmp .lt 6, 3) := by decide +kernel
theorem dX7_behind_66 : decode cX7_behind 66 = .ok (.bipush (-3), 2) := by decide +kernel
theorem dX7_behind_68 : decode cX7_behind 68 = .ok (.ireturn, 1) := by decide +kernel
theorem dX7_behind_69 : decode cX7_behind 69 = .ok (.aload_n 0, 1) := by decide +kernel
theorem dX7_behind_70 : decode cX7_behind 70 = .ok (.iconst 0, 1) := by decide +kernel
theorem dX7_behind_71 : decode cX7_behind 71 = .ok (.putfield 75, 3) := by decide +kernel
theorem dX7_behind_74 : decode cX7_behind 74 = .ok (.aload_n 0, 1) := by decide +kernel
theorem dX7_behind_75 : decode cX7_behind 75 = .ok (.getfield 19, 3) := by decide +kernel
theorem dX7_behind_78 : decode cX7_behind 78 = .ok (.iload_n 1, 1) := by decide +kernel
theorem dX7_behind_79 : decode cX7_behind 79 = .ok (.iload_n 2, 1) := by decide +kernel
theorem dX7_behind_80 : decode cX7_behind 80 = .ok (.invokevirtual 124, 3) := by decide +kernel
theorem dX7_behind_83 : decode cX7_behind 83 = .ok (.ireturn, 1) := by decide +kernel
theorem dX7_happened_0 : decode cX7_happened 0 = .ok (.iload_n 1, 1) := by decide +kernel
theorem dX7_happened_1 : decode cX7_happened 1 = .ok (.invokestatic 127, 3) := by decide +kernel
theorem dX7_happened_4 : decode cX7_happened 4 = .ok (.ifCond .eq 17, 3) := by decide +kernel
theorem dX7_happened_7 : decode cX7_happened 7 = .ok (.iload_n 2, 1) := by decide +kernel
theorem dX7_happened_8 : decode cX7_happened 8 = .ok (.invokestatic 79, 3) := by decide +kernel
theorem dX7_happened_11 : decode cX7_happened 11 = .ok (.ifCond .eq 10, 3) := by decide +kernel
theorem dX7_happened_14 : decode cX7_happened 14 = .ok (.iload_n 3, 1) := by decide +kernel
theorem dX7_happened_15 : decode cX7_happened 15 = .ok (.invokestatic 130, 3) := by decide +kernel
theorem dX7_happened_18 : decode cX7_happened 18 = .ok (.ifCond .ne 5, 3) := by decide +kernel
theorem dX7_happened_21 : decode cX7_happened 21 = .ok (.iconst (-1), 1) := by decide +kernel
theorem dX7_happened_22 : decode cX7_happened 22 = .ok (.ireturn, 1) := by decide +kernel
theorem dX7_happened_23 : decode cX7_happened 23 = .ok (.aload_n 0, 1) := by decide +kernel
theorem dX7_happened_24 : decode cX7_happened 24 = .ok (.getfield 19, 3) := by decide +kernel
theorem dX7_happened_27 : decode cX7_happened 27 = .ok (.iload_n 1, 1) := by decide +kernel
theorem dX7_happened_28 : decode cX7_happened 28 = .ok (.invokevirtual 133, 3) := by decide +kernel
theorem dX7_happened_31 : decode cX7_happened 31 = .ok (.ifCond .ne 12, 3) := by decide +kernel
theorem dX7_happened_34 : decode cX7_happened 34 = .ok (.aload_n 0, 1) := by decide +kernel
theorem dX7_happened_35 : decode cX7_happened 35 = .ok (.iload_n 1, 1) := by decide +kernel
theorem dX7_happened_36 : decode cX7_happened 36 = .ok (.iload_n 2, 1) := by decide +kernel
theorem dX7_happened_37 : decode cX7_happened 37 = .ok (.invokevirtual 136, 3) := by decide +kernel
theorem dX7_happened_40 : decode cX7_happened 40 = .ok (.ifCond .ne 6, 3) := by decide +kernel
theorem dX7_happened_43 : decode cX7_happened 43 = .ok (.bipush (-2), 2) := by decide +kernel
theorem dX7_happened_45 : decode cX7_happened 45 = .ok (.ireturn, 1) := by decide +kernel
theorem dX7_happened_46 : decode cX7_happened 46 = .ok (.aload_n 0, 1) := by decide +kernel
theorem dX7_happened_47 : decode cX7_happened 47 = .ok (.getfield 19, 3) := by decide +kernel
theorem dX7_happened_50 : decode cX7_happened 50 = .ok (.getfield 139, 3) := by decide +kernel
theorem dX7_happened_53 : decode cX7_happened 53 = .ok (.iload_n 1, 1) := by decide +kernel
theorem dX7_happened_54 : decode cX7_happened 54 = .ok (.iload_n 2, 1) := by decide +kernel
theorem dX7_happened_55 : decode cX7_happened 55 = .ok (.iastore, 1) := by decide +kernel
theorem dX7_happened_56 : decode cX7_happened 56 = .ok (.aload_n 0, 1) := by decide +kernel
theorem dX7_happened_57 : decode cX7_happened 57 = .ok (.getfield 19, 3) := by decide +kernel
theorem dX7_happened_60 : decode cX7_happened 60 = .ok (.getfield 142, 3) := by decide +kernel
theorem dX7_happened_63 : decode cX7_happened 63 = .ok (.iload_n 1, 1) := by decide +kernel
theorem dX7_happened_64 : decode cX7_happened 64 = .ok (.iload_n 3, 1) := by decide +kernel
theorem dX7_happened_65 : decode cX7_happened 65 = .ok (.iastore, 1) := by decide +kernel
theorem dX7_happened_66 : decode cX7_happened 66 = .ok (.aload_n 0, 1) := by decide +kernel
theorem dX7_happened_67 : decode cX7_happened 67 = .ok (.iconst 0, 1) := by decide +kernel
theorem dX7_happened_68 : decode cX7_happened 68 = .ok (.putfield 75, 3) := by decide +kernel
theorem dX7_happened_71 : decode cX7_happened 71 = .ok (.iconst 0, 1) := by decide +kernel
theorem dX7_happened_72 : decode cX7_happened 72 = .ok (.ireturn, 1) := by decide +kernel
theorem dX7_span_0 : decode cX7_span 0 = .ok (.aload_n 0, 1) := by decide +kernel
theorem dX7_span_1 : decode cX7_span 1 = .ok (.iload_n 1, 1) := by decide +kernel
theorem dX7_span_2 : decode cX7_span 2 = .ok (.invokevirtual 111, 3) := by decide +kernel
theorem dX7_span_5 : decode cX7_span 5 = .ok (.ifCond .eq 12, 3) := by decide +kernel
theorem dX7_span_8 : decode cX7_span 8 = .ok (.iload_n 2, 1) := by decide +kernel
theorem dX7_span_9 : decode cX7_span 9 = .ok (.ifCond .lt 8, 3) := by decide +kernel
theorem dX7_span_12 : decode cX7_span 12 = .ok (.iload_n 2, 1) := by decide +kernel
theorem dX7_span_13 : decode cX7_span 13 = .ok (.iconst 1, 1) := by decide +kernel
theorem dX7_span_14 : decode cX7_span 14 = .ok (.if_icmp .le 5, 3) := by decide +kernel
theorem dX7_span_17 : decode cX7_span 17 = .ok (.iconst (-1), 1) := by decide +kernel
theorem dX7_span_18 : decode cX7_span 18 = .ok (.ireturn, 1) := by decide +kernel
theorem dX7_span_19 : decode cX7_span 19 = .ok (.aload_n 0, 1) := by decide +kernel
theorem dX7_span_20 : decode cX7_span 20 = .ok (.invokevirtual 145, 3) := by decide +kernel
theorem dX7_span_23 : decode cX7_span 23 = .ok (.ifCond .eq 6, 3) := by decide +kernel
theorem dX7_span_26 : decode cX7_span 26 = .ok (.bipush (-2), 2) := by decide +kernel
theorem dX7_span_28 : decode cX7_span 28 = .ok (.ireturn, 1) := by decide +kernel
theorem dX7_span_29 : decode cX7_span 29 = .ok (.iload_n 2, 1) := by decide +kernel
theorem dX7_span_30 : decode cX7_span 30 = .ok (.ifCond .ne 15, 3) := by decide +kernel
theorem dX7_span_33 : decode cX7_span 33 = .ok (.aload_n 0, 1) := by decide +kernel
theorem dX7_span_34 : decode cX7_span 34 = .ok (.getfield 30, 3) := by decide +kernel
theorem dX7_span_37 : decode cX7_span 37 = .ok (.getfield 149, 3) := by decide +kernel
theorem dX7_span_40 : decode cX7_span 40 = .ok (.iload_n 1, 1) := by decide +kernel
theorem dX7_span_41 : decode cX7_span 41 = .ok (.iaload, 1) := by decide +kernel
theorem dX7_span_42 : decode cX7_span 42 = .ok (.goto 12, 3) := by decide +kernel
theorem dX7_span_45 : decode cX7_span 45 = .ok (.aload_n 0, 1) := by decide +kernel
theorem dX7_span_46 : decode cX7_span 46 = .ok (.getfield 30, 3) := by decide +kernel
theorem dX7_span_49 : decode cX7_span 49 = .ok (.getfield 152, 3) := by decide +kernel
theorem dX7_span_52 : decode cX7_span 52 = .ok (.iload_n 1, 1) := by decide +kernel
theorem dX7_span_53 : decode cX7_span 53 = .ok (.iaload, 1) := by decide +kernel
theorem dX7_span_54 : decode cX7_span 54 = .ok (.ireturn, 1) := by decide +kernel
theorem dX7_ahead_0 : decode cX7_ahead 0 = .ok (.aload_n 0, 1) := by decide +kernel
theorem dX7_ahead_1 : decode cX7_ahead 1 = .ok (.iload_n 1, 1) := by decide +kernel
theorem dX7_ahead_2 : decode cX7_ahead 2 = .ok (.invokevirtual 111, 3) := by decide +kernel
theorem dX7_ahead_5 : decode cX7_ahead 5 = .ok (.ifCond .eq 11, 3) := by decide +kernel
theorem dX7_ahead_8 : decode cX7_ahead 8 = .ok (.aload_n 0, 1) := by decide +kernel
theorem dX7_ahead_9 : decode cX7_ahead 9 = .ok (.iload_n 2, 1) := by decide +kernel
theorem dX7_ahead_10 : decode cX7_ahead 10 = .ok (.invokevirtual 111, 3) := by decide +kernel
theorem dX7_ahead_13 : decode cX7_ahead 13 = .ok (.ifCond .ne 5, 3) := by decide +kernel
theorem dX7_ahead_16 : decode cX7_ahead 16 = .ok (.iconst (-1), 1) := by decide +kernel
theorem dX7_ahead_17 : decode cX7_ahead 17 = .ok (.ireturn, 1) := by decide +kernel
theorem dX7_ahead_18 : decode cX7_ahead 18 = .ok (.aload_n 0, 1) := by decide +kernel
theorem dX7_ahead_19 : decode cX7_ahead 19 = .ok (.invokevirtual 145, 3) := by decide +kernel
theorem dX7_ahead_22 : decode cX7_ahead 22 = .ok (.ifCond .eq 6, 3) := by decide +kernel
theorem dX7_ahead_25 : decode cX7_ahead 25 = .ok (.bipush (-2), 2) := by decide +kernel
theorem dX7_ahead_27 : decode cX7_ahead 27 = .ok (.ireturn, 1) := by decide +kernel
theorem dX7_ahead_28 : decode cX7_ahead 28 = .ok (.aload_n 0, 1) := by decide +kernel
theorem dX7_ahead_29 : decode cX7_ahead 29 = .ok (.getfield 30, 3) := by decide +kernel
theorem dX7_ahead_32 : decode cX7_ahead 32 = .ok (.aload_n 0, 1) := by decide +kernel
theorem dX7_ahead_33 : decode cX7_ahead 33 = .ok (.getfield 19, 3) := by decide +kernel
theorem dX7_ahead_36 : decode cX7_ahead 36 = .ok (.aload_n 0, 1) := by decide +kernel
theorem dX7_ahead_37 : decode cX7_ahead 37 = .ok (.getfield 10, 3) := by decide +kernel
theorem dX7_ahead_40 : decode cX7_ahead 40 = .ok (.iload_n 1, 1) := by decide +kernel
theorem dX7_ahead_41 : decode cX7_ahead 41 = .ok (.iload_n 2, 1) := by decide +kernel
theorem dX7_ahead_42 : decode cX7_ahead 42 = .ok (.invokevirtual 155, 3) := by decide +kernel
theorem dX7_ahead_45 : decode cX7_ahead 45 = .ok (.ifCond .eq 7, 3) := by decide +kernel
theorem dX7_ahead_48 : decode cX7_ahead 48 = .ok (.iconst 0, 1) := by decide +kernel
theorem dX7_ahead_49 : decode cX7_ahead 49 = .ok (.goto 4, 3) := by decide +kernel
theorem dX7_ahead_52 : decode cX7_ahead 52 = .ok (.iconst 1, 1) := by decide +kernel
theorem dX7_ahead_53 : decode cX7_ahead 53 = .ok (.ireturn, 1) := by decide +kernel
theorem dX7_say_0 : decode cX7_say 0 = .ok (.aload_n 0, 1) := by decide +kernel
theorem dX7_say_1 : decode cX7_say 1 = .ok (.iload_n 1, 1) := by decide +kernel
theorem dX7_say_2 : decode cX7_say 2 = .ok (.invokevirtual 111, 3) := by decide +kernel
theorem dX7_say_5 : decode cX7_say 5 = .ok (.ifCond .eq 10, 3) := by decide +kernel
theorem dX7_say_8 : decode cX7_say 8 = .ok (.iload_n 2, 1) := by decide +kernel
theorem dX7_say_9 : decode cX7_say 9 = .ok (.invokestatic 127, 3) := by decide +kernel
theorem dX7_say_12 : decode cX7_say 12 = .ok (.ifCond .ne 5, 3) := by decide +kernel
theorem dX7_say_15 : decode cX7_say 15 = .ok (.iconst (-1), 1) := by decide +kernel
theorem dX7_say_16 : decode cX7_say 16 = .ok (.ireturn, 1) := by decide +kernel
theorem dX7_say_17 : decode cX7_say 17 = .ok (.iload_n 3, 1) := by decide +kernel
theorem dX7_say_18 : decode cX7_say 18 = .ok (.ifCond .lt 23, 3) := by decide +kernel
theorem dX7_say_21 : decode cX7_say 21 = .ok (.iload_n 3, 1) := by decide +kernel
theorem dX7_say_22 : decode cX7_say 22 = .ok (.sipush 9999, 3) := by decide +kernel
theorem dX7_say_25 : decode cX7_say 25 = .ok (.if_icmp .gt 16, 3) := by decide +kernel
theorem dX7_say_28 : decode cX7_say 28 = .ok (.iload 4, 2) := by decide +kernel
theorem dX7_say_30 : decode cX7_say 30 = .ok (.ifCond .lt 11, 3) := by decide +kernel
theorem dX7_say_33 : decode cX7_say 33 = .ok (.iload 4, 2) := by decide +kernel
theorem dX7_say_35 : decode cX7_say 35 = .ok (.sipush 255, 3) := by decide +kernel
theorem dX7_say_38 : decode cX7_say 38 = .ok (.if_icmp .le 5, 3) := by decide +kernel
theorem dX7_say_41 : decode cX7_say 41 = .ok (.iconst (-1), 1) := by decide +kernel
theorem dX7_say_42 : decode cX7_say 42 = .ok (.ireturn, 1) := by decide +kernel
theorem dX7_say_43 : decode cX7_say 43 = .ok (.aload_n 0, 1) := by decide +kernel
theorem dX7_say_44 : decode cX7_say 44 = .ok (.getfield 19, 3) := by decide +kernel
theorem dX7_say_47 : decode cX7_say 47 = .ok (.iload_n 2, 1) := by decide +kernel
theorem dX7_say_48 : decode cX7_say 48 = .ok (.invokevirtual 133, 3) := by decide +kernel
theorem dX7_say_51 : decode cX7_say 51 = .ok (.ifCond .eq 34, 3) := by decide +kernel
theorem dX7_say_54 : decode cX7_say 54 = .ok (.aload_n 0, 1) := by decide +kernel
theorem dX7_say_55 : decode cX7_say 55 = .ok (.getfield 10, 3) := by decide +kernel
theorem dX7_say_58 : decode cX7_say 58 = .ok (.aload_n 0, 1) := by decide +kernel
theorem dX7_say_59 : decode cX7_say 59 = .ok (.getfield 19, 3) := by decide +kernel
theorem dX7_say_62 : decode cX7_say 62 = .ok (.getfield 139, 3) := by decide +kernel
theorem dX7_say_65 : decode cX7_say 65 = .ok (.iload_n 2, 1) := by decide +kernel
theorem dX7_say_66 : decode cX7_say 66 = .ok (.iaload, 1) := by decide +kernel
theorem dX7_say_67 : decode cX7_say 67 = .ok (.aload_n 0, 1) := by decide +kernel
theorem dX7_say_68 : decode cX7_say 68 = .ok (.getfield 19, 3) := by decide +kernel
theorem dX7_say_71 : decode cX7_say 71 = .ok (.getfield 118, 3) := by decide +kernel
theorem dX7_say_74 : decode cX7_say 74 = .ok (.iload_n 1, 1) := by decide +kernel
theorem dX7_say_75 : decode cX7_say 75 = .ok (.iaload, 1) := by decide +kernel
theorem dX7_say_76 : decode cX7_say 76 = .ok (.invokevirtual 90, 3) := by decide +kernel
theorem dX7_say_79 : decode cX7_say 79 = .ok (.ifCond .ne 6, 3) := by decide +kernel
theorem dX7_say_82 : decode cX7_say 82 = .ok (.bipush (-2), 2) := by decide +kernel
theorem dX7_say_84 : decode cX7_say 84 = .ok (.ireturn, 1) := by decide +kernel
theorem dX7_say_85 : decode cX7_say 85 = .ok (.aload_n 0, 1) := by decide +kernel
theorem dX7_say_86 : decode cX7_say 86 = .ok (.getfield 19, 3) := by decide +kernel
theorem dX7_say_89 : decode cX7_say 89 = .ok (.getfield 159, 3) := by decide +kernel
theorem dX7_say_92 : decode cX7_say 92 = .ok (.bipush 30, 2) := by decide +kernel
theorem dX7_say_94 : decode cX7_say 94 = .ok (.if_icmp .lt 6, 3) := by decide +kernel
theorem dX7_say_97 : decode cX7_say 97 = .ok (.bipush (-3), 2) := by decide +kernel
theorem dX7_say_99 : decode cX7_say 99 = .ok (.ireturn, 1) := by decide +kernel
theorem dX7_say_100 : decode cX7_say 100 = .ok (.aload_n 0, 1) := by decide +kernel
theorem dX7_say_101 : decode cX7_say 101 = .ok (.iconst 0, 1) := by decide +kernel
theorem dX7_say_102 : decode cX7_say 102 = .ok (.putfield 75, 3) := by decide +kernel
theorem dX7_say_105 : decode cX7_say 105 = .ok (.aload_n 0, 1) := by decide +kernel
theorem dX7_say_106 : decode cX7_say 106 = .ok (.getfield 19, 3) := by decide +kernel
theorem dX7_say_109 : decode cX7_say 109 = .ok (.iload_n 1, 1) := by decide +kernel
theorem dX7_say_110 : decode cX7_say 110 = .ok (.iload_n 2, 1) := by decide +kernel
theorem dX7_say_111 : decode cX7_say 111 = .ok (.iload_n 3, 1) := by decide +kernel
theorem dX7_say_112 : decode cX7_say 112 = .ok (.iload 4, 2) := by decide +kernel
theorem dX7_say_114 : decode cX7_say 114 = .ok (.invokevirtual 162, 3) := by decide +kernel
theorem dX7_say_117 : decode cX7_say 117 = .ok (.istore 7, 2) := by decide +kernel
theorem dX7_say_119 : decode cX7_say 119 = .ok (.aload_n 0, 1) := by decide +kernel
theorem dX7_say_120 : decode cX7_say 120 = .ok (.getfield 19, 3) := by decide +kernel
theorem dX7_say_123 : decode cX7_say 123 = .ok (.iload 7, 2) := by decide +kernel
theorem dX7_say_125 : decode cX7_say 125 = .ok (.iload 5, 2) := by decide +kernel
theorem dX7_say_127 : decode cX7_say 127 = .ok (.iload 6, 2) := by decide +kernel
theorem dX7_say_129 : decode cX7_say 129 = .ok (.invokevirtual 166, 3) := by decide +kernel
theorem dX7_say_132 : decode cX7_say 132 = .ok (.iload 7, 2) := by decide +kernel
theorem dX7_say_134 : decode cX7_say 134 = .ok (.ireturn, 1) := by decide +kernel
theorem dX7_change_0 : decode cX7_change 0 = .ok (.aload_n 0, 1) := by decide +kernel
theorem dX7_change_1 : decode cX7_change 1 = .ok (.iload_n 1, 1) := by decide +kernel
theorem dX7_change_2 : decode cX7_change 2 = .ok (.invokevirtual 170, 3) := by decide +kernel
theorem dX7_change_5 : decode cX7_change 5 = .ok (.ifCond .eq 32, 3) := by decide +kernel
theorem dX7_change_8 : decode cX7_change 8 = .ok (.aload_n 0, 1) := by decide +kernel
theorem dX7_change_9 : decode cX7_change 9 = .ok (.iload_n 2, 1) := by decide +kernel
theorem dX7_change_10 : decode cX7_change 10 = .ok (.invokevirtual 170, 3) := by decide +kernel
theorem dX7_change_13 : decode cX7_change 13 = .ok (.ifCond .eq 24, 3) := by decide +kernel
theorem dX7_change_16 : decode cX7_change 16 = .ok (.aload_n 0, 1) := by decide +kernel
theorem dX7_change_17 : decode cX7_change 17 = .ok (.getfield 19, 3) := by decide +kernel
theorem dX7_change_20 : decode cX7_change 20 = .ok (.getfield 173, 3) := by decide +kernel
theorem dX7_change_23 : decode cX7_change 23 = .ok (.iload_n 1, 1) := by decide +kernel
theorem dX7_change_24 : decode cX7_change 24 = .ok (.iaload, 1) := by decide +kernel
theorem dX7_change_25 : decode cX7_change 25 = .ok (.aload_n 0, 1) := by decide +kernel
theorem dX7_change_26 : decode cX7_change 26 = .ok (.getfield 19, 3) := by decide +kernel
theorem dX7_change_29 : decode cX7_change 29 = .ok (.getfield 173, 3) := by decide +kernel
theorem dX7_change_32 : decode cX7_change 32 = .ok (.iload_n 2, 1) := by decide +kernel
theorem dX7_change_33 : decode cX7_change 33 = .ok (.iaload, 1) := by decide +kernel
theorem dX7_change_34 : decode cX7_change 34 = .ok (.if_icmp .eq 5, 3) := by decide +kernel
theorem dX7_change_37 : decode cX7_change 37 = .ok (.iconst (-1), 1) := by decide +kernel
theorem dX7_change_38 : decode cX7_change 38 = .ok (.ireturn, 1) := by decide +kernel
theorem dX7_change_39 : decode cX7_change 39 = .ok (.aload_n 0, 1) := by decide +kernel
theorem dX7_change_40 : decode cX7_change 40 = .ok (.getfield 19, 3) := by decide +kernel
theorem dX7_change_43 : decode cX7_change 43 = .ok (.iload_n 1, 1) := by decide +kernel
theorem dX7_change_44 : decode cX7_change 44 = .ok (.iload_n 2, 1) := by decide +kernel
theorem dX7_change_45 : decode cX7_change 45 = .ok (.invokevirtual 176, 3) := by decide +kernel
theorem dX7_change_48 : decode cX7_change 48 = .ok (.ireturn, 1) := by decide +kernel
theorem dX7_own_0 : decode cX7_own 0 = .ok (.iload_n 1, 1) := by decide +kernel
theorem dX7_own_1 : decode cX7_own 1 = .ok (.ifCond .lt 9, 3) := by decide +kernel
theorem dX7_own_4 : decode cX7_own 4 = .ok (.iload_n 1, 1) := by decide +kernel
theorem dX7_own_5 : decode cX7_own 5 = .ok (.bipush 40, 2) := by decide +kernel
theorem dX7_own_7 : decode cX7_own 7 = .ok (.if_icmp .le 5, 3) := by decide +kernel
theorem dX7_own_10 : decode cX7_own 10 = .ok (.iconst (-1), 1) := by decide +kernel
theorem dX7_own_11 : decode cX7_own 11 = .ok (.ireturn, 1) := by decide +kernel
theorem dX7_own_12 : decode cX7_own 12 = .ok (.aload_n 0, 1) := by decide +kernel
theorem dX7_own_13 : decode cX7_own 13 = .ok (.getfield 69, 3) := by decide +kernel
theorem dX7_own_16 : decode cX7_own 16 = .ok (.istore_n 2, 1) := by decide +kernel
theorem dX7_own_17 : decode cX7_own 17 = .ok (.aload_n 0, 1) := by decide +kernel
theorem dX7_own_18 : decode cX7_own 18 = .ok (.iload_n 1, 1) := by decide +kernel
theorem dX7_own_19 : decode cX7_own 19 = .ok (.putfield 69, 3) := by decide +kernel
theorem dX7_own_22 : decode cX7_own 22 = .ok (.aload_n 0, 1) := by decide +kernel
theorem dX7_own_23 : decode cX7_own 23 = .ok (.iconst 0, 1) := by decide +kernel
theorem dX7_own_24 : decode cX7_own 24 = .ok (.putfield 75, 3) := by decide +kernel
theorem dX7_own_27 : decode cX7_own 27 = .ok (.iload_n 2, 1) := by decide +kernel
theorem dX7_own_28 : decode cX7_own 28 = .ok (.ireturn, 1) := by decide +kernel
theorem dX7_from_0 : decode cX7_from 0 = .ok (.aload_n 0, 1) := by decide +kernel
theorem dX7_from_1 : decode cX7_from 1 = .ok (.iload_n 1, 1) := by decide +kernel
theorem dX7_from_2 : decode cX7_from 2 = .ok (.invokevirtual 170, 3) := by decide +kernel
theorem dX7_from_5 : decode cX7_from 5 = .ok (.ifCond .ne 5, 3) := by decide +kernel
theorem dX7_from_8 : decode cX7_from 8 = .ok (.iconst (-1), 1) := by decide +kernel
theorem dX7_from_9 : decode cX7_from 9 = .ok (.ireturn, 1) := by decide +kernel
theorem dX7_from_10 : decode cX7_from 10 = .ok (.aload_n 0, 1) := by decide +kernel
theorem dX7_from_11 : decode cX7_from 11 = .ok (.invokevirtual 145, 3) := by decide +kernel
theorem dX7_from_14 : decode cX7_from 14 = .ok (.ifCond .eq 6, 3) := by decide +kernel
theorem dX7_from_17 : decode cX7_from 17 = .ok (.bipush (-2), 2) := by decide +kernel
theorem dX7_from_19 : decode cX7_from 19 = .ok (.ireturn, 1) := by decide +kernel
theorem dX7_from_20 : decode cX7_from 20 = .ok (.aload_n 0, 1) := by decide +kernel
theorem dX7_from_21 : decode cX7_from 21 = .ok (.getfield 37, 3) := by decide +kernel
theorem dX7_from_24 : decode cX7_from 24 = .ok (.iload_n 1, 1) := by decide +kernel
theorem dX7_from_25 : decode cX7_from 25 = .ok (.invokevirtual 179, 3) := by decide +kernel
theorem dX7_from_28 : decode cX7_from 28 = .ok (.ifCond .eq 8, 3) := by decide +kernel
theorem dX7_from_31 : decode cX7_from 31 = .ok (.bipush (-4), 2) := by decide +kernel
theorem dX7_from_33 : decode cX7_from 33 = .ok (.goto 12, 3) := by decide +kernel
theorem dX7_from_36 : decode cX7_from 36 = .ok (.aload_n 0, 1) := by decide +kernel
theorem dX7_from_37 : decode cX7_from 37 = .ok (.getfield 37, 3) := by decide +kernel
theorem dX7_from_40 : decode cX7_from 40 = .ok (.getfield 182, 3) := by decide +kernel
theorem dX7_from_43 : decode cX7_from 43 = .ok (.iload_n 1, 1) := by decide +kernel
theorem dX7_from_44 : decode cX7_from 44 = .ok (.iaload, 1) := by decide +kernel
theorem dX7_from_45 : decode cX7_from 45 = .ok (.ireturn, 1) := by decide +kernel
theorem dX7_voice_0 : decode cX7_voice 0 = .ok (.aload_n 0, 1) := by decide +kernel
theorem dX7_voice_1 : decode cX7_voice 1 = .ok (.iload_n 1, 1) := by decide +kernel
theorem dX7_voice_2 : decode cX7_voice 2 = .ok (.invokevirtual 170, 3) := by decide +kernel
theorem dX7_voice_5 : decode cX7_voice 5 = .ok (.ifCond .eq 12, 3) := by decide +kernel
theorem dX7_voice_8 : decode cX7_voice 8 = .ok (.iload_n 2, 1) := by decide +kernel
theorem dX7_voice_9 : decode cX7_voice 9 = .ok (.ifCond .lt 8, 3) := by decide +kernel
theorem dX7_voice_12 : decode cX7_voice 12 = .ok (.iload_n 2, 1) := by decide +kernel
theorem dX7_voice_13 : decode cX7_voice 13 = .ok (.iconst 2, 1) := by decide +kernel
theorem dX7_voice_14 : decode cX7_voice 14 = .ok (.if_icmp .le 5, 3) := by decide +kernel
theorem dX7_voice_17 : decode cX7_voice 17 = .ok (.iconst (-1), 1) := by decide +kernel
theorem dX7_voice_18 : decode cX7_voice 18 = .ok (.ireturn, 1) := by decide +kernel
theorem dX7_voice_19 : decode cX7_voice 19 = .ok (.aload_n 0, 1) := by decide +kernel
theorem dX7_voice_20 : decode cX7_voice 20 = .ok (.invokevirtual 145, 3) := by decide +kernel
theorem dX7_voice_23 : decode cX7_voice 23 = .ok (.ifCond .eq 6, 3) := by decide +kernel
theorem dX7_voice_26 : decode cX7_voice 26 = .ok (.bipush (-2), 2) := by decide +kernel
theorem dX7_voice_28 : decode cX7_voice 28 = .ok (.ireturn, 1) := by decide +kernel
theorem dX7_voice_29 : decode cX7_voice 29 = .ok (.iload_n 2, 1) := by decide +kernel
theorem dX7_voice_30 : decode cX7_voice 30 = .ok (.ifCond .ne 13, 3) := by decide +kernel
theorem dX7_voice_33 : decode cX7_voice 33 = .ok (.aload_n 0, 1) := by decide +kernel
theorem dX7_voice_34 : decode cX7_voice 34 = .ok (.getfield 37, 3) := by decide +kernel
theorem dX7_voice_37 : decode cX7_voice 37 = .ok (.getfield 185, 3) := by decide +kernel
theorem dX7_voice_40 : decode cX7_voice 40 = .ok (.iload_n 1, 1) := by decide +kernel
theorem dX7_voice_41 : decode cX7_voice 41 = .ok (.iaload, 1) := by decide +kernel
theorem dX7_voice_42 : decode cX7_voice 42 = .ok (.ireturn, 1) := by decide +kernel
theorem dX7_voice_43 : decode cX7_voice 43 = .ok (.iload_n 2, 1) := by decide +kernel
theorem dX7_voice_44 : decode cX7_voice 44 = .ok (.iconst 1, 1) := by decide +kernel
theorem dX7_voice_45 : decode cX7_voice 45 = .ok (.if_icmp .ne 19, 3) := by decide +kernel
theorem dX7_voice_48 : decode cX7_voice 48 = .ok (.aload_n 0, 1) := by decide +kernel
theorem dX7_voice_49 : decode cX7_voice 49 = .ok (.aload_n 0, 1) := by decide +kernel
theorem dX7_voice_50 : decode cX7_voice 50 = .ok (.getfield 37, 3) := by decide +kernel
theorem dX7_voice_53 : decode cX7_voice 53 = .ok (.getfield 185, 3) := by decide +kernel
theorem dX7_voice_56 : decode cX7_voice 56 = .ok (.iload_n 1, 1) := by decide +kernel
theorem dX7_voice_57 : decode cX7_voice 57 = .ok (.iaload, 1) := by decide +kernel
theorem dX7_voice_58 : decode cX7_voice 58 = .ok (.invokevirtual 188, 3) := by decide +kernel
theorem dX7_voice_61 : decode cX7_voice 61 = .ok (.goto 12, 3) := by decide +kernel
theorem dX7_voice_64 : decode cX7_voice 64 = .ok (.aload_n 0, 1) := by decide +kernel
theorem dX7_voice_65 : decode cX7_voice 65 = .ok (.getfield 37, 3) := by decide +kernel
theorem dX7_voice_68 : decode cX7_voice 68 = .ok (.getfield 192, 3) := by decide +kernel
theorem dX7_voice_71 : decode cX7_voice 71 = .ok (.iload_n 1, 1) := by decide +kernel
theorem dX7_voice_72 : decode cX7_voice 72 = .ok (.iaload, 1) := by decide +kernel
theorem dX7_voice_73 : decode cX7_voice 73 = .ok (.ireturn, 1) := by decide +kernel
theorem dX7_voices_0 : decode cX7_voices 0 = .ok (.iload_n 1, 1) := by decide +kernel
theorem dX7_voices_1 : decode cX7_voices 1 = .ok (.invokestatic 127, 3) := by decide +kernel
theorem dX7_voices_4 : decode cX7_voices 4 = .ok (.ifCond .ne 5, 3) := by decide +kernel
theorem dX7_voices_7 : decode cX7_voices 7 = .ok (.iconst (-1), 1) := by decide +kernel
theorem dX7_voices_8 : decode cX7_voices 8 = .ok (.ireturn, 1) := by decide +kernel
theorem dX7_voices_9 : decode cX7_voices 9 = .ok (.aload_n 0, 1) := by decide +kernel
theorem dX7_voices_10 : decode cX7_voices 10 = .ok (.invokevirtual 145, 3) := by decide +kernel
theorem dX7_voices_13 : decode cX7_voices 13 = .ok (.ifCond .eq 6, 3) := by decide +kernel
theorem dX7_voices_16 : decode cX7_voices 16 = .ok (.bipush (-2), 2) := by decide +kernel
theorem dX7_voices_18 : decode cX7_voices 18 = .ok (.ireturn, 1) := by decide +kernel
theorem dX7_voices_19 : decode cX7_voices 19 = .ok (.iconst 0, 1) := by decide +kernel
theorem dX7_voices_20 : decode cX7_voices 20 = .ok (.istore_n 3, 1) := by decide +kernel
theorem dX7_voices_21 : decode cX7_voices 21 = .ok (.iconst 0, 1) := by decide +kernel
theorem dX7_voices_22 : decode cX7_voices 22 = .ok (.istore 4, 2) := by decide +kernel
theorem dX7_voices_24 : decode cX7_voices 24 = .ok (.iload 4, 2) := by decide +kernel
theorem dX7_voices_26 : decode cX7_voices 26 = .ok (.aload_n 0, 1) := by decide +kernel
theorem dX7_voices_27 : decode cX7_voices 27 = .ok (.getfield 19, 3) := by decide +kernel
theorem dX7_voices_30 : decode cX7_voices 30 = .ok (.getfield 159, 3) := by decide +kernel
theorem dX7_voices_33 : decode cX7_voices 33 = .ok (.if_icmp .ge 51, 3) := by decide +kernel
theorem dX7_voices_36 : decode cX7_voices 36 = .ok (.aload_n 0, 1) := by decide +kernel
theorem dX7_voices_37 : decode cX7_voices 37 = .ok (.getfield 19, 3) := by decide +kernel
theorem dX7_voices_40 : decode cX7_voices 40 = .ok (.getfield 173, 3) := by decide +kernel
theorem dX7_voices_43 : decode cX7_voices 43 = .ok (.iload 4, 2) := by decide +kernel
theorem dX7_voices_45 : decode cX7_voices 45 = .ok (.iaload, 1) := by decide +kernel
theorem dX7_voices_46 : decode cX7_voices 46 = .ok (.iload_n 1, 1) := by decide +kernel
theorem dX7_voices_47 : decode cX7_voices 47 = .ok (.if_icmp .ne 31, 3) := by decide +kernel
theorem dX7_voices_50 : decode cX7_voices 50 = .ok (.aload_n 0, 1) := by decide +kernel
theorem dX7_voices_51 : decode cX7_voices 51 = .ok (.getfield 19, 3) := by decide +kernel
theorem dX7_voices_54 : decode cX7_voices 54 = .ok (.iload 4, 2) := by decide +kernel
theorem dX7_voices_56 : decode cX7_voices 56 = .ok (.invokevirtual 195, 3) := by decide +kernel
theorem dX7_voices_59 : decode cX7_voices 59 = .ok (.iload_n 2, 1) := by decide +kernel
theorem dX7_voices_60 : decode cX7_voices 60 = .ok (.if_icmp .ne 18, 3) := by decide +kernel
theorem dX7_voices_63 : decode cX7_voices 63 = .ok (.aload_n 0, 1) := by decide +kernel
theorem dX7_voices_64 : decode cX7_voices 64 = .ok (.getfield 37, 3) := by decide +kernel
theorem dX7_voices_67 : decode cX7_voices 67 = .ok (.iload 4, 2) := by decide +kernel
theorem dX7_voices_69 : decode cX7_voices 69 = .ok (.invokevirtual 179, 3) := by decide +kernel
theorem dX7_voices_72 : decode cX7_voices 72 = .ok (.ifCond .eq 6, 3) := by decide +kernel
theorem dX7_voices_75 : decode cX7_voices 75 = .ok (.iinc 3 1, 3) := by decide +kernel
theorem dX7_voices_78 : decode cX7_voices 78 = .ok (.iinc 4 1, 3) := by decide +kernel
theorem dX7_voices_81 : decode cX7_voices 81 = .ok (.goto (-57), 3) := by decide +kernel
theorem dX7_voices_84 : decode cX7_voices 84 = .ok (.iload_n 3, 1) := by decide +kernel
theorem dX7_voices_85 : decode cX7_voices 85 = .ok (.ireturn, 1) := by decide +kernel
theorem dX7_grew_0 : decode cX7_grew 0 = .ok (.aload_n 0, 1) := by decide +kernel
theorem dX7_grew_1 : decode cX7_grew 1 = .ok (.iload_n 1, 1) := by decide +kernel
theorem dX7_grew_2 : decode cX7_grew 2 = .ok (.invokevirtual 170, 3) := by decide +kernel
theorem dX7_grew_5 : decode cX7_grew 5 = .ok (.ifCond .ne 6, 3) := by decide +kernel
theorem dX7_grew_8 : decode cX7_grew 8 = .ok (.ldc 198, 2) := by decide +kernel
theorem dX7_grew_10 : decode cX7_grew 10 = .ok (.ireturn, 1) := by decide +kernel
theorem dX7_grew_11 : decode cX7_grew 11 = .ok (.aload_n 0, 1) := by decide +kernel
theorem dX7_grew_12 : decode cX7_grew 12 = .ok (.invokevirtual 145, 3) := by decide +kernel
theorem dX7_grew_15 : decode cX7_grew 15 = .ok (.ifCond .eq 8, 3) := by decide +kernel
theorem dX7_grew_18 : decode cX7_grew 18 = .ok (.ldc 199, 2) := by decide +kernel
theorem dX7_grew_20 : decode cX7_grew 20 = .ok (.goto 8, 3) := by decide +kernel
theorem dX7_grew_23 : decode cX7_grew 23 = .ok (.aload_n 0, 1) := by decide +kernel
theorem dX7_grew_24 : decode cX7_grew 24 = .ok (.iload_n 1, 1) := by decide +kernel
theorem dX7_grew_25 : decode cX7_grew 25 = .ok (.invokevirtual 200, 3) := by decide +kernel
theorem dX7_grew_28 : decode cX7_grew 28 = .ok (.ireturn, 1) := by decide +kernel
theorem dX7_habit_0 : decode cX7_habit 0 = .ok (.iload_n 1, 1) := by decide +kernel
theorem dX7_habit_1 : decode cX7_habit 1 = .ok (.invokestatic 101, 3) := by decide +kernel
theorem dX7_habit_4 : decode cX7_habit 4 = .ok (.ifCond .ne 6, 3) := by decide +kernel
theorem dX7_habit_7 : decode cX7_habit 7 = .ok (.ldc 203, 2) := by decide +kernel
theorem dX7_habit_9 : decode cX7_habit 9 = .ok (.ireturn, 1) := by decide +kernel
theorem dX7_habit_10 : decode cX7_habit 10 = .ok (.aload_n 0, 1) := by decide +kernel
theorem dX7_habit_11 : decode cX7_habit 11 = .ok (.invokevirtual 145, 3) := by decide +kernel
theorem dX7_habit_14 : decode cX7_habit 14 = .ok (.ifCond .eq 6, 3) := by decide +kernel
theorem dX7_habit_17 : decode cX7_habit 17 = .ok (.ldc 204, 2) := by decide +kernel
theorem dX7_habit_19 : decode cX7_habit 19 = .ok (.ireturn, 1) := by decide +kernel
theorem dX7_habit_20 : decode cX7_habit 20 = .ok (.iconst 0, 1) := by decide +kernel
theorem dX7_habit_21 : decode cX7_habit 21 = .ok (.istore_n 2, 1) := by decide +kernel
theorem dX7_habit_22 : decode cX7_habit 22 = .ok (.iconst 0, 1) := by decide +kernel
theorem dX7_habit_23 : decode cX7_habit 23 = .ok (.istore_n 3, 1) := by decide +kernel
theorem dX7_habit_24 : decode cX7_habit 24 = .ok (.iload_n 3, 1) := by decide +kernel
theorem dX7_habit_25 : decode cX7_habit 25 = .ok (.aload_n 0, 1) := by decide +kernel
theorem dX7_habit_26 : decode cX7_habit 26 = .ok (.getfield 19, 3) := by decide +kernel
theorem dX7_habit_29 : decode cX7_habit 29 = .ok (.getfield 159, 3) := by decide +kernel
theorem dX7_habit_32 : decode cX7_habit 32 = .ok (.if_icmp .ge 29, 3) := by decide +kernel
theorem dX7_habit_35 : decode cX7_habit 35 = .ok (.aload_n 0, 1) := by decide +kernel
theorem dX7_habit_36 : decode cX7_habit 36 = .ok (.getfield 19, 3) := by decide +kernel
theorem dX7_habit_39 : decode cX7_habit 39 = .ok (.iload_n 3, 1) := by decide +kernel
theorem dX7_habit_40 : decode cX7_habit 40 = .ok (.invokevirtual 205, 3) := by decide +kernel
theorem dX7_habit_43 : decode cX7_habit 43 = .ok (.iload_n 1, 1) := by decide +kernel
theorem dX7_habit_44 : decode cX7_habit 44 = .ok (.if_icmp .ne 11, 3) := by decide +kernel
theorem dX7_habit_47 : decode cX7_habit 47 = .ok (.iload_n 2, 1) := by decide +kernel
theorem dX7_habit_48 : decode cX7_habit 48 = .ok (.aload_n 0, 1) := by decide +kernel
theorem dX7_habit_49 : decode cX7_habit 49 = .ok (.iload_n 3, 1) := by decide +kernel
theorem dX7_habit_50 : decode cX7_habit 50 = .ok (.invokevirtual 200, 3) := by decide +kernel
theorem dX7_habit_53 : decode cX7_habit 53 = .ok (.iadd, 1) := by decide +kernel
theorem dX7_habit_54 : decode cX7_habit 54 = .ok (.istore_n 2, 1) := by decide +kernel
theorem dX7_habit_55 : decode cX7_habit 55 = .ok (.iinc 3 1, 3) := by decide +kernel
theorem dX7_habit_58 : decode cX7_habit 58 = .ok (.goto (-34), 3) := by decide +kernel
theorem dX7_habit_61 : decode cX7_habit 61 = .ok (.iload_n 2, 1) := by decide +kernel
theorem dX7_habit_62 : decode cX7_habit 62 = .ok (.ireturn, 1) := by decide +kernel
theorem dX7_write_0 : decode cX7_write 0 = .ok (.iload_n 1, 1) := by decide +kernel
theorem dX7_write_1 : decode cX7_write 1 = .ok (.iconst 1, 1) := by decide +kernel
theorem dX7_write_2 : decode cX7_write 2 = .ok (.if_icmp .lt 9, 3) := by decide +kernel
theorem dX7_write_5 : decode cX7_write 5 = .ok (.iload_n 1, 1) := by decide +kernel
theorem dX7_write_6 : decode cX7_write 6 = .ok (.bipush 8, 2) := by decide +kernel
theorem dX7_write_8 : decode cX7_write 8 = .ok (.if_icmp .le 5, 3) := by decide +kernel
theorem dX7_write_11 : decode cX7_write 11 = .ok (.iconst (-1), 1) := by decide +kernel
theorem dX7_write_12 : decode cX7_write 12 = .ok (.ireturn, 1) := by decide +kernel
theorem dX7_write_13 : decode cX7_write 13 = .ok (.aload_n 0, 1) := by decide +kernel
theorem dX7_write_14 : decode cX7_write 14 = .ok (.getfield 44, 3) := by decide +kernel
theorem dX7_write_17 : decode cX7_write 17 = .ok (.getfield 208, 3) := by decide +kernel
theorem dX7_write_20 : decode cX7_write 20 = .ok (.iload_n 1, 1) := by decide +kernel
theorem dX7_write_21 : decode cX7_write 21 = .ok (.iadd, 1) := by decide +kernel
theorem dX7_write_22 : decode cX7_write 22 = .ok (.sipush 200, 3) := by decide +kernel
theorem dX7_write_25 : decode cX7_write 25 = .ok (.if_icmp .le 6, 3) := by decide +kernel
theorem dX7_write_28 : decode cX7_write 28 = .ok (.bipush (-3), 2) := by decide +kernel
theorem dX7_write_30 : decode cX7_write 30 = .ok (.ireturn, 1) := by decide +kernel
theorem dX7_write_31 : decode cX7_write 31 = .ok (.aload_n 0, 1) := by decide +kernel
theorem dX7_write_32 : decode cX7_write 32 = .ok (.getfield 44, 3) := by decide +kernel
theorem dX7_write_35 : decode cX7_write 35 = .ok (.iload_n 1, 1) := by decide +kernel
theorem dX7_write_36 : decode cX7_write 36 = .ok (.lload_n 2, 1) := by decide +kernel
theorem dX7_write_37 : decode cX7_write 37 = .ok (.invokevirtual 211, 3) := by decide +kernel
theorem dX7_write_40 : decode cX7_write 40 = .ok (.aload_n 0, 1) := by decide +kernel
theorem dX7_write_41 : decode cX7_write 41 = .ok (.getfield 44, 3) := by decide +kernel
theorem dX7_write_44 : decode cX7_write 44 = .ok (.getfield 208, 3) := by decide +kernel
theorem dX7_write_47 : decode cX7_write 47 = .ok (.ireturn, 1) := by decide +kernel
theorem dX7_wipe_0 : decode cX7_wipe 0 = .ok (.aload_n 0, 1) := by decide +kernel
theorem dX7_wipe_1 : decode cX7_wipe 1 = .ok (.getfield 44, 3) := by decide +kernel
theorem dX7_wipe_4 : decode cX7_wipe 4 = .ok (.getfield 208, 3) := by decide +kernel
theorem dX7_wipe_7 : decode cX7_wipe 7 = .ok (.istore_n 1, 1) := by decide +kernel
theorem dX7_wipe_8 : decode cX7_wipe 8 = .ok (.aload_n 0, 1) := by decide +kernel
theorem dX7_wipe_9 : decode cX7_wipe 9 = .ok (.getfield 44, 3) := by decide +kernel
theorem dX7_wipe_12 : decode cX7_wipe 12 = .ok (.iconst 0, 1) := by decide +kernel
theorem dX7_wipe_13 : decode cX7_wipe 13 = .ok (.putfield 208, 3) := by decide +kernel
theorem dX7_wipe_16 : decode cX7_wipe 16 = .ok (.iload_n 1, 1) := by decide +kernel
theorem dX7_wipe_17 : decode cX7_wipe 17 = .ok (.ireturn, 1) := by decide +kernel
theorem dX7_fault_0 : decode cX7_fault 0 = .ok (.aload_n 0, 1) := by decide +kernel
theorem dX7_fault_1 : decode cX7_fault 1 = .ok (.getfield 62, 3) := by decide +kernel
theorem dX7_fault_4 : decode cX7_fault 4 = .ok (.aload_n 0, 1) := by decide +kernel
theorem dX7_fault_5 : decode cX7_fault 5 = .ok (.getfield 44, 3) := by decide +kernel
theorem dX7_fault_8 : decode cX7_fault 8 = .ok (.invokevirtual 215, 3) := by decide +kernel
theorem dX7_fault_11 : decode cX7_fault 11 = .ok (.ireturn, 1) := by decide +kernel
theorem dX7_force_0 : decode cX7_force 0 = .ok (.aload_n 0, 1) := by decide +kernel
theorem dX7_force_1 : decode cX7_force 1 = .ok (.getfield 62, 3) := by decide +kernel
theorem dX7_force_4 : decode cX7_force 4 = .ok (.aload_n 0, 1) := by decide +kernel
theorem dX7_force_5 : decode cX7_force 5 = .ok (.getfield 44, 3) := by decide +kernel
theorem dX7_force_8 : decode cX7_force 8 = .ok (.invokevirtual 215, 3) := by decide +kernel
theorem dX7_force_11 : decode cX7_force 11 = .ok (.bipush (-4), 2) := by decide +kernel
theorem dX7_force_13 : decode cX7_force 13 = .ok (.if_icmp .eq 6, 3) := by decide +kernel
theorem dX7_force_16 : decode cX7_force 16 = .ok (.bipush (-2), 2) := by decide +kernel
theorem dX7_force_18 : decode cX7_force 18 = .ok (.ireturn, 1) := by decide +kernel
theorem dX7_force_19 : decode cX7_force 19 = .ok (.aload_n 0, 1) := by decide +kernel
theorem dX7_force_20 : decode cX7_force 20 = .ok (.getfield 58, 3) := by decide +kernel
theorem dX7_force_23 : decode cX7_force 23 = .ok (.astore_n 1, 1) := by decide +kernel
theorem dX7_force_24 : decode cX7_force 24 = .ok (.aload_n 0, 1) := by decide +kernel
theorem dX7_force_25 : decode cX7_force 25 = .ok (.aload_n 0, 1) := by decide +kernel
theorem dX7_force_26 : decode cX7_force 26 = .ok (.getfield 62, 3) := by decide +kernel
theorem dX7_force_29 : decode cX7_force 29 = .ok (.putfield 58, 3) := by decide +kernel
theorem dX7_force_32 : decode cX7_force 32 = .ok (.aload_n 0, 1) := by decide +kernel
theorem dX7_force_33 : decode cX7_force 33 = .ok (.aload_n 1, 1) := by decide +kernel
theorem dX7_force_34 : decode cX7_force 34 = .ok (.putfield 62, 3) := by decide +kernel
theorem dX7_force_37 : decode cX7_force 37 = .ok (.aload_n 0, 1) := by decide +kernel
theorem dX7_force_38 : decode cX7_force 38 = .ok (.getfield 58, 3) := by decide +kernel
theorem dX7_force_41 : decode cX7_force 41 = .ok (.getfield 219, 3) := by decide +kernel
theorem dX7_force_44 : decode cX7_force 44 = .ok (.ireturn, 1) := by decide +kernel
theorem dX7_rule_0 : decode cX7_rule 0 = .ok (.iload_n 1, 1) := by decide +kernel
theorem dX7_rule_1 : decode cX7_rule 1 = .ok (.iload_n 2, 1) := by decide +kernel
theorem dX7_rule_2 : decode cX7_rule 2 = .ok (.invokestatic 222, 3) := by decide +kernel
theorem dX7_rule_5 : decode cX7_rule 5 = .ok (.ifCond .eq 10, 3) := by decide +kernel
theorem dX7_rule_8 : decode cX7_rule 8 = .ok (.iload_n 3, 1) := by decide +kernel
theorem dX7_rule_9 : decode cX7_rule 9 = .ok (.invokestatic 130, 3) := by decide +kernel
theorem dX7_rule_12 : decode cX7_rule 12 = .ok (.ifCond .ne 5, 3) := by decide +kernel
theorem dX7_rule_15 : decode cX7_rule 15 = .ok (.iconst (-1), 1) := by decide +kernel
theorem dX7_rule_16 : decode cX7_rule 16 = .ok (.ireturn, 1) := by decide +kernel
theorem dX7_rule_17 : decode cX7_rule 17 = .ok (.aload_n 0, 1) := by decide +kernel
theorem dX7_rule_18 : decode cX7_rule 18 = .ok (.getfield 58, 3) := by decide +kernel
theorem dX7_rule_21 : decode cX7_rule 21 = .ok (.iload_n 1, 1) := by decide +kernel
theorem dX7_rule_22 : decode cX7_rule 22 = .ok (.iload_n 2, 1) := by decide +kernel
theorem dX7_rule_23 : decode cX7_rule 23 = .ok (.iload_n 3, 1) := by decide +kernel
theorem dX7_rule_24 : decode cX7_rule 24 = .ok (.invokevirtual 225, 3) := by decide +kernel
theorem dX7_rule_27 : decode cX7_rule 27 = .ok (.ireturn, 1) := by decide +kernel
theorem dX7_why_0 : decode cX7_why 0 = .ok (.iload_n 1, 1) := by decide +kernel
theorem dX7_why_1 : decode cX7_why 1 = .ok (.iload_n 2, 1) := by decide +kernel
theorem dX7_why_2 : decode cX7_why 2 = .ok (.invokestatic 222, 3) := by decide +kernel
theorem dX7_why_5 : decode cX7_why 5 = .ok (.ifCond .eq 10, 3) := by decide +kernel
theorem dX7_why_8 : decode cX7_why 8 = .ok (.iload_n 3, 1) := by decide +kernel
theorem dX7_why_9 : decode cX7_why 9 = .ok (.invokestatic 130, 3) := by decide +kernel
theorem dX7_why_12 : decode cX7_why 12 = .ok (.ifCond .ne 5, 3) := by decide +kernel
theorem dX7_why_15 : decode cX7_why 15 = .ok (.iconst (-1), 1) := by decide +kernel
theorem dX7_why_16 : decode cX7_why 16 = .ok (.ireturn, 1) := by decide +kernel
theorem dX7_why_17 : decode cX7_why 17 = .ok (.aload_n 0, 1) := by decide +kernel
theorem dX7_why_18 : decode cX7_why 18 = .ok (.getfield 58, 3) := by decide +kernel
theorem dX7_why_21 : decode cX7_why 21 = .ok (.iload_n 1, 1) := by decide +kernel
theorem dX7_why_22 : decode cX7_why 22 = .ok (.iload_n 2, 1) := by decide +kernel
theorem dX7_why_23 : decode cX7_why 23 = .ok (.iload_n 3, 1) := by decide +kernel
theorem dX7_why_24 : decode cX7_why 24 = .ok (.invokevirtual 228, 3) := by decide +kernel
theorem dX7_why_27 : decode cX7_why 27 = .ok (.ireturn, 1) := by decide +kernel
theorem dX7_quarrel_0 : decode cX7_quarrel 0 = .ok (.aload_n 0, 1) := by decide +kernel
theorem dX7_quarrel_1 : decode cX7_quarrel 1 = .ok (.getfield 58, 3) := by decide +kernel
theorem dX7_quarrel_4 : decode cX7_quarrel 4 = .ok (.invokevirtual 231, 3) := by decide +kernel
theorem dX7_quarrel_7 : decode cX7_quarrel 7 = .ok (.ireturn, 1) := by decide +kernel
theorem dX7_closet_0 : decode cX7_closet 0 = .ok (.iload_n 1, 1) := by decide +kernel
theorem dX7_closet_1 : decode cX7_closet 1 = .ok (.invokestatic 79, 3) := by decide +kernel
theorem dX7_closet_4 : decode cX7_closet 4 = .ok (.ifCond .ne 5, 3) := by decide +kernel
theorem dX7_closet_7 : decode cX7_closet 7 = .ok (.iconst (-1), 1) := by decide +kernel
theorem dX7_closet_8 : decode cX7_closet 8 = .ok (.ireturn, 1) := by decide +kernel
theorem dX7_closet_9 : decode cX7_closet 9 = .ok (.aload_n 0, 1) := by decide +kernel
theorem dX7_closet_10 : decode cX7_closet 10 = .ok (.getfield 72, 3) := by decide +kernel
theorem dX7_closet_13 : decode cX7_closet 13 = .ok (.istore_n 2, 1) := by decide +kernel
theorem dX7_closet_14 : decode cX7_closet 14 = .ok (.aload_n 0, 1) := by decide +kernel
theorem dX7_closet_15 : decode cX7_closet 15 = .ok (.iload_n 1, 1) := by decide +kernel
theorem dX7_closet_16 : decode cX7_closet 16 = .ok (.putfield 72, 3) := by decide +kernel
theorem dX7_closet_19 : decode cX7_closet 19 = .ok (.iload_n 2, 1) := by decide +kernel
theorem dX7_closet_20 : decode cX7_closet 20 = .ok (.ireturn, 1) := by decide +kernel
theorem dX7_came_0 : decode cX7_came 0 = .ok (.aload_n 0, 1) := by decide +kernel
theorem dX7_came_1 : decode cX7_came 1 = .ok (.iload_n 1, 1) := by decide +kernel
theorem dX7_came_2 : decode cX7_came 2 = .ok (.invokevirtual 170, 3) := by decide +kernel
theorem dX7_came_5 : decode cX7_came 5 = .ok (.ifCond .ne 5, 3) := by decide +kernel
theorem dX7_came_8 : decode cX7_came 8 = .ok (.iconst (-1), 1) := by decide +kernel
theorem dX7_came_9 : decode cX7_came 9 = .ok (.ireturn, 1) := by decide +kernel
theorem dX7_came_10 : decode cX7_came 10 = .ok (.aload_n 0, 1) := by decide +kernel
theorem dX7_came_11 : decode cX7_came 11 = .ok (.invokevirtual 145, 3) := by decide +kernel
theorem dX7_came_14 : decode cX7_came 14 = .ok (.ifCond .eq 6, 3) := by decide +kernel
theorem dX7_came_17 : decode cX7_came 17 = .ok (.bipush (-2), 2) := by decide +kernel
theorem dX7_came_19 : decode cX7_came 19 = .ok (.ireturn, 1) := by decide +kernel
theorem dX7_came_20 : decode cX7_came 20 = .ok (.aload_n 0, 1) := by decide +kernel
theorem dX7_came_21 : decode cX7_came 21 = .ok (.iload_n 1, 1) := by decide +kernel
theorem dX7_came_22 : decode cX7_came 22 = .ok (.invokevirtual 235, 3) := by decide +kernel
theorem dX7_came_25 : decode cX7_came 25 = .ok (.ireturn, 1) := by decide +kernel
theorem dX7_belief_0 : decode cX7_belief 0 = .ok (.iload_n 1, 1) := by decide +kernel
theorem dX7_belief_1 : decode cX7_belief 1 = .ok (.invokestatic 127, 3) := by decide +kernel
theorem dX7_belief_4 : decode cX7_belief 4 = .ok (.ifCond .eq 19, 3) := by decide +kernel
theorem dX7_belief_7 : decode cX7_belief 7 = .ok (.iload_n 2, 1) := by decide +kernel
theorem dX7_belief_8 : decode cX7_belief 8 = .ok (.invokestatic 130, 3) := by decide +kernel
theorem dX7_belief_11 : decode cX7_belief 11 = .ok (.ifCond .eq 12, 3) := by decide +kernel
theorem dX7_belief_14 : decode cX7_belief 14 = .ok (.iload_n 3, 1) := by decide +kernel
theorem dX7_belief_15 : decode cX7_belief 15 = .ok (.ifCond .lt 8, 3) := by decide +kernel
theorem dX7_belief_18 : decode cX7_belief 18 = .ok (.iload_n 3, 1) := by decide +kernel
theorem dX7_belief_19 : decode cX7_belief 19 = .ok (.iconst 1, 1) := by decide +kernel
theorem dX7_belief_20 : decode cX7_belief 20 = .ok (.if_icmp .le 6, 3) := by decide +kernel
theorem dX7_belief_23 : decode cX7_belief 23 = .ok (.ldc 203, 2) := by decide +kernel
theorem dX7_belief_25 : decode cX7_belief 25 = .ok (.ireturn, 1) := by decide +kernel
theorem dX7_belief_26 : decode cX7_belief 26 = .ok (.aload_n 0, 1) := by decide +kernel
theorem dX7_belief_27 : decode cX7_belief 27 = .ok (.invokevirtual 145, 3) := by decide +kernel
theorem dX7_belief_30 : decode cX7_belief 30 = .ok (.ifCond .eq 6, 3) := by decide +kernel
theorem dX7_belief_33 : decode cX7_belief 33 = .ok (.ldc 204, 2) := by decide +kernel
theorem dX7_belief_35 : decode cX7_belief 35 = .ok (.ireturn, 1) := by decide +kernel
theorem dX7_belief_36 : decode cX7_belief 36 = .ok (.aload_n 0, 1) := by decide +kernel
theorem dX7_belief_37 : decode cX7_belief 37 = .ok (.iload_n 1, 1) := by decide +kernel
theorem dX7_belief_38 : decode cX7_belief 38 = .ok (.iload_n 2, 1) := by decide +kernel
theorem dX7_belief_39 : decode cX7_belief 39 = .ok (.invokevirtual 238, 3) := by decide +kernel
theorem dX7_belief_42 : decode cX7_belief 42 = .ok (.istore 4, 2) := by decide +kernel
theorem dX7_belief_44 : decode cX7_belief 44 = .ok (.iload_n 3, 1) := by decide +kernel
theorem dX7_belief_45 : decode cX7_belief 45 = .ok (.ifCond .ne 6, 3) := by decide +kernel
theorem dX7_belief_48 : decode cX7_belief 48 = .ok (.iload 4, 2) := by decide +kernel
theorem dX7_belief_50 : decode cX7_belief 50 = .ok (.ireturn, 1) := by decide +kernel
theorem dX7_belief_51 : decode cX7_belief 51 = .ok (.iload 4, 2) := by decide +kernel
theorem dX7_belief_53 : decode cX7_belief 53 = .ok (.aload_n 0, 1) := by decide +kernel
theorem dX7_belief_54 : decode cX7_belief 54 = .ok (.getfield 58, 3) := by decide +kernel
theorem dX7_belief_57 : decode cX7_belief 57 = .ok (.iconst 3, 1) := by decide +kernel
theorem dX7_belief_58 : decode cX7_belief 58 = .ok (.iconst 0, 1) := by decide +kernel
theorem dX7_belief_59 : decode cX7_belief 59 = .ok (.iload_n 2, 1) := by decide +kernel
theorem dX7_belief_60 : decode cX7_belief 60 = .ok (.invokevirtual 225, 3) := by decide +kernel
theorem dX7_belief_63 : decode cX7_belief 63 = .ok (.if_icmp .lt 7, 3) := by decide +kernel
theorem dX7_belief_66 : decode cX7_belief 66 = .ok (.iconst 1, 1) := by decide +kernel
theorem dX7_belief_67 : decode cX7_belief 67 = .ok (.goto 4, 3) := by decide +kernel
theorem dX7_belief_70 : decode cX7_belief 70 = .ok (.iconst 0, 1) := by decide +kernel
theorem dX7_belief_71 : decode cX7_belief 71 = .ok (.ireturn, 1) := by decide +kernel
theorem dX7_banned_0 : decode cX7_banned 0 = .ok (.iload_n 1, 1) := by decide +kernel
theorem dX7_banned_1 : decode cX7_banned 1 = .ok (.iconst (-1), 1) := by decide +kernel
theorem dX7_banned_2 : decode cX7_banned 2 = .ok (.if_icmp .ge 5, 3) := by decide +kernel
theorem dX7_banned_5 : decode cX7_banned 5 = .ok (.iconst (-1), 1) := by decide +kernel
theorem dX7_banned_6 : decode cX7_banned 6 = .ok (.ireturn, 1) := by decide +kernel
theorem dX7_banned_7 : decode cX7_banned 7 = .ok (.aload_n 0, 1) := by decide +kernel
theorem dX7_banned_8 : decode cX7_banned 8 = .ok (.invokevirtual 145, 3) := by decide +kernel
theorem dX7_banned_11 : decode cX7_banned 11 = .ok (.ifCond .eq 6, 3) := by decide +kernel
theorem dX7_banned_14 : decode cX7_banned 14 = .ok (.bipush (-2), 2) := by decide +kernel
theorem dX7_banned_16 : decode cX7_banned 16 = .ok (.ireturn, 1) := by decide +kernel
theorem dX7_banned_17 : decode cX7_banned 17 = .ok (.iconst 0, 1) := by decide +kernel
theorem dX7_banned_18 : decode cX7_banned 18 = .ok (.istore_n 2, 1) := by decide +kernel
theorem dX7_banned_19 : decode cX7_banned 19 = .ok (.iconst 0, 1) := by decide +kernel
theorem dX7_banned_20 : decode cX7_banned 20 = .ok (.istore_n 3, 1) := by decide +kernel
theorem dX7_banned_21 : decode cX7_banned 21 = .ok (.iload_n 3, 1) := by decide +kernel
theorem dX7_banned_22 : decode cX7_banned 22 = .ok (.aload_n 0, 1) := by decide +kernel
theorem dX7_banned_23 : decode cX7_banned 23 = .ok (.getfield 19, 3) := by decide +kernel
theorem dX7_banned_26 : decode cX7_banned 26 = .ok (.getfield 159, 3) := by decide +kernel
theorem dX7_banned_29 : decode cX7_banned 29 = .ok (.if_icmp .ge 30, 3) := by decide +kernel
theorem dX7_banned_32 : decode cX7_banned 32 = .ok (.aload_n 0, 1) := by decide +kernel
theorem dX7_banned_33 : decode cX7_banned 33 = .ok (.iload_n 3, 1) := by decide +kernel
theorem dX7_banned_34 : decode cX7_banned 34 = .ok (.invokevirtual 241, 3) := by decide +kernel
theorem dX7_banned_37 : decode cX7_banned 37 = .ok (.ifCond .ne 6, 3) := by decide +kernel
theorem dX7_banned_40 : decode cX7_banned 40 = .ok (.goto 13, 3) := by decide +kernel
theorem dX7_banned_43 : decode cX7_banned 43 = .ok (.iload_n 2, 1) := by decide +kernel
theorem dX7_banned_44 : decode cX7_banned 44 = .ok (.iload_n 1, 1) := by decide +kernel
theorem dX7_banned_45 : decode cX7_banned 45 = .ok (.if_icmp .ne 5, 3) := by decide +kernel
theorem dX7_banned_48 : decode cX7_banned 48 = .ok (.iload_n 3, 1) := by decide +kernel
theorem dX7_banned_49 : decode cX7_banned 49 = .ok (.ireturn, 1) := by decide +kernel
theorem dX7_banned_50 : decode cX7_banned 50 = .ok (.iinc 2 1, 3) := by decide +kernel
theorem dX7_banned_53 : decode cX7_banned 53 = .ok (.iinc 3 1, 3) := by decide +kernel
theorem dX7_banned_56 : decode cX7_banned 56 = .ok (.goto (-35), 3) := by decide +kernel
theorem dX7_banned_59 : decode cX7_banned 59 = .ok (.iload_n 1, 1) := by decide +kernel
theorem dX7_banned_60 : decode cX7_banned 60 = .ok (.iconst (-1), 1) := by decide +kernel
theorem dX7_banned_61 : decode cX7_banned 61 = .ok (.if_icmp .ne 7, 3) := by decide +kernel
theorem dX7_banned_64 : decode cX7_banned 64 = .ok (.iload_n 2, 1) := by decide +kernel
theorem dX7_banned_65 : decode cX7_banned 65 = .ok (.goto 5, 3) := by decide +kernel
theorem dX7_banned_68 : decode cX7_banned 68 = .ok (.bipush (-4), 2) := by decide +kernel
theorem dX7_banned_70 : decode cX7_banned 70 = .ok (.ireturn, 1) := by decide +kernel
theorem dX7_truth_0 : decode cX7_truth 0 = .ok (.iload_n 1, 1) := by decide +kernel
theorem dX7_truth_1 : decode cX7_truth 1 = .ok (.invokestatic 127, 3) := by decide +kernel
theorem dX7_truth_4 : decode cX7_truth 4 = .ok (.ifCond .eq 15, 3) := by decide +kernel
theorem dX7_truth_7 : decode cX7_truth 7 = .ok (.iload_n 2, 1) := by decide +kernel
theorem dX7_truth_8 : decode cX7_truth 8 = .ok (.iconst (-1), 1) := by decide +kernel
theorem dX7_truth_9 : decode cX7_truth 9 = .ok (.if_icmp .lt 10, 3) := by decide +kernel
theorem dX7_truth_12 : decode cX7_truth 12 = .ok (.iload_n 2, 1) := by decide +kernel
theorem dX7_truth_13 : decode cX7_truth 13 = .ok (.sipush 9999, 3) := by decide +kernel
theorem dX7_truth_16 : decode cX7_truth 16 = .ok (.if_icmp .le 6, 3) := by decide +kernel
theorem dX7_truth_19 : decode cX7_truth 19 = .ok (.bipush (-100), 2) := by decide +kernel
theorem dX7_truth_21 : decode cX7_truth 21 = .ok (.ireturn, 1) := by decide +kernel
theorem dX7_truth_22 : decode cX7_truth 22 = .ok (.aload_n 0, 1) := by decide +kernel
theorem dX7_truth_23 : decode cX7_truth 23 = .ok (.getfield 19, 3) := by decide +kernel
theorem dX7_truth_26 : decode cX7_truth 26 = .ok (.getfield 244, 3) := by decide +kernel
theorem dX7_truth_29 : decode cX7_truth 29 = .ok (.iload_n 1, 1) := by decide +kernel
theorem dX7_truth_30 : decode cX7_truth 30 = .ok (.iaload, 1) := by decide +kernel
theorem dX7_truth_31 : decode cX7_truth 31 = .ok (.istore_n 3, 1) := by decide +kernel
theorem dX7_truth_32 : decode cX7_truth 32 = .ok (.aload_n 0, 1) := by decide +kernel
theorem dX7_truth_33 : decode cX7_truth 33 = .ok (.getfield 19, 3) := by decide +kernel
theorem dX7_truth_36 : decode cX7_truth 36 = .ok (.getfield 244, 3) := by decide +kernel
theorem dX7_truth_39 : decode cX7_truth 39 = .ok (.iload_n 1, 1) := by decide +kernel
theorem dX7_truth_40 : decode cX7_truth 40 = .ok (.iload_n 2, 1) := by decide +kernel
theorem dX7_truth_41 : decode cX7_truth 41 = .ok (.iastore, 1) := by decide +kernel
theorem dX7_truth_42 : decode cX7_truth 42 = .ok (.iload_n 3, 1) := by decide +kernel
theorem dX7_truth_43 : decode cX7_truth 43 = .ok (.ireturn, 1) := by decide +kernel
theorem dX7_right_0 : decode cX7_right 0 = .ok (.iload_n 1, 1) := by decide +kernel
theorem dX7_right_1 : decode cX7_right 1 = .ok (.invokestatic 101, 3) := by decide +kernel
theorem dX7_right_4 : decode cX7_right 4 = .ok (.ifCond .eq 12, 3) := by decide +kernel
theorem dX7_right_7 : decode cX7_right 7 = .ok (.iload_n 2, 1) := by decide +kernel
theorem dX7_right_8 : decode cX7_right 8 = .ok (.ifCond .lt 8, 3) := by decide +kernel
theorem dX7_right_11 : decode cX7_right 11 = .ok (.iload_n 2, 1) := by decide +kernel
theorem dX7_right_12 : decode cX7_right 12 = .ok (.iconst 2, 1) := by decide +kernel
theorem dX7_right_13 : decode cX7_right 13 = .ok (.if_icmp .le 5, 3) := by decide +kernel
theorem dX7_right_16 : decode cX7_right 16 = .ok (.iconst (-1), 1) := by decide +kernel
theorem dX7_right_17 : decode cX7_right 17 = .ok (.ireturn, 1) := by decide +kernel
theorem dX7_right_18 : decode cX7_right 18 = .ok (.aload_n 0, 1) := by decide +kernel
theorem dX7_right_19 : decode cX7_right 19 = .ok (.invokevirtual 145, 3) := by decide +kernel
theorem dX7_right_22 : decode cX7_right 22 = .ok (.ifCond .eq 6, 3) := by decide +kernel
theorem dX7_right_25 : decode cX7_right 25 = .ok (.bipush (-2), 2) := by decide +kernel
theorem dX7_right_27 : decode cX7_right 27 = .ok (.ireturn, 1) := by decide +kernel
theorem dX7_right_28 : decode cX7_right 28 = .ok (.iconst 0, 1) := by decide +kernel
theorem dX7_right_29 : decode cX7_right 29 = .ok (.istore_n 3, 1) := by decide +kernel
theorem dX7_right_30 : decode cX7_right 30 = .ok (.iconst 0, 1) := by decide +kernel
theorem dX7_right_31 : decode cX7_right 31 = .ok (.istore 4, 2) := by decide +kernel
theorem dX7_right_33 : decode cX7_right 33 = .ok (.iload 4, 2) := by decide +kernel
theorem dX7_right_35 : decode cX7_right 35 = .ok (.aload_n 0, 1) := by decide +kernel
theorem dX7_right_36 : decode cX7_right 36 = .ok (.getfield 19, 3) := by decide +kernel
theorem dX7_right_39 : decode cX7_right 39 = .ok (.getfield 159, 3) := by decide +kernel
theorem dX7_right_42 : decode cX7_right 42 = .ok (.if_icmp .ge 41, 3) := by decide +kernel
theorem dX7_right_45 : decode cX7_right 45 = .ok (.aload_n 0, 1) := by decide +kernel
theorem dX7_right_46 : decode cX7_right 46 = .ok (.getfield 19, 3) := by decide +kernel
theorem dX7_right_49 : decode cX7_right 49 = .ok (.iload 4, 2) := by decide +kernel
theorem dX7_right_51 : decode cX7_right 51 = .ok (.invokevirtual 205, 3) := by decide +kernel
theorem dX7_right_54 : decode cX7_right 54 = .ok (.iload_n 1, 1) := by decide +kernel
theorem dX7_right_55 : decode cX7_right 55 = .ok (.if_icmp .ne 22, 3) := by decide +kernel
theorem dX7_right_58 : decode cX7_right 58 = .ok (.aload_n 0, 1) := by decide +kernel
theorem dX7_right_59 : decode cX7_right 59 = .ok (.iload 4, 2) := by decide +kernel
theorem dX7_right_61 : decode cX7_right 61 = .ok (.invokevirtual 247, 3) := by decide +kernel
theorem dX7_right_64 : decode cX7_right 64 = .ok (.ifCond .eq 13, 3) := by decide +kernel
theorem dX7_right_67 : decode cX7_right 67 = .ok (.iload_n 3, 1) := by decide +kernel
theorem dX7_right_68 : decode cX7_right 68 = .ok (.aload_n 0, 1) := by decide +kernel
theorem dX7_right_69 : decode cX7_right 69 = .ok (.iload 4, 2) := by decide +kernel
theorem dX7_right_71 : decode cX7_right 71 = .ok (.iload_n 2, 1) := by decide +kernel
theorem dX7_right_72 : decode cX7_right 72 = .ok (.invokevirtual 250, 3) := by decide +kernel
theorem dX7_right_75 : decode cX7_right 75 = .ok (.iadd, 1) := by decide +kernel
theorem dX7_right_76 : decode cX7_right 76 = .ok (.istore_n 3, 1) := by decide +kernel
theorem dX7_right_77 : decode cX7_right 77 = .ok (.iinc 4 1, 3) := by decide +kernel
theorem dX7_right_80 : decode cX7_right 80 = .ok (.goto (-47), 3) := by decide +kernel
theorem dX7_right_83 : decode cX7_right 83 = .ok (.iload_n 3, 1) := by decide +kernel
theorem dX7_right_84 : decode cX7_right 84 = .ok (.ireturn, 1) := by decide +kernel
theorem dX7_beyond_0 : decode cX7_beyond 0 = .ok (.iload_n 1, 1) := by decide +kernel
theorem dX7_beyond_1 : decode cX7_beyond 1 = .ok (.iconst 1, 1) := by decide +kernel
theorem dX7_beyond_2 : decode cX7_beyond 2 = .ok (.if_icmp .lt 29, 3) := by decide +kernel
theorem dX7_beyond_5 : decode cX7_beyond 5 = .ok (.iload_n 1, 1) := by decide +kernel
theorem dX7_beyond_6 : decode cX7_beyond 6 = .ok (.bipush 15, 2) := by decide +kernel
theorem dX7_beyond_8 : decode cX7_beyond 8 = .ok (.if_icmp .gt 23, 3) := by decide +kernel
theorem dX7_beyond_11 : decode cX7_beyond 11 = .ok (.iload_n 3, 1) := by decide +kernel
theorem dX7_beyond_12 : decode cX7_beyond 12 = .ok (.iconst 2, 1) := by decide +kernel
theorem dX7_beyond_13 : decode cX7_beyond 13 = .ok (.if_icmp .lt 18, 3) := by decide +kernel
theorem dX7_beyond_16 : decode cX7_beyond 16 = .ok (.iload_n 3, 1) := by decide +kernel
theorem dX7_beyond_17 : decode cX7_beyond 17 = .ok (.bipush 10, 2) := by decide +kernel
theorem dX7_beyond_19 : decode cX7_beyond 19 = .ok (.if_icmp .gt 12, 3) := by decide +kernel
theorem dX7_beyond_22 : decode cX7_beyond 22 = .ok (.iload_n 2, 1) := by decide +kernel
theorem dX7_beyond_23 : decode cX7_beyond 23 = .ok (.ifCond .lt 8, 3) := by decide +kernel
theorem dX7_beyond_26 : decode cX7_beyond 26 = .ok (.iload_n 2, 1) := by decide +kernel
theorem dX7_beyond_27 : decode cX7_beyond 27 = .ok (.iload_n 1, 1) := by decide +kernel
theorem dX7_beyond_28 : decode cX7_beyond 28 = .ok (.if_icmp .le 7, 3) := by decide +kernel
theorem dX7_beyond_31 : decode cX7_beyond 31 = .ok (.ldc2_w 253, 3) := by decide +kernel
theorem dX7_beyond_34 : decode cX7_beyond 34 = .ok (.lreturn, 1) := by decide +kernel
theorem dX7_beyond_35 : decode cX7_beyond 35 = .ok (.lconst 0, 1) := by decide +kernel
theorem dX7_beyond_36 : decode cX7_beyond 36 = .ok (.lstore 4, 2) := by decide +kernel
theorem dX7_beyond_38 : decode cX7_beyond 38 = .ok (.iload_n 2, 1) := by decide +kernel
theorem dX7_beyond_39 : decode cX7_beyond 39 = .ok (.istore 6, 2) := by decide +kernel
theorem dX7_beyond_41 : decode cX7_beyond 41 = .ok (.iload 6, 2) := by decide +kernel
theorem dX7_beyond_43 : decode cX7_beyond 43 = .ok (.iload_n 1, 1) := by decide +kernel
theorem dX7_beyond_44 : decode cX7_beyond 44 = .ok (.if_icmp .gt 31, 3) := by decide +kernel
theorem dX7_beyond_47 : decode cX7_beyond 47 = .ok (.lload 4, 2) := by decide +kernel
theorem dX7_beyond_49 : decode cX7_beyond 49 = .ok (.iload_n 1, 1) := by decide +kernel
theorem dX7_beyond_50 : decode cX7_beyond 50 = .ok (.iload 6, 2) := by decide +kernel
theorem dX7_beyond_52 : decode cX7_beyond 52 = .ok (.invokestatic 255, 3) := by decide +kernel
theorem dX7_beyond_55 : decode cX7_beyond 55 = .ok (.iload_n 3, 1) := by decide +kernel
theorem dX7_beyond_56 : decode cX7_beyond 56 = .ok (.iconst 1, 1) := by decide +kernel
theorem dX7_beyond_57 : decode cX7_beyond 57 = .ok (.isub, 1) := by decide +kernel
theorem dX7_beyond_58 : decode cX7_beyond 58 = .ok (.iload_n 1, 1) := by decide +kernel
theorem dX7_beyond_59 : decode cX7_beyond 59 = .ok (.iload 6, 2) := by decide +kernel
theorem dX7_beyond_61 : decode cX7_beyond 61 = .ok (.isub, 1) := by decide +kernel
theorem dX7_beyond_62 : decode cX7_beyond 62 = .ok (.invokestatic 259, 3) := by decide +kernel
theorem dX7_beyond_65 : decode cX7_beyond 65 = .ok (.lmul, 1) := by decide +kernel
theorem dX7_beyond_66 : decode cX7_beyond 66 = .ok (.ladd, 1) := by decide +kernel
theorem dX7_beyond_67 : decode cX7_beyond 67 = .ok (.lstore 4, 2) := by decide +kernel
theorem dX7_beyond_69 : decode cX7_beyond 69 = .ok (.iinc 6 1, 3) := by decide +kernel
theorem dX7_beyond_72 : decode cX7_beyond 72 = .ok (.goto (-31), 3) := by decide +kernel
theorem dX7_beyond_75 : decode cX7_beyond 75 = .ok (.lload 4, 2) := by decide +kernel
theorem dX7_beyond_77 : decode cX7_beyond 77 = .ok (.lreturn, 1) := by decide +kernel
theorem dX7_known_0 : decode cX7_known 0 = .ok (.iload_n 1, 1) := by decide +kernel
theorem dX7_known_1 : decode cX7_known 1 = .ok (.invokestatic 127, 3) := by decide +kernel
theorem dX7_known_4 : decode cX7_known 4 = .ok (.ifCond .eq 19, 3) := by decide +kernel
theorem dX7_known_7 : decode cX7_known 7 = .ok (.iload_n 2, 1) := by decide +kernel
theorem dX7_known_8 : decode cX7_known 8 = .ok (.invokestatic 79, 3) := by decide +kernel
theorem dX7_known_11 : decode cX7_known 11 = .ok (.ifCond .eq 12, 3) := by decide +kernel
theorem dX7_known_14 : decode cX7_known 14 = .ok (.iload_n 3, 1) := by decide +kernel
theorem dX7_known_15 : decode cX7_known 15 = .ok (.ifCond .lt 8, 3) := by decide +kernel
theorem dX7_known_18 : decode cX7_known 18 = .ok (.iload_n 3, 1) := by decide +kernel
theorem dX7_known_19 : decode cX7_known 19 = .ok (.iconst 1, 1) := by decide +kernel
theorem dX7_known_20 : decode cX7_known 20 = .ok (.if_icmp .le 5, 3) := by decide +kernel
theorem dX7_known_23 : decode cX7_known 23 = .ok (.iconst (-1), 1) := by decide +kernel
theorem dX7_known_24 : decode cX7_known 24 = .ok (.ireturn, 1) := by decide +kernel
theorem dX7_known_25 : decode cX7_known 25 = .ok (.aload_n 0, 1) := by decide +kernel
theorem dX7_known_26 : decode cX7_known 26 = .ok (.getfield 19, 3) := by decide +kernel
theorem dX7_known_29 : decode cX7_known 29 = .ok (.iload_n 1, 1) := by decide +kernel
theorem dX7_known_30 : decode cX7_known 30 = .ok (.invokevirtual 133, 3) := by decide +kernel
theorem dX7_known_33 : decode cX7_known 33 = .ok (.ifCond .ne 6, 3) := by decide +kernel
theorem dX7_known_36 : decode cX7_known 36 = .ok (.bipush (-2), 2) := by decide +kernel
theorem dX7_known_38 : decode cX7_known 38 = .ok (.ireturn, 1) := by decide +kernel
theorem dX7_known_39 : decode cX7_known 39 = .ok (.aload_n 0, 1) := by decide +kernel
theorem dX7_known_40 : decode cX7_known 40 = .ok (.iload_n 1, 1) := by decide +kernel
theorem dX7_known_41 : decode cX7_known 41 = .ok (.iload_n 2, 1) := by decide +kernel
theorem dX7_known_42 : decode cX7_known 42 = .ok (.invokevirtual 262, 3) := by decide +kernel
theorem dX7_known_45 : decode cX7_known 45 = .ok (.istore 4, 2) := by decide +kernel
theorem dX7_known_47 : decode cX7_known 47 = .ok (.iload_n 3, 1) := by decide +kernel
theorem dX7_known_48 : decode cX7_known 48 = .ok (.ifCond .eq 10, 3) := by decide +kernel
theorem dX7_known_51 : decode cX7_known 51 = .ok (.iload 4, 2) := by decide +kernel
theorem dX7_known_53 : decode cX7_known 53 = .ok (.bipush (-4), 2) := by decide +kernel
theorem dX7_known_55 : decode cX7_known 55 = .ok (.if_icmp .ne 6, 3) := by decide +kernel
theorem dX7_known_58 : decode cX7_known 58 = .ok (.iload 4, 2) := by decide +kernel
theorem dX7_known_60 : decode cX7_known 60 = .ok (.ireturn, 1) := by decide +kernel
theorem dX7_known_61 : decode cX7_known 61 = .ok (.aload_n 0, 1) := by decide +kernel
theorem dX7_known_62 : decode cX7_known 62 = .ok (.iload_n 1, 1) := by decide +kernel
theorem dX7_known_63 : decode cX7_known 63 = .ok (.iload 4, 2) := by decide +kernel
theorem dX7_known_65 : decode cX7_known 65 = .ok (.invokevirtual 265, 3) := by decide +kernel
theorem dX7_known_68 : decode cX7_known 68 = .ok (.ireturn, 1) := by decide +kernel
theorem dX7_worth_0 : decode cX7_worth 0 = .ok (.iload_n 1, 1) := by decide +kernel
theorem dX7_worth_1 : decode cX7_worth 1 = .ok (.ifCond .lt 18, 3) := by decide +kernel
theorem dX7_worth_4 : decode cX7_worth 4 = .ok (.iload_n 1, 1) := by decide +kernel
theorem dX7_worth_5 : decode cX7_worth 5 = .ok (.bipush 6, 2) := by decide +kernel
theorem dX7_worth_7 : decode cX7_worth 7 = .ok (.if_icmp .ge 12, 3) := by decide +kernel
theorem dX7_worth_10 : decode cX7_worth 10 = .ok (.iload_n 2, 1) := by decide +kernel
end
section
theorem dX7_worth_11 : decode cX7_worth 11 = .ok (.ifCond .lt 8, 3) := by decide +kernel
theorem dX7_worth_14 : decode cX7_worth 14 = .ok (.iload_n 2, 1) := by decide +kernel
theorem dX7_worth_15 : decode cX7_worth 15 = .ok (.iconst 4, 1) := by decide +kernel
theorem dX7_worth_16 : decode cX7_worth 16 = .ok (.if_icmp .lt 7, 3) := by decide +kernel
theorem dX7_worth_19 : decode cX7_worth 19 = .ok (.sipush (-10000), 3) := by decide +kernel
theorem dX7_worth_22 : decode cX7_worth 22 = .ok (.ireturn, 1) := by decide +kernel
theorem dX7_worth_23 : decode cX7_worth 23 = .ok (.iload_n 3, 1) := by decide +kernel
theorem dX7_worth_24 : decode cX7_worth 24 = .ok (.sipush (-1000), 3) := by decide +kernel
theorem dX7_worth_27 : decode cX7_worth 27 = .ok (.if_icmp .lt 10, 3) := by decide +kernel
theorem dX7_worth_30 : decode cX7_worth 30 = .ok (.iload_n 3, 1) := by decide +kernel
theorem dX7_worth_31 : decode cX7_worth 31 = .ok (.sipush 1000, 3) := by decide +kernel
theorem dX7_worth_34 : decode cX7_worth 34 = .ok (.if_icmp .le 7, 3) := by decide +kernel
theorem dX7_worth_37 : decode cX7_worth 37 = .ok (.sipush (-10000), 3) := by decide +kernel
theorem dX7_worth_40 : decode cX7_worth 40 = .ok (.ireturn, 1) := by decide +kernel
theorem dX7_worth_41 : decode cX7_worth 41 = .ok (.aload_n 0, 1) := by decide +kernel
theorem dX7_worth_42 : decode cX7_worth 42 = .ok (.getfield 51, 3) := by decide +kernel
theorem dX7_worth_45 : decode cX7_worth 45 = .ok (.iload_n 1, 1) := by decide +kernel
theorem dX7_worth_46 : decode cX7_worth 46 = .ok (.iload_n 2, 1) := by decide +kernel
theorem dX7_worth_47 : decode cX7_worth 47 = .ok (.iload_n 3, 1) := by decide +kernel
theorem dX7_worth_48 : decode cX7_worth 48 = .ok (.invokevirtual 268, 3) := by decide +kernel
theorem dX7_worth_51 : decode cX7_worth 51 = .ok (.ireturn, 1) := by decide +kernel
theorem dX7_buy_0 : decode cX7_buy 0 = .ok (.iload_n 1, 1) := by decide +kernel
theorem dX7_buy_1 : decode cX7_buy 1 = .ok (.iconst 1, 1) := by decide +kernel
theorem dX7_buy_2 : decode cX7_buy 2 = .ok (.if_icmp .lt 29, 3) := by decide +kernel
theorem dX7_buy_5 : decode cX7_buy 5 = .ok (.iload_n 1, 1) := by decide +kernel
theorem dX7_buy_6 : decode cX7_buy 6 = .ok (.bipush 6, 2) := by decide +kernel
theorem dX7_buy_8 : decode cX7_buy 8 = .ok (.if_icmp .gt 23, 3) := by decide +kernel
theorem dX7_buy_11 : decode cX7_buy 11 = .ok (.iload_n 2, 1) := by decide +kernel
theorem dX7_buy_12 : decode cX7_buy 12 = .ok (.iconst 1, 1) := by decide +kernel
theorem dX7_buy_13 : decode cX7_buy 13 = .ok (.if_icmp .lt 18, 3) := by decide +kernel
theorem dX7_buy_16 : decode cX7_buy 16 = .ok (.iload_n 2, 1) := by decide +kernel
theorem dX7_buy_17 : decode cX7_buy 17 = .ok (.bipush 16, 2) := by decide +kernel
theorem dX7_buy_19 : decode cX7_buy 19 = .ok (.if_icmp .ge 12, 3) := by decide +kernel
theorem dX7_buy_22 : decode cX7_buy 22 = .ok (.iload_n 3, 1) := by decide +kernel
theorem dX7_buy_23 : decode cX7_buy 23 = .ok (.ifCond .lt 8, 3) := by decide +kernel
theorem dX7_buy_26 : decode cX7_buy 26 = .ok (.iload_n 3, 1) := by decide +kernel
theorem dX7_buy_27 : decode cX7_buy 27 = .ok (.iconst 3, 1) := by decide +kernel
theorem dX7_buy_28 : decode cX7_buy 28 = .ok (.if_icmp .le 7, 3) := by decide +kernel
theorem dX7_buy_31 : decode cX7_buy 31 = .ok (.sipush (-10000), 3) := by decide +kernel
theorem dX7_buy_34 : decode cX7_buy 34 = .ok (.ireturn, 1) := by decide +kernel
theorem dX7_buy_35 : decode cX7_buy 35 = .ok (.iload_n 3, 1) := by decide +kernel
theorem dX7_buy_36 : decode cX7_buy 36 = .ok (.iconst 2, 1) := by decide +kernel
theorem dX7_buy_37 : decode cX7_buy 37 = .ok (.if_icmp .ge 34, 3) := by decide +kernel
theorem dX7_buy_40 : decode cX7_buy 40 = .ok (.aload_n 0, 1) := by decide +kernel
theorem dX7_buy_41 : decode cX7_buy 41 = .ok (.getfield 51, 3) := by decide +kernel
theorem dX7_buy_44 : decode cX7_buy 44 = .ok (.iload_n 1, 1) := by decide +kernel
theorem dX7_buy_45 : decode cX7_buy 45 = .ok (.iload_n 2, 1) := by decide +kernel
theorem dX7_buy_46 : decode cX7_buy 46 = .ok (.invokevirtual 271, 3) := by decide +kernel
theorem dX7_buy_49 : decode cX7_buy 49 = .ok (.istore 4, 2) := by decide +kernel
theorem dX7_buy_51 : decode cX7_buy 51 = .ok (.iload_n 3, 1) := by decide +kernel
theorem dX7_buy_52 : decode cX7_buy 52 = .ok (.ifCond .ne 8, 3) := by decide +kernel
theorem dX7_buy_55 : decode cX7_buy 55 = .ok (.iload 4, 2) := by decide +kernel
theorem dX7_buy_57 : decode cX7_buy 57 = .ok (.goto 13, 3) := by decide +kernel
theorem dX7_buy_60 : decode cX7_buy 60 = .ok (.aload_n 0, 1) := by decide +kernel
theorem dX7_buy_61 : decode cX7_buy 61 = .ok (.getfield 51, 3) := by decide +kernel
theorem dX7_buy_64 : decode cX7_buy 64 = .ok (.iload 4, 2) := by decide +kernel
theorem dX7_buy_66 : decode cX7_buy 66 = .ok (.iload_n 2, 1) := by decide +kernel
theorem dX7_buy_67 : decode cX7_buy 67 = .ok (.invokevirtual 274, 3) := by decide +kernel
theorem dX7_buy_70 : decode cX7_buy 70 = .ok (.ireturn, 1) := by decide +kernel
theorem dX7_buy_71 : decode cX7_buy 71 = .ok (.aload_n 0, 1) := by decide +kernel
theorem dX7_buy_72 : decode cX7_buy 72 = .ok (.getfield 51, 3) := by decide +kernel
theorem dX7_buy_75 : decode cX7_buy 75 = .ok (.iload_n 1, 1) := by decide +kernel
theorem dX7_buy_76 : decode cX7_buy 76 = .ok (.iload_n 2, 1) := by decide +kernel
theorem dX7_buy_77 : decode cX7_buy 77 = .ok (.invokevirtual 277, 3) := by decide +kernel
theorem dX7_buy_80 : decode cX7_buy 80 = .ok (.istore 4, 2) := by decide +kernel
theorem dX7_buy_82 : decode cX7_buy 82 = .ok (.iload_n 3, 1) := by decide +kernel
theorem dX7_buy_83 : decode cX7_buy 83 = .ok (.iconst 2, 1) := by decide +kernel
theorem dX7_buy_84 : decode cX7_buy 84 = .ok (.if_icmp .ne 8, 3) := by decide +kernel
theorem dX7_buy_87 : decode cX7_buy 87 = .ok (.iload 4, 2) := by decide +kernel
theorem dX7_buy_89 : decode cX7_buy 89 = .ok (.goto 14, 3) := by decide +kernel
theorem dX7_buy_92 : decode cX7_buy 92 = .ok (.aload_n 0, 1) := by decide +kernel
theorem dX7_buy_93 : decode cX7_buy 93 = .ok (.getfield 51, 3) := by decide +kernel
theorem dX7_buy_96 : decode cX7_buy 96 = .ok (.iload 4, 2) := by decide +kernel
theorem dX7_buy_98 : decode cX7_buy 98 = .ok (.iload_n 1, 1) := by decide +kernel
theorem dX7_buy_99 : decode cX7_buy 99 = .ok (.iload_n 2, 1) := by decide +kernel
theorem dX7_buy_100 : decode cX7_buy 100 = .ok (.invokevirtual 280, 3) := by decide +kernel
theorem dX7_buy_103 : decode cX7_buy 103 = .ok (.ireturn, 1) := by decide +kernel
theorem dX7_keep_0 : decode cX7_keep 0 = .ok (.aload_n 0, 1) := by decide +kernel
theorem dX7_keep_1 : decode cX7_keep 1 = .ok (.getfield 65, 3) := by decide +kernel
theorem dX7_keep_4 : decode cX7_keep 4 = .ok (.iconst 2, 1) := by decide +kernel
theorem dX7_keep_5 : decode cX7_keep 5 = .ok (.if_icmp .lt 6, 3) := by decide +kernel
theorem dX7_keep_8 : decode cX7_keep 8 = .ok (.bipush (-3), 2) := by decide +kernel
theorem dX7_keep_10 : decode cX7_keep 10 = .ok (.ireturn, 1) := by decide +kernel
theorem dX7_keep_11 : decode cX7_keep 11 = .ok (.aload_n 0, 1) := by decide +kernel
theorem dX7_keep_12 : decode cX7_keep 12 = .ok (.getfield 23, 3) := by decide +kernel
theorem dX7_keep_15 : decode cX7_keep 15 = .ok (.aload_n 0, 1) := by decide +kernel
theorem dX7_keep_16 : decode cX7_keep 16 = .ok (.getfield 65, 3) := by decide +kernel
theorem dX7_keep_19 : decode cX7_keep 19 = .ok (.aaload, 1) := by decide +kernel
theorem dX7_keep_20 : decode cX7_keep 20 = .ok (.aload_n 0, 1) := by decide +kernel
theorem dX7_keep_21 : decode cX7_keep 21 = .ok (.getfield 19, 3) := by decide +kernel
theorem dX7_keep_24 : decode cX7_keep 24 = .ok (.invokevirtual 283, 3) := by decide +kernel
theorem dX7_keep_27 : decode cX7_keep 27 = .ok (.aload_n 0, 1) := by decide +kernel
theorem dX7_keep_28 : decode cX7_keep 28 = .ok (.dup, 1) := by decide +kernel
theorem dX7_keep_29 : decode cX7_keep 29 = .ok (.getfield 65, 3) := by decide +kernel
theorem dX7_keep_32 : decode cX7_keep 32 = .ok (.iconst 1, 1) := by decide +kernel
theorem dX7_keep_33 : decode cX7_keep 33 = .ok (.iadd, 1) := by decide +kernel
theorem dX7_keep_34 : decode cX7_keep 34 = .ok (.putfield 65, 3) := by decide +kernel
theorem dX7_keep_37 : decode cX7_keep 37 = .ok (.aload_n 0, 1) := by decide +kernel
theorem dX7_keep_38 : decode cX7_keep 38 = .ok (.getfield 65, 3) := by decide +kernel
theorem dX7_keep_41 : decode cX7_keep 41 = .ok (.ireturn, 1) := by decide +kernel
theorem dX7_back_0 : decode cX7_back 0 = .ok (.aload_n 0, 1) := by decide +kernel
theorem dX7_back_1 : decode cX7_back 1 = .ok (.getfield 65, 3) := by decide +kernel
theorem dX7_back_4 : decode cX7_back 4 = .ok (.iconst 1, 1) := by decide +kernel
theorem dX7_back_5 : decode cX7_back 5 = .ok (.if_icmp .ge 6, 3) := by decide +kernel
theorem dX7_back_8 : decode cX7_back 8 = .ok (.bipush (-2), 2) := by decide +kernel
theorem dX7_back_10 : decode cX7_back 10 = .ok (.ireturn, 1) := by decide +kernel
theorem dX7_back_11 : decode cX7_back 11 = .ok (.aload_n 0, 1) := by decide +kernel
theorem dX7_back_12 : decode cX7_back 12 = .ok (.dup, 1) := by decide +kernel
theorem dX7_back_13 : decode cX7_back 13 = .ok (.getfield 65, 3) := by decide +kernel
theorem dX7_back_16 : decode cX7_back 16 = .ok (.iconst 1, 1) := by decide +kernel
theorem dX7_back_17 : decode cX7_back 17 = .ok (.isub, 1) := by decide +kernel
theorem dX7_back_18 : decode cX7_back 18 = .ok (.putfield 65, 3) := by decide +kernel
theorem dX7_back_21 : decode cX7_back 21 = .ok (.aload_n 0, 1) := by decide +kernel
theorem dX7_back_22 : decode cX7_back 22 = .ok (.getfield 19, 3) := by decide +kernel
theorem dX7_back_25 : decode cX7_back 25 = .ok (.aload_n 0, 1) := by decide +kernel
theorem dX7_back_26 : decode cX7_back 26 = .ok (.getfield 23, 3) := by decide +kernel
theorem dX7_back_29 : decode cX7_back 29 = .ok (.aload_n 0, 1) := by decide +kernel
theorem dX7_back_30 : decode cX7_back 30 = .ok (.getfield 65, 3) := by decide +kernel
theorem dX7_back_33 : decode cX7_back 33 = .ok (.aaload, 1) := by decide +kernel
theorem dX7_back_34 : decode cX7_back 34 = .ok (.invokevirtual 283, 3) := by decide +kernel
theorem dX7_back_37 : decode cX7_back 37 = .ok (.aload_n 0, 1) := by decide +kernel
theorem dX7_back_38 : decode cX7_back 38 = .ok (.iconst 0, 1) := by decide +kernel
theorem dX7_back_39 : decode cX7_back 39 = .ok (.putfield 75, 3) := by decide +kernel
theorem dX7_back_42 : decode cX7_back 42 = .ok (.aload_n 0, 1) := by decide +kernel
theorem dX7_back_43 : decode cX7_back 43 = .ok (.getfield 65, 3) := by decide +kernel
theorem dX7_back_46 : decode cX7_back 46 = .ok (.ireturn, 1) := by decide +kernel
theorem dX7_count_0 : decode cX7_count 0 = .ok (.iload_n 1, 1) := by decide +kernel
theorem dX7_count_1 : decode cX7_count 1 = .ok (.tableswitch 126 0 8 #[51, 59, 67, 78, 86, 97, 105, 113, 118], 51) := by decide +kernel
theorem dX7_count_52 : decode cX7_count 52 = .ok (.aload_n 0, 1) := by decide +kernel
theorem dX7_count_53 : decode cX7_count 53 = .ok (.getfield 19, 3) := by decide +kernel
theorem dX7_count_56 : decode cX7_count 56 = .ok (.getfield 83, 3) := by decide +kernel
theorem dX7_count_59 : decode cX7_count 59 = .ok (.ireturn, 1) := by decide +kernel
theorem dX7_count_60 : decode cX7_count 60 = .ok (.aload_n 0, 1) := by decide +kernel
theorem dX7_count_61 : decode cX7_count 61 = .ok (.getfield 19, 3) := by decide +kernel
theorem dX7_count_64 : decode cX7_count 64 = .ok (.getfield 121, 3) := by decide +kernel
theorem dX7_count_67 : decode cX7_count 67 = .ok (.ireturn, 1) := by decide +kernel
theorem dX7_count_68 : decode cX7_count 68 = .ok (.aload_n 0, 1) := by decide +kernel
theorem dX7_count_69 : decode cX7_count 69 = .ok (.getfield 19, 3) := by decide +kernel
theorem dX7_count_72 : decode cX7_count 72 = .ok (.getfield 142, 3) := by decide +kernel
theorem dX7_count_75 : decode cX7_count 75 = .ok (.invokestatic 287, 3) := by decide +kernel
theorem dX7_count_78 : decode cX7_count 78 = .ok (.ireturn, 1) := by decide +kernel
theorem dX7_count_79 : decode cX7_count 79 = .ok (.aload_n 0, 1) := by decide +kernel
theorem dX7_count_80 : decode cX7_count 80 = .ok (.getfield 19, 3) := by decide +kernel
theorem dX7_count_83 : decode cX7_count 83 = .ok (.getfield 159, 3) := by decide +kernel
theorem dX7_count_86 : decode cX7_count 86 = .ok (.ireturn, 1) := by decide +kernel
theorem dX7_count_87 : decode cX7_count 87 = .ok (.aload_n 0, 1) := by decide +kernel
theorem dX7_count_88 : decode cX7_count 88 = .ok (.getfield 19, 3) := by decide +kernel
theorem dX7_count_91 : decode cX7_count 91 = .ok (.getfield 244, 3) := by decide +kernel
theorem dX7_count_94 : decode cX7_count 94 = .ok (.invokestatic 287, 3) := by decide +kernel
theorem dX7_count_97 : decode cX7_count 97 = .ok (.ireturn, 1) := by decide +kernel
theorem dX7_count_98 : decode cX7_count 98 = .ok (.aload_n 0, 1) := by decide +kernel
theorem dX7_count_99 : decode cX7_count 99 = .ok (.getfield 44, 3) := by decide +kernel
theorem dX7_count_102 : decode cX7_count 102 = .ok (.getfield 208, 3) := by decide +kernel
theorem dX7_count_105 : decode cX7_count 105 = .ok (.ireturn, 1) := by decide +kernel
theorem dX7_count_106 : decode cX7_count 106 = .ok (.aload_n 0, 1) := by decide +kernel
theorem dX7_count_107 : decode cX7_count 107 = .ok (.getfield 58, 3) := by decide +kernel
theorem dX7_count_110 : decode cX7_count 110 = .ok (.getfield 219, 3) := by decide +kernel
theorem dX7_count_113 : decode cX7_count 113 = .ok (.ireturn, 1) := by decide +kernel
theorem dX7_count_114 : decode cX7_count 114 = .ok (.aload_n 0, 1) := by decide +kernel
theorem dX7_count_115 : decode cX7_count 115 = .ok (.getfield 65, 3) := by decide +kernel
theorem dX7_count_118 : decode cX7_count 118 = .ok (.ireturn, 1) := by decide +kernel
theorem dX7_count_119 : decode cX7_count 119 = .ok (.aload_n 0, 1) := by decide +kernel
theorem dX7_count_120 : decode cX7_count 120 = .ok (.getfield 10, 3) := by decide +kernel
theorem dX7_count_123 : decode cX7_count 123 = .ok (.getfield 291, 3) := by decide +kernel
theorem dX7_count_126 : decode cX7_count 126 = .ok (.ireturn, 1) := by decide +kernel
theorem dX7_count_127 : decode cX7_count 127 = .ok (.iconst (-1), 1) := by decide +kernel
theorem dX7_count_128 : decode cX7_count 128 = .ok (.ireturn, 1) := by decide +kernel
theorem dX7_isTown_0 : decode cX7_isTown 0 = .ok (.iload_n 0, 1) := by decide +kernel
theorem dX7_isTown_1 : decode cX7_isTown 1 = .ok (.ifCond .lt 13, 3) := by decide +kernel
theorem dX7_isTown_4 : decode cX7_isTown 4 = .ok (.iload_n 0, 1) := by decide +kernel
theorem dX7_isTown_5 : decode cX7_isTown 5 = .ok (.bipush 6, 2) := by decide +kernel
theorem dX7_isTown_7 : decode cX7_isTown 7 = .ok (.if_icmp .ge 7, 3) := by decide +kernel
theorem dX7_isTown_10 : decode cX7_isTown 10 = .ok (.iconst 1, 1) := by decide +kernel
theorem dX7_isTown_11 : decode cX7_isTown 11 = .ok (.goto 4, 3) := by decide +kernel
theorem dX7_isTown_14 : decode cX7_isTown 14 = .ok (.iconst 0, 1) := by decide +kernel
theorem dX7_isTown_15 : decode cX7_isTown 15 = .ok (.ireturn, 1) := by decide +kernel
theorem dX7_isWriter_0 : decode cX7_isWriter 0 = .ok (.iload_n 0, 1) := by decide +kernel
theorem dX7_isWriter_1 : decode cX7_isWriter 1 = .ok (.ifCond .lt 13, 3) := by decide +kernel
theorem dX7_isWriter_4 : decode cX7_isWriter 4 = .ok (.iload_n 0, 1) := by decide +kernel
theorem dX7_isWriter_5 : decode cX7_isWriter 5 = .ok (.bipush 8, 2) := by decide +kernel
theorem dX7_isWriter_7 : decode cX7_isWriter 7 = .ok (.if_icmp .ge 7, 3) := by decide +kernel
theorem dX7_isWriter_10 : decode cX7_isWriter 10 = .ok (.iconst 1, 1) := by decide +kernel
theorem dX7_isWriter_11 : decode cX7_isWriter 11 = .ok (.goto 4, 3) := by decide +kernel
theorem dX7_isWriter_14 : decode cX7_isWriter 14 = .ok (.iconst 0, 1) := by decide +kernel
theorem dX7_isWriter_15 : decode cX7_isWriter 15 = .ok (.ireturn, 1) := by decide +kernel
theorem dX7_isThing_0 : decode cX7_isThing 0 = .ok (.iload_n 0, 1) := by decide +kernel
theorem dX7_isThing_1 : decode cX7_isThing 1 = .ok (.ifCond .lt 13, 3) := by decide +kernel
theorem dX7_isThing_4 : decode cX7_isThing 4 = .ok (.iload_n 0, 1) := by decide +kernel
theorem dX7_isThing_5 : decode cX7_isThing 5 = .ok (.bipush 10, 2) := by decide +kernel
theorem dX7_isThing_7 : decode cX7_isThing 7 = .ok (.if_icmp .ge 7, 3) := by decide +kernel
theorem dX7_isThing_10 : decode cX7_isThing 10 = .ok (.iconst 1, 1) := by decide +kernel
theorem dX7_isThing_11 : decode cX7_isThing 11 = .ok (.goto 4, 3) := by decide +kernel
theorem dX7_isThing_14 : decode cX7_isThing 14 = .ok (.iconst 0, 1) := by decide +kernel
theorem dX7_isThing_15 : decode cX7_isThing 15 = .ok (.ireturn, 1) := by decide +kernel
theorem dX7_isDay_0 : decode cX7_isDay 0 = .ok (.iload_n 0, 1) := by decide +kernel
theorem dX7_isDay_1 : decode cX7_isDay 1 = .ok (.ifCond .lt 14, 3) := by decide +kernel
theorem dX7_isDay_4 : decode cX7_isDay 4 = .ok (.iload_n 0, 1) := by decide +kernel
theorem dX7_isDay_5 : decode cX7_isDay 5 = .ok (.sipush 999, 3) := by decide +kernel
theorem dX7_isDay_8 : decode cX7_isDay 8 = .ok (.if_icmp .gt 7, 3) := by decide +kernel
theorem dX7_isDay_11 : decode cX7_isDay 11 = .ok (.iconst 1, 1) := by decide +kernel
theorem dX7_isDay_12 : decode cX7_isDay 12 = .ok (.goto 4, 3) := by decide +kernel
theorem dX7_isDay_15 : decode cX7_isDay 15 = .ok (.iconst 0, 1) := by decide +kernel
theorem dX7_isDay_16 : decode cX7_isDay 16 = .ok (.ireturn, 1) := by decide +kernel
theorem dX7_isDayOrNone_0 : decode cX7_isDayOrNone 0 = .ok (.iload_n 0, 1) := by decide +kernel
theorem dX7_isDayOrNone_1 : decode cX7_isDayOrNone 1 = .ok (.iconst (-1), 1) := by decide +kernel
theorem dX7_isDayOrNone_2 : decode cX7_isDayOrNone 2 = .ok (.if_icmp .eq 10, 3) := by decide +kernel
theorem dX7_isDayOrNone_5 : decode cX7_isDayOrNone 5 = .ok (.iload_n 0, 1) := by decide +kernel
theorem dX7_isDayOrNone_6 : decode cX7_isDayOrNone 6 = .ok (.invokestatic 130, 3) := by decide +kernel
theorem dX7_isDayOrNone_9 : decode cX7_isDayOrNone 9 = .ok (.ifCond .eq 7, 3) := by decide +kernel
theorem dX7_isDayOrNone_12 : decode cX7_isDayOrNone 12 = .ok (.iconst 1, 1) := by decide +kernel
theorem dX7_isDayOrNone_13 : decode cX7_isDayOrNone 13 = .ok (.goto 4, 3) := by decide +kernel
theorem dX7_isDayOrNone_16 : decode cX7_isDayOrNone 16 = .ok (.iconst 0, 1) := by decide +kernel
theorem dX7_isDayOrNone_17 : decode cX7_isDayOrNone 17 = .ok (.ireturn, 1) := by decide +kernel
theorem dX7_isSheet_0 : decode cX7_isSheet 0 = .ok (.iload_n 1, 1) := by decide +kernel
theorem dX7_isSheet_1 : decode cX7_isSheet 1 = .ok (.ifCond .lt 18, 3) := by decide +kernel
theorem dX7_isSheet_4 : decode cX7_isSheet 4 = .ok (.iload_n 1, 1) := by decide +kernel
theorem dX7_isSheet_5 : decode cX7_isSheet 5 = .ok (.aload_n 0, 1) := by decide +kernel
theorem dX7_isSheet_6 : decode cX7_isSheet 6 = .ok (.getfield 19, 3) := by decide +kernel
theorem dX7_isSheet_9 : decode cX7_isSheet 9 = .ok (.getfield 83, 3) := by decide +kernel
theorem dX7_isSheet_12 : decode cX7_isSheet 12 = .ok (.if_icmp .ge 7, 3) := by decide +kernel
theorem dX7_isSheet_15 : decode cX7_isSheet 15 = .ok (.iconst 1, 1) := by decide +kernel
theorem dX7_isSheet_16 : decode cX7_isSheet 16 = .ok (.goto 4, 3) := by decide +kernel
theorem dX7_isSheet_19 : decode cX7_isSheet 19 = .ok (.iconst 0, 1) := by decide +kernel
theorem dX7_isSheet_20 : decode cX7_isSheet 20 = .ok (.ireturn, 1) := by decide +kernel
theorem dX7_isSaying_0 : decode cX7_isSaying 0 = .ok (.iload_n 1, 1) := by decide +kernel
theorem dX7_isSaying_1 : decode cX7_isSaying 1 = .ok (.ifCond .lt 18, 3) := by decide +kernel
theorem dX7_isSaying_4 : decode cX7_isSaying 4 = .ok (.iload_n 1, 1) := by decide +kernel
theorem dX7_isSaying_5 : decode cX7_isSaying 5 = .ok (.aload_n 0, 1) := by decide +kernel
theorem dX7_isSaying_6 : decode cX7_isSaying 6 = .ok (.getfield 19, 3) := by decide +kernel
theorem dX7_isSaying_9 : decode cX7_isSaying 9 = .ok (.getfield 159, 3) := by decide +kernel
theorem dX7_isSaying_12 : decode cX7_isSaying 12 = .ok (.if_icmp .ge 7, 3) := by decide +kernel
theorem dX7_isSaying_15 : decode cX7_isSaying 15 = .ok (.iconst 1, 1) := by decide +kernel
theorem dX7_isSaying_16 : decode cX7_isSaying 16 = .ok (.goto 4, 3) := by decide +kernel
theorem dX7_isSaying_19 : decode cX7_isSaying 19 = .ok (.iconst 0, 1) := by decide +kernel
theorem dX7_isSaying_20 : decode cX7_isSaying 20 = .ok (.ireturn, 1) := by decide +kernel
theorem dX7_isRule_0 : decode cX7_isRule 0 = .ok (.iload_n 0, 1) := by decide +kernel
theorem dX7_isRule_1 : decode cX7_isRule 1 = .ok (.ifCond .ne 8, 3) := by decide +kernel
theorem dX7_isRule_4 : decode cX7_isRule 4 = .ok (.iload_n 1, 1) := by decide +kernel
theorem dX7_isRule_5 : decode cX7_isRule 5 = .ok (.invokestatic 79, 3) := by decide +kernel
theorem dX7_isRule_8 : decode cX7_isRule 8 = .ok (.ireturn, 1) := by decide +kernel
theorem dX7_isRule_9 : decode cX7_isRule 9 = .ok (.iload_n 0, 1) := by decide +kernel
theorem dX7_isRule_10 : decode cX7_isRule 10 = .ok (.iconst 1, 1) := by decide +kernel
theorem dX7_isRule_11 : decode cX7_isRule 11 = .ok (.if_icmp .ne 8, 3) := by decide +kernel
theorem dX7_isRule_14 : decode cX7_isRule 14 = .ok (.iload_n 1, 1) := by decide +kernel
theorem dX7_isRule_15 : decode cX7_isRule 15 = .ok (.invokestatic 101, 3) := by decide +kernel
theorem dX7_isRule_18 : decode cX7_isRule 18 = .ok (.ireturn, 1) := by decide +kernel
theorem dX7_isRule_19 : decode cX7_isRule 19 = .ok (.iload_n 0, 1) := by decide +kernel
theorem dX7_isRule_20 : decode cX7_isRule 20 = .ok (.iconst 1, 1) := by decide +kernel
theorem dX7_isRule_21 : decode cX7_isRule 21 = .ok (.if_icmp .le 12, 3) := by decide +kernel
theorem dX7_isRule_24 : decode cX7_isRule 24 = .ok (.iload_n 0, 1) := by decide +kernel
theorem dX7_isRule_25 : decode cX7_isRule 25 = .ok (.iconst 5, 1) := by decide +kernel
theorem dX7_isRule_26 : decode cX7_isRule 26 = .ok (.if_icmp .ge 7, 3) := by decide +kernel
theorem dX7_isRule_29 : decode cX7_isRule 29 = .ok (.iconst 1, 1) := by decide +kernel
theorem dX7_isRule_30 : decode cX7_isRule 30 = .ok (.goto 4, 3) := by decide +kernel
theorem dX7_isRule_33 : decode cX7_isRule 33 = .ok (.iconst 0, 1) := by decide +kernel
theorem dX7_isRule_34 : decode cX7_isRule 34 = .ok (.ireturn, 1) := by decide +kernel
theorem dX7_isIn_0 : decode cX7_isIn 0 = .ok (.iload_n 0, 1) := by decide +kernel
theorem dX7_isIn_1 : decode cX7_isIn 1 = .ok (.iload_n 1, 1) := by decide +kernel
theorem dX7_isIn_2 : decode cX7_isIn 2 = .ok (.ishr, 1) := by decide +kernel
theorem dX7_isIn_3 : decode cX7_isIn 3 = .ok (.iconst 1, 1) := by decide +kernel
theorem dX7_isIn_4 : decode cX7_isIn 4 = .ok (.iand, 1) := by decide +kernel
theorem dX7_isIn_5 : decode cX7_isIn 5 = .ok (.iconst 1, 1) := by decide +kernel
theorem dX7_isIn_6 : decode cX7_isIn 6 = .ok (.if_icmp .ne 7, 3) := by decide +kernel
theorem dX7_isIn_9 : decode cX7_isIn 9 = .ok (.iconst 1, 1) := by decide +kernel
theorem dX7_isIn_10 : decode cX7_isIn 10 = .ok (.goto 4, 3) := by decide +kernel
theorem dX7_isIn_13 : decode cX7_isIn 13 = .ok (.iconst 0, 1) := by decide +kernel
theorem dX7_isIn_14 : decode cX7_isIn 14 = .ok (.ireturn, 1) := by decide +kernel
theorem dX7_with_0 : decode cX7_with 0 = .ok (.iload_n 2, 1) := by decide +kernel
theorem dX7_with_1 : decode cX7_with 1 = .ok (.ifCond .eq 11, 3) := by decide +kernel
theorem dX7_with_4 : decode cX7_with 4 = .ok (.iload_n 0, 1) := by decide +kernel
theorem dX7_with_5 : decode cX7_with 5 = .ok (.iconst 1, 1) := by decide +kernel
theorem dX7_with_6 : decode cX7_with 6 = .ok (.iload_n 1, 1) := by decide +kernel
theorem dX7_with_7 : decode cX7_with 7 = .ok (.ishl, 1) := by decide +kernel
theorem dX7_with_8 : decode cX7_with 8 = .ok (.ior, 1) := by decide +kernel
theorem dX7_with_9 : decode cX7_with 9 = .ok (.goto 10, 3) := by decide +kernel
theorem dX7_with_12 : decode cX7_with 12 = .ok (.iload_n 0, 1) := by decide +kernel
theorem dX7_with_13 : decode cX7_with 13 = .ok (.iconst 1, 1) := by decide +kernel
theorem dX7_with_14 : decode cX7_with 14 = .ok (.iload_n 1, 1) := by decide +kernel
theorem dX7_with_15 : decode cX7_with 15 = .ok (.ishl, 1) := by decide +kernel
theorem dX7_with_16 : decode cX7_with 16 = .ok (.iconst (-1), 1) := by decide +kernel
theorem dX7_with_17 : decode cX7_with 17 = .ok (.ixor, 1) := by decide +kernel
theorem dX7_with_18 : decode cX7_with 18 = .ok (.iand, 1) := by decide +kernel
theorem dX7_with_19 : decode cX7_with 19 = .ok (.ireturn, 1) := by decide +kernel
theorem dX7_toldIn_0 : decode cX7_toldIn 0 = .ok (.iconst 0, 1) := by decide +kernel
theorem dX7_toldIn_1 : decode cX7_toldIn 1 = .ok (.istore_n 1, 1) := by decide +kernel
theorem dX7_toldIn_2 : decode cX7_toldIn 2 = .ok (.aload_n 0, 1) := by decide +kernel
theorem dX7_toldIn_3 : decode cX7_toldIn 3 = .ok (.astore_n 2, 1) := by decide +kernel
theorem dX7_toldIn_4 : decode cX7_toldIn 4 = .ok (.aload_n 2, 1) := by decide +kernel
theorem dX7_toldIn_5 : decode cX7_toldIn 5 = .ok (.arraylength, 1) := by decide +kernel
theorem dX7_toldIn_6 : decode cX7_toldIn 6 = .ok (.istore_n 3, 1) := by decide +kernel
theorem dX7_toldIn_7 : decode cX7_toldIn 7 = .ok (.iconst 0, 1) := by decide +kernel
theorem dX7_toldIn_8 : decode cX7_toldIn 8 = .ok (.istore 4, 2) := by decide +kernel
theorem dX7_toldIn_10 : decode cX7_toldIn 10 = .ok (.iload 4, 2) := by decide +kernel
theorem dX7_toldIn_12 : decode cX7_toldIn 12 = .ok (.iload_n 3, 1) := by decide +kernel
theorem dX7_toldIn_13 : decode cX7_toldIn 13 = .ok (.if_icmp .ge 24, 3) := by decide +kernel
theorem dX7_toldIn_16 : decode cX7_toldIn 16 = .ok (.aload_n 2, 1) := by decide +kernel
theorem dX7_toldIn_17 : decode cX7_toldIn 17 = .ok (.iload 4, 2) := by decide +kernel
theorem dX7_toldIn_19 : decode cX7_toldIn 19 = .ok (.iaload, 1) := by decide +kernel
theorem dX7_toldIn_20 : decode cX7_toldIn 20 = .ok (.istore 5, 2) := by decide +kernel
theorem dX7_toldIn_22 : decode cX7_toldIn 22 = .ok (.iload 5, 2) := by decide +kernel
theorem dX7_toldIn_24 : decode cX7_toldIn 24 = .ok (.iconst (-1), 1) := by decide +kernel
theorem dX7_toldIn_25 : decode cX7_toldIn 25 = .ok (.if_icmp .eq 6, 3) := by decide +kernel
theorem dX7_toldIn_28 : decode cX7_toldIn 28 = .ok (.iinc 1 1, 3) := by decide +kernel
theorem dX7_toldIn_31 : decode cX7_toldIn 31 = .ok (.iinc 4 1, 3) := by decide +kernel
theorem dX7_toldIn_34 : decode cX7_toldIn 34 = .ok (.goto (-24), 3) := by decide +kernel
theorem dX7_toldIn_37 : decode cX7_toldIn 37 = .ok (.iload_n 1, 1) := by decide +kernel
theorem dX7_toldIn_38 : decode cX7_toldIn 38 = .ok (.ireturn, 1) := by decide +kernel
theorem dX7_isQuarrel_0 : decode cX7_isQuarrel 0 = .ok (.aload_n 0, 1) := by decide +kernel
theorem dX7_isQuarrel_1 : decode cX7_isQuarrel 1 = .ok (.getfield 75, 3) := by decide +kernel
theorem dX7_isQuarrel_4 : decode cX7_isQuarrel 4 = .ok (.ifCond .ne 56, 3) := by decide +kernel
theorem dX7_isQuarrel_7 : decode cX7_isQuarrel 7 = .ok (.aload_n 0, 1) := by decide +kernel
theorem dX7_isQuarrel_8 : decode cX7_isQuarrel 8 = .ok (.getfield 30, 3) := by decide +kernel
theorem dX7_isQuarrel_11 : decode cX7_isQuarrel 11 = .ok (.aload_n 0, 1) := by decide +kernel
theorem dX7_isQuarrel_12 : decode cX7_isQuarrel 12 = .ok (.getfield 19, 3) := by decide +kernel
theorem dX7_isQuarrel_15 : decode cX7_isQuarrel 15 = .ok (.aload_n 0, 1) := by decide +kernel
theorem dX7_isQuarrel_16 : decode cX7_isQuarrel 16 = .ok (.getfield 10, 3) := by decide +kernel
theorem dX7_isQuarrel_19 : decode cX7_isQuarrel 19 = .ok (.invokevirtual 294, 3) := by decide +kernel
theorem dX7_isQuarrel_22 : decode cX7_isQuarrel 22 = .ok (.aload_n 0, 1) := by decide +kernel
theorem dX7_isQuarrel_23 : decode cX7_isQuarrel 23 = .ok (.getfield 30, 3) := by decide +kernel
theorem dX7_isQuarrel_26 : decode cX7_isQuarrel 26 = .ok (.getfield 298, 3) := by decide +kernel
theorem dX7_isQuarrel_29 : decode cX7_isQuarrel 29 = .ok (.ifCond .ne 26, 3) := by decide +kernel
theorem dX7_isQuarrel_32 : decode cX7_isQuarrel 32 = .ok (.aload_n 0, 1) := by decide +kernel
theorem dX7_isQuarrel_33 : decode cX7_isQuarrel 33 = .ok (.getfield 37, 3) := by decide +kernel
theorem dX7_isQuarrel_36 : decode cX7_isQuarrel 36 = .ok (.aload_n 0, 1) := by decide +kernel
theorem dX7_isQuarrel_37 : decode cX7_isQuarrel 37 = .ok (.getfield 19, 3) := by decide +kernel
theorem dX7_isQuarrel_40 : decode cX7_isQuarrel 40 = .ok (.aload_n 0, 1) := by decide +kernel
theorem dX7_isQuarrel_41 : decode cX7_isQuarrel 41 = .ok (.getfield 10, 3) := by decide +kernel
theorem dX7_isQuarrel_44 : decode cX7_isQuarrel 44 = .ok (.aload_n 0, 1) := by decide +kernel
theorem dX7_isQuarrel_45 : decode cX7_isQuarrel 45 = .ok (.getfield 30, 3) := by decide +kernel
theorem dX7_isQuarrel_48 : decode cX7_isQuarrel 48 = .ok (.aload_n 0, 1) := by decide +kernel
theorem dX7_isQuarrel_49 : decode cX7_isQuarrel 49 = .ok (.getfield 69, 3) := by decide +kernel
theorem dX7_isQuarrel_52 : decode cX7_isQuarrel 52 = .ok (.invokevirtual 301, 3) := by decide +kernel
theorem dX7_isQuarrel_55 : decode cX7_isQuarrel 55 = .ok (.aload_n 0, 1) := by decide +kernel
theorem dX7_isQuarrel_56 : decode cX7_isQuarrel 56 = .ok (.iconst 1, 1) := by decide +kernel
theorem dX7_isQuarrel_57 : decode cX7_isQuarrel 57 = .ok (.putfield 75, 3) := by decide +kernel
theorem dX7_isQuarrel_60 : decode cX7_isQuarrel 60 = .ok (.aload_n 0, 1) := by decide +kernel
theorem dX7_isQuarrel_61 : decode cX7_isQuarrel 61 = .ok (.getfield 30, 3) := by decide +kernel
theorem dX7_isQuarrel_64 : decode cX7_isQuarrel 64 = .ok (.getfield 298, 3) := by decide +kernel
theorem dX7_isQuarrel_67 : decode cX7_isQuarrel 67 = .ok (.ireturn, 1) := by decide +kernel
theorem dX7_reachesAllThatSay_0 : decode cX7_reachesAllThatSay 0 = .ok (.iconst 0, 1) := by decide +kernel
theorem dX7_reachesAllThatSay_1 : decode cX7_reachesAllThatSay 1 = .ok (.istore_n 3, 1) := by decide +kernel
theorem dX7_reachesAllThatSay_2 : decode cX7_reachesAllThatSay 2 = .ok (.iload_n 3, 1) := by decide +kernel
theorem dX7_reachesAllThatSay_3 : decode cX7_reachesAllThatSay 3 = .ok (.aload_n 0, 1) := by decide +kernel
theorem dX7_reachesAllThatSay_4 : decode cX7_reachesAllThatSay 4 = .ok (.getfield 19, 3) := by decide +kernel
theorem dX7_reachesAllThatSay_7 : decode cX7_reachesAllThatSay 7 = .ok (.getfield 159, 3) := by decide +kernel
theorem dX7_reachesAllThatSay_10 : decode cX7_reachesAllThatSay 10 = .ok (.if_icmp .ge 43, 3) := by decide +kernel
theorem dX7_reachesAllThatSay_13 : decode cX7_reachesAllThatSay 13 = .ok (.aload_n 0, 1) := by decide +kernel
theorem dX7_reachesAllThatSay_14 : decode cX7_reachesAllThatSay 14 = .ok (.getfield 19, 3) := by decide +kernel
theorem dX7_reachesAllThatSay_17 : decode cX7_reachesAllThatSay 17 = .ok (.getfield 173, 3) := by decide +kernel
theorem dX7_reachesAllThatSay_20 : decode cX7_reachesAllThatSay 20 = .ok (.iload_n 3, 1) := by decide +kernel
theorem dX7_reachesAllThatSay_21 : decode cX7_reachesAllThatSay 21 = .ok (.iaload, 1) := by decide +kernel
theorem dX7_reachesAllThatSay_22 : decode cX7_reachesAllThatSay 22 = .ok (.iload_n 1, 1) := by decide +kernel
theorem dX7_reachesAllThatSay_23 : decode cX7_reachesAllThatSay 23 = .ok (.if_icmp .ne 24, 3) := by decide +kernel
theorem dX7_reachesAllThatSay_26 : decode cX7_reachesAllThatSay 26 = .ok (.aload_n 0, 1) := by decide +kernel
theorem dX7_reachesAllThatSay_27 : decode cX7_reachesAllThatSay 27 = .ok (.getfield 10, 3) := by decide +kernel
theorem dX7_reachesAllThatSay_30 : decode cX7_reachesAllThatSay 30 = .ok (.iload_n 2, 1) := by decide +kernel
theorem dX7_reachesAllThatSay_31 : decode cX7_reachesAllThatSay 31 = .ok (.aload_n 0, 1) := by decide +kernel
theorem dX7_reachesAllThatSay_32 : decode cX7_reachesAllThatSay 32 = .ok (.getfield 19, 3) := by decide +kernel
theorem dX7_reachesAllThatSay_35 : decode cX7_reachesAllThatSay 35 = .ok (.iload_n 3, 1) := by decide +kernel
theorem dX7_reachesAllThatSay_36 : decode cX7_reachesAllThatSay 36 = .ok (.invokevirtual 305, 3) := by decide +kernel
theorem dX7_reachesAllThatSay_39 : decode cX7_reachesAllThatSay 39 = .ok (.invokevirtual 90, 3) := by decide +kernel
theorem dX7_reachesAllThatSay_42 : decode cX7_reachesAllThatSay 42 = .ok (.ifCond .ne 5, 3) := by decide +kernel
theorem dX7_reachesAllThatSay_45 : decode cX7_reachesAllThatSay 45 = .ok (.iconst 0, 1) := by decide +kernel
theorem dX7_reachesAllThatSay_46 : decode cX7_reachesAllThatSay 46 = .ok (.ireturn, 1) := by decide +kernel
theorem dX7_reachesAllThatSay_47 : decode cX7_reachesAllThatSay 47 = .ok (.iinc 3 1, 3) := by decide +kernel
theorem dX7_reachesAllThatSay_50 : decode cX7_reachesAllThatSay 50 = .ok (.goto (-48), 3) := by decide +kernel
theorem dX7_reachesAllThatSay_53 : decode cX7_reachesAllThatSay 53 = .ok (.iconst 1, 1) := by decide +kernel
theorem dX7_reachesAllThatSay_54 : decode cX7_reachesAllThatSay 54 = .ok (.ireturn, 1) := by decide +kernel
theorem dX7_followers_0 : decode cX7_followers 0 = .ok (.iconst 0, 1) := by decide +kernel
theorem dX7_followers_1 : decode cX7_followers 1 = .ok (.istore_n 2, 1) := by decide +kernel
theorem dX7_followers_2 : decode cX7_followers 2 = .ok (.iconst 0, 1) := by decide +kernel
theorem dX7_followers_3 : decode cX7_followers 3 = .ok (.istore_n 3, 1) := by decide +kernel
theorem dX7_followers_4 : decode cX7_followers 4 = .ok (.iload_n 3, 1) := by decide +kernel
theorem dX7_followers_5 : decode cX7_followers 5 = .ok (.aload_n 0, 1) := by decide +kernel
theorem dX7_followers_6 : decode cX7_followers 6 = .ok (.getfield 19, 3) := by decide +kernel
theorem dX7_followers_9 : decode cX7_followers 9 = .ok (.getfield 159, 3) := by decide +kernel
theorem dX7_followers_12 : decode cX7_followers 12 = .ok (.if_icmp .ge 25, 3) := by decide +kernel
theorem dX7_followers_15 : decode cX7_followers 15 = .ok (.aload_n 0, 1) := by decide +kernel
theorem dX7_followers_16 : decode cX7_followers 16 = .ok (.getfield 37, 3) := by decide +kernel
theorem dX7_followers_19 : decode cX7_followers 19 = .ok (.getfield 185, 3) := by decide +kernel
theorem dX7_followers_22 : decode cX7_followers 22 = .ok (.iload_n 3, 1) := by decide +kernel
theorem dX7_followers_23 : decode cX7_followers 23 = .ok (.iaload, 1) := by decide +kernel
theorem dX7_followers_24 : decode cX7_followers 24 = .ok (.iload_n 1, 1) := by decide +kernel
theorem dX7_followers_25 : decode cX7_followers 25 = .ok (.if_icmp .ne 6, 3) := by decide +kernel
theorem dX7_followers_28 : decode cX7_followers 28 = .ok (.iinc 2 1, 3) := by decide +kernel
theorem dX7_followers_31 : decode cX7_followers 31 = .ok (.iinc 3 1, 3) := by decide +kernel
theorem dX7_followers_34 : decode cX7_followers 34 = .ok (.goto (-30), 3) := by decide +kernel
theorem dX7_followers_37 : decode cX7_followers 37 = .ok (.iload_n 2, 1) := by decide +kernel
theorem dX7_followers_38 : decode cX7_followers 38 = .ok (.ireturn, 1) := by decide +kernel
theorem dX7_growth_0 : decode cX7_growth 0 = .ok (.aload_n 0, 1) := by decide +kernel
theorem dX7_growth_1 : decode cX7_growth 1 = .ok (.getfield 37, 3) := by decide +kernel
theorem dX7_growth_4 : decode cX7_growth 4 = .ok (.iload_n 1, 1) := by decide +kernel
theorem dX7_growth_5 : decode cX7_growth 5 = .ok (.invokevirtual 179, 3) := by decide +kernel
theorem dX7_growth_8 : decode cX7_growth 8 = .ok (.ifCond .eq 5, 3) := by decide +kernel
theorem dX7_growth_11 : decode cX7_growth 11 = .ok (.iconst 0, 1) := by decide +kernel
theorem dX7_growth_12 : decode cX7_growth 12 = .ok (.ireturn, 1) := by decide +kernel
theorem dX7_growth_13 : decode cX7_growth 13 = .ok (.aload_n 0, 1) := by decide +kernel
theorem dX7_growth_14 : decode cX7_growth 14 = .ok (.getfield 19, 3) := by decide +kernel
theorem dX7_growth_17 : decode cX7_growth 17 = .ok (.getfield 308, 3) := by decide +kernel
theorem dX7_growth_20 : decode cX7_growth 20 = .ok (.iload_n 1, 1) := by decide +kernel
theorem dX7_growth_21 : decode cX7_growth 21 = .ok (.iaload, 1) := by decide +kernel
theorem dX7_growth_22 : decode cX7_growth 22 = .ok (.aload_n 0, 1) := by decide +kernel
theorem dX7_growth_23 : decode cX7_growth 23 = .ok (.getfield 19, 3) := by decide +kernel
theorem dX7_growth_26 : decode cX7_growth 26 = .ok (.getfield 308, 3) := by decide +kernel
theorem dX7_growth_29 : decode cX7_growth 29 = .ok (.aload_n 0, 1) := by decide +kernel
theorem dX7_growth_30 : decode cX7_growth 30 = .ok (.getfield 37, 3) := by decide +kernel
theorem dX7_growth_33 : decode cX7_growth 33 = .ok (.getfield 182, 3) := by decide +kernel
theorem dX7_growth_36 : decode cX7_growth 36 = .ok (.iload_n 1, 1) := by decide +kernel
theorem dX7_growth_37 : decode cX7_growth 37 = .ok (.iaload, 1) := by decide +kernel
theorem dX7_growth_38 : decode cX7_growth 38 = .ok (.iaload, 1) := by decide +kernel
theorem dX7_growth_39 : decode cX7_growth 39 = .ok (.isub, 1) := by decide +kernel
theorem dX7_growth_40 : decode cX7_growth 40 = .ok (.ireturn, 1) := by decide +kernel
theorem dX7_arrival_0 : decode cX7_arrival 0 = .ok (.aload_n 0, 1) := by decide +kernel
theorem dX7_arrival_1 : decode cX7_arrival 1 = .ok (.getfield 19, 3) := by decide +kernel
theorem dX7_arrival_4 : decode cX7_arrival 4 = .ok (.iload_n 1, 1) := by decide +kernel
theorem dX7_arrival_5 : decode cX7_arrival 5 = .ok (.invokevirtual 305, 3) := by decide +kernel
theorem dX7_arrival_8 : decode cX7_arrival 8 = .ok (.istore_n 2, 1) := by decide +kernel
theorem dX7_arrival_9 : decode cX7_arrival 9 = .ok (.aload_n 0, 1) := by decide +kernel
theorem dX7_arrival_10 : decode cX7_arrival 10 = .ok (.getfield 10, 3) := by decide +kernel
theorem dX7_arrival_13 : decode cX7_arrival 13 = .ok (.iload_n 2, 1) := by decide +kernel
theorem dX7_arrival_14 : decode cX7_arrival 14 = .ok (.aload_n 0, 1) := by decide +kernel
theorem dX7_arrival_15 : decode cX7_arrival 15 = .ok (.getfield 72, 3) := by decide +kernel
theorem dX7_arrival_18 : decode cX7_arrival 18 = .ok (.invokevirtual 90, 3) := by decide +kernel
theorem dX7_arrival_21 : decode cX7_arrival 21 = .ok (.ifCond .ne 6, 3) := by decide +kernel
theorem dX7_arrival_24 : decode cX7_arrival 24 = .ok (.bipush (-4), 2) := by decide +kernel
theorem dX7_arrival_26 : decode cX7_arrival 26 = .ok (.ireturn, 1) := by decide +kernel
theorem dX7_arrival_27 : decode cX7_arrival 27 = .ok (.aload_n 0, 1) := by decide +kernel
theorem dX7_arrival_28 : decode cX7_arrival 28 = .ok (.getfield 30, 3) := by decide +kernel
theorem dX7_arrival_31 : decode cX7_arrival 31 = .ok (.getfield 149, 3) := by decide +kernel
theorem dX7_arrival_34 : decode cX7_arrival 34 = .ok (.aload_n 0, 1) := by decide +kernel
theorem dX7_arrival_35 : decode cX7_arrival 35 = .ok (.getfield 19, 3) := by decide +kernel
theorem dX7_arrival_38 : decode cX7_arrival 38 = .ok (.getfield 311, 3) := by decide +kernel
theorem dX7_arrival_41 : decode cX7_arrival 41 = .ok (.iload_n 1, 1) := by decide +kernel
theorem dX7_arrival_42 : decode cX7_arrival 42 = .ok (.iaload, 1) := by decide +kernel
theorem dX7_arrival_43 : decode cX7_arrival 43 = .ok (.iaload, 1) := by decide +kernel
theorem dX7_arrival_44 : decode cX7_arrival 44 = .ok (.aload_n 0, 1) := by decide +kernel
theorem dX7_arrival_45 : decode cX7_arrival 45 = .ok (.getfield 10, 3) := by decide +kernel
theorem dX7_arrival_48 : decode cX7_arrival 48 = .ok (.iload_n 2, 1) := by decide +kernel
theorem dX7_arrival_49 : decode cX7_arrival 49 = .ok (.aload_n 0, 1) := by decide +kernel
theorem dX7_arrival_50 : decode cX7_arrival 50 = .ok (.getfield 72, 3) := by decide +kernel
theorem dX7_arrival_53 : decode cX7_arrival 53 = .ok (.invokevirtual 94, 3) := by decide +kernel
theorem dX7_arrival_56 : decode cX7_arrival 56 = .ok (.iadd, 1) := by decide +kernel
theorem dX7_arrival_57 : decode cX7_arrival 57 = .ok (.ireturn, 1) := by decide +kernel
theorem dX7_weightOf_0 : decode cX7_weightOf 0 = .ok (.aload_n 0, 1) := by decide +kernel
theorem dX7_weightOf_1 : decode cX7_weightOf 1 = .ok (.iload_n 1, 1) := by decide +kernel
theorem dX7_weightOf_2 : decode cX7_weightOf 2 = .ok (.iload_n 2, 1) := by decide +kernel
theorem dX7_weightOf_3 : decode cX7_weightOf 3 = .ok (.invokevirtual 314, 3) := by decide +kernel
theorem dX7_weightOf_6 : decode cX7_weightOf 6 = .ok (.istore_n 3, 1) := by decide +kernel
theorem dX7_weightOf_7 : decode cX7_weightOf 7 = .ok (.iconst 0, 1) := by decide +kernel
theorem dX7_weightOf_8 : decode cX7_weightOf 8 = .ok (.istore 4, 2) := by decide +kernel
theorem dX7_weightOf_10 : decode cX7_weightOf 10 = .ok (.iconst 0, 1) := by decide +kernel
theorem dX7_weightOf_11 : decode cX7_weightOf 11 = .ok (.istore 5, 2) := by decide +kernel
theorem dX7_weightOf_13 : decode cX7_weightOf 13 = .ok (.iload 5, 2) := by decide +kernel
theorem dX7_weightOf_15 : decode cX7_weightOf 15 = .ok (.aload_n 0, 1) := by decide +kernel
theorem dX7_weightOf_16 : decode cX7_weightOf 16 = .ok (.getfield 19, 3) := by decide +kernel
theorem dX7_weightOf_19 : decode cX7_weightOf 19 = .ok (.getfield 159, 3) := by decide +kernel
theorem dX7_weightOf_22 : decode cX7_weightOf 22 = .ok (.if_icmp .ge 30, 3) := by decide +kernel
theorem dX7_weightOf_25 : decode cX7_weightOf 25 = .ok (.iload_n 3, 1) := by decide +kernel
theorem dX7_weightOf_26 : decode cX7_weightOf 26 = .ok (.iload 5, 2) := by decide +kernel
theorem dX7_weightOf_28 : decode cX7_weightOf 28 = .ok (.invokestatic 317, 3) := by decide +kernel
theorem dX7_weightOf_31 : decode cX7_weightOf 31 = .ok (.ifCond .eq 15, 3) := by decide +kernel
theorem dX7_weightOf_34 : decode cX7_weightOf 34 = .ok (.iload 4, 2) := by decide +kernel
theorem dX7_weightOf_36 : decode cX7_weightOf 36 = .ok (.aload_n 0, 1) := by decide +kernel
theorem dX7_weightOf_37 : decode cX7_weightOf 37 = .ok (.iload 5, 2) := by decide +kernel
theorem dX7_weightOf_39 : decode cX7_weightOf 39 = .ok (.iload_n 2, 1) := by decide +kernel
theorem dX7_weightOf_40 : decode cX7_weightOf 40 = .ok (.invokevirtual 320, 3) := by decide +kernel
theorem dX7_weightOf_43 : decode cX7_weightOf 43 = .ok (.iadd, 1) := by decide +kernel
theorem dX7_weightOf_44 : decode cX7_weightOf 44 = .ok (.istore 4, 2) := by decide +kernel
theorem dX7_weightOf_46 : decode cX7_weightOf 46 = .ok (.iinc 5 1, 3) := by decide +kernel
theorem dX7_weightOf_49 : decode cX7_weightOf 49 = .ok (.goto (-36), 3) := by decide +kernel
theorem dX7_weightOf_52 : decode cX7_weightOf 52 = .ok (.iload 4, 2) := by decide +kernel
theorem dX7_weightOf_54 : decode cX7_weightOf 54 = .ok (.ireturn, 1) := by decide +kernel
theorem dX7_voicesHeard_0 : decode cX7_voicesHeard 0 = .ok (.iconst 0, 1) := by decide +kernel
theorem dX7_voicesHeard_1 : decode cX7_voicesHeard 1 = .ok (.istore_n 3, 1) := by decide +kernel
theorem dX7_voicesHeard_2 : decode cX7_voicesHeard 2 = .ok (.aload_n 0, 1) := by decide +kernel
theorem dX7_voicesHeard_3 : decode cX7_voicesHeard 3 = .ok (.getfield 58, 3) := by decide +kernel
theorem dX7_voicesHeard_6 : decode cX7_voicesHeard 6 = .ok (.iconst 2, 1) := by decide +kernel
theorem dX7_voicesHeard_7 : decode cX7_voicesHeard 7 = .ok (.iconst 0, 1) := by decide +kernel
theorem dX7_voicesHeard_8 : decode cX7_voicesHeard 8 = .ok (.iload_n 2, 1) := by decide +kernel
theorem dX7_voicesHeard_9 : decode cX7_voicesHeard 9 = .ok (.invokevirtual 225, 3) := by decide +kernel
theorem dX7_voicesHeard_12 : decode cX7_voicesHeard 12 = .ok (.istore 4, 2) := by decide +kernel
theorem dX7_voicesHeard_14 : decode cX7_voicesHeard 14 = .ok (.iconst 0, 1) := by decide +kernel
theorem dX7_voicesHeard_15 : decode cX7_voicesHeard 15 = .ok (.istore 5, 2) := by decide +kernel
theorem dX7_voicesHeard_17 : decode cX7_voicesHeard 17 = .ok (.iload 5, 2) := by decide +kernel
theorem dX7_voicesHeard_19 : decode cX7_voicesHeard 19 = .ok (.aload_n 0, 1) := by decide +kernel
theorem dX7_voicesHeard_20 : decode cX7_voicesHeard 20 = .ok (.getfield 19, 3) := by decide +kernel
theorem dX7_voicesHeard_23 : decode cX7_voicesHeard 23 = .ok (.getfield 159, 3) := by decide +kernel
theorem dX7_voicesHeard_26 : decode cX7_voicesHeard 26 = .ok (.if_icmp .ge 91, 3) := by decide +kernel
theorem dX7_voicesHeard_29 : decode cX7_voicesHeard 29 = .ok (.aload_n 0, 1) := by decide +kernel
theorem dX7_voicesHeard_30 : decode cX7_voicesHeard 30 = .ok (.getfield 19, 3) := by decide +kernel
theorem dX7_voicesHeard_33 : decode cX7_voicesHeard 33 = .ok (.getfield 173, 3) := by decide +kernel
theorem dX7_voicesHeard_36 : decode cX7_voicesHeard 36 = .ok (.iload 5, 2) := by decide +kernel
theorem dX7_voicesHeard_38 : decode cX7_voicesHeard 38 = .ok (.iaload, 1) := by decide +kernel
theorem dX7_voicesHeard_39 : decode cX7_voicesHeard 39 = .ok (.iload_n 1, 1) := by decide +kernel
theorem dX7_voicesHeard_40 : decode cX7_voicesHeard 40 = .ok (.if_icmp .eq 6, 3) := by decide +kernel
theorem dX7_voicesHeard_43 : decode cX7_voicesHeard 43 = .ok (.goto 68, 3) := by decide +kernel
theorem dX7_voicesHeard_46 : decode cX7_voicesHeard 46 = .ok (.aload_n 0, 1) := by decide +kernel
theorem dX7_voicesHeard_47 : decode cX7_voicesHeard 47 = .ok (.iload 5, 2) := by decide +kernel
theorem dX7_voicesHeard_49 : decode cX7_voicesHeard 49 = .ok (.invokevirtual 235, 3) := by decide +kernel
theorem dX7_voicesHeard_52 : decode cX7_voicesHeard 52 = .ok (.istore 6, 2) := by decide +kernel
theorem dX7_voicesHeard_54 : decode cX7_voicesHeard 54 = .ok (.iload_n 2, 1) := by decide +kernel
theorem dX7_voicesHeard_55 : decode cX7_voicesHeard 55 = .ok (.aload_n 0, 1) := by decide +kernel
theorem dX7_voicesHeard_56 : decode cX7_voicesHeard 56 = .ok (.getfield 30, 3) := by decide +kernel
theorem dX7_voicesHeard_59 : decode cX7_voicesHeard 59 = .ok (.getfield 149, 3) := by decide +kernel
theorem dX7_voicesHeard_62 : decode cX7_voicesHeard 62 = .ok (.aload_n 0, 1) := by decide +kernel
theorem dX7_voicesHeard_63 : decode cX7_voicesHeard 63 = .ok (.getfield 19, 3) := by decide +kernel
theorem dX7_voicesHeard_66 : decode cX7_voicesHeard 66 = .ok (.getfield 311, 3) := by decide +kernel
theorem dX7_voicesHeard_69 : decode cX7_voicesHeard 69 = .ok (.iload 5, 2) := by decide +kernel
theorem dX7_voicesHeard_71 : decode cX7_voicesHeard 71 = .ok (.iaload, 1) := by decide +kernel
theorem dX7_voicesHeard_72 : decode cX7_voicesHeard 72 = .ok (.iaload, 1) := by decide +kernel
theorem dX7_voicesHeard_73 : decode cX7_voicesHeard 73 = .ok (.isub, 1) := by decide +kernel
theorem dX7_voicesHeard_74 : decode cX7_voicesHeard 74 = .ok (.istore 7, 2) := by decide +kernel
theorem dX7_voicesHeard_76 : decode cX7_voicesHeard 76 = .ok (.iload 6, 2) := by decide +kernel
theorem dX7_voicesHeard_78 : decode cX7_voicesHeard 78 = .ok (.bipush (-4), 2) := by decide +kernel
theorem dX7_voicesHeard_80 : decode cX7_voicesHeard 80 = .ok (.if_icmp .eq 31, 3) := by decide +kernel
theorem dX7_voicesHeard_83 : decode cX7_voicesHeard 83 = .ok (.iload 6, 2) := by decide +kernel
theorem dX7_voicesHeard_85 : decode cX7_voicesHeard 85 = .ok (.iload_n 2, 1) := by decide +kernel
theorem dX7_voicesHeard_86 : decode cX7_voicesHeard 86 = .ok (.if_icmp .gt 25, 3) := by decide +kernel
theorem dX7_voicesHeard_89 : decode cX7_voicesHeard 89 = .ok (.iload 7, 2) := by decide +kernel
theorem dX7_voicesHeard_91 : decode cX7_voicesHeard 91 = .ok (.iload 4, 2) := by decide +kernel
theorem dX7_voicesHeard_93 : decode cX7_voicesHeard 93 = .ok (.if_icmp .gt 18, 3) := by decide +kernel
theorem dX7_voicesHeard_96 : decode cX7_voicesHeard 96 = .ok (.iload_n 3, 1) := by decide +kernel
theorem dX7_voicesHeard_97 : decode cX7_voicesHeard 97 = .ok (.iconst 1, 1) := by decide +kernel
theorem dX7_voicesHeard_98 : decode cX7_voicesHeard 98 = .ok (.aload_n 0, 1) := by decide +kernel
theorem dX7_voicesHeard_99 : decode cX7_voicesHeard 99 = .ok (.getfield 37, 3) := by decide +kernel
theorem dX7_voicesHeard_102 : decode cX7_voicesHeard 102 = .ok (.getfield 185, 3) := by decide +kernel
theorem dX7_voicesHeard_105 : decode cX7_voicesHeard 105 = .ok (.iload 5, 2) := by decide +kernel
theorem dX7_voicesHeard_107 : decode cX7_voicesHeard 107 = .ok (.iaload, 1) := by decide +kernel
theorem dX7_voicesHeard_108 : decode cX7_voicesHeard 108 = .ok (.ishl, 1) := by decide +kernel
theorem dX7_voicesHeard_109 : decode cX7_voicesHeard 109 = .ok (.ior, 1) := by decide +kernel
theorem dX7_voicesHeard_110 : decode cX7_voicesHeard 110 = .ok (.istore_n 3, 1) := by decide +kernel
theorem dX7_voicesHeard_111 : decode cX7_voicesHeard 111 = .ok (.iinc 5 1, 3) := by decide +kernel
theorem dX7_voicesHeard_114 : decode cX7_voicesHeard 114 = .ok (.goto (-97), 3) := by decide +kernel
theorem dX7_voicesHeard_117 : decode cX7_voicesHeard 117 = .ok (.iload_n 3, 1) := by decide +kernel
theorem dX7_voicesHeard_118 : decode cX7_voicesHeard 118 = .ok (.ireturn, 1) := by decide +kernel
theorem dX7_weightOfVoice_0 : decode cX7_weightOfVoice 0 = .ok (.aload_n 0, 1) := by decide +kernel
theorem dX7_weightOfVoice_1 : decode cX7_weightOfVoice 1 = .ok (.getfield 58, 3) := by decide +kernel
theorem dX7_weightOfVoice_4 : decode cX7_weightOfVoice 4 = .ok (.iconst 0, 1) := by decide +kernel
theorem dX7_weightOfVoice_5 : decode cX7_weightOfVoice 5 = .ok (.aload_n 0, 1) := by decide +kernel
theorem dX7_weightOfVoice_6 : decode cX7_weightOfVoice 6 = .ok (.getfield 19, 3) := by decide +kernel
theorem dX7_weightOfVoice_9 : decode cX7_weightOfVoice 9 = .ok (.iload_n 1, 1) := by decide +kernel
theorem dX7_weightOfVoice_10 : decode cX7_weightOfVoice 10 = .ok (.invokevirtual 305, 3) := by decide +kernel
theorem dX7_weightOfVoice_13 : decode cX7_weightOfVoice 13 = .ok (.iload_n 2, 1) := by decide +kernel
theorem dX7_weightOfVoice_14 : decode cX7_weightOfVoice 14 = .ok (.invokevirtual 225, 3) := by decide +kernel
theorem dX7_weightOfVoice_17 : decode cX7_weightOfVoice 17 = .ok (.aload_n 0, 1) := by decide +kernel
theorem dX7_weightOfVoice_18 : decode cX7_weightOfVoice 18 = .ok (.getfield 58, 3) := by decide +kernel
theorem dX7_weightOfVoice_21 : decode cX7_weightOfVoice 21 = .ok (.iconst 1, 1) := by decide +kernel
theorem dX7_weightOfVoice_22 : decode cX7_weightOfVoice 22 = .ok (.aload_n 0, 1) := by decide +kernel
theorem dX7_weightOfVoice_23 : decode cX7_weightOfVoice 23 = .ok (.getfield 19, 3) := by decide +kernel
theorem dX7_weightOfVoice_26 : decode cX7_weightOfVoice 26 = .ok (.iload_n 1, 1) := by decide +kernel
theorem dX7_weightOfVoice_27 : decode cX7_weightOfVoice 27 = .ok (.invokevirtual 205, 3) := by decide +kernel
theorem dX7_weightOfVoice_30 : decode cX7_weightOfVoice 30 = .ok (.iload_n 2, 1) := by decide +kernel
theorem dX7_weightOfVoice_31 : decode cX7_weightOfVoice 31 = .ok (.invokevirtual 225, 3) := by decide +kernel
theorem dX7_weightOfVoice_34 : decode cX7_weightOfVoice 34 = .ok (.iadd, 1) := by decide +kernel
theorem dX7_weightOfVoice_35 : decode cX7_weightOfVoice 35 = .ok (.istore_n 3, 1) := by decide +kernel
theorem dX7_weightOfVoice_36 : decode cX7_weightOfVoice 36 = .ok (.aload_n 0, 1) := by decide +kernel
theorem dX7_weightOfVoice_37 : decode cX7_weightOfVoice 37 = .ok (.getfield 19, 3) := by decide +kernel
theorem dX7_weightOfVoice_40 : decode cX7_weightOfVoice 40 = .ok (.iload_n 1, 1) := by decide +kernel
theorem dX7_weightOfVoice_41 : decode cX7_weightOfVoice 41 = .ok (.invokevirtual 195, 3) := by decide +kernel
theorem dX7_weightOfVoice_44 : decode cX7_weightOfVoice 44 = .ok (.ifCond .eq 19, 3) := by decide +kernel
theorem dX7_weightOfVoice_47 : decode cX7_weightOfVoice 47 = .ok (.iload_n 3, 1) := by decide +kernel
theorem dX7_weightOfVoice_48 : decode cX7_weightOfVoice 48 = .ok (.ineg, 1) := by decide +kernel
theorem dX7_weightOfVoice_49 : decode cX7_weightOfVoice 49 = .ok (.aload_n 0, 1) := by decide +kernel
theorem dX7_weightOfVoice_50 : decode cX7_weightOfVoice 50 = .ok (.getfield 58, 3) := by decide +kernel
theorem dX7_weightOfVoice_53 : decode cX7_weightOfVoice 53 = .ok (.iconst 4, 1) := by decide +kernel
theorem dX7_weightOfVoice_54 : decode cX7_weightOfVoice 54 = .ok (.iconst 0, 1) := by decide +kernel
theorem dX7_weightOfVoice_55 : decode cX7_weightOfVoice 55 = .ok (.iload_n 2, 1) := by decide +kernel
theorem dX7_weightOfVoice_56 : decode cX7_weightOfVoice 56 = .ok (.invokevirtual 225, 3) := by decide +kernel
theorem dX7_weightOfVoice_59 : decode cX7_weightOfVoice 59 = .ok (.imul, 1) := by decide +kernel
theorem dX7_weightOfVoice_60 : decode cX7_weightOfVoice 60 = .ok (.goto 4, 3) := by decide +kernel
theorem dX7_weightOfVoice_63 : decode cX7_weightOfVoice 63 = .ok (.iload_n 3, 1) := by decide +kernel
theorem dX7_weightOfVoice_64 : decode cX7_weightOfVoice 64 = .ok (.ireturn, 1) := by decide +kernel
theorem dX7_isForbidden_0 : decode cX7_isForbidden 0 = .ok (.aload_n 0, 1) := by decide +kernel
theorem dX7_isForbidden_1 : decode cX7_isForbidden 1 = .ok (.getfield 19, 3) := by decide +kernel
theorem dX7_isForbidden_4 : decode cX7_isForbidden 4 = .ok (.getfield 311, 3) := by decide +kernel
theorem dX7_isForbidden_7 : decode cX7_isForbidden 7 = .ok (.iload_n 1, 1) := by decide +kernel
theorem dX7_isForbidden_8 : decode cX7_isForbidden 8 = .ok (.iaload, 1) := by decide +kernel
theorem dX7_isForbidden_9 : decode cX7_isForbidden 9 = .ok (.istore_n 2, 1) := by decide +kernel
theorem dX7_isForbidden_10 : decode cX7_isForbidden 10 = .ok (.aload_n 0, 1) := by decide +kernel
theorem dX7_isForbidden_11 : decode cX7_isForbidden 11 = .ok (.getfield 58, 3) := by decide +kernel
theorem dX7_isForbidden_14 : decode cX7_isForbidden 14 = .ok (.aload_n 0, 1) := by decide +kernel
theorem dX7_isForbidden_15 : decode cX7_isForbidden 15 = .ok (.getfield 19, 3) := by decide +kernel
theorem dX7_isForbidden_18 : decode cX7_isForbidden 18 = .ok (.getfield 118, 3) := by decide +kernel
theorem dX7_isForbidden_21 : decode cX7_isForbidden 21 = .ok (.iload_n 2, 1) := by decide +kernel
theorem dX7_isForbidden_22 : decode cX7_isForbidden 22 = .ok (.iaload, 1) := by decide +kernel
theorem dX7_isForbidden_23 : decode cX7_isForbidden 23 = .ok (.aload_n 0, 1) := by decide +kernel
theorem dX7_isForbidden_24 : decode cX7_isForbidden 24 = .ok (.getfield 19, 3) := by decide +kernel
theorem dX7_isForbidden_27 : decode cX7_isForbidden 27 = .ok (.getfield 173, 3) := by decide +kernel
theorem dX7_isForbidden_30 : decode cX7_isForbidden 30 = .ok (.iload_n 1, 1) := by decide +kernel
theorem dX7_isForbidden_31 : decode cX7_isForbidden 31 = .ok (.iaload, 1) := by decide +kernel
theorem dX7_isForbidden_32 : decode cX7_isForbidden 32 = .ok (.aload_n 0, 1) := by decide +kernel
theorem dX7_isForbidden_33 : decode cX7_isForbidden 33 = .ok (.getfield 30, 3) := by decide +kernel
theorem dX7_isForbidden_36 : decode cX7_isForbidden 36 = .ok (.getfield 149, 3) := by decide +kernel
theorem dX7_isForbidden_39 : decode cX7_isForbidden 39 = .ok (.iload_n 2, 1) := by decide +kernel
theorem dX7_isForbidden_40 : decode cX7_isForbidden 40 = .ok (.iaload, 1) := by decide +kernel
theorem dX7_isForbidden_41 : decode cX7_isForbidden 41 = .ok (.aload_n 0, 1) := by decide +kernel
theorem dX7_isForbidden_42 : decode cX7_isForbidden 42 = .ok (.getfield 30, 3) := by decide +kernel
theorem dX7_isForbidden_45 : decode cX7_isForbidden 45 = .ok (.getfield 152, 3) := by decide +kernel
theorem dX7_isForbidden_48 : decode cX7_isForbidden 48 = .ok (.iload_n 2, 1) := by decide +kernel
theorem dX7_isForbidden_49 : decode cX7_isForbidden 49 = .ok (.iaload, 1) := by decide +kernel
theorem dX7_isForbidden_50 : decode cX7_isForbidden 50 = .ok (.invokevirtual 323, 3) := by decide +kernel
theorem dX7_isForbidden_53 : decode cX7_isForbidden 53 = .ok (.ireturn, 1) := by decide +kernel
theorem dX7_isTried_0 : decode cX7_isTried 0 = .ok (.aload_n 0, 1) := by decide +kernel
theorem dX7_isTried_1 : decode cX7_isTried 1 = .ok (.getfield 19, 3) := by decide +kernel
theorem dX7_isTried_4 : decode cX7_isTried 4 = .ok (.iload_n 1, 1) := by decide +kernel
theorem dX7_isTried_5 : decode cX7_isTried 5 = .ok (.invokevirtual 195, 3) := by decide +kernel
theorem dX7_isTried_8 : decode cX7_isTried 8 = .ok (.ifCond .ne 39, 3) := by decide +kernel
theorem dX7_isTried_11 : decode cX7_isTried 11 = .ok (.aload_n 0, 1) := by decide +kernel
theorem dX7_isTried_12 : decode cX7_isTried 12 = .ok (.getfield 37, 3) := by decide +kernel
theorem dX7_isTried_15 : decode cX7_isTried 15 = .ok (.iload_n 1, 1) := by decide +kernel
theorem dX7_isTried_16 : decode cX7_isTried 16 = .ok (.invokevirtual 179, 3) := by decide +kernel
theorem dX7_isTried_19 : decode cX7_isTried 19 = .ok (.ifCond .eq 28, 3) := by decide +kernel
theorem dX7_isTried_22 : decode cX7_isTried 22 = .ok (.aload_n 0, 1) := by decide +kernel
theorem dX7_isTried_23 : decode cX7_isTried 23 = .ok (.getfield 19, 3) := by decide +kernel
theorem dX7_isTried_26 : decode cX7_isTried 26 = .ok (.getfield 244, 3) := by decide +kernel
theorem dX7_isTried_29 : decode cX7_isTried 29 = .ok (.aload_n 0, 1) := by decide +kernel
theorem dX7_isTried_30 : decode cX7_isTried 30 = .ok (.getfield 19, 3) := by decide +kernel
theorem dX7_isTried_33 : decode cX7_isTried 33 = .ok (.getfield 173, 3) := by decide +kernel
theorem dX7_isTried_36 : decode cX7_isTried 36 = .ok (.iload_n 1, 1) := by decide +kernel
theorem dX7_isTried_37 : decode cX7_isTried 37 = .ok (.iaload, 1) := by decide +kernel
theorem dX7_isTried_38 : decode cX7_isTried 38 = .ok (.iaload, 1) := by decide +kernel
theorem dX7_isTried_39 : decode cX7_isTried 39 = .ok (.iconst (-1), 1) := by decide +kernel
theorem dX7_isTried_40 : decode cX7_isTried 40 = .ok (.if_icmp .eq 7, 3) := by decide +kernel
theorem dX7_isTried_43 : decode cX7_isTried 43 = .ok (.iconst 1, 1) := by decide +kernel
theorem dX7_isTried_44 : decode cX7_isTried 44 = .ok (.goto 4, 3) := by decide +kernel
theorem dX7_isTried_47 : decode cX7_isTried 47 = .ok (.iconst 0, 1) := by decide +kernel
theorem dX7_isTried_48 : decode cX7_isTried 48 = .ok (.ireturn, 1) := by decide +kernel
theorem dX7_outcome_0 : decode cX7_outcome 0 = .ok (.aload_n 0, 1) := by decide +kernel
theorem dX7_outcome_1 : decode cX7_outcome 1 = .ok (.getfield 19, 3) := by decide +kernel
theorem dX7_outcome_4 : decode cX7_outcome 4 = .ok (.getfield 308, 3) := by decide +kernel
theorem dX7_outcome_7 : decode cX7_outcome 7 = .ok (.iload_n 1, 1) := by decide +kernel
theorem dX7_outcome_8 : decode cX7_outcome 8 = .ok (.iaload, 1) := by decide +kernel
theorem dX7_outcome_9 : decode cX7_outcome 9 = .ok (.aload_n 0, 1) := by decide +kernel
theorem dX7_outcome_10 : decode cX7_outcome 10 = .ok (.getfield 19, 3) := by decide +kernel
theorem dX7_outcome_13 : decode cX7_outcome 13 = .ok (.getfield 244, 3) := by decide +kernel
theorem dX7_outcome_16 : decode cX7_outcome 16 = .ok (.aload_n 0, 1) := by decide +kernel
theorem dX7_outcome_17 : decode cX7_outcome 17 = .ok (.getfield 19, 3) := by decide +kernel
theorem dX7_outcome_20 : decode cX7_outcome 20 = .ok (.getfield 173, 3) := by decide +kernel
theorem dX7_outcome_23 : decode cX7_outcome 23 = .ok (.iload_n 1, 1) := by decide +kernel
theorem dX7_outcome_24 : decode cX7_outcome 24 = .ok (.iaload, 1) := by decide +kernel
theorem dX7_outcome_25 : decode cX7_outcome 25 = .ok (.iaload, 1) := by decide +kernel
theorem dX7_outcome_26 : decode cX7_outcome 26 = .ok (.isub, 1) := by decide +kernel
theorem dX7_outcome_27 : decode cX7_outcome 27 = .ok (.invokestatic 327, 3) := by decide +kernel
theorem dX7_outcome_30 : decode cX7_outcome 30 = .ok (.istore_n 3, 1) := by decide +kernel
theorem dX7_outcome_31 : decode cX7_outcome 31 = .ok (.iload_n 2, 1) := by decide +kernel
theorem dX7_outcome_32 : decode cX7_outcome 32 = .ok (.ifCond .ne 13, 3) := by decide +kernel
theorem dX7_outcome_35 : decode cX7_outcome 35 = .ok (.iload_n 3, 1) := by decide +kernel
theorem dX7_outcome_36 : decode cX7_outcome 36 = .ok (.ifCond .ne 7, 3) := by decide +kernel
theorem dX7_outcome_39 : decode cX7_outcome 39 = .ok (.iconst 1, 1) := by decide +kernel
theorem dX7_outcome_40 : decode cX7_outcome 40 = .ok (.goto 4, 3) := by decide +kernel
theorem dX7_outcome_43 : decode cX7_outcome 43 = .ok (.iconst 0, 1) := by decide +kernel
theorem dX7_outcome_44 : decode cX7_outcome 44 = .ok (.ireturn, 1) := by decide +kernel
theorem dX7_outcome_45 : decode cX7_outcome 45 = .ok (.iload_n 2, 1) := by decide +kernel
theorem dX7_outcome_46 : decode cX7_outcome 46 = .ok (.iconst 1, 1) := by decide +kernel
theorem dX7_outcome_47 : decode cX7_outcome 47 = .ok (.if_icmp .ne 7, 3) := by decide +kernel
theorem dX7_outcome_50 : decode cX7_outcome 50 = .ok (.iconst 1, 1) := by decide +kernel
theorem dX7_outcome_51 : decode cX7_outcome 51 = .ok (.goto 4, 3) := by decide +kernel
theorem dX7_outcome_54 : decode cX7_outcome 54 = .ok (.iload_n 3, 1) := by decide +kernel
theorem dX7_outcome_55 : decode cX7_outcome 55 = .ok (.ireturn, 1) := by decide +kernel
theorem dX7_choices_0 : decode cX7_choices 0 = .ok (.lconst 1, 1) := by decide +kernel
theorem dX7_choices_1 : decode cX7_choices 1 = .ok (.lstore_n 2, 1) := by decide +kernel
theorem dX7_choices_2 : decode cX7_choices 2 = .ok (.iconst 1, 1) := by decide +kernel
theorem dX7_choices_3 : decode cX7_choices 3 = .ok (.istore 4, 2) := by decide +kernel
theorem dX7_choices_5 : decode cX7_choices 5 = .ok (.iload 4, 2) := by decide +kernel
theorem dX7_choices_7 : decode cX7_choices 7 = .ok (.iload_n 1, 1) := by decide +kernel
theorem dX7_choices_8 : decode cX7_choices 8 = .ok (.if_icmp .gt 23, 3) := by decide +kernel
theorem dX7_choices_11 : decode cX7_choices 11 = .ok (.lload_n 2, 1) := by decide +kernel
theorem dX7_choices_12 : decode cX7_choices 12 = .ok (.iload_n 0, 1) := by decide +kernel
theorem dX7_choices_13 : decode cX7_choices 13 = .ok (.iload_n 1, 1) := by decide +kernel
theorem dX7_choices_14 : decode cX7_choices 14 = .ok (.isub, 1) := by decide +kernel
theorem dX7_choices_15 : decode cX7_choices 15 = .ok (.iload 4, 2) := by decide +kernel
theorem dX7_choices_17 : decode cX7_choices 17 = .ok (.iadd, 1) := by decide +kernel
theorem dX7_choices_18 : decode cX7_choices 18 = .ok (.i2l, 1) := by decide +kernel
theorem dX7_choices_19 : decode cX7_choices 19 = .ok (.lmul, 1) := by decide +kernel
theorem dX7_choices_20 : decode cX7_choices 20 = .ok (.iload 4, 2) := by decide +kernel
theorem dX7_choices_22 : decode cX7_choices 22 = .ok (.i2l, 1) := by decide +kernel
theorem dX7_choices_23 : decode cX7_choices 23 = .ok (.ldiv, 1) := by decide +kernel
theorem dX7_choices_24 : decode cX7_choices 24 = .ok (.lstore_n 2, 1) := by decide +kernel
theorem dX7_choices_25 : decode cX7_choices 25 = .ok (.iinc 4 1, 3) := by decide +kernel
theorem dX7_choices_28 : decode cX7_choices 28 = .ok (.goto (-23), 3) := by decide +kernel
theorem dX7_choices_31 : decode cX7_choices 31 = .ok (.lload_n 2, 1) := by decide +kernel
theorem dX7_choices_32 : decode cX7_choices 32 = .ok (.lreturn, 1) := by decide +kernel
theorem dX7_power_0 : decode cX7_power 0 = .ok (.lconst 1, 1) := by decide +kernel
theorem dX7_power_1 : decode cX7_power 1 = .ok (.lstore_n 2, 1) := by decide +kernel
theorem dX7_power_2 : decode cX7_power 2 = .ok (.iconst 0, 1) := by decide +kernel
theorem dX7_power_3 : decode cX7_power 3 = .ok (.istore 4, 2) := by decide +kernel
theorem dX7_power_5 : decode cX7_power 5 = .ok (.iload 4, 2) := by decide +kernel
theorem dX7_power_7 : decode cX7_power 7 = .ok (.iload_n 1, 1) := by decide +kernel
theorem dX7_power_8 : decode cX7_power 8 = .ok (.if_icmp .ge 14, 3) := by decide +kernel
theorem dX7_power_11 : decode cX7_power 11 = .ok (.lload_n 2, 1) := by decide +kernel
theorem dX7_power_12 : decode cX7_power 12 = .ok (.iload_n 0, 1) := by decide +kernel
theorem dX7_power_13 : decode cX7_power 13 = .ok (.i2l, 1) := by decide +kernel
theorem dX7_power_14 : decode cX7_power 14 = .ok (.lmul, 1) := by decide +kernel
theorem dX7_power_15 : decode cX7_power 15 = .ok (.lstore_n 2, 1) := by decide +kernel
theorem dX7_power_16 : decode cX7_power 16 = .ok (.iinc 4 1, 3) := by decide +kernel
theorem dX7_power_19 : decode cX7_power 19 = .ok (.goto (-14), 3) := by decide +kernel
theorem dX7_power_22 : decode cX7_power 22 = .ok (.lload_n 2, 1) := by decide +kernel
theorem dX7_power_23 : decode cX7_power 23 = .ok (.lreturn, 1) := by decide +kernel
theorem dX7_firstKnown_0 : decode cX7_firstKnown 0 = .ok (.aload_n 0, 1) := by decide +kernel
theorem dX7_firstKnown_1 : decode cX7_firstKnown 1 = .ok (.getfield 19, 3) := by decide +kernel
theorem dX7_firstKnown_4 : decode cX7_firstKnown 4 = .ok (.getfield 139, 3) := by decide +kernel
theorem dX7_firstKnown_7 : decode cX7_firstKnown 7 = .ok (.iload_n 1, 1) := by decide +kernel
theorem dX7_firstKnown_8 : decode cX7_firstKnown 8 = .ok (.iaload, 1) := by decide +kernel
theorem dX7_firstKnown_9 : decode cX7_firstKnown 9 = .ok (.istore_n 3, 1) := by decide +kernel
theorem dX7_firstKnown_10 : decode cX7_firstKnown 10 = .ok (.aload_n 0, 1) := by decide +kernel
theorem dX7_firstKnown_11 : decode cX7_firstKnown 11 = .ok (.getfield 10, 3) := by decide +kernel
theorem dX7_firstKnown_14 : decode cX7_firstKnown 14 = .ok (.iload_n 3, 1) := by decide +kernel
theorem dX7_firstKnown_15 : decode cX7_firstKnown 15 = .ok (.iload_n 2, 1) := by decide +kernel
theorem dX7_firstKnown_16 : decode cX7_firstKnown 16 = .ok (.invokevirtual 90, 3) := by decide +kernel
theorem dX7_firstKnown_19 : decode cX7_firstKnown 19 = .ok (.ifCond .ne 6, 3) := by decide +kernel
theorem dX7_firstKnown_22 : decode cX7_firstKnown 22 = .ok (.bipush (-4), 2) := by decide +kernel
theorem dX7_firstKnown_24 : decode cX7_firstKnown 24 = .ok (.ireturn, 1) := by decide +kernel
theorem dX7_firstKnown_25 : decode cX7_firstKnown 25 = .ok (.aload_n 0, 1) := by decide +kernel
theorem dX7_firstKnown_26 : decode cX7_firstKnown 26 = .ok (.getfield 19, 3) := by decide +kernel
theorem dX7_firstKnown_29 : decode cX7_firstKnown 29 = .ok (.getfield 142, 3) := by decide +kernel
theorem dX7_firstKnown_32 : decode cX7_firstKnown 32 = .ok (.iload_n 1, 1) := by decide +kernel
theorem dX7_firstKnown_33 : decode cX7_firstKnown 33 = .ok (.iaload, 1) := by decide +kernel
theorem dX7_firstKnown_34 : decode cX7_firstKnown 34 = .ok (.aload_n 0, 1) := by decide +kernel
theorem dX7_firstKnown_35 : decode cX7_firstKnown 35 = .ok (.getfield 10, 3) := by decide +kernel
theorem dX7_firstKnown_38 : decode cX7_firstKnown 38 = .ok (.iload_n 3, 1) := by decide +kernel
theorem dX7_firstKnown_39 : decode cX7_firstKnown 39 = .ok (.iload_n 2, 1) := by decide +kernel
theorem dX7_firstKnown_40 : decode cX7_firstKnown 40 = .ok (.invokevirtual 94, 3) := by decide +kernel
theorem dX7_firstKnown_43 : decode cX7_firstKnown 43 = .ok (.iadd, 1) := by decide +kernel
theorem dX7_firstKnown_44 : decode cX7_firstKnown 44 = .ok (.ireturn, 1) := by decide +kernel
theorem dX7_lagBehind_0 : decode cX7_lagBehind 0 = .ok (.bipush (-4), 2) := by decide +kernel
theorem dX7_lagBehind_2 : decode cX7_lagBehind 2 = .ok (.istore_n 3, 1) := by decide +kernel
theorem dX7_lagBehind_3 : decode cX7_lagBehind 3 = .ok (.iconst 0, 1) := by decide +kernel
theorem dX7_lagBehind_4 : decode cX7_lagBehind 4 = .ok (.istore 4, 2) := by decide +kernel
theorem dX7_lagBehind_6 : decode cX7_lagBehind 6 = .ok (.iload 4, 2) := by decide +kernel
theorem dX7_lagBehind_8 : decode cX7_lagBehind 8 = .ok (.bipush 6, 2) := by decide +kernel
theorem dX7_lagBehind_10 : decode cX7_lagBehind 10 = .ok (.if_icmp .ge 43, 3) := by decide +kernel
theorem dX7_lagBehind_13 : decode cX7_lagBehind 13 = .ok (.aload_n 0, 1) := by decide +kernel
theorem dX7_lagBehind_14 : decode cX7_lagBehind 14 = .ok (.iload_n 1, 1) := by decide +kernel
theorem dX7_lagBehind_15 : decode cX7_lagBehind 15 = .ok (.iload 4, 2) := by decide +kernel
theorem dX7_lagBehind_17 : decode cX7_lagBehind 17 = .ok (.invokevirtual 262, 3) := by decide +kernel
theorem dX7_lagBehind_20 : decode cX7_lagBehind 20 = .ok (.istore 5, 2) := by decide +kernel
theorem dX7_lagBehind_22 : decode cX7_lagBehind 22 = .ok (.iload 5, 2) := by decide +kernel
theorem dX7_lagBehind_24 : decode cX7_lagBehind 24 = .ok (.iload_n 2, 1) := by decide +kernel
theorem dX7_lagBehind_25 : decode cX7_lagBehind 25 = .ok (.if_icmp .le 22, 3) := by decide +kernel
theorem dX7_lagBehind_28 : decode cX7_lagBehind 28 = .ok (.iload_n 3, 1) := by decide +kernel
theorem dX7_lagBehind_29 : decode cX7_lagBehind 29 = .ok (.bipush (-4), 2) := by decide +kernel
theorem dX7_lagBehind_31 : decode cX7_lagBehind 31 = .ok (.if_icmp .eq 11, 3) := by decide +kernel
theorem dX7_lagBehind_34 : decode cX7_lagBehind 34 = .ok (.iload 5, 2) := by decide +kernel
theorem dX7_lagBehind_36 : decode cX7_lagBehind 36 = .ok (.iload_n 2, 1) := by decide +kernel
theorem dX7_lagBehind_37 : decode cX7_lagBehind 37 = .ok (.isub, 1) := by decide +kernel
theorem dX7_lagBehind_38 : decode cX7_lagBehind 38 = .ok (.iload_n 3, 1) := by decide +kernel
theorem dX7_lagBehind_39 : decode cX7_lagBehind 39 = .ok (.if_icmp .ge 8, 3) := by decide +kernel
theorem dX7_lagBehind_42 : decode cX7_lagBehind 42 = .ok (.iload 5, 2) := by decide +kernel
theorem dX7_lagBehind_44 : decode cX7_lagBehind 44 = .ok (.iload_n 2, 1) := by decide +kernel
theorem dX7_lagBehind_45 : decode cX7_lagBehind 45 = .ok (.isub, 1) := by decide +kernel
theorem dX7_lagBehind_46 : decode cX7_lagBehind 46 = .ok (.istore_n 3, 1) := by decide +kernel
theorem dX7_lagBehind_47 : decode cX7_lagBehind 47 = .ok (.iinc 4 1, 3) := by decide +kernel
theorem dX7_lagBehind_50 : decode cX7_lagBehind 50 = .ok (.goto (-44), 3) := by decide +kernel
theorem dX7_lagBehind_53 : decode cX7_lagBehind 53 = .ok (.iload_n 3, 1) := by decide +kernel
theorem dX7_lagBehind_54 : decode cX7_lagBehind 54 = .ok (.ireturn, 1) := by decide +kernel
theorem dX8_init_0 : decode cX8_init 0 = .ok (.aload_n 0, 1) := by decide +kernel
theorem dX8_init_1 : decode cX8_init 1 = .ok (.invokespecial 1, 3) := by decide +kernel
theorem dX8_init_4 : decode cX8_init 4 = .ok (.aload_n 0, 1) := by decide +kernel
theorem dX8_init_5 : decode cX8_init 5 = .ok (.bipush 36, 2) := by decide +kernel
theorem dX8_init_7 : decode cX8_init 7 = .ok (.newarray .int, 2) := by decide +kernel
theorem dX8_init_9 : decode cX8_init 9 = .ok (.putfield 7, 3) := by decide +kernel
theorem dX8_init_12 : decode cX8_init 12 = .ok (.aload_n 0, 1) := by decide +kernel
theorem dX8_init_13 : decode cX8_init 13 = .ok (.bipush 36, 2) := by decide +kernel
theorem dX8_init_15 : decode cX8_init 15 = .ok (.newarray .int, 2) := by decide +kernel
theorem dX8_init_17 : decode cX8_init 17 = .ok (.putfield 13, 3) := by decide +kernel
theorem dX8_init_20 : decode cX8_init 20 = .ok (.aload_n 0, 1) := by decide +kernel
theorem dX8_init_21 : decode cX8_init 21 = .ok (.bipush 36, 2) := by decide +kernel
theorem dX8_init_23 : decode cX8_init 23 = .ok (.newarray .int, 2) := by decide +kernel
theorem dX8_init_25 : decode cX8_init 25 = .ok (.putfield 16, 3) := by decide +kernel
theorem dX8_init_28 : decode cX8_init 28 = .ok (.aload_n 0, 1) := by decide +kernel
theorem dX8_init_29 : decode cX8_init 29 = .ok (.iconst 3, 1) := by decide +kernel
theorem dX8_init_30 : decode cX8_init 30 = .ok (.newarray .int, 2) := by decide +kernel
theorem dX8_init_32 : decode cX8_init 32 = .ok (.putfield 19, 3) := by decide +kernel
theorem dX8_init_35 : decode cX8_init 35 = .ok (.aload_n 0, 1) := by decide +kernel
theorem dX8_init_36 : decode cX8_init 36 = .ok (.bipush 108, 2) := by decide +kernel
theorem dX8_init_38 : decode cX8_init 38 = .ok (.newarray .int, 2) := by decide +kernel
theorem dX8_init_40 : decode cX8_init 40 = .ok (.putfield 22, 3) := by decide +kernel
theorem dX8_init_43 : decode cX8_init 43 = .ok (.aload_n 0, 1) := by decide +kernel
theorem dX8_init_44 : decode cX8_init 44 = .ok (.iconst 3, 1) := by decide +kernel
theorem dX8_init_45 : decode cX8_init 45 = .ok (.newarray .int, 2) := by decide +kernel
theorem dX8_init_47 : decode cX8_init 47 = .ok (.putfield 25, 3) := by decide +kernel
theorem dX8_init_50 : decode cX8_init 50 = .ok (.aload_n 0, 1) := by decide +kernel
theorem dX8_init_51 : decode cX8_init 51 = .ok (.bipush 120, 2) := by decide +kernel
theorem dX8_init_53 : decode cX8_init 53 = .ok (.newarray .int, 2) := by decide +kernel
theorem dX8_init_55 : decode cX8_init 55 = .ok (.putfield 28, 3) := by decide +kernel
theorem dX8_init_58 : decode cX8_init 58 = .ok (.aload_n 0, 1) := by decide +kernel
theorem dX8_init_59 : decode cX8_init 59 = .ok (.iconst 3, 1) := by decide +kernel
theorem dX8_init_60 : decode cX8_init 60 = .ok (.newarray .int, 2) := by decide +kernel
theorem dX8_init_62 : decode cX8_init 62 = .ok (.putfield 31, 3) := by decide +kernel
theorem dX8_init_65 : decode cX8_init 65 = .ok (.aload_n 0, 1) := by decide +kernel
theorem dX8_init_66 : decode cX8_init 66 = .ok (.sipush 540, 3) := by decide +kernel
theorem dX8_init_69 : decode cX8_init 69 = .ok (.newarray .int, 2) := by decide +kernel
theorem dX8_init_71 : decode cX8_init 71 = .ok (.putfield 34, 3) := by decide +kernel
theorem dX8_init_74 : decode cX8_init 74 = .ok (.aload_n 0, 1) := by decide +kernel
theorem dX8_init_75 : decode cX8_init 75 = .ok (.bipush 60, 2) := by decide +kernel
theorem dX8_init_77 : decode cX8_init 77 = .ok (.newarray .int, 2) := by decide +kernel
theorem dX8_init_79 : decode cX8_init 79 = .ok (.putfield 37, 3) := by decide +kernel
theorem dX8_init_82 : decode cX8_init 82 = .ok (.aload_n 0, 1) := by decide +kernel
theorem dX8_init_83 : decode cX8_init 83 = .ok (.bipush 30, 2) := by decide +kernel
theorem dX8_init_85 : decode cX8_init 85 = .ok (.newarray .int, 2) := by decide +kernel
theorem dX8_init_87 : decode cX8_init 87 = .ok (.putfield 40, 3) := by decide +kernel
theorem dX8_init_90 : decode cX8_init 90 = .ok (.aload_n 0, 1) := by decide +kernel
theorem dX8_init_91 : decode cX8_init 91 = .ok (.bipush 12, 2) := by decide +kernel
theorem dX8_init_93 : decode cX8_init 93 = .ok (.putfield 43, 3) := by decide +kernel
theorem dX8_init_96 : decode cX8_init 96 = .ok (.aload_n 0, 1) := by decide +kernel
theorem dX8_init_97 : decode cX8_init 97 = .ok (.sipush 200, 3) := by decide +kernel
theorem dX8_init_100 : decode cX8_init 100 = .ok (.newarray .int, 2) := by decide +kernel
theorem dX8_init_102 : decode cX8_init 102 = .ok (.putfield 47, 3) := by decide +kernel
theorem dX8_init_105 : decode cX8_init 105 = .ok (.aload_n 0, 1) := by decide +kernel
theorem dX8_init_106 : decode cX8_init 106 = .ok (.iconst 2, 1) := by decide +kernel
theorem dX8_init_107 : decode cX8_init 107 = .ok (.newarray .int, 2) := by decide +kernel
theorem dX8_init_109 : decode cX8_init 109 = .ok (.putfield 50, 3) := by decide +kernel
theorem dX8_init_112 : decode cX8_init 112 = .ok (.aload_n 0, 1) := by decide +kernel
theorem dX8_init_113 : decode cX8_init 113 = .ok (.sipush 400, 3) := by decide +kernel
theorem dX8_init_116 : decode cX8_init 116 = .ok (.newarray .int, 2) := by decide +kernel
theorem dX8_init_118 : decode cX8_init 118 = .ok (.putfield 53, 3) := by decide +kernel
theorem dX8_init_121 : decode cX8_init 121 = .ok (.aload_n 0, 1) := by decide +kernel
theorem dX8_init_122 : decode cX8_init 122 = .ok (.bipush 24, 2) := by decide +kernel
theorem dX8_init_124 : decode cX8_init 124 = .ok (.newarray .int, 2) := by decide +kernel
theorem dX8_init_126 : decode cX8_init 126 = .ok (.putfield 56, 3) := by decide +kernel
theorem dX8_init_129 : decode cX8_init 129 = .ok (.aload_n 0, 1) := by decide +kernel
theorem dX8_init_130 : decode cX8_init 130 = .ok (.bipush 6, 2) := by decide +kernel
theorem dX8_init_132 : decode cX8_init 132 = .ok (.newarray .int, 2) := by decide +kernel
theorem dX8_init_134 : decode cX8_init 134 = .ok (.putfield 59, 3) := by decide +kernel
theorem dX8_init_137 : decode cX8_init 137 = .ok (.aload_n 0, 1) := by decide +kernel
theorem dX8_init_138 : decode cX8_init 138 = .ok (.bipush 12, 2) := by decide +kernel
theorem dX8_init_140 : decode cX8_init 140 = .ok (.newarray .int, 2) := by decide +kernel
theorem dX8_init_142 : decode cX8_init 142 = .ok (.putfield 62, 3) := by decide +kernel
theorem dX8_init_145 : decode cX8_init 145 = .ok (.aload_n 0, 1) := by decide +kernel
theorem dX8_init_146 : decode cX8_init 146 = .ok (.bipush 12, 2) := by decide +kernel
theorem dX8_init_148 : decode cX8_init 148 = .ok (.newarray .int, 2) := by decide +kernel
theorem dX8_init_150 : decode cX8_init 150 = .ok (.putfield 65, 3) := by decide +kernel
theorem dX8_init_153 : decode cX8_init 153 = .ok (.aload_n 0, 1) := by decide +kernel
theorem dX8_init_154 : decode cX8_init 154 = .ok (.bipush 30, 2) := by decide +kernel
theorem dX8_init_156 : decode cX8_init 156 = .ok (.newarray .int, 2) := by decide +kernel
theorem dX8_init_158 : decode cX8_init 158 = .ok (.putfield 68, 3) := by decide +kernel
theorem dX8_init_161 : decode cX8_init 161 = .ok (.aload_n 0, 1) := by decide +kernel
theorem dX8_init_162 : decode cX8_init 162 = .ok (.iconst 4, 1) := by decide +kernel
theorem dX8_init_163 : decode cX8_init 163 = .ok (.newarray .int, 2) := by decide +kernel
theorem dX8_init_165 : decode cX8_init 165 = .ok (.putfield 71, 3) := by decide +kernel
theorem dX8_init_168 : decode cX8_init 168 = .ok (.iconst 0, 1) := by decide +kernel
theorem dX8_init_169 : decode cX8_init 169 = .ok (.istore_n 1, 1) := by decide +kernel
theorem dX8_init_170 : decode cX8_init 170 = .ok (.iload_n 1, 1) := by decide +kernel
theorem dX8_init_171 : decode cX8_init 171 = .ok (.bipush 10, 2) := by decide +kernel
theorem dX8_init_173 : decode cX8_init 173 = .ok (.if_icmp .ge 25, 3) := by decide +kernel
theorem dX8_init_176 : decode cX8_init 176 = .ok (.aload_n 0, 1) := by decide +kernel
theorem dX8_init_177 : decode cX8_init 177 = .ok (.getfield 37, 3) := by decide +kernel
theorem dX8_init_180 : decode cX8_init 180 = .ok (.iconst 2, 1) := by decide +kernel
theorem dX8_init_181 : decode cX8_init 181 = .ok (.iload_n 1, 1) := by decide +kernel
theorem dX8_init_182 : decode cX8_init 182 = .ok (.imul, 1) := by decide +kernel
theorem dX8_init_183 : decode cX8_init 183 = .ok (.iconst (-1), 1) := by decide +kernel
theorem dX8_init_184 : decode cX8_init 184 = .ok (.iastore, 1) := by decide +kernel
theorem dX8_init_185 : decode cX8_init 185 = .ok (.aload_n 0, 1) := by decide +kernel
theorem dX8_init_186 : decode cX8_init 186 = .ok (.getfield 40, 3) := by decide +kernel
theorem dX8_init_189 : decode cX8_init 189 = .ok (.iload_n 1, 1) := by decide +kernel
theorem dX8_init_190 : decode cX8_init 190 = .ok (.iconst (-1), 1) := by decide +kernel
theorem dX8_init_191 : decode cX8_init 191 = .ok (.iastore, 1) := by decide +kernel
theorem dX8_init_192 : decode cX8_init 192 = .ok (.iinc 1 1, 3) := by decide +kernel
theorem dX8_init_195 : decode cX8_init 195 = .ok (.goto (-25), 3) := by decide +kernel
theorem dX8_init_198 : decode cX8_init 198 = .ok (.aload_n 0, 1) := by decide +kernel
theorem dX8_init_199 : decode cX8_init 199 = .ok (.invokevirtual 74, 3) := by decide +kernel
theorem dX8_init_202 : decode cX8_init 202 = .ok (.return_, 1) := by decide +kernel
theorem dX8_in_0 : decode cX8_in 0 = .ok (.lload_n 0, 1) := by decide +kernel
theorem dX8_in_1 : decode cX8_in 1 = .ok (.lload_n 2, 1) := by decide +kernel
theorem dX8_in_2 : decode cX8_in 2 = .ok (.lcmp, 1) := by decide +kernel
theorem dX8_in_3 : decode cX8_in 3 = .ok (.ifCond .lt 14, 3) := by decide +kernel
theorem dX8_in_6 : decode cX8_in 6 = .ok (.lload_n 0, 1) := by decide +kernel
theorem dX8_in_7 : decode cX8_in 7 = .ok (.lload 4, 2) := by decide +kernel
theorem dX8_in_9 : decode cX8_in 9 = .ok (.lcmp, 1) := by decide +kernel
theorem dX8_in_10 : decode cX8_in 10 = .ok (.ifCond .gt 7, 3) := by decide +kernel
theorem dX8_in_13 : decode cX8_in 13 = .ok (.iconst 1, 1) := by decide +kernel
theorem dX8_in_14 : decode cX8_in 14 = .ok (.goto 4, 3) := by decide +kernel
theorem dX8_in_17 : decode cX8_in 17 = .ok (.iconst 0, 1) := by decide +kernel
theorem dX8_in_18 : decode cX8_in 18 = .ok (.ireturn, 1) := by decide +kernel
theorem dX8_isTown_0 : decode cX8_isTown 0 = .ok (.iload_n 0, 1) := by decide +kernel
theorem dX8_isTown_1 : decode cX8_isTown 1 = .ok (.i2l, 1) := by decide +kernel
theorem dX8_isTown_2 : decode cX8_isTown 2 = .ok (.lconst 0, 1) := by decide +kernel
theorem dX8_isTown_3 : decode cX8_isTown 3 = .ok (.ldc2_w 77, 3) := by decide +kernel
theorem dX8_isTown_6 : decode cX8_isTown 6 = .ok (.invokestatic 79, 3) := by decide +kernel
theorem dX8_isTown_9 : decode cX8_isTown 9 = .ok (.ireturn, 1) := by decide +kernel
theorem dX8_isDay_0 : decode cX8_isDay 0 = .ok (.iload_n 0, 1) := by decide +kernel
theorem dX8_isDay_1 : decode cX8_isDay 1 = .ok (.i2l, 1) := by decide +kernel
theorem dX8_isDay_2 : decode cX8_isDay 2 = .ok (.lconst 0, 1) := by decide +kernel
theorem dX8_isDay_3 : decode cX8_isDay 3 = .ok (.ldc2_w 83, 3) := by decide +kernel
theorem dX8_isDay_6 : decode cX8_isDay 6 = .ok (.invokestatic 79, 3) := by decide +kernel
theorem dX8_isDay_9 : decode cX8_isDay 9 = .ok (.ireturn, 1) := by decide +kernel
theorem dX8_isThing_0 : decode cX8_isThing 0 = .ok (.iload_n 0, 1) := by decide +kernel
theorem dX8_isThing_1 : decode cX8_isThing 1 = .ok (.i2l, 1) := by decide +kernel
theorem dX8_isThing_2 : decode cX8_isThing 2 = .ok (.lconst 0, 1) := by decide +kernel
theorem dX8_isThing_3 : decode cX8_isThing 3 = .ok (.ldc2_w 85, 3) := by decide +kernel
theorem dX8_isThing_6 : decode cX8_isThing 6 = .ok (.invokestatic 79, 3) := by decide +kernel
theorem dX8_isThing_9 : decode cX8_isThing 9 = .ok (.ireturn, 1) := by decide +kernel
theorem dX8_isSheet_0 : decode cX8_isSheet 0 = .ok (.iload_n 1, 1) := by decide +kernel
theorem dX8_isSheet_1 : decode cX8_isSheet 1 = .ok (.i2l, 1) := by decide +kernel
theorem dX8_isSheet_2 : decode cX8_isSheet 2 = .ok (.lconst 0, 1) := by decide +kernel
theorem dX8_isSheet_3 : decode cX8_isSheet 3 = .ok (.aload_n 0, 1) := by decide +kernel
theorem dX8_isSheet_4 : decode cX8_isSheet 4 = .ok (.getfield 19, 3) := by decide +kernel
theorem dX8_isSheet_7 : decode cX8_isSheet 7 = .ok (.iconst 0, 1) := by decide +kernel
theorem dX8_isSheet_8 : decode cX8_isSheet 8 = .ok (.iaload, 1) := by decide +kernel
theorem dX8_isSheet_9 : decode cX8_isSheet 9 = .ok (.iconst 1, 1) := by decide +kernel
theorem dX8_isSheet_10 : decode cX8_isSheet 10 = .ok (.isub, 1) := by decide +kernel
theorem dX8_isSheet_11 : decode cX8_isSheet 11 = .ok (.i2l, 1) := by decide +kernel
theorem dX8_isSheet_12 : decode cX8_isSheet 12 = .ok (.invokestatic 79, 3) := by decide +kernel
theorem dX8_isSheet_15 : decode cX8_isSheet 15 = .ok (.ireturn, 1) := by decide +kernel
theorem dX8_isSaying_0 : decode cX8_isSaying 0 = .ok (.iload_n 1, 1) := by decide +kernel
theorem dX8_isSaying_1 : decode cX8_isSaying 1 = .ok (.i2l, 1) := by decide +kernel
theorem dX8_isSaying_2 : decode cX8_isSaying 2 = .ok (.lconst 0, 1) := by decide +kernel
theorem dX8_isSaying_3 : decode cX8_isSaying 3 = .ok (.aload_n 0, 1) := by decide +kernel
theorem dX8_isSaying_4 : decode cX8_isSaying 4 = .ok (.getfield 31, 3) := by decide +kernel
theorem dX8_isSaying_7 : decode cX8_isSaying 7 = .ok (.iconst 0, 1) := by decide +kernel
theorem dX8_isSaying_8 : decode cX8_isSaying 8 = .ok (.iaload, 1) := by decide +kernel
theorem dX8_isSaying_9 : decode cX8_isSaying 9 = .ok (.iconst 1, 1) := by decide +kernel
theorem dX8_isSaying_10 : decode cX8_isSaying 10 = .ok (.isub, 1) := by decide +kernel
theorem dX8_isSaying_11 : decode cX8_isSaying 11 = .ok (.i2l, 1) := by decide +kernel
theorem dX8_isSaying_12 : decode cX8_isSaying 12 = .ok (.invokestatic 79, 3) := by decide +kernel
theorem dX8_isSaying_15 : decode cX8_isSaying 15 = .ok (.ireturn, 1) := by decide +kernel
theorem dX8_layWays_0 : decode cX8_layWays 0 = .ok (.iconst 0, 1) := by decide +kernel
theorem dX8_layWays_1 : decode cX8_layWays 1 = .ok (.istore_n 1, 1) := by decide +kernel
theorem dX8_layWays_2 : decode cX8_layWays 2 = .ok (.iload_n 1, 1) := by decide +kernel
theorem dX8_layWays_3 : decode cX8_layWays 3 = .ok (.bipush 6, 2) := by decide +kernel
theorem dX8_layWays_5 : decode cX8_layWays 5 = .ok (.if_icmp .ge 73, 3) := by decide +kernel
theorem dX8_layWays_8 : decode cX8_layWays 8 = .ok (.iconst 0, 1) := by decide +kernel
theorem dX8_layWays_9 : decode cX8_layWays 9 = .ok (.istore_n 2, 1) := by decide +kernel
theorem dX8_layWays_10 : decode cX8_layWays 10 = .ok (.iload_n 2, 1) := by decide +kernel
theorem dX8_layWays_11 : decode cX8_layWays 11 = .ok (.bipush 6, 2) := by decide +kernel
theorem dX8_layWays_13 : decode cX8_layWays 13 = .ok (.if_icmp .ge 59, 3) := by decide +kernel
theorem dX8_layWays_16 : decode cX8_layWays 16 = .ok (.aload_n 0, 1) := by decide +kernel
theorem dX8_layWays_17 : decode cX8_layWays 17 = .ok (.getfield 16, 3) := by decide +kernel
theorem dX8_layWays_20 : decode cX8_layWays 20 = .ok (.bipush 6, 2) := by decide +kernel
theorem dX8_layWays_22 : decode cX8_layWays 22 = .ok (.iload_n 1, 1) := by decide +kernel
theorem dX8_layWays_23 : decode cX8_layWays 23 = .ok (.imul, 1) := by decide +kernel
theorem dX8_layWays_24 : decode cX8_layWays 24 = .ok (.iload_n 2, 1) := by decide +kernel
theorem dX8_layWays_25 : decode cX8_layWays 25 = .ok (.iadd, 1) := by decide +kernel
theorem dX8_layWays_26 : decode cX8_layWays 26 = .ok (.iload_n 1, 1) := by decide +kernel
theorem dX8_layWays_27 : decode cX8_layWays 27 = .ok (.iload_n 2, 1) := by decide +kernel
theorem dX8_layWays_28 : decode cX8_layWays 28 = .ok (.if_icmp .ne 7, 3) := by decide +kernel
theorem dX8_layWays_31 : decode cX8_layWays 31 = .ok (.iconst 0, 1) := by decide +kernel
theorem dX8_layWays_32 : decode cX8_layWays 32 = .ok (.goto 33, 3) := by decide +kernel
theorem dX8_layWays_35 : decode cX8_layWays 35 = .ok (.aload_n 0, 1) := by decide +kernel
theorem dX8_layWays_36 : decode cX8_layWays 36 = .ok (.getfield 7, 3) := by decide +kernel
theorem dX8_layWays_39 : decode cX8_layWays 39 = .ok (.bipush 6, 2) := by decide +kernel
theorem dX8_layWays_41 : decode cX8_layWays 41 = .ok (.iload_n 1, 1) := by decide +kernel
theorem dX8_layWays_42 : decode cX8_layWays 42 = .ok (.imul, 1) := by decide +kernel
theorem dX8_layWays_43 : decode cX8_layWays 43 = .ok (.iload_n 2, 1) := by decide +kernel
theorem dX8_layWays_44 : decode cX8_layWays 44 = .ok (.iadd, 1) := by decide +kernel
theorem dX8_layWays_45 : decode cX8_layWays 45 = .ok (.iaload, 1) := by decide +kernel
theorem dX8_layWays_46 : decode cX8_layWays 46 = .ok (.ifCond .le 17, 3) := by decide +kernel
theorem dX8_layWays_49 : decode cX8_layWays 49 = .ok (.aload_n 0, 1) := by decide +kernel
theorem dX8_layWays_50 : decode cX8_layWays 50 = .ok (.getfield 7, 3) := by decide +kernel
theorem dX8_layWays_53 : decode cX8_layWays 53 = .ok (.bipush 6, 2) := by decide +kernel
theorem dX8_layWays_55 : decode cX8_layWays 55 = .ok (.iload_n 1, 1) := by decide +kernel
theorem dX8_layWays_56 : decode cX8_layWays 56 = .ok (.imul, 1) := by decide +kernel
theorem dX8_layWays_57 : decode cX8_layWays 57 = .ok (.iload_n 2, 1) := by decide +kernel
theorem dX8_layWays_58 : decode cX8_layWays 58 = .ok (.iadd, 1) := by decide +kernel
theorem dX8_layWays_59 : decode cX8_layWays 59 = .ok (.iaload, 1) := by decide +kernel
theorem dX8_layWays_60 : decode cX8_layWays 60 = .ok (.goto 5, 3) := by decide +kernel
theorem dX8_layWays_63 : decode cX8_layWays 63 = .ok (.bipush (-4), 2) := by decide +kernel
theorem dX8_layWays_65 : decode cX8_layWays 65 = .ok (.iastore, 1) := by decide +kernel
theorem dX8_layWays_66 : decode cX8_layWays 66 = .ok (.iinc 2 1, 3) := by decide +kernel
theorem dX8_layWays_69 : decode cX8_layWays 69 = .ok (.goto (-59), 3) := by decide +kernel
theorem dX8_layWays_72 : decode cX8_layWays 72 = .ok (.iinc 1 1, 3) := by decide +kernel
theorem dX8_layWays_75 : decode cX8_layWays 75 = .ok (.goto (-73), 3) := by decide +kernel
theorem dX8_layWays_78 : decode cX8_layWays 78 = .ok (.iconst 0, 1) := by decide +kernel
theorem dX8_layWays_79 : decode cX8_layWays 79 = .ok (.istore_n 1, 1) := by decide +kernel
theorem dX8_layWays_80 : decode cX8_layWays 80 = .ok (.iload_n 1, 1) := by decide +kernel
theorem dX8_layWays_81 : decode cX8_layWays 81 = .ok (.bipush 6, 2) := by decide +kernel
theorem dX8_layWays_83 : decode cX8_layWays 83 = .ok (.if_icmp .ge 122, 3) := by decide +kernel
theorem dX8_layWays_86 : decode cX8_layWays 86 = .ok (.iconst 0, 1) := by decide +kernel
theorem dX8_layWays_87 : decode cX8_layWays 87 = .ok (.istore_n 2, 1) := by decide +kernel
theorem dX8_layWays_88 : decode cX8_layWays 88 = .ok (.iload_n 2, 1) := by decide +kernel
theorem dX8_layWays_89 : decode cX8_layWays 89 = .ok (.bipush 6, 2) := by decide +kernel
theorem dX8_layWays_91 : decode cX8_layWays 91 = .ok (.if_icmp .ge 108, 3) := by decide +kernel
theorem dX8_layWays_94 : decode cX8_layWays 94 = .ok (.iconst 0, 1) := by decide +kernel
theorem dX8_layWays_95 : decode cX8_layWays 95 = .ok (.istore_n 3, 1) := by decide +kernel
theorem dX8_layWays_96 : decode cX8_layWays 96 = .ok (.iload_n 3, 1) := by decide +kernel
theorem dX8_layWays_97 : decode cX8_layWays 97 = .ok (.bipush 6, 2) := by decide +kernel
theorem dX8_layWays_99 : decode cX8_layWays 99 = .ok (.if_icmp .ge 94, 3) := by decide +kernel
theorem dX8_layWays_102 : decode cX8_layWays 102 = .ok (.aload_n 0, 1) := by decide +kernel
theorem dX8_layWays_103 : decode cX8_layWays 103 = .ok (.getfield 16, 3) := by decide +kernel
theorem dX8_layWays_106 : decode cX8_layWays 106 = .ok (.bipush 6, 2) := by decide +kernel
theorem dX8_layWays_108 : decode cX8_layWays 108 = .ok (.iload_n 2, 1) := by decide +kernel
theorem dX8_layWays_109 : decode cX8_layWays 109 = .ok (.imul, 1) := by decide +kernel
theorem dX8_layWays_110 : decode cX8_layWays 110 = .ok (.iload_n 1, 1) := by decide +kernel
theorem dX8_layWays_111 : decode cX8_layWays 111 = .ok (.iadd, 1) := by decide +kernel
theorem dX8_layWays_112 : decode cX8_layWays 112 = .ok (.iaload, 1) := by decide +kernel
theorem dX8_layWays_113 : decode cX8_layWays 113 = .ok (.istore 4, 2) := by decide +kernel
theorem dX8_layWays_115 : decode cX8_layWays 115 = .ok (.aload_n 0, 1) := by decide +kernel
theorem dX8_layWays_116 : decode cX8_layWays 116 = .ok (.getfield 16, 3) := by decide +kernel
theorem dX8_layWays_119 : decode cX8_layWays 119 = .ok (.bipush 6, 2) := by decide +kernel
theorem dX8_layWays_121 : decode cX8_layWays 121 = .ok (.iload_n 1, 1) := by decide +kernel
theorem dX8_layWays_122 : decode cX8_layWays 122 = .ok (.imul, 1) := by decide +kernel
theorem dX8_layWays_123 : decode cX8_layWays 123 = .ok (.iload_n 3, 1) := by decide +kernel
theorem dX8_layWays_124 : decode cX8_layWays 124 = .ok (.iadd, 1) := by decide +kernel
theorem dX8_layWays_125 : decode cX8_layWays 125 = .ok (.iaload, 1) := by decide +kernel
theorem dX8_layWays_126 : decode cX8_layWays 126 = .ok (.istore 5, 2) := by decide +kernel
theorem dX8_layWays_128 : decode cX8_layWays 128 = .ok (.iload 4, 2) := by decide +kernel
theorem dX8_layWays_130 : decode cX8_layWays 130 = .ok (.ifCond .lt 57, 3) := by decide +kernel
theorem dX8_layWays_133 : decode cX8_layWays 133 = .ok (.iload 5, 2) := by decide +kernel
theorem dX8_layWays_135 : decode cX8_layWays 135 = .ok (.ifCond .lt 52, 3) := by decide +kernel
theorem dX8_layWays_138 : decode cX8_layWays 138 = .ok (.aload_n 0, 1) := by decide +kernel
theorem dX8_layWays_139 : decode cX8_layWays 139 = .ok (.getfield 16, 3) := by decide +kernel
theorem dX8_layWays_142 : decode cX8_layWays 142 = .ok (.bipush 6, 2) := by decide +kernel
theorem dX8_layWays_144 : decode cX8_layWays 144 = .ok (.iload_n 2, 1) := by decide +kernel
theorem dX8_layWays_145 : decode cX8_layWays 145 = .ok (.imul, 1) := by decide +kernel
theorem dX8_layWays_146 : decode cX8_layWays 146 = .ok (.iload_n 3, 1) := by decide +kernel
theorem dX8_layWays_147 : decode cX8_layWays 147 = .ok (.iadd, 1) := by decide +kernel
theorem dX8_layWays_148 : decode cX8_layWays 148 = .ok (.iaload, 1) := by decide +kernel
theorem dX8_layWays_149 : decode cX8_layWays 149 = .ok (.ifCond .lt 22, 3) := by decide +kernel
theorem dX8_layWays_152 : decode cX8_layWays 152 = .ok (.iload 4, 2) := by decide +kernel
theorem dX8_layWays_154 : decode cX8_layWays 154 = .ok (.iload 5, 2) := by decide +kernel
theorem dX8_layWays_156 : decode cX8_layWays 156 = .ok (.iadd, 1) := by decide +kernel
theorem dX8_layWays_157 : decode cX8_layWays 157 = .ok (.aload_n 0, 1) := by decide +kernel
theorem dX8_layWays_158 : decode cX8_layWays 158 = .ok (.getfield 16, 3) := by decide +kernel
theorem dX8_layWays_161 : decode cX8_layWays 161 = .ok (.bipush 6, 2) := by decide +kernel
theorem dX8_layWays_163 : decode cX8_layWays 163 = .ok (.iload_n 2, 1) := by decide +kernel
theorem dX8_layWays_164 : decode cX8_layWays 164 = .ok (.imul, 1) := by decide +kernel
theorem dX8_layWays_165 : decode cX8_layWays 165 = .ok (.iload_n 3, 1) := by decide +kernel
theorem dX8_layWays_166 : decode cX8_layWays 166 = .ok (.iadd, 1) := by decide +kernel
theorem dX8_layWays_167 : decode cX8_layWays 167 = .ok (.iaload, 1) := by decide +kernel
theorem dX8_layWays_168 : decode cX8_layWays 168 = .ok (.if_icmp .ge 19, 3) := by decide +kernel
theorem dX8_layWays_171 : decode cX8_layWays 171 = .ok (.aload_n 0, 1) := by decide +kernel
theorem dX8_layWays_172 : decode cX8_layWays 172 = .ok (.getfield 16, 3) := by decide +kernel
theorem dX8_layWays_175 : decode cX8_layWays 175 = .ok (.bipush 6, 2) := by decide +kernel
theorem dX8_layWays_177 : decode cX8_layWays 177 = .ok (.iload_n 2, 1) := by decide +kernel
theorem dX8_layWays_178 : decode cX8_layWays 178 = .ok (.imul, 1) := by decide +kernel
theorem dX8_layWays_179 : decode cX8_layWays 179 = .ok (.iload_n 3, 1) := by decide +kernel
theorem dX8_layWays_180 : decode cX8_layWays 180 = .ok (.iadd, 1) := by decide +kernel
theorem dX8_layWays_181 : decode cX8_layWays 181 = .ok (.iload 4, 2) := by decide +kernel
theorem dX8_layWays_183 : decode cX8_layWays 183 = .ok (.iload 5, 2) := by decide +kernel
theorem dX8_layWays_185 : decode cX8_layWays 185 = .ok (.iadd, 1) := by decide +kernel
theorem dX8_layWays_186 : decode cX8_layWays 186 = .ok (.iastore, 1) := by decide +kernel
theorem dX8_layWays_187 : decode cX8_layWays 187 = .ok (.iinc 3 1, 3) := by decide +kernel
theorem dX8_layWays_190 : decode cX8_layWays 190 = .ok (.goto (-94), 3) := by decide +kernel
theorem dX8_layWays_193 : decode cX8_layWays 193 = .ok (.iinc 2 1, 3) := by decide +kernel
theorem dX8_layWays_196 : decode cX8_layWays 196 = .ok (.goto (-108), 3) := by decide +kernel
theorem dX8_layWays_199 : decode cX8_layWays 199 = .ok (.iinc 1 1, 3) := by decide +kernel
theorem dX8_layWays_202 : decode cX8_layWays 202 = .ok (.goto (-122), 3) := by decide +kernel
theorem dX8_layWays_205 : decode cX8_layWays 205 = .ok (.return_, 1) := by decide +kernel
theorem dX8_post_0 : decode cX8_post 0 = .ok (.iload_n 1, 1) := by decide +kernel
theorem dX8_post_1 : decode cX8_post 1 = .ok (.invokestatic 87, 3) := by decide +kernel
theorem dX8_post_4 : decode cX8_post 4 = .ok (.ifCond .eq 41, 3) := by decide +kernel
theorem dX8_post_7 : decode cX8_post 7 = .ok (.iload_n 2, 1) := by decide +kernel
theorem dX8_post_8 : decode cX8_post 8 = .ok (.invokestatic 87, 3) := by decide +kernel
theorem dX8_post_11 : decode cX8_post 11 = .ok (.ifCond .eq 34, 3) := by decide +kernel
theorem dX8_post_14 : decode cX8_post 14 = .ok (.iload_n 1, 1) := by decide +kernel
theorem dX8_post_15 : decode cX8_post 15 = .ok (.iload_n 2, 1) := by decide +kernel
theorem dX8_post_16 : decode cX8_post 16 = .ok (.if_icmp .eq 29, 3) := by decide +kernel
theorem dX8_post_19 : decode cX8_post 19 = .ok (.iload_n 3, 1) := by decide +kernel
theorem dX8_post_20 : decode cX8_post 20 = .ok (.i2l, 1) := by decide +kernel
theorem dX8_post_21 : decode cX8_post 21 = .ok (.lconst 1, 1) := by decide +kernel
theorem dX8_post_22 : decode cX8_post 22 = .ok (.ldc2_w 91, 3) := by decide +kernel
theorem dX8_post_25 : decode cX8_post 25 = .ok (.invokestatic 79, 3) := by decide +kernel
theorem dX8_post_28 : decode cX8_post 28 = .ok (.ifCond .eq 17, 3) := by decide +kernel
theorem dX8_post_31 : decode cX8_post 31 = .ok (.iload 4, 2) := by decide +kernel
theorem dX8_post_33 : decode cX8_post 33 = .ok (.i2l, 1) := by decide +kernel
theorem dX8_post_34 : decode cX8_post 34 = .ok (.iload_n 3, 1) := by decide +kernel
theorem dX8_post_35 : decode cX8_post 35 = .ok (.i2l, 1) := by decide +kernel
theorem dX8_post_36 : decode cX8_post 36 = .ok (.ldc2_w 91, 3) := by decide +kernel
theorem dX8_post_39 : decode cX8_post 39 = .ok (.invokestatic 79, 3) := by decide +kernel
theorem dX8_post_42 : decode cX8_post 42 = .ok (.ifCond .ne 5, 3) := by decide +kernel
theorem dX8_post_45 : decode cX8_post 45 = .ok (.iconst (-1), 1) := by decide +kernel
theorem dX8_post_46 : decode cX8_post 46 = .ok (.ireturn, 1) := by decide +kernel
theorem dX8_post_47 : decode cX8_post 47 = .ok (.aload_n 0, 1) := by decide +kernel
theorem dX8_post_48 : decode cX8_post 48 = .ok (.getfield 19, 3) := by decide +kernel
theorem dX8_post_51 : decode cX8_post 51 = .ok (.iconst 0, 1) := by decide +kernel
theorem dX8_post_52 : decode cX8_post 52 = .ok (.iaload, 1) := by decide +kernel
theorem dX8_post_53 : decode cX8_post 53 = .ok (.ifCond .le 6, 3) := by decide +kernel
theorem dX8_post_56 : decode cX8_post 56 = .ok (.bipush (-2), 2) := by decide +kernel
theorem dX8_post_58 : decode cX8_post 58 = .ok (.ireturn, 1) := by decide +kernel
theorem dX8_post_59 : decode cX8_post 59 = .ok (.aload_n 0, 1) := by decide +kernel
theorem dX8_post_60 : decode cX8_post 60 = .ok (.getfield 7, 3) := by decide +kernel
theorem dX8_post_63 : decode cX8_post 63 = .ok (.bipush 6, 2) := by decide +kernel
theorem dX8_post_65 : decode cX8_post 65 = .ok (.iload_n 1, 1) := by decide +kernel
theorem dX8_post_66 : decode cX8_post 66 = .ok (.imul, 1) := by decide +kernel
theorem dX8_post_67 : decode cX8_post 67 = .ok (.iload_n 2, 1) := by decide +kernel
theorem dX8_post_68 : decode cX8_post 68 = .ok (.iadd, 1) := by decide +kernel
theorem dX8_post_69 : decode cX8_post 69 = .ok (.iload_n 3, 1) := by decide +kernel
theorem dX8_post_70 : decode cX8_post 70 = .ok (.iastore, 1) := by decide +kernel
theorem dX8_post_71 : decode cX8_post 71 = .ok (.aload_n 0, 1) := by decide +kernel
theorem dX8_post_72 : decode cX8_post 72 = .ok (.getfield 13, 3) := by decide +kernel
theorem dX8_post_75 : decode cX8_post 75 = .ok (.bipush 6, 2) := by decide +kernel
theorem dX8_post_77 : decode cX8_post 77 = .ok (.iload_n 1, 1) := by decide +kernel
theorem dX8_post_78 : decode cX8_post 78 = .ok (.imul, 1) := by decide +kernel
theorem dX8_post_79 : decode cX8_post 79 = .ok (.iload_n 2, 1) := by decide +kernel
theorem dX8_post_80 : decode cX8_post 80 = .ok (.iadd, 1) := by decide +kernel
theorem dX8_post_81 : decode cX8_post 81 = .ok (.iload 4, 2) := by decide +kernel
theorem dX8_post_83 : decode cX8_post 83 = .ok (.iastore, 1) := by decide +kernel
theorem dX8_post_84 : decode cX8_post 84 = .ok (.aload_n 0, 1) := by decide +kernel
theorem dX8_post_85 : decode cX8_post 85 = .ok (.invokevirtual 74, 3) := by decide +kernel
theorem dX8_post_88 : decode cX8_post 88 = .ok (.iconst 0, 1) := by decide +kernel
theorem dX8_post_89 : decode cX8_post 89 = .ok (.ireturn, 1) := by decide +kernel
theorem dX8_way_0 : decode cX8_way 0 = .ok (.iload_n 1, 1) := by decide +kernel
theorem dX8_way_1 : decode cX8_way 1 = .ok (.invokestatic 87, 3) := by decide +kernel
theorem dX8_way_4 : decode cX8_way 4 = .ok (.ifCond .eq 24, 3) := by decide +kernel
theorem dX8_way_7 : decode cX8_way 7 = .ok (.iload_n 2, 1) := by decide +kernel
theorem dX8_way_8 : decode cX8_way 8 = .ok (.invokestatic 87, 3) := by decide +kernel
theorem dX8_way_11 : decode cX8_way 11 = .ok (.ifCond .eq 17, 3) := by decide +kernel
theorem dX8_way_14 : decode cX8_way 14 = .ok (.aload_n 0, 1) := by decide +kernel
theorem dX8_way_15 : decode cX8_way 15 = .ok (.getfield 16, 3) := by decide +kernel
theorem dX8_way_18 : decode cX8_way 18 = .ok (.bipush 6, 2) := by decide +kernel
theorem dX8_way_20 : decode cX8_way 20 = .ok (.iload_n 1, 1) := by decide +kernel
theorem dX8_way_21 : decode cX8_way 21 = .ok (.imul, 1) := by decide +kernel
theorem dX8_way_22 : decode cX8_way 22 = .ok (.iload_n 2, 1) := by decide +kernel
theorem dX8_way_23 : decode cX8_way 23 = .ok (.iadd, 1) := by decide +kernel
theorem dX8_way_24 : decode cX8_way 24 = .ok (.iaload, 1) := by decide +kernel
theorem dX8_way_25 : decode cX8_way 25 = .ok (.goto 4, 3) := by decide +kernel
theorem dX8_way_28 : decode cX8_way 28 = .ok (.iconst (-1), 1) := by decide +kernel
theorem dX8_way_29 : decode cX8_way 29 = .ok (.ireturn, 1) := by decide +kernel
theorem dX8_slow_0 : decode cX8_slow 0 = .ok (.iload_n 1, 1) := by decide +kernel
theorem dX8_slow_1 : decode cX8_slow 1 = .ok (.invokestatic 87, 3) := by decide +kernel
theorem dX8_slow_4 : decode cX8_slow 4 = .ok (.ifCond .eq 10, 3) := by decide +kernel
theorem dX8_slow_7 : decode cX8_slow 7 = .ok (.iload_n 2, 1) := by decide +kernel
theorem dX8_slow_8 : decode cX8_slow 8 = .ok (.invokestatic 87, 3) := by decide +kernel
theorem dX8_slow_11 : decode cX8_slow 11 = .ok (.ifCond .ne 5, 3) := by decide +kernel
theorem dX8_slow_14 : decode cX8_slow 14 = .ok (.iconst (-1), 1) := by decide +kernel
theorem dX8_slow_15 : decode cX8_slow 15 = .ok (.ireturn, 1) := by decide +kernel
theorem dX8_slow_16 : decode cX8_slow 16 = .ok (.iconst 0, 1) := by decide +kernel
theorem dX8_slow_17 : decode cX8_slow 17 = .ok (.istore_n 3, 1) := by decide +kernel
theorem dX8_slow_18 : decode cX8_slow 18 = .ok (.iload_n 3, 1) := by decide +kernel
theorem dX8_slow_19 : decode cX8_slow 19 = .ok (.bipush 6, 2) := by decide +kernel
theorem dX8_slow_21 : decode cX8_slow 21 = .ok (.if_icmp .ge 26, 3) := by decide +kernel
theorem dX8_slow_24 : decode cX8_slow 24 = .ok (.aload_n 0, 1) := by decide +kernel
theorem dX8_slow_25 : decode cX8_slow 25 = .ok (.getfield 59, 3) := by decide +kernel
theorem dX8_slow_28 : decode cX8_slow 28 = .ok (.iload_n 3, 1) := by decide +kernel
theorem dX8_slow_29 : decode cX8_slow 29 = .ok (.iload_n 3, 1) := by decide +kernel
theorem dX8_slow_30 : decode cX8_slow 30 = .ok (.iload_n 1, 1) := by decide +kernel
theorem dX8_slow_31 : decode cX8_slow 31 = .ok (.if_icmp .ne 7, 3) := by decide +kernel
theorem dX8_slow_34 : decode cX8_slow 34 = .ok (.iconst 0, 1) := by decide +kernel
theorem dX8_slow_35 : decode cX8_slow 35 = .ok (.goto 5, 3) := by decide +kernel
theorem dX8_slow_38 : decode cX8_slow 38 = .ok (.bipush (-4), 2) := by decide +kernel
theorem dX8_slow_40 : decode cX8_slow 40 = .ok (.iastore, 1) := by decide +kernel
theorem dX8_slow_41 : decode cX8_slow 41 = .ok (.iinc 3 1, 3) := by decide +kernel
theorem dX8_slow_44 : decode cX8_slow 44 = .ok (.goto (-26), 3) := by decide +kernel
theorem dX8_slow_47 : decode cX8_slow 47 = .ok (.iconst 0, 1) := by decide +kernel
theorem dX8_slow_48 : decode cX8_slow 48 = .ok (.istore_n 3, 1) := by decide +kernel
theorem dX8_slow_49 : decode cX8_slow 49 = .ok (.iload_n 3, 1) := by decide +kernel
theorem dX8_slow_50 : decode cX8_slow 50 = .ok (.bipush 6, 2) := by decide +kernel
theorem dX8_slow_52 : decode cX8_slow 52 = .ok (.if_icmp .ge 175, 3) := by decide +kernel
theorem dX8_slow_55 : decode cX8_slow 55 = .ok (.iconst 0, 1) := by decide +kernel
theorem dX8_slow_56 : decode cX8_slow 56 = .ok (.istore 4, 2) := by decide +kernel
theorem dX8_slow_58 : decode cX8_slow 58 = .ok (.iload 4, 2) := by decide +kernel
theorem dX8_slow_60 : decode cX8_slow 60 = .ok (.bipush 6, 2) := by decide +kernel
theorem dX8_slow_62 : decode cX8_slow 62 = .ok (.if_icmp .ge 159, 3) := by decide +kernel
theorem dX8_slow_65 : decode cX8_slow 65 = .ok (.iconst 0, 1) := by decide +kernel
theorem dX8_slow_66 : decode cX8_slow 66 = .ok (.istore 5, 2) := by decide +kernel
theorem dX8_slow_68 : decode cX8_slow 68 = .ok (.iload 5, 2) := by decide +kernel
theorem dX8_slow_70 : decode cX8_slow 70 = .ok (.bipush 6, 2) := by decide +kernel
theorem dX8_slow_72 : decode cX8_slow 72 = .ok (.if_icmp .ge 143, 3) := by decide +kernel
theorem dX8_slow_75 : decode cX8_slow 75 = .ok (.bipush 6, 2) := by decide +kernel
theorem dX8_slow_77 : decode cX8_slow 77 = .ok (.iload 4, 2) := by decide +kernel
theorem dX8_slow_79 : decode cX8_slow 79 = .ok (.imul, 1) := by decide +kernel
theorem dX8_slow_80 : decode cX8_slow 80 = .ok (.iload 5, 2) := by decide +kernel
theorem dX8_slow_82 : decode cX8_slow 82 = .ok (.iadd, 1) := by decide +kernel
theorem dX8_slow_83 : decode cX8_slow 83 = .ok (.istore 6, 2) := by decide +kernel
theorem dX8_slow_85 : decode cX8_slow 85 = .ok (.aload_n 0, 1) := by decide +kernel
theorem dX8_slow_86 : decode cX8_slow 86 = .ok (.getfield 59, 3) := by decide +kernel
theorem dX8_slow_89 : decode cX8_slow 89 = .ok (.iload 4, 2) := by decide +kernel
theorem dX8_slow_91 : decode cX8_slow 91 = .ok (.iaload, 1) := by decide +kernel
theorem dX8_slow_92 : decode cX8_slow 92 = .ok (.ifCond .lt 52, 3) := by decide +kernel
theorem dX8_slow_95 : decode cX8_slow 95 = .ok (.aload_n 0, 1) := by decide +kernel
theorem dX8_slow_96 : decode cX8_slow 96 = .ok (.getfield 7, 3) := by decide +kernel
theorem dX8_slow_99 : decode cX8_slow 99 = .ok (.iload 6, 2) := by decide +kernel
theorem dX8_slow_101 : decode cX8_slow 101 = .ok (.iaload, 1) := by decide +kernel
theorem dX8_slow_102 : decode cX8_slow 102 = .ok (.ifCond .le 42, 3) := by decide +kernel
theorem dX8_slow_105 : decode cX8_slow 105 = .ok (.aload_n 0, 1) := by decide +kernel
theorem dX8_slow_106 : decode cX8_slow 106 = .ok (.getfield 16, 3) := by decide +kernel
theorem dX8_slow_109 : decode cX8_slow 109 = .ok (.bipush 6, 2) := by decide +kernel
theorem dX8_slow_111 : decode cX8_slow 111 = .ok (.iload_n 1, 1) := by decide +kernel
theorem dX8_slow_112 : decode cX8_slow 112 = .ok (.imul, 1) := by decide +kernel
theorem dX8_slow_113 : decode cX8_slow 113 = .ok (.iload 4, 2) := by decide +kernel
theorem dX8_slow_115 : decode cX8_slow 115 = .ok (.iadd, 1) := by decide +kernel
theorem dX8_slow_116 : decode cX8_slow 116 = .ok (.iaload, 1) := by decide +kernel
theorem dX8_slow_117 : decode cX8_slow 117 = .ok (.aload_n 0, 1) := by decide +kernel
theorem dX8_slow_118 : decode cX8_slow 118 = .ok (.getfield 7, 3) := by decide +kernel
theorem dX8_slow_121 : decode cX8_slow 121 = .ok (.iload 6, 2) := by decide +kernel
theorem dX8_slow_123 : decode cX8_slow 123 = .ok (.iaload, 1) := by decide +kernel
theorem dX8_slow_124 : decode cX8_slow 124 = .ok (.iadd, 1) := by decide +kernel
theorem dX8_slow_125 : decode cX8_slow 125 = .ok (.aload_n 0, 1) := by decide +kernel
theorem dX8_slow_126 : decode cX8_slow 126 = .ok (.getfield 16, 3) := by decide +kernel
theorem dX8_slow_129 : decode cX8_slow 129 = .ok (.bipush 6, 2) := by decide +kernel
theorem dX8_slow_131 : decode cX8_slow 131 = .ok (.iload_n 1, 1) := by decide +kernel
theorem dX8_slow_132 : decode cX8_slow 132 = .ok (.imul, 1) := by decide +kernel
theorem dX8_slow_133 : decode cX8_slow 133 = .ok (.iload 5, 2) := by decide +kernel
theorem dX8_slow_135 : decode cX8_slow 135 = .ok (.iadd, 1) := by decide +kernel
theorem dX8_slow_136 : decode cX8_slow 136 = .ok (.iaload, 1) := by decide +kernel
theorem dX8_slow_137 : decode cX8_slow 137 = .ok (.if_icmp .ne 7, 3) := by decide +kernel
theorem dX8_slow_140 : decode cX8_slow 140 = .ok (.iconst 1, 1) := by decide +kernel
theorem dX8_slow_141 : decode cX8_slow 141 = .ok (.goto 4, 3) := by decide +kernel
theorem dX8_slow_144 : decode cX8_slow 144 = .ok (.iconst 0, 1) := by decide +kernel
theorem dX8_slow_145 : decode cX8_slow 145 = .ok (.istore 7, 2) := by decide +kernel
theorem dX8_slow_147 : decode cX8_slow 147 = .ok (.aload_n 0, 1) := by decide +kernel
theorem dX8_slow_148 : decode cX8_slow 148 = .ok (.getfield 59, 3) := by decide +kernel
theorem dX8_slow_151 : decode cX8_slow 151 = .ok (.iload 5, 2) := by decide +kernel
theorem dX8_slow_153 : decode cX8_slow 153 = .ok (.iload 7, 2) := by decide +kernel
theorem dX8_slow_155 : decode cX8_slow 155 = .ok (.ifCond .eq 46, 3) := by decide +kernel
theorem dX8_slow_158 : decode cX8_slow 158 = .ok (.aload_n 0, 1) := by decide +kernel
theorem dX8_slow_159 : decode cX8_slow 159 = .ok (.getfield 59, 3) := by decide +kernel
theorem dX8_slow_162 : decode cX8_slow 162 = .ok (.iload 4, 2) := by decide +kernel
theorem dX8_slow_164 : decode cX8_slow 164 = .ok (.iaload, 1) := by decide +kernel
theorem dX8_slow_165 : decode cX8_slow 165 = .ok (.aload_n 0, 1) := by decide +kernel
theorem dX8_slow_166 : decode cX8_slow 166 = .ok (.getfield 13, 3) := by decide +kernel
theorem dX8_slow_169 : decode cX8_slow 169 = .ok (.iload 6, 2) := by decide +kernel
theorem dX8_slow_171 : decode cX8_slow 171 = .ok (.iaload, 1) := by decide +kernel
theorem dX8_slow_172 : decode cX8_slow 172 = .ok (.iadd, 1) := by decide +kernel
theorem dX8_slow_173 : decode cX8_slow 173 = .ok (.aload_n 0, 1) := by decide +kernel
theorem dX8_slow_174 : decode cX8_slow 174 = .ok (.getfield 59, 3) := by decide +kernel
theorem dX8_slow_177 : decode cX8_slow 177 = .ok (.iload 5, 2) := by decide +kernel
theorem dX8_slow_179 : decode cX8_slow 179 = .ok (.iaload, 1) := by decide +kernel
theorem dX8_slow_180 : decode cX8_slow 180 = .ok (.if_icmp .le 21, 3) := by decide +kernel
theorem dX8_slow_183 : decode cX8_slow 183 = .ok (.aload_n 0, 1) := by decide +kernel
theorem dX8_slow_184 : decode cX8_slow 184 = .ok (.getfield 59, 3) := by decide +kernel
theorem dX8_slow_187 : decode cX8_slow 187 = .ok (.iload 4, 2) := by decide +kernel
theorem dX8_slow_189 : decode cX8_slow 189 = .ok (.iaload, 1) := by decide +kernel
theorem dX8_slow_190 : decode cX8_slow 190 = .ok (.aload_n 0, 1) := by decide +kernel
theorem dX8_slow_191 : decode cX8_slow 191 = .ok (.getfield 13, 3) := by decide +kernel
theorem dX8_slow_194 : decode cX8_slow 194 = .ok (.iload 6, 2) := by decide +kernel
theorem dX8_slow_196 : decode cX8_slow 196 = .ok (.iaload, 1) := by decide +kernel
theorem dX8_slow_197 : decode cX8_slow 197 = .ok (.iadd, 1) := by decide +kernel
theorem dX8_slow_198 : decode cX8_slow 198 = .ok (.goto 10, 3) := by decide +kernel
theorem dX8_slow_201 : decode cX8_slow 201 = .ok (.aload_n 0, 1) := by decide +kernel
theorem dX8_slow_202 : decode cX8_slow 202 = .ok (.getfield 59, 3) := by decide +kernel
theorem dX8_slow_205 : decode cX8_slow 205 = .ok (.iload 5, 2) := by decide +kernel
theorem dX8_slow_207 : decode cX8_slow 207 = .ok (.iaload, 1) := by decide +kernel
theorem dX8_slow_208 : decode cX8_slow 208 = .ok (.iastore, 1) := by decide +kernel
theorem dX8_slow_209 : decode cX8_slow 209 = .ok (.iinc 5 1, 3) := by decide +kernel
theorem dX8_slow_212 : decode cX8_slow 212 = .ok (.goto (-144), 3) := by decide +kernel
theorem dX8_slow_215 : decode cX8_slow 215 = .ok (.iinc 4 1, 3) := by decide +kernel
theorem dX8_slow_218 : decode cX8_slow 218 = .ok (.goto (-160), 3) := by decide +kernel
theorem dX8_slow_221 : decode cX8_slow 221 = .ok (.iinc 3 1, 3) := by decide +kernel
theorem dX8_slow_224 : decode cX8_slow 224 = .ok (.goto (-175), 3) := by decide +kernel
theorem dX8_slow_227 : decode cX8_slow 227 = .ok (.aload_n 0, 1) := by decide +kernel
theorem dX8_slow_228 : decode cX8_slow 228 = .ok (.getfield 59, 3) := by decide +kernel
theorem dX8_slow_231 : decode cX8_slow 231 = .ok (.iload_n 2, 1) := by decide +kernel
theorem dX8_slow_232 : decode cX8_slow 232 = .ok (.iaload, 1) := by decide +kernel
theorem dX8_slow_233 : decode cX8_slow 233 = .ok (.ireturn, 1) := by decide +kernel
theorem dX8_sheet_0 : decode cX8_sheet 0 = .ok (.iload_n 1, 1) := by decide +kernel
theorem dX8_sheet_1 : decode cX8_sheet 1 = .ok (.invokestatic 87, 3) := by decide +kernel
theorem dX8_sheet_4 : decode cX8_sheet 4 = .ok (.ifCond .eq 29, 3) := by decide +kernel
theorem dX8_sheet_7 : decode cX8_sheet 7 = .ok (.iload_n 2, 1) := by decide +kernel
theorem dX8_sheet_8 : decode cX8_sheet 8 = .ok (.i2l, 1) := by decide +kernel
theorem dX8_sheet_9 : decode cX8_sheet 9 = .ok (.lconst 0, 1) := by decide +kernel
theorem dX8_sheet_10 : decode cX8_sheet 10 = .ok (.ldc2_w 93, 3) := by decide +kernel
theorem dX8_sheet_13 : decode cX8_sheet 13 = .ok (.invokestatic 79, 3) := by decide +kernel
theorem dX8_sheet_16 : decode cX8_sheet 16 = .ok (.ifCond .eq 17, 3) := by decide +kernel
theorem dX8_sheet_19 : decode cX8_sheet 19 = .ok (.iload_n 3, 1) := by decide +kernel
theorem dX8_sheet_20 : decode cX8_sheet 20 = .ok (.i2l, 1) := by decide +kernel
theorem dX8_sheet_21 : decode cX8_sheet 21 = .ok (.ldc2_w 95, 3) := by decide +kernel
theorem dX8_sheet_24 : decode cX8_sheet 24 = .ok (.ldc2_w 83, 3) := by decide +kernel
theorem dX8_sheet_27 : decode cX8_sheet 27 = .ok (.invokestatic 79, 3) := by decide +kernel
theorem dX8_sheet_30 : decode cX8_sheet 30 = .ok (.ifCond .ne 5, 3) := by decide +kernel
theorem dX8_sheet_33 : decode cX8_sheet 33 = .ok (.iconst (-1), 1) := by decide +kernel
theorem dX8_sheet_34 : decode cX8_sheet 34 = .ok (.ireturn, 1) := by decide +kernel
theorem dX8_sheet_35 : decode cX8_sheet 35 = .ok (.aload_n 0, 1) := by decide +kernel
theorem dX8_sheet_36 : decode cX8_sheet 36 = .ok (.getfield 19, 3) := by decide +kernel
theorem dX8_sheet_39 : decode cX8_sheet 39 = .ok (.iconst 0, 1) := by decide +kernel
theorem dX8_sheet_40 : decode cX8_sheet 40 = .ok (.iaload, 1) := by decide +kernel
theorem dX8_sheet_41 : decode cX8_sheet 41 = .ok (.bipush 12, 2) := by decide +kernel
theorem dX8_sheet_43 : decode cX8_sheet 43 = .ok (.if_icmp .ne 6, 3) := by decide +kernel
theorem dX8_sheet_46 : decode cX8_sheet 46 = .ok (.bipush (-3), 2) := by decide +kernel
theorem dX8_sheet_48 : decode cX8_sheet 48 = .ok (.ireturn, 1) := by decide +kernel
theorem dX8_sheet_49 : decode cX8_sheet 49 = .ok (.iconst 3, 1) := by decide +kernel
theorem dX8_sheet_50 : decode cX8_sheet 50 = .ok (.aload_n 0, 1) := by decide +kernel
theorem dX8_sheet_51 : decode cX8_sheet 51 = .ok (.getfield 19, 3) := by decide +kernel
theorem dX8_sheet_54 : decode cX8_sheet 54 = .ok (.iconst 0, 1) := by decide +kernel
theorem dX8_sheet_55 : decode cX8_sheet 55 = .ok (.iaload, 1) := by decide +kernel
theorem dX8_sheet_56 : decode cX8_sheet 56 = .ok (.imul, 1) := by decide +kernel
theorem dX8_sheet_57 : decode cX8_sheet 57 = .ok (.istore 4, 2) := by decide +kernel
theorem dX8_sheet_59 : decode cX8_sheet 59 = .ok (.aload_n 0, 1) := by decide +kernel
theorem dX8_sheet_60 : decode cX8_sheet 60 = .ok (.getfield 22, 3) := by decide +kernel
theorem dX8_sheet_63 : decode cX8_sheet 63 = .ok (.iload 4, 2) := by decide +kernel
theorem dX8_sheet_65 : decode cX8_sheet 65 = .ok (.iload_n 1, 1) := by decide +kernel
theorem dX8_sheet_66 : decode cX8_sheet 66 = .ok (.iastore, 1) := by decide +kernel
theorem dX8_sheet_67 : decode cX8_sheet 67 = .ok (.aload_n 0, 1) := by decide +kernel
theorem dX8_sheet_68 : decode cX8_sheet 68 = .ok (.getfield 22, 3) := by decide +kernel
theorem dX8_sheet_71 : decode cX8_sheet 71 = .ok (.iload 4, 2) := by decide +kernel
theorem dX8_sheet_73 : decode cX8_sheet 73 = .ok (.iconst 1, 1) := by decide +kernel
theorem dX8_sheet_74 : decode cX8_sheet 74 = .ok (.iadd, 1) := by decide +kernel
theorem dX8_sheet_75 : decode cX8_sheet 75 = .ok (.iload_n 2, 1) := by decide +kernel
theorem dX8_sheet_76 : decode cX8_sheet 76 = .ok (.iastore, 1) := by decide +kernel
theorem dX8_sheet_77 : decode cX8_sheet 77 = .ok (.aload_n 0, 1) := by decide +kernel
theorem dX8_sheet_78 : decode cX8_sheet 78 = .ok (.getfield 22, 3) := by decide +kernel
theorem dX8_sheet_81 : decode cX8_sheet 81 = .ok (.iload 4, 2) := by decide +kernel
theorem dX8_sheet_83 : decode cX8_sheet 83 = .ok (.iconst 2, 1) := by decide +kernel
theorem dX8_sheet_84 : decode cX8_sheet 84 = .ok (.iadd, 1) := by decide +kernel
theorem dX8_sheet_85 : decode cX8_sheet 85 = .ok (.iload_n 3, 1) := by decide +kernel
theorem dX8_sheet_86 : decode cX8_sheet 86 = .ok (.iastore, 1) := by decide +kernel
theorem dX8_sheet_87 : decode cX8_sheet 87 = .ok (.aload_n 0, 1) := by decide +kernel
theorem dX8_sheet_88 : decode cX8_sheet 88 = .ok (.getfield 19, 3) := by decide +kernel
theorem dX8_sheet_91 : decode cX8_sheet 91 = .ok (.iconst 0, 1) := by decide +kernel
theorem dX8_sheet_92 : decode cX8_sheet 92 = .ok (.dup2, 1) := by decide +kernel
theorem dX8_sheet_93 : decode cX8_sheet 93 = .ok (.iaload, 1) := by decide +kernel
theorem dX8_sheet_94 : decode cX8_sheet 94 = .ok (.iconst 1, 1) := by decide +kernel
theorem dX8_sheet_95 : decode cX8_sheet 95 = .ok (.iadd, 1) := by decide +kernel
theorem dX8_sheet_96 : decode cX8_sheet 96 = .ok (.iastore, 1) := by decide +kernel
theorem dX8_sheet_97 : decode cX8_sheet 97 = .ok (.aload_n 0, 1) := by decide +kernel
theorem dX8_sheet_98 : decode cX8_sheet 98 = .ok (.getfield 19, 3) := by decide +kernel
theorem dX8_sheet_101 : decode cX8_sheet 101 = .ok (.iconst 0, 1) := by decide +kernel
theorem dX8_sheet_102 : decode cX8_sheet 102 = .ok (.iaload, 1) := by decide +kernel
theorem dX8_sheet_103 : decode cX8_sheet 103 = .ok (.iconst 1, 1) := by decide +kernel
theorem dX8_sheet_104 : decode cX8_sheet 104 = .ok (.isub, 1) := by decide +kernel
theorem dX8_sheet_105 : decode cX8_sheet 105 = .ok (.ireturn, 1) := by decide +kernel
theorem dX8_dated_0 : decode cX8_dated 0 = .ok (.aload_n 0, 1) := by decide +kernel
theorem dX8_dated_1 : decode cX8_dated 1 = .ok (.iload_n 1, 1) := by decide +kernel
theorem dX8_dated_2 : decode cX8_dated 2 = .ok (.invokevirtual 97, 3) := by decide +kernel
theorem dX8_dated_5 : decode cX8_dated 5 = .ok (.ifCond .eq 17, 3) := by decide +kernel
theorem dX8_dated_8 : decode cX8_dated 8 = .ok (.iload_n 2, 1) := by decide +kernel
theorem dX8_dated_9 : decode cX8_dated 9 = .ok (.i2l, 1) := by decide +kernel
theorem dX8_dated_10 : decode cX8_dated 10 = .ok (.ldc2_w 95, 3) := by decide +kernel
theorem dX8_dated_13 : decode cX8_dated 13 = .ok (.ldc2_w 83, 3) := by decide +kernel
theorem dX8_dated_16 : decode cX8_dated 16 = .ok (.invokestatic 79, 3) := by decide +kernel
theorem dX8_dated_19 : decode cX8_dated 19 = .ok (.ifCond .ne 6, 3) := by decide +kernel
theorem dX8_dated_22 : decode cX8_dated 22 = .ok (.bipush (-100), 2) := by decide +kernel
theorem dX8_dated_24 : decode cX8_dated 24 = .ok (.ireturn, 1) := by decide +kernel
theorem dX8_dated_25 : decode cX8_dated 25 = .ok (.aload_n 0, 1) := by decide +kernel
theorem dX8_dated_26 : decode cX8_dated 26 = .ok (.getfield 22, 3) := by decide +kernel
theorem dX8_dated_29 : decode cX8_dated 29 = .ok (.iconst 3, 1) := by decide +kernel
theorem dX8_dated_30 : decode cX8_dated 30 = .ok (.iload_n 1, 1) := by decide +kernel
theorem dX8_dated_31 : decode cX8_dated 31 = .ok (.imul, 1) := by decide +kernel
theorem dX8_dated_32 : decode cX8_dated 32 = .ok (.iconst 2, 1) := by decide +kernel
theorem dX8_dated_33 : decode cX8_dated 33 = .ok (.iadd, 1) := by decide +kernel
theorem dX8_dated_34 : decode cX8_dated 34 = .ok (.iaload, 1) := by decide +kernel
theorem dX8_dated_35 : decode cX8_dated 35 = .ok (.istore_n 3, 1) := by decide +kernel
theorem dX8_dated_36 : decode cX8_dated 36 = .ok (.aload_n 0, 1) := by decide +kernel
theorem dX8_dated_37 : decode cX8_dated 37 = .ok (.getfield 22, 3) := by decide +kernel
theorem dX8_dated_40 : decode cX8_dated 40 = .ok (.iconst 3, 1) := by decide +kernel
theorem dX8_dated_41 : decode cX8_dated 41 = .ok (.iload_n 1, 1) := by decide +kernel
theorem dX8_dated_42 : decode cX8_dated 42 = .ok (.imul, 1) := by decide +kernel
theorem dX8_dated_43 : decode cX8_dated 43 = .ok (.iconst 2, 1) := by decide +kernel
theorem dX8_dated_44 : decode cX8_dated 44 = .ok (.iadd, 1) := by decide +kernel
theorem dX8_dated_45 : decode cX8_dated 45 = .ok (.iload_n 2, 1) := by decide +kernel
theorem dX8_dated_46 : decode cX8_dated 46 = .ok (.iastore, 1) := by decide +kernel
theorem dX8_dated_47 : decode cX8_dated 47 = .ok (.iload_n 3, 1) := by decide +kernel
theorem dX8_dated_48 : decode cX8_dated 48 = .ok (.ireturn, 1) := by decide +kernel
theorem dX8_wayOf_0 : decode cX8_wayOf 0 = .ok (.aload_n 0, 1) := by decide +kernel
theorem dX8_wayOf_1 : decode cX8_wayOf 1 = .ok (.getfield 16, 3) := by decide +kernel
theorem dX8_wayOf_4 : decode cX8_wayOf 4 = .ok (.bipush 6, 2) := by decide +kernel
theorem dX8_wayOf_6 : decode cX8_wayOf 6 = .ok (.aload_n 0, 1) := by decide +kernel
theorem dX8_wayOf_7 : decode cX8_wayOf 7 = .ok (.getfield 22, 3) := by decide +kernel
theorem dX8_wayOf_10 : decode cX8_wayOf 10 = .ok (.iconst 3, 1) := by decide +kernel
theorem dX8_wayOf_11 : decode cX8_wayOf 11 = .ok (.iload_n 1, 1) := by decide +kernel
theorem dX8_wayOf_12 : decode cX8_wayOf 12 = .ok (.imul, 1) := by decide +kernel
theorem dX8_wayOf_13 : decode cX8_wayOf 13 = .ok (.iaload, 1) := by decide +kernel
theorem dX8_wayOf_14 : decode cX8_wayOf 14 = .ok (.imul, 1) := by decide +kernel
theorem dX8_wayOf_15 : decode cX8_wayOf 15 = .ok (.aload_n 0, 1) := by decide +kernel
theorem dX8_wayOf_16 : decode cX8_wayOf 16 = .ok (.getfield 22, 3) := by decide +kernel
theorem dX8_wayOf_19 : decode cX8_wayOf 19 = .ok (.iconst 3, 1) := by decide +kernel
theorem dX8_wayOf_20 : decode cX8_wayOf 20 = .ok (.iload_n 2, 1) := by decide +kernel
theorem dX8_wayOf_21 : decode cX8_wayOf 21 = .ok (.imul, 1) := by decide +kernel
theorem dX8_wayOf_22 : decode cX8_wayOf 22 = .ok (.iaload, 1) := by decide +kernel
theorem dX8_wayOf_23 : decode cX8_wayOf 23 = .ok (.iadd, 1) := by decide +kernel
theorem dX8_wayOf_24 : decode cX8_wayOf 24 = .ok (.iaload, 1) := by decide +kernel
theorem dX8_wayOf_25 : decode cX8_wayOf 25 = .ok (.ireturn, 1) := by decide +kernel
theorem dX8_behind_0 : decode cX8_behind 0 = .ok (.aload_n 0, 1) := by decide +kernel
theorem dX8_behind_1 : decode cX8_behind 1 = .ok (.iload_n 1, 1) := by decide +kernel
theorem dX8_behind_2 : decode cX8_behind 2 = .ok (.invokevirtual 97, 3) := by decide +kernel
theorem dX8_behind_5 : decode cX8_behind 5 = .ok (.ifCond .eq 16, 3) := by decide +kernel
theorem dX8_behind_8 : decode cX8_behind 8 = .ok (.aload_n 0, 1) := by decide +kernel
theorem dX8_behind_9 : decode cX8_behind 9 = .ok (.iload_n 2, 1) := by decide +kernel
theorem dX8_behind_10 : decode cX8_behind 10 = .ok (.invokevirtual 97, 3) := by decide +kernel
theorem dX8_behind_13 : decode cX8_behind 13 = .ok (.ifCond .eq 8, 3) := by decide +kernel
theorem dX8_behind_16 : decode cX8_behind 16 = .ok (.iload_n 1, 1) := by decide +kernel
theorem dX8_behind_17 : decode cX8_behind 17 = .ok (.iload_n 2, 1) := by decide +kernel
theorem dX8_behind_18 : decode cX8_behind 18 = .ok (.if_icmp .ne 5, 3) := by decide +kernel
theorem dX8_behind_21 : decode cX8_behind 21 = .ok (.iconst (-1), 1) := by decide +kernel
theorem dX8_behind_22 : decode cX8_behind 22 = .ok (.ireturn, 1) := by decide +kernel
theorem dX8_behind_23 : decode cX8_behind 23 = .ok (.aload_n 0, 1) := by decide +kernel
theorem dX8_behind_24 : decode cX8_behind 24 = .ok (.iload_n 2, 1) := by decide +kernel
theorem dX8_behind_25 : decode cX8_behind 25 = .ok (.iload_n 1, 1) := by decide +kernel
theorem dX8_behind_26 : decode cX8_behind 26 = .ok (.invokevirtual 100, 3) := by decide +kernel
theorem dX8_behind_29 : decode cX8_behind 29 = .ok (.ifCond .ge 6, 3) := by decide +kernel
theorem dX8_behind_32 : decode cX8_behind 32 = .ok (.bipush (-2), 2) := by decide +kernel
theorem dX8_behind_34 : decode cX8_behind 34 = .ok (.ireturn, 1) := by decide +kernel
theorem dX8_behind_35 : decode cX8_behind 35 = .ok (.aload_n 0, 1) := by decide +kernel
theorem dX8_behind_36 : decode cX8_behind 36 = .ok (.getfield 25, 3) := by decide +kernel
theorem dX8_behind_39 : decode cX8_behind 39 = .ok (.iconst 0, 1) := by decide +kernel
theorem dX8_behind_40 : decode cX8_behind 40 = .ok (.iaload, 1) := by decide +kernel
theorem dX8_behind_41 : decode cX8_behind 41 = .ok (.bipush 20, 2) := by decide +kernel
theorem dX8_behind_43 : decode cX8_behind 43 = .ok (.if_icmp .ne 6, 3) := by decide +kernel
theorem dX8_behind_46 : decode cX8_behind 46 = .ok (.bipush (-3), 2) := by decide +kernel
theorem dX8_behind_48 : decode cX8_behind 48 = .ok (.ireturn, 1) := by decide +kernel
theorem dX8_behind_49 : decode cX8_behind 49 = .ok (.aload_n 0, 1) := by decide +kernel
theorem dX8_behind_50 : decode cX8_behind 50 = .ok (.getfield 28, 3) := by decide +kernel
theorem dX8_behind_53 : decode cX8_behind 53 = .ok (.iconst 2, 1) := by decide +kernel
theorem dX8_behind_54 : decode cX8_behind 54 = .ok (.aload_n 0, 1) := by decide +kernel
theorem dX8_behind_55 : decode cX8_behind 55 = .ok (.getfield 25, 3) := by decide +kernel
theorem dX8_behind_58 : decode cX8_behind 58 = .ok (.iconst 0, 1) := by decide +kernel
theorem dX8_behind_59 : decode cX8_behind 59 = .ok (.iaload, 1) := by decide +kernel
theorem dX8_behind_60 : decode cX8_behind 60 = .ok (.imul, 1) := by decide +kernel
theorem dX8_behind_61 : decode cX8_behind 61 = .ok (.iload_n 1, 1) := by decide +kernel
theorem dX8_behind_62 : decode cX8_behind 62 = .ok (.iastore, 1) := by decide +kernel
theorem dX8_behind_63 : decode cX8_behind 63 = .ok (.aload_n 0, 1) := by decide +kernel
theorem dX8_behind_64 : decode cX8_behind 64 = .ok (.getfield 28, 3) := by decide +kernel
theorem dX8_behind_67 : decode cX8_behind 67 = .ok (.iconst 2, 1) := by decide +kernel
theorem dX8_behind_68 : decode cX8_behind 68 = .ok (.aload_n 0, 1) := by decide +kernel
theorem dX8_behind_69 : decode cX8_behind 69 = .ok (.getfield 25, 3) := by decide +kernel
theorem dX8_behind_72 : decode cX8_behind 72 = .ok (.iconst 0, 1) := by decide +kernel
theorem dX8_behind_73 : decode cX8_behind 73 = .ok (.iaload, 1) := by decide +kernel
theorem dX8_behind_74 : decode cX8_behind 74 = .ok (.imul, 1) := by decide +kernel
theorem dX8_behind_75 : decode cX8_behind 75 = .ok (.iconst 1, 1) := by decide +kernel
theorem dX8_behind_76 : decode cX8_behind 76 = .ok (.iadd, 1) := by decide +kernel
end
section
theorem dX8_behind_77 : decode cX8_behind 77 = .ok (.iload_n 2, 1) := by decide +kernel
theorem dX8_behind_78 : decode cX8_behind 78 = .ok (.iastore, 1) := by decide +kernel
theorem dX8_behind_79 : decode cX8_behind 79 = .ok (.aload_n 0, 1) := by decide +kernel
theorem dX8_behind_80 : decode cX8_behind 80 = .ok (.getfield 25, 3) := by decide +kernel
theorem dX8_behind_83 : decode cX8_behind 83 = .ok (.iconst 0, 1) := by decide +kernel
theorem dX8_behind_84 : decode cX8_behind 84 = .ok (.dup2, 1) := by decide +kernel
theorem dX8_behind_85 : decode cX8_behind 85 = .ok (.iaload, 1) := by decide +kernel
theorem dX8_behind_86 : decode cX8_behind 86 = .ok (.iconst 1, 1) := by decide +kernel
theorem dX8_behind_87 : decode cX8_behind 87 = .ok (.iadd, 1) := by decide +kernel
theorem dX8_behind_88 : decode cX8_behind 88 = .ok (.iastore, 1) := by decide +kernel
theorem dX8_behind_89 : decode cX8_behind 89 = .ok (.aload_n 0, 1) := by decide +kernel
theorem dX8_behind_90 : decode cX8_behind 90 = .ok (.getfield 25, 3) := by decide +kernel
theorem dX8_behind_93 : decode cX8_behind 93 = .ok (.iconst 0, 1) := by decide +kernel
theorem dX8_behind_94 : decode cX8_behind 94 = .ok (.iaload, 1) := by decide +kernel
theorem dX8_behind_95 : decode cX8_behind 95 = .ok (.ireturn, 1) := by decide +kernel
theorem dX8_happened_0 : decode cX8_happened 0 = .ok (.iload_n 1, 1) := by decide +kernel
theorem dX8_happened_1 : decode cX8_happened 1 = .ok (.invokestatic 104, 3) := by decide +kernel
theorem dX8_happened_4 : decode cX8_happened 4 = .ok (.ifCond .eq 17, 3) := by decide +kernel
theorem dX8_happened_7 : decode cX8_happened 7 = .ok (.iload_n 2, 1) := by decide +kernel
theorem dX8_happened_8 : decode cX8_happened 8 = .ok (.invokestatic 87, 3) := by decide +kernel
theorem dX8_happened_11 : decode cX8_happened 11 = .ok (.ifCond .eq 10, 3) := by decide +kernel
theorem dX8_happened_14 : decode cX8_happened 14 = .ok (.iload_n 3, 1) := by decide +kernel
theorem dX8_happened_15 : decode cX8_happened 15 = .ok (.invokestatic 107, 3) := by decide +kernel
theorem dX8_happened_18 : decode cX8_happened 18 = .ok (.ifCond .ne 5, 3) := by decide +kernel
theorem dX8_happened_21 : decode cX8_happened 21 = .ok (.iconst (-1), 1) := by decide +kernel
theorem dX8_happened_22 : decode cX8_happened 22 = .ok (.ireturn, 1) := by decide +kernel
theorem dX8_happened_23 : decode cX8_happened 23 = .ok (.aload_n 0, 1) := by decide +kernel
theorem dX8_happened_24 : decode cX8_happened 24 = .ok (.getfield 37, 3) := by decide +kernel
theorem dX8_happened_27 : decode cX8_happened 27 = .ok (.iconst 2, 1) := by decide +kernel
theorem dX8_happened_28 : decode cX8_happened 28 = .ok (.iload_n 1, 1) := by decide +kernel
theorem dX8_happened_29 : decode cX8_happened 29 = .ok (.imul, 1) := by decide +kernel
theorem dX8_happened_30 : decode cX8_happened 30 = .ok (.iaload, 1) := by decide +kernel
theorem dX8_happened_31 : decode cX8_happened 31 = .ok (.ifCond .ge 7, 3) := by decide +kernel
theorem dX8_happened_34 : decode cX8_happened 34 = .ok (.iconst 1, 1) := by decide +kernel
theorem dX8_happened_35 : decode cX8_happened 35 = .ok (.goto 4, 3) := by decide +kernel
theorem dX8_happened_38 : decode cX8_happened 38 = .ok (.iconst 0, 1) := by decide +kernel
theorem dX8_happened_39 : decode cX8_happened 39 = .ok (.istore 4, 2) := by decide +kernel
theorem dX8_happened_41 : decode cX8_happened 41 = .ok (.iconst 0, 1) := by decide +kernel
theorem dX8_happened_42 : decode cX8_happened 42 = .ok (.istore 5, 2) := by decide +kernel
theorem dX8_happened_44 : decode cX8_happened 44 = .ok (.iload 5, 2) := by decide +kernel
theorem dX8_happened_46 : decode cX8_happened 46 = .ok (.aload_n 0, 1) := by decide +kernel
theorem dX8_happened_47 : decode cX8_happened 47 = .ok (.getfield 31, 3) := by decide +kernel
theorem dX8_happened_50 : decode cX8_happened 50 = .ok (.iconst 0, 1) := by decide +kernel
theorem dX8_happened_51 : decode cX8_happened 51 = .ok (.iaload, 1) := by decide +kernel
theorem dX8_happened_52 : decode cX8_happened 52 = .ok (.if_icmp .ge 67, 3) := by decide +kernel
theorem dX8_happened_55 : decode cX8_happened 55 = .ok (.iload 4, 2) := by decide +kernel
theorem dX8_happened_57 : decode cX8_happened 57 = .ok (.ifCond .eq 53, 3) := by decide +kernel
theorem dX8_happened_60 : decode cX8_happened 60 = .ok (.aload_n 0, 1) := by decide +kernel
theorem dX8_happened_61 : decode cX8_happened 61 = .ok (.getfield 34, 3) := by decide +kernel
theorem dX8_happened_64 : decode cX8_happened 64 = .ok (.bipush 6, 2) := by decide +kernel
theorem dX8_happened_66 : decode cX8_happened 66 = .ok (.iload 5, 2) := by decide +kernel
theorem dX8_happened_68 : decode cX8_happened 68 = .ok (.imul, 1) := by decide +kernel
theorem dX8_happened_69 : decode cX8_happened 69 = .ok (.iconst 1, 1) := by decide +kernel
theorem dX8_happened_70 : decode cX8_happened 70 = .ok (.iadd, 1) := by decide +kernel
theorem dX8_happened_71 : decode cX8_happened 71 = .ok (.iaload, 1) := by decide +kernel
theorem dX8_happened_72 : decode cX8_happened 72 = .ok (.iload_n 1, 1) := by decide +kernel
theorem dX8_happened_73 : decode cX8_happened 73 = .ok (.if_icmp .ne 33, 3) := by decide +kernel
theorem dX8_happened_76 : decode cX8_happened 76 = .ok (.aload_n 0, 1) := by decide +kernel
theorem dX8_happened_77 : decode cX8_happened 77 = .ok (.getfield 16, 3) := by decide +kernel
theorem dX8_happened_80 : decode cX8_happened 80 = .ok (.bipush 6, 2) := by decide +kernel
theorem dX8_happened_82 : decode cX8_happened 82 = .ok (.iload_n 2, 1) := by decide +kernel
theorem dX8_happened_83 : decode cX8_happened 83 = .ok (.imul, 1) := by decide +kernel
theorem dX8_happened_84 : decode cX8_happened 84 = .ok (.aload_n 0, 1) := by decide +kernel
theorem dX8_happened_85 : decode cX8_happened 85 = .ok (.getfield 22, 3) := by decide +kernel
theorem dX8_happened_88 : decode cX8_happened 88 = .ok (.iconst 3, 1) := by decide +kernel
theorem dX8_happened_89 : decode cX8_happened 89 = .ok (.aload_n 0, 1) := by decide +kernel
theorem dX8_happened_90 : decode cX8_happened 90 = .ok (.getfield 34, 3) := by decide +kernel
theorem dX8_happened_93 : decode cX8_happened 93 = .ok (.bipush 6, 2) := by decide +kernel
theorem dX8_happened_95 : decode cX8_happened 95 = .ok (.iload 5, 2) := by decide +kernel
theorem dX8_happened_97 : decode cX8_happened 97 = .ok (.imul, 1) := by decide +kernel
theorem dX8_happened_98 : decode cX8_happened 98 = .ok (.iaload, 1) := by decide +kernel
theorem dX8_happened_99 : decode cX8_happened 99 = .ok (.imul, 1) := by decide +kernel
theorem dX8_happened_100 : decode cX8_happened 100 = .ok (.iaload, 1) := by decide +kernel
theorem dX8_happened_101 : decode cX8_happened 101 = .ok (.iadd, 1) := by decide +kernel
theorem dX8_happened_102 : decode cX8_happened 102 = .ok (.iaload, 1) := by decide +kernel
theorem dX8_happened_103 : decode cX8_happened 103 = .ok (.ifCond .lt 7, 3) := by decide +kernel
theorem dX8_happened_106 : decode cX8_happened 106 = .ok (.iconst 1, 1) := by decide +kernel
theorem dX8_happened_107 : decode cX8_happened 107 = .ok (.goto 4, 3) := by decide +kernel
theorem dX8_happened_110 : decode cX8_happened 110 = .ok (.iconst 0, 1) := by decide +kernel
theorem dX8_happened_111 : decode cX8_happened 111 = .ok (.istore 4, 2) := by decide +kernel
theorem dX8_happened_113 : decode cX8_happened 113 = .ok (.iinc 5 1, 3) := by decide +kernel
theorem dX8_happened_116 : decode cX8_happened 116 = .ok (.goto (-72), 3) := by decide +kernel
theorem dX8_happened_119 : decode cX8_happened 119 = .ok (.iload 4, 2) := by decide +kernel
theorem dX8_happened_121 : decode cX8_happened 121 = .ok (.ifCond .ne 6, 3) := by decide +kernel
theorem dX8_happened_124 : decode cX8_happened 124 = .ok (.bipush (-2), 2) := by decide +kernel
theorem dX8_happened_126 : decode cX8_happened 126 = .ok (.ireturn, 1) := by decide +kernel
theorem dX8_happened_127 : decode cX8_happened 127 = .ok (.aload_n 0, 1) := by decide +kernel
theorem dX8_happened_128 : decode cX8_happened 128 = .ok (.getfield 37, 3) := by decide +kernel
theorem dX8_happened_131 : decode cX8_happened 131 = .ok (.iconst 2, 1) := by decide +kernel
theorem dX8_happened_132 : decode cX8_happened 132 = .ok (.iload_n 1, 1) := by decide +kernel
theorem dX8_happened_133 : decode cX8_happened 133 = .ok (.imul, 1) := by decide +kernel
theorem dX8_happened_134 : decode cX8_happened 134 = .ok (.iload_n 2, 1) := by decide +kernel
theorem dX8_happened_135 : decode cX8_happened 135 = .ok (.iastore, 1) := by decide +kernel
theorem dX8_happened_136 : decode cX8_happened 136 = .ok (.aload_n 0, 1) := by decide +kernel
theorem dX8_happened_137 : decode cX8_happened 137 = .ok (.getfield 37, 3) := by decide +kernel
theorem dX8_happened_140 : decode cX8_happened 140 = .ok (.iconst 2, 1) := by decide +kernel
theorem dX8_happened_141 : decode cX8_happened 141 = .ok (.iload_n 1, 1) := by decide +kernel
theorem dX8_happened_142 : decode cX8_happened 142 = .ok (.imul, 1) := by decide +kernel
theorem dX8_happened_143 : decode cX8_happened 143 = .ok (.iconst 1, 1) := by decide +kernel
theorem dX8_happened_144 : decode cX8_happened 144 = .ok (.iadd, 1) := by decide +kernel
theorem dX8_happened_145 : decode cX8_happened 145 = .ok (.iload_n 3, 1) := by decide +kernel
theorem dX8_happened_146 : decode cX8_happened 146 = .ok (.iastore, 1) := by decide +kernel
theorem dX8_happened_147 : decode cX8_happened 147 = .ok (.iconst 0, 1) := by decide +kernel
theorem dX8_happened_148 : decode cX8_happened 148 = .ok (.ireturn, 1) := by decide +kernel
theorem dX8_push_0 : decode cX8_push 0 = .ok (.aload_n 0, 1) := by decide +kernel
theorem dX8_push_1 : decode cX8_push 1 = .ok (.getfield 62, 3) := by decide +kernel
theorem dX8_push_4 : decode cX8_push 4 = .ok (.iload_n 1, 1) := by decide +kernel
theorem dX8_push_5 : decode cX8_push 5 = .ok (.iaload, 1) := by decide +kernel
theorem dX8_push_6 : decode cX8_push 6 = .ok (.aload_n 0, 1) := by decide +kernel
theorem dX8_push_7 : decode cX8_push 7 = .ok (.getfield 62, 3) := by decide +kernel
theorem dX8_push_10 : decode cX8_push 10 = .ok (.iload_n 2, 1) := by decide +kernel
theorem dX8_push_11 : decode cX8_push 11 = .ok (.iaload, 1) := by decide +kernel
theorem dX8_push_12 : decode cX8_push 12 = .ok (.iload_n 3, 1) := by decide +kernel
theorem dX8_push_13 : decode cX8_push 13 = .ok (.iadd, 1) := by decide +kernel
theorem dX8_push_14 : decode cX8_push 14 = .ok (.if_icmp .ge 22, 3) := by decide +kernel
theorem dX8_push_17 : decode cX8_push 17 = .ok (.aload_n 0, 1) := by decide +kernel
theorem dX8_push_18 : decode cX8_push 18 = .ok (.getfield 62, 3) := by decide +kernel
theorem dX8_push_21 : decode cX8_push 21 = .ok (.iload_n 1, 1) := by decide +kernel
theorem dX8_push_22 : decode cX8_push 22 = .ok (.aload_n 0, 1) := by decide +kernel
theorem dX8_push_23 : decode cX8_push 23 = .ok (.getfield 62, 3) := by decide +kernel
theorem dX8_push_26 : decode cX8_push 26 = .ok (.iload_n 2, 1) := by decide +kernel
theorem dX8_push_27 : decode cX8_push 27 = .ok (.iaload, 1) := by decide +kernel
theorem dX8_push_28 : decode cX8_push 28 = .ok (.iload_n 3, 1) := by decide +kernel
theorem dX8_push_29 : decode cX8_push 29 = .ok (.iadd, 1) := by decide +kernel
theorem dX8_push_30 : decode cX8_push 30 = .ok (.iastore, 1) := by decide +kernel
theorem dX8_push_31 : decode cX8_push 31 = .ok (.aload_n 0, 1) := by decide +kernel
theorem dX8_push_32 : decode cX8_push 32 = .ok (.iconst 1, 1) := by decide +kernel
theorem dX8_push_33 : decode cX8_push 33 = .ok (.putfield 110, 3) := by decide +kernel
theorem dX8_push_36 : decode cX8_push 36 = .ok (.aload_n 0, 1) := by decide +kernel
theorem dX8_push_37 : decode cX8_push 37 = .ok (.getfield 65, 3) := by decide +kernel
theorem dX8_push_40 : decode cX8_push 40 = .ok (.iload_n 2, 1) := by decide +kernel
theorem dX8_push_41 : decode cX8_push 41 = .ok (.iaload, 1) := by decide +kernel
theorem dX8_push_42 : decode cX8_push 42 = .ok (.aload_n 0, 1) := by decide +kernel
theorem dX8_push_43 : decode cX8_push 43 = .ok (.getfield 65, 3) := by decide +kernel
theorem dX8_push_46 : decode cX8_push 46 = .ok (.iload_n 1, 1) := by decide +kernel
theorem dX8_push_47 : decode cX8_push 47 = .ok (.iaload, 1) := by decide +kernel
theorem dX8_push_48 : decode cX8_push 48 = .ok (.iload_n 3, 1) := by decide +kernel
theorem dX8_push_49 : decode cX8_push 49 = .ok (.isub, 1) := by decide +kernel
theorem dX8_push_50 : decode cX8_push 50 = .ok (.if_icmp .le 22, 3) := by decide +kernel
theorem dX8_push_53 : decode cX8_push 53 = .ok (.aload_n 0, 1) := by decide +kernel
theorem dX8_push_54 : decode cX8_push 54 = .ok (.getfield 65, 3) := by decide +kernel
theorem dX8_push_57 : decode cX8_push 57 = .ok (.iload_n 2, 1) := by decide +kernel
theorem dX8_push_58 : decode cX8_push 58 = .ok (.aload_n 0, 1) := by decide +kernel
theorem dX8_push_59 : decode cX8_push 59 = .ok (.getfield 65, 3) := by decide +kernel
theorem dX8_push_62 : decode cX8_push 62 = .ok (.iload_n 1, 1) := by decide +kernel
theorem dX8_push_63 : decode cX8_push 63 = .ok (.iaload, 1) := by decide +kernel
theorem dX8_push_64 : decode cX8_push 64 = .ok (.iload_n 3, 1) := by decide +kernel
theorem dX8_push_65 : decode cX8_push 65 = .ok (.isub, 1) := by decide +kernel
theorem dX8_push_66 : decode cX8_push 66 = .ok (.iastore, 1) := by decide +kernel
theorem dX8_push_67 : decode cX8_push 67 = .ok (.aload_n 0, 1) := by decide +kernel
theorem dX8_push_68 : decode cX8_push 68 = .ok (.iconst 1, 1) := by decide +kernel
theorem dX8_push_69 : decode cX8_push 69 = .ok (.putfield 110, 3) := by decide +kernel
theorem dX8_push_72 : decode cX8_push 72 = .ok (.return_, 1) := by decide +kernel
theorem dX8_isLet_0 : decode cX8_isLet 0 = .ok (.iconst 1, 1) := by decide +kernel
theorem dX8_isLet_1 : decode cX8_isLet 1 = .ok (.istore_n 1, 1) := by decide +kernel
theorem dX8_isLet_2 : decode cX8_isLet 2 = .ok (.iconst 0, 1) := by decide +kernel
theorem dX8_isLet_3 : decode cX8_isLet 3 = .ok (.istore_n 2, 1) := by decide +kernel
theorem dX8_isLet_4 : decode cX8_isLet 4 = .ok (.iload_n 2, 1) := by decide +kernel
theorem dX8_isLet_5 : decode cX8_isLet 5 = .ok (.aload_n 0, 1) := by decide +kernel
theorem dX8_isLet_6 : decode cX8_isLet 6 = .ok (.getfield 19, 3) := by decide +kernel
theorem dX8_isLet_9 : decode cX8_isLet 9 = .ok (.iconst 0, 1) := by decide +kernel
theorem dX8_isLet_10 : decode cX8_isLet 10 = .ok (.iaload, 1) := by decide +kernel
theorem dX8_isLet_11 : decode cX8_isLet 11 = .ok (.if_icmp .ge 34, 3) := by decide +kernel
theorem dX8_isLet_14 : decode cX8_isLet 14 = .ok (.iload_n 1, 1) := by decide +kernel
theorem dX8_isLet_15 : decode cX8_isLet 15 = .ok (.ifCond .eq 22, 3) := by decide +kernel
theorem dX8_isLet_18 : decode cX8_isLet 18 = .ok (.aload_n 0, 1) := by decide +kernel
theorem dX8_isLet_19 : decode cX8_isLet 19 = .ok (.getfield 62, 3) := by decide +kernel
theorem dX8_isLet_22 : decode cX8_isLet 22 = .ok (.iload_n 2, 1) := by decide +kernel
theorem dX8_isLet_23 : decode cX8_isLet 23 = .ok (.iaload, 1) := by decide +kernel
theorem dX8_isLet_24 : decode cX8_isLet 24 = .ok (.aload_n 0, 1) := by decide +kernel
theorem dX8_isLet_25 : decode cX8_isLet 25 = .ok (.getfield 65, 3) := by decide +kernel
theorem dX8_isLet_28 : decode cX8_isLet 28 = .ok (.iload_n 2, 1) := by decide +kernel
theorem dX8_isLet_29 : decode cX8_isLet 29 = .ok (.iaload, 1) := by decide +kernel
theorem dX8_isLet_30 : decode cX8_isLet 30 = .ok (.if_icmp .gt 7, 3) := by decide +kernel
theorem dX8_isLet_33 : decode cX8_isLet 33 = .ok (.iconst 1, 1) := by decide +kernel
theorem dX8_isLet_34 : decode cX8_isLet 34 = .ok (.goto 4, 3) := by decide +kernel
theorem dX8_isLet_37 : decode cX8_isLet 37 = .ok (.iconst 0, 1) := by decide +kernel
theorem dX8_isLet_38 : decode cX8_isLet 38 = .ok (.istore_n 1, 1) := by decide +kernel
theorem dX8_isLet_39 : decode cX8_isLet 39 = .ok (.iinc 2 1, 3) := by decide +kernel
theorem dX8_isLet_42 : decode cX8_isLet 42 = .ok (.goto (-38), 3) := by decide +kernel
theorem dX8_isLet_45 : decode cX8_isLet 45 = .ok (.iload_n 1, 1) := by decide +kernel
theorem dX8_isLet_46 : decode cX8_isLet 46 = .ok (.ireturn, 1) := by decide +kernel
theorem dX8_layDays_0 : decode cX8_layDays 0 = .ok (.iconst 0, 1) := by decide +kernel
theorem dX8_layDays_1 : decode cX8_layDays 1 = .ok (.istore_n 3, 1) := by decide +kernel
theorem dX8_layDays_2 : decode cX8_layDays 2 = .ok (.iload_n 3, 1) := by decide +kernel
theorem dX8_layDays_3 : decode cX8_layDays 3 = .ok (.aload_n 0, 1) := by decide +kernel
theorem dX8_layDays_4 : decode cX8_layDays 4 = .ok (.getfield 19, 3) := by decide +kernel
theorem dX8_layDays_7 : decode cX8_layDays 7 = .ok (.iconst 0, 1) := by decide +kernel
theorem dX8_layDays_8 : decode cX8_layDays 8 = .ok (.iaload, 1) := by decide +kernel
theorem dX8_layDays_9 : decode cX8_layDays 9 = .ok (.if_icmp .ge 57, 3) := by decide +kernel
theorem dX8_layDays_12 : decode cX8_layDays 12 = .ok (.aload_n 0, 1) := by decide +kernel
theorem dX8_layDays_13 : decode cX8_layDays 13 = .ok (.getfield 22, 3) := by decide +kernel
theorem dX8_layDays_16 : decode cX8_layDays 16 = .ok (.iconst 3, 1) := by decide +kernel
theorem dX8_layDays_17 : decode cX8_layDays 17 = .ok (.iload_n 3, 1) := by decide +kernel
theorem dX8_layDays_18 : decode cX8_layDays 18 = .ok (.imul, 1) := by decide +kernel
theorem dX8_layDays_19 : decode cX8_layDays 19 = .ok (.iconst 2, 1) := by decide +kernel
theorem dX8_layDays_20 : decode cX8_layDays 20 = .ok (.iadd, 1) := by decide +kernel
theorem dX8_layDays_21 : decode cX8_layDays 21 = .ok (.iaload, 1) := by decide +kernel
theorem dX8_layDays_22 : decode cX8_layDays 22 = .ok (.istore 4, 2) := by decide +kernel
theorem dX8_layDays_24 : decode cX8_layDays 24 = .ok (.aload_n 0, 1) := by decide +kernel
theorem dX8_layDays_25 : decode cX8_layDays 25 = .ok (.getfield 62, 3) := by decide +kernel
theorem dX8_layDays_28 : decode cX8_layDays 28 = .ok (.iload_n 3, 1) := by decide +kernel
theorem dX8_layDays_29 : decode cX8_layDays 29 = .ok (.iload 4, 2) := by decide +kernel
theorem dX8_layDays_31 : decode cX8_layDays 31 = .ok (.ifCond .ge 7, 3) := by decide +kernel
theorem dX8_layDays_34 : decode cX8_layDays 34 = .ok (.iconst 0, 1) := by decide +kernel
theorem dX8_layDays_35 : decode cX8_layDays 35 = .ok (.goto 5, 3) := by decide +kernel
theorem dX8_layDays_38 : decode cX8_layDays 38 = .ok (.iload 4, 2) := by decide +kernel
theorem dX8_layDays_40 : decode cX8_layDays 40 = .ok (.iastore, 1) := by decide +kernel
theorem dX8_layDays_41 : decode cX8_layDays 41 = .ok (.aload_n 0, 1) := by decide +kernel
theorem dX8_layDays_42 : decode cX8_layDays 42 = .ok (.getfield 65, 3) := by decide +kernel
theorem dX8_layDays_45 : decode cX8_layDays 45 = .ok (.iload_n 3, 1) := by decide +kernel
theorem dX8_layDays_46 : decode cX8_layDays 46 = .ok (.iload 4, 2) := by decide +kernel
theorem dX8_layDays_48 : decode cX8_layDays 48 = .ok (.ifCond .ge 9, 3) := by decide +kernel
theorem dX8_layDays_51 : decode cX8_layDays 51 = .ok (.sipush 999, 3) := by decide +kernel
theorem dX8_layDays_54 : decode cX8_layDays 54 = .ok (.goto 5, 3) := by decide +kernel
theorem dX8_layDays_57 : decode cX8_layDays 57 = .ok (.iload 4, 2) := by decide +kernel
theorem dX8_layDays_59 : decode cX8_layDays 59 = .ok (.iastore, 1) := by decide +kernel
theorem dX8_layDays_60 : decode cX8_layDays 60 = .ok (.iinc 3 1, 3) := by decide +kernel
theorem dX8_layDays_63 : decode cX8_layDays 63 = .ok (.goto (-61), 3) := by decide +kernel
theorem dX8_layDays_66 : decode cX8_layDays 66 = .ok (.iconst 0, 1) := by decide +kernel
theorem dX8_layDays_67 : decode cX8_layDays 67 = .ok (.istore_n 3, 1) := by decide +kernel
theorem dX8_layDays_68 : decode cX8_layDays 68 = .ok (.iload_n 3, 1) := by decide +kernel
theorem dX8_layDays_69 : decode cX8_layDays 69 = .ok (.aload_n 0, 1) := by decide +kernel
theorem dX8_layDays_70 : decode cX8_layDays 70 = .ok (.getfield 31, 3) := by decide +kernel
theorem dX8_layDays_73 : decode cX8_layDays 73 = .ok (.iconst 0, 1) := by decide +kernel
theorem dX8_layDays_74 : decode cX8_layDays 74 = .ok (.iaload, 1) := by decide +kernel
theorem dX8_layDays_75 : decode cX8_layDays 75 = .ok (.if_icmp .ge 117, 3) := by decide +kernel
theorem dX8_layDays_78 : decode cX8_layDays 78 = .ok (.aload_n 0, 1) := by decide +kernel
theorem dX8_layDays_79 : decode cX8_layDays 79 = .ok (.getfield 34, 3) := by decide +kernel
theorem dX8_layDays_82 : decode cX8_layDays 82 = .ok (.bipush 6, 2) := by decide +kernel
theorem dX8_layDays_84 : decode cX8_layDays 84 = .ok (.iload_n 3, 1) := by decide +kernel
theorem dX8_layDays_85 : decode cX8_layDays 85 = .ok (.imul, 1) := by decide +kernel
theorem dX8_layDays_86 : decode cX8_layDays 86 = .ok (.iconst 1, 1) := by decide +kernel
theorem dX8_layDays_87 : decode cX8_layDays 87 = .ok (.iadd, 1) := by decide +kernel
theorem dX8_layDays_88 : decode cX8_layDays 88 = .ok (.iaload, 1) := by decide +kernel
theorem dX8_layDays_89 : decode cX8_layDays 89 = .ok (.istore 4, 2) := by decide +kernel
theorem dX8_layDays_91 : decode cX8_layDays 91 = .ok (.aload_n 0, 1) := by decide +kernel
theorem dX8_layDays_92 : decode cX8_layDays 92 = .ok (.getfield 34, 3) := by decide +kernel
theorem dX8_layDays_95 : decode cX8_layDays 95 = .ok (.bipush 6, 2) := by decide +kernel
theorem dX8_layDays_97 : decode cX8_layDays 97 = .ok (.iload_n 3, 1) := by decide +kernel
theorem dX8_layDays_98 : decode cX8_layDays 98 = .ok (.imul, 1) := by decide +kernel
theorem dX8_layDays_99 : decode cX8_layDays 99 = .ok (.iaload, 1) := by decide +kernel
theorem dX8_layDays_100 : decode cX8_layDays 100 = .ok (.istore 5, 2) := by decide +kernel
theorem dX8_layDays_102 : decode cX8_layDays 102 = .ok (.aload_n 0, 1) := by decide +kernel
theorem dX8_layDays_103 : decode cX8_layDays 103 = .ok (.getfield 37, 3) := by decide +kernel
theorem dX8_layDays_106 : decode cX8_layDays 106 = .ok (.iconst 2, 1) := by decide +kernel
theorem dX8_layDays_107 : decode cX8_layDays 107 = .ok (.iload 4, 2) := by decide +kernel
theorem dX8_layDays_109 : decode cX8_layDays 109 = .ok (.imul, 1) := by decide +kernel
theorem dX8_layDays_110 : decode cX8_layDays 110 = .ok (.iaload, 1) := by decide +kernel
theorem dX8_layDays_111 : decode cX8_layDays 111 = .ok (.ifCond .lt 75, 3) := by decide +kernel
theorem dX8_layDays_114 : decode cX8_layDays 114 = .ok (.aload_n 0, 1) := by decide +kernel
theorem dX8_layDays_115 : decode cX8_layDays 115 = .ok (.getfield 37, 3) := by decide +kernel
theorem dX8_layDays_118 : decode cX8_layDays 118 = .ok (.iconst 2, 1) := by decide +kernel
theorem dX8_layDays_119 : decode cX8_layDays 119 = .ok (.iload 4, 2) := by decide +kernel
theorem dX8_layDays_121 : decode cX8_layDays 121 = .ok (.imul, 1) := by decide +kernel
theorem dX8_layDays_122 : decode cX8_layDays 122 = .ok (.iconst 1, 1) := by decide +kernel
theorem dX8_layDays_123 : decode cX8_layDays 123 = .ok (.iadd, 1) := by decide +kernel
theorem dX8_layDays_124 : decode cX8_layDays 124 = .ok (.iaload, 1) := by decide +kernel
theorem dX8_layDays_125 : decode cX8_layDays 125 = .ok (.aload_n 0, 1) := by decide +kernel
theorem dX8_layDays_126 : decode cX8_layDays 126 = .ok (.getfield 16, 3) := by decide +kernel
theorem dX8_layDays_129 : decode cX8_layDays 129 = .ok (.bipush 6, 2) := by decide +kernel
theorem dX8_layDays_131 : decode cX8_layDays 131 = .ok (.aload_n 0, 1) := by decide +kernel
theorem dX8_layDays_132 : decode cX8_layDays 132 = .ok (.getfield 37, 3) := by decide +kernel
theorem dX8_layDays_135 : decode cX8_layDays 135 = .ok (.iconst 2, 1) := by decide +kernel
theorem dX8_layDays_136 : decode cX8_layDays 136 = .ok (.iload 4, 2) := by decide +kernel
theorem dX8_layDays_138 : decode cX8_layDays 138 = .ok (.imul, 1) := by decide +kernel
theorem dX8_layDays_139 : decode cX8_layDays 139 = .ok (.iaload, 1) := by decide +kernel
theorem dX8_layDays_140 : decode cX8_layDays 140 = .ok (.imul, 1) := by decide +kernel
theorem dX8_layDays_141 : decode cX8_layDays 141 = .ok (.aload_n 0, 1) := by decide +kernel
theorem dX8_layDays_142 : decode cX8_layDays 142 = .ok (.getfield 22, 3) := by decide +kernel
theorem dX8_layDays_145 : decode cX8_layDays 145 = .ok (.iconst 3, 1) := by decide +kernel
theorem dX8_layDays_146 : decode cX8_layDays 146 = .ok (.iload 5, 2) := by decide +kernel
theorem dX8_layDays_148 : decode cX8_layDays 148 = .ok (.imul, 1) := by decide +kernel
theorem dX8_layDays_149 : decode cX8_layDays 149 = .ok (.iaload, 1) := by decide +kernel
theorem dX8_layDays_150 : decode cX8_layDays 150 = .ok (.iadd, 1) := by decide +kernel
theorem dX8_layDays_151 : decode cX8_layDays 151 = .ok (.iaload, 1) := by decide +kernel
theorem dX8_layDays_152 : decode cX8_layDays 152 = .ok (.iadd, 1) := by decide +kernel
theorem dX8_layDays_153 : decode cX8_layDays 153 = .ok (.istore 6, 2) := by decide +kernel
theorem dX8_layDays_155 : decode cX8_layDays 155 = .ok (.aload_n 0, 1) := by decide +kernel
theorem dX8_layDays_156 : decode cX8_layDays 156 = .ok (.getfield 62, 3) := by decide +kernel
theorem dX8_layDays_159 : decode cX8_layDays 159 = .ok (.iload 5, 2) := by decide +kernel
theorem dX8_layDays_161 : decode cX8_layDays 161 = .ok (.iload 6, 2) := by decide +kernel
theorem dX8_layDays_163 : decode cX8_layDays 163 = .ok (.aload_n 0, 1) := by decide +kernel
theorem dX8_layDays_164 : decode cX8_layDays 164 = .ok (.getfield 62, 3) := by decide +kernel
theorem dX8_layDays_167 : decode cX8_layDays 167 = .ok (.iload 5, 2) := by decide +kernel
theorem dX8_layDays_169 : decode cX8_layDays 169 = .ok (.iaload, 1) := by decide +kernel
theorem dX8_layDays_170 : decode cX8_layDays 170 = .ok (.if_icmp .le 8, 3) := by decide +kernel
theorem dX8_layDays_173 : decode cX8_layDays 173 = .ok (.iload 6, 2) := by decide +kernel
theorem dX8_layDays_175 : decode cX8_layDays 175 = .ok (.goto 10, 3) := by decide +kernel
theorem dX8_layDays_178 : decode cX8_layDays 178 = .ok (.aload_n 0, 1) := by decide +kernel
theorem dX8_layDays_179 : decode cX8_layDays 179 = .ok (.getfield 62, 3) := by decide +kernel
theorem dX8_layDays_182 : decode cX8_layDays 182 = .ok (.iload 5, 2) := by decide +kernel
theorem dX8_layDays_184 : decode cX8_layDays 184 = .ok (.iaload, 1) := by decide +kernel
theorem dX8_layDays_185 : decode cX8_layDays 185 = .ok (.iastore, 1) := by decide +kernel
theorem dX8_layDays_186 : decode cX8_layDays 186 = .ok (.iinc 3 1, 3) := by decide +kernel
theorem dX8_layDays_189 : decode cX8_layDays 189 = .ok (.goto (-121), 3) := by decide +kernel
theorem dX8_layDays_192 : decode cX8_layDays 192 = .ok (.aload_n 0, 1) := by decide +kernel
theorem dX8_layDays_193 : decode cX8_layDays 193 = .ok (.iconst 1, 1) := by decide +kernel
theorem dX8_layDays_194 : decode cX8_layDays 194 = .ok (.putfield 110, 3) := by decide +kernel
theorem dX8_layDays_197 : decode cX8_layDays 197 = .ok (.aload_n 0, 1) := by decide +kernel
theorem dX8_layDays_198 : decode cX8_layDays 198 = .ok (.getfield 110, 3) := by decide +kernel
theorem dX8_layDays_201 : decode cX8_layDays 201 = .ok (.ifCond .eq 91, 3) := by decide +kernel
theorem dX8_layDays_204 : decode cX8_layDays 204 = .ok (.aload_n 0, 1) := by decide +kernel
theorem dX8_layDays_205 : decode cX8_layDays 205 = .ok (.invokevirtual 114, 3) := by decide +kernel
theorem dX8_layDays_208 : decode cX8_layDays 208 = .ok (.ifCond .eq 84, 3) := by decide +kernel
theorem dX8_layDays_211 : decode cX8_layDays 211 = .ok (.aload_n 0, 1) := by decide +kernel
theorem dX8_layDays_212 : decode cX8_layDays 212 = .ok (.iconst 0, 1) := by decide +kernel
theorem dX8_layDays_213 : decode cX8_layDays 213 = .ok (.putfield 110, 3) := by decide +kernel
theorem dX8_layDays_216 : decode cX8_layDays 216 = .ok (.iconst 0, 1) := by decide +kernel
theorem dX8_layDays_217 : decode cX8_layDays 217 = .ok (.istore_n 3, 1) := by decide +kernel
theorem dX8_layDays_218 : decode cX8_layDays 218 = .ok (.iload_n 3, 1) := by decide +kernel
theorem dX8_layDays_219 : decode cX8_layDays 219 = .ok (.aload_n 0, 1) := by decide +kernel
theorem dX8_layDays_220 : decode cX8_layDays 220 = .ok (.getfield 25, 3) := by decide +kernel
theorem dX8_layDays_223 : decode cX8_layDays 223 = .ok (.iconst 0, 1) := by decide +kernel
theorem dX8_layDays_224 : decode cX8_layDays 224 = .ok (.iaload, 1) := by decide +kernel
theorem dX8_layDays_225 : decode cX8_layDays 225 = .ok (.if_icmp .ge 53, 3) := by decide +kernel
theorem dX8_layDays_228 : decode cX8_layDays 228 = .ok (.aload_n 0, 1) := by decide +kernel
theorem dX8_layDays_229 : decode cX8_layDays 229 = .ok (.aload_n 0, 1) := by decide +kernel
theorem dX8_layDays_230 : decode cX8_layDays 230 = .ok (.getfield 28, 3) := by decide +kernel
theorem dX8_layDays_233 : decode cX8_layDays 233 = .ok (.iconst 2, 1) := by decide +kernel
theorem dX8_layDays_234 : decode cX8_layDays 234 = .ok (.iload_n 3, 1) := by decide +kernel
theorem dX8_layDays_235 : decode cX8_layDays 235 = .ok (.imul, 1) := by decide +kernel
theorem dX8_layDays_236 : decode cX8_layDays 236 = .ok (.iaload, 1) := by decide +kernel
theorem dX8_layDays_237 : decode cX8_layDays 237 = .ok (.aload_n 0, 1) := by decide +kernel
theorem dX8_layDays_238 : decode cX8_layDays 238 = .ok (.getfield 28, 3) := by decide +kernel
theorem dX8_layDays_241 : decode cX8_layDays 241 = .ok (.iconst 2, 1) := by decide +kernel
theorem dX8_layDays_242 : decode cX8_layDays 242 = .ok (.iload_n 3, 1) := by decide +kernel
theorem dX8_layDays_243 : decode cX8_layDays 243 = .ok (.imul, 1) := by decide +kernel
theorem dX8_layDays_244 : decode cX8_layDays 244 = .ok (.iconst 1, 1) := by decide +kernel
theorem dX8_layDays_245 : decode cX8_layDays 245 = .ok (.iadd, 1) := by decide +kernel
theorem dX8_layDays_246 : decode cX8_layDays 246 = .ok (.iaload, 1) := by decide +kernel
theorem dX8_layDays_247 : decode cX8_layDays 247 = .ok (.aload_n 0, 1) := by decide +kernel
theorem dX8_layDays_248 : decode cX8_layDays 248 = .ok (.aload_n 0, 1) := by decide +kernel
theorem dX8_layDays_249 : decode cX8_layDays 249 = .ok (.getfield 28, 3) := by decide +kernel
theorem dX8_layDays_252 : decode cX8_layDays 252 = .ok (.iconst 2, 1) := by decide +kernel
theorem dX8_layDays_253 : decode cX8_layDays 253 = .ok (.iload_n 3, 1) := by decide +kernel
theorem dX8_layDays_254 : decode cX8_layDays 254 = .ok (.imul, 1) := by decide +kernel
theorem dX8_layDays_255 : decode cX8_layDays 255 = .ok (.iconst 1, 1) := by decide +kernel
theorem dX8_layDays_256 : decode cX8_layDays 256 = .ok (.iadd, 1) := by decide +kernel
theorem dX8_layDays_257 : decode cX8_layDays 257 = .ok (.iaload, 1) := by decide +kernel
theorem dX8_layDays_258 : decode cX8_layDays 258 = .ok (.aload_n 0, 1) := by decide +kernel
theorem dX8_layDays_259 : decode cX8_layDays 259 = .ok (.getfield 28, 3) := by decide +kernel
theorem dX8_layDays_262 : decode cX8_layDays 262 = .ok (.iconst 2, 1) := by decide +kernel
theorem dX8_layDays_263 : decode cX8_layDays 263 = .ok (.iload_n 3, 1) := by decide +kernel
theorem dX8_layDays_264 : decode cX8_layDays 264 = .ok (.imul, 1) := by decide +kernel
theorem dX8_layDays_265 : decode cX8_layDays 265 = .ok (.iaload, 1) := by decide +kernel
theorem dX8_layDays_266 : decode cX8_layDays 266 = .ok (.invokevirtual 100, 3) := by decide +kernel
theorem dX8_layDays_269 : decode cX8_layDays 269 = .ok (.invokevirtual 118, 3) := by decide +kernel
theorem dX8_layDays_272 : decode cX8_layDays 272 = .ok (.iinc 3 1, 3) := by decide +kernel
theorem dX8_layDays_275 : decode cX8_layDays 275 = .ok (.goto (-57), 3) := by decide +kernel
theorem dX8_layDays_278 : decode cX8_layDays 278 = .ok (.iload_n 1, 1) := by decide +kernel
theorem dX8_layDays_279 : decode cX8_layDays 279 = .ok (.ifCond .lt (-82), 3) := by decide +kernel
theorem dX8_layDays_282 : decode cX8_layDays 282 = .ok (.aload_n 0, 1) := by decide +kernel
theorem dX8_layDays_283 : decode cX8_layDays 283 = .ok (.iload_n 1, 1) := by decide +kernel
theorem dX8_layDays_284 : decode cX8_layDays 284 = .ok (.iload_n 2, 1) := by decide +kernel
theorem dX8_layDays_285 : decode cX8_layDays 285 = .ok (.iconst 0, 1) := by decide +kernel
theorem dX8_layDays_286 : decode cX8_layDays 286 = .ok (.invokevirtual 118, 3) := by decide +kernel
theorem dX8_layDays_289 : decode cX8_layDays 289 = .ok (.goto (-92), 3) := by decide +kernel
theorem dX8_layDays_292 : decode cX8_layDays 292 = .ok (.aload_n 0, 1) := by decide +kernel
theorem dX8_layDays_293 : decode cX8_layDays 293 = .ok (.invokevirtual 114, 3) := by decide +kernel
theorem dX8_layDays_296 : decode cX8_layDays 296 = .ok (.ireturn, 1) := by decide +kernel
theorem dX8_areDays_0 : decode cX8_areDays 0 = .ok (.aload_n 0, 1) := by decide +kernel
theorem dX8_areDays_1 : decode cX8_areDays 1 = .ok (.iconst (-1), 1) := by decide +kernel
theorem dX8_areDays_2 : decode cX8_areDays 2 = .ok (.iconst (-1), 1) := by decide +kernel
theorem dX8_areDays_3 : decode cX8_areDays 3 = .ok (.invokevirtual 122, 3) := by decide +kernel
theorem dX8_areDays_6 : decode cX8_areDays 6 = .ok (.ireturn, 1) := by decide +kernel
theorem dX8_span_0 : decode cX8_span 0 = .ok (.aload_n 0, 1) := by decide +kernel
theorem dX8_span_1 : decode cX8_span 1 = .ok (.iload_n 1, 1) := by decide +kernel
theorem dX8_span_2 : decode cX8_span 2 = .ok (.invokevirtual 97, 3) := by decide +kernel
theorem dX8_span_5 : decode cX8_span 5 = .ok (.ifCond .eq 13, 3) := by decide +kernel
theorem dX8_span_8 : decode cX8_span 8 = .ok (.iload_n 2, 1) := by decide +kernel
theorem dX8_span_9 : decode cX8_span 9 = .ok (.i2l, 1) := by decide +kernel
theorem dX8_span_10 : decode cX8_span 10 = .ok (.lconst 0, 1) := by decide +kernel
theorem dX8_span_11 : decode cX8_span 11 = .ok (.lconst 1, 1) := by decide +kernel
theorem dX8_span_12 : decode cX8_span 12 = .ok (.invokestatic 79, 3) := by decide +kernel
theorem dX8_span_15 : decode cX8_span 15 = .ok (.ifCond .ne 5, 3) := by decide +kernel
theorem dX8_span_18 : decode cX8_span 18 = .ok (.iconst (-1), 1) := by decide +kernel
theorem dX8_span_19 : decode cX8_span 19 = .ok (.ireturn, 1) := by decide +kernel
theorem dX8_span_20 : decode cX8_span 20 = .ok (.aload_n 0, 1) := by decide +kernel
theorem dX8_span_21 : decode cX8_span 21 = .ok (.invokevirtual 126, 3) := by decide +kernel
theorem dX8_span_24 : decode cX8_span 24 = .ok (.ifCond .ne 8, 3) := by decide +kernel
theorem dX8_span_27 : decode cX8_span 27 = .ok (.bipush (-2), 2) := by decide +kernel
theorem dX8_span_29 : decode cX8_span 29 = .ok (.goto 22, 3) := by decide +kernel
theorem dX8_span_32 : decode cX8_span 32 = .ok (.iload_n 2, 1) := by decide +kernel
theorem dX8_span_33 : decode cX8_span 33 = .ok (.ifCond .ne 12, 3) := by decide +kernel
theorem dX8_span_36 : decode cX8_span 36 = .ok (.aload_n 0, 1) := by decide +kernel
theorem dX8_span_37 : decode cX8_span 37 = .ok (.getfield 62, 3) := by decide +kernel
theorem dX8_span_40 : decode cX8_span 40 = .ok (.iload_n 1, 1) := by decide +kernel
theorem dX8_span_41 : decode cX8_span 41 = .ok (.iaload, 1) := by decide +kernel
theorem dX8_span_42 : decode cX8_span 42 = .ok (.goto 9, 3) := by decide +kernel
theorem dX8_span_45 : decode cX8_span 45 = .ok (.aload_n 0, 1) := by decide +kernel
theorem dX8_span_46 : decode cX8_span 46 = .ok (.getfield 65, 3) := by decide +kernel
theorem dX8_span_49 : decode cX8_span 49 = .ok (.iload_n 1, 1) := by decide +kernel
theorem dX8_span_50 : decode cX8_span 50 = .ok (.iaload, 1) := by decide +kernel
theorem dX8_span_51 : decode cX8_span 51 = .ok (.ireturn, 1) := by decide +kernel
theorem dX8_ahead_0 : decode cX8_ahead 0 = .ok (.aload_n 0, 1) := by decide +kernel
theorem dX8_ahead_1 : decode cX8_ahead 1 = .ok (.iload_n 1, 1) := by decide +kernel
theorem dX8_ahead_2 : decode cX8_ahead 2 = .ok (.invokevirtual 97, 3) := by decide +kernel
theorem dX8_ahead_5 : decode cX8_ahead 5 = .ok (.ifCond .eq 11, 3) := by decide +kernel
theorem dX8_ahead_8 : decode cX8_ahead 8 = .ok (.aload_n 0, 1) := by decide +kernel
theorem dX8_ahead_9 : decode cX8_ahead 9 = .ok (.iload_n 2, 1) := by decide +kernel
theorem dX8_ahead_10 : decode cX8_ahead 10 = .ok (.invokevirtual 97, 3) := by decide +kernel
theorem dX8_ahead_13 : decode cX8_ahead 13 = .ok (.ifCond .ne 5, 3) := by decide +kernel
theorem dX8_ahead_16 : decode cX8_ahead 16 = .ok (.iconst (-1), 1) := by decide +kernel
theorem dX8_ahead_17 : decode cX8_ahead 17 = .ok (.ireturn, 1) := by decide +kernel
theorem dX8_ahead_18 : decode cX8_ahead 18 = .ok (.aload_n 0, 1) := by decide +kernel
theorem dX8_ahead_19 : decode cX8_ahead 19 = .ok (.invokevirtual 126, 3) := by decide +kernel
theorem dX8_ahead_22 : decode cX8_ahead 22 = .ok (.ifCond .ne 6, 3) := by decide +kernel
theorem dX8_ahead_25 : decode cX8_ahead 25 = .ok (.bipush (-2), 2) := by decide +kernel
theorem dX8_ahead_27 : decode cX8_ahead 27 = .ok (.ireturn, 1) := by decide +kernel
theorem dX8_ahead_28 : decode cX8_ahead 28 = .ok (.iload_n 1, 1) := by decide +kernel
theorem dX8_ahead_29 : decode cX8_ahead 29 = .ok (.iload_n 2, 1) := by decide +kernel
theorem dX8_ahead_30 : decode cX8_ahead 30 = .ok (.if_icmp .eq 12, 3) := by decide +kernel
theorem dX8_ahead_33 : decode cX8_ahead 33 = .ok (.aload_n 0, 1) := by decide +kernel
theorem dX8_ahead_34 : decode cX8_ahead 34 = .ok (.iload_n 1, 1) := by decide +kernel
theorem dX8_ahead_35 : decode cX8_ahead 35 = .ok (.iload_n 2, 1) := by decide +kernel
theorem dX8_ahead_36 : decode cX8_ahead 36 = .ok (.invokevirtual 122, 3) := by decide +kernel
theorem dX8_ahead_39 : decode cX8_ahead 39 = .ok (.ifCond .eq 7, 3) := by decide +kernel
theorem dX8_ahead_42 : decode cX8_ahead 42 = .ok (.iconst 0, 1) := by decide +kernel
theorem dX8_ahead_43 : decode cX8_ahead 43 = .ok (.goto 4, 3) := by decide +kernel
theorem dX8_ahead_46 : decode cX8_ahead 46 = .ok (.iconst 1, 1) := by decide +kernel
theorem dX8_ahead_47 : decode cX8_ahead 47 = .ok (.ireturn, 1) := by decide +kernel
theorem dX8_say_0 : decode cX8_say 0 = .ok (.aload_n 0, 1) := by decide +kernel
theorem dX8_say_1 : decode cX8_say 1 = .ok (.iload_n 1, 1) := by decide +kernel
theorem dX8_say_2 : decode cX8_say 2 = .ok (.invokevirtual 97, 3) := by decide +kernel
theorem dX8_say_5 : decode cX8_say 5 = .ok (.ifCond .eq 35, 3) := by decide +kernel
theorem dX8_say_8 : decode cX8_say 8 = .ok (.iload_n 2, 1) := by decide +kernel
theorem dX8_say_9 : decode cX8_say 9 = .ok (.invokestatic 104, 3) := by decide +kernel
theorem dX8_say_12 : decode cX8_say 12 = .ok (.ifCond .eq 28, 3) := by decide +kernel
theorem dX8_say_15 : decode cX8_say 15 = .ok (.iload_n 3, 1) := by decide +kernel
theorem dX8_say_16 : decode cX8_say 16 = .ok (.i2l, 1) := by decide +kernel
theorem dX8_say_17 : decode cX8_say 17 = .ok (.lconst 0, 1) := by decide +kernel
theorem dX8_say_18 : decode cX8_say 18 = .ok (.ldc2_w 129, 3) := by decide +kernel
theorem dX8_say_21 : decode cX8_say 21 = .ok (.invokestatic 79, 3) := by decide +kernel
theorem dX8_say_24 : decode cX8_say 24 = .ok (.ifCond .eq 16, 3) := by decide +kernel
theorem dX8_say_27 : decode cX8_say 27 = .ok (.iload 4, 2) := by decide +kernel
theorem dX8_say_29 : decode cX8_say 29 = .ok (.i2l, 1) := by decide +kernel
theorem dX8_say_30 : decode cX8_say 30 = .ok (.lconst 0, 1) := by decide +kernel
theorem dX8_say_31 : decode cX8_say 31 = .ok (.ldc2_w 131, 3) := by decide +kernel
theorem dX8_say_34 : decode cX8_say 34 = .ok (.invokestatic 79, 3) := by decide +kernel
theorem dX8_say_37 : decode cX8_say 37 = .ok (.ifCond .ne 5, 3) := by decide +kernel
theorem dX8_say_40 : decode cX8_say 40 = .ok (.iconst (-1), 1) := by decide +kernel
theorem dX8_say_41 : decode cX8_say 41 = .ok (.ireturn, 1) := by decide +kernel
theorem dX8_say_42 : decode cX8_say 42 = .ok (.aload_n 0, 1) := by decide +kernel
theorem dX8_say_43 : decode cX8_say 43 = .ok (.getfield 37, 3) := by decide +kernel
theorem dX8_say_46 : decode cX8_say 46 = .ok (.iconst 2, 1) := by decide +kernel
theorem dX8_say_47 : decode cX8_say 47 = .ok (.iload_n 2, 1) := by decide +kernel
theorem dX8_say_48 : decode cX8_say 48 = .ok (.imul, 1) := by decide +kernel
theorem dX8_say_49 : decode cX8_say 49 = .ok (.iaload, 1) := by decide +kernel
theorem dX8_say_50 : decode cX8_say 50 = .ok (.ifCond .lt 34, 3) := by decide +kernel
theorem dX8_say_53 : decode cX8_say 53 = .ok (.aload_n 0, 1) := by decide +kernel
theorem dX8_say_54 : decode cX8_say 54 = .ok (.getfield 16, 3) := by decide +kernel
theorem dX8_say_57 : decode cX8_say 57 = .ok (.bipush 6, 2) := by decide +kernel
theorem dX8_say_59 : decode cX8_say 59 = .ok (.aload_n 0, 1) := by decide +kernel
theorem dX8_say_60 : decode cX8_say 60 = .ok (.getfield 37, 3) := by decide +kernel
theorem dX8_say_63 : decode cX8_say 63 = .ok (.iconst 2, 1) := by decide +kernel
theorem dX8_say_64 : decode cX8_say 64 = .ok (.iload_n 2, 1) := by decide +kernel
theorem dX8_say_65 : decode cX8_say 65 = .ok (.imul, 1) := by decide +kernel
theorem dX8_say_66 : decode cX8_say 66 = .ok (.iaload, 1) := by decide +kernel
theorem dX8_say_67 : decode cX8_say 67 = .ok (.imul, 1) := by decide +kernel
theorem dX8_say_68 : decode cX8_say 68 = .ok (.aload_n 0, 1) := by decide +kernel
theorem dX8_say_69 : decode cX8_say 69 = .ok (.getfield 22, 3) := by decide +kernel
theorem dX8_say_72 : decode cX8_say 72 = .ok (.iconst 3, 1) := by decide +kernel
theorem dX8_say_73 : decode cX8_say 73 = .ok (.iload_n 1, 1) := by decide +kernel
theorem dX8_say_74 : decode cX8_say 74 = .ok (.imul, 1) := by decide +kernel
theorem dX8_say_75 : decode cX8_say 75 = .ok (.iaload, 1) := by decide +kernel
theorem dX8_say_76 : decode cX8_say 76 = .ok (.iadd, 1) := by decide +kernel
theorem dX8_say_77 : decode cX8_say 77 = .ok (.iaload, 1) := by decide +kernel
theorem dX8_say_78 : decode cX8_say 78 = .ok (.ifCond .ge 6, 3) := by decide +kernel
theorem dX8_say_81 : decode cX8_say 81 = .ok (.bipush (-2), 2) := by decide +kernel
theorem dX8_say_83 : decode cX8_say 83 = .ok (.ireturn, 1) := by decide +kernel
theorem dX8_say_84 : decode cX8_say 84 = .ok (.aload_n 0, 1) := by decide +kernel
theorem dX8_say_85 : decode cX8_say 85 = .ok (.getfield 31, 3) := by decide +kernel
theorem dX8_say_88 : decode cX8_say 88 = .ok (.iconst 0, 1) := by decide +kernel
theorem dX8_say_89 : decode cX8_say 89 = .ok (.iaload, 1) := by decide +kernel
theorem dX8_say_90 : decode cX8_say 90 = .ok (.bipush 30, 2) := by decide +kernel
theorem dX8_say_92 : decode cX8_say 92 = .ok (.if_icmp .ne 6, 3) := by decide +kernel
theorem dX8_say_95 : decode cX8_say 95 = .ok (.bipush (-3), 2) := by decide +kernel
theorem dX8_say_97 : decode cX8_say 97 = .ok (.ireturn, 1) := by decide +kernel
theorem dX8_say_98 : decode cX8_say 98 = .ok (.bipush 6, 2) := by decide +kernel
theorem dX8_say_100 : decode cX8_say 100 = .ok (.aload_n 0, 1) := by decide +kernel
theorem dX8_say_101 : decode cX8_say 101 = .ok (.getfield 31, 3) := by decide +kernel
theorem dX8_say_104 : decode cX8_say 104 = .ok (.iconst 0, 1) := by decide +kernel
theorem dX8_say_105 : decode cX8_say 105 = .ok (.iaload, 1) := by decide +kernel
theorem dX8_say_106 : decode cX8_say 106 = .ok (.imul, 1) := by decide +kernel
theorem dX8_say_107 : decode cX8_say 107 = .ok (.istore 7, 2) := by decide +kernel
theorem dX8_say_109 : decode cX8_say 109 = .ok (.aload_n 0, 1) := by decide +kernel
theorem dX8_say_110 : decode cX8_say 110 = .ok (.getfield 34, 3) := by decide +kernel
theorem dX8_say_113 : decode cX8_say 113 = .ok (.iload 7, 2) := by decide +kernel
theorem dX8_say_115 : decode cX8_say 115 = .ok (.iload_n 1, 1) := by decide +kernel
theorem dX8_say_116 : decode cX8_say 116 = .ok (.iastore, 1) := by decide +kernel
theorem dX8_say_117 : decode cX8_say 117 = .ok (.aload_n 0, 1) := by decide +kernel
theorem dX8_say_118 : decode cX8_say 118 = .ok (.getfield 34, 3) := by decide +kernel
theorem dX8_say_121 : decode cX8_say 121 = .ok (.iload 7, 2) := by decide +kernel
theorem dX8_say_123 : decode cX8_say 123 = .ok (.iconst 1, 1) := by decide +kernel
theorem dX8_say_124 : decode cX8_say 124 = .ok (.iadd, 1) := by decide +kernel
theorem dX8_say_125 : decode cX8_say 125 = .ok (.iload_n 2, 1) := by decide +kernel
theorem dX8_say_126 : decode cX8_say 126 = .ok (.iastore, 1) := by decide +kernel
theorem dX8_say_127 : decode cX8_say 127 = .ok (.aload_n 0, 1) := by decide +kernel
theorem dX8_say_128 : decode cX8_say 128 = .ok (.getfield 34, 3) := by decide +kernel
theorem dX8_say_131 : decode cX8_say 131 = .ok (.iload 7, 2) := by decide +kernel
theorem dX8_say_133 : decode cX8_say 133 = .ok (.iconst 2, 1) := by decide +kernel
theorem dX8_say_134 : decode cX8_say 134 = .ok (.iadd, 1) := by decide +kernel
theorem dX8_say_135 : decode cX8_say 135 = .ok (.iload_n 3, 1) := by decide +kernel
theorem dX8_say_136 : decode cX8_say 136 = .ok (.iastore, 1) := by decide +kernel
theorem dX8_say_137 : decode cX8_say 137 = .ok (.aload_n 0, 1) := by decide +kernel
theorem dX8_say_138 : decode cX8_say 138 = .ok (.getfield 34, 3) := by decide +kernel
theorem dX8_say_141 : decode cX8_say 141 = .ok (.iload 7, 2) := by decide +kernel
theorem dX8_say_143 : decode cX8_say 143 = .ok (.iconst 3, 1) := by decide +kernel
theorem dX8_say_144 : decode cX8_say 144 = .ok (.iadd, 1) := by decide +kernel
theorem dX8_say_145 : decode cX8_say 145 = .ok (.iload 4, 2) := by decide +kernel
theorem dX8_say_147 : decode cX8_say 147 = .ok (.iastore, 1) := by decide +kernel
theorem dX8_say_148 : decode cX8_say 148 = .ok (.aload_n 0, 1) := by decide +kernel
theorem dX8_say_149 : decode cX8_say 149 = .ok (.getfield 34, 3) := by decide +kernel
theorem dX8_say_152 : decode cX8_say 152 = .ok (.iload 7, 2) := by decide +kernel
theorem dX8_say_154 : decode cX8_say 154 = .ok (.iconst 4, 1) := by decide +kernel
theorem dX8_say_155 : decode cX8_say 155 = .ok (.iadd, 1) := by decide +kernel
theorem dX8_say_156 : decode cX8_say 156 = .ok (.iload 5, 2) := by decide +kernel
theorem dX8_say_158 : decode cX8_say 158 = .ok (.ifCond .eq 7, 3) := by decide +kernel
theorem dX8_say_161 : decode cX8_say 161 = .ok (.iconst 1, 1) := by decide +kernel
theorem dX8_say_162 : decode cX8_say 162 = .ok (.goto 4, 3) := by decide +kernel
theorem dX8_say_165 : decode cX8_say 165 = .ok (.iconst 0, 1) := by decide +kernel
theorem dX8_say_166 : decode cX8_say 166 = .ok (.iastore, 1) := by decide +kernel
theorem dX8_say_167 : decode cX8_say 167 = .ok (.aload_n 0, 1) := by decide +kernel
theorem dX8_say_168 : decode cX8_say 168 = .ok (.getfield 34, 3) := by decide +kernel
theorem dX8_say_171 : decode cX8_say 171 = .ok (.iload 7, 2) := by decide +kernel
theorem dX8_say_173 : decode cX8_say 173 = .ok (.iconst 5, 1) := by decide +kernel
theorem dX8_say_174 : decode cX8_say 174 = .ok (.iadd, 1) := by decide +kernel
theorem dX8_say_175 : decode cX8_say 175 = .ok (.iload 6, 2) := by decide +kernel
theorem dX8_say_177 : decode cX8_say 177 = .ok (.ifCond .eq 7, 3) := by decide +kernel
theorem dX8_say_180 : decode cX8_say 180 = .ok (.iconst 1, 1) := by decide +kernel
theorem dX8_say_181 : decode cX8_say 181 = .ok (.goto 4, 3) := by decide +kernel
theorem dX8_say_184 : decode cX8_say 184 = .ok (.iconst 0, 1) := by decide +kernel
theorem dX8_say_185 : decode cX8_say 185 = .ok (.iastore, 1) := by decide +kernel
theorem dX8_say_186 : decode cX8_say 186 = .ok (.aload_n 0, 1) := by decide +kernel
theorem dX8_say_187 : decode cX8_say 187 = .ok (.getfield 31, 3) := by decide +kernel
theorem dX8_say_190 : decode cX8_say 190 = .ok (.iconst 0, 1) := by decide +kernel
theorem dX8_say_191 : decode cX8_say 191 = .ok (.dup2, 1) := by decide +kernel
theorem dX8_say_192 : decode cX8_say 192 = .ok (.iaload, 1) := by decide +kernel
theorem dX8_say_193 : decode cX8_say 193 = .ok (.iconst 1, 1) := by decide +kernel
theorem dX8_say_194 : decode cX8_say 194 = .ok (.iadd, 1) := by decide +kernel
theorem dX8_say_195 : decode cX8_say 195 = .ok (.iastore, 1) := by decide +kernel
theorem dX8_say_196 : decode cX8_say 196 = .ok (.aload_n 0, 1) := by decide +kernel
theorem dX8_say_197 : decode cX8_say 197 = .ok (.getfield 31, 3) := by decide +kernel
theorem dX8_say_200 : decode cX8_say 200 = .ok (.iconst 0, 1) := by decide +kernel
theorem dX8_say_201 : decode cX8_say 201 = .ok (.iaload, 1) := by decide +kernel
theorem dX8_say_202 : decode cX8_say 202 = .ok (.iconst 1, 1) := by decide +kernel
theorem dX8_say_203 : decode cX8_say 203 = .ok (.isub, 1) := by decide +kernel
theorem dX8_say_204 : decode cX8_say 204 = .ok (.ireturn, 1) := by decide +kernel
theorem dX8_changeOf_0 : decode cX8_changeOf 0 = .ok (.aload_n 0, 1) := by decide +kernel
theorem dX8_changeOf_1 : decode cX8_changeOf 1 = .ok (.getfield 34, 3) := by decide +kernel
theorem dX8_changeOf_4 : decode cX8_changeOf 4 = .ok (.bipush 6, 2) := by decide +kernel
theorem dX8_changeOf_6 : decode cX8_changeOf 6 = .ok (.iload_n 1, 1) := by decide +kernel
theorem dX8_changeOf_7 : decode cX8_changeOf 7 = .ok (.imul, 1) := by decide +kernel
theorem dX8_changeOf_8 : decode cX8_changeOf 8 = .ok (.iconst 2, 1) := by decide +kernel
theorem dX8_changeOf_9 : decode cX8_changeOf 9 = .ok (.iadd, 1) := by decide +kernel
theorem dX8_changeOf_10 : decode cX8_changeOf 10 = .ok (.iaload, 1) := by decide +kernel
theorem dX8_changeOf_11 : decode cX8_changeOf 11 = .ok (.istore_n 3, 1) := by decide +kernel
theorem dX8_changeOf_12 : decode cX8_changeOf 12 = .ok (.aload_n 0, 1) := by decide +kernel
theorem dX8_changeOf_13 : decode cX8_changeOf 13 = .ok (.getfield 34, 3) := by decide +kernel
theorem dX8_changeOf_16 : decode cX8_changeOf 16 = .ok (.bipush 6, 2) := by decide +kernel
theorem dX8_changeOf_18 : decode cX8_changeOf 18 = .ok (.iload_n 2, 1) := by decide +kernel
theorem dX8_changeOf_19 : decode cX8_changeOf 19 = .ok (.imul, 1) := by decide +kernel
theorem dX8_changeOf_20 : decode cX8_changeOf 20 = .ok (.iconst 2, 1) := by decide +kernel
theorem dX8_changeOf_21 : decode cX8_changeOf 21 = .ok (.iadd, 1) := by decide +kernel
theorem dX8_changeOf_22 : decode cX8_changeOf 22 = .ok (.iaload, 1) := by decide +kernel
theorem dX8_changeOf_23 : decode cX8_changeOf 23 = .ok (.istore 4, 2) := by decide +kernel
theorem dX8_changeOf_25 : decode cX8_changeOf 25 = .ok (.iconst 0, 1) := by decide +kernel
theorem dX8_changeOf_26 : decode cX8_changeOf 26 = .ok (.istore 5, 2) := by decide +kernel
theorem dX8_changeOf_28 : decode cX8_changeOf 28 = .ok (.iconst 0, 1) := by decide +kernel
theorem dX8_changeOf_29 : decode cX8_changeOf 29 = .ok (.istore 6, 2) := by decide +kernel
theorem dX8_changeOf_31 : decode cX8_changeOf 31 = .ok (.iload 6, 2) := by decide +kernel
theorem dX8_changeOf_33 : decode cX8_changeOf 33 = .ok (.iconst 4, 1) := by decide +kernel
theorem dX8_changeOf_34 : decode cX8_changeOf 34 = .ok (.if_icmp .ge 43, 3) := by decide +kernel
theorem dX8_changeOf_37 : decode cX8_changeOf 37 = .ok (.iload 5, 2) := by decide +kernel
theorem dX8_changeOf_39 : decode cX8_changeOf 39 = .ok (.iload_n 3, 1) := by decide +kernel
theorem dX8_changeOf_40 : decode cX8_changeOf 40 = .ok (.bipush 10, 2) := by decide +kernel
theorem dX8_changeOf_42 : decode cX8_changeOf 42 = .ok (.irem, 1) := by decide +kernel
theorem dX8_changeOf_43 : decode cX8_changeOf 43 = .ok (.iload 4, 2) := by decide +kernel
theorem dX8_changeOf_45 : decode cX8_changeOf 45 = .ok (.bipush 10, 2) := by decide +kernel
theorem dX8_changeOf_47 : decode cX8_changeOf 47 = .ok (.irem, 1) := by decide +kernel
theorem dX8_changeOf_48 : decode cX8_changeOf 48 = .ok (.if_icmp .ne 7, 3) := by decide +kernel
theorem dX8_changeOf_51 : decode cX8_changeOf 51 = .ok (.iconst 0, 1) := by decide +kernel
theorem dX8_changeOf_52 : decode cX8_changeOf 52 = .ok (.goto 4, 3) := by decide +kernel
theorem dX8_changeOf_55 : decode cX8_changeOf 55 = .ok (.iconst 3, 1) := by decide +kernel
theorem dX8_changeOf_56 : decode cX8_changeOf 56 = .ok (.iadd, 1) := by decide +kernel
theorem dX8_changeOf_57 : decode cX8_changeOf 57 = .ok (.istore 5, 2) := by decide +kernel
theorem dX8_changeOf_59 : decode cX8_changeOf 59 = .ok (.iload_n 3, 1) := by decide +kernel
theorem dX8_changeOf_60 : decode cX8_changeOf 60 = .ok (.bipush 10, 2) := by decide +kernel
theorem dX8_changeOf_62 : decode cX8_changeOf 62 = .ok (.idiv, 1) := by decide +kernel
theorem dX8_changeOf_63 : decode cX8_changeOf 63 = .ok (.istore_n 3, 1) := by decide +kernel
theorem dX8_changeOf_64 : decode cX8_changeOf 64 = .ok (.iload 4, 2) := by decide +kernel
theorem dX8_changeOf_66 : decode cX8_changeOf 66 = .ok (.bipush 10, 2) := by decide +kernel
theorem dX8_changeOf_68 : decode cX8_changeOf 68 = .ok (.idiv, 1) := by decide +kernel
theorem dX8_changeOf_69 : decode cX8_changeOf 69 = .ok (.istore 4, 2) := by decide +kernel
theorem dX8_changeOf_71 : decode cX8_changeOf 71 = .ok (.iinc 6 1, 3) := by decide +kernel
theorem dX8_changeOf_74 : decode cX8_changeOf 74 = .ok (.goto (-43), 3) := by decide +kernel
theorem dX8_changeOf_77 : decode cX8_changeOf 77 = .ok (.aload_n 0, 1) := by decide +kernel
theorem dX8_changeOf_78 : decode cX8_changeOf 78 = .ok (.getfield 34, 3) := by decide +kernel
theorem dX8_changeOf_81 : decode cX8_changeOf 81 = .ok (.bipush 6, 2) := by decide +kernel
theorem dX8_changeOf_83 : decode cX8_changeOf 83 = .ok (.iload_n 1, 1) := by decide +kernel
theorem dX8_changeOf_84 : decode cX8_changeOf 84 = .ok (.imul, 1) := by decide +kernel
theorem dX8_changeOf_85 : decode cX8_changeOf 85 = .ok (.iconst 3, 1) := by decide +kernel
theorem dX8_changeOf_86 : decode cX8_changeOf 86 = .ok (.iadd, 1) := by decide +kernel
theorem dX8_changeOf_87 : decode cX8_changeOf 87 = .ok (.iaload, 1) := by decide +kernel
theorem dX8_changeOf_88 : decode cX8_changeOf 88 = .ok (.aload_n 0, 1) := by decide +kernel
theorem dX8_changeOf_89 : decode cX8_changeOf 89 = .ok (.getfield 34, 3) := by decide +kernel
theorem dX8_changeOf_92 : decode cX8_changeOf 92 = .ok (.bipush 6, 2) := by decide +kernel
theorem dX8_changeOf_94 : decode cX8_changeOf 94 = .ok (.iload_n 2, 1) := by decide +kernel
theorem dX8_changeOf_95 : decode cX8_changeOf 95 = .ok (.imul, 1) := by decide +kernel
theorem dX8_changeOf_96 : decode cX8_changeOf 96 = .ok (.iconst 3, 1) := by decide +kernel
theorem dX8_changeOf_97 : decode cX8_changeOf 97 = .ok (.iadd, 1) := by decide +kernel
theorem dX8_changeOf_98 : decode cX8_changeOf 98 = .ok (.iaload, 1) := by decide +kernel
theorem dX8_changeOf_99 : decode cX8_changeOf 99 = .ok (.ixor, 1) := by decide +kernel
theorem dX8_changeOf_100 : decode cX8_changeOf 100 = .ok (.istore 6, 2) := by decide +kernel
theorem dX8_changeOf_102 : decode cX8_changeOf 102 = .ok (.iload 6, 2) := by decide +kernel
theorem dX8_changeOf_104 : decode cX8_changeOf 104 = .ok (.ifCond .eq 18, 3) := by decide +kernel
theorem dX8_changeOf_107 : decode cX8_changeOf 107 = .ok (.iinc 5 1, 3) := by decide +kernel
theorem dX8_changeOf_110 : decode cX8_changeOf 110 = .ok (.iload 6, 2) := by decide +kernel
theorem dX8_changeOf_112 : decode cX8_changeOf 112 = .ok (.iload 6, 2) := by decide +kernel
theorem dX8_changeOf_114 : decode cX8_changeOf 114 = .ok (.iconst 1, 1) := by decide +kernel
theorem dX8_changeOf_115 : decode cX8_changeOf 115 = .ok (.isub, 1) := by decide +kernel
theorem dX8_changeOf_116 : decode cX8_changeOf 116 = .ok (.iand, 1) := by decide +kernel
theorem dX8_changeOf_117 : decode cX8_changeOf 117 = .ok (.istore 6, 2) := by decide +kernel
theorem dX8_changeOf_119 : decode cX8_changeOf 119 = .ok (.goto (-17), 3) := by decide +kernel
theorem dX8_changeOf_122 : decode cX8_changeOf 122 = .ok (.iload 5, 2) := by decide +kernel
theorem dX8_changeOf_124 : decode cX8_changeOf 124 = .ok (.ireturn, 1) := by decide +kernel
theorem dX8_change_0 : decode cX8_change 0 = .ok (.aload_n 0, 1) := by decide +kernel
theorem dX8_change_1 : decode cX8_change 1 = .ok (.iload_n 1, 1) := by decide +kernel
theorem dX8_change_2 : decode cX8_change 2 = .ok (.invokevirtual 133, 3) := by decide +kernel
theorem dX8_change_5 : decode cX8_change 5 = .ok (.ifCond .eq 45, 3) := by decide +kernel
theorem dX8_change_8 : decode cX8_change 8 = .ok (.aload_n 0, 1) := by decide +kernel
theorem dX8_change_9 : decode cX8_change 9 = .ok (.iload_n 2, 1) := by decide +kernel
theorem dX8_change_10 : decode cX8_change 10 = .ok (.invokevirtual 133, 3) := by decide +kernel
theorem dX8_change_13 : decode cX8_change 13 = .ok (.ifCond .eq 37, 3) := by decide +kernel
theorem dX8_change_16 : decode cX8_change 16 = .ok (.aload_n 0, 1) := by decide +kernel
theorem dX8_change_17 : decode cX8_change 17 = .ok (.getfield 34, 3) := by decide +kernel
theorem dX8_change_20 : decode cX8_change 20 = .ok (.bipush 6, 2) := by decide +kernel
theorem dX8_change_22 : decode cX8_change 22 = .ok (.iload_n 1, 1) := by decide +kernel
theorem dX8_change_23 : decode cX8_change 23 = .ok (.imul, 1) := by decide +kernel
theorem dX8_change_24 : decode cX8_change 24 = .ok (.iconst 1, 1) := by decide +kernel
theorem dX8_change_25 : decode cX8_change 25 = .ok (.iadd, 1) := by decide +kernel
theorem dX8_change_26 : decode cX8_change 26 = .ok (.iaload, 1) := by decide +kernel
theorem dX8_change_27 : decode cX8_change 27 = .ok (.aload_n 0, 1) := by decide +kernel
theorem dX8_change_28 : decode cX8_change 28 = .ok (.getfield 34, 3) := by decide +kernel
theorem dX8_change_31 : decode cX8_change 31 = .ok (.bipush 6, 2) := by decide +kernel
theorem dX8_change_33 : decode cX8_change 33 = .ok (.iload_n 2, 1) := by decide +kernel
theorem dX8_change_34 : decode cX8_change 34 = .ok (.imul, 1) := by decide +kernel
theorem dX8_change_35 : decode cX8_change 35 = .ok (.iconst 1, 1) := by decide +kernel
theorem dX8_change_36 : decode cX8_change 36 = .ok (.iadd, 1) := by decide +kernel
theorem dX8_change_37 : decode cX8_change 37 = .ok (.iaload, 1) := by decide +kernel
theorem dX8_change_38 : decode cX8_change 38 = .ok (.if_icmp .ne 12, 3) := by decide +kernel
theorem dX8_change_41 : decode cX8_change 41 = .ok (.aload_n 0, 1) := by decide +kernel
theorem dX8_change_42 : decode cX8_change 42 = .ok (.iload_n 1, 1) := by decide +kernel
theorem dX8_change_43 : decode cX8_change 43 = .ok (.iload_n 2, 1) := by decide +kernel
theorem dX8_change_44 : decode cX8_change 44 = .ok (.invokevirtual 136, 3) := by decide +kernel
theorem dX8_change_47 : decode cX8_change 47 = .ok (.goto 4, 3) := by decide +kernel
theorem dX8_change_50 : decode cX8_change 50 = .ok (.iconst (-1), 1) := by decide +kernel
theorem dX8_change_51 : decode cX8_change 51 = .ok (.ireturn, 1) := by decide +kernel
theorem dX8_own_0 : decode cX8_own 0 = .ok (.iload_n 1, 1) := by decide +kernel
theorem dX8_own_1 : decode cX8_own 1 = .ok (.i2l, 1) := by decide +kernel
theorem dX8_own_2 : decode cX8_own 2 = .ok (.lconst 0, 1) := by decide +kernel
theorem dX8_own_3 : decode cX8_own 3 = .ok (.ldc2_w 139, 3) := by decide +kernel
theorem dX8_own_6 : decode cX8_own 6 = .ok (.invokestatic 79, 3) := by decide +kernel
theorem dX8_own_9 : decode cX8_own 9 = .ok (.ifCond .ne 5, 3) := by decide +kernel
theorem dX8_own_12 : decode cX8_own 12 = .ok (.iconst (-1), 1) := by decide +kernel
theorem dX8_own_13 : decode cX8_own 13 = .ok (.ireturn, 1) := by decide +kernel
theorem dX8_own_14 : decode cX8_own 14 = .ok (.aload_n 0, 1) := by decide +kernel
theorem dX8_own_15 : decode cX8_own 15 = .ok (.getfield 43, 3) := by decide +kernel
theorem dX8_own_18 : decode cX8_own 18 = .ok (.istore_n 2, 1) := by decide +kernel
theorem dX8_own_19 : decode cX8_own 19 = .ok (.aload_n 0, 1) := by decide +kernel
theorem dX8_own_20 : decode cX8_own 20 = .ok (.iload_n 1, 1) := by decide +kernel
theorem dX8_own_21 : decode cX8_own 21 = .ok (.putfield 43, 3) := by decide +kernel
theorem dX8_own_24 : decode cX8_own 24 = .ok (.iload_n 2, 1) := by decide +kernel
theorem dX8_own_25 : decode cX8_own 25 = .ok (.ireturn, 1) := by decide +kernel
theorem dX8_couldCopy_0 : decode cX8_couldCopy 0 = .ok (.aload_n 0, 1) := by decide +kernel
theorem dX8_couldCopy_1 : decode cX8_couldCopy 1 = .ok (.getfield 34, 3) := by decide +kernel
theorem dX8_couldCopy_4 : decode cX8_couldCopy 4 = .ok (.bipush 6, 2) := by decide +kernel
theorem dX8_couldCopy_6 : decode cX8_couldCopy 6 = .ok (.iload_n 1, 1) := by decide +kernel
theorem dX8_couldCopy_7 : decode cX8_couldCopy 7 = .ok (.imul, 1) := by decide +kernel
theorem dX8_couldCopy_8 : decode cX8_couldCopy 8 = .ok (.iaload, 1) := by decide +kernel
theorem dX8_couldCopy_9 : decode cX8_couldCopy 9 = .ok (.istore_n 3, 1) := by decide +kernel
theorem dX8_couldCopy_10 : decode cX8_couldCopy 10 = .ok (.aload_n 0, 1) := by decide +kernel
theorem dX8_couldCopy_11 : decode cX8_couldCopy 11 = .ok (.getfield 34, 3) := by decide +kernel
theorem dX8_couldCopy_14 : decode cX8_couldCopy 14 = .ok (.bipush 6, 2) := by decide +kernel
theorem dX8_couldCopy_16 : decode cX8_couldCopy 16 = .ok (.iload_n 2, 1) := by decide +kernel
theorem dX8_couldCopy_17 : decode cX8_couldCopy 17 = .ok (.imul, 1) := by decide +kernel
theorem dX8_couldCopy_18 : decode cX8_couldCopy 18 = .ok (.iaload, 1) := by decide +kernel
theorem dX8_couldCopy_19 : decode cX8_couldCopy 19 = .ok (.istore 4, 2) := by decide +kernel
theorem dX8_couldCopy_21 : decode cX8_couldCopy 21 = .ok (.iload_n 3, 1) := by decide +kernel
theorem dX8_couldCopy_22 : decode cX8_couldCopy 22 = .ok (.iload 4, 2) := by decide +kernel
theorem dX8_couldCopy_24 : decode cX8_couldCopy 24 = .ok (.if_icmp .eq 68, 3) := by decide +kernel
theorem dX8_couldCopy_27 : decode cX8_couldCopy 27 = .ok (.aload_n 0, 1) := by decide +kernel
theorem dX8_couldCopy_28 : decode cX8_couldCopy 28 = .ok (.getfield 34, 3) := by decide +kernel
theorem dX8_couldCopy_31 : decode cX8_couldCopy 31 = .ok (.bipush 6, 2) := by decide +kernel
theorem dX8_couldCopy_33 : decode cX8_couldCopy 33 = .ok (.iload_n 1, 1) := by decide +kernel
theorem dX8_couldCopy_34 : decode cX8_couldCopy 34 = .ok (.imul, 1) := by decide +kernel
theorem dX8_couldCopy_35 : decode cX8_couldCopy 35 = .ok (.iconst 4, 1) := by decide +kernel
theorem dX8_couldCopy_36 : decode cX8_couldCopy 36 = .ok (.iadd, 1) := by decide +kernel
theorem dX8_couldCopy_37 : decode cX8_couldCopy 37 = .ok (.iaload, 1) := by decide +kernel
theorem dX8_couldCopy_38 : decode cX8_couldCopy 38 = .ok (.iconst 1, 1) := by decide +kernel
theorem dX8_couldCopy_39 : decode cX8_couldCopy 39 = .ok (.if_icmp .eq 53, 3) := by decide +kernel
theorem dX8_couldCopy_42 : decode cX8_couldCopy 42 = .ok (.aload_n 0, 1) := by decide +kernel
theorem dX8_couldCopy_43 : decode cX8_couldCopy 43 = .ok (.getfield 34, 3) := by decide +kernel
theorem dX8_couldCopy_46 : decode cX8_couldCopy 46 = .ok (.bipush 6, 2) := by decide +kernel
theorem dX8_couldCopy_48 : decode cX8_couldCopy 48 = .ok (.iload_n 1, 1) := by decide +kernel
theorem dX8_couldCopy_49 : decode cX8_couldCopy 49 = .ok (.imul, 1) := by decide +kernel
theorem dX8_couldCopy_50 : decode cX8_couldCopy 50 = .ok (.iconst 1, 1) := by decide +kernel
theorem dX8_couldCopy_51 : decode cX8_couldCopy 51 = .ok (.iadd, 1) := by decide +kernel
theorem dX8_couldCopy_52 : decode cX8_couldCopy 52 = .ok (.iaload, 1) := by decide +kernel
theorem dX8_couldCopy_53 : decode cX8_couldCopy 53 = .ok (.aload_n 0, 1) := by decide +kernel
theorem dX8_couldCopy_54 : decode cX8_couldCopy 54 = .ok (.getfield 34, 3) := by decide +kernel
theorem dX8_couldCopy_57 : decode cX8_couldCopy 57 = .ok (.bipush 6, 2) := by decide +kernel
theorem dX8_couldCopy_59 : decode cX8_couldCopy 59 = .ok (.iload_n 2, 1) := by decide +kernel
theorem dX8_couldCopy_60 : decode cX8_couldCopy 60 = .ok (.imul, 1) := by decide +kernel
theorem dX8_couldCopy_61 : decode cX8_couldCopy 61 = .ok (.iconst 1, 1) := by decide +kernel
theorem dX8_couldCopy_62 : decode cX8_couldCopy 62 = .ok (.iadd, 1) := by decide +kernel
theorem dX8_couldCopy_63 : decode cX8_couldCopy 63 = .ok (.iaload, 1) := by decide +kernel
theorem dX8_couldCopy_64 : decode cX8_couldCopy 64 = .ok (.if_icmp .ne 28, 3) := by decide +kernel
theorem dX8_couldCopy_67 : decode cX8_couldCopy 67 = .ok (.aload_n 0, 1) := by decide +kernel
theorem dX8_couldCopy_68 : decode cX8_couldCopy 68 = .ok (.getfield 34, 3) := by decide +kernel
theorem dX8_couldCopy_71 : decode cX8_couldCopy 71 = .ok (.bipush 6, 2) := by decide +kernel
theorem dX8_couldCopy_73 : decode cX8_couldCopy 73 = .ok (.iload_n 1, 1) := by decide +kernel
theorem dX8_couldCopy_74 : decode cX8_couldCopy 74 = .ok (.imul, 1) := by decide +kernel
theorem dX8_couldCopy_75 : decode cX8_couldCopy 75 = .ok (.iconst 5, 1) := by decide +kernel
theorem dX8_couldCopy_76 : decode cX8_couldCopy 76 = .ok (.iadd, 1) := by decide +kernel
theorem dX8_couldCopy_77 : decode cX8_couldCopy 77 = .ok (.iaload, 1) := by decide +kernel
theorem dX8_couldCopy_78 : decode cX8_couldCopy 78 = .ok (.aload_n 0, 1) := by decide +kernel
theorem dX8_couldCopy_79 : decode cX8_couldCopy 79 = .ok (.getfield 34, 3) := by decide +kernel
theorem dX8_couldCopy_82 : decode cX8_couldCopy 82 = .ok (.bipush 6, 2) := by decide +kernel
theorem dX8_couldCopy_84 : decode cX8_couldCopy 84 = .ok (.iload_n 2, 1) := by decide +kernel
theorem dX8_couldCopy_85 : decode cX8_couldCopy 85 = .ok (.imul, 1) := by decide +kernel
theorem dX8_couldCopy_86 : decode cX8_couldCopy 86 = .ok (.iconst 5, 1) := by decide +kernel
theorem dX8_couldCopy_87 : decode cX8_couldCopy 87 = .ok (.iadd, 1) := by decide +kernel
theorem dX8_couldCopy_88 : decode cX8_couldCopy 88 = .ok (.iaload, 1) := by decide +kernel
theorem dX8_couldCopy_89 : decode cX8_couldCopy 89 = .ok (.if_icmp .eq 5, 3) := by decide +kernel
theorem dX8_couldCopy_92 : decode cX8_couldCopy 92 = .ok (.iconst 0, 1) := by decide +kernel
theorem dX8_couldCopy_93 : decode cX8_couldCopy 93 = .ok (.ireturn, 1) := by decide +kernel
theorem dX8_couldCopy_94 : decode cX8_couldCopy 94 = .ok (.aload_n 0, 1) := by decide +kernel
theorem dX8_couldCopy_95 : decode cX8_couldCopy 95 = .ok (.iload 4, 2) := by decide +kernel
theorem dX8_couldCopy_97 : decode cX8_couldCopy 97 = .ok (.iload_n 3, 1) := by decide +kernel
theorem dX8_couldCopy_98 : decode cX8_couldCopy 98 = .ok (.invokevirtual 100, 3) := by decide +kernel
theorem dX8_couldCopy_101 : decode cX8_couldCopy 101 = .ok (.istore 5, 2) := by decide +kernel
theorem dX8_couldCopy_103 : decode cX8_couldCopy 103 = .ok (.iload 5, 2) := by decide +kernel
theorem dX8_couldCopy_105 : decode cX8_couldCopy 105 = .ok (.ifCond .lt 64, 3) := by decide +kernel
theorem dX8_couldCopy_108 : decode cX8_couldCopy 108 = .ok (.aload_n 0, 1) := by decide +kernel
theorem dX8_couldCopy_109 : decode cX8_couldCopy 109 = .ok (.getfield 65, 3) := by decide +kernel
theorem dX8_couldCopy_112 : decode cX8_couldCopy 112 = .ok (.iload_n 3, 1) := by decide +kernel
theorem dX8_couldCopy_113 : decode cX8_couldCopy 113 = .ok (.iaload, 1) := by decide +kernel
theorem dX8_couldCopy_114 : decode cX8_couldCopy 114 = .ok (.aload_n 0, 1) := by decide +kernel
theorem dX8_couldCopy_115 : decode cX8_couldCopy 115 = .ok (.getfield 62, 3) := by decide +kernel
theorem dX8_couldCopy_118 : decode cX8_couldCopy 118 = .ok (.iload 4, 2) := by decide +kernel
theorem dX8_couldCopy_120 : decode cX8_couldCopy 120 = .ok (.iaload, 1) := by decide +kernel
theorem dX8_couldCopy_121 : decode cX8_couldCopy 121 = .ok (.iload 5, 2) := by decide +kernel
theorem dX8_couldCopy_123 : decode cX8_couldCopy 123 = .ok (.iadd, 1) := by decide +kernel
theorem dX8_couldCopy_124 : decode cX8_couldCopy 124 = .ok (.if_icmp .lt 45, 3) := by decide +kernel
theorem dX8_couldCopy_127 : decode cX8_couldCopy 127 = .ok (.aload_n 0, 1) := by decide +kernel
theorem dX8_couldCopy_128 : decode cX8_couldCopy 128 = .ok (.getfield 62, 3) := by decide +kernel
theorem dX8_couldCopy_131 : decode cX8_couldCopy 131 = .ok (.iload 4, 2) := by decide +kernel
theorem dX8_couldCopy_133 : decode cX8_couldCopy 133 = .ok (.iaload, 1) := by decide +kernel
theorem dX8_couldCopy_134 : decode cX8_couldCopy 134 = .ok (.aload_n 0, 1) := by decide +kernel
theorem dX8_couldCopy_135 : decode cX8_couldCopy 135 = .ok (.getfield 62, 3) := by decide +kernel
theorem dX8_couldCopy_138 : decode cX8_couldCopy 138 = .ok (.iload_n 3, 1) := by decide +kernel
theorem dX8_couldCopy_139 : decode cX8_couldCopy 139 = .ok (.iaload, 1) := by decide +kernel
theorem dX8_couldCopy_140 : decode cX8_couldCopy 140 = .ok (.if_icmp .lt 25, 3) := by decide +kernel
theorem dX8_couldCopy_143 : decode cX8_couldCopy 143 = .ok (.aload_n 0, 1) := by decide +kernel
theorem dX8_couldCopy_144 : decode cX8_couldCopy 144 = .ok (.getfield 62, 3) := by decide +kernel
theorem dX8_couldCopy_147 : decode cX8_couldCopy 147 = .ok (.iload 4, 2) := by decide +kernel
theorem dX8_couldCopy_149 : decode cX8_couldCopy 149 = .ok (.iaload, 1) := by decide +kernel
theorem dX8_couldCopy_150 : decode cX8_couldCopy 150 = .ok (.aload_n 0, 1) := by decide +kernel
theorem dX8_couldCopy_151 : decode cX8_couldCopy 151 = .ok (.getfield 62, 3) := by decide +kernel
theorem dX8_couldCopy_154 : decode cX8_couldCopy 154 = .ok (.iload_n 3, 1) := by decide +kernel
theorem dX8_couldCopy_155 : decode cX8_couldCopy 155 = .ok (.iaload, 1) := by decide +kernel
theorem dX8_couldCopy_156 : decode cX8_couldCopy 156 = .ok (.if_icmp .ne 13, 3) := by decide +kernel
theorem dX8_couldCopy_159 : decode cX8_couldCopy 159 = .ok (.iload 4, 2) := by decide +kernel
theorem dX8_couldCopy_161 : decode cX8_couldCopy 161 = .ok (.iload_n 3, 1) := by decide +kernel
theorem dX8_couldCopy_162 : decode cX8_couldCopy 162 = .ok (.if_icmp .ge 7, 3) := by decide +kernel
theorem dX8_couldCopy_165 : decode cX8_couldCopy 165 = .ok (.iconst 1, 1) := by decide +kernel
theorem dX8_couldCopy_166 : decode cX8_couldCopy 166 = .ok (.goto 4, 3) := by decide +kernel
theorem dX8_couldCopy_169 : decode cX8_couldCopy 169 = .ok (.iconst 0, 1) := by decide +kernel
theorem dX8_couldCopy_170 : decode cX8_couldCopy 170 = .ok (.ireturn, 1) := by decide +kernel
theorem dX8_layTree_0 : decode cX8_layTree 0 = .ok (.aload_n 0, 1) := by decide +kernel
theorem dX8_layTree_1 : decode cX8_layTree 1 = .ok (.invokevirtual 126, 3) := by decide +kernel
theorem dX8_layTree_4 : decode cX8_layTree 4 = .ok (.ifCond .ne 5, 3) := by decide +kernel
theorem dX8_layTree_7 : decode cX8_layTree 7 = .ok (.iconst 0, 1) := by decide +kernel
theorem dX8_layTree_8 : decode cX8_layTree 8 = .ok (.ireturn, 1) := by decide +kernel
theorem dX8_layTree_9 : decode cX8_layTree 9 = .ok (.iconst 0, 1) := by decide +kernel
theorem dX8_layTree_10 : decode cX8_layTree 10 = .ok (.istore_n 1, 1) := by decide +kernel
theorem dX8_layTree_11 : decode cX8_layTree 11 = .ok (.iload_n 1, 1) := by decide +kernel
theorem dX8_layTree_12 : decode cX8_layTree 12 = .ok (.aload_n 0, 1) := by decide +kernel
theorem dX8_layTree_13 : decode cX8_layTree 13 = .ok (.getfield 31, 3) := by decide +kernel
theorem dX8_layTree_16 : decode cX8_layTree 16 = .ok (.iconst 0, 1) := by decide +kernel
theorem dX8_layTree_17 : decode cX8_layTree 17 = .ok (.iaload, 1) := by decide +kernel
theorem dX8_layTree_18 : decode cX8_layTree 18 = .ok (.if_icmp .ge 75, 3) := by decide +kernel
theorem dX8_layTree_21 : decode cX8_layTree 21 = .ok (.aload_n 0, 1) := by decide +kernel
theorem dX8_layTree_22 : decode cX8_layTree 22 = .ok (.getfield 68, 3) := by decide +kernel
theorem dX8_layTree_25 : decode cX8_layTree 25 = .ok (.iload_n 1, 1) := by decide +kernel
theorem dX8_layTree_26 : decode cX8_layTree 26 = .ok (.bipush (-4), 2) := by decide +kernel
theorem dX8_layTree_28 : decode cX8_layTree 28 = .ok (.iastore, 1) := by decide +kernel
theorem dX8_layTree_29 : decode cX8_layTree 29 = .ok (.aload_n 0, 1) := by decide +kernel
theorem dX8_layTree_30 : decode cX8_layTree 30 = .ok (.getfield 43, 3) := by decide +kernel
theorem dX8_layTree_33 : decode cX8_layTree 33 = .ok (.iconst 1, 1) := by decide +kernel
theorem dX8_layTree_34 : decode cX8_layTree 34 = .ok (.iadd, 1) := by decide +kernel
theorem dX8_layTree_35 : decode cX8_layTree 35 = .ok (.istore_n 2, 1) := by decide +kernel
theorem dX8_layTree_36 : decode cX8_layTree 36 = .ok (.iconst 0, 1) := by decide +kernel
theorem dX8_layTree_37 : decode cX8_layTree 37 = .ok (.istore_n 3, 1) := by decide +kernel
theorem dX8_layTree_38 : decode cX8_layTree 38 = .ok (.iload_n 3, 1) := by decide +kernel
theorem dX8_layTree_39 : decode cX8_layTree 39 = .ok (.aload_n 0, 1) := by decide +kernel
theorem dX8_layTree_40 : decode cX8_layTree 40 = .ok (.getfield 31, 3) := by decide +kernel
theorem dX8_layTree_43 : decode cX8_layTree 43 = .ok (.iconst 0, 1) := by decide +kernel
theorem dX8_layTree_44 : decode cX8_layTree 44 = .ok (.iaload, 1) := by decide +kernel
theorem dX8_layTree_45 : decode cX8_layTree 45 = .ok (.if_icmp .ge 42, 3) := by decide +kernel
theorem dX8_layTree_48 : decode cX8_layTree 48 = .ok (.aload_n 0, 1) := by decide +kernel
theorem dX8_layTree_49 : decode cX8_layTree 49 = .ok (.iload_n 1, 1) := by decide +kernel
theorem dX8_layTree_50 : decode cX8_layTree 50 = .ok (.iload_n 3, 1) := by decide +kernel
theorem dX8_layTree_51 : decode cX8_layTree 51 = .ok (.invokevirtual 141, 3) := by decide +kernel
theorem dX8_layTree_54 : decode cX8_layTree 54 = .ok (.ifCond .eq 27, 3) := by decide +kernel
theorem dX8_layTree_57 : decode cX8_layTree 57 = .ok (.aload_n 0, 1) := by decide +kernel
theorem dX8_layTree_58 : decode cX8_layTree 58 = .ok (.iload_n 1, 1) := by decide +kernel
theorem dX8_layTree_59 : decode cX8_layTree 59 = .ok (.iload_n 3, 1) := by decide +kernel
theorem dX8_layTree_60 : decode cX8_layTree 60 = .ok (.invokevirtual 136, 3) := by decide +kernel
theorem dX8_layTree_63 : decode cX8_layTree 63 = .ok (.iload_n 2, 1) := by decide +kernel
theorem dX8_layTree_64 : decode cX8_layTree 64 = .ok (.if_icmp .ge 17, 3) := by decide +kernel
theorem dX8_layTree_67 : decode cX8_layTree 67 = .ok (.aload_n 0, 1) := by decide +kernel
theorem dX8_layTree_68 : decode cX8_layTree 68 = .ok (.iload_n 1, 1) := by decide +kernel
theorem dX8_layTree_69 : decode cX8_layTree 69 = .ok (.iload_n 3, 1) := by decide +kernel
theorem dX8_layTree_70 : decode cX8_layTree 70 = .ok (.invokevirtual 136, 3) := by decide +kernel
theorem dX8_layTree_73 : decode cX8_layTree 73 = .ok (.istore_n 2, 1) := by decide +kernel
theorem dX8_layTree_74 : decode cX8_layTree 74 = .ok (.aload_n 0, 1) := by decide +kernel
theorem dX8_layTree_75 : decode cX8_layTree 75 = .ok (.getfield 68, 3) := by decide +kernel
theorem dX8_layTree_78 : decode cX8_layTree 78 = .ok (.iload_n 1, 1) := by decide +kernel
theorem dX8_layTree_79 : decode cX8_layTree 79 = .ok (.iload_n 3, 1) := by decide +kernel
theorem dX8_layTree_80 : decode cX8_layTree 80 = .ok (.iastore, 1) := by decide +kernel
theorem dX8_layTree_81 : decode cX8_layTree 81 = .ok (.iinc 3 1, 3) := by decide +kernel
theorem dX8_layTree_84 : decode cX8_layTree 84 = .ok (.goto (-46), 3) := by decide +kernel
theorem dX8_layTree_87 : decode cX8_layTree 87 = .ok (.iinc 1 1, 3) := by decide +kernel
theorem dX8_layTree_90 : decode cX8_layTree 90 = .ok (.goto (-79), 3) := by decide +kernel
theorem dX8_layTree_93 : decode cX8_layTree 93 = .ok (.iconst 1, 1) := by decide +kernel
theorem dX8_layTree_94 : decode cX8_layTree 94 = .ok (.ireturn, 1) := by decide +kernel
theorem dX8_from_0 : decode cX8_from 0 = .ok (.aload_n 0, 1) := by decide +kernel
theorem dX8_from_1 : decode cX8_from 1 = .ok (.iload_n 1, 1) := by decide +kernel
theorem dX8_from_2 : decode cX8_from 2 = .ok (.invokevirtual 133, 3) := by decide +kernel
theorem dX8_from_5 : decode cX8_from 5 = .ok (.ifCond .ne 5, 3) := by decide +kernel
theorem dX8_from_8 : decode cX8_from 8 = .ok (.iconst (-1), 1) := by decide +kernel
theorem dX8_from_9 : decode cX8_from 9 = .ok (.ireturn, 1) := by decide +kernel
theorem dX8_from_10 : decode cX8_from 10 = .ok (.aload_n 0, 1) := by decide +kernel
theorem dX8_from_11 : decode cX8_from 11 = .ok (.invokevirtual 144, 3) := by decide +kernel
theorem dX8_from_14 : decode cX8_from 14 = .ok (.ifCond .eq 12, 3) := by decide +kernel
theorem dX8_from_17 : decode cX8_from 17 = .ok (.aload_n 0, 1) := by decide +kernel
theorem dX8_from_18 : decode cX8_from 18 = .ok (.getfield 68, 3) := by decide +kernel
theorem dX8_from_21 : decode cX8_from 21 = .ok (.iload_n 1, 1) := by decide +kernel
theorem dX8_from_22 : decode cX8_from 22 = .ok (.iaload, 1) := by decide +kernel
theorem dX8_from_23 : decode cX8_from 23 = .ok (.goto 5, 3) := by decide +kernel
theorem dX8_from_26 : decode cX8_from 26 = .ok (.bipush (-2), 2) := by decide +kernel
theorem dX8_from_28 : decode cX8_from 28 = .ok (.ireturn, 1) := by decide +kernel
theorem dX8_rootOf_0 : decode cX8_rootOf 0 = .ok (.iload_n 1, 1) := by decide +kernel
theorem dX8_rootOf_1 : decode cX8_rootOf 1 = .ok (.istore_n 2, 1) := by decide +kernel
theorem dX8_rootOf_2 : decode cX8_rootOf 2 = .ok (.aload_n 0, 1) := by decide +kernel
theorem dX8_rootOf_3 : decode cX8_rootOf 3 = .ok (.getfield 68, 3) := by decide +kernel
theorem dX8_rootOf_6 : decode cX8_rootOf 6 = .ok (.iload_n 2, 1) := by decide +kernel
theorem dX8_rootOf_7 : decode cX8_rootOf 7 = .ok (.iaload, 1) := by decide +kernel
theorem dX8_rootOf_8 : decode cX8_rootOf 8 = .ok (.ifCond .lt 13, 3) := by decide +kernel
theorem dX8_rootOf_11 : decode cX8_rootOf 11 = .ok (.aload_n 0, 1) := by decide +kernel
theorem dX8_rootOf_12 : decode cX8_rootOf 12 = .ok (.getfield 68, 3) := by decide +kernel
theorem dX8_rootOf_15 : decode cX8_rootOf 15 = .ok (.iload_n 2, 1) := by decide +kernel
theorem dX8_rootOf_16 : decode cX8_rootOf 16 = .ok (.iaload, 1) := by decide +kernel
theorem dX8_rootOf_17 : decode cX8_rootOf 17 = .ok (.istore_n 2, 1) := by decide +kernel
theorem dX8_rootOf_18 : decode cX8_rootOf 18 = .ok (.goto (-16), 3) := by decide +kernel
theorem dX8_rootOf_21 : decode cX8_rootOf 21 = .ok (.iload_n 2, 1) := by decide +kernel
theorem dX8_rootOf_22 : decode cX8_rootOf 22 = .ok (.ireturn, 1) := by decide +kernel
theorem dX8_voice_0 : decode cX8_voice 0 = .ok (.aload_n 0, 1) := by decide +kernel
theorem dX8_voice_1 : decode cX8_voice 1 = .ok (.iload_n 1, 1) := by decide +kernel
theorem dX8_voice_2 : decode cX8_voice 2 = .ok (.invokevirtual 133, 3) := by decide +kernel
theorem dX8_voice_5 : decode cX8_voice 5 = .ok (.ifCond .eq 15, 3) := by decide +kernel
theorem dX8_voice_8 : decode cX8_voice 8 = .ok (.iload_n 2, 1) := by decide +kernel
theorem dX8_voice_9 : decode cX8_voice 9 = .ok (.i2l, 1) := by decide +kernel
theorem dX8_voice_10 : decode cX8_voice 10 = .ok (.lconst 0, 1) := by decide +kernel
theorem dX8_voice_11 : decode cX8_voice 11 = .ok (.ldc2_w 147, 3) := by decide +kernel
theorem dX8_voice_14 : decode cX8_voice 14 = .ok (.invokestatic 79, 3) := by decide +kernel
theorem dX8_voice_17 : decode cX8_voice 17 = .ok (.ifCond .ne 5, 3) := by decide +kernel
theorem dX8_voice_20 : decode cX8_voice 20 = .ok (.iconst (-1), 1) := by decide +kernel
theorem dX8_voice_21 : decode cX8_voice 21 = .ok (.ireturn, 1) := by decide +kernel
theorem dX8_voice_22 : decode cX8_voice 22 = .ok (.aload_n 0, 1) := by decide +kernel
theorem dX8_voice_23 : decode cX8_voice 23 = .ok (.invokevirtual 144, 3) := by decide +kernel
theorem dX8_voice_26 : decode cX8_voice 26 = .ok (.ifCond .ne 6, 3) := by decide +kernel
theorem dX8_voice_29 : decode cX8_voice 29 = .ok (.bipush (-2), 2) := by decide +kernel
theorem dX8_voice_31 : decode cX8_voice 31 = .ok (.ireturn, 1) := by decide +kernel
theorem dX8_voice_32 : decode cX8_voice 32 = .ok (.aload_n 0, 1) := by decide +kernel
theorem dX8_voice_33 : decode cX8_voice 33 = .ok (.iload_n 1, 1) := by decide +kernel
theorem dX8_voice_34 : decode cX8_voice 34 = .ok (.invokevirtual 149, 3) := by decide +kernel
theorem dX8_voice_37 : decode cX8_voice 37 = .ok (.istore_n 3, 1) := by decide +kernel
theorem dX8_voice_38 : decode cX8_voice 38 = .ok (.iload_n 2, 1) := by decide +kernel
theorem dX8_voice_39 : decode cX8_voice 39 = .ok (.ifCond .ne 5, 3) := by decide +kernel
theorem dX8_voice_42 : decode cX8_voice 42 = .ok (.iload_n 3, 1) := by decide +kernel
theorem dX8_voice_43 : decode cX8_voice 43 = .ok (.ireturn, 1) := by decide +kernel
theorem dX8_voice_44 : decode cX8_voice 44 = .ok (.iconst 0, 1) := by decide +kernel
theorem dX8_voice_45 : decode cX8_voice 45 = .ok (.istore 4, 2) := by decide +kernel
theorem dX8_voice_47 : decode cX8_voice 47 = .ok (.iload_n 2, 1) := by decide +kernel
theorem dX8_voice_48 : decode cX8_voice 48 = .ok (.iconst 1, 1) := by decide +kernel
theorem dX8_voice_49 : decode cX8_voice 49 = .ok (.if_icmp .ne 46, 3) := by decide +kernel
theorem dX8_voice_52 : decode cX8_voice 52 = .ok (.iconst 0, 1) := by decide +kernel
theorem dX8_voice_53 : decode cX8_voice 53 = .ok (.istore 5, 2) := by decide +kernel
theorem dX8_voice_55 : decode cX8_voice 55 = .ok (.iload 5, 2) := by decide +kernel
theorem dX8_voice_57 : decode cX8_voice 57 = .ok (.aload_n 0, 1) := by decide +kernel
theorem dX8_voice_58 : decode cX8_voice 58 = .ok (.getfield 31, 3) := by decide +kernel
theorem dX8_voice_61 : decode cX8_voice 61 = .ok (.iconst 0, 1) := by decide +kernel
theorem dX8_voice_62 : decode cX8_voice 62 = .ok (.iaload, 1) := by decide +kernel
theorem dX8_voice_63 : decode cX8_voice 63 = .ok (.if_icmp .ge 29, 3) := by decide +kernel
theorem dX8_voice_66 : decode cX8_voice 66 = .ok (.iload 4, 2) := by decide +kernel
theorem dX8_voice_68 : decode cX8_voice 68 = .ok (.aload_n 0, 1) := by decide +kernel
theorem dX8_voice_69 : decode cX8_voice 69 = .ok (.iload 5, 2) := by decide +kernel
theorem dX8_voice_71 : decode cX8_voice 71 = .ok (.invokevirtual 149, 3) := by decide +kernel
theorem dX8_voice_74 : decode cX8_voice 74 = .ok (.iload_n 3, 1) := by decide +kernel
theorem dX8_voice_75 : decode cX8_voice 75 = .ok (.if_icmp .ne 7, 3) := by decide +kernel
theorem dX8_voice_78 : decode cX8_voice 78 = .ok (.iconst 1, 1) := by decide +kernel
theorem dX8_voice_79 : decode cX8_voice 79 = .ok (.goto 4, 3) := by decide +kernel
theorem dX8_voice_82 : decode cX8_voice 82 = .ok (.iconst 0, 1) := by decide +kernel
theorem dX8_voice_83 : decode cX8_voice 83 = .ok (.iadd, 1) := by decide +kernel
theorem dX8_voice_84 : decode cX8_voice 84 = .ok (.istore 4, 2) := by decide +kernel
theorem dX8_voice_86 : decode cX8_voice 86 = .ok (.iinc 5 1, 3) := by decide +kernel
theorem dX8_voice_89 : decode cX8_voice 89 = .ok (.goto (-34), 3) := by decide +kernel
theorem dX8_voice_92 : decode cX8_voice 92 = .ok (.iload 4, 2) := by decide +kernel
theorem dX8_voice_94 : decode cX8_voice 94 = .ok (.ireturn, 1) := by decide +kernel
theorem dX8_voice_95 : decode cX8_voice 95 = .ok (.iload_n 1, 1) := by decide +kernel
theorem dX8_voice_96 : decode cX8_voice 96 = .ok (.istore 5, 2) := by decide +kernel
theorem dX8_voice_98 : decode cX8_voice 98 = .ok (.aload_n 0, 1) := by decide +kernel
theorem dX8_voice_99 : decode cX8_voice 99 = .ok (.getfield 68, 3) := by decide +kernel
theorem dX8_voice_102 : decode cX8_voice 102 = .ok (.iload 5, 2) := by decide +kernel
theorem dX8_voice_104 : decode cX8_voice 104 = .ok (.iaload, 1) := by decide +kernel
theorem dX8_voice_105 : decode cX8_voice 105 = .ok (.ifCond .lt 18, 3) := by decide +kernel
theorem dX8_voice_108 : decode cX8_voice 108 = .ok (.iinc 4 1, 3) := by decide +kernel
theorem dX8_voice_111 : decode cX8_voice 111 = .ok (.aload_n 0, 1) := by decide +kernel
theorem dX8_voice_112 : decode cX8_voice 112 = .ok (.getfield 68, 3) := by decide +kernel
theorem dX8_voice_115 : decode cX8_voice 115 = .ok (.iload 5, 2) := by decide +kernel
theorem dX8_voice_117 : decode cX8_voice 117 = .ok (.iaload, 1) := by decide +kernel
theorem dX8_voice_118 : decode cX8_voice 118 = .ok (.istore 5, 2) := by decide +kernel
theorem dX8_voice_120 : decode cX8_voice 120 = .ok (.goto (-22), 3) := by decide +kernel
theorem dX8_voice_123 : decode cX8_voice 123 = .ok (.iload 4, 2) := by decide +kernel
theorem dX8_voice_125 : decode cX8_voice 125 = .ok (.ireturn, 1) := by decide +kernel
theorem dX8_voices_0 : decode cX8_voices 0 = .ok (.iload_n 1, 1) := by decide +kernel
theorem dX8_voices_1 : decode cX8_voices 1 = .ok (.invokestatic 104, 3) := by decide +kernel
theorem dX8_voices_4 : decode cX8_voices 4 = .ok (.ifCond .ne 5, 3) := by decide +kernel
theorem dX8_voices_7 : decode cX8_voices 7 = .ok (.iconst (-1), 1) := by decide +kernel
theorem dX8_voices_8 : decode cX8_voices 8 = .ok (.ireturn, 1) := by decide +kernel
theorem dX8_voices_9 : decode cX8_voices 9 = .ok (.aload_n 0, 1) := by decide +kernel
theorem dX8_voices_10 : decode cX8_voices 10 = .ok (.invokevirtual 144, 3) := by decide +kernel
theorem dX8_voices_13 : decode cX8_voices 13 = .ok (.ifCond .ne 6, 3) := by decide +kernel
theorem dX8_voices_16 : decode cX8_voices 16 = .ok (.bipush (-2), 2) := by decide +kernel
theorem dX8_voices_18 : decode cX8_voices 18 = .ok (.ireturn, 1) := by decide +kernel
theorem dX8_voices_19 : decode cX8_voices 19 = .ok (.iconst 0, 1) := by decide +kernel
theorem dX8_voices_20 : decode cX8_voices 20 = .ok (.istore_n 3, 1) := by decide +kernel
theorem dX8_voices_21 : decode cX8_voices 21 = .ok (.iconst 0, 1) := by decide +kernel
theorem dX8_voices_22 : decode cX8_voices 22 = .ok (.istore 4, 2) := by decide +kernel
theorem dX8_voices_24 : decode cX8_voices 24 = .ok (.iload 4, 2) := by decide +kernel
theorem dX8_voices_26 : decode cX8_voices 26 = .ok (.aload_n 0, 1) := by decide +kernel
theorem dX8_voices_27 : decode cX8_voices 27 = .ok (.getfield 31, 3) := by decide +kernel
theorem dX8_voices_30 : decode cX8_voices 30 = .ok (.iconst 0, 1) := by decide +kernel
theorem dX8_voices_31 : decode cX8_voices 31 = .ok (.iaload, 1) := by decide +kernel
theorem dX8_voices_32 : decode cX8_voices 32 = .ok (.if_icmp .ge 67, 3) := by decide +kernel
theorem dX8_voices_35 : decode cX8_voices 35 = .ok (.iload_n 3, 1) := by decide +kernel
theorem dX8_voices_36 : decode cX8_voices 36 = .ok (.aload_n 0, 1) := by decide +kernel
theorem dX8_voices_37 : decode cX8_voices 37 = .ok (.getfield 68, 3) := by decide +kernel
theorem dX8_voices_40 : decode cX8_voices 40 = .ok (.iload 4, 2) := by decide +kernel
theorem dX8_voices_42 : decode cX8_voices 42 = .ok (.iaload, 1) := by decide +kernel
theorem dX8_voices_43 : decode cX8_voices 43 = .ok (.ifCond .ge 47, 3) := by decide +kernel
theorem dX8_voices_46 : decode cX8_voices 46 = .ok (.aload_n 0, 1) := by decide +kernel
theorem dX8_voices_47 : decode cX8_voices 47 = .ok (.getfield 34, 3) := by decide +kernel
theorem dX8_voices_50 : decode cX8_voices 50 = .ok (.bipush 6, 2) := by decide +kernel
theorem dX8_voices_52 : decode cX8_voices 52 = .ok (.iload 4, 2) := by decide +kernel
theorem dX8_voices_54 : decode cX8_voices 54 = .ok (.imul, 1) := by decide +kernel
theorem dX8_voices_55 : decode cX8_voices 55 = .ok (.iconst 1, 1) := by decide +kernel
theorem dX8_voices_56 : decode cX8_voices 56 = .ok (.iadd, 1) := by decide +kernel
theorem dX8_voices_57 : decode cX8_voices 57 = .ok (.iaload, 1) := by decide +kernel
theorem dX8_voices_58 : decode cX8_voices 58 = .ok (.iload_n 1, 1) := by decide +kernel
theorem dX8_voices_59 : decode cX8_voices 59 = .ok (.if_icmp .ne 31, 3) := by decide +kernel
theorem dX8_voices_62 : decode cX8_voices 62 = .ok (.aload_n 0, 1) := by decide +kernel
theorem dX8_voices_63 : decode cX8_voices 63 = .ok (.getfield 34, 3) := by decide +kernel
theorem dX8_voices_66 : decode cX8_voices 66 = .ok (.bipush 6, 2) := by decide +kernel
theorem dX8_voices_68 : decode cX8_voices 68 = .ok (.iload 4, 2) := by decide +kernel
theorem dX8_voices_70 : decode cX8_voices 70 = .ok (.imul, 1) := by decide +kernel
theorem dX8_voices_71 : decode cX8_voices 71 = .ok (.iconst 5, 1) := by decide +kernel
theorem dX8_voices_72 : decode cX8_voices 72 = .ok (.iadd, 1) := by decide +kernel
theorem dX8_voices_73 : decode cX8_voices 73 = .ok (.iaload, 1) := by decide +kernel
theorem dX8_voices_74 : decode cX8_voices 74 = .ok (.iload_n 2, 1) := by decide +kernel
theorem dX8_voices_75 : decode cX8_voices 75 = .ok (.ifCond .eq 7, 3) := by decide +kernel
theorem dX8_voices_78 : decode cX8_voices 78 = .ok (.iconst 1, 1) := by decide +kernel
theorem dX8_voices_79 : decode cX8_voices 79 = .ok (.goto 4, 3) := by decide +kernel
theorem dX8_voices_82 : decode cX8_voices 82 = .ok (.iconst 0, 1) := by decide +kernel
theorem dX8_voices_83 : decode cX8_voices 83 = .ok (.if_icmp .ne 7, 3) := by decide +kernel
theorem dX8_voices_86 : decode cX8_voices 86 = .ok (.iconst 1, 1) := by decide +kernel
theorem dX8_voices_87 : decode cX8_voices 87 = .ok (.goto 4, 3) := by decide +kernel
theorem dX8_voices_90 : decode cX8_voices 90 = .ok (.iconst 0, 1) := by decide +kernel
theorem dX8_voices_91 : decode cX8_voices 91 = .ok (.iadd, 1) := by decide +kernel
theorem dX8_voices_92 : decode cX8_voices 92 = .ok (.istore_n 3, 1) := by decide +kernel
theorem dX8_voices_93 : decode cX8_voices 93 = .ok (.iinc 4 1, 3) := by decide +kernel
theorem dX8_voices_96 : decode cX8_voices 96 = .ok (.goto (-72), 3) := by decide +kernel
theorem dX8_voices_99 : decode cX8_voices 99 = .ok (.iload_n 3, 1) := by decide +kernel
theorem dX8_voices_100 : decode cX8_voices 100 = .ok (.ireturn, 1) := by decide +kernel
theorem dX8_grewOf_0 : decode cX8_grewOf 0 = .ok (.aload_n 0, 1) := by decide +kernel
theorem dX8_grewOf_1 : decode cX8_grewOf 1 = .ok (.getfield 68, 3) := by decide +kernel
theorem dX8_grewOf_4 : decode cX8_grewOf 4 = .ok (.iload_n 1, 1) := by decide +kernel
theorem dX8_grewOf_5 : decode cX8_grewOf 5 = .ok (.iaload, 1) := by decide +kernel
theorem dX8_grewOf_6 : decode cX8_grewOf 6 = .ok (.ifCond .ge 7, 3) := by decide +kernel
theorem dX8_grewOf_9 : decode cX8_grewOf 9 = .ok (.iconst 0, 1) := by decide +kernel
theorem dX8_grewOf_10 : decode cX8_grewOf 10 = .ok (.goto 31, 3) := by decide +kernel
theorem dX8_grewOf_13 : decode cX8_grewOf 13 = .ok (.aload_n 0, 1) := by decide +kernel
theorem dX8_grewOf_14 : decode cX8_grewOf 14 = .ok (.getfield 34, 3) := by decide +kernel
theorem dX8_grewOf_17 : decode cX8_grewOf 17 = .ok (.bipush 6, 2) := by decide +kernel
theorem dX8_grewOf_19 : decode cX8_grewOf 19 = .ok (.iload_n 1, 1) := by decide +kernel
theorem dX8_grewOf_20 : decode cX8_grewOf 20 = .ok (.imul, 1) := by decide +kernel
theorem dX8_grewOf_21 : decode cX8_grewOf 21 = .ok (.iconst 2, 1) := by decide +kernel
theorem dX8_grewOf_22 : decode cX8_grewOf 22 = .ok (.iadd, 1) := by decide +kernel
theorem dX8_grewOf_23 : decode cX8_grewOf 23 = .ok (.iaload, 1) := by decide +kernel
theorem dX8_grewOf_24 : decode cX8_grewOf 24 = .ok (.aload_n 0, 1) := by decide +kernel
theorem dX8_grewOf_25 : decode cX8_grewOf 25 = .ok (.getfield 34, 3) := by decide +kernel
theorem dX8_grewOf_28 : decode cX8_grewOf 28 = .ok (.bipush 6, 2) := by decide +kernel
theorem dX8_grewOf_30 : decode cX8_grewOf 30 = .ok (.aload_n 0, 1) := by decide +kernel
theorem dX8_grewOf_31 : decode cX8_grewOf 31 = .ok (.getfield 68, 3) := by decide +kernel
theorem dX8_grewOf_34 : decode cX8_grewOf 34 = .ok (.iload_n 1, 1) := by decide +kernel
theorem dX8_grewOf_35 : decode cX8_grewOf 35 = .ok (.iaload, 1) := by decide +kernel
theorem dX8_grewOf_36 : decode cX8_grewOf 36 = .ok (.imul, 1) := by decide +kernel
theorem dX8_grewOf_37 : decode cX8_grewOf 37 = .ok (.iconst 2, 1) := by decide +kernel
theorem dX8_grewOf_38 : decode cX8_grewOf 38 = .ok (.iadd, 1) := by decide +kernel
theorem dX8_grewOf_39 : decode cX8_grewOf 39 = .ok (.iaload, 1) := by decide +kernel
theorem dX8_grewOf_40 : decode cX8_grewOf 40 = .ok (.isub, 1) := by decide +kernel
theorem dX8_grewOf_41 : decode cX8_grewOf 41 = .ok (.ireturn, 1) := by decide +kernel
theorem dX8_grew_0 : decode cX8_grew 0 = .ok (.aload_n 0, 1) := by decide +kernel
theorem dX8_grew_1 : decode cX8_grew 1 = .ok (.iload_n 1, 1) := by decide +kernel
theorem dX8_grew_2 : decode cX8_grew 2 = .ok (.invokevirtual 133, 3) := by decide +kernel
theorem dX8_grew_5 : decode cX8_grew 5 = .ok (.ifCond .ne 6, 3) := by decide +kernel
theorem dX8_grew_8 : decode cX8_grew 8 = .ok (.ldc 153, 2) := by decide +kernel
theorem dX8_grew_10 : decode cX8_grew 10 = .ok (.ireturn, 1) := by decide +kernel
theorem dX8_grew_11 : decode cX8_grew 11 = .ok (.aload_n 0, 1) := by decide +kernel
theorem dX8_grew_12 : decode cX8_grew 12 = .ok (.invokevirtual 144, 3) := by decide +kernel
theorem dX8_grew_15 : decode cX8_grew 15 = .ok (.ifCond .eq 11, 3) := by decide +kernel
theorem dX8_grew_18 : decode cX8_grew 18 = .ok (.aload_n 0, 1) := by decide +kernel
theorem dX8_grew_19 : decode cX8_grew 19 = .ok (.iload_n 1, 1) := by decide +kernel
theorem dX8_grew_20 : decode cX8_grew 20 = .ok (.invokevirtual 154, 3) := by decide +kernel
theorem dX8_grew_23 : decode cX8_grew 23 = .ok (.goto 5, 3) := by decide +kernel
theorem dX8_grew_26 : decode cX8_grew 26 = .ok (.ldc 157, 2) := by decide +kernel
theorem dX8_grew_28 : decode cX8_grew 28 = .ok (.ireturn, 1) := by decide +kernel
theorem dX8_writerOf_0 : decode cX8_writerOf 0 = .ok (.aload_n 0, 1) := by decide +kernel
theorem dX8_writerOf_1 : decode cX8_writerOf 1 = .ok (.getfield 22, 3) := by decide +kernel
theorem dX8_writerOf_4 : decode cX8_writerOf 4 = .ok (.iconst 3, 1) := by decide +kernel
theorem dX8_writerOf_5 : decode cX8_writerOf 5 = .ok (.aload_n 0, 1) := by decide +kernel
theorem dX8_writerOf_6 : decode cX8_writerOf 6 = .ok (.getfield 34, 3) := by decide +kernel
theorem dX8_writerOf_9 : decode cX8_writerOf 9 = .ok (.bipush 6, 2) := by decide +kernel
theorem dX8_writerOf_11 : decode cX8_writerOf 11 = .ok (.iload_n 1, 1) := by decide +kernel
theorem dX8_writerOf_12 : decode cX8_writerOf 12 = .ok (.imul, 1) := by decide +kernel
theorem dX8_writerOf_13 : decode cX8_writerOf 13 = .ok (.iaload, 1) := by decide +kernel
theorem dX8_writerOf_14 : decode cX8_writerOf 14 = .ok (.imul, 1) := by decide +kernel
theorem dX8_writerOf_15 : decode cX8_writerOf 15 = .ok (.iconst 1, 1) := by decide +kernel
theorem dX8_writerOf_16 : decode cX8_writerOf 16 = .ok (.iadd, 1) := by decide +kernel
theorem dX8_writerOf_17 : decode cX8_writerOf 17 = .ok (.iaload, 1) := by decide +kernel
theorem dX8_writerOf_18 : decode cX8_writerOf 18 = .ok (.ireturn, 1) := by decide +kernel
theorem dX8_habit_0 : decode cX8_habit 0 = .ok (.iload_n 1, 1) := by decide +kernel
theorem dX8_habit_1 : decode cX8_habit 1 = .ok (.i2l, 1) := by decide +kernel
theorem dX8_habit_2 : decode cX8_habit 2 = .ok (.lconst 0, 1) := by decide +kernel
theorem dX8_habit_3 : decode cX8_habit 3 = .ok (.ldc2_w 93, 3) := by decide +kernel
theorem dX8_habit_6 : decode cX8_habit 6 = .ok (.invokestatic 79, 3) := by decide +kernel
theorem dX8_habit_9 : decode cX8_habit 9 = .ok (.ifCond .ne 6, 3) := by decide +kernel
theorem dX8_habit_12 : decode cX8_habit 12 = .ok (.ldc 158, 2) := by decide +kernel
theorem dX8_habit_14 : decode cX8_habit 14 = .ok (.ireturn, 1) := by decide +kernel
theorem dX8_habit_15 : decode cX8_habit 15 = .ok (.aload_n 0, 1) := by decide +kernel
theorem dX8_habit_16 : decode cX8_habit 16 = .ok (.invokevirtual 144, 3) := by decide +kernel
theorem dX8_habit_19 : decode cX8_habit 19 = .ok (.ifCond .ne 6, 3) := by decide +kernel
theorem dX8_habit_22 : decode cX8_habit 22 = .ok (.ldc 159, 2) := by decide +kernel
theorem dX8_habit_24 : decode cX8_habit 24 = .ok (.ireturn, 1) := by decide +kernel
theorem dX8_habit_25 : decode cX8_habit 25 = .ok (.iconst 0, 1) := by decide +kernel
theorem dX8_habit_26 : decode cX8_habit 26 = .ok (.istore_n 2, 1) := by decide +kernel
theorem dX8_habit_27 : decode cX8_habit 27 = .ok (.iconst 0, 1) := by decide +kernel
theorem dX8_habit_28 : decode cX8_habit 28 = .ok (.istore_n 3, 1) := by decide +kernel
theorem dX8_habit_29 : decode cX8_habit 29 = .ok (.iload_n 3, 1) := by decide +kernel
theorem dX8_habit_30 : decode cX8_habit 30 = .ok (.aload_n 0, 1) := by decide +kernel
theorem dX8_habit_31 : decode cX8_habit 31 = .ok (.getfield 31, 3) := by decide +kernel
theorem dX8_habit_34 : decode cX8_habit 34 = .ok (.iconst 0, 1) := by decide +kernel
theorem dX8_habit_35 : decode cX8_habit 35 = .ok (.iaload, 1) := by decide +kernel
theorem dX8_habit_36 : decode cX8_habit 36 = .ok (.if_icmp .ge 30, 3) := by decide +kernel
theorem dX8_habit_39 : decode cX8_habit 39 = .ok (.iload_n 2, 1) := by decide +kernel
theorem dX8_habit_40 : decode cX8_habit 40 = .ok (.aload_n 0, 1) := by decide +kernel
theorem dX8_habit_41 : decode cX8_habit 41 = .ok (.iload_n 3, 1) := by decide +kernel
theorem dX8_habit_42 : decode cX8_habit 42 = .ok (.invokevirtual 160, 3) := by decide +kernel
theorem dX8_habit_45 : decode cX8_habit 45 = .ok (.iload_n 1, 1) := by decide +kernel
theorem dX8_habit_46 : decode cX8_habit 46 = .ok (.if_icmp .ne 11, 3) := by decide +kernel
theorem dX8_habit_49 : decode cX8_habit 49 = .ok (.aload_n 0, 1) := by decide +kernel
theorem dX8_habit_50 : decode cX8_habit 50 = .ok (.iload_n 3, 1) := by decide +kernel
theorem dX8_habit_51 : decode cX8_habit 51 = .ok (.invokevirtual 154, 3) := by decide +kernel
theorem dX8_habit_54 : decode cX8_habit 54 = .ok (.goto 4, 3) := by decide +kernel
theorem dX8_habit_57 : decode cX8_habit 57 = .ok (.iconst 0, 1) := by decide +kernel
theorem dX8_habit_58 : decode cX8_habit 58 = .ok (.iadd, 1) := by decide +kernel
theorem dX8_habit_59 : decode cX8_habit 59 = .ok (.istore_n 2, 1) := by decide +kernel
theorem dX8_habit_60 : decode cX8_habit 60 = .ok (.iinc 3 1, 3) := by decide +kernel
theorem dX8_habit_63 : decode cX8_habit 63 = .ok (.goto (-34), 3) := by decide +kernel
theorem dX8_habit_66 : decode cX8_habit 66 = .ok (.iload_n 2, 1) := by decide +kernel
theorem dX8_habit_67 : decode cX8_habit 67 = .ok (.ireturn, 1) := by decide +kernel
theorem dX8_write_0 : decode cX8_write 0 = .ok (.iload_n 1, 1) := by decide +kernel
theorem dX8_write_1 : decode cX8_write 1 = .ok (.i2l, 1) := by decide +kernel
theorem dX8_write_2 : decode cX8_write 2 = .ok (.lconst 1, 1) := by decide +kernel
theorem dX8_write_3 : decode cX8_write 3 = .ok (.ldc2_w 163, 3) := by decide +kernel
theorem dX8_write_6 : decode cX8_write 6 = .ok (.invokestatic 79, 3) := by decide +kernel
theorem dX8_write_9 : decode cX8_write 9 = .ok (.ifCond .ne 5, 3) := by decide +kernel
theorem dX8_write_12 : decode cX8_write 12 = .ok (.iconst (-1), 1) := by decide +kernel
theorem dX8_write_13 : decode cX8_write 13 = .ok (.ireturn, 1) := by decide +kernel
theorem dX8_write_14 : decode cX8_write 14 = .ok (.aload_n 0, 1) := by decide +kernel
theorem dX8_write_15 : decode cX8_write 15 = .ok (.getfield 165, 3) := by decide +kernel
theorem dX8_write_18 : decode cX8_write 18 = .ok (.iload_n 1, 1) := by decide +kernel
theorem dX8_write_19 : decode cX8_write 19 = .ok (.iadd, 1) := by decide +kernel
theorem dX8_write_20 : decode cX8_write 20 = .ok (.sipush 200, 3) := by decide +kernel
theorem dX8_write_23 : decode cX8_write 23 = .ok (.if_icmp .le 6, 3) := by decide +kernel
theorem dX8_write_26 : decode cX8_write 26 = .ok (.bipush (-3), 2) := by decide +kernel
theorem dX8_write_28 : decode cX8_write 28 = .ok (.ireturn, 1) := by decide +kernel
theorem dX8_write_29 : decode cX8_write 29 = .ok (.iload_n 1, 1) := by decide +kernel
theorem dX8_write_30 : decode cX8_write 30 = .ok (.iconst 1, 1) := by decide +kernel
theorem dX8_write_31 : decode cX8_write 31 = .ok (.isub, 1) := by decide +kernel
theorem dX8_write_32 : decode cX8_write 32 = .ok (.istore 4, 2) := by decide +kernel
theorem dX8_write_34 : decode cX8_write 34 = .ok (.iload 4, 2) := by decide +kernel
theorem dX8_write_36 : decode cX8_write 36 = .ok (.ifCond .lt 40, 3) := by decide +kernel
theorem dX8_write_39 : decode cX8_write 39 = .ok (.aload_n 0, 1) := by decide +kernel
theorem dX8_write_40 : decode cX8_write 40 = .ok (.getfield 47, 3) := by decide +kernel
theorem dX8_write_43 : decode cX8_write 43 = .ok (.aload_n 0, 1) := by decide +kernel
theorem dX8_write_44 : decode cX8_write 44 = .ok (.getfield 165, 3) := by decide +kernel
theorem dX8_write_47 : decode cX8_write 47 = .ok (.lload_n 2, 1) := by decide +kernel
theorem dX8_write_48 : decode cX8_write 48 = .ok (.bipush 8, 2) := by decide +kernel
theorem dX8_write_50 : decode cX8_write 50 = .ok (.iload 4, 2) := by decide +kernel
theorem dX8_write_52 : decode cX8_write 52 = .ok (.imul, 1) := by decide +kernel
theorem dX8_write_53 : decode cX8_write 53 = .ok (.lshr, 1) := by decide +kernel
theorem dX8_write_54 : decode cX8_write 54 = .ok (.ldc2_w 131, 3) := by decide +kernel
theorem dX8_write_57 : decode cX8_write 57 = .ok (.land, 1) := by decide +kernel
theorem dX8_write_58 : decode cX8_write 58 = .ok (.l2i, 1) := by decide +kernel
theorem dX8_write_59 : decode cX8_write 59 = .ok (.iastore, 1) := by decide +kernel
theorem dX8_write_60 : decode cX8_write 60 = .ok (.aload_n 0, 1) := by decide +kernel
theorem dX8_write_61 : decode cX8_write 61 = .ok (.dup, 1) := by decide +kernel
theorem dX8_write_62 : decode cX8_write 62 = .ok (.getfield 165, 3) := by decide +kernel
theorem dX8_write_65 : decode cX8_write 65 = .ok (.iconst 1, 1) := by decide +kernel
theorem dX8_write_66 : decode cX8_write 66 = .ok (.iadd, 1) := by decide +kernel
theorem dX8_write_67 : decode cX8_write 67 = .ok (.putfield 165, 3) := by decide +kernel
theorem dX8_write_70 : decode cX8_write 70 = .ok (.iinc 4 (-1), 3) := by decide +kernel
theorem dX8_write_73 : decode cX8_write 73 = .ok (.goto (-39), 3) := by decide +kernel
theorem dX8_write_76 : decode cX8_write 76 = .ok (.aload_n 0, 1) := by decide +kernel
theorem dX8_write_77 : decode cX8_write 77 = .ok (.getfield 165, 3) := by decide +kernel
theorem dX8_write_80 : decode cX8_write 80 = .ok (.ireturn, 1) := by decide +kernel
theorem dX8_wipe_0 : decode cX8_wipe 0 = .ok (.aload_n 0, 1) := by decide +kernel
theorem dX8_wipe_1 : decode cX8_wipe 1 = .ok (.getfield 165, 3) := by decide +kernel
theorem dX8_wipe_4 : decode cX8_wipe 4 = .ok (.istore_n 1, 1) := by decide +kernel
theorem dX8_wipe_5 : decode cX8_wipe 5 = .ok (.aload_n 0, 1) := by decide +kernel
theorem dX8_wipe_6 : decode cX8_wipe 6 = .ok (.iconst 0, 1) := by decide +kernel
theorem dX8_wipe_7 : decode cX8_wipe 7 = .ok (.putfield 165, 3) := by decide +kernel
theorem dX8_wipe_10 : decode cX8_wipe 10 = .ok (.iload_n 1, 1) := by decide +kernel
theorem dX8_wipe_11 : decode cX8_wipe 11 = .ok (.ireturn, 1) := by decide +kernel
theorem dX8_numbers_0 : decode cX8_numbers 0 = .ok (.iconst 0, 1) := by decide +kernel
theorem dX8_numbers_1 : decode cX8_numbers 1 = .ok (.istore_n 2, 1) := by decide +kernel
theorem dX8_numbers_2 : decode cX8_numbers 2 = .ok (.iload_n 2, 1) := by decide +kernel
theorem dX8_numbers_3 : decode cX8_numbers 3 = .ok (.iconst 4, 1) := by decide +kernel
theorem dX8_numbers_4 : decode cX8_numbers 4 = .ok (.if_icmp .ge 16, 3) := by decide +kernel
theorem dX8_numbers_7 : decode cX8_numbers 7 = .ok (.aload_n 0, 1) := by decide +kernel
theorem dX8_numbers_8 : decode cX8_numbers 8 = .ok (.getfield 71, 3) := by decide +kernel
theorem dX8_numbers_11 : decode cX8_numbers 11 = .ok (.iload_n 2, 1) := by decide +kernel
theorem dX8_numbers_12 : decode cX8_numbers 12 = .ok (.iconst 0, 1) := by decide +kernel
theorem dX8_numbers_13 : decode cX8_numbers 13 = .ok (.iastore, 1) := by decide +kernel
theorem dX8_numbers_14 : decode cX8_numbers 14 = .ok (.iinc 2 1, 3) := by decide +kernel
theorem dX8_numbers_17 : decode cX8_numbers 17 = .ok (.goto (-15), 3) := by decide +kernel
theorem dX8_numbers_20 : decode cX8_numbers 20 = .ok (.iconst 0, 1) := by decide +kernel
theorem dX8_numbers_21 : decode cX8_numbers 21 = .ok (.istore_n 2, 1) := by decide +kernel
theorem dX8_numbers_22 : decode cX8_numbers 22 = .ok (.iload_n 2, 1) := by decide +kernel
theorem dX8_numbers_23 : decode cX8_numbers 23 = .ok (.iload_n 1, 1) := by decide +kernel
theorem dX8_numbers_24 : decode cX8_numbers 24 = .ok (.if_icmp .ge 157, 3) := by decide +kernel
theorem dX8_numbers_27 : decode cX8_numbers 27 = .ok (.iconst 0, 1) := by decide +kernel
theorem dX8_numbers_28 : decode cX8_numbers 28 = .ok (.istore_n 3, 1) := by decide +kernel
theorem dX8_numbers_29 : decode cX8_numbers 29 = .ok (.iconst 0, 1) := by decide +kernel
theorem dX8_numbers_30 : decode cX8_numbers 30 = .ok (.istore 4, 2) := by decide +kernel
theorem dX8_numbers_32 : decode cX8_numbers 32 = .ok (.aload_n 0, 1) := by decide +kernel
theorem dX8_numbers_33 : decode cX8_numbers 33 = .ok (.getfield 168, 3) := by decide +kernel
theorem dX8_numbers_36 : decode cX8_numbers 36 = .ok (.aload_n 0, 1) := by decide +kernel
theorem dX8_numbers_37 : decode cX8_numbers 37 = .ok (.getfield 165, 3) := by decide +kernel
theorem dX8_numbers_40 : decode cX8_numbers 40 = .ok (.if_icmp .ge 66, 3) := by decide +kernel
theorem dX8_numbers_43 : decode cX8_numbers 43 = .ok (.aload_n 0, 1) := by decide +kernel
theorem dX8_numbers_44 : decode cX8_numbers 44 = .ok (.getfield 47, 3) := by decide +kernel
theorem dX8_numbers_47 : decode cX8_numbers 47 = .ok (.aload_n 0, 1) := by decide +kernel
theorem dX8_numbers_48 : decode cX8_numbers 48 = .ok (.getfield 168, 3) := by decide +kernel
theorem dX8_numbers_51 : decode cX8_numbers 51 = .ok (.iaload, 1) := by decide +kernel
theorem dX8_numbers_52 : decode cX8_numbers 52 = .ok (.i2l, 1) := by decide +kernel
theorem dX8_numbers_53 : decode cX8_numbers 53 = .ok (.ldc2_w 171, 3) := by decide +kernel
theorem dX8_numbers_56 : decode cX8_numbers 56 = .ok (.ldc2_w 173, 3) := by decide +kernel
theorem dX8_numbers_59 : decode cX8_numbers 59 = .ok (.invokestatic 79, 3) := by decide +kernel
theorem dX8_numbers_62 : decode cX8_numbers 62 = .ok (.ifCond .eq 44, 3) := by decide +kernel
theorem dX8_numbers_65 : decode cX8_numbers 65 = .ok (.iload_n 3, 1) := by decide +kernel
theorem dX8_numbers_66 : decode cX8_numbers 66 = .ok (.iconst 4, 1) := by decide +kernel
theorem dX8_numbers_67 : decode cX8_numbers 67 = .ok (.if_icmp .ge 39, 3) := by decide +kernel
theorem dX8_numbers_70 : decode cX8_numbers 70 = .ok (.bipush 10, 2) := by decide +kernel
theorem dX8_numbers_72 : decode cX8_numbers 72 = .ok (.iload 4, 2) := by decide +kernel
theorem dX8_numbers_74 : decode cX8_numbers 74 = .ok (.imul, 1) := by decide +kernel
theorem dX8_numbers_75 : decode cX8_numbers 75 = .ok (.aload_n 0, 1) := by decide +kernel
theorem dX8_numbers_76 : decode cX8_numbers 76 = .ok (.getfield 47, 3) := by decide +kernel
theorem dX8_numbers_79 : decode cX8_numbers 79 = .ok (.aload_n 0, 1) := by decide +kernel
theorem dX8_numbers_80 : decode cX8_numbers 80 = .ok (.getfield 168, 3) := by decide +kernel
theorem dX8_numbers_83 : decode cX8_numbers 83 = .ok (.iaload, 1) := by decide +kernel
theorem dX8_numbers_84 : decode cX8_numbers 84 = .ok (.iadd, 1) := by decide +kernel
theorem dX8_numbers_85 : decode cX8_numbers 85 = .ok (.bipush 48, 2) := by decide +kernel
theorem dX8_numbers_87 : decode cX8_numbers 87 = .ok (.isub, 1) := by decide +kernel
theorem dX8_numbers_88 : decode cX8_numbers 88 = .ok (.istore 4, 2) := by decide +kernel
theorem dX8_numbers_90 : decode cX8_numbers 90 = .ok (.iinc 3 1, 3) := by decide +kernel
theorem dX8_numbers_93 : decode cX8_numbers 93 = .ok (.aload_n 0, 1) := by decide +kernel
theorem dX8_numbers_94 : decode cX8_numbers 94 = .ok (.dup, 1) := by decide +kernel
theorem dX8_numbers_95 : decode cX8_numbers 95 = .ok (.getfield 168, 3) := by decide +kernel
theorem dX8_numbers_98 : decode cX8_numbers 98 = .ok (.iconst 1, 1) := by decide +kernel
theorem dX8_numbers_99 : decode cX8_numbers 99 = .ok (.iadd, 1) := by decide +kernel
theorem dX8_numbers_100 : decode cX8_numbers 100 = .ok (.putfield 168, 3) := by decide +kernel
theorem dX8_numbers_103 : decode cX8_numbers 103 = .ok (.goto (-71), 3) := by decide +kernel
theorem dX8_numbers_106 : decode cX8_numbers 106 = .ok (.iload_n 3, 1) := by decide +kernel
theorem dX8_numbers_107 : decode cX8_numbers 107 = .ok (.i2l, 1) := by decide +kernel
theorem dX8_numbers_108 : decode cX8_numbers 108 = .ok (.lconst 1, 1) := by decide +kernel
theorem dX8_numbers_109 : decode cX8_numbers 109 = .ok (.ldc2_w 175, 3) := by decide +kernel
theorem dX8_numbers_112 : decode cX8_numbers 112 = .ok (.invokestatic 79, 3) := by decide +kernel
theorem dX8_numbers_115 : decode cX8_numbers 115 = .ok (.ifCond .eq 40, 3) := by decide +kernel
theorem dX8_numbers_118 : decode cX8_numbers 118 = .ok (.aload_n 0, 1) := by decide +kernel
theorem dX8_numbers_119 : decode cX8_numbers 119 = .ok (.getfield 168, 3) := by decide +kernel
theorem dX8_numbers_122 : decode cX8_numbers 122 = .ok (.aload_n 0, 1) := by decide +kernel
theorem dX8_numbers_123 : decode cX8_numbers 123 = .ok (.getfield 165, 3) := by decide +kernel
theorem dX8_numbers_126 : decode cX8_numbers 126 = .ok (.if_icmp .eq 29, 3) := by decide +kernel
theorem dX8_numbers_129 : decode cX8_numbers 129 = .ok (.aload_n 0, 1) := by decide +kernel
theorem dX8_numbers_130 : decode cX8_numbers 130 = .ok (.getfield 47, 3) := by decide +kernel
theorem dX8_numbers_133 : decode cX8_numbers 133 = .ok (.aload_n 0, 1) := by decide +kernel
theorem dX8_numbers_134 : decode cX8_numbers 134 = .ok (.getfield 168, 3) := by decide +kernel
theorem dX8_numbers_137 : decode cX8_numbers 137 = .ok (.iaload, 1) := by decide +kernel
theorem dX8_numbers_138 : decode cX8_numbers 138 = .ok (.iload_n 2, 1) := by decide +kernel
theorem dX8_numbers_139 : decode cX8_numbers 139 = .ok (.iload_n 1, 1) := by decide +kernel
theorem dX8_numbers_140 : decode cX8_numbers 140 = .ok (.iconst 1, 1) := by decide +kernel
theorem dX8_numbers_141 : decode cX8_numbers 141 = .ok (.isub, 1) := by decide +kernel
theorem dX8_numbers_142 : decode cX8_numbers 142 = .ok (.if_icmp .ge 8, 3) := by decide +kernel
theorem dX8_numbers_145 : decode cX8_numbers 145 = .ok (.bipush 44, 2) := by decide +kernel
theorem dX8_numbers_147 : decode cX8_numbers 147 = .ok (.goto 5, 3) := by decide +kernel
theorem dX8_numbers_150 : decode cX8_numbers 150 = .ok (.bipush 59, 2) := by decide +kernel
theorem dX8_numbers_152 : decode cX8_numbers 152 = .ok (.if_icmp .eq 5, 3) := by decide +kernel
theorem dX8_numbers_155 : decode cX8_numbers 155 = .ok (.iconst 0, 1) := by decide +kernel
theorem dX8_numbers_156 : decode cX8_numbers 156 = .ok (.ireturn, 1) := by decide +kernel
theorem dX8_numbers_157 : decode cX8_numbers 157 = .ok (.aload_n 0, 1) := by decide +kernel
theorem dX8_numbers_158 : decode cX8_numbers 158 = .ok (.getfield 71, 3) := by decide +kernel
theorem dX8_numbers_161 : decode cX8_numbers 161 = .ok (.iload_n 2, 1) := by decide +kernel
theorem dX8_numbers_162 : decode cX8_numbers 162 = .ok (.iload 4, 2) := by decide +kernel
theorem dX8_numbers_164 : decode cX8_numbers 164 = .ok (.iastore, 1) := by decide +kernel
theorem dX8_numbers_165 : decode cX8_numbers 165 = .ok (.aload_n 0, 1) := by decide +kernel
theorem dX8_numbers_166 : decode cX8_numbers 166 = .ok (.dup, 1) := by decide +kernel
theorem dX8_numbers_167 : decode cX8_numbers 167 = .ok (.getfield 168, 3) := by decide +kernel
theorem dX8_numbers_170 : decode cX8_numbers 170 = .ok (.iconst 1, 1) := by decide +kernel
theorem dX8_numbers_171 : decode cX8_numbers 171 = .ok (.iadd, 1) := by decide +kernel
theorem dX8_numbers_172 : decode cX8_numbers 172 = .ok (.putfield 168, 3) := by decide +kernel
theorem dX8_numbers_175 : decode cX8_numbers 175 = .ok (.iinc 2 1, 3) := by decide +kernel
theorem dX8_numbers_178 : decode cX8_numbers 178 = .ok (.goto (-156), 3) := by decide +kernel
theorem dX8_numbers_181 : decode cX8_numbers 181 = .ok (.iconst 1, 1) := by decide +kernel
theorem dX8_numbers_182 : decode cX8_numbers 182 = .ok (.ireturn, 1) := by decide +kernel
theorem dX8_item_0 : decode cX8_item 0 = .ok (.aload_n 0, 1) := by decide +kernel
theorem dX8_item_1 : decode cX8_item 1 = .ok (.getfield 47, 3) := by decide +kernel
theorem dX8_item_4 : decode cX8_item 4 = .ok (.aload_n 0, 1) := by decide +kernel
theorem dX8_item_5 : decode cX8_item 5 = .ok (.getfield 168, 3) := by decide +kernel
theorem dX8_item_8 : decode cX8_item 8 = .ok (.iaload, 1) := by decide +kernel
theorem dX8_item_9 : decode cX8_item 9 = .ok (.istore_n 1, 1) := by decide +kernel
theorem dX8_item_10 : decode cX8_item 10 = .ok (.aload_n 0, 1) := by decide +kernel
theorem dX8_item_11 : decode cX8_item 11 = .ok (.dup, 1) := by decide +kernel
theorem dX8_item_12 : decode cX8_item 12 = .ok (.getfield 168, 3) := by decide +kernel
theorem dX8_item_15 : decode cX8_item 15 = .ok (.iconst 1, 1) := by decide +kernel
theorem dX8_item_16 : decode cX8_item 16 = .ok (.iadd, 1) := by decide +kernel
theorem dX8_item_17 : decode cX8_item 17 = .ok (.putfield 168, 3) := by decide +kernel
theorem dX8_item_20 : decode cX8_item 20 = .ok (.iload_n 1, 1) := by decide +kernel
theorem dX8_item_21 : decode cX8_item 21 = .ok (.lookupswitch 257 #[(98, 156), (110, 204), (111, 150), (118, 102), (119, 59), (120, 179)], 59) := by decide +kernel
theorem dX8_item_80 : decode cX8_item 80 = .ok (.aload_n 0, 1) := by decide +kernel
theorem dX8_item_81 : decode cX8_item 81 = .ok (.iconst 3, 1) := by decide +kernel
theorem dX8_item_82 : decode cX8_item 82 = .ok (.invokevirtual 177, 3) := by decide +kernel
theorem dX8_item_85 : decode cX8_item 85 = .ok (.ifCond .eq 36, 3) := by decide +kernel
theorem dX8_item_88 : decode cX8_item 88 = .ok (.aload_n 0, 1) := by decide +kernel
theorem dX8_item_89 : decode cX8_item 89 = .ok (.getfield 71, 3) := by decide +kernel
theorem dX8_item_92 : decode cX8_item 92 = .ok (.iconst 0, 1) := by decide +kernel
theorem dX8_item_93 : decode cX8_item 93 = .ok (.iaload, 1) := by decide +kernel
theorem dX8_item_94 : decode cX8_item 94 = .ok (.invokestatic 87, 3) := by decide +kernel
theorem dX8_item_97 : decode cX8_item 97 = .ok (.ifCond .eq 24, 3) := by decide +kernel
theorem dX8_item_100 : decode cX8_item 100 = .ok (.aload_n 0, 1) := by decide +kernel
theorem dX8_item_101 : decode cX8_item 101 = .ok (.getfield 71, 3) := by decide +kernel
theorem dX8_item_104 : decode cX8_item 104 = .ok (.iconst 1, 1) := by decide +kernel
theorem dX8_item_105 : decode cX8_item 105 = .ok (.iaload, 1) := by decide +kernel
theorem dX8_item_106 : decode cX8_item 106 = .ok (.i2l, 1) := by decide +kernel
theorem dX8_item_107 : decode cX8_item 107 = .ok (.lconst 0, 1) := by decide +kernel
theorem dX8_item_108 : decode cX8_item 108 = .ok (.ldc2_w 180, 3) := by decide +kernel
theorem dX8_item_111 : decode cX8_item 111 = .ok (.invokestatic 79, 3) := by decide +kernel
theorem dX8_item_114 : decode cX8_item 114 = .ok (.ifCond .eq 7, 3) := by decide +kernel
theorem dX8_item_117 : decode cX8_item 117 = .ok (.iconst 1, 1) := by decide +kernel
theorem dX8_item_118 : decode cX8_item 118 = .ok (.goto 4, 3) := by decide +kernel
theorem dX8_item_121 : decode cX8_item 121 = .ok (.iconst 0, 1) := by decide +kernel
theorem dX8_item_122 : decode cX8_item 122 = .ok (.ireturn, 1) := by decide +kernel
theorem dX8_item_123 : decode cX8_item 123 = .ok (.aload_n 0, 1) := by decide +kernel
theorem dX8_item_124 : decode cX8_item 124 = .ok (.iconst 3, 1) := by decide +kernel
theorem dX8_item_125 : decode cX8_item 125 = .ok (.invokevirtual 177, 3) := by decide +kernel
theorem dX8_item_128 : decode cX8_item 128 = .ok (.ifCond .eq 41, 3) := by decide +kernel
theorem dX8_item_131 : decode cX8_item 131 = .ok (.aload_n 0, 1) := by decide +kernel
theorem dX8_item_132 : decode cX8_item 132 = .ok (.getfield 71, 3) := by decide +kernel
theorem dX8_item_135 : decode cX8_item 135 = .ok (.iconst 0, 1) := by decide +kernel
theorem dX8_item_136 : decode cX8_item 136 = .ok (.iaload, 1) := by decide +kernel
theorem dX8_item_137 : decode cX8_item 137 = .ok (.i2l, 1) := by decide +kernel
theorem dX8_item_138 : decode cX8_item 138 = .ok (.lconst 0, 1) := by decide +kernel
theorem dX8_item_139 : decode cX8_item 139 = .ok (.ldc2_w 93, 3) := by decide +kernel
theorem dX8_item_142 : decode cX8_item 142 = .ok (.invokestatic 79, 3) := by decide +kernel
theorem dX8_item_145 : decode cX8_item 145 = .ok (.ifCond .eq 24, 3) := by decide +kernel
theorem dX8_item_148 : decode cX8_item 148 = .ok (.aload_n 0, 1) := by decide +kernel
theorem dX8_item_149 : decode cX8_item 149 = .ok (.getfield 71, 3) := by decide +kernel
theorem dX8_item_152 : decode cX8_item 152 = .ok (.iconst 1, 1) := by decide +kernel
theorem dX8_item_153 : decode cX8_item 153 = .ok (.iaload, 1) := by decide +kernel
theorem dX8_item_154 : decode cX8_item 154 = .ok (.i2l, 1) := by decide +kernel
theorem dX8_item_155 : decode cX8_item 155 = .ok (.lconst 0, 1) := by decide +kernel
theorem dX8_item_156 : decode cX8_item 156 = .ok (.ldc2_w 180, 3) := by decide +kernel
theorem dX8_item_159 : decode cX8_item 159 = .ok (.invokestatic 79, 3) := by decide +kernel
theorem dX8_item_162 : decode cX8_item 162 = .ok (.ifCond .eq 7, 3) := by decide +kernel
theorem dX8_item_165 : decode cX8_item 165 = .ok (.iconst 1, 1) := by decide +kernel
theorem dX8_item_166 : decode cX8_item 166 = .ok (.goto 4, 3) := by decide +kernel
theorem dX8_item_169 : decode cX8_item 169 = .ok (.iconst 0, 1) := by decide +kernel
theorem dX8_item_170 : decode cX8_item 170 = .ok (.ireturn, 1) := by decide +kernel
theorem dX8_item_171 : decode cX8_item 171 = .ok (.aload_n 0, 1) := by decide +kernel
theorem dX8_item_172 : decode cX8_item 172 = .ok (.iconst 2, 1) := by decide +kernel
theorem dX8_item_173 : decode cX8_item 173 = .ok (.invokevirtual 177, 3) := by decide +kernel
theorem dX8_item_176 : decode cX8_item 176 = .ok (.ireturn, 1) := by decide +kernel
theorem dX8_item_177 : decode cX8_item 177 = .ok (.aload_n 0, 1) := by decide +kernel
theorem dX8_item_178 : decode cX8_item 178 = .ok (.iconst 2, 1) := by decide +kernel
theorem dX8_item_179 : decode cX8_item 179 = .ok (.invokevirtual 177, 3) := by decide +kernel
theorem dX8_item_182 : decode cX8_item 182 = .ok (.ifCond .eq 16, 3) := by decide +kernel
theorem dX8_item_185 : decode cX8_item 185 = .ok (.aload_n 0, 1) := by decide +kernel
theorem dX8_item_186 : decode cX8_item 186 = .ok (.getfield 71, 3) := by decide +kernel
theorem dX8_item_189 : decode cX8_item 189 = .ok (.iconst 0, 1) := by decide +kernel
theorem dX8_item_190 : decode cX8_item 190 = .ok (.iaload, 1) := by decide +kernel
theorem dX8_item_191 : decode cX8_item 191 = .ok (.ifCond .le 7, 3) := by decide +kernel
theorem dX8_item_194 : decode cX8_item 194 = .ok (.iconst 1, 1) := by decide +kernel
theorem dX8_item_195 : decode cX8_item 195 = .ok (.goto 4, 3) := by decide +kernel
theorem dX8_item_198 : decode cX8_item 198 = .ok (.iconst 0, 1) := by decide +kernel
theorem dX8_item_199 : decode cX8_item 199 = .ok (.ireturn, 1) := by decide +kernel
theorem dX8_item_200 : decode cX8_item 200 = .ok (.aload_n 0, 1) := by decide +kernel
theorem dX8_item_201 : decode cX8_item 201 = .ok (.iconst 2, 1) := by decide +kernel
theorem dX8_item_202 : decode cX8_item 202 = .ok (.invokevirtual 177, 3) := by decide +kernel
theorem dX8_item_205 : decode cX8_item 205 = .ok (.ifCond .eq 18, 3) := by decide +kernel
theorem dX8_item_208 : decode cX8_item 208 = .ok (.aload_n 0, 1) := by decide +kernel
theorem dX8_item_209 : decode cX8_item 209 = .ok (.getfield 71, 3) := by decide +kernel
theorem dX8_item_212 : decode cX8_item 212 = .ok (.iconst 0, 1) := by decide +kernel
theorem dX8_item_213 : decode cX8_item 213 = .ok (.iaload, 1) := by decide +kernel
theorem dX8_item_214 : decode cX8_item 214 = .ok (.bipush 10, 2) := by decide +kernel
theorem dX8_item_216 : decode cX8_item 216 = .ok (.if_icmp .ge 7, 3) := by decide +kernel
theorem dX8_item_219 : decode cX8_item 219 = .ok (.iconst 1, 1) := by decide +kernel
theorem dX8_item_220 : decode cX8_item 220 = .ok (.goto 4, 3) := by decide +kernel
theorem dX8_item_223 : decode cX8_item 223 = .ok (.iconst 0, 1) := by decide +kernel
theorem dX8_item_224 : decode cX8_item 224 = .ok (.ireturn, 1) := by decide +kernel
theorem dX8_item_225 : decode cX8_item 225 = .ok (.aload_n 0, 1) := by decide +kernel
theorem dX8_item_226 : decode cX8_item 226 = .ok (.iconst 4, 1) := by decide +kernel
theorem dX8_item_227 : decode cX8_item 227 = .ok (.invokevirtual 177, 3) := by decide +kernel
theorem dX8_item_230 : decode cX8_item 230 = .ok (.ifCond .eq 46, 3) := by decide +kernel
theorem dX8_item_233 : decode cX8_item 233 = .ok (.aload_n 0, 1) := by decide +kernel
theorem dX8_item_234 : decode cX8_item 234 = .ok (.getfield 71, 3) := by decide +kernel
theorem dX8_item_237 : decode cX8_item 237 = .ok (.iconst 0, 1) := by decide +kernel
theorem dX8_item_238 : decode cX8_item 238 = .ok (.iaload, 1) := by decide +kernel
theorem dX8_item_239 : decode cX8_item 239 = .ok (.invokestatic 87, 3) := by decide +kernel
theorem dX8_item_242 : decode cX8_item 242 = .ok (.ifCond .eq 34, 3) := by decide +kernel
theorem dX8_item_245 : decode cX8_item 245 = .ok (.aload_n 0, 1) := by decide +kernel
theorem dX8_item_246 : decode cX8_item 246 = .ok (.getfield 71, 3) := by decide +kernel
theorem dX8_item_249 : decode cX8_item 249 = .ok (.iconst 1, 1) := by decide +kernel
theorem dX8_item_250 : decode cX8_item 250 = .ok (.iaload, 1) := by decide +kernel
theorem dX8_item_251 : decode cX8_item 251 = .ok (.invokestatic 104, 3) := by decide +kernel
theorem dX8_item_254 : decode cX8_item 254 = .ok (.ifCond .eq 22, 3) := by decide +kernel
theorem dX8_item_257 : decode cX8_item 257 = .ok (.aload_n 0, 1) := by decide +kernel
theorem dX8_item_258 : decode cX8_item 258 = .ok (.getfield 71, 3) := by decide +kernel
theorem dX8_item_261 : decode cX8_item 261 = .ok (.iconst 2, 1) := by decide +kernel
theorem dX8_item_262 : decode cX8_item 262 = .ok (.iaload, 1) := by decide +kernel
theorem dX8_item_263 : decode cX8_item 263 = .ok (.aload_n 0, 1) := by decide +kernel
theorem dX8_item_264 : decode cX8_item 264 = .ok (.getfield 71, 3) := by decide +kernel
theorem dX8_item_267 : decode cX8_item 267 = .ok (.iconst 3, 1) := by decide +kernel
theorem dX8_item_268 : decode cX8_item 268 = .ok (.iaload, 1) := by decide +kernel
theorem dX8_item_269 : decode cX8_item 269 = .ok (.if_icmp .gt 7, 3) := by decide +kernel
theorem dX8_item_272 : decode cX8_item 272 = .ok (.iconst 1, 1) := by decide +kernel
theorem dX8_item_273 : decode cX8_item 273 = .ok (.goto 4, 3) := by decide +kernel
theorem dX8_item_276 : decode cX8_item 276 = .ok (.iconst 0, 1) := by decide +kernel
theorem dX8_item_277 : decode cX8_item 277 = .ok (.ireturn, 1) := by decide +kernel
theorem dX8_item_278 : decode cX8_item 278 = .ok (.iconst 0, 1) := by decide +kernel
theorem dX8_item_279 : decode cX8_item 279 = .ok (.ireturn, 1) := by decide +kernel
theorem dX8_readAll_0 : decode cX8_readAll 0 = .ok (.aload_n 0, 1) := by decide +kernel
theorem dX8_readAll_1 : decode cX8_readAll 1 = .ok (.getfield 50, 3) := by decide +kernel
theorem dX8_readAll_4 : decode cX8_readAll 4 = .ok (.iconst 0, 1) := by decide +kernel
theorem dX8_readAll_5 : decode cX8_readAll 5 = .ok (.iconst 0, 1) := by decide +kernel
theorem dX8_readAll_6 : decode cX8_readAll 6 = .ok (.iastore, 1) := by decide +kernel
theorem dX8_readAll_7 : decode cX8_readAll 7 = .ok (.aload_n 0, 1) := by decide +kernel
theorem dX8_readAll_8 : decode cX8_readAll 8 = .ok (.iconst 0, 1) := by decide +kernel
theorem dX8_readAll_9 : decode cX8_readAll 9 = .ok (.putfield 168, 3) := by decide +kernel
theorem dX8_readAll_12 : decode cX8_readAll 12 = .ok (.aload_n 0, 1) := by decide +kernel
theorem dX8_readAll_13 : decode cX8_readAll 13 = .ok (.getfield 168, 3) := by decide +kernel
theorem dX8_readAll_16 : decode cX8_readAll 16 = .ok (.aload_n 0, 1) := by decide +kernel
theorem dX8_readAll_17 : decode cX8_readAll 17 = .ok (.getfield 165, 3) := by decide +kernel
theorem dX8_readAll_20 : decode cX8_readAll 20 = .ok (.if_icmp .ge 171, 3) := by decide +kernel
theorem dX8_readAll_23 : decode cX8_readAll 23 = .ok (.aload_n 0, 1) := by decide +kernel
theorem dX8_readAll_24 : decode cX8_readAll 24 = .ok (.getfield 168, 3) := by decide +kernel
theorem dX8_readAll_27 : decode cX8_readAll 27 = .ok (.istore_n 1, 1) := by decide +kernel
theorem dX8_readAll_28 : decode cX8_readAll 28 = .ok (.aload_n 0, 1) := by decide +kernel
theorem dX8_readAll_29 : decode cX8_readAll 29 = .ok (.invokevirtual 182, 3) := by decide +kernel
theorem dX8_readAll_32 : decode cX8_readAll 32 = .ok (.ifCond .ne 5, 3) := by decide +kernel
theorem dX8_readAll_35 : decode cX8_readAll 35 = .ok (.iload_n 1, 1) := by decide +kernel
theorem dX8_readAll_36 : decode cX8_readAll 36 = .ok (.ireturn, 1) := by decide +kernel
theorem dX8_readAll_37 : decode cX8_readAll 37 = .ok (.iconst 5, 1) := by decide +kernel
theorem dX8_readAll_38 : decode cX8_readAll 38 = .ok (.aload_n 0, 1) := by decide +kernel
theorem dX8_readAll_39 : decode cX8_readAll 39 = .ok (.getfield 50, 3) := by decide +kernel
theorem dX8_readAll_42 : decode cX8_readAll 42 = .ok (.iconst 0, 1) := by decide +kernel
end
section
theorem dX8_readAll_43 : decode cX8_readAll 43 = .ok (.iaload, 1) := by decide +kernel
theorem dX8_readAll_44 : decode cX8_readAll 44 = .ok (.imul, 1) := by decide +kernel
theorem dX8_readAll_45 : decode cX8_readAll 45 = .ok (.istore_n 2, 1) := by decide +kernel
theorem dX8_readAll_46 : decode cX8_readAll 46 = .ok (.aload_n 0, 1) := by decide +kernel
theorem dX8_readAll_47 : decode cX8_readAll 47 = .ok (.getfield 47, 3) := by decide +kernel
theorem dX8_readAll_50 : decode cX8_readAll 50 = .ok (.iload_n 1, 1) := by decide +kernel
theorem dX8_readAll_51 : decode cX8_readAll 51 = .ok (.iaload, 1) := by decide +kernel
theorem dX8_readAll_52 : decode cX8_readAll 52 = .ok (.istore_n 3, 1) := by decide +kernel
theorem dX8_readAll_53 : decode cX8_readAll 53 = .ok (.iload_n 3, 1) := by decide +kernel
theorem dX8_readAll_54 : decode cX8_readAll 54 = .ok (.bipush 111, 2) := by decide +kernel
theorem dX8_readAll_56 : decode cX8_readAll 56 = .ok (.if_icmp .eq 15, 3) := by decide +kernel
theorem dX8_readAll_59 : decode cX8_readAll 59 = .ok (.iload_n 3, 1) := by decide +kernel
theorem dX8_readAll_60 : decode cX8_readAll 60 = .ok (.bipush 98, 2) := by decide +kernel
theorem dX8_readAll_62 : decode cX8_readAll 62 = .ok (.if_icmp .eq 9, 3) := by decide +kernel
theorem dX8_readAll_65 : decode cX8_readAll 65 = .ok (.iload_n 3, 1) := by decide +kernel
theorem dX8_readAll_66 : decode cX8_readAll 66 = .ok (.bipush 120, 2) := by decide +kernel
theorem dX8_readAll_68 : decode cX8_readAll 68 = .ok (.if_icmp .ne 7, 3) := by decide +kernel
theorem dX8_readAll_71 : decode cX8_readAll 71 = .ok (.iconst 1, 1) := by decide +kernel
theorem dX8_readAll_72 : decode cX8_readAll 72 = .ok (.goto 4, 3) := by decide +kernel
theorem dX8_readAll_75 : decode cX8_readAll 75 = .ok (.iconst 0, 1) := by decide +kernel
theorem dX8_readAll_76 : decode cX8_readAll 76 = .ok (.istore 4, 2) := by decide +kernel
theorem dX8_readAll_78 : decode cX8_readAll 78 = .ok (.aload_n 0, 1) := by decide +kernel
theorem dX8_readAll_79 : decode cX8_readAll 79 = .ok (.getfield 53, 3) := by decide +kernel
theorem dX8_readAll_82 : decode cX8_readAll 82 = .ok (.iload_n 2, 1) := by decide +kernel
theorem dX8_readAll_83 : decode cX8_readAll 83 = .ok (.iload_n 3, 1) := by decide +kernel
theorem dX8_readAll_84 : decode cX8_readAll 84 = .ok (.iastore, 1) := by decide +kernel
theorem dX8_readAll_85 : decode cX8_readAll 85 = .ok (.aload_n 0, 1) := by decide +kernel
theorem dX8_readAll_86 : decode cX8_readAll 86 = .ok (.getfield 53, 3) := by decide +kernel
theorem dX8_readAll_89 : decode cX8_readAll 89 = .ok (.iload_n 2, 1) := by decide +kernel
theorem dX8_readAll_90 : decode cX8_readAll 90 = .ok (.iconst 1, 1) := by decide +kernel
theorem dX8_readAll_91 : decode cX8_readAll 91 = .ok (.iadd, 1) := by decide +kernel
theorem dX8_readAll_92 : decode cX8_readAll 92 = .ok (.iload 4, 2) := by decide +kernel
theorem dX8_readAll_94 : decode cX8_readAll 94 = .ok (.ifCond .eq 7, 3) := by decide +kernel
theorem dX8_readAll_97 : decode cX8_readAll 97 = .ok (.iconst 0, 1) := by decide +kernel
theorem dX8_readAll_98 : decode cX8_readAll 98 = .ok (.goto 9, 3) := by decide +kernel
theorem dX8_readAll_101 : decode cX8_readAll 101 = .ok (.aload_n 0, 1) := by decide +kernel
theorem dX8_readAll_102 : decode cX8_readAll 102 = .ok (.getfield 71, 3) := by decide +kernel
theorem dX8_readAll_105 : decode cX8_readAll 105 = .ok (.iconst 0, 1) := by decide +kernel
theorem dX8_readAll_106 : decode cX8_readAll 106 = .ok (.iaload, 1) := by decide +kernel
theorem dX8_readAll_107 : decode cX8_readAll 107 = .ok (.iastore, 1) := by decide +kernel
theorem dX8_readAll_108 : decode cX8_readAll 108 = .ok (.aload_n 0, 1) := by decide +kernel
theorem dX8_readAll_109 : decode cX8_readAll 109 = .ok (.getfield 53, 3) := by decide +kernel
theorem dX8_readAll_112 : decode cX8_readAll 112 = .ok (.iload_n 2, 1) := by decide +kernel
theorem dX8_readAll_113 : decode cX8_readAll 113 = .ok (.iconst 2, 1) := by decide +kernel
theorem dX8_readAll_114 : decode cX8_readAll 114 = .ok (.iadd, 1) := by decide +kernel
theorem dX8_readAll_115 : decode cX8_readAll 115 = .ok (.iload 4, 2) := by decide +kernel
theorem dX8_readAll_117 : decode cX8_readAll 117 = .ok (.ifCond .eq 12, 3) := by decide +kernel
theorem dX8_readAll_120 : decode cX8_readAll 120 = .ok (.aload_n 0, 1) := by decide +kernel
theorem dX8_readAll_121 : decode cX8_readAll 121 = .ok (.getfield 71, 3) := by decide +kernel
theorem dX8_readAll_124 : decode cX8_readAll 124 = .ok (.iconst 0, 1) := by decide +kernel
theorem dX8_readAll_125 : decode cX8_readAll 125 = .ok (.iaload, 1) := by decide +kernel
theorem dX8_readAll_126 : decode cX8_readAll 126 = .ok (.goto 9, 3) := by decide +kernel
theorem dX8_readAll_129 : decode cX8_readAll 129 = .ok (.aload_n 0, 1) := by decide +kernel
theorem dX8_readAll_130 : decode cX8_readAll 130 = .ok (.getfield 71, 3) := by decide +kernel
theorem dX8_readAll_133 : decode cX8_readAll 133 = .ok (.iconst 1, 1) := by decide +kernel
theorem dX8_readAll_134 : decode cX8_readAll 134 = .ok (.iaload, 1) := by decide +kernel
theorem dX8_readAll_135 : decode cX8_readAll 135 = .ok (.iastore, 1) := by decide +kernel
theorem dX8_readAll_136 : decode cX8_readAll 136 = .ok (.aload_n 0, 1) := by decide +kernel
theorem dX8_readAll_137 : decode cX8_readAll 137 = .ok (.getfield 53, 3) := by decide +kernel
theorem dX8_readAll_140 : decode cX8_readAll 140 = .ok (.iload_n 2, 1) := by decide +kernel
theorem dX8_readAll_141 : decode cX8_readAll 141 = .ok (.iconst 3, 1) := by decide +kernel
theorem dX8_readAll_142 : decode cX8_readAll 142 = .ok (.iadd, 1) := by decide +kernel
theorem dX8_readAll_143 : decode cX8_readAll 143 = .ok (.iload 4, 2) := by decide +kernel
theorem dX8_readAll_145 : decode cX8_readAll 145 = .ok (.ifCond .eq 12, 3) := by decide +kernel
theorem dX8_readAll_148 : decode cX8_readAll 148 = .ok (.aload_n 0, 1) := by decide +kernel
theorem dX8_readAll_149 : decode cX8_readAll 149 = .ok (.getfield 71, 3) := by decide +kernel
theorem dX8_readAll_152 : decode cX8_readAll 152 = .ok (.iconst 1, 1) := by decide +kernel
theorem dX8_readAll_153 : decode cX8_readAll 153 = .ok (.iaload, 1) := by decide +kernel
theorem dX8_readAll_154 : decode cX8_readAll 154 = .ok (.goto 9, 3) := by decide +kernel
theorem dX8_readAll_157 : decode cX8_readAll 157 = .ok (.aload_n 0, 1) := by decide +kernel
theorem dX8_readAll_158 : decode cX8_readAll 158 = .ok (.getfield 71, 3) := by decide +kernel
theorem dX8_readAll_161 : decode cX8_readAll 161 = .ok (.iconst 2, 1) := by decide +kernel
theorem dX8_readAll_162 : decode cX8_readAll 162 = .ok (.iaload, 1) := by decide +kernel
theorem dX8_readAll_163 : decode cX8_readAll 163 = .ok (.iastore, 1) := by decide +kernel
theorem dX8_readAll_164 : decode cX8_readAll 164 = .ok (.aload_n 0, 1) := by decide +kernel
theorem dX8_readAll_165 : decode cX8_readAll 165 = .ok (.getfield 53, 3) := by decide +kernel
theorem dX8_readAll_168 : decode cX8_readAll 168 = .ok (.iload_n 2, 1) := by decide +kernel
theorem dX8_readAll_169 : decode cX8_readAll 169 = .ok (.iconst 4, 1) := by decide +kernel
theorem dX8_readAll_170 : decode cX8_readAll 170 = .ok (.iadd, 1) := by decide +kernel
theorem dX8_readAll_171 : decode cX8_readAll 171 = .ok (.aload_n 0, 1) := by decide +kernel
theorem dX8_readAll_172 : decode cX8_readAll 172 = .ok (.getfield 71, 3) := by decide +kernel
theorem dX8_readAll_175 : decode cX8_readAll 175 = .ok (.iconst 3, 1) := by decide +kernel
theorem dX8_readAll_176 : decode cX8_readAll 176 = .ok (.iaload, 1) := by decide +kernel
theorem dX8_readAll_177 : decode cX8_readAll 177 = .ok (.iastore, 1) := by decide +kernel
theorem dX8_readAll_178 : decode cX8_readAll 178 = .ok (.aload_n 0, 1) := by decide +kernel
theorem dX8_readAll_179 : decode cX8_readAll 179 = .ok (.getfield 50, 3) := by decide +kernel
theorem dX8_readAll_182 : decode cX8_readAll 182 = .ok (.iconst 0, 1) := by decide +kernel
theorem dX8_readAll_183 : decode cX8_readAll 183 = .ok (.dup2, 1) := by decide +kernel
theorem dX8_readAll_184 : decode cX8_readAll 184 = .ok (.iaload, 1) := by decide +kernel
theorem dX8_readAll_185 : decode cX8_readAll 185 = .ok (.iconst 1, 1) := by decide +kernel
theorem dX8_readAll_186 : decode cX8_readAll 186 = .ok (.iadd, 1) := by decide +kernel
theorem dX8_readAll_187 : decode cX8_readAll 187 = .ok (.iastore, 1) := by decide +kernel
theorem dX8_readAll_188 : decode cX8_readAll 188 = .ok (.goto (-176), 3) := by decide +kernel
theorem dX8_readAll_191 : decode cX8_readAll 191 = .ok (.bipush (-4), 2) := by decide +kernel
theorem dX8_readAll_193 : decode cX8_readAll 193 = .ok (.ireturn, 1) := by decide +kernel
theorem dX8_fault_0 : decode cX8_fault 0 = .ok (.aload_n 0, 1) := by decide +kernel
theorem dX8_fault_1 : decode cX8_fault 1 = .ok (.invokevirtual 185, 3) := by decide +kernel
theorem dX8_fault_4 : decode cX8_fault 4 = .ok (.ireturn, 1) := by decide +kernel
theorem dX8_force_0 : decode cX8_force 0 = .ok (.aload_n 0, 1) := by decide +kernel
theorem dX8_force_1 : decode cX8_force 1 = .ok (.invokevirtual 185, 3) := by decide +kernel
theorem dX8_force_4 : decode cX8_force 4 = .ok (.bipush (-4), 2) := by decide +kernel
theorem dX8_force_6 : decode cX8_force 6 = .ok (.if_icmp .eq 6, 3) := by decide +kernel
theorem dX8_force_9 : decode cX8_force 9 = .ok (.bipush (-2), 2) := by decide +kernel
theorem dX8_force_11 : decode cX8_force 11 = .ok (.ireturn, 1) := by decide +kernel
theorem dX8_force_12 : decode cX8_force 12 = .ok (.aload_n 0, 1) := by decide +kernel
theorem dX8_force_13 : decode cX8_force 13 = .ok (.getfield 50, 3) := by decide +kernel
theorem dX8_force_16 : decode cX8_force 16 = .ok (.iconst 1, 1) := by decide +kernel
theorem dX8_force_17 : decode cX8_force 17 = .ok (.aload_n 0, 1) := by decide +kernel
theorem dX8_force_18 : decode cX8_force 18 = .ok (.getfield 50, 3) := by decide +kernel
theorem dX8_force_21 : decode cX8_force 21 = .ok (.iconst 0, 1) := by decide +kernel
theorem dX8_force_22 : decode cX8_force 22 = .ok (.iaload, 1) := by decide +kernel
theorem dX8_force_23 : decode cX8_force 23 = .ok (.iastore, 1) := by decide +kernel
theorem dX8_force_24 : decode cX8_force 24 = .ok (.iconst 0, 1) := by decide +kernel
theorem dX8_force_25 : decode cX8_force 25 = .ok (.istore_n 1, 1) := by decide +kernel
theorem dX8_force_26 : decode cX8_force 26 = .ok (.iload_n 1, 1) := by decide +kernel
theorem dX8_force_27 : decode cX8_force 27 = .ok (.sipush 200, 3) := by decide +kernel
theorem dX8_force_30 : decode cX8_force 30 = .ok (.if_icmp .ge 25, 3) := by decide +kernel
theorem dX8_force_33 : decode cX8_force 33 = .ok (.aload_n 0, 1) := by decide +kernel
theorem dX8_force_34 : decode cX8_force 34 = .ok (.getfield 53, 3) := by decide +kernel
theorem dX8_force_37 : decode cX8_force 37 = .ok (.sipush 200, 3) := by decide +kernel
theorem dX8_force_40 : decode cX8_force 40 = .ok (.iload_n 1, 1) := by decide +kernel
theorem dX8_force_41 : decode cX8_force 41 = .ok (.iadd, 1) := by decide +kernel
theorem dX8_force_42 : decode cX8_force 42 = .ok (.aload_n 0, 1) := by decide +kernel
theorem dX8_force_43 : decode cX8_force 43 = .ok (.getfield 53, 3) := by decide +kernel
theorem dX8_force_46 : decode cX8_force 46 = .ok (.iload_n 1, 1) := by decide +kernel
theorem dX8_force_47 : decode cX8_force 47 = .ok (.iaload, 1) := by decide +kernel
theorem dX8_force_48 : decode cX8_force 48 = .ok (.iastore, 1) := by decide +kernel
theorem dX8_force_49 : decode cX8_force 49 = .ok (.iinc 1 1, 3) := by decide +kernel
theorem dX8_force_52 : decode cX8_force 52 = .ok (.goto (-26), 3) := by decide +kernel
theorem dX8_force_55 : decode cX8_force 55 = .ok (.aload_n 0, 1) := by decide +kernel
theorem dX8_force_56 : decode cX8_force 56 = .ok (.getfield 50, 3) := by decide +kernel
theorem dX8_force_59 : decode cX8_force 59 = .ok (.iconst 1, 1) := by decide +kernel
theorem dX8_force_60 : decode cX8_force 60 = .ok (.iaload, 1) := by decide +kernel
theorem dX8_force_61 : decode cX8_force 61 = .ok (.ireturn, 1) := by decide +kernel
theorem dX8_letterOf_0 : decode cX8_letterOf 0 = .ok (.iload_n 0, 1) := by decide +kernel
theorem dX8_letterOf_1 : decode cX8_letterOf 1 = .ok (.ifCond .ne 8, 3) := by decide +kernel
theorem dX8_letterOf_4 : decode cX8_letterOf 4 = .ok (.bipush 119, 2) := by decide +kernel
theorem dX8_letterOf_6 : decode cX8_letterOf 6 = .ok (.goto 35, 3) := by decide +kernel
theorem dX8_letterOf_9 : decode cX8_letterOf 9 = .ok (.iload_n 0, 1) := by decide +kernel
theorem dX8_letterOf_10 : decode cX8_letterOf 10 = .ok (.iconst 1, 1) := by decide +kernel
theorem dX8_letterOf_11 : decode cX8_letterOf 11 = .ok (.if_icmp .ne 8, 3) := by decide +kernel
theorem dX8_letterOf_14 : decode cX8_letterOf 14 = .ok (.bipush 118, 2) := by decide +kernel
theorem dX8_letterOf_16 : decode cX8_letterOf 16 = .ok (.goto 25, 3) := by decide +kernel
theorem dX8_letterOf_19 : decode cX8_letterOf 19 = .ok (.iload_n 0, 1) := by decide +kernel
theorem dX8_letterOf_20 : decode cX8_letterOf 20 = .ok (.iconst 2, 1) := by decide +kernel
theorem dX8_letterOf_21 : decode cX8_letterOf 21 = .ok (.if_icmp .ne 8, 3) := by decide +kernel
theorem dX8_letterOf_24 : decode cX8_letterOf 24 = .ok (.bipush 111, 2) := by decide +kernel
theorem dX8_letterOf_26 : decode cX8_letterOf 26 = .ok (.goto 15, 3) := by decide +kernel
theorem dX8_letterOf_29 : decode cX8_letterOf 29 = .ok (.iload_n 0, 1) := by decide +kernel
theorem dX8_letterOf_30 : decode cX8_letterOf 30 = .ok (.iconst 3, 1) := by decide +kernel
theorem dX8_letterOf_31 : decode cX8_letterOf 31 = .ok (.if_icmp .ne 8, 3) := by decide +kernel
theorem dX8_letterOf_34 : decode cX8_letterOf 34 = .ok (.bipush 98, 2) := by decide +kernel
theorem dX8_letterOf_36 : decode cX8_letterOf 36 = .ok (.goto 5, 3) := by decide +kernel
theorem dX8_letterOf_39 : decode cX8_letterOf 39 = .ok (.bipush 120, 2) := by decide +kernel
theorem dX8_letterOf_41 : decode cX8_letterOf 41 = .ok (.ireturn, 1) := by decide +kernel
theorem dX8_whyOf_0 : decode cX8_whyOf 0 = .ok (.bipush (-4), 2) := by decide +kernel
theorem dX8_whyOf_2 : decode cX8_whyOf 2 = .ok (.istore 4, 2) := by decide +kernel
theorem dX8_whyOf_4 : decode cX8_whyOf 4 = .ok (.iconst 0, 1) := by decide +kernel
theorem dX8_whyOf_5 : decode cX8_whyOf 5 = .ok (.istore 5, 2) := by decide +kernel
theorem dX8_whyOf_7 : decode cX8_whyOf 7 = .ok (.iload 5, 2) := by decide +kernel
theorem dX8_whyOf_9 : decode cX8_whyOf 9 = .ok (.aload_n 0, 1) := by decide +kernel
theorem dX8_whyOf_10 : decode cX8_whyOf 10 = .ok (.getfield 50, 3) := by decide +kernel
theorem dX8_whyOf_13 : decode cX8_whyOf 13 = .ok (.iconst 1, 1) := by decide +kernel
theorem dX8_whyOf_14 : decode cX8_whyOf 14 = .ok (.iaload, 1) := by decide +kernel
theorem dX8_whyOf_15 : decode cX8_whyOf 15 = .ok (.if_icmp .ge 85, 3) := by decide +kernel
theorem dX8_whyOf_18 : decode cX8_whyOf 18 = .ok (.sipush 200, 3) := by decide +kernel
theorem dX8_whyOf_21 : decode cX8_whyOf 21 = .ok (.iconst 5, 1) := by decide +kernel
theorem dX8_whyOf_22 : decode cX8_whyOf 22 = .ok (.iload 5, 2) := by decide +kernel
theorem dX8_whyOf_24 : decode cX8_whyOf 24 = .ok (.imul, 1) := by decide +kernel
theorem dX8_whyOf_25 : decode cX8_whyOf 25 = .ok (.iadd, 1) := by decide +kernel
theorem dX8_whyOf_26 : decode cX8_whyOf 26 = .ok (.istore 6, 2) := by decide +kernel
theorem dX8_whyOf_28 : decode cX8_whyOf 28 = .ok (.aload_n 0, 1) := by decide +kernel
theorem dX8_whyOf_29 : decode cX8_whyOf 29 = .ok (.getfield 53, 3) := by decide +kernel
theorem dX8_whyOf_32 : decode cX8_whyOf 32 = .ok (.iload 6, 2) := by decide +kernel
theorem dX8_whyOf_34 : decode cX8_whyOf 34 = .ok (.iaload, 1) := by decide +kernel
theorem dX8_whyOf_35 : decode cX8_whyOf 35 = .ok (.iload_n 1, 1) := by decide +kernel
theorem dX8_whyOf_36 : decode cX8_whyOf 36 = .ok (.invokestatic 189, 3) := by decide +kernel
theorem dX8_whyOf_39 : decode cX8_whyOf 39 = .ok (.if_icmp .ne 38, 3) := by decide +kernel
theorem dX8_whyOf_42 : decode cX8_whyOf 42 = .ok (.iload_n 1, 1) := by decide +kernel
theorem dX8_whyOf_43 : decode cX8_whyOf 43 = .ok (.iconst 1, 1) := by decide +kernel
theorem dX8_whyOf_44 : decode cX8_whyOf 44 = .ok (.if_icmp .gt 16, 3) := by decide +kernel
theorem dX8_whyOf_47 : decode cX8_whyOf 47 = .ok (.aload_n 0, 1) := by decide +kernel
theorem dX8_whyOf_48 : decode cX8_whyOf 48 = .ok (.getfield 53, 3) := by decide +kernel
theorem dX8_whyOf_51 : decode cX8_whyOf 51 = .ok (.iload 6, 2) := by decide +kernel
theorem dX8_whyOf_53 : decode cX8_whyOf 53 = .ok (.iconst 1, 1) := by decide +kernel
theorem dX8_whyOf_54 : decode cX8_whyOf 54 = .ok (.iadd, 1) := by decide +kernel
theorem dX8_whyOf_55 : decode cX8_whyOf 55 = .ok (.iaload, 1) := by decide +kernel
theorem dX8_whyOf_56 : decode cX8_whyOf 56 = .ok (.iload_n 2, 1) := by decide +kernel
theorem dX8_whyOf_57 : decode cX8_whyOf 57 = .ok (.if_icmp .ne 20, 3) := by decide +kernel
theorem dX8_whyOf_60 : decode cX8_whyOf 60 = .ok (.aload_n 0, 1) := by decide +kernel
theorem dX8_whyOf_61 : decode cX8_whyOf 61 = .ok (.getfield 53, 3) := by decide +kernel
theorem dX8_whyOf_64 : decode cX8_whyOf 64 = .ok (.iload 6, 2) := by decide +kernel
theorem dX8_whyOf_66 : decode cX8_whyOf 66 = .ok (.iconst 3, 1) := by decide +kernel
theorem dX8_whyOf_67 : decode cX8_whyOf 67 = .ok (.iadd, 1) := by decide +kernel
theorem dX8_whyOf_68 : decode cX8_whyOf 68 = .ok (.iaload, 1) := by decide +kernel
theorem dX8_whyOf_69 : decode cX8_whyOf 69 = .ok (.iload_n 3, 1) := by decide +kernel
theorem dX8_whyOf_70 : decode cX8_whyOf 70 = .ok (.if_icmp .gt 7, 3) := by decide +kernel
theorem dX8_whyOf_73 : decode cX8_whyOf 73 = .ok (.iconst 1, 1) := by decide +kernel
theorem dX8_whyOf_74 : decode cX8_whyOf 74 = .ok (.goto 4, 3) := by decide +kernel
theorem dX8_whyOf_77 : decode cX8_whyOf 77 = .ok (.iconst 0, 1) := by decide +kernel
theorem dX8_whyOf_78 : decode cX8_whyOf 78 = .ok (.istore 7, 2) := by decide +kernel
theorem dX8_whyOf_80 : decode cX8_whyOf 80 = .ok (.iload 7, 2) := by decide +kernel
theorem dX8_whyOf_82 : decode cX8_whyOf 82 = .ok (.ifCond .eq 8, 3) := by decide +kernel
theorem dX8_whyOf_85 : decode cX8_whyOf 85 = .ok (.iload 5, 2) := by decide +kernel
theorem dX8_whyOf_87 : decode cX8_whyOf 87 = .ok (.goto 5, 3) := by decide +kernel
theorem dX8_whyOf_90 : decode cX8_whyOf 90 = .ok (.iload 4, 2) := by decide +kernel
theorem dX8_whyOf_92 : decode cX8_whyOf 92 = .ok (.istore 4, 2) := by decide +kernel
theorem dX8_whyOf_94 : decode cX8_whyOf 94 = .ok (.iinc 5 1, 3) := by decide +kernel
theorem dX8_whyOf_97 : decode cX8_whyOf 97 = .ok (.goto (-90), 3) := by decide +kernel
theorem dX8_whyOf_100 : decode cX8_whyOf 100 = .ok (.iload 4, 2) := by decide +kernel
theorem dX8_whyOf_102 : decode cX8_whyOf 102 = .ok (.ireturn, 1) := by decide +kernel
theorem dX8_ruleOf_0 : decode cX8_ruleOf 0 = .ok (.aload_n 0, 1) := by decide +kernel
theorem dX8_ruleOf_1 : decode cX8_ruleOf 1 = .ok (.iload_n 1, 1) := by decide +kernel
theorem dX8_ruleOf_2 : decode cX8_ruleOf 2 = .ok (.iload_n 2, 1) := by decide +kernel
theorem dX8_ruleOf_3 : decode cX8_ruleOf 3 = .ok (.iload_n 3, 1) := by decide +kernel
theorem dX8_ruleOf_4 : decode cX8_ruleOf 4 = .ok (.invokevirtual 192, 3) := by decide +kernel
theorem dX8_ruleOf_7 : decode cX8_ruleOf 7 = .ok (.istore 4, 2) := by decide +kernel
theorem dX8_ruleOf_9 : decode cX8_ruleOf 9 = .ok (.iload 4, 2) := by decide +kernel
theorem dX8_ruleOf_11 : decode cX8_ruleOf 11 = .ok (.bipush (-4), 2) := by decide +kernel
theorem dX8_ruleOf_13 : decode cX8_ruleOf 13 = .ok (.if_icmp .eq 17, 3) := by decide +kernel
theorem dX8_ruleOf_16 : decode cX8_ruleOf 16 = .ok (.aload_n 0, 1) := by decide +kernel
theorem dX8_ruleOf_17 : decode cX8_ruleOf 17 = .ok (.getfield 53, 3) := by decide +kernel
theorem dX8_ruleOf_20 : decode cX8_ruleOf 20 = .ok (.sipush 202, 3) := by decide +kernel
theorem dX8_ruleOf_23 : decode cX8_ruleOf 23 = .ok (.iconst 5, 1) := by decide +kernel
theorem dX8_ruleOf_24 : decode cX8_ruleOf 24 = .ok (.iload 4, 2) := by decide +kernel
theorem dX8_ruleOf_26 : decode cX8_ruleOf 26 = .ok (.imul, 1) := by decide +kernel
theorem dX8_ruleOf_27 : decode cX8_ruleOf 27 = .ok (.iadd, 1) := by decide +kernel
theorem dX8_ruleOf_28 : decode cX8_ruleOf 28 = .ok (.iaload, 1) := by decide +kernel
theorem dX8_ruleOf_29 : decode cX8_ruleOf 29 = .ok (.ireturn, 1) := by decide +kernel
theorem dX8_ruleOf_30 : decode cX8_ruleOf 30 = .ok (.iload_n 1, 1) := by decide +kernel
theorem dX8_ruleOf_31 : decode cX8_ruleOf 31 = .ok (.ifCond .ne 8, 3) := by decide +kernel
theorem dX8_ruleOf_34 : decode cX8_ruleOf 34 = .ok (.bipush 10, 2) := by decide +kernel
theorem dX8_ruleOf_36 : decode cX8_ruleOf 36 = .ok (.goto 34, 3) := by decide +kernel
theorem dX8_ruleOf_39 : decode cX8_ruleOf 39 = .ok (.iload_n 1, 1) := by decide +kernel
theorem dX8_ruleOf_40 : decode cX8_ruleOf 40 = .ok (.iconst 1, 1) := by decide +kernel
theorem dX8_ruleOf_41 : decode cX8_ruleOf 41 = .ok (.if_icmp .ne 7, 3) := by decide +kernel
theorem dX8_ruleOf_44 : decode cX8_ruleOf 44 = .ok (.iconst 0, 1) := by decide +kernel
theorem dX8_ruleOf_45 : decode cX8_ruleOf 45 = .ok (.goto 25, 3) := by decide +kernel
theorem dX8_ruleOf_48 : decode cX8_ruleOf 48 = .ok (.iload_n 1, 1) := by decide +kernel
theorem dX8_ruleOf_49 : decode cX8_ruleOf 49 = .ok (.iconst 2, 1) := by decide +kernel
theorem dX8_ruleOf_50 : decode cX8_ruleOf 50 = .ok (.if_icmp .ne 9, 3) := by decide +kernel
theorem dX8_ruleOf_53 : decode cX8_ruleOf 53 = .ok (.sipush 999, 3) := by decide +kernel
theorem dX8_ruleOf_56 : decode cX8_ruleOf 56 = .ok (.goto 14, 3) := by decide +kernel
theorem dX8_ruleOf_59 : decode cX8_ruleOf 59 = .ok (.iload_n 1, 1) := by decide +kernel
theorem dX8_ruleOf_60 : decode cX8_ruleOf 60 = .ok (.iconst 3, 1) := by decide +kernel
theorem dX8_ruleOf_61 : decode cX8_ruleOf 61 = .ok (.if_icmp .ne 8, 3) := by decide +kernel
theorem dX8_ruleOf_64 : decode cX8_ruleOf 64 = .ok (.bipush 20, 2) := by decide +kernel
theorem dX8_ruleOf_66 : decode cX8_ruleOf 66 = .ok (.goto 4, 3) := by decide +kernel
theorem dX8_ruleOf_69 : decode cX8_ruleOf 69 = .ok (.iconst 1, 1) := by decide +kernel
theorem dX8_ruleOf_70 : decode cX8_ruleOf 70 = .ok (.ireturn, 1) := by decide +kernel
theorem dX8_isAsked_0 : decode cX8_isAsked 0 = .ok (.iload_n 0, 1) := by decide +kernel
theorem dX8_isAsked_1 : decode cX8_isAsked 1 = .ok (.i2l, 1) := by decide +kernel
theorem dX8_isAsked_2 : decode cX8_isAsked 2 = .ok (.lconst 0, 1) := by decide +kernel
theorem dX8_isAsked_3 : decode cX8_isAsked 3 = .ok (.ldc2_w 196, 3) := by decide +kernel
theorem dX8_isAsked_6 : decode cX8_isAsked 6 = .ok (.invokestatic 79, 3) := by decide +kernel
theorem dX8_isAsked_9 : decode cX8_isAsked 9 = .ok (.ifCond .eq 41, 3) := by decide +kernel
theorem dX8_isAsked_12 : decode cX8_isAsked 12 = .ok (.iload_n 0, 1) := by decide +kernel
theorem dX8_isAsked_13 : decode cX8_isAsked 13 = .ok (.iconst 1, 1) := by decide +kernel
theorem dX8_isAsked_14 : decode cX8_isAsked 14 = .ok (.if_icmp .gt 25, 3) := by decide +kernel
theorem dX8_isAsked_17 : decode cX8_isAsked 17 = .ok (.iload_n 1, 1) := by decide +kernel
theorem dX8_isAsked_18 : decode cX8_isAsked 18 = .ok (.i2l, 1) := by decide +kernel
theorem dX8_isAsked_19 : decode cX8_isAsked 19 = .ok (.lconst 0, 1) := by decide +kernel
theorem dX8_isAsked_20 : decode cX8_isAsked 20 = .ok (.iload_n 0, 1) := by decide +kernel
theorem dX8_isAsked_21 : decode cX8_isAsked 21 = .ok (.ifCond .ne 9, 3) := by decide +kernel
theorem dX8_isAsked_24 : decode cX8_isAsked 24 = .ok (.ldc2_w 77, 3) := by decide +kernel
theorem dX8_isAsked_27 : decode cX8_isAsked 27 = .ok (.goto 6, 3) := by decide +kernel
theorem dX8_isAsked_30 : decode cX8_isAsked 30 = .ok (.ldc2_w 93, 3) := by decide +kernel
theorem dX8_isAsked_33 : decode cX8_isAsked 33 = .ok (.invokestatic 79, 3) := by decide +kernel
theorem dX8_isAsked_36 : decode cX8_isAsked 36 = .ok (.ifCond .eq 14, 3) := by decide +kernel
theorem dX8_isAsked_39 : decode cX8_isAsked 39 = .ok (.iload_n 2, 1) := by decide +kernel
theorem dX8_isAsked_40 : decode cX8_isAsked 40 = .ok (.invokestatic 107, 3) := by decide +kernel
theorem dX8_isAsked_43 : decode cX8_isAsked 43 = .ok (.ifCond .eq 7, 3) := by decide +kernel
theorem dX8_isAsked_46 : decode cX8_isAsked 46 = .ok (.iconst 1, 1) := by decide +kernel
theorem dX8_isAsked_47 : decode cX8_isAsked 47 = .ok (.goto 4, 3) := by decide +kernel
theorem dX8_isAsked_50 : decode cX8_isAsked 50 = .ok (.iconst 0, 1) := by decide +kernel
theorem dX8_isAsked_51 : decode cX8_isAsked 51 = .ok (.ireturn, 1) := by decide +kernel
theorem dX8_rule_0 : decode cX8_rule 0 = .ok (.iload_n 1, 1) := by decide +kernel
theorem dX8_rule_1 : decode cX8_rule 1 = .ok (.iload_n 2, 1) := by decide +kernel
theorem dX8_rule_2 : decode cX8_rule 2 = .ok (.iload_n 3, 1) := by decide +kernel
theorem dX8_rule_3 : decode cX8_rule 3 = .ok (.invokestatic 198, 3) := by decide +kernel
theorem dX8_rule_6 : decode cX8_rule 6 = .ok (.ifCond .eq 13, 3) := by decide +kernel
theorem dX8_rule_9 : decode cX8_rule 9 = .ok (.aload_n 0, 1) := by decide +kernel
theorem dX8_rule_10 : decode cX8_rule 10 = .ok (.iload_n 1, 1) := by decide +kernel
theorem dX8_rule_11 : decode cX8_rule 11 = .ok (.iload_n 2, 1) := by decide +kernel
theorem dX8_rule_12 : decode cX8_rule 12 = .ok (.iload_n 3, 1) := by decide +kernel
theorem dX8_rule_13 : decode cX8_rule 13 = .ok (.invokevirtual 202, 3) := by decide +kernel
theorem dX8_rule_16 : decode cX8_rule 16 = .ok (.goto 4, 3) := by decide +kernel
theorem dX8_rule_19 : decode cX8_rule 19 = .ok (.iconst (-1), 1) := by decide +kernel
theorem dX8_rule_20 : decode cX8_rule 20 = .ok (.ireturn, 1) := by decide +kernel
theorem dX8_why_0 : decode cX8_why 0 = .ok (.iload_n 1, 1) := by decide +kernel
theorem dX8_why_1 : decode cX8_why 1 = .ok (.iload_n 2, 1) := by decide +kernel
theorem dX8_why_2 : decode cX8_why 2 = .ok (.iload_n 3, 1) := by decide +kernel
theorem dX8_why_3 : decode cX8_why 3 = .ok (.invokestatic 198, 3) := by decide +kernel
theorem dX8_why_6 : decode cX8_why 6 = .ok (.ifCond .eq 13, 3) := by decide +kernel
theorem dX8_why_9 : decode cX8_why 9 = .ok (.aload_n 0, 1) := by decide +kernel
theorem dX8_why_10 : decode cX8_why 10 = .ok (.iload_n 1, 1) := by decide +kernel
theorem dX8_why_11 : decode cX8_why 11 = .ok (.iload_n 2, 1) := by decide +kernel
theorem dX8_why_12 : decode cX8_why 12 = .ok (.iload_n 3, 1) := by decide +kernel
theorem dX8_why_13 : decode cX8_why 13 = .ok (.invokevirtual 192, 3) := by decide +kernel
theorem dX8_why_16 : decode cX8_why 16 = .ok (.goto 4, 3) := by decide +kernel
theorem dX8_why_19 : decode cX8_why 19 = .ok (.iconst (-1), 1) := by decide +kernel
theorem dX8_why_20 : decode cX8_why 20 = .ok (.ireturn, 1) := by decide +kernel
theorem dX8_quarrel_0 : decode cX8_quarrel 0 = .ok (.iconst 0, 1) := by decide +kernel
theorem dX8_quarrel_1 : decode cX8_quarrel 1 = .ok (.istore_n 1, 1) := by decide +kernel
theorem dX8_quarrel_2 : decode cX8_quarrel 2 = .ok (.iload_n 1, 1) := by decide +kernel
theorem dX8_quarrel_3 : decode cX8_quarrel 3 = .ok (.aload_n 0, 1) := by decide +kernel
theorem dX8_quarrel_4 : decode cX8_quarrel 4 = .ok (.getfield 50, 3) := by decide +kernel
theorem dX8_quarrel_7 : decode cX8_quarrel 7 = .ok (.iconst 1, 1) := by decide +kernel
theorem dX8_quarrel_8 : decode cX8_quarrel 8 = .ok (.iaload, 1) := by decide +kernel
theorem dX8_quarrel_9 : decode cX8_quarrel 9 = .ok (.if_icmp .ge 152, 3) := by decide +kernel
theorem dX8_quarrel_12 : decode cX8_quarrel 12 = .ok (.iload_n 1, 1) := by decide +kernel
theorem dX8_quarrel_13 : decode cX8_quarrel 13 = .ok (.iconst 1, 1) := by decide +kernel
theorem dX8_quarrel_14 : decode cX8_quarrel 14 = .ok (.iadd, 1) := by decide +kernel
theorem dX8_quarrel_15 : decode cX8_quarrel 15 = .ok (.istore_n 2, 1) := by decide +kernel
theorem dX8_quarrel_16 : decode cX8_quarrel 16 = .ok (.iload_n 2, 1) := by decide +kernel
theorem dX8_quarrel_17 : decode cX8_quarrel 17 = .ok (.aload_n 0, 1) := by decide +kernel
theorem dX8_quarrel_18 : decode cX8_quarrel 18 = .ok (.getfield 50, 3) := by decide +kernel
theorem dX8_quarrel_21 : decode cX8_quarrel 21 = .ok (.iconst 1, 1) := by decide +kernel
theorem dX8_quarrel_22 : decode cX8_quarrel 22 = .ok (.iaload, 1) := by decide +kernel
theorem dX8_quarrel_23 : decode cX8_quarrel 23 = .ok (.if_icmp .ge 132, 3) := by decide +kernel
theorem dX8_quarrel_26 : decode cX8_quarrel 26 = .ok (.sipush 200, 3) := by decide +kernel
theorem dX8_quarrel_29 : decode cX8_quarrel 29 = .ok (.iconst 5, 1) := by decide +kernel
theorem dX8_quarrel_30 : decode cX8_quarrel 30 = .ok (.iload_n 1, 1) := by decide +kernel
theorem dX8_quarrel_31 : decode cX8_quarrel 31 = .ok (.imul, 1) := by decide +kernel
theorem dX8_quarrel_32 : decode cX8_quarrel 32 = .ok (.iadd, 1) := by decide +kernel
theorem dX8_quarrel_33 : decode cX8_quarrel 33 = .ok (.istore_n 3, 1) := by decide +kernel
theorem dX8_quarrel_34 : decode cX8_quarrel 34 = .ok (.sipush 200, 3) := by decide +kernel
theorem dX8_quarrel_37 : decode cX8_quarrel 37 = .ok (.iconst 5, 1) := by decide +kernel
theorem dX8_quarrel_38 : decode cX8_quarrel 38 = .ok (.iload_n 2, 1) := by decide +kernel
theorem dX8_quarrel_39 : decode cX8_quarrel 39 = .ok (.imul, 1) := by decide +kernel
theorem dX8_quarrel_40 : decode cX8_quarrel 40 = .ok (.iadd, 1) := by decide +kernel
theorem dX8_quarrel_41 : decode cX8_quarrel 41 = .ok (.istore 4, 2) := by decide +kernel
theorem dX8_quarrel_43 : decode cX8_quarrel 43 = .ok (.aload_n 0, 1) := by decide +kernel
theorem dX8_quarrel_44 : decode cX8_quarrel 44 = .ok (.getfield 53, 3) := by decide +kernel
theorem dX8_quarrel_47 : decode cX8_quarrel 47 = .ok (.iload_n 3, 1) := by decide +kernel
theorem dX8_quarrel_48 : decode cX8_quarrel 48 = .ok (.iaload, 1) := by decide +kernel
theorem dX8_quarrel_49 : decode cX8_quarrel 49 = .ok (.bipush 110, 2) := by decide +kernel
theorem dX8_quarrel_51 : decode cX8_quarrel 51 = .ok (.if_icmp .eq 63, 3) := by decide +kernel
theorem dX8_quarrel_54 : decode cX8_quarrel 54 = .ok (.aload_n 0, 1) := by decide +kernel
theorem dX8_quarrel_55 : decode cX8_quarrel 55 = .ok (.getfield 53, 3) := by decide +kernel
theorem dX8_quarrel_58 : decode cX8_quarrel 58 = .ok (.iload_n 3, 1) := by decide +kernel
theorem dX8_quarrel_59 : decode cX8_quarrel 59 = .ok (.iaload, 1) := by decide +kernel
theorem dX8_quarrel_60 : decode cX8_quarrel 60 = .ok (.aload_n 0, 1) := by decide +kernel
theorem dX8_quarrel_61 : decode cX8_quarrel 61 = .ok (.getfield 53, 3) := by decide +kernel
theorem dX8_quarrel_64 : decode cX8_quarrel 64 = .ok (.iload 4, 2) := by decide +kernel
theorem dX8_quarrel_66 : decode cX8_quarrel 66 = .ok (.iaload, 1) := by decide +kernel
theorem dX8_quarrel_67 : decode cX8_quarrel 67 = .ok (.if_icmp .ne 47, 3) := by decide +kernel
theorem dX8_quarrel_70 : decode cX8_quarrel 70 = .ok (.aload_n 0, 1) := by decide +kernel
theorem dX8_quarrel_71 : decode cX8_quarrel 71 = .ok (.getfield 53, 3) := by decide +kernel
theorem dX8_quarrel_74 : decode cX8_quarrel 74 = .ok (.iload_n 3, 1) := by decide +kernel
theorem dX8_quarrel_75 : decode cX8_quarrel 75 = .ok (.iconst 1, 1) := by decide +kernel
theorem dX8_quarrel_76 : decode cX8_quarrel 76 = .ok (.iadd, 1) := by decide +kernel
theorem dX8_quarrel_77 : decode cX8_quarrel 77 = .ok (.iaload, 1) := by decide +kernel
theorem dX8_quarrel_78 : decode cX8_quarrel 78 = .ok (.aload_n 0, 1) := by decide +kernel
theorem dX8_quarrel_79 : decode cX8_quarrel 79 = .ok (.getfield 53, 3) := by decide +kernel
theorem dX8_quarrel_82 : decode cX8_quarrel 82 = .ok (.iload 4, 2) := by decide +kernel
theorem dX8_quarrel_84 : decode cX8_quarrel 84 = .ok (.iconst 1, 1) := by decide +kernel
theorem dX8_quarrel_85 : decode cX8_quarrel 85 = .ok (.iadd, 1) := by decide +kernel
theorem dX8_quarrel_86 : decode cX8_quarrel 86 = .ok (.iaload, 1) := by decide +kernel
theorem dX8_quarrel_87 : decode cX8_quarrel 87 = .ok (.if_icmp .ne 27, 3) := by decide +kernel
theorem dX8_quarrel_90 : decode cX8_quarrel 90 = .ok (.aload_n 0, 1) := by decide +kernel
theorem dX8_quarrel_91 : decode cX8_quarrel 91 = .ok (.getfield 53, 3) := by decide +kernel
theorem dX8_quarrel_94 : decode cX8_quarrel 94 = .ok (.iload_n 3, 1) := by decide +kernel
theorem dX8_quarrel_95 : decode cX8_quarrel 95 = .ok (.iconst 3, 1) := by decide +kernel
theorem dX8_quarrel_96 : decode cX8_quarrel 96 = .ok (.iadd, 1) := by decide +kernel
theorem dX8_quarrel_97 : decode cX8_quarrel 97 = .ok (.iaload, 1) := by decide +kernel
theorem dX8_quarrel_98 : decode cX8_quarrel 98 = .ok (.aload_n 0, 1) := by decide +kernel
theorem dX8_quarrel_99 : decode cX8_quarrel 99 = .ok (.getfield 53, 3) := by decide +kernel
theorem dX8_quarrel_102 : decode cX8_quarrel 102 = .ok (.iload 4, 2) := by decide +kernel
theorem dX8_quarrel_104 : decode cX8_quarrel 104 = .ok (.iconst 3, 1) := by decide +kernel
theorem dX8_quarrel_105 : decode cX8_quarrel 105 = .ok (.iadd, 1) := by decide +kernel
theorem dX8_quarrel_106 : decode cX8_quarrel 106 = .ok (.iaload, 1) := by decide +kernel
theorem dX8_quarrel_107 : decode cX8_quarrel 107 = .ok (.if_icmp .ne 7, 3) := by decide +kernel
theorem dX8_quarrel_110 : decode cX8_quarrel 110 = .ok (.iconst 1, 1) := by decide +kernel
theorem dX8_quarrel_111 : decode cX8_quarrel 111 = .ok (.goto 4, 3) := by decide +kernel
theorem dX8_quarrel_114 : decode cX8_quarrel 114 = .ok (.iconst 0, 1) := by decide +kernel
theorem dX8_quarrel_115 : decode cX8_quarrel 115 = .ok (.istore 5, 2) := by decide +kernel
theorem dX8_quarrel_117 : decode cX8_quarrel 117 = .ok (.iload 5, 2) := by decide +kernel
theorem dX8_quarrel_119 : decode cX8_quarrel 119 = .ok (.ifCond .eq 30, 3) := by decide +kernel
theorem dX8_quarrel_122 : decode cX8_quarrel 122 = .ok (.aload_n 0, 1) := by decide +kernel
theorem dX8_quarrel_123 : decode cX8_quarrel 123 = .ok (.getfield 53, 3) := by decide +kernel
theorem dX8_quarrel_126 : decode cX8_quarrel 126 = .ok (.iload_n 3, 1) := by decide +kernel
theorem dX8_quarrel_127 : decode cX8_quarrel 127 = .ok (.iconst 2, 1) := by decide +kernel
theorem dX8_quarrel_128 : decode cX8_quarrel 128 = .ok (.iadd, 1) := by decide +kernel
theorem dX8_quarrel_129 : decode cX8_quarrel 129 = .ok (.iaload, 1) := by decide +kernel
theorem dX8_quarrel_130 : decode cX8_quarrel 130 = .ok (.aload_n 0, 1) := by decide +kernel
theorem dX8_quarrel_131 : decode cX8_quarrel 131 = .ok (.getfield 53, 3) := by decide +kernel
theorem dX8_quarrel_134 : decode cX8_quarrel 134 = .ok (.iload 4, 2) := by decide +kernel
theorem dX8_quarrel_136 : decode cX8_quarrel 136 = .ok (.iconst 2, 1) := by decide +kernel
theorem dX8_quarrel_137 : decode cX8_quarrel 137 = .ok (.iadd, 1) := by decide +kernel
theorem dX8_quarrel_138 : decode cX8_quarrel 138 = .ok (.iaload, 1) := by decide +kernel
theorem dX8_quarrel_139 : decode cX8_quarrel 139 = .ok (.if_icmp .eq 10, 3) := by decide +kernel
theorem dX8_quarrel_142 : decode cX8_quarrel 142 = .ok (.bipush 100, 2) := by decide +kernel
theorem dX8_quarrel_144 : decode cX8_quarrel 144 = .ok (.iload_n 1, 1) := by decide +kernel
theorem dX8_quarrel_145 : decode cX8_quarrel 145 = .ok (.imul, 1) := by decide +kernel
theorem dX8_quarrel_146 : decode cX8_quarrel 146 = .ok (.iload_n 2, 1) := by decide +kernel
theorem dX8_quarrel_147 : decode cX8_quarrel 147 = .ok (.iadd, 1) := by decide +kernel
theorem dX8_quarrel_148 : decode cX8_quarrel 148 = .ok (.ireturn, 1) := by decide +kernel
theorem dX8_quarrel_149 : decode cX8_quarrel 149 = .ok (.iinc 2 1, 3) := by decide +kernel
theorem dX8_quarrel_152 : decode cX8_quarrel 152 = .ok (.goto (-136), 3) := by decide +kernel
theorem dX8_quarrel_155 : decode cX8_quarrel 155 = .ok (.iinc 1 1, 3) := by decide +kernel
theorem dX8_quarrel_158 : decode cX8_quarrel 158 = .ok (.goto (-156), 3) := by decide +kernel
theorem dX8_quarrel_161 : decode cX8_quarrel 161 = .ok (.bipush (-4), 2) := by decide +kernel
theorem dX8_quarrel_163 : decode cX8_quarrel 163 = .ok (.ireturn, 1) := by decide +kernel
theorem dX8_closet_0 : decode cX8_closet 0 = .ok (.iload_n 1, 1) := by decide +kernel
theorem dX8_closet_1 : decode cX8_closet 1 = .ok (.invokestatic 87, 3) := by decide +kernel
theorem dX8_closet_4 : decode cX8_closet 4 = .ok (.ifCond .ne 5, 3) := by decide +kernel
theorem dX8_closet_7 : decode cX8_closet 7 = .ok (.iconst (-1), 1) := by decide +kernel
theorem dX8_closet_8 : decode cX8_closet 8 = .ok (.ireturn, 1) := by decide +kernel
theorem dX8_closet_9 : decode cX8_closet 9 = .ok (.aload_n 0, 1) := by decide +kernel
theorem dX8_closet_10 : decode cX8_closet 10 = .ok (.getfield 205, 3) := by decide +kernel
theorem dX8_closet_13 : decode cX8_closet 13 = .ok (.istore_n 2, 1) := by decide +kernel
theorem dX8_closet_14 : decode cX8_closet 14 = .ok (.aload_n 0, 1) := by decide +kernel
theorem dX8_closet_15 : decode cX8_closet 15 = .ok (.iload_n 1, 1) := by decide +kernel
theorem dX8_closet_16 : decode cX8_closet 16 = .ok (.putfield 205, 3) := by decide +kernel
theorem dX8_closet_19 : decode cX8_closet 19 = .ok (.iload_n 2, 1) := by decide +kernel
theorem dX8_closet_20 : decode cX8_closet 20 = .ok (.ireturn, 1) := by decide +kernel
theorem dX8_cameOf_0 : decode cX8_cameOf 0 = .ok (.aload_n 0, 1) := by decide +kernel
theorem dX8_cameOf_1 : decode cX8_cameOf 1 = .ok (.getfield 34, 3) := by decide +kernel
theorem dX8_cameOf_4 : decode cX8_cameOf 4 = .ok (.bipush 6, 2) := by decide +kernel
theorem dX8_cameOf_6 : decode cX8_cameOf 6 = .ok (.iload_n 1, 1) := by decide +kernel
theorem dX8_cameOf_7 : decode cX8_cameOf 7 = .ok (.imul, 1) := by decide +kernel
theorem dX8_cameOf_8 : decode cX8_cameOf 8 = .ok (.iaload, 1) := by decide +kernel
theorem dX8_cameOf_9 : decode cX8_cameOf 9 = .ok (.istore_n 2, 1) := by decide +kernel
theorem dX8_cameOf_10 : decode cX8_cameOf 10 = .ok (.aload_n 0, 1) := by decide +kernel
theorem dX8_cameOf_11 : decode cX8_cameOf 11 = .ok (.getfield 16, 3) := by decide +kernel
theorem dX8_cameOf_14 : decode cX8_cameOf 14 = .ok (.bipush 6, 2) := by decide +kernel
theorem dX8_cameOf_16 : decode cX8_cameOf 16 = .ok (.aload_n 0, 1) := by decide +kernel
theorem dX8_cameOf_17 : decode cX8_cameOf 17 = .ok (.getfield 22, 3) := by decide +kernel
theorem dX8_cameOf_20 : decode cX8_cameOf 20 = .ok (.iconst 3, 1) := by decide +kernel
theorem dX8_cameOf_21 : decode cX8_cameOf 21 = .ok (.iload_n 2, 1) := by decide +kernel
theorem dX8_cameOf_22 : decode cX8_cameOf 22 = .ok (.imul, 1) := by decide +kernel
theorem dX8_cameOf_23 : decode cX8_cameOf 23 = .ok (.iaload, 1) := by decide +kernel
theorem dX8_cameOf_24 : decode cX8_cameOf 24 = .ok (.imul, 1) := by decide +kernel
theorem dX8_cameOf_25 : decode cX8_cameOf 25 = .ok (.aload_n 0, 1) := by decide +kernel
theorem dX8_cameOf_26 : decode cX8_cameOf 26 = .ok (.getfield 205, 3) := by decide +kernel
theorem dX8_cameOf_29 : decode cX8_cameOf 29 = .ok (.iadd, 1) := by decide +kernel
theorem dX8_cameOf_30 : decode cX8_cameOf 30 = .ok (.iaload, 1) := by decide +kernel
theorem dX8_cameOf_31 : decode cX8_cameOf 31 = .ok (.istore_n 3, 1) := by decide +kernel
theorem dX8_cameOf_32 : decode cX8_cameOf 32 = .ok (.iload_n 3, 1) := by decide +kernel
theorem dX8_cameOf_33 : decode cX8_cameOf 33 = .ok (.ifCond .ge 8, 3) := by decide +kernel
theorem dX8_cameOf_36 : decode cX8_cameOf 36 = .ok (.bipush (-4), 2) := by decide +kernel
theorem dX8_cameOf_38 : decode cX8_cameOf 38 = .ok (.goto 11, 3) := by decide +kernel
theorem dX8_cameOf_41 : decode cX8_cameOf 41 = .ok (.aload_n 0, 1) := by decide +kernel
theorem dX8_cameOf_42 : decode cX8_cameOf 42 = .ok (.getfield 62, 3) := by decide +kernel
theorem dX8_cameOf_45 : decode cX8_cameOf 45 = .ok (.iload_n 2, 1) := by decide +kernel
theorem dX8_cameOf_46 : decode cX8_cameOf 46 = .ok (.iaload, 1) := by decide +kernel
theorem dX8_cameOf_47 : decode cX8_cameOf 47 = .ok (.iload_n 3, 1) := by decide +kernel
theorem dX8_cameOf_48 : decode cX8_cameOf 48 = .ok (.iadd, 1) := by decide +kernel
theorem dX8_cameOf_49 : decode cX8_cameOf 49 = .ok (.ireturn, 1) := by decide +kernel
theorem dX8_came_0 : decode cX8_came 0 = .ok (.aload_n 0, 1) := by decide +kernel
theorem dX8_came_1 : decode cX8_came 1 = .ok (.iload_n 1, 1) := by decide +kernel
theorem dX8_came_2 : decode cX8_came 2 = .ok (.invokevirtual 133, 3) := by decide +kernel
theorem dX8_came_5 : decode cX8_came 5 = .ok (.ifCond .ne 5, 3) := by decide +kernel
theorem dX8_came_8 : decode cX8_came 8 = .ok (.iconst (-1), 1) := by decide +kernel
theorem dX8_came_9 : decode cX8_came 9 = .ok (.ireturn, 1) := by decide +kernel
theorem dX8_came_10 : decode cX8_came 10 = .ok (.aload_n 0, 1) := by decide +kernel
theorem dX8_came_11 : decode cX8_came 11 = .ok (.invokevirtual 126, 3) := by decide +kernel
theorem dX8_came_14 : decode cX8_came 14 = .ok (.ifCond .eq 11, 3) := by decide +kernel
theorem dX8_came_17 : decode cX8_came 17 = .ok (.aload_n 0, 1) := by decide +kernel
theorem dX8_came_18 : decode cX8_came 18 = .ok (.iload_n 1, 1) := by decide +kernel
theorem dX8_came_19 : decode cX8_came 19 = .ok (.invokevirtual 208, 3) := by decide +kernel
theorem dX8_came_22 : decode cX8_came 22 = .ok (.goto 5, 3) := by decide +kernel
theorem dX8_came_25 : decode cX8_came 25 = .ok (.bipush (-2), 2) := by decide +kernel
theorem dX8_came_27 : decode cX8_came 27 = .ok (.ireturn, 1) := by decide +kernel
theorem dX8_isHeard_0 : decode cX8_isHeard 0 = .ok (.aload_n 0, 1) := by decide +kernel
theorem dX8_isHeard_1 : decode cX8_isHeard 1 = .ok (.iconst 2, 1) := by decide +kernel
theorem dX8_isHeard_2 : decode cX8_isHeard 2 = .ok (.iconst 0, 1) := by decide +kernel
theorem dX8_isHeard_3 : decode cX8_isHeard 3 = .ok (.iload_n 2, 1) := by decide +kernel
theorem dX8_isHeard_4 : decode cX8_isHeard 4 = .ok (.invokevirtual 202, 3) := by decide +kernel
theorem dX8_isHeard_7 : decode cX8_isHeard 7 = .ok (.istore_n 3, 1) := by decide +kernel
theorem dX8_isHeard_8 : decode cX8_isHeard 8 = .ok (.iconst 0, 1) := by decide +kernel
theorem dX8_isHeard_9 : decode cX8_isHeard 9 = .ok (.istore 4, 2) := by decide +kernel
theorem dX8_isHeard_11 : decode cX8_isHeard 11 = .ok (.iconst 0, 1) := by decide +kernel
theorem dX8_isHeard_12 : decode cX8_isHeard 12 = .ok (.istore 5, 2) := by decide +kernel
theorem dX8_isHeard_14 : decode cX8_isHeard 14 = .ok (.iload 5, 2) := by decide +kernel
theorem dX8_isHeard_16 : decode cX8_isHeard 16 = .ok (.aload_n 0, 1) := by decide +kernel
theorem dX8_isHeard_17 : decode cX8_isHeard 17 = .ok (.getfield 31, 3) := by decide +kernel
theorem dX8_isHeard_20 : decode cX8_isHeard 20 = .ok (.iconst 0, 1) := by decide +kernel
theorem dX8_isHeard_21 : decode cX8_isHeard 21 = .ok (.iaload, 1) := by decide +kernel
theorem dX8_isHeard_22 : decode cX8_isHeard 22 = .ok (.if_icmp .ge 71, 3) := by decide +kernel
theorem dX8_isHeard_25 : decode cX8_isHeard 25 = .ok (.aload_n 0, 1) := by decide +kernel
theorem dX8_isHeard_26 : decode cX8_isHeard 26 = .ok (.iload 5, 2) := by decide +kernel
theorem dX8_isHeard_28 : decode cX8_isHeard 28 = .ok (.invokevirtual 208, 3) := by decide +kernel
theorem dX8_isHeard_31 : decode cX8_isHeard 31 = .ok (.istore 6, 2) := by decide +kernel
theorem dX8_isHeard_33 : decode cX8_isHeard 33 = .ok (.iload 4, 2) := by decide +kernel
theorem dX8_isHeard_35 : decode cX8_isHeard 35 = .ok (.ifCond .ne 45, 3) := by decide +kernel
theorem dX8_isHeard_38 : decode cX8_isHeard 38 = .ok (.aload_n 0, 1) := by decide +kernel
theorem dX8_isHeard_39 : decode cX8_isHeard 39 = .ok (.iload 5, 2) := by decide +kernel
theorem dX8_isHeard_41 : decode cX8_isHeard 41 = .ok (.invokevirtual 149, 3) := by decide +kernel
theorem dX8_isHeard_44 : decode cX8_isHeard 44 = .ok (.iload_n 1, 1) := by decide +kernel
theorem dX8_isHeard_45 : decode cX8_isHeard 45 = .ok (.if_icmp .ne 39, 3) := by decide +kernel
theorem dX8_isHeard_48 : decode cX8_isHeard 48 = .ok (.iload 6, 2) := by decide +kernel
theorem dX8_isHeard_50 : decode cX8_isHeard 50 = .ok (.ifCond .lt 34, 3) := by decide +kernel
theorem dX8_isHeard_53 : decode cX8_isHeard 53 = .ok (.iload 6, 2) := by decide +kernel
theorem dX8_isHeard_55 : decode cX8_isHeard 55 = .ok (.iload_n 2, 1) := by decide +kernel
theorem dX8_isHeard_56 : decode cX8_isHeard 56 = .ok (.if_icmp .gt 28, 3) := by decide +kernel
theorem dX8_isHeard_59 : decode cX8_isHeard 59 = .ok (.iload_n 2, 1) := by decide +kernel
theorem dX8_isHeard_60 : decode cX8_isHeard 60 = .ok (.aload_n 0, 1) := by decide +kernel
theorem dX8_isHeard_61 : decode cX8_isHeard 61 = .ok (.getfield 62, 3) := by decide +kernel
theorem dX8_isHeard_64 : decode cX8_isHeard 64 = .ok (.aload_n 0, 1) := by decide +kernel
theorem dX8_isHeard_65 : decode cX8_isHeard 65 = .ok (.getfield 34, 3) := by decide +kernel
theorem dX8_isHeard_68 : decode cX8_isHeard 68 = .ok (.bipush 6, 2) := by decide +kernel
theorem dX8_isHeard_70 : decode cX8_isHeard 70 = .ok (.iload 5, 2) := by decide +kernel
theorem dX8_isHeard_72 : decode cX8_isHeard 72 = .ok (.imul, 1) := by decide +kernel
theorem dX8_isHeard_73 : decode cX8_isHeard 73 = .ok (.iaload, 1) := by decide +kernel
theorem dX8_isHeard_74 : decode cX8_isHeard 74 = .ok (.iaload, 1) := by decide +kernel
theorem dX8_isHeard_75 : decode cX8_isHeard 75 = .ok (.isub, 1) := by decide +kernel
theorem dX8_isHeard_76 : decode cX8_isHeard 76 = .ok (.iload_n 3, 1) := by decide +kernel
theorem dX8_isHeard_77 : decode cX8_isHeard 77 = .ok (.if_icmp .gt 7, 3) := by decide +kernel
theorem dX8_isHeard_80 : decode cX8_isHeard 80 = .ok (.iconst 1, 1) := by decide +kernel
theorem dX8_isHeard_81 : decode cX8_isHeard 81 = .ok (.goto 4, 3) := by decide +kernel
theorem dX8_isHeard_84 : decode cX8_isHeard 84 = .ok (.iconst 0, 1) := by decide +kernel
theorem dX8_isHeard_85 : decode cX8_isHeard 85 = .ok (.istore 4, 2) := by decide +kernel
theorem dX8_isHeard_87 : decode cX8_isHeard 87 = .ok (.iinc 5 1, 3) := by decide +kernel
theorem dX8_isHeard_90 : decode cX8_isHeard 90 = .ok (.goto (-76), 3) := by decide +kernel
theorem dX8_isHeard_93 : decode cX8_isHeard 93 = .ok (.iload 4, 2) := by decide +kernel
theorem dX8_isHeard_95 : decode cX8_isHeard 95 = .ok (.ireturn, 1) := by decide +kernel
theorem dX8_belief_0 : decode cX8_belief 0 = .ok (.iload_n 1, 1) := by decide +kernel
theorem dX8_belief_1 : decode cX8_belief 1 = .ok (.invokestatic 104, 3) := by decide +kernel
theorem dX8_belief_4 : decode cX8_belief 4 = .ok (.ifCond .eq 20, 3) := by decide +kernel
theorem dX8_belief_7 : decode cX8_belief 7 = .ok (.iload_n 2, 1) := by decide +kernel
theorem dX8_belief_8 : decode cX8_belief 8 = .ok (.invokestatic 107, 3) := by decide +kernel
theorem dX8_belief_11 : decode cX8_belief 11 = .ok (.ifCond .eq 13, 3) := by decide +kernel
theorem dX8_belief_14 : decode cX8_belief 14 = .ok (.iload_n 3, 1) := by decide +kernel
theorem dX8_belief_15 : decode cX8_belief 15 = .ok (.i2l, 1) := by decide +kernel
theorem dX8_belief_16 : decode cX8_belief 16 = .ok (.lconst 0, 1) := by decide +kernel
theorem dX8_belief_17 : decode cX8_belief 17 = .ok (.lconst 1, 1) := by decide +kernel
theorem dX8_belief_18 : decode cX8_belief 18 = .ok (.invokestatic 79, 3) := by decide +kernel
theorem dX8_belief_21 : decode cX8_belief 21 = .ok (.ifCond .ne 6, 3) := by decide +kernel
theorem dX8_belief_24 : decode cX8_belief 24 = .ok (.ldc 158, 2) := by decide +kernel
theorem dX8_belief_26 : decode cX8_belief 26 = .ok (.ireturn, 1) := by decide +kernel
theorem dX8_belief_27 : decode cX8_belief 27 = .ok (.aload_n 0, 1) := by decide +kernel
theorem dX8_belief_28 : decode cX8_belief 28 = .ok (.invokevirtual 144, 3) := by decide +kernel
theorem dX8_belief_31 : decode cX8_belief 31 = .ok (.ifCond .ne 6, 3) := by decide +kernel
theorem dX8_belief_34 : decode cX8_belief 34 = .ok (.ldc 159, 2) := by decide +kernel
theorem dX8_belief_36 : decode cX8_belief 36 = .ok (.ireturn, 1) := by decide +kernel
theorem dX8_belief_37 : decode cX8_belief 37 = .ok (.iconst 0, 1) := by decide +kernel
theorem dX8_belief_38 : decode cX8_belief 38 = .ok (.istore 4, 2) := by decide +kernel
theorem dX8_belief_40 : decode cX8_belief 40 = .ok (.iconst 0, 1) := by decide +kernel
theorem dX8_belief_41 : decode cX8_belief 41 = .ok (.istore 5, 2) := by decide +kernel
theorem dX8_belief_43 : decode cX8_belief 43 = .ok (.iload 5, 2) := by decide +kernel
theorem dX8_belief_45 : decode cX8_belief 45 = .ok (.aload_n 0, 1) := by decide +kernel
theorem dX8_belief_46 : decode cX8_belief 46 = .ok (.getfield 31, 3) := by decide +kernel
theorem dX8_belief_49 : decode cX8_belief 49 = .ok (.iconst 0, 1) := by decide +kernel
theorem dX8_belief_50 : decode cX8_belief 50 = .ok (.iaload, 1) := by decide +kernel
theorem dX8_belief_51 : decode cX8_belief 51 = .ok (.if_icmp .ge 120, 3) := by decide +kernel
theorem dX8_belief_54 : decode cX8_belief 54 = .ok (.aload_n 0, 1) := by decide +kernel
theorem dX8_belief_55 : decode cX8_belief 55 = .ok (.getfield 68, 3) := by decide +kernel
theorem dX8_belief_58 : decode cX8_belief 58 = .ok (.iload 5, 2) := by decide +kernel
theorem dX8_belief_60 : decode cX8_belief 60 = .ok (.iaload, 1) := by decide +kernel
theorem dX8_belief_61 : decode cX8_belief 61 = .ok (.ifCond .ge 104, 3) := by decide +kernel
theorem dX8_belief_64 : decode cX8_belief 64 = .ok (.aload_n 0, 1) := by decide +kernel
theorem dX8_belief_65 : decode cX8_belief 65 = .ok (.getfield 34, 3) := by decide +kernel
theorem dX8_belief_68 : decode cX8_belief 68 = .ok (.bipush 6, 2) := by decide +kernel
theorem dX8_belief_70 : decode cX8_belief 70 = .ok (.iload 5, 2) := by decide +kernel
theorem dX8_belief_72 : decode cX8_belief 72 = .ok (.imul, 1) := by decide +kernel
theorem dX8_belief_73 : decode cX8_belief 73 = .ok (.iconst 1, 1) := by decide +kernel
theorem dX8_belief_74 : decode cX8_belief 74 = .ok (.iadd, 1) := by decide +kernel
theorem dX8_belief_75 : decode cX8_belief 75 = .ok (.iaload, 1) := by decide +kernel
theorem dX8_belief_76 : decode cX8_belief 76 = .ok (.iload_n 1, 1) := by decide +kernel
theorem dX8_belief_77 : decode cX8_belief 77 = .ok (.if_icmp .ne 88, 3) := by decide +kernel
theorem dX8_belief_80 : decode cX8_belief 80 = .ok (.aload_n 0, 1) := by decide +kernel
theorem dX8_belief_81 : decode cX8_belief 81 = .ok (.iload 5, 2) := by decide +kernel
theorem dX8_belief_83 : decode cX8_belief 83 = .ok (.iload_n 2, 1) := by decide +kernel
theorem dX8_belief_84 : decode cX8_belief 84 = .ok (.invokevirtual 211, 3) := by decide +kernel
theorem dX8_belief_87 : decode cX8_belief 87 = .ok (.ifCond .eq 78, 3) := by decide +kernel
theorem dX8_belief_90 : decode cX8_belief 90 = .ok (.aload_n 0, 1) := by decide +kernel
theorem dX8_belief_91 : decode cX8_belief 91 = .ok (.iconst 0, 1) := by decide +kernel
theorem dX8_belief_92 : decode cX8_belief 92 = .ok (.aload_n 0, 1) := by decide +kernel
theorem dX8_belief_93 : decode cX8_belief 93 = .ok (.getfield 22, 3) := by decide +kernel
theorem dX8_belief_96 : decode cX8_belief 96 = .ok (.iconst 3, 1) := by decide +kernel
theorem dX8_belief_97 : decode cX8_belief 97 = .ok (.aload_n 0, 1) := by decide +kernel
theorem dX8_belief_98 : decode cX8_belief 98 = .ok (.getfield 34, 3) := by decide +kernel
theorem dX8_belief_101 : decode cX8_belief 101 = .ok (.bipush 6, 2) := by decide +kernel
theorem dX8_belief_103 : decode cX8_belief 103 = .ok (.iload 5, 2) := by decide +kernel
theorem dX8_belief_105 : decode cX8_belief 105 = .ok (.imul, 1) := by decide +kernel
theorem dX8_belief_106 : decode cX8_belief 106 = .ok (.iaload, 1) := by decide +kernel
theorem dX8_belief_107 : decode cX8_belief 107 = .ok (.imul, 1) := by decide +kernel
theorem dX8_belief_108 : decode cX8_belief 108 = .ok (.iaload, 1) := by decide +kernel
theorem dX8_belief_109 : decode cX8_belief 109 = .ok (.iload_n 2, 1) := by decide +kernel
theorem dX8_belief_110 : decode cX8_belief 110 = .ok (.invokevirtual 202, 3) := by decide +kernel
theorem dX8_belief_113 : decode cX8_belief 113 = .ok (.aload_n 0, 1) := by decide +kernel
theorem dX8_belief_114 : decode cX8_belief 114 = .ok (.iconst 1, 1) := by decide +kernel
theorem dX8_belief_115 : decode cX8_belief 115 = .ok (.aload_n 0, 1) := by decide +kernel
theorem dX8_belief_116 : decode cX8_belief 116 = .ok (.iload 5, 2) := by decide +kernel
theorem dX8_belief_118 : decode cX8_belief 118 = .ok (.invokevirtual 160, 3) := by decide +kernel
theorem dX8_belief_121 : decode cX8_belief 121 = .ok (.iload_n 2, 1) := by decide +kernel
theorem dX8_belief_122 : decode cX8_belief 122 = .ok (.invokevirtual 202, 3) := by decide +kernel
theorem dX8_belief_125 : decode cX8_belief 125 = .ok (.iadd, 1) := by decide +kernel
theorem dX8_belief_126 : decode cX8_belief 126 = .ok (.istore 6, 2) := by decide +kernel
theorem dX8_belief_128 : decode cX8_belief 128 = .ok (.iload 4, 2) := by decide +kernel
theorem dX8_belief_130 : decode cX8_belief 130 = .ok (.aload_n 0, 1) := by decide +kernel
theorem dX8_belief_131 : decode cX8_belief 131 = .ok (.getfield 34, 3) := by decide +kernel
theorem dX8_belief_134 : decode cX8_belief 134 = .ok (.bipush 6, 2) := by decide +kernel
theorem dX8_belief_136 : decode cX8_belief 136 = .ok (.iload 5, 2) := by decide +kernel
theorem dX8_belief_138 : decode cX8_belief 138 = .ok (.imul, 1) := by decide +kernel
theorem dX8_belief_139 : decode cX8_belief 139 = .ok (.iconst 5, 1) := by decide +kernel
theorem dX8_belief_140 : decode cX8_belief 140 = .ok (.iadd, 1) := by decide +kernel
theorem dX8_belief_141 : decode cX8_belief 141 = .ok (.iaload, 1) := by decide +kernel
theorem dX8_belief_142 : decode cX8_belief 142 = .ok (.iconst 1, 1) := by decide +kernel
theorem dX8_belief_143 : decode cX8_belief 143 = .ok (.if_icmp .ne 17, 3) := by decide +kernel
theorem dX8_belief_146 : decode cX8_belief 146 = .ok (.iload 6, 2) := by decide +kernel
theorem dX8_belief_148 : decode cX8_belief 148 = .ok (.ineg, 1) := by decide +kernel
theorem dX8_belief_149 : decode cX8_belief 149 = .ok (.aload_n 0, 1) := by decide +kernel
theorem dX8_belief_150 : decode cX8_belief 150 = .ok (.iconst 4, 1) := by decide +kernel
theorem dX8_belief_151 : decode cX8_belief 151 = .ok (.iconst 0, 1) := by decide +kernel
theorem dX8_belief_152 : decode cX8_belief 152 = .ok (.iload_n 2, 1) := by decide +kernel
theorem dX8_belief_153 : decode cX8_belief 153 = .ok (.invokevirtual 202, 3) := by decide +kernel
theorem dX8_belief_156 : decode cX8_belief 156 = .ok (.imul, 1) := by decide +kernel
theorem dX8_belief_157 : decode cX8_belief 157 = .ok (.goto 5, 3) := by decide +kernel
theorem dX8_belief_160 : decode cX8_belief 160 = .ok (.iload 6, 2) := by decide +kernel
theorem dX8_belief_162 : decode cX8_belief 162 = .ok (.iadd, 1) := by decide +kernel
theorem dX8_belief_163 : decode cX8_belief 163 = .ok (.istore 4, 2) := by decide +kernel
theorem dX8_belief_165 : decode cX8_belief 165 = .ok (.iinc 5 1, 3) := by decide +kernel
theorem dX8_belief_168 : decode cX8_belief 168 = .ok (.goto (-125), 3) := by decide +kernel
theorem dX8_belief_171 : decode cX8_belief 171 = .ok (.iload_n 3, 1) := by decide +kernel
theorem dX8_belief_172 : decode cX8_belief 172 = .ok (.ifCond .ne 8, 3) := by decide +kernel
theorem dX8_belief_175 : decode cX8_belief 175 = .ok (.iload 4, 2) := by decide +kernel
theorem dX8_belief_177 : decode cX8_belief 177 = .ok (.goto 20, 3) := by decide +kernel
theorem dX8_belief_180 : decode cX8_belief 180 = .ok (.iload 4, 2) := by decide +kernel
theorem dX8_belief_182 : decode cX8_belief 182 = .ok (.aload_n 0, 1) := by decide +kernel
theorem dX8_belief_183 : decode cX8_belief 183 = .ok (.iconst 3, 1) := by decide +kernel
theorem dX8_belief_184 : decode cX8_belief 184 = .ok (.iconst 0, 1) := by decide +kernel
theorem dX8_belief_185 : decode cX8_belief 185 = .ok (.iload_n 2, 1) := by decide +kernel
theorem dX8_belief_186 : decode cX8_belief 186 = .ok (.invokevirtual 202, 3) := by decide +kernel
theorem dX8_belief_189 : decode cX8_belief 189 = .ok (.if_icmp .lt 7, 3) := by decide +kernel
theorem dX8_belief_192 : decode cX8_belief 192 = .ok (.iconst 1, 1) := by decide +kernel
theorem dX8_belief_193 : decode cX8_belief 193 = .ok (.goto 4, 3) := by decide +kernel
theorem dX8_belief_196 : decode cX8_belief 196 = .ok (.iconst 0, 1) := by decide +kernel
theorem dX8_belief_197 : decode cX8_belief 197 = .ok (.ireturn, 1) := by decide +kernel
theorem dX8_isBanned_0 : decode cX8_isBanned 0 = .ok (.aload_n 0, 1) := by decide +kernel
theorem dX8_isBanned_1 : decode cX8_isBanned 1 = .ok (.getfield 34, 3) := by decide +kernel
theorem dX8_isBanned_4 : decode cX8_isBanned 4 = .ok (.bipush 6, 2) := by decide +kernel
theorem dX8_isBanned_6 : decode cX8_isBanned 6 = .ok (.iload_n 1, 1) := by decide +kernel
theorem dX8_isBanned_7 : decode cX8_isBanned 7 = .ok (.imul, 1) := by decide +kernel
theorem dX8_isBanned_8 : decode cX8_isBanned 8 = .ok (.iaload, 1) := by decide +kernel
theorem dX8_isBanned_9 : decode cX8_isBanned 9 = .ok (.istore_n 2, 1) := by decide +kernel
theorem dX8_isBanned_10 : decode cX8_isBanned 10 = .ok (.iconst 0, 1) := by decide +kernel
theorem dX8_isBanned_11 : decode cX8_isBanned 11 = .ok (.istore_n 3, 1) := by decide +kernel
theorem dX8_isBanned_12 : decode cX8_isBanned 12 = .ok (.iconst 0, 1) := by decide +kernel
theorem dX8_isBanned_13 : decode cX8_isBanned 13 = .ok (.istore 4, 2) := by decide +kernel
theorem dX8_isBanned_15 : decode cX8_isBanned 15 = .ok (.iload 4, 2) := by decide +kernel
theorem dX8_isBanned_17 : decode cX8_isBanned 17 = .ok (.aload_n 0, 1) := by decide +kernel
theorem dX8_isBanned_18 : decode cX8_isBanned 18 = .ok (.getfield 50, 3) := by decide +kernel
theorem dX8_isBanned_21 : decode cX8_isBanned 21 = .ok (.iconst 1, 1) := by decide +kernel
theorem dX8_isBanned_22 : decode cX8_isBanned 22 = .ok (.iaload, 1) := by decide +kernel
theorem dX8_isBanned_23 : decode cX8_isBanned 23 = .ok (.if_icmp .ge 132, 3) := by decide +kernel
theorem dX8_isBanned_26 : decode cX8_isBanned 26 = .ok (.sipush 200, 3) := by decide +kernel
theorem dX8_isBanned_29 : decode cX8_isBanned 29 = .ok (.iconst 5, 1) := by decide +kernel
theorem dX8_isBanned_30 : decode cX8_isBanned 30 = .ok (.iload 4, 2) := by decide +kernel
theorem dX8_isBanned_32 : decode cX8_isBanned 32 = .ok (.imul, 1) := by decide +kernel
theorem dX8_isBanned_33 : decode cX8_isBanned 33 = .ok (.iadd, 1) := by decide +kernel
theorem dX8_isBanned_34 : decode cX8_isBanned 34 = .ok (.istore 5, 2) := by decide +kernel
theorem dX8_isBanned_36 : decode cX8_isBanned 36 = .ok (.aload_n 0, 1) := by decide +kernel
theorem dX8_isBanned_37 : decode cX8_isBanned 37 = .ok (.getfield 53, 3) := by decide +kernel
theorem dX8_isBanned_40 : decode cX8_isBanned 40 = .ok (.iload 5, 2) := by decide +kernel
theorem dX8_isBanned_42 : decode cX8_isBanned 42 = .ok (.iaload, 1) := by decide +kernel
theorem dX8_isBanned_43 : decode cX8_isBanned 43 = .ok (.bipush 110, 2) := by decide +kernel
theorem dX8_isBanned_45 : decode cX8_isBanned 45 = .ok (.if_icmp .ne 50, 3) := by decide +kernel
theorem dX8_isBanned_48 : decode cX8_isBanned 48 = .ok (.aload_n 0, 1) := by decide +kernel
theorem dX8_isBanned_49 : decode cX8_isBanned 49 = .ok (.getfield 53, 3) := by decide +kernel
theorem dX8_isBanned_52 : decode cX8_isBanned 52 = .ok (.iload 5, 2) := by decide +kernel
theorem dX8_isBanned_54 : decode cX8_isBanned 54 = .ok (.iconst 1, 1) := by decide +kernel
theorem dX8_isBanned_55 : decode cX8_isBanned 55 = .ok (.iadd, 1) := by decide +kernel
theorem dX8_isBanned_56 : decode cX8_isBanned 56 = .ok (.iaload, 1) := by decide +kernel
theorem dX8_isBanned_57 : decode cX8_isBanned 57 = .ok (.aload_n 0, 1) := by decide +kernel
theorem dX8_isBanned_58 : decode cX8_isBanned 58 = .ok (.getfield 22, 3) := by decide +kernel
theorem dX8_isBanned_61 : decode cX8_isBanned 61 = .ok (.iconst 3, 1) := by decide +kernel
theorem dX8_isBanned_62 : decode cX8_isBanned 62 = .ok (.iload_n 2, 1) := by decide +kernel
theorem dX8_isBanned_63 : decode cX8_isBanned 63 = .ok (.imul, 1) := by decide +kernel
theorem dX8_isBanned_64 : decode cX8_isBanned 64 = .ok (.iaload, 1) := by decide +kernel
theorem dX8_isBanned_65 : decode cX8_isBanned 65 = .ok (.if_icmp .ne 30, 3) := by decide +kernel
theorem dX8_isBanned_68 : decode cX8_isBanned 68 = .ok (.aload_n 0, 1) := by decide +kernel
theorem dX8_isBanned_69 : decode cX8_isBanned 69 = .ok (.getfield 53, 3) := by decide +kernel
theorem dX8_isBanned_72 : decode cX8_isBanned 72 = .ok (.iload 5, 2) := by decide +kernel
theorem dX8_isBanned_74 : decode cX8_isBanned 74 = .ok (.iconst 2, 1) := by decide +kernel
theorem dX8_isBanned_75 : decode cX8_isBanned 75 = .ok (.iadd, 1) := by decide +kernel
theorem dX8_isBanned_76 : decode cX8_isBanned 76 = .ok (.iaload, 1) := by decide +kernel
theorem dX8_isBanned_77 : decode cX8_isBanned 77 = .ok (.aload_n 0, 1) := by decide +kernel
theorem dX8_isBanned_78 : decode cX8_isBanned 78 = .ok (.getfield 34, 3) := by decide +kernel
theorem dX8_isBanned_81 : decode cX8_isBanned 81 = .ok (.bipush 6, 2) := by decide +kernel
theorem dX8_isBanned_83 : decode cX8_isBanned 83 = .ok (.iload_n 1, 1) := by decide +kernel
theorem dX8_isBanned_84 : decode cX8_isBanned 84 = .ok (.imul, 1) := by decide +kernel
theorem dX8_isBanned_85 : decode cX8_isBanned 85 = .ok (.iconst 1, 1) := by decide +kernel
theorem dX8_isBanned_86 : decode cX8_isBanned 86 = .ok (.iadd, 1) := by decide +kernel
theorem dX8_isBanned_87 : decode cX8_isBanned 87 = .ok (.iaload, 1) := by decide +kernel
theorem dX8_isBanned_88 : decode cX8_isBanned 88 = .ok (.if_icmp .ne 7, 3) := by decide +kernel
theorem dX8_isBanned_91 : decode cX8_isBanned 91 = .ok (.iconst 1, 1) := by decide +kernel
theorem dX8_isBanned_92 : decode cX8_isBanned 92 = .ok (.goto 4, 3) := by decide +kernel
theorem dX8_isBanned_95 : decode cX8_isBanned 95 = .ok (.iconst 0, 1) := by decide +kernel
theorem dX8_isBanned_96 : decode cX8_isBanned 96 = .ok (.istore 6, 2) := by decide +kernel
theorem dX8_isBanned_98 : decode cX8_isBanned 98 = .ok (.iload_n 3, 1) := by decide +kernel
theorem dX8_isBanned_99 : decode cX8_isBanned 99 = .ok (.ifCond .ne 44, 3) := by decide +kernel
theorem dX8_isBanned_102 : decode cX8_isBanned 102 = .ok (.iload 6, 2) := by decide +kernel
theorem dX8_isBanned_104 : decode cX8_isBanned 104 = .ok (.ifCond .eq 43, 3) := by decide +kernel
theorem dX8_isBanned_107 : decode cX8_isBanned 107 = .ok (.aload_n 0, 1) := by decide +kernel
theorem dX8_isBanned_108 : decode cX8_isBanned 108 = .ok (.getfield 53, 3) := by decide +kernel
theorem dX8_isBanned_111 : decode cX8_isBanned 111 = .ok (.iload 5, 2) := by decide +kernel
theorem dX8_isBanned_113 : decode cX8_isBanned 113 = .ok (.iconst 3, 1) := by decide +kernel
theorem dX8_isBanned_114 : decode cX8_isBanned 114 = .ok (.iadd, 1) := by decide +kernel
theorem dX8_isBanned_115 : decode cX8_isBanned 115 = .ok (.iaload, 1) := by decide +kernel
theorem dX8_isBanned_116 : decode cX8_isBanned 116 = .ok (.aload_n 0, 1) := by decide +kernel
theorem dX8_isBanned_117 : decode cX8_isBanned 117 = .ok (.getfield 65, 3) := by decide +kernel
theorem dX8_isBanned_120 : decode cX8_isBanned 120 = .ok (.iload_n 2, 1) := by decide +kernel
theorem dX8_isBanned_121 : decode cX8_isBanned 121 = .ok (.iaload, 1) := by decide +kernel
theorem dX8_isBanned_122 : decode cX8_isBanned 122 = .ok (.if_icmp .gt 25, 3) := by decide +kernel
theorem dX8_isBanned_125 : decode cX8_isBanned 125 = .ok (.aload_n 0, 1) := by decide +kernel
theorem dX8_isBanned_126 : decode cX8_isBanned 126 = .ok (.getfield 53, 3) := by decide +kernel
theorem dX8_isBanned_129 : decode cX8_isBanned 129 = .ok (.iload 5, 2) := by decide +kernel
theorem dX8_isBanned_131 : decode cX8_isBanned 131 = .ok (.iconst 4, 1) := by decide +kernel
theorem dX8_isBanned_132 : decode cX8_isBanned 132 = .ok (.iadd, 1) := by decide +kernel
theorem dX8_isBanned_133 : decode cX8_isBanned 133 = .ok (.iaload, 1) := by decide +kernel
theorem dX8_isBanned_134 : decode cX8_isBanned 134 = .ok (.aload_n 0, 1) := by decide +kernel
theorem dX8_isBanned_135 : decode cX8_isBanned 135 = .ok (.getfield 62, 3) := by decide +kernel
theorem dX8_isBanned_138 : decode cX8_isBanned 138 = .ok (.iload_n 2, 1) := by decide +kernel
theorem dX8_isBanned_139 : decode cX8_isBanned 139 = .ok (.iaload, 1) := by decide +kernel
theorem dX8_isBanned_140 : decode cX8_isBanned 140 = .ok (.if_icmp .lt 7, 3) := by decide +kernel
theorem dX8_isBanned_143 : decode cX8_isBanned 143 = .ok (.iconst 1, 1) := by decide +kernel
theorem dX8_isBanned_144 : decode cX8_isBanned 144 = .ok (.goto 4, 3) := by decide +kernel
theorem dX8_isBanned_147 : decode cX8_isBanned 147 = .ok (.iconst 0, 1) := by decide +kernel
theorem dX8_isBanned_148 : decode cX8_isBanned 148 = .ok (.istore_n 3, 1) := by decide +kernel
theorem dX8_isBanned_149 : decode cX8_isBanned 149 = .ok (.iinc 4 1, 3) := by decide +kernel
theorem dX8_isBanned_152 : decode cX8_isBanned 152 = .ok (.goto (-137), 3) := by decide +kernel
theorem dX8_isBanned_155 : decode cX8_isBanned 155 = .ok (.iload_n 3, 1) := by decide +kernel
theorem dX8_isBanned_156 : decode cX8_isBanned 156 = .ok (.ireturn, 1) := by decide +kernel
theorem dX8_banned_0 : decode cX8_banned 0 = .ok (.iload_n 1, 1) := by decide +kernel
theorem dX8_banned_1 : decode cX8_banned 1 = .ok (.iconst (-1), 1) := by decide +kernel
theorem dX8_banned_2 : decode cX8_banned 2 = .ok (.if_icmp .ge 5, 3) := by decide +kernel
theorem dX8_banned_5 : decode cX8_banned 5 = .ok (.iconst (-1), 1) := by decide +kernel
theorem dX8_banned_6 : decode cX8_banned 6 = .ok (.ireturn, 1) := by decide +kernel
theorem dX8_banned_7 : decode cX8_banned 7 = .ok (.aload_n 0, 1) := by decide +kernel
theorem dX8_banned_8 : decode cX8_banned 8 = .ok (.invokevirtual 126, 3) := by decide +kernel
theorem dX8_banned_11 : decode cX8_banned 11 = .ok (.ifCond .ne 6, 3) := by decide +kernel
theorem dX8_banned_14 : decode cX8_banned 14 = .ok (.bipush (-2), 2) := by decide +kernel
theorem dX8_banned_16 : decode cX8_banned 16 = .ok (.ireturn, 1) := by decide +kernel
theorem dX8_banned_17 : decode cX8_banned 17 = .ok (.iconst 0, 1) := by decide +kernel
theorem dX8_banned_18 : decode cX8_banned 18 = .ok (.istore_n 2, 1) := by decide +kernel
theorem dX8_banned_19 : decode cX8_banned 19 = .ok (.iconst 0, 1) := by decide +kernel
theorem dX8_banned_20 : decode cX8_banned 20 = .ok (.istore_n 3, 1) := by decide +kernel
theorem dX8_banned_21 : decode cX8_banned 21 = .ok (.iload_n 3, 1) := by decide +kernel
theorem dX8_banned_22 : decode cX8_banned 22 = .ok (.aload_n 0, 1) := by decide +kernel
theorem dX8_banned_23 : decode cX8_banned 23 = .ok (.getfield 31, 3) := by decide +kernel
theorem dX8_banned_26 : decode cX8_banned 26 = .ok (.iconst 0, 1) := by decide +kernel
theorem dX8_banned_27 : decode cX8_banned 27 = .ok (.iaload, 1) := by decide +kernel
theorem dX8_banned_28 : decode cX8_banned 28 = .ok (.if_icmp .ge 27, 3) := by decide +kernel
theorem dX8_banned_31 : decode cX8_banned 31 = .ok (.aload_n 0, 1) := by decide +kernel
theorem dX8_banned_32 : decode cX8_banned 32 = .ok (.iload_n 3, 1) := by decide +kernel
theorem dX8_banned_33 : decode cX8_banned 33 = .ok (.invokevirtual 214, 3) := by decide +kernel
theorem dX8_banned_36 : decode cX8_banned 36 = .ok (.ifCond .eq 13, 3) := by decide +kernel
theorem dX8_banned_39 : decode cX8_banned 39 = .ok (.iload_n 2, 1) := by decide +kernel
theorem dX8_banned_40 : decode cX8_banned 40 = .ok (.iload_n 1, 1) := by decide +kernel
theorem dX8_banned_41 : decode cX8_banned 41 = .ok (.if_icmp .ne 5, 3) := by decide +kernel
theorem dX8_banned_44 : decode cX8_banned 44 = .ok (.iload_n 3, 1) := by decide +kernel
theorem dX8_banned_45 : decode cX8_banned 45 = .ok (.ireturn, 1) := by decide +kernel
theorem dX8_banned_46 : decode cX8_banned 46 = .ok (.iinc 2 1, 3) := by decide +kernel
theorem dX8_banned_49 : decode cX8_banned 49 = .ok (.iinc 3 1, 3) := by decide +kernel
theorem dX8_banned_52 : decode cX8_banned 52 = .ok (.goto (-31), 3) := by decide +kernel
theorem dX8_banned_55 : decode cX8_banned 55 = .ok (.iload_n 1, 1) := by decide +kernel
theorem dX8_banned_56 : decode cX8_banned 56 = .ok (.ifCond .ge 7, 3) := by decide +kernel
theorem dX8_banned_59 : decode cX8_banned 59 = .ok (.iload_n 2, 1) := by decide +kernel
theorem dX8_banned_60 : decode cX8_banned 60 = .ok (.goto 5, 3) := by decide +kernel
theorem dX8_banned_63 : decode cX8_banned 63 = .ok (.bipush (-4), 2) := by decide +kernel
theorem dX8_banned_65 : decode cX8_banned 65 = .ok (.ireturn, 1) := by decide +kernel
theorem dX8_truth_0 : decode cX8_truth 0 = .ok (.iload_n 1, 1) := by decide +kernel
theorem dX8_truth_1 : decode cX8_truth 1 = .ok (.invokestatic 104, 3) := by decide +kernel
theorem dX8_truth_4 : decode cX8_truth 4 = .ok (.ifCond .eq 17, 3) := by decide +kernel
theorem dX8_truth_7 : decode cX8_truth 7 = .ok (.iload_n 2, 1) := by decide +kernel
theorem dX8_truth_8 : decode cX8_truth 8 = .ok (.i2l, 1) := by decide +kernel
theorem dX8_truth_9 : decode cX8_truth 9 = .ok (.ldc2_w 95, 3) := by decide +kernel
theorem dX8_truth_12 : decode cX8_truth 12 = .ok (.ldc2_w 129, 3) := by decide +kernel
theorem dX8_truth_15 : decode cX8_truth 15 = .ok (.invokestatic 79, 3) := by decide +kernel
theorem dX8_truth_18 : decode cX8_truth 18 = .ok (.ifCond .ne 6, 3) := by decide +kernel
theorem dX8_truth_21 : decode cX8_truth 21 = .ok (.bipush (-100), 2) := by decide +kernel
theorem dX8_truth_23 : decode cX8_truth 23 = .ok (.ireturn, 1) := by decide +kernel
theorem dX8_truth_24 : decode cX8_truth 24 = .ok (.aload_n 0, 1) := by decide +kernel
theorem dX8_truth_25 : decode cX8_truth 25 = .ok (.getfield 40, 3) := by decide +kernel
theorem dX8_truth_28 : decode cX8_truth 28 = .ok (.iload_n 1, 1) := by decide +kernel
theorem dX8_truth_29 : decode cX8_truth 29 = .ok (.iaload, 1) := by decide +kernel
theorem dX8_truth_30 : decode cX8_truth 30 = .ok (.istore_n 3, 1) := by decide +kernel
theorem dX8_truth_31 : decode cX8_truth 31 = .ok (.aload_n 0, 1) := by decide +kernel
theorem dX8_truth_32 : decode cX8_truth 32 = .ok (.getfield 40, 3) := by decide +kernel
theorem dX8_truth_35 : decode cX8_truth 35 = .ok (.iload_n 1, 1) := by decide +kernel
theorem dX8_truth_36 : decode cX8_truth 36 = .ok (.iload_n 2, 1) := by decide +kernel
theorem dX8_truth_37 : decode cX8_truth 37 = .ok (.iastore, 1) := by decide +kernel
theorem dX8_truth_38 : decode cX8_truth 38 = .ok (.iload_n 3, 1) := by decide +kernel
theorem dX8_truth_39 : decode cX8_truth 39 = .ok (.ireturn, 1) := by decide +kernel
theorem dX8_right_0 : decode cX8_right 0 = .ok (.iload_n 1, 1) := by decide +kernel
theorem dX8_right_1 : decode cX8_right 1 = .ok (.i2l, 1) := by decide +kernel
theorem dX8_right_2 : decode cX8_right 2 = .ok (.lconst 0, 1) := by decide +kernel
theorem dX8_right_3 : decode cX8_right 3 = .ok (.ldc2_w 93, 3) := by decide +kernel
theorem dX8_right_6 : decode cX8_right 6 = .ok (.invokestatic 79, 3) := by decide +kernel
theorem dX8_right_9 : decode cX8_right 9 = .ok (.ifCond .eq 15, 3) := by decide +kernel
theorem dX8_right_12 : decode cX8_right 12 = .ok (.iload_n 2, 1) := by decide +kernel
theorem dX8_right_13 : decode cX8_right 13 = .ok (.i2l, 1) := by decide +kernel
theorem dX8_right_14 : decode cX8_right 14 = .ok (.lconst 0, 1) := by decide +kernel
theorem dX8_right_15 : decode cX8_right 15 = .ok (.ldc2_w 147, 3) := by decide +kernel
theorem dX8_right_18 : decode cX8_right 18 = .ok (.invokestatic 79, 3) := by decide +kernel
theorem dX8_right_21 : decode cX8_right 21 = .ok (.ifCond .ne 5, 3) := by decide +kernel
theorem dX8_right_24 : decode cX8_right 24 = .ok (.iconst (-1), 1) := by decide +kernel
theorem dX8_right_25 : decode cX8_right 25 = .ok (.ireturn, 1) := by decide +kernel
theorem dX8_right_26 : decode cX8_right 26 = .ok (.aload_n 0, 1) := by decide +kernel
theorem dX8_right_27 : decode cX8_right 27 = .ok (.invokevirtual 144, 3) := by decide +kernel
theorem dX8_right_30 : decode cX8_right 30 = .ok (.ifCond .ne 6, 3) := by decide +kernel
theorem dX8_right_33 : decode cX8_right 33 = .ok (.bipush (-2), 2) := by decide +kernel
theorem dX8_right_35 : decode cX8_right 35 = .ok (.ireturn, 1) := by decide +kernel
theorem dX8_right_36 : decode cX8_right 36 = .ok (.iconst 0, 1) := by decide +kernel
theorem dX8_right_37 : decode cX8_right 37 = .ok (.istore_n 3, 1) := by decide +kernel
theorem dX8_right_38 : decode cX8_right 38 = .ok (.iconst 0, 1) := by decide +kernel
theorem dX8_right_39 : decode cX8_right 39 = .ok (.istore 4, 2) := by decide +kernel
theorem dX8_right_41 : decode cX8_right 41 = .ok (.iload 4, 2) := by decide +kernel
theorem dX8_right_43 : decode cX8_right 43 = .ok (.aload_n 0, 1) := by decide +kernel
theorem dX8_right_44 : decode cX8_right 44 = .ok (.getfield 31, 3) := by decide +kernel
theorem dX8_right_47 : decode cX8_right 47 = .ok (.iconst 0, 1) := by decide +kernel
theorem dX8_right_48 : decode cX8_right 48 = .ok (.iaload, 1) := by decide +kernel
theorem dX8_right_49 : decode cX8_right 49 = .ok (.if_icmp .ge 127, 3) := by decide +kernel
theorem dX8_right_52 : decode cX8_right 52 = .ok (.aload_n 0, 1) := by decide +kernel
theorem dX8_right_53 : decode cX8_right 53 = .ok (.getfield 40, 3) := by decide +kernel
theorem dX8_right_56 : decode cX8_right 56 = .ok (.aload_n 0, 1) := by decide +kernel
theorem dX8_right_57 : decode cX8_right 57 = .ok (.getfield 34, 3) := by decide +kernel
theorem dX8_right_60 : decode cX8_right 60 = .ok (.bipush 6, 2) := by decide +kernel
theorem dX8_right_62 : decode cX8_right 62 = .ok (.iload 4, 2) := by decide +kernel
theorem dX8_right_64 : decode cX8_right 64 = .ok (.imul, 1) := by decide +kernel
theorem dX8_right_65 : decode cX8_right 65 = .ok (.iconst 1, 1) := by decide +kernel
theorem dX8_right_66 : decode cX8_right 66 = .ok (.iadd, 1) := by decide +kernel
theorem dX8_right_67 : decode cX8_right 67 = .ok (.iaload, 1) := by decide +kernel
theorem dX8_right_68 : decode cX8_right 68 = .ok (.iaload, 1) := by decide +kernel
theorem dX8_right_69 : decode cX8_right 69 = .ok (.istore 5, 2) := by decide +kernel
theorem dX8_right_71 : decode cX8_right 71 = .ok (.aload_n 0, 1) := by decide +kernel
theorem dX8_right_72 : decode cX8_right 72 = .ok (.getfield 68, 3) := by decide +kernel
theorem dX8_right_75 : decode cX8_right 75 = .ok (.iload 4, 2) := by decide +kernel
theorem dX8_right_77 : decode cX8_right 77 = .ok (.iaload, 1) := by decide +kernel
theorem dX8_right_78 : decode cX8_right 78 = .ok (.ifCond .ge 92, 3) := by decide +kernel
theorem dX8_right_81 : decode cX8_right 81 = .ok (.aload_n 0, 1) := by decide +kernel
theorem dX8_right_82 : decode cX8_right 82 = .ok (.iload 4, 2) := by decide +kernel
theorem dX8_right_84 : decode cX8_right 84 = .ok (.invokevirtual 160, 3) := by decide +kernel
theorem dX8_right_87 : decode cX8_right 87 = .ok (.iload_n 1, 1) := by decide +kernel
theorem dX8_right_88 : decode cX8_right 88 = .ok (.if_icmp .ne 82, 3) := by decide +kernel
theorem dX8_right_91 : decode cX8_right 91 = .ok (.aload_n 0, 1) := by decide +kernel
theorem dX8_right_92 : decode cX8_right 92 = .ok (.getfield 34, 3) := by decide +kernel
theorem dX8_right_95 : decode cX8_right 95 = .ok (.bipush 6, 2) := by decide +kernel
theorem dX8_right_97 : decode cX8_right 97 = .ok (.iload 4, 2) := by decide +kernel
theorem dX8_right_99 : decode cX8_right 99 = .ok (.imul, 1) := by decide +kernel
theorem dX8_right_100 : decode cX8_right 100 = .ok (.iconst 5, 1) := by decide +kernel
theorem dX8_right_101 : decode cX8_right 101 = .ok (.iadd, 1) := by decide +kernel
theorem dX8_right_102 : decode cX8_right 102 = .ok (.iaload, 1) := by decide +kernel
theorem dX8_right_103 : decode cX8_right 103 = .ok (.ifCond .ne 67, 3) := by decide +kernel
theorem dX8_right_106 : decode cX8_right 106 = .ok (.iload 5, 2) := by decide +kernel
theorem dX8_right_108 : decode cX8_right 108 = .ok (.ifCond .lt 62, 3) := by decide +kernel
theorem dX8_right_111 : decode cX8_right 111 = .ok (.aload_n 0, 1) := by decide +kernel
theorem dX8_right_112 : decode cX8_right 112 = .ok (.getfield 34, 3) := by decide +kernel
theorem dX8_right_115 : decode cX8_right 115 = .ok (.bipush 6, 2) := by decide +kernel
theorem dX8_right_117 : decode cX8_right 117 = .ok (.iload 4, 2) := by decide +kernel
theorem dX8_right_119 : decode cX8_right 119 = .ok (.imul, 1) := by decide +kernel
theorem dX8_right_120 : decode cX8_right 120 = .ok (.iconst 2, 1) := by decide +kernel
theorem dX8_right_121 : decode cX8_right 121 = .ok (.iadd, 1) := by decide +kernel
theorem dX8_right_122 : decode cX8_right 122 = .ok (.iaload, 1) := by decide +kernel
theorem dX8_right_123 : decode cX8_right 123 = .ok (.iload 5, 2) := by decide +kernel
theorem dX8_right_125 : decode cX8_right 125 = .ok (.isub, 1) := by decide +kernel
theorem dX8_right_126 : decode cX8_right 126 = .ok (.istore 6, 2) := by decide +kernel
theorem dX8_right_128 : decode cX8_right 128 = .ok (.iload_n 3, 1) := by decide +kernel
theorem dX8_right_129 : decode cX8_right 129 = .ok (.iload_n 2, 1) := by decide +kernel
theorem dX8_right_130 : decode cX8_right 130 = .ok (.ifCond .ne 16, 3) := by decide +kernel
theorem dX8_right_133 : decode cX8_right 133 = .ok (.iload 6, 2) := by decide +kernel
theorem dX8_right_135 : decode cX8_right 135 = .ok (.ifCond .ne 7, 3) := by decide +kernel
theorem dX8_right_138 : decode cX8_right 138 = .ok (.iconst 1, 1) := by decide +kernel
theorem dX8_right_139 : decode cX8_right 139 = .ok (.goto 29, 3) := by decide +kernel
theorem dX8_right_142 : decode cX8_right 142 = .ok (.iconst 0, 1) := by decide +kernel
theorem dX8_right_143 : decode cX8_right 143 = .ok (.goto 25, 3) := by decide +kernel
theorem dX8_right_146 : decode cX8_right 146 = .ok (.iload_n 2, 1) := by decide +kernel
theorem dX8_right_147 : decode cX8_right 147 = .ok (.iconst 1, 1) := by decide +kernel
theorem dX8_right_148 : decode cX8_right 148 = .ok (.if_icmp .ne 7, 3) := by decide +kernel
theorem dX8_right_151 : decode cX8_right 151 = .ok (.iconst 1, 1) := by decide +kernel
theorem dX8_right_152 : decode cX8_right 152 = .ok (.goto 16, 3) := by decide +kernel
theorem dX8_right_155 : decode cX8_right 155 = .ok (.iload 6, 2) := by decide +kernel
theorem dX8_right_157 : decode cX8_right 157 = .ok (.ifCond .ge 9, 3) := by decide +kernel
theorem dX8_right_160 : decode cX8_right 160 = .ok (.iload 6, 2) := by decide +kernel
theorem dX8_right_162 : decode cX8_right 162 = .ok (.ineg, 1) := by decide +kernel
theorem dX8_right_163 : decode cX8_right 163 = .ok (.goto 5, 3) := by decide +kernel
theorem dX8_right_166 : decode cX8_right 166 = .ok (.iload 6, 2) := by decide +kernel
theorem dX8_right_168 : decode cX8_right 168 = .ok (.iadd, 1) := by decide +kernel
theorem dX8_right_169 : decode cX8_right 169 = .ok (.istore_n 3, 1) := by decide +kernel
theorem dX8_right_170 : decode cX8_right 170 = .ok (.iinc 4 1, 3) := by decide +kernel
theorem dX8_right_173 : decode cX8_right 173 = .ok (.goto (-132), 3) := by decide +kernel
theorem dX8_right_176 : decode cX8_right 176 = .ok (.iload_n 3, 1) := by decide +kernel
theorem dX8_right_177 : decode cX8_right 177 = .ok (.ireturn, 1) := by decide +kernel
theorem dX8_beyond_0 : decode cX8_beyond 0 = .ok (.iload_n 1, 1) := by decide +kernel
theorem dX8_beyond_1 : decode cX8_beyond 1 = .ok (.i2l, 1) := by decide +kernel
theorem dX8_beyond_2 : decode cX8_beyond 2 = .ok (.lconst 1, 1) := by decide +kernel
theorem dX8_beyond_3 : decode cX8_beyond 3 = .ok (.ldc2_w 217, 3) := by decide +kernel
theorem dX8_beyond_6 : decode cX8_beyond 6 = .ok (.invokestatic 79, 3) := by decide +kernel
theorem dX8_beyond_9 : decode cX8_beyond 9 = .ok (.ifCond .eq 28, 3) := by decide +kernel
theorem dX8_beyond_12 : decode cX8_beyond 12 = .ok (.iload_n 2, 1) := by decide +kernel
theorem dX8_beyond_13 : decode cX8_beyond 13 = .ok (.i2l, 1) := by decide +kernel
theorem dX8_beyond_14 : decode cX8_beyond 14 = .ok (.lconst 0, 1) := by decide +kernel
theorem dX8_beyond_15 : decode cX8_beyond 15 = .ok (.iload_n 1, 1) := by decide +kernel
theorem dX8_beyond_16 : decode cX8_beyond 16 = .ok (.i2l, 1) := by decide +kernel
theorem dX8_beyond_17 : decode cX8_beyond 17 = .ok (.invokestatic 79, 3) := by decide +kernel
theorem dX8_beyond_20 : decode cX8_beyond 20 = .ok (.ifCond .eq 17, 3) := by decide +kernel
theorem dX8_beyond_23 : decode cX8_beyond 23 = .ok (.iload_n 3, 1) := by decide +kernel
theorem dX8_beyond_24 : decode cX8_beyond 24 = .ok (.i2l, 1) := by decide +kernel
theorem dX8_beyond_25 : decode cX8_beyond 25 = .ok (.ldc2_w 147, 3) := by decide +kernel
theorem dX8_beyond_28 : decode cX8_beyond 28 = .ok (.ldc2_w 219, 3) := by decide +kernel
theorem dX8_beyond_31 : decode cX8_beyond 31 = .ok (.invokestatic 79, 3) := by decide +kernel
theorem dX8_beyond_34 : decode cX8_beyond 34 = .ok (.ifCond .ne 7, 3) := by decide +kernel
theorem dX8_beyond_37 : decode cX8_beyond 37 = .ok (.ldc2_w 95, 3) := by decide +kernel
theorem dX8_beyond_40 : decode cX8_beyond 40 = .ok (.lreturn, 1) := by decide +kernel
theorem dX8_beyond_41 : decode cX8_beyond 41 = .ok (.lconst 0, 1) := by decide +kernel
theorem dX8_beyond_42 : decode cX8_beyond 42 = .ok (.lstore 4, 2) := by decide +kernel
theorem dX8_beyond_44 : decode cX8_beyond 44 = .ok (.iload_n 2, 1) := by decide +kernel
theorem dX8_beyond_45 : decode cX8_beyond 45 = .ok (.istore 6, 2) := by decide +kernel
theorem dX8_beyond_47 : decode cX8_beyond 47 = .ok (.iload 6, 2) := by decide +kernel
theorem dX8_beyond_49 : decode cX8_beyond 49 = .ok (.iload_n 1, 1) := by decide +kernel
theorem dX8_beyond_50 : decode cX8_beyond 50 = .ok (.if_icmp .gt 77, 3) := by decide +kernel
theorem dX8_beyond_53 : decode cX8_beyond 53 = .ok (.lconst 1, 1) := by decide +kernel
theorem dX8_beyond_54 : decode cX8_beyond 54 = .ok (.lstore 7, 2) := by decide +kernel
theorem dX8_beyond_56 : decode cX8_beyond 56 = .ok (.iconst 1, 1) := by decide +kernel
theorem dX8_beyond_57 : decode cX8_beyond 57 = .ok (.istore 9, 2) := by decide +kernel
theorem dX8_beyond_59 : decode cX8_beyond 59 = .ok (.iload 9, 2) := by decide +kernel
theorem dX8_beyond_61 : decode cX8_beyond 61 = .ok (.iload 6, 2) := by decide +kernel
theorem dX8_beyond_63 : decode cX8_beyond 63 = .ok (.if_icmp .gt 26, 3) := by decide +kernel
theorem dX8_beyond_66 : decode cX8_beyond 66 = .ok (.lload 7, 2) := by decide +kernel
theorem dX8_beyond_68 : decode cX8_beyond 68 = .ok (.iload_n 1, 1) := by decide +kernel
theorem dX8_beyond_69 : decode cX8_beyond 69 = .ok (.iload 6, 2) := by decide +kernel
theorem dX8_beyond_71 : decode cX8_beyond 71 = .ok (.isub, 1) := by decide +kernel
theorem dX8_beyond_72 : decode cX8_beyond 72 = .ok (.iload 9, 2) := by decide +kernel
theorem dX8_beyond_74 : decode cX8_beyond 74 = .ok (.iadd, 1) := by decide +kernel
theorem dX8_beyond_75 : decode cX8_beyond 75 = .ok (.i2l, 1) := by decide +kernel
theorem dX8_beyond_76 : decode cX8_beyond 76 = .ok (.lmul, 1) := by decide +kernel
theorem dX8_beyond_77 : decode cX8_beyond 77 = .ok (.iload 9, 2) := by decide +kernel
theorem dX8_beyond_79 : decode cX8_beyond 79 = .ok (.i2l, 1) := by decide +kernel
theorem dX8_beyond_80 : decode cX8_beyond 80 = .ok (.ldiv, 1) := by decide +kernel
theorem dX8_beyond_81 : decode cX8_beyond 81 = .ok (.lstore 7, 2) := by decide +kernel
theorem dX8_beyond_83 : decode cX8_beyond 83 = .ok (.iinc 9 1, 3) := by decide +kernel
theorem dX8_beyond_86 : decode cX8_beyond 86 = .ok (.goto (-27), 3) := by decide +kernel
theorem dX8_beyond_89 : decode cX8_beyond 89 = .ok (.iload 6, 2) := by decide +kernel
theorem dX8_beyond_91 : decode cX8_beyond 91 = .ok (.istore 9, 2) := by decide +kernel
theorem dX8_beyond_93 : decode cX8_beyond 93 = .ok (.iload 9, 2) := by decide +kernel
theorem dX8_beyond_95 : decode cX8_beyond 95 = .ok (.iload_n 1, 1) := by decide +kernel
theorem dX8_beyond_96 : decode cX8_beyond 96 = .ok (.if_icmp .ge 18, 3) := by decide +kernel
theorem dX8_beyond_99 : decode cX8_beyond 99 = .ok (.lload 7, 2) := by decide +kernel
theorem dX8_beyond_101 : decode cX8_beyond 101 = .ok (.iload_n 3, 1) := by decide +kernel
theorem dX8_beyond_102 : decode cX8_beyond 102 = .ok (.iconst 1, 1) := by decide +kernel
theorem dX8_beyond_103 : decode cX8_beyond 103 = .ok (.isub, 1) := by decide +kernel
theorem dX8_beyond_104 : decode cX8_beyond 104 = .ok (.i2l, 1) := by decide +kernel
theorem dX8_beyond_105 : decode cX8_beyond 105 = .ok (.lmul, 1) := by decide +kernel
theorem dX8_beyond_106 : decode cX8_beyond 106 = .ok (.lstore 7, 2) := by decide +kernel
theorem dX8_beyond_108 : decode cX8_beyond 108 = .ok (.iinc 9 1, 3) := by decide +kernel
theorem dX8_beyond_111 : decode cX8_beyond 111 = .ok (.goto (-18), 3) := by decide +kernel
theorem dX8_beyond_114 : decode cX8_beyond 114 = .ok (.lload 4, 2) := by decide +kernel
theorem dX8_beyond_116 : decode cX8_beyond 116 = .ok (.lload 7, 2) := by decide +kernel
theorem dX8_beyond_118 : decode cX8_beyond 118 = .ok (.ladd, 1) := by decide +kernel
theorem dX8_beyond_119 : decode cX8_beyond 119 = .ok (.lstore 4, 2) := by decide +kernel
theorem dX8_beyond_121 : decode cX8_beyond 121 = .ok (.iinc 6 1, 3) := by decide +kernel
theorem dX8_beyond_124 : decode cX8_beyond 124 = .ok (.goto (-77), 3) := by decide +kernel
theorem dX8_beyond_127 : decode cX8_beyond 127 = .ok (.lload 4, 2) := by decide +kernel
theorem dX8_beyond_129 : decode cX8_beyond 129 = .ok (.lreturn, 1) := by decide +kernel
theorem dX8_knownIn_0 : decode cX8_knownIn 0 = .ok (.aload_n 0, 1) := by decide +kernel
theorem dX8_knownIn_1 : decode cX8_knownIn 1 = .ok (.getfield 16, 3) := by decide +kernel
theorem dX8_knownIn_4 : decode cX8_knownIn 4 = .ok (.bipush 6, 2) := by decide +kernel
theorem dX8_knownIn_6 : decode cX8_knownIn 6 = .ok (.aload_n 0, 1) := by decide +kernel
theorem dX8_knownIn_7 : decode cX8_knownIn 7 = .ok (.getfield 37, 3) := by decide +kernel
theorem dX8_knownIn_10 : decode cX8_knownIn 10 = .ok (.iconst 2, 1) := by decide +kernel
theorem dX8_knownIn_11 : decode cX8_knownIn 11 = .ok (.iload_n 1, 1) := by decide +kernel
theorem dX8_knownIn_12 : decode cX8_knownIn 12 = .ok (.imul, 1) := by decide +kernel
theorem dX8_knownIn_13 : decode cX8_knownIn 13 = .ok (.iaload, 1) := by decide +kernel
theorem dX8_knownIn_14 : decode cX8_knownIn 14 = .ok (.imul, 1) := by decide +kernel
theorem dX8_knownIn_15 : decode cX8_knownIn 15 = .ok (.iload_n 2, 1) := by decide +kernel
theorem dX8_knownIn_16 : decode cX8_knownIn 16 = .ok (.iadd, 1) := by decide +kernel
theorem dX8_knownIn_17 : decode cX8_knownIn 17 = .ok (.iaload, 1) := by decide +kernel
theorem dX8_knownIn_18 : decode cX8_knownIn 18 = .ok (.istore_n 3, 1) := by decide +kernel
theorem dX8_knownIn_19 : decode cX8_knownIn 19 = .ok (.iload_n 3, 1) := by decide +kernel
theorem dX8_knownIn_20 : decode cX8_knownIn 20 = .ok (.ifCond .ge 8, 3) := by decide +kernel
theorem dX8_knownIn_23 : decode cX8_knownIn 23 = .ok (.bipush (-4), 2) := by decide +kernel
theorem dX8_knownIn_25 : decode cX8_knownIn 25 = .ok (.goto 15, 3) := by decide +kernel
theorem dX8_knownIn_28 : decode cX8_knownIn 28 = .ok (.aload_n 0, 1) := by decide +kernel
theorem dX8_knownIn_29 : decode cX8_knownIn 29 = .ok (.getfield 37, 3) := by decide +kernel
theorem dX8_knownIn_32 : decode cX8_knownIn 32 = .ok (.iconst 2, 1) := by decide +kernel
theorem dX8_knownIn_33 : decode cX8_knownIn 33 = .ok (.iload_n 1, 1) := by decide +kernel
theorem dX8_knownIn_34 : decode cX8_knownIn 34 = .ok (.imul, 1) := by decide +kernel
theorem dX8_knownIn_35 : decode cX8_knownIn 35 = .ok (.iconst 1, 1) := by decide +kernel
theorem dX8_knownIn_36 : decode cX8_knownIn 36 = .ok (.iadd, 1) := by decide +kernel
theorem dX8_knownIn_37 : decode cX8_knownIn 37 = .ok (.iaload, 1) := by decide +kernel
theorem dX8_knownIn_38 : decode cX8_knownIn 38 = .ok (.iload_n 3, 1) := by decide +kernel
theorem dX8_knownIn_39 : decode cX8_knownIn 39 = .ok (.iadd, 1) := by decide +kernel
theorem dX8_knownIn_40 : decode cX8_knownIn 40 = .ok (.ireturn, 1) := by decide +kernel
theorem dX8_known_0 : decode cX8_known 0 = .ok (.iload_n 1, 1) := by decide +kernel
theorem dX8_known_1 : decode cX8_known 1 = .ok (.invokestatic 104, 3) := by decide +kernel
theorem dX8_known_4 : decode cX8_known 4 = .ok (.ifCond .eq 20, 3) := by decide +kernel
theorem dX8_known_7 : decode cX8_known 7 = .ok (.iload_n 2, 1) := by decide +kernel
theorem dX8_known_8 : decode cX8_known 8 = .ok (.invokestatic 87, 3) := by decide +kernel
theorem dX8_known_11 : decode cX8_known 11 = .ok (.ifCond .eq 13, 3) := by decide +kernel
theorem dX8_known_14 : decode cX8_known 14 = .ok (.iload_n 3, 1) := by decide +kernel
theorem dX8_known_15 : decode cX8_known 15 = .ok (.i2l, 1) := by decide +kernel
theorem dX8_known_16 : decode cX8_known 16 = .ok (.lconst 0, 1) := by decide +kernel
theorem dX8_known_17 : decode cX8_known 17 = .ok (.lconst 1, 1) := by decide +kernel
theorem dX8_known_18 : decode cX8_known 18 = .ok (.invokestatic 79, 3) := by decide +kernel
theorem dX8_known_21 : decode cX8_known 21 = .ok (.ifCond .ne 5, 3) := by decide +kernel
theorem dX8_known_24 : decode cX8_known 24 = .ok (.iconst (-1), 1) := by decide +kernel
theorem dX8_known_25 : decode cX8_known 25 = .ok (.ireturn, 1) := by decide +kernel
theorem dX8_known_26 : decode cX8_known 26 = .ok (.aload_n 0, 1) := by decide +kernel
theorem dX8_known_27 : decode cX8_known 27 = .ok (.getfield 37, 3) := by decide +kernel
theorem dX8_known_30 : decode cX8_known 30 = .ok (.iconst 2, 1) := by decide +kernel
theorem dX8_known_31 : decode cX8_known 31 = .ok (.iload_n 1, 1) := by decide +kernel
theorem dX8_known_32 : decode cX8_known 32 = .ok (.imul, 1) := by decide +kernel
theorem dX8_known_33 : decode cX8_known 33 = .ok (.iaload, 1) := by decide +kernel
theorem dX8_known_34 : decode cX8_known 34 = .ok (.ifCond .ge 6, 3) := by decide +kernel
theorem dX8_known_37 : decode cX8_known 37 = .ok (.bipush (-2), 2) := by decide +kernel
theorem dX8_known_39 : decode cX8_known 39 = .ok (.ireturn, 1) := by decide +kernel
theorem dX8_known_40 : decode cX8_known 40 = .ok (.aload_n 0, 1) := by decide +kernel
theorem dX8_known_41 : decode cX8_known 41 = .ok (.iload_n 1, 1) := by decide +kernel
theorem dX8_known_42 : decode cX8_known 42 = .ok (.iload_n 2, 1) := by decide +kernel
theorem dX8_known_43 : decode cX8_known 43 = .ok (.invokevirtual 221, 3) := by decide +kernel
theorem dX8_known_46 : decode cX8_known 46 = .ok (.istore 4, 2) := by decide +kernel
theorem dX8_known_48 : decode cX8_known 48 = .ok (.iload_n 3, 1) := by decide +kernel
theorem dX8_known_49 : decode cX8_known 49 = .ok (.ifCond .eq 8, 3) := by decide +kernel
theorem dX8_known_52 : decode cX8_known 52 = .ok (.iload 4, 2) := by decide +kernel
theorem dX8_known_54 : decode cX8_known 54 = .ok (.ifCond .ge 6, 3) := by decide +kernel
theorem dX8_known_57 : decode cX8_known 57 = .ok (.iload 4, 2) := by decide +kernel
theorem dX8_known_59 : decode cX8_known 59 = .ok (.ireturn, 1) := by decide +kernel
theorem dX8_known_60 : decode cX8_known 60 = .ok (.bipush (-4), 2) := by decide +kernel
theorem dX8_known_62 : decode cX8_known 62 = .ok (.istore 5, 2) := by decide +kernel
theorem dX8_known_64 : decode cX8_known 64 = .ok (.iconst 0, 1) := by decide +kernel
theorem dX8_known_65 : decode cX8_known 65 = .ok (.istore 6, 2) := by decide +kernel
theorem dX8_known_67 : decode cX8_known 67 = .ok (.iload 6, 2) := by decide +kernel
theorem dX8_known_69 : decode cX8_known 69 = .ok (.bipush 6, 2) := by decide +kernel
theorem dX8_known_71 : decode cX8_known 71 = .ok (.if_icmp .ge 52, 3) := by decide +kernel
theorem dX8_known_74 : decode cX8_known 74 = .ok (.aload_n 0, 1) := by decide +kernel
theorem dX8_known_75 : decode cX8_known 75 = .ok (.iload_n 1, 1) := by decide +kernel
theorem dX8_known_76 : decode cX8_known 76 = .ok (.iload 6, 2) := by decide +kernel
theorem dX8_known_78 : decode cX8_known 78 = .ok (.invokevirtual 221, 3) := by decide +kernel
theorem dX8_known_81 : decode cX8_known 81 = .ok (.istore 7, 2) := by decide +kernel
theorem dX8_known_83 : decode cX8_known 83 = .ok (.iload 7, 2) := by decide +kernel
theorem dX8_known_85 : decode cX8_known 85 = .ok (.iload 4, 2) := by decide +kernel
theorem dX8_known_87 : decode cX8_known 87 = .ok (.if_icmp .le 26, 3) := by decide +kernel
theorem dX8_known_90 : decode cX8_known 90 = .ok (.iload 5, 2) := by decide +kernel
theorem dX8_known_92 : decode cX8_known 92 = .ok (.ifCond .lt 13, 3) := by decide +kernel
theorem dX8_known_95 : decode cX8_known 95 = .ok (.iload 7, 2) := by decide +kernel
theorem dX8_known_97 : decode cX8_known 97 = .ok (.iload 4, 2) := by decide +kernel
theorem dX8_known_99 : decode cX8_known 99 = .ok (.isub, 1) := by decide +kernel
theorem dX8_known_100 : decode cX8_known 100 = .ok (.iload 5, 2) := by decide +kernel
theorem dX8_known_102 : decode cX8_known 102 = .ok (.if_icmp .ge 11, 3) := by decide +kernel
theorem dX8_known_105 : decode cX8_known 105 = .ok (.iload 7, 2) := by decide +kernel
theorem dX8_known_107 : decode cX8_known 107 = .ok (.iload 4, 2) := by decide +kernel
theorem dX8_known_109 : decode cX8_known 109 = .ok (.isub, 1) := by decide +kernel
theorem dX8_known_110 : decode cX8_known 110 = .ok (.goto 5, 3) := by decide +kernel
theorem dX8_known_113 : decode cX8_known 113 = .ok (.iload 5, 2) := by decide +kernel
theorem dX8_known_115 : decode cX8_known 115 = .ok (.istore 5, 2) := by decide +kernel
theorem dX8_known_117 : decode cX8_known 117 = .ok (.iinc 6 1, 3) := by decide +kernel
theorem dX8_known_120 : decode cX8_known 120 = .ok (.goto (-53), 3) := by decide +kernel
theorem dX8_known_123 : decode cX8_known 123 = .ok (.iload 5, 2) := by decide +kernel
theorem dX8_known_125 : decode cX8_known 125 = .ok (.ireturn, 1) := by decide +kernel
theorem dX8_worth_0 : decode cX8_worth 0 = .ok (.iload_n 1, 1) := by decide +kernel
theorem dX8_worth_1 : decode cX8_worth 1 = .ok (.i2l, 1) := by decide +kernel
theorem dX8_worth_2 : decode cX8_worth 2 = .ok (.lconst 0, 1) := by decide +kernel
theorem dX8_worth_3 : decode cX8_worth 3 = .ok (.ldc2_w 77, 3) := by decide +kernel
theorem dX8_worth_6 : decode cX8_worth 6 = .ok (.invokestatic 79, 3) := by decide +kernel
theorem dX8_worth_9 : decode cX8_worth 9 = .ok (.ifCond .eq 29, 3) := by decide +kernel
theorem dX8_worth_12 : decode cX8_worth 12 = .ok (.iload_n 2, 1) := by decide +kernel
theorem dX8_worth_13 : decode cX8_worth 13 = .ok (.i2l, 1) := by decide +kernel
theorem dX8_worth_14 : decode cX8_worth 14 = .ok (.lconst 0, 1) := by decide +kernel
theorem dX8_worth_15 : decode cX8_worth 15 = .ok (.ldc2_w 175, 3) := by decide +kernel
theorem dX8_worth_18 : decode cX8_worth 18 = .ok (.invokestatic 79, 3) := by decide +kernel
theorem dX8_worth_21 : decode cX8_worth 21 = .ok (.ifCond .eq 17, 3) := by decide +kernel
theorem dX8_worth_24 : decode cX8_worth 24 = .ok (.iload_n 3, 1) := by decide +kernel
theorem dX8_worth_25 : decode cX8_worth 25 = .ok (.i2l, 1) := by decide +kernel
theorem dX8_worth_26 : decode cX8_worth 26 = .ok (.ldc2_w 224, 3) := by decide +kernel
theorem dX8_worth_29 : decode cX8_worth 29 = .ok (.ldc2_w 226, 3) := by decide +kernel
theorem dX8_worth_32 : decode cX8_worth 32 = .ok (.invokestatic 79, 3) := by decide +kernel
theorem dX8_worth_35 : decode cX8_worth 35 = .ok (.ifCond .ne 7, 3) := by decide +kernel
theorem dX8_worth_38 : decode cX8_worth 38 = .ok (.sipush (-10000), 3) := by decide +kernel
theorem dX8_worth_41 : decode cX8_worth 41 = .ok (.ireturn, 1) := by decide +kernel
theorem dX8_worth_42 : decode cX8_worth 42 = .ok (.aload_n 0, 1) := by decide +kernel
theorem dX8_worth_43 : decode cX8_worth 43 = .ok (.getfield 56, 3) := by decide +kernel
theorem dX8_worth_46 : decode cX8_worth 46 = .ok (.iconst 4, 1) := by decide +kernel
theorem dX8_worth_47 : decode cX8_worth 47 = .ok (.iload_n 1, 1) := by decide +kernel
theorem dX8_worth_48 : decode cX8_worth 48 = .ok (.imul, 1) := by decide +kernel
theorem dX8_worth_49 : decode cX8_worth 49 = .ok (.iload_n 2, 1) := by decide +kernel
theorem dX8_worth_50 : decode cX8_worth 50 = .ok (.iadd, 1) := by decide +kernel
theorem dX8_worth_51 : decode cX8_worth 51 = .ok (.iaload, 1) := by decide +kernel
theorem dX8_worth_52 : decode cX8_worth 52 = .ok (.istore 4, 2) := by decide +kernel
theorem dX8_worth_54 : decode cX8_worth 54 = .ok (.aload_n 0, 1) := by decide +kernel
theorem dX8_worth_55 : decode cX8_worth 55 = .ok (.getfield 56, 3) := by decide +kernel
theorem dX8_worth_58 : decode cX8_worth 58 = .ok (.iconst 4, 1) := by decide +kernel
theorem dX8_worth_59 : decode cX8_worth 59 = .ok (.iload_n 1, 1) := by decide +kernel
theorem dX8_worth_60 : decode cX8_worth 60 = .ok (.imul, 1) := by decide +kernel
theorem dX8_worth_61 : decode cX8_worth 61 = .ok (.iload_n 2, 1) := by decide +kernel
theorem dX8_worth_62 : decode cX8_worth 62 = .ok (.iadd, 1) := by decide +kernel
theorem dX8_worth_63 : decode cX8_worth 63 = .ok (.iload_n 3, 1) := by decide +kernel
theorem dX8_worth_64 : decode cX8_worth 64 = .ok (.iastore, 1) := by decide +kernel
theorem dX8_worth_65 : decode cX8_worth 65 = .ok (.iload 4, 2) := by decide +kernel
theorem dX8_worth_67 : decode cX8_worth 67 = .ok (.ireturn, 1) := by decide +kernel
theorem dX8_buy_0 : decode cX8_buy 0 = .ok (.iload_n 1, 1) := by decide +kernel
theorem dX8_buy_1 : decode cX8_buy 1 = .ok (.i2l, 1) := by decide +kernel
theorem dX8_buy_2 : decode cX8_buy 2 = .ok (.lconst 1, 1) := by decide +kernel
theorem dX8_buy_3 : decode cX8_buy 3 = .ok (.ldc2_w 228, 3) := by decide +kernel
theorem dX8_buy_6 : decode cX8_buy 6 = .ok (.invokestatic 79, 3) := by decide +kernel
theorem dX8_buy_9 : decode cX8_buy 9 = .ok (.ifCond .eq 27, 3) := by decide +kernel
theorem dX8_buy_12 : decode cX8_buy 12 = .ok (.iload_n 2, 1) := by decide +kernel
theorem dX8_buy_13 : decode cX8_buy 13 = .ok (.i2l, 1) := by decide +kernel
theorem dX8_buy_14 : decode cX8_buy 14 = .ok (.lconst 1, 1) := by decide +kernel
theorem dX8_buy_15 : decode cX8_buy 15 = .ok (.ldc2_w 217, 3) := by decide +kernel
theorem dX8_buy_18 : decode cX8_buy 18 = .ok (.invokestatic 79, 3) := by decide +kernel
theorem dX8_buy_21 : decode cX8_buy 21 = .ok (.ifCond .eq 15, 3) := by decide +kernel
theorem dX8_buy_24 : decode cX8_buy 24 = .ok (.iload_n 3, 1) := by decide +kernel
theorem dX8_buy_25 : decode cX8_buy 25 = .ok (.i2l, 1) := by decide +kernel
theorem dX8_buy_26 : decode cX8_buy 26 = .ok (.lconst 0, 1) := by decide +kernel
theorem dX8_buy_27 : decode cX8_buy 27 = .ok (.ldc2_w 175, 3) := by decide +kernel
theorem dX8_buy_30 : decode cX8_buy 30 = .ok (.invokestatic 79, 3) := by decide +kernel
theorem dX8_buy_33 : decode cX8_buy 33 = .ok (.ifCond .ne 7, 3) := by decide +kernel
theorem dX8_buy_36 : decode cX8_buy 36 = .ok (.sipush (-10000), 3) := by decide +kernel
theorem dX8_buy_39 : decode cX8_buy 39 = .ok (.ireturn, 1) := by decide +kernel
theorem dX8_buy_40 : decode cX8_buy 40 = .ok (.bipush (-4), 2) := by decide +kernel
theorem dX8_buy_42 : decode cX8_buy 42 = .ok (.istore 4, 2) := by decide +kernel
theorem dX8_buy_44 : decode cX8_buy 44 = .ok (.iconst 0, 1) := by decide +kernel
theorem dX8_buy_45 : decode cX8_buy 45 = .ok (.istore 5, 2) := by decide +kernel
theorem dX8_buy_47 : decode cX8_buy 47 = .ok (.bipush (-4), 2) := by decide +kernel
theorem dX8_buy_49 : decode cX8_buy 49 = .ok (.istore 6, 2) := by decide +kernel
theorem dX8_buy_51 : decode cX8_buy 51 = .ok (.iconst 0, 1) := by decide +kernel
theorem dX8_buy_52 : decode cX8_buy 52 = .ok (.istore 7, 2) := by decide +kernel
theorem dX8_buy_54 : decode cX8_buy 54 = .ok (.iconst 0, 1) := by decide +kernel
theorem dX8_buy_55 : decode cX8_buy 55 = .ok (.istore 8, 2) := by decide +kernel
theorem dX8_buy_57 : decode cX8_buy 57 = .ok (.iload 8, 2) := by decide +kernel
theorem dX8_buy_59 : decode cX8_buy 59 = .ok (.iload_n 1, 1) := by decide +kernel
theorem dX8_buy_60 : decode cX8_buy 60 = .ok (.if_icmp .ge 192, 3) := by decide +kernel
theorem dX8_buy_63 : decode cX8_buy 63 = .ok (.ldc 230, 2) := by decide +kernel
theorem dX8_buy_65 : decode cX8_buy 65 = .ok (.istore 9, 2) := by decide +kernel
theorem dX8_buy_67 : decode cX8_buy 67 = .ok (.iconst (-1), 1) := by decide +kernel
theorem dX8_buy_68 : decode cX8_buy 68 = .ok (.istore 10, 2) := by decide +kernel
theorem dX8_buy_70 : decode cX8_buy 70 = .ok (.iconst 0, 1) := by decide +kernel
theorem dX8_buy_71 : decode cX8_buy 71 = .ok (.istore 11, 2) := by decide +kernel
theorem dX8_buy_73 : decode cX8_buy 73 = .ok (.iload 11, 2) := by decide +kernel
theorem dX8_buy_75 : decode cX8_buy 75 = .ok (.iconst 4, 1) := by decide +kernel
theorem dX8_buy_76 : decode cX8_buy 76 = .ok (.if_icmp .ge 126, 3) := by decide +kernel
theorem dX8_buy_79 : decode cX8_buy 79 = .ok (.iload_n 2, 1) := by decide +kernel
theorem dX8_buy_80 : decode cX8_buy 80 = .ok (.iload 11, 2) := by decide +kernel
theorem dX8_buy_82 : decode cX8_buy 82 = .ok (.ishr, 1) := by decide +kernel
theorem dX8_buy_83 : decode cX8_buy 83 = .ok (.iconst 1, 1) := by decide +kernel
theorem dX8_buy_84 : decode cX8_buy 84 = .ok (.iand, 1) := by decide +kernel
theorem dX8_buy_85 : decode cX8_buy 85 = .ok (.iconst 1, 1) := by decide +kernel
theorem dX8_buy_86 : decode cX8_buy 86 = .ok (.if_icmp .ne 110, 3) := by decide +kernel
theorem dX8_buy_89 : decode cX8_buy 89 = .ok (.ldc 153, 2) := by decide +kernel
theorem dX8_buy_91 : decode cX8_buy 91 = .ok (.istore 12, 2) := by decide +kernel
theorem dX8_buy_93 : decode cX8_buy 93 = .ok (.iconst 0, 1) := by decide +kernel
theorem dX8_buy_94 : decode cX8_buy 94 = .ok (.istore 13, 2) := by decide +kernel
theorem dX8_buy_96 : decode cX8_buy 96 = .ok (.iload 13, 2) := by decide +kernel
theorem dX8_buy_98 : decode cX8_buy 98 = .ok (.iload_n 1, 1) := by decide +kernel
theorem dX8_buy_99 : decode cX8_buy 99 = .ok (.if_icmp .ge 45, 3) := by decide +kernel
theorem dX8_buy_102 : decode cX8_buy 102 = .ok (.aload_n 0, 1) := by decide +kernel
theorem dX8_buy_103 : decode cX8_buy 103 = .ok (.getfield 56, 3) := by decide +kernel
theorem dX8_buy_106 : decode cX8_buy 106 = .ok (.iconst 4, 1) := by decide +kernel
theorem dX8_buy_107 : decode cX8_buy 107 = .ok (.iload 13, 2) := by decide +kernel
theorem dX8_buy_109 : decode cX8_buy 109 = .ok (.imul, 1) := by decide +kernel
theorem dX8_buy_110 : decode cX8_buy 110 = .ok (.iload 11, 2) := by decide +kernel
theorem dX8_buy_112 : decode cX8_buy 112 = .ok (.iadd, 1) := by decide +kernel
theorem dX8_buy_113 : decode cX8_buy 113 = .ok (.iaload, 1) := by decide +kernel
theorem dX8_buy_114 : decode cX8_buy 114 = .ok (.iload 12, 2) := by decide +kernel
theorem dX8_buy_116 : decode cX8_buy 116 = .ok (.if_icmp .le 18, 3) := by decide +kernel
theorem dX8_buy_119 : decode cX8_buy 119 = .ok (.aload_n 0, 1) := by decide +kernel
theorem dX8_buy_120 : decode cX8_buy 120 = .ok (.getfield 56, 3) := by decide +kernel
theorem dX8_buy_123 : decode cX8_buy 123 = .ok (.iconst 4, 1) := by decide +kernel
theorem dX8_buy_124 : decode cX8_buy 124 = .ok (.iload 13, 2) := by decide +kernel
theorem dX8_buy_126 : decode cX8_buy 126 = .ok (.imul, 1) := by decide +kernel
theorem dX8_buy_127 : decode cX8_buy 127 = .ok (.iload 11, 2) := by decide +kernel
theorem dX8_buy_129 : decode cX8_buy 129 = .ok (.iadd, 1) := by decide +kernel
theorem dX8_buy_130 : decode cX8_buy 130 = .ok (.iaload, 1) := by decide +kernel
theorem dX8_buy_131 : decode cX8_buy 131 = .ok (.goto 5, 3) := by decide +kernel
theorem dX8_buy_134 : decode cX8_buy 134 = .ok (.iload 12, 2) := by decide +kernel
theorem dX8_buy_136 : decode cX8_buy 136 = .ok (.istore 12, 2) := by decide +kernel
theorem dX8_buy_138 : decode cX8_buy 138 = .ok (.iinc 13 1, 3) := by decide +kernel
theorem dX8_buy_141 : decode cX8_buy 141 = .ok (.goto (-45), 3) := by decide +kernel
theorem dX8_buy_144 : decode cX8_buy 144 = .ok (.aload_n 0, 1) := by decide +kernel
theorem dX8_buy_145 : decode cX8_buy 145 = .ok (.getfield 56, 3) := by decide +kernel
theorem dX8_buy_148 : decode cX8_buy 148 = .ok (.iconst 4, 1) := by decide +kernel
theorem dX8_buy_149 : decode cX8_buy 149 = .ok (.iload 8, 2) := by decide +kernel
theorem dX8_buy_151 : decode cX8_buy 151 = .ok (.imul, 1) := by decide +kernel
theorem dX8_buy_152 : decode cX8_buy 152 = .ok (.iload 11, 2) := by decide +kernel
theorem dX8_buy_154 : decode cX8_buy 154 = .ok (.iadd, 1) := by decide +kernel
theorem dX8_buy_155 : decode cX8_buy 155 = .ok (.iaload, 1) := by decide +kernel
theorem dX8_buy_156 : decode cX8_buy 156 = .ok (.istore 13, 2) := by decide +kernel
theorem dX8_buy_158 : decode cX8_buy 158 = .ok (.iload 13, 2) := by decide +kernel
theorem dX8_buy_160 : decode cX8_buy 160 = .ok (.iload 9, 2) := by decide +kernel
theorem dX8_buy_162 : decode cX8_buy 162 = .ok (.if_icmp .ge 8, 3) := by decide +kernel
theorem dX8_buy_165 : decode cX8_buy 165 = .ok (.iload 13, 2) := by decide +kernel
theorem dX8_buy_167 : decode cX8_buy 167 = .ok (.goto 5, 3) := by decide +kernel
theorem dX8_buy_170 : decode cX8_buy 170 = .ok (.iload 9, 2) := by decide +kernel
theorem dX8_buy_172 : decode cX8_buy 172 = .ok (.istore 9, 2) := by decide +kernel
theorem dX8_buy_174 : decode cX8_buy 174 = .ok (.iload 12, 2) := by decide +kernel
theorem dX8_buy_176 : decode cX8_buy 176 = .ok (.iload 13, 2) := by decide +kernel
theorem dX8_buy_178 : decode cX8_buy 178 = .ok (.isub, 1) := by decide +kernel
theorem dX8_buy_179 : decode cX8_buy 179 = .ok (.iload 10, 2) := by decide +kernel
theorem dX8_buy_181 : decode cX8_buy 181 = .ok (.if_icmp .le 11, 3) := by decide +kernel
theorem dX8_buy_184 : decode cX8_buy 184 = .ok (.iload 12, 2) := by decide +kernel
theorem dX8_buy_186 : decode cX8_buy 186 = .ok (.iload 13, 2) := by decide +kernel
theorem dX8_buy_188 : decode cX8_buy 188 = .ok (.isub, 1) := by decide +kernel
theorem dX8_buy_189 : decode cX8_buy 189 = .ok (.goto 5, 3) := by decide +kernel
theorem dX8_buy_192 : decode cX8_buy 192 = .ok (.iload 10, 2) := by decide +kernel
theorem dX8_buy_194 : decode cX8_buy 194 = .ok (.istore 10, 2) := by decide +kernel
theorem dX8_buy_196 : decode cX8_buy 196 = .ok (.iinc 11 1, 3) := by decide +kernel
theorem dX8_buy_199 : decode cX8_buy 199 = .ok (.goto (-126), 3) := by decide +kernel
theorem dX8_buy_202 : decode cX8_buy 202 = .ok (.iload 4, 2) := by decide +kernel
theorem dX8_buy_204 : decode cX8_buy 204 = .ok (.bipush (-4), 2) := by decide +kernel
theorem dX8_buy_206 : decode cX8_buy 206 = .ok (.if_icmp .eq 10, 3) := by decide +kernel
theorem dX8_buy_209 : decode cX8_buy 209 = .ok (.iload 9, 2) := by decide +kernel
theorem dX8_buy_211 : decode cX8_buy 211 = .ok (.iload 5, 2) := by decide +kernel
theorem dX8_buy_213 : decode cX8_buy 213 = .ok (.if_icmp .le 11, 3) := by decide +kernel
theorem dX8_buy_216 : decode cX8_buy 216 = .ok (.iload 8, 2) := by decide +kernel
theorem dX8_buy_218 : decode cX8_buy 218 = .ok (.istore 4, 2) := by decide +kernel
theorem dX8_buy_220 : decode cX8_buy 220 = .ok (.iload 9, 2) := by decide +kernel
theorem dX8_buy_222 : decode cX8_buy 222 = .ok (.istore 5, 2) := by decide +kernel
theorem dX8_buy_224 : decode cX8_buy 224 = .ok (.iload 6, 2) := by decide +kernel
theorem dX8_buy_226 : decode cX8_buy 226 = .ok (.bipush (-4), 2) := by decide +kernel
theorem dX8_buy_228 : decode cX8_buy 228 = .ok (.if_icmp .eq 10, 3) := by decide +kernel
theorem dX8_buy_231 : decode cX8_buy 231 = .ok (.iload 10, 2) := by decide +kernel
theorem dX8_buy_233 : decode cX8_buy 233 = .ok (.iload 7, 2) := by decide +kernel
theorem dX8_buy_235 : decode cX8_buy 235 = .ok (.if_icmp .ge 11, 3) := by decide +kernel
theorem dX8_buy_238 : decode cX8_buy 238 = .ok (.iload 8, 2) := by decide +kernel
theorem dX8_buy_240 : decode cX8_buy 240 = .ok (.istore 6, 2) := by decide +kernel
theorem dX8_buy_242 : decode cX8_buy 242 = .ok (.iload 10, 2) := by decide +kernel
theorem dX8_buy_244 : decode cX8_buy 244 = .ok (.istore 7, 2) := by decide +kernel
theorem dX8_buy_246 : decode cX8_buy 246 = .ok (.iinc 8 1, 3) := by decide +kernel
theorem dX8_buy_249 : decode cX8_buy 249 = .ok (.goto (-192), 3) := by decide +kernel
theorem dX8_buy_252 : decode cX8_buy 252 = .ok (.iload_n 3, 1) := by decide +kernel
theorem dX8_buy_253 : decode cX8_buy 253 = .ok (.ifCond .ne 8, 3) := by decide +kernel
theorem dX8_buy_256 : decode cX8_buy 256 = .ok (.iload 4, 2) := by decide +kernel
theorem dX8_buy_258 : decode cX8_buy 258 = .ok (.goto 25, 3) := by decide +kernel
theorem dX8_buy_261 : decode cX8_buy 261 = .ok (.iload_n 3, 1) := by decide +kernel
theorem dX8_buy_262 : decode cX8_buy 262 = .ok (.iconst 1, 1) := by decide +kernel
theorem dX8_buy_263 : decode cX8_buy 263 = .ok (.if_icmp .ne 8, 3) := by decide +kernel
theorem dX8_buy_266 : decode cX8_buy 266 = .ok (.iload 5, 2) := by decide +kernel
theorem dX8_buy_268 : decode cX8_buy 268 = .ok (.goto 15, 3) := by decide +kernel
theorem dX8_buy_271 : decode cX8_buy 271 = .ok (.iload_n 3, 1) := by decide +kernel
theorem dX8_buy_272 : decode cX8_buy 272 = .ok (.iconst 2, 1) := by decide +kernel
theorem dX8_buy_273 : decode cX8_buy 273 = .ok (.if_icmp .ne 8, 3) := by decide +kernel
theorem dX8_buy_276 : decode cX8_buy 276 = .ok (.iload 6, 2) := by decide +kernel
theorem dX8_buy_278 : decode cX8_buy 278 = .ok (.goto 5, 3) := by decide +kernel
theorem dX8_buy_281 : decode cX8_buy 281 = .ok (.iload 7, 2) := by decide +kernel
theorem dX8_buy_283 : decode cX8_buy 283 = .ok (.ireturn, 1) := by decide +kernel
theorem dX8_copy_0 : decode cX8_copy 0 = .ok (.aload_n 0, 1) := by decide +kernel
theorem dX8_copy_1 : decode cX8_copy 1 = .ok (.getfield 19, 3) := by decide +kernel
theorem dX8_copy_4 : decode cX8_copy 4 = .ok (.iload_n 2, 1) := by decide +kernel
theorem dX8_copy_5 : decode cX8_copy 5 = .ok (.aload_n 0, 1) := by decide +kernel
theorem dX8_copy_6 : decode cX8_copy 6 = .ok (.getfield 19, 3) := by decide +kernel
theorem dX8_copy_9 : decode cX8_copy 9 = .ok (.iload_n 1, 1) := by decide +kernel
theorem dX8_copy_10 : decode cX8_copy 10 = .ok (.iaload, 1) := by decide +kernel
theorem dX8_copy_11 : decode cX8_copy 11 = .ok (.iastore, 1) := by decide +kernel
theorem dX8_copy_12 : decode cX8_copy 12 = .ok (.aload_n 0, 1) := by decide +kernel
theorem dX8_copy_13 : decode cX8_copy 13 = .ok (.getfield 25, 3) := by decide +kernel
theorem dX8_copy_16 : decode cX8_copy 16 = .ok (.iload_n 2, 1) := by decide +kernel
theorem dX8_copy_17 : decode cX8_copy 17 = .ok (.aload_n 0, 1) := by decide +kernel
theorem dX8_copy_18 : decode cX8_copy 18 = .ok (.getfield 25, 3) := by decide +kernel
theorem dX8_copy_21 : decode cX8_copy 21 = .ok (.iload_n 1, 1) := by decide +kernel
theorem dX8_copy_22 : decode cX8_copy 22 = .ok (.iaload, 1) := by decide +kernel
theorem dX8_copy_23 : decode cX8_copy 23 = .ok (.iastore, 1) := by decide +kernel
theorem dX8_copy_24 : decode cX8_copy 24 = .ok (.aload_n 0, 1) := by decide +kernel
theorem dX8_copy_25 : decode cX8_copy 25 = .ok (.getfield 31, 3) := by decide +kernel
theorem dX8_copy_28 : decode cX8_copy 28 = .ok (.iload_n 2, 1) := by decide +kernel
theorem dX8_copy_29 : decode cX8_copy 29 = .ok (.aload_n 0, 1) := by decide +kernel
theorem dX8_copy_30 : decode cX8_copy 30 = .ok (.getfield 31, 3) := by decide +kernel
theorem dX8_copy_33 : decode cX8_copy 33 = .ok (.iload_n 1, 1) := by decide +kernel
theorem dX8_copy_34 : decode cX8_copy 34 = .ok (.iaload, 1) := by decide +kernel
theorem dX8_copy_35 : decode cX8_copy 35 = .ok (.iastore, 1) := by decide +kernel
theorem dX8_copy_36 : decode cX8_copy 36 = .ok (.iconst 0, 1) := by decide +kernel
theorem dX8_copy_37 : decode cX8_copy 37 = .ok (.istore_n 3, 1) := by decide +kernel
theorem dX8_copy_38 : decode cX8_copy 38 = .ok (.iload_n 3, 1) := by decide +kernel
theorem dX8_copy_39 : decode cX8_copy 39 = .ok (.bipush 36, 2) := by decide +kernel
theorem dX8_copy_41 : decode cX8_copy 41 = .ok (.if_icmp .ge 31, 3) := by decide +kernel
theorem dX8_copy_44 : decode cX8_copy 44 = .ok (.aload_n 0, 1) := by decide +kernel
theorem dX8_copy_45 : decode cX8_copy 45 = .ok (.getfield 22, 3) := by decide +kernel
theorem dX8_copy_48 : decode cX8_copy 48 = .ok (.bipush 36, 2) := by decide +kernel
theorem dX8_copy_50 : decode cX8_copy 50 = .ok (.iload_n 2, 1) := by decide +kernel
theorem dX8_copy_51 : decode cX8_copy 51 = .ok (.imul, 1) := by decide +kernel
theorem dX8_copy_52 : decode cX8_copy 52 = .ok (.iload_n 3, 1) := by decide +kernel
theorem dX8_copy_53 : decode cX8_copy 53 = .ok (.iadd, 1) := by decide +kernel
theorem dX8_copy_54 : decode cX8_copy 54 = .ok (.aload_n 0, 1) := by decide +kernel
theorem dX8_copy_55 : decode cX8_copy 55 = .ok (.getfield 22, 3) := by decide +kernel
theorem dX8_copy_58 : decode cX8_copy 58 = .ok (.bipush 36, 2) := by decide +kernel
theorem dX8_copy_60 : decode cX8_copy 60 = .ok (.iload_n 1, 1) := by decide +kernel
theorem dX8_copy_61 : decode cX8_copy 61 = .ok (.imul, 1) := by decide +kernel
theorem dX8_copy_62 : decode cX8_copy 62 = .ok (.iload_n 3, 1) := by decide +kernel
theorem dX8_copy_63 : decode cX8_copy 63 = .ok (.iadd, 1) := by decide +kernel
theorem dX8_copy_64 : decode cX8_copy 64 = .ok (.iaload, 1) := by decide +kernel
theorem dX8_copy_65 : decode cX8_copy 65 = .ok (.iastore, 1) := by decide +kernel
theorem dX8_copy_66 : decode cX8_copy 66 = .ok (.iinc 3 1, 3) := by decide +kernel
theorem dX8_copy_69 : decode cX8_copy 69 = .ok (.goto (-31), 3) := by decide +kernel
theorem dX8_copy_72 : decode cX8_copy 72 = .ok (.iconst 0, 1) := by decide +kernel
theorem dX8_copy_73 : decode cX8_copy 73 = .ok (.istore_n 3, 1) := by decide +kernel
theorem dX8_copy_74 : decode cX8_copy 74 = .ok (.iload_n 3, 1) := by decide +kernel
theorem dX8_copy_75 : decode cX8_copy 75 = .ok (.bipush 40, 2) := by decide +kernel
theorem dX8_copy_77 : decode cX8_copy 77 = .ok (.if_icmp .ge 31, 3) := by decide +kernel
theorem dX8_copy_80 : decode cX8_copy 80 = .ok (.aload_n 0, 1) := by decide +kernel
theorem dX8_copy_81 : decode cX8_copy 81 = .ok (.getfield 28, 3) := by decide +kernel
theorem dX8_copy_84 : decode cX8_copy 84 = .ok (.bipush 40, 2) := by decide +kernel
theorem dX8_copy_86 : decode cX8_copy 86 = .ok (.iload_n 2, 1) := by decide +kernel
theorem dX8_copy_87 : decode cX8_copy 87 = .ok (.imul, 1) := by decide +kernel
theorem dX8_copy_88 : decode cX8_copy 88 = .ok (.iload_n 3, 1) := by decide +kernel
theorem dX8_copy_89 : decode cX8_copy 89 = .ok (.iadd, 1) := by decide +kernel
theorem dX8_copy_90 : decode cX8_copy 90 = .ok (.aload_n 0, 1) := by decide +kernel
theorem dX8_copy_91 : decode cX8_copy 91 = .ok (.getfield 28, 3) := by decide +kernel
theorem dX8_copy_94 : decode cX8_copy 94 = .ok (.bipush 40, 2) := by decide +kernel
theorem dX8_copy_96 : decode cX8_copy 96 = .ok (.iload_n 1, 1) := by decide +kernel
theorem dX8_copy_97 : decode cX8_copy 97 = .ok (.imul, 1) := by decide +kernel
theorem dX8_copy_98 : decode cX8_copy 98 = .ok (.iload_n 3, 1) := by decide +kernel
theorem dX8_copy_99 : decode cX8_copy 99 = .ok (.iadd, 1) := by decide +kernel
theorem dX8_copy_100 : decode cX8_copy 100 = .ok (.iaload, 1) := by decide +kernel
theorem dX8_copy_101 : decode cX8_copy 101 = .ok (.iastore, 1) := by decide +kernel
theorem dX8_copy_102 : decode cX8_copy 102 = .ok (.iinc 3 1, 3) := by decide +kernel
theorem dX8_copy_105 : decode cX8_copy 105 = .ok (.goto (-31), 3) := by decide +kernel
theorem dX8_copy_108 : decode cX8_copy 108 = .ok (.iconst 0, 1) := by decide +kernel
theorem dX8_copy_109 : decode cX8_copy 109 = .ok (.istore_n 3, 1) := by decide +kernel
theorem dX8_copy_110 : decode cX8_copy 110 = .ok (.iload_n 3, 1) := by decide +kernel
theorem dX8_copy_111 : decode cX8_copy 111 = .ok (.sipush 180, 3) := by decide +kernel
theorem dX8_copy_114 : decode cX8_copy 114 = .ok (.if_icmp .ge 33, 3) := by decide +kernel
theorem dX8_copy_117 : decode cX8_copy 117 = .ok (.aload_n 0, 1) := by decide +kernel
theorem dX8_copy_118 : decode cX8_copy 118 = .ok (.getfield 34, 3) := by decide +kernel
theorem dX8_copy_121 : decode cX8_copy 121 = .ok (.sipush 180, 3) := by decide +kernel
theorem dX8_copy_124 : decode cX8_copy 124 = .ok (.iload_n 2, 1) := by decide +kernel
theorem dX8_copy_125 : decode cX8_copy 125 = .ok (.imul, 1) := by decide +kernel
theorem dX8_copy_126 : decode cX8_copy 126 = .ok (.iload_n 3, 1) := by decide +kernel
theorem dX8_copy_127 : decode cX8_copy 127 = .ok (.iadd, 1) := by decide +kernel
theorem dX8_copy_128 : decode cX8_copy 128 = .ok (.aload_n 0, 1) := by decide +kernel
theorem dX8_copy_129 : decode cX8_copy 129 = .ok (.getfield 34, 3) := by decide +kernel
theorem dX8_copy_132 : decode cX8_copy 132 = .ok (.sipush 180, 3) := by decide +kernel
theorem dX8_copy_135 : decode cX8_copy 135 = .ok (.iload_n 1, 1) := by decide +kernel
theorem dX8_copy_136 : decode cX8_copy 136 = .ok (.imul, 1) := by decide +kernel
theorem dX8_copy_137 : decode cX8_copy 137 = .ok (.iload_n 3, 1) := by decide +kernel
theorem dX8_copy_138 : decode cX8_copy 138 = .ok (.iadd, 1) := by decide +kernel
theorem dX8_copy_139 : decode cX8_copy 139 = .ok (.iaload, 1) := by decide +kernel
theorem dX8_copy_140 : decode cX8_copy 140 = .ok (.iastore, 1) := by decide +kernel
theorem dX8_copy_141 : decode cX8_copy 141 = .ok (.iinc 3 1, 3) := by decide +kernel
theorem dX8_copy_144 : decode cX8_copy 144 = .ok (.goto (-34), 3) := by decide +kernel
theorem dX8_copy_147 : decode cX8_copy 147 = .ok (.iconst 0, 1) := by decide +kernel
theorem dX8_copy_148 : decode cX8_copy 148 = .ok (.istore_n 3, 1) := by decide +kernel
theorem dX8_copy_149 : decode cX8_copy 149 = .ok (.iload_n 3, 1) := by decide +kernel
theorem dX8_copy_150 : decode cX8_copy 150 = .ok (.bipush 20, 2) := by decide +kernel
theorem dX8_copy_152 : decode cX8_copy 152 = .ok (.if_icmp .ge 31, 3) := by decide +kernel
theorem dX8_copy_155 : decode cX8_copy 155 = .ok (.aload_n 0, 1) := by decide +kernel
theorem dX8_copy_156 : decode cX8_copy 156 = .ok (.getfield 37, 3) := by decide +kernel
theorem dX8_copy_159 : decode cX8_copy 159 = .ok (.bipush 20, 2) := by decide +kernel
theorem dX8_copy_161 : decode cX8_copy 161 = .ok (.iload_n 2, 1) := by decide +kernel
theorem dX8_copy_162 : decode cX8_copy 162 = .ok (.imul, 1) := by decide +kernel
theorem dX8_copy_163 : decode cX8_copy 163 = .ok (.iload_n 3, 1) := by decide +kernel
theorem dX8_copy_164 : decode cX8_copy 164 = .ok (.iadd, 1) := by decide +kernel
theorem dX8_copy_165 : decode cX8_copy 165 = .ok (.aload_n 0, 1) := by decide +kernel
theorem dX8_copy_166 : decode cX8_copy 166 = .ok (.getfield 37, 3) := by decide +kernel
theorem dX8_copy_169 : decode cX8_copy 169 = .ok (.bipush 20, 2) := by decide +kernel
theorem dX8_copy_171 : decode cX8_copy 171 = .ok (.iload_n 1, 1) := by decide +kernel
theorem dX8_copy_172 : decode cX8_copy 172 = .ok (.imul, 1) := by decide +kernel
theorem dX8_copy_173 : decode cX8_copy 173 = .ok (.iload_n 3, 1) := by decide +kernel
theorem dX8_copy_174 : decode cX8_copy 174 = .ok (.iadd, 1) := by decide +kernel
theorem dX8_copy_175 : decode cX8_copy 175 = .ok (.iaload, 1) := by decide +kernel
theorem dX8_copy_176 : decode cX8_copy 176 = .ok (.iastore, 1) := by decide +kernel
theorem dX8_copy_177 : decode cX8_copy 177 = .ok (.iinc 3 1, 3) := by decide +kernel
theorem dX8_copy_180 : decode cX8_copy 180 = .ok (.goto (-31), 3) := by decide +kernel
theorem dX8_copy_183 : decode cX8_copy 183 = .ok (.iconst 0, 1) := by decide +kernel
theorem dX8_copy_184 : decode cX8_copy 184 = .ok (.istore_n 3, 1) := by decide +kernel
theorem dX8_copy_185 : decode cX8_copy 185 = .ok (.iload_n 3, 1) := by decide +kernel
theorem dX8_copy_186 : decode cX8_copy 186 = .ok (.bipush 10, 2) := by decide +kernel
theorem dX8_copy_188 : decode cX8_copy 188 = .ok (.if_icmp .ge 31, 3) := by decide +kernel
theorem dX8_copy_191 : decode cX8_copy 191 = .ok (.aload_n 0, 1) := by decide +kernel
theorem dX8_copy_192 : decode cX8_copy 192 = .ok (.getfield 40, 3) := by decide +kernel
theorem dX8_copy_195 : decode cX8_copy 195 = .ok (.bipush 10, 2) := by decide +kernel
theorem dX8_copy_197 : decode cX8_copy 197 = .ok (.iload_n 2, 1) := by decide +kernel
theorem dX8_copy_198 : decode cX8_copy 198 = .ok (.imul, 1) := by decide +kernel
theorem dX8_copy_199 : decode cX8_copy 199 = .ok (.iload_n 3, 1) := by decide +kernel
theorem dX8_copy_200 : decode cX8_copy 200 = .ok (.iadd, 1) := by decide +kernel
theorem dX8_copy_201 : decode cX8_copy 201 = .ok (.aload_n 0, 1) := by decide +kernel
theorem dX8_copy_202 : decode cX8_copy 202 = .ok (.getfield 40, 3) := by decide +kernel
theorem dX8_copy_205 : decode cX8_copy 205 = .ok (.bipush 10, 2) := by decide +kernel
theorem dX8_copy_207 : decode cX8_copy 207 = .ok (.iload_n 1, 1) := by decide +kernel
theorem dX8_copy_208 : decode cX8_copy 208 = .ok (.imul, 1) := by decide +kernel
theorem dX8_copy_209 : decode cX8_copy 209 = .ok (.iload_n 3, 1) := by decide +kernel
theorem dX8_copy_210 : decode cX8_copy 210 = .ok (.iadd, 1) := by decide +kernel
theorem dX8_copy_211 : decode cX8_copy 211 = .ok (.iaload, 1) := by decide +kernel
theorem dX8_copy_212 : decode cX8_copy 212 = .ok (.iastore, 1) := by decide +kernel
theorem dX8_copy_213 : decode cX8_copy 213 = .ok (.iinc 3 1, 3) := by decide +kernel
theorem dX8_copy_216 : decode cX8_copy 216 = .ok (.goto (-31), 3) := by decide +kernel
theorem dX8_copy_219 : decode cX8_copy 219 = .ok (.return_, 1) := by decide +kernel
theorem dX8_keep_0 : decode cX8_keep 0 = .ok (.aload_n 0, 1) := by decide +kernel
theorem dX8_keep_1 : decode cX8_keep 1 = .ok (.getfield 231, 3) := by decide +kernel
theorem dX8_keep_4 : decode cX8_keep 4 = .ok (.iconst 2, 1) := by decide +kernel
theorem dX8_keep_5 : decode cX8_keep 5 = .ok (.if_icmp .ne 6, 3) := by decide +kernel
theorem dX8_keep_8 : decode cX8_keep 8 = .ok (.bipush (-3), 2) := by decide +kernel
theorem dX8_keep_10 : decode cX8_keep 10 = .ok (.ireturn, 1) := by decide +kernel
theorem dX8_keep_11 : decode cX8_keep 11 = .ok (.aload_n 0, 1) := by decide +kernel
theorem dX8_keep_12 : decode cX8_keep 12 = .ok (.iconst 0, 1) := by decide +kernel
theorem dX8_keep_13 : decode cX8_keep 13 = .ok (.iconst 1, 1) := by decide +kernel
theorem dX8_keep_14 : decode cX8_keep 14 = .ok (.aload_n 0, 1) := by decide +kernel
theorem dX8_keep_15 : decode cX8_keep 15 = .ok (.getfield 231, 3) := by decide +kernel
theorem dX8_keep_18 : decode cX8_keep 18 = .ok (.iadd, 1) := by decide +kernel
theorem dX8_keep_19 : decode cX8_keep 19 = .ok (.invokevirtual 234, 3) := by decide +kernel
theorem dX8_keep_22 : decode cX8_keep 22 = .ok (.aload_n 0, 1) := by decide +kernel
theorem dX8_keep_23 : decode cX8_keep 23 = .ok (.dup, 1) := by decide +kernel
theorem dX8_keep_24 : decode cX8_keep 24 = .ok (.getfield 231, 3) := by decide +kernel
theorem dX8_keep_27 : decode cX8_keep 27 = .ok (.iconst 1, 1) := by decide +kernel
theorem dX8_keep_28 : decode cX8_keep 28 = .ok (.iadd, 1) := by decide +kernel
theorem dX8_keep_29 : decode cX8_keep 29 = .ok (.putfield 231, 3) := by decide +kernel
theorem dX8_keep_32 : decode cX8_keep 32 = .ok (.aload_n 0, 1) := by decide +kernel
theorem dX8_keep_33 : decode cX8_keep 33 = .ok (.getfield 231, 3) := by decide +kernel
theorem dX8_keep_36 : decode cX8_keep 36 = .ok (.ireturn, 1) := by decide +kernel
end
section
theorem dX8_back_0 : decode cX8_back 0 = .ok (.aload_n 0, 1) := by decide +kernel
theorem dX8_back_1 : decode cX8_back 1 = .ok (.getfield 231, 3) := by decide +kernel
theorem dX8_back_4 : decode cX8_back 4 = .ok (.ifCond .ne 6, 3) := by decide +kernel
theorem dX8_back_7 : decode cX8_back 7 = .ok (.bipush (-2), 2) := by decide +kernel
theorem dX8_back_9 : decode cX8_back 9 = .ok (.ireturn, 1) := by decide +kernel
theorem dX8_back_10 : decode cX8_back 10 = .ok (.aload_n 0, 1) := by decide +kernel
theorem dX8_back_11 : decode cX8_back 11 = .ok (.dup, 1) := by decide +kernel
theorem dX8_back_12 : decode cX8_back 12 = .ok (.getfield 231, 3) := by decide +kernel
theorem dX8_back_15 : decode cX8_back 15 = .ok (.iconst 1, 1) := by decide +kernel
theorem dX8_back_16 : decode cX8_back 16 = .ok (.isub, 1) := by decide +kernel
theorem dX8_back_17 : decode cX8_back 17 = .ok (.putfield 231, 3) := by decide +kernel
theorem dX8_back_20 : decode cX8_back 20 = .ok (.aload_n 0, 1) := by decide +kernel
theorem dX8_back_21 : decode cX8_back 21 = .ok (.iconst 1, 1) := by decide +kernel
theorem dX8_back_22 : decode cX8_back 22 = .ok (.aload_n 0, 1) := by decide +kernel
theorem dX8_back_23 : decode cX8_back 23 = .ok (.getfield 231, 3) := by decide +kernel
theorem dX8_back_26 : decode cX8_back 26 = .ok (.iadd, 1) := by decide +kernel
theorem dX8_back_27 : decode cX8_back 27 = .ok (.iconst 0, 1) := by decide +kernel
theorem dX8_back_28 : decode cX8_back 28 = .ok (.invokevirtual 234, 3) := by decide +kernel
theorem dX8_back_31 : decode cX8_back 31 = .ok (.aload_n 0, 1) := by decide +kernel
theorem dX8_back_32 : decode cX8_back 32 = .ok (.getfield 231, 3) := by decide +kernel
theorem dX8_back_35 : decode cX8_back 35 = .ok (.ireturn, 1) := by decide +kernel
theorem dX8_count_0 : decode cX8_count 0 = .ok (.iconst 0, 1) := by decide +kernel
theorem dX8_count_1 : decode cX8_count 1 = .ok (.istore_n 2, 1) := by decide +kernel
theorem dX8_count_2 : decode cX8_count 2 = .ok (.iload_n 1, 1) := by decide +kernel
theorem dX8_count_3 : decode cX8_count 3 = .ok (.tableswitch 188 0 8 #[49, 56, 63, 98, 105, 138, 143, 150, 155], 49) := by decide +kernel
theorem dX8_count_52 : decode cX8_count 52 = .ok (.aload_n 0, 1) := by decide +kernel
theorem dX8_count_53 : decode cX8_count 53 = .ok (.getfield 19, 3) := by decide +kernel
theorem dX8_count_56 : decode cX8_count 56 = .ok (.iconst 0, 1) := by decide +kernel
theorem dX8_count_57 : decode cX8_count 57 = .ok (.iaload, 1) := by decide +kernel
theorem dX8_count_58 : decode cX8_count 58 = .ok (.ireturn, 1) := by decide +kernel
theorem dX8_count_59 : decode cX8_count 59 = .ok (.aload_n 0, 1) := by decide +kernel
theorem dX8_count_60 : decode cX8_count 60 = .ok (.getfield 25, 3) := by decide +kernel
theorem dX8_count_63 : decode cX8_count 63 = .ok (.iconst 0, 1) := by decide +kernel
theorem dX8_count_64 : decode cX8_count 64 = .ok (.iaload, 1) := by decide +kernel
theorem dX8_count_65 : decode cX8_count 65 = .ok (.ireturn, 1) := by decide +kernel
theorem dX8_count_66 : decode cX8_count 66 = .ok (.iconst 0, 1) := by decide +kernel
theorem dX8_count_67 : decode cX8_count 67 = .ok (.istore_n 3, 1) := by decide +kernel
theorem dX8_count_68 : decode cX8_count 68 = .ok (.iload_n 3, 1) := by decide +kernel
theorem dX8_count_69 : decode cX8_count 69 = .ok (.bipush 10, 2) := by decide +kernel
theorem dX8_count_71 : decode cX8_count 71 = .ok (.if_icmp .ge 28, 3) := by decide +kernel
theorem dX8_count_74 : decode cX8_count 74 = .ok (.iload_n 2, 1) := by decide +kernel
theorem dX8_count_75 : decode cX8_count 75 = .ok (.aload_n 0, 1) := by decide +kernel
theorem dX8_count_76 : decode cX8_count 76 = .ok (.getfield 37, 3) := by decide +kernel
theorem dX8_count_79 : decode cX8_count 79 = .ok (.iconst 2, 1) := by decide +kernel
theorem dX8_count_80 : decode cX8_count 80 = .ok (.iload_n 3, 1) := by decide +kernel
theorem dX8_count_81 : decode cX8_count 81 = .ok (.imul, 1) := by decide +kernel
theorem dX8_count_82 : decode cX8_count 82 = .ok (.iaload, 1) := by decide +kernel
theorem dX8_count_83 : decode cX8_count 83 = .ok (.ifCond .lt 7, 3) := by decide +kernel
theorem dX8_count_86 : decode cX8_count 86 = .ok (.iconst 1, 1) := by decide +kernel
theorem dX8_count_87 : decode cX8_count 87 = .ok (.goto 4, 3) := by decide +kernel
theorem dX8_count_90 : decode cX8_count 90 = .ok (.iconst 0, 1) := by decide +kernel
theorem dX8_count_91 : decode cX8_count 91 = .ok (.iadd, 1) := by decide +kernel
theorem dX8_count_92 : decode cX8_count 92 = .ok (.istore_n 2, 1) := by decide +kernel
theorem dX8_count_93 : decode cX8_count 93 = .ok (.iinc 3 1, 3) := by decide +kernel
theorem dX8_count_96 : decode cX8_count 96 = .ok (.goto (-28), 3) := by decide +kernel
theorem dX8_count_99 : decode cX8_count 99 = .ok (.iload_n 2, 1) := by decide +kernel
theorem dX8_count_100 : decode cX8_count 100 = .ok (.ireturn, 1) := by decide +kernel
theorem dX8_count_101 : decode cX8_count 101 = .ok (.aload_n 0, 1) := by decide +kernel
theorem dX8_count_102 : decode cX8_count 102 = .ok (.getfield 31, 3) := by decide +kernel
theorem dX8_count_105 : decode cX8_count 105 = .ok (.iconst 0, 1) := by decide +kernel
theorem dX8_count_106 : decode cX8_count 106 = .ok (.iaload, 1) := by decide +kernel
theorem dX8_count_107 : decode cX8_count 107 = .ok (.ireturn, 1) := by decide +kernel
theorem dX8_count_108 : decode cX8_count 108 = .ok (.iconst 0, 1) := by decide +kernel
theorem dX8_count_109 : decode cX8_count 109 = .ok (.istore_n 3, 1) := by decide +kernel
theorem dX8_count_110 : decode cX8_count 110 = .ok (.iload_n 3, 1) := by decide +kernel
theorem dX8_count_111 : decode cX8_count 111 = .ok (.bipush 10, 2) := by decide +kernel
theorem dX8_count_113 : decode cX8_count 113 = .ok (.if_icmp .ge 26, 3) := by decide +kernel
theorem dX8_count_116 : decode cX8_count 116 = .ok (.iload_n 2, 1) := by decide +kernel
theorem dX8_count_117 : decode cX8_count 117 = .ok (.aload_n 0, 1) := by decide +kernel
theorem dX8_count_118 : decode cX8_count 118 = .ok (.getfield 40, 3) := by decide +kernel
theorem dX8_count_121 : decode cX8_count 121 = .ok (.iload_n 3, 1) := by decide +kernel
theorem dX8_count_122 : decode cX8_count 122 = .ok (.iaload, 1) := by decide +kernel
theorem dX8_count_123 : decode cX8_count 123 = .ok (.ifCond .lt 7, 3) := by decide +kernel
theorem dX8_count_126 : decode cX8_count 126 = .ok (.iconst 1, 1) := by decide +kernel
theorem dX8_count_127 : decode cX8_count 127 = .ok (.goto 4, 3) := by decide +kernel
theorem dX8_count_130 : decode cX8_count 130 = .ok (.iconst 0, 1) := by decide +kernel
theorem dX8_count_131 : decode cX8_count 131 = .ok (.iadd, 1) := by decide +kernel
theorem dX8_count_132 : decode cX8_count 132 = .ok (.istore_n 2, 1) := by decide +kernel
theorem dX8_count_133 : decode cX8_count 133 = .ok (.iinc 3 1, 3) := by decide +kernel
theorem dX8_count_136 : decode cX8_count 136 = .ok (.goto (-26), 3) := by decide +kernel
theorem dX8_count_139 : decode cX8_count 139 = .ok (.iload_n 2, 1) := by decide +kernel
theorem dX8_count_140 : decode cX8_count 140 = .ok (.ireturn, 1) := by decide +kernel
theorem dX8_count_141 : decode cX8_count 141 = .ok (.aload_n 0, 1) := by decide +kernel
theorem dX8_count_142 : decode cX8_count 142 = .ok (.getfield 165, 3) := by decide +kernel
theorem dX8_count_145 : decode cX8_count 145 = .ok (.ireturn, 1) := by decide +kernel
theorem dX8_count_146 : decode cX8_count 146 = .ok (.aload_n 0, 1) := by decide +kernel
theorem dX8_count_147 : decode cX8_count 147 = .ok (.getfield 50, 3) := by decide +kernel
theorem dX8_count_150 : decode cX8_count 150 = .ok (.iconst 1, 1) := by decide +kernel
theorem dX8_count_151 : decode cX8_count 151 = .ok (.iaload, 1) := by decide +kernel
theorem dX8_count_152 : decode cX8_count 152 = .ok (.ireturn, 1) := by decide +kernel
theorem dX8_count_153 : decode cX8_count 153 = .ok (.aload_n 0, 1) := by decide +kernel
theorem dX8_count_154 : decode cX8_count 154 = .ok (.getfield 231, 3) := by decide +kernel
theorem dX8_count_157 : decode cX8_count 157 = .ok (.ireturn, 1) := by decide +kernel
theorem dX8_count_158 : decode cX8_count 158 = .ok (.iconst 0, 1) := by decide +kernel
theorem dX8_count_159 : decode cX8_count 159 = .ok (.istore_n 3, 1) := by decide +kernel
theorem dX8_count_160 : decode cX8_count 160 = .ok (.iload_n 3, 1) := by decide +kernel
theorem dX8_count_161 : decode cX8_count 161 = .ok (.bipush 36, 2) := by decide +kernel
theorem dX8_count_163 : decode cX8_count 163 = .ok (.if_icmp .ge 26, 3) := by decide +kernel
theorem dX8_count_166 : decode cX8_count 166 = .ok (.iload_n 2, 1) := by decide +kernel
theorem dX8_count_167 : decode cX8_count 167 = .ok (.aload_n 0, 1) := by decide +kernel
theorem dX8_count_168 : decode cX8_count 168 = .ok (.getfield 7, 3) := by decide +kernel
theorem dX8_count_171 : decode cX8_count 171 = .ok (.iload_n 3, 1) := by decide +kernel
theorem dX8_count_172 : decode cX8_count 172 = .ok (.iaload, 1) := by decide +kernel
theorem dX8_count_173 : decode cX8_count 173 = .ok (.ifCond .le 7, 3) := by decide +kernel
theorem dX8_count_176 : decode cX8_count 176 = .ok (.iconst 1, 1) := by decide +kernel
theorem dX8_count_177 : decode cX8_count 177 = .ok (.goto 4, 3) := by decide +kernel
theorem dX8_count_180 : decode cX8_count 180 = .ok (.iconst 0, 1) := by decide +kernel
theorem dX8_count_181 : decode cX8_count 181 = .ok (.iadd, 1) := by decide +kernel
theorem dX8_count_182 : decode cX8_count 182 = .ok (.istore_n 2, 1) := by decide +kernel
theorem dX8_count_183 : decode cX8_count 183 = .ok (.iinc 3 1, 3) := by decide +kernel
theorem dX8_count_186 : decode cX8_count 186 = .ok (.goto (-26), 3) := by decide +kernel
theorem dX8_count_189 : decode cX8_count 189 = .ok (.iload_n 2, 1) := by decide +kernel
theorem dX8_count_190 : decode cX8_count 190 = .ok (.ireturn, 1) := by decide +kernel
theorem dX8_count_191 : decode cX8_count 191 = .ok (.iconst (-1), 1) := by decide +kernel
theorem dX8_count_192 : decode cX8_count 192 = .ok (.ireturn, 1) := by decide +kernel
theorem dJ6_bitCount_0f7a4_0 : decode cJ6_bitCount_0f7a4 0 = .ok (.iload_n 0, 1) := by decide +kernel
theorem dJ6_bitCount_0f7a4_1 : decode cJ6_bitCount_0f7a4 1 = .ok (.iload_n 0, 1) := by decide +kernel
theorem dJ6_bitCount_0f7a4_2 : decode cJ6_bitCount_0f7a4 2 = .ok (.iconst 1, 1) := by decide +kernel
theorem dJ6_bitCount_0f7a4_3 : decode cJ6_bitCount_0f7a4 3 = .ok (.iushr, 1) := by decide +kernel
theorem dJ6_bitCount_0f7a4_4 : decode cJ6_bitCount_0f7a4 4 = .ok (.ldc_w 265, 3) := by decide +kernel
theorem dJ6_bitCount_0f7a4_7 : decode cJ6_bitCount_0f7a4 7 = .ok (.iand, 1) := by decide +kernel
theorem dJ6_bitCount_0f7a4_8 : decode cJ6_bitCount_0f7a4 8 = .ok (.isub, 1) := by decide +kernel
theorem dJ6_bitCount_0f7a4_9 : decode cJ6_bitCount_0f7a4 9 = .ok (.istore_n 0, 1) := by decide +kernel
theorem dJ6_bitCount_0f7a4_10 : decode cJ6_bitCount_0f7a4 10 = .ok (.iload_n 0, 1) := by decide +kernel
theorem dJ6_bitCount_0f7a4_11 : decode cJ6_bitCount_0f7a4 11 = .ok (.ldc_w 266, 3) := by decide +kernel
theorem dJ6_bitCount_0f7a4_14 : decode cJ6_bitCount_0f7a4 14 = .ok (.iand, 1) := by decide +kernel
theorem dJ6_bitCount_0f7a4_15 : decode cJ6_bitCount_0f7a4 15 = .ok (.iload_n 0, 1) := by decide +kernel
theorem dJ6_bitCount_0f7a4_16 : decode cJ6_bitCount_0f7a4 16 = .ok (.iconst 2, 1) := by decide +kernel
theorem dJ6_bitCount_0f7a4_17 : decode cJ6_bitCount_0f7a4 17 = .ok (.iushr, 1) := by decide +kernel
theorem dJ6_bitCount_0f7a4_18 : decode cJ6_bitCount_0f7a4 18 = .ok (.ldc_w 266, 3) := by decide +kernel
theorem dJ6_bitCount_0f7a4_21 : decode cJ6_bitCount_0f7a4 21 = .ok (.iand, 1) := by decide +kernel
theorem dJ6_bitCount_0f7a4_22 : decode cJ6_bitCount_0f7a4 22 = .ok (.iadd, 1) := by decide +kernel
theorem dJ6_bitCount_0f7a4_23 : decode cJ6_bitCount_0f7a4 23 = .ok (.istore_n 0, 1) := by decide +kernel
theorem dJ6_bitCount_0f7a4_24 : decode cJ6_bitCount_0f7a4 24 = .ok (.iload_n 0, 1) := by decide +kernel
theorem dJ6_bitCount_0f7a4_25 : decode cJ6_bitCount_0f7a4 25 = .ok (.iload_n 0, 1) := by decide +kernel
theorem dJ6_bitCount_0f7a4_26 : decode cJ6_bitCount_0f7a4 26 = .ok (.iconst 4, 1) := by decide +kernel
theorem dJ6_bitCount_0f7a4_27 : decode cJ6_bitCount_0f7a4 27 = .ok (.iushr, 1) := by decide +kernel
theorem dJ6_bitCount_0f7a4_28 : decode cJ6_bitCount_0f7a4 28 = .ok (.iadd, 1) := by decide +kernel
theorem dJ6_bitCount_0f7a4_29 : decode cJ6_bitCount_0f7a4 29 = .ok (.ldc_w 267, 3) := by decide +kernel
theorem dJ6_bitCount_0f7a4_32 : decode cJ6_bitCount_0f7a4 32 = .ok (.iand, 1) := by decide +kernel
theorem dJ6_bitCount_0f7a4_33 : decode cJ6_bitCount_0f7a4 33 = .ok (.istore_n 0, 1) := by decide +kernel
theorem dJ6_bitCount_0f7a4_34 : decode cJ6_bitCount_0f7a4 34 = .ok (.iload_n 0, 1) := by decide +kernel
theorem dJ6_bitCount_0f7a4_35 : decode cJ6_bitCount_0f7a4 35 = .ok (.iload_n 0, 1) := by decide +kernel
theorem dJ6_bitCount_0f7a4_36 : decode cJ6_bitCount_0f7a4 36 = .ok (.bipush 8, 2) := by decide +kernel
theorem dJ6_bitCount_0f7a4_38 : decode cJ6_bitCount_0f7a4 38 = .ok (.iushr, 1) := by decide +kernel
theorem dJ6_bitCount_0f7a4_39 : decode cJ6_bitCount_0f7a4 39 = .ok (.iadd, 1) := by decide +kernel
theorem dJ6_bitCount_0f7a4_40 : decode cJ6_bitCount_0f7a4 40 = .ok (.istore_n 0, 1) := by decide +kernel
theorem dJ6_bitCount_0f7a4_41 : decode cJ6_bitCount_0f7a4 41 = .ok (.iload_n 0, 1) := by decide +kernel
theorem dJ6_bitCount_0f7a4_42 : decode cJ6_bitCount_0f7a4 42 = .ok (.iload_n 0, 1) := by decide +kernel
theorem dJ6_bitCount_0f7a4_43 : decode cJ6_bitCount_0f7a4 43 = .ok (.bipush 16, 2) := by decide +kernel
theorem dJ6_bitCount_0f7a4_45 : decode cJ6_bitCount_0f7a4 45 = .ok (.iushr, 1) := by decide +kernel
theorem dJ6_bitCount_0f7a4_46 : decode cJ6_bitCount_0f7a4 46 = .ok (.iadd, 1) := by decide +kernel
theorem dJ6_bitCount_0f7a4_47 : decode cJ6_bitCount_0f7a4 47 = .ok (.istore_n 0, 1) := by decide +kernel
theorem dJ6_bitCount_0f7a4_48 : decode cJ6_bitCount_0f7a4 48 = .ok (.iload_n 0, 1) := by decide +kernel
theorem dJ6_bitCount_0f7a4_49 : decode cJ6_bitCount_0f7a4 49 = .ok (.bipush 63, 2) := by decide +kernel
theorem dJ6_bitCount_0f7a4_51 : decode cJ6_bitCount_0f7a4 51 = .ok (.iand, 1) := by decide +kernel
theorem dJ6_bitCount_0f7a4_52 : decode cJ6_bitCount_0f7a4 52 = .ok (.ireturn, 1) := by decide +kernel
theorem dJ9_abs_0f7a4_0 : decode cJ9_abs_0f7a4 0 = .ok (.iload_n 0, 1) := by decide +kernel
theorem dJ9_abs_0f7a4_1 : decode cJ9_abs_0f7a4 1 = .ok (.ifCond .ge 8, 3) := by decide +kernel
theorem dJ9_abs_0f7a4_4 : decode cJ9_abs_0f7a4 4 = .ok (.iload_n 0, 1) := by decide +kernel
theorem dJ9_abs_0f7a4_5 : decode cJ9_abs_0f7a4 5 = .ok (.ineg, 1) := by decide +kernel
theorem dJ9_abs_0f7a4_6 : decode cJ9_abs_0f7a4 6 = .ok (.goto 4, 3) := by decide +kernel
theorem dJ9_abs_0f7a4_9 : decode cJ9_abs_0f7a4 9 = .ok (.iload_n 0, 1) := by decide +kernel
theorem dJ9_abs_0f7a4_10 : decode cJ9_abs_0f7a4 10 = .ok (.ireturn, 1) := by decide +kernel
theorem dJ9_max_7cf53_0 : decode cJ9_max_7cf53 0 = .ok (.iload_n 0, 1) := by decide +kernel
theorem dJ9_max_7cf53_1 : decode cJ9_max_7cf53 1 = .ok (.iload_n 1, 1) := by decide +kernel
theorem dJ9_max_7cf53_2 : decode cJ9_max_7cf53 2 = .ok (.if_icmp .lt 7, 3) := by decide +kernel
theorem dJ9_max_7cf53_5 : decode cJ9_max_7cf53 5 = .ok (.iload_n 0, 1) := by decide +kernel
theorem dJ9_max_7cf53_6 : decode cJ9_max_7cf53 6 = .ok (.goto 4, 3) := by decide +kernel
theorem dJ9_max_7cf53_9 : decode cJ9_max_7cf53 9 = .ok (.iload_n 1, 1) := by decide +kernel
theorem dJ9_max_7cf53_10 : decode cJ9_max_7cf53 10 = .ok (.ireturn, 1) := by decide +kernel
theorem dJ9_min_7cf53_0 : decode cJ9_min_7cf53 0 = .ok (.iload_n 0, 1) := by decide +kernel
theorem dJ9_min_7cf53_1 : decode cJ9_min_7cf53 1 = .ok (.iload_n 1, 1) := by decide +kernel
theorem dJ9_min_7cf53_2 : decode cJ9_min_7cf53 2 = .ok (.if_icmp .gt 7, 3) := by decide +kernel
theorem dJ9_min_7cf53_5 : decode cJ9_min_7cf53 5 = .ok (.iload_n 0, 1) := by decide +kernel
theorem dJ9_min_7cf53_6 : decode cJ9_min_7cf53 6 = .ok (.goto 4, 3) := by decide +kernel
theorem dJ9_min_7cf53_9 : decode cJ9_min_7cf53 9 = .ok (.iload_n 1, 1) := by decide +kernel
theorem dJ9_min_7cf53_10 : decode cJ9_min_7cf53 10 = .ok (.ireturn, 1) := by decide +kernel
theorem dJ0_length_8abf5_0 : decode cJ0_length_8abf5 0 = .ok (.aload_n 0, 1) := by decide +kernel
theorem dJ0_length_8abf5_1 : decode cJ0_length_8abf5 1 = .ok (.getfield 9, 3) := by decide +kernel
theorem dJ0_length_8abf5_4 : decode cJ0_length_8abf5 4 = .ok (.arraylength, 1) := by decide +kernel
theorem dJ0_length_8abf5_5 : decode cJ0_length_8abf5 5 = .ok (.aload_n 0, 1) := by decide +kernel
theorem dJ0_length_8abf5_6 : decode cJ0_length_8abf5 6 = .ok (.invokevirtual 335, 3) := by decide +kernel
theorem dJ0_length_8abf5_9 : decode cJ0_length_8abf5 9 = .ok (.ishr, 1) := by decide +kernel
theorem dJ0_length_8abf5_10 : decode cJ0_length_8abf5 10 = .ok (.ireturn, 1) := by decide +kernel
theorem dJ0_charAt_5068e_0 : decode cJ0_charAt_5068e 0 = .ok (.aload_n 0, 1) := by decide +kernel
theorem dJ0_charAt_5068e_1 : decode cJ0_charAt_5068e 1 = .ok (.invokevirtual 492, 3) := by decide +kernel
theorem dJ0_charAt_5068e_4 : decode cJ0_charAt_5068e 4 = .ok (.ifCond .eq 12, 3) := by decide +kernel
theorem dJ0_charAt_5068e_7 : decode cJ0_charAt_5068e 7 = .ok (.aload_n 0, 1) := by decide +kernel
theorem dJ0_charAt_5068e_8 : decode cJ0_charAt_5068e 8 = .ok (.getfield 9, 3) := by decide +kernel
theorem dJ0_charAt_5068e_11 : decode cJ0_charAt_5068e 11 = .ok (.iload_n 1, 1) := by decide +kernel
theorem dJ0_charAt_5068e_12 : decode cJ0_charAt_5068e 12 = .ok (.invokestatic 495, 3) := by decide +kernel
theorem dJ0_charAt_5068e_15 : decode cJ0_charAt_5068e 15 = .ok (.ireturn, 1) := by decide +kernel
theorem dJ0_charAt_5068e_16 : decode cJ0_charAt_5068e 16 = .ok (.aload_n 0, 1) := by decide +kernel
theorem dJ0_charAt_5068e_17 : decode cJ0_charAt_5068e 17 = .ok (.getfield 9, 3) := by decide +kernel
theorem dJ0_charAt_5068e_20 : decode cJ0_charAt_5068e 20 = .ok (.iload_n 1, 1) := by decide +kernel
theorem dJ0_charAt_5068e_21 : decode cJ0_charAt_5068e 21 = .ok (.invokestatic 498, 3) := by decide +kernel
theorem dJ0_charAt_5068e_24 : decode cJ0_charAt_5068e 24 = .ok (.ireturn, 1) := by decide +kernel
theorem dJ0_coder_7d493_0 : decode cJ0_coder_7d493 0 = .ok (.getstatic 38, 3) := by decide +kernel
theorem dJ0_coder_7d493_3 : decode cJ0_coder_7d493 3 = .ok (.ifCond .eq 10, 3) := by decide +kernel
theorem dJ0_coder_7d493_6 : decode cJ0_coder_7d493 6 = .ok (.aload_n 0, 1) := by decide +kernel
theorem dJ0_coder_7d493_7 : decode cJ0_coder_7d493 7 = .ok (.getfield 15, 3) := by decide +kernel
theorem dJ0_coder_7d493_10 : decode cJ0_coder_7d493 10 = .ok (.goto 4, 3) := by decide +kernel
theorem dJ0_coder_7d493_13 : decode cJ0_coder_7d493 13 = .ok (.iconst 1, 1) := by decide +kernel
theorem dJ0_coder_7d493_14 : decode cJ0_coder_7d493 14 = .ok (.ireturn, 1) := by decide +kernel
theorem dJ0_isLatin1_aae02_0 : decode cJ0_isLatin1_aae02 0 = .ok (.getstatic 38, 3) := by decide +kernel
theorem dJ0_isLatin1_aae02_3 : decode cJ0_isLatin1_aae02 3 = .ok (.ifCond .eq 14, 3) := by decide +kernel
theorem dJ0_isLatin1_aae02_6 : decode cJ0_isLatin1_aae02 6 = .ok (.aload_n 0, 1) := by decide +kernel
theorem dJ0_isLatin1_aae02_7 : decode cJ0_isLatin1_aae02 7 = .ok (.getfield 15, 3) := by decide +kernel
theorem dJ0_isLatin1_aae02_10 : decode cJ0_isLatin1_aae02 10 = .ok (.ifCond .ne 7, 3) := by decide +kernel
theorem dJ0_isLatin1_aae02_13 : decode cJ0_isLatin1_aae02 13 = .ok (.iconst 1, 1) := by decide +kernel
theorem dJ0_isLatin1_aae02_14 : decode cJ0_isLatin1_aae02 14 = .ok (.goto 4, 3) := by decide +kernel
theorem dJ0_isLatin1_aae02_17 : decode cJ0_isLatin1_aae02 17 = .ok (.iconst 0, 1) := by decide +kernel
theorem dJ0_isLatin1_aae02_18 : decode cJ0_isLatin1_aae02 18 = .ok (.ireturn, 1) := by decide +kernel
theorem dJ0_checkIndex_df160_0 : decode cJ0_checkIndex_df160 0 = .ok (.iload_n 0, 1) := by decide +kernel
theorem dJ0_checkIndex_df160_1 : decode cJ0_checkIndex_df160 1 = .ok (.iload_n 1, 1) := by decide +kernel
theorem dJ0_checkIndex_df160_2 : decode cJ0_checkIndex_df160 2 = .ok (.getstatic 1053, 3) := by decide +kernel
theorem dJ0_checkIndex_df160_5 : decode cJ0_checkIndex_df160 5 = .ok (.invokestatic 1059, 3) := by decide +kernel
theorem dJ0_checkIndex_df160_8 : decode cJ0_checkIndex_df160 8 = .ok (.pop, 1) := by decide +kernel
theorem dJ0_checkIndex_df160_9 : decode cJ0_checkIndex_df160 9 = .ok (.return_, 1) := by decide +kernel
theorem dJ1_charAt_3b067_0 : decode cJ1_charAt_3b067 0 = .ok (.iload_n 1, 1) := by decide +kernel
theorem dJ1_charAt_3b067_1 : decode cJ1_charAt_3b067 1 = .ok (.aload_n 0, 1) := by decide +kernel
theorem dJ1_charAt_3b067_2 : decode cJ1_charAt_3b067 2 = .ok (.arraylength, 1) := by decide +kernel
theorem dJ1_charAt_3b067_3 : decode cJ1_charAt_3b067 3 = .ok (.invokestatic 9, 3) := by decide +kernel
theorem dJ1_charAt_3b067_6 : decode cJ1_charAt_3b067 6 = .ok (.aload_n 0, 1) := by decide +kernel
theorem dJ1_charAt_3b067_7 : decode cJ1_charAt_3b067 7 = .ok (.iload_n 1, 1) := by decide +kernel
theorem dJ1_charAt_3b067_8 : decode cJ1_charAt_3b067 8 = .ok (.baload, 1) := by decide +kernel
theorem dJ1_charAt_3b067_9 : decode cJ1_charAt_3b067 9 = .ok (.sipush 255, 3) := by decide +kernel
theorem dJ1_charAt_3b067_12 : decode cJ1_charAt_3b067 12 = .ok (.iand, 1) := by decide +kernel
theorem dJ1_charAt_3b067_13 : decode cJ1_charAt_3b067 13 = .ok (.i2c, 1) := by decide +kernel
theorem dJ1_charAt_3b067_14 : decode cJ1_charAt_3b067 14 = .ok (.ireturn, 1) := by decide +kernel
theorem dJ2_getChar_3b067_0 : decode cJ2_getChar_3b067 0 = .ok (.getstatic 44, 3) := by decide +kernel
theorem dJ2_getChar_3b067_3 : decode cJ2_getChar_3b067 3 = .ok (.ifCond .ne 25, 3) := by decide +kernel
theorem dJ2_getChar_3b067_6 : decode cJ2_getChar_3b067 6 = .ok (.iload_n 1, 1) := by decide +kernel
theorem dJ2_getChar_3b067_7 : decode cJ2_getChar_3b067 7 = .ok (.ifCond .lt 11, 3) := by decide +kernel
theorem dJ2_getChar_3b067_10 : decode cJ2_getChar_3b067 10 = .ok (.iload_n 1, 1) := by decide +kernel
theorem dJ2_getChar_3b067_11 : decode cJ2_getChar_3b067 11 = .ok (.aload_n 0, 1) := by decide +kernel
theorem dJ2_getChar_3b067_12 : decode cJ2_getChar_3b067 12 = .ok (.invokestatic 48, 3) := by decide +kernel
theorem dJ2_getChar_3b067_15 : decode cJ2_getChar_3b067 15 = .ok (.if_icmp .lt 13, 3) := by decide +kernel
theorem dJ2_getChar_3b067_18 : decode cJ2_getChar_3b067 18 = .ok (.new 52, 3) := by decide +kernel
theorem dJ2_getChar_3b067_21 : decode cJ2_getChar_3b067 21 = .ok (.dup, 1) := by decide +kernel
theorem dJ2_getChar_3b067_22 : decode cJ2_getChar_3b067 22 = .ok (.ldc 54, 2) := by decide +kernel
theorem dJ2_getChar_3b067_24 : decode cJ2_getChar_3b067 24 = .ok (.invokespecial 56, 3) := by decide +kernel
theorem dJ2_getChar_3b067_27 : decode cJ2_getChar_3b067 27 = .ok (.athrow, 1) := by decide +kernel
theorem dJ2_getChar_3b067_28 : decode cJ2_getChar_3b067 28 = .ok (.iload_n 1, 1) := by decide +kernel
theorem dJ2_getChar_3b067_29 : decode cJ2_getChar_3b067 29 = .ok (.iconst 1, 1) := by decide +kernel
theorem dJ2_getChar_3b067_30 : decode cJ2_getChar_3b067 30 = .ok (.ishl, 1) := by decide +kernel
theorem dJ2_getChar_3b067_31 : decode cJ2_getChar_3b067 31 = .ok (.istore_n 1, 1) := by decide +kernel
theorem dJ2_getChar_3b067_32 : decode cJ2_getChar_3b067 32 = .ok (.aload_n 0, 1) := by decide +kernel
theorem dJ2_getChar_3b067_33 : decode cJ2_getChar_3b067 33 = .ok (.iload_n 1, 1) := by decide +kernel
theorem dJ2_getChar_3b067_34 : decode cJ2_getChar_3b067 34 = .ok (.iinc 1 1, 3) := by decide +kernel
theorem dJ2_getChar_3b067_37 : decode cJ2_getChar_3b067 37 = .ok (.baload, 1) := by decide +kernel
theorem dJ2_getChar_3b067_38 : decode cJ2_getChar_3b067 38 = .ok (.sipush 255, 3) := by decide +kernel
theorem dJ2_getChar_3b067_41 : decode cJ2_getChar_3b067 41 = .ok (.iand, 1) := by decide +kernel
theorem dJ2_getChar_3b067_42 : decode cJ2_getChar_3b067 42 = .ok (.getstatic 59, 3) := by decide +kernel
theorem dJ2_getChar_3b067_45 : decode cJ2_getChar_3b067 45 = .ok (.ishl, 1) := by decide +kernel
theorem dJ2_getChar_3b067_46 : decode cJ2_getChar_3b067 46 = .ok (.aload_n 0, 1) := by decide +kernel
theorem dJ2_getChar_3b067_47 : decode cJ2_getChar_3b067 47 = .ok (.iload_n 1, 1) := by decide +kernel
theorem dJ2_getChar_3b067_48 : decode cJ2_getChar_3b067 48 = .ok (.baload, 1) := by decide +kernel
theorem dJ2_getChar_3b067_49 : decode cJ2_getChar_3b067 49 = .ok (.sipush 255, 3) := by decide +kernel
theorem dJ2_getChar_3b067_52 : decode cJ2_getChar_3b067 52 = .ok (.iand, 1) := by decide +kernel
theorem dJ2_getChar_3b067_53 : decode cJ2_getChar_3b067 53 = .ok (.getstatic 63, 3) := by decide +kernel
theorem dJ2_getChar_3b067_56 : decode cJ2_getChar_3b067 56 = .ok (.ishl, 1) := by decide +kernel
theorem dJ2_getChar_3b067_57 : decode cJ2_getChar_3b067 57 = .ok (.ior, 1) := by decide +kernel
theorem dJ2_getChar_3b067_58 : decode cJ2_getChar_3b067 58 = .ok (.i2c, 1) := by decide +kernel
theorem dJ2_getChar_3b067_59 : decode cJ2_getChar_3b067 59 = .ok (.ireturn, 1) := by decide +kernel
theorem dJ2_length_9d52b_0 : decode cJ2_length_9d52b 0 = .ok (.aload_n 0, 1) := by decide +kernel
theorem dJ2_length_9d52b_1 : decode cJ2_length_9d52b 1 = .ok (.arraylength, 1) := by decide +kernel
theorem dJ2_length_9d52b_2 : decode cJ2_length_9d52b 2 = .ok (.iconst 1, 1) := by decide +kernel
theorem dJ2_length_9d52b_3 : decode cJ2_length_9d52b 3 = .ok (.ishr, 1) := by decide +kernel
theorem dJ2_length_9d52b_4 : decode cJ2_length_9d52b 4 = .ok (.ireturn, 1) := by decide +kernel
theorem dJ2_charAt_3b067_0 : decode cJ2_charAt_3b067 0 = .ok (.iload_n 1, 1) := by decide +kernel
theorem dJ2_charAt_3b067_1 : decode cJ2_charAt_3b067 1 = .ok (.aload_n 0, 1) := by decide +kernel
theorem dJ2_charAt_3b067_2 : decode cJ2_charAt_3b067 2 = .ok (.invokestatic 67, 3) := by decide +kernel
theorem dJ2_charAt_3b067_5 : decode cJ2_charAt_3b067 5 = .ok (.aload_n 0, 1) := by decide +kernel
theorem dJ2_charAt_3b067_6 : decode cJ2_charAt_3b067 6 = .ok (.iload_n 1, 1) := by decide +kernel
theorem dJ2_charAt_3b067_7 : decode cJ2_charAt_3b067 7 = .ok (.invokestatic 71, 3) := by decide +kernel
theorem dJ2_charAt_3b067_10 : decode cJ2_charAt_3b067 10 = .ok (.ireturn, 1) := by decide +kernel
theorem dJ2_checkIndex_2214a_0 : decode cJ2_checkIndex_2214a 0 = .ok (.iload_n 0, 1) := by decide +kernel
theorem dJ2_checkIndex_2214a_1 : decode cJ2_checkIndex_2214a 1 = .ok (.aload_n 1, 1) := by decide +kernel
theorem dJ2_checkIndex_2214a_2 : decode cJ2_checkIndex_2214a 2 = .ok (.invokestatic 48, 3) := by decide +kernel
theorem dJ2_checkIndex_2214a_5 : decode cJ2_checkIndex_2214a 5 = .ok (.invokestatic 414, 3) := by decide +kernel
theorem dJ2_checkIndex_2214a_8 : decode cJ2_checkIndex_2214a 8 = .ok (.return_, 1) := by decide +kernel
theorem dJ7_fill_53178_0 : decode cJ7_fill_53178 0 = .ok (.iconst 0, 1) := by decide +kernel
theorem dJ7_fill_53178_1 : decode cJ7_fill_53178 1 = .ok (.istore_n 2, 1) := by decide +kernel
theorem dJ7_fill_53178_2 : decode cJ7_fill_53178 2 = .ok (.aload_n 0, 1) := by decide +kernel
theorem dJ7_fill_53178_3 : decode cJ7_fill_53178 3 = .ok (.arraylength, 1) := by decide +kernel
theorem dJ7_fill_53178_4 : decode cJ7_fill_53178 4 = .ok (.istore_n 3, 1) := by decide +kernel
theorem dJ7_fill_53178_5 : decode cJ7_fill_53178 5 = .ok (.iload_n 2, 1) := by decide +kernel
theorem dJ7_fill_53178_6 : decode cJ7_fill_53178 6 = .ok (.iload_n 3, 1) := by decide +kernel
theorem dJ7_fill_53178_7 : decode cJ7_fill_53178 7 = .ok (.if_icmp .ge 13, 3) := by decide +kernel
theorem dJ7_fill_53178_10 : decode cJ7_fill_53178 10 = .ok (.aload_n 0, 1) := by decide +kernel
theorem dJ7_fill_53178_11 : decode cJ7_fill_53178 11 = .ok (.iload_n 2, 1) := by decide +kernel
theorem dJ7_fill_53178_12 : decode cJ7_fill_53178 12 = .ok (.iload_n 1, 1) := by decide +kernel
theorem dJ7_fill_53178_13 : decode cJ7_fill_53178 13 = .ok (.iastore, 1) := by decide +kernel
theorem dJ7_fill_53178_14 : decode cJ7_fill_53178 14 = .ok (.iinc 2 1, 3) := by decide +kernel
theorem dJ7_fill_53178_17 : decode cJ7_fill_53178 17 = .ok (.goto (-12), 3) := by decide +kernel
theorem dJ7_fill_53178_20 : decode cJ7_fill_53178 20 = .ok (.return_, 1) := by decide +kernel
theorem dJ3_checkIndex_8e157_0 : decode cJ3_checkIndex_8e157 0 = .ok (.iload_n 0, 1) := by decide +kernel
theorem dJ3_checkIndex_8e157_1 : decode cJ3_checkIndex_8e157 1 = .ok (.ifCond .lt 8, 3) := by decide +kernel
theorem dJ3_checkIndex_8e157_4 : decode cJ3_checkIndex_8e157 4 = .ok (.iload_n 0, 1) := by decide +kernel
theorem dJ3_checkIndex_8e157_5 : decode cJ3_checkIndex_8e157 5 = .ok (.iload_n 1, 1) := by decide +kernel
theorem dJ3_checkIndex_8e157_6 : decode cJ3_checkIndex_8e157 6 = .ok (.if_icmp .lt 10, 3) := by decide +kernel
theorem dJ3_checkIndex_8e157_9 : decode cJ3_checkIndex_8e157 9 = .ok (.aload_n 2, 1) := by decide +kernel
theorem dJ3_checkIndex_8e157_10 : decode cJ3_checkIndex_8e157 10 = .ok (.iload_n 0, 1) := by decide +kernel
theorem dJ3_checkIndex_8e157_11 : decode cJ3_checkIndex_8e157 11 = .ok (.iload_n 1, 1) := by decide +kernel
theorem dJ3_checkIndex_8e157_12 : decode cJ3_checkIndex_8e157 12 = .ok (.invokestatic 95, 3) := by decide +kernel
theorem dJ3_checkIndex_8e157_15 : decode cJ3_checkIndex_8e157 15 = .ok (.athrow, 1) := by decide +kernel
theorem dJ3_checkIndex_8e157_16 : decode cJ3_checkIndex_8e157 16 = .ok (.iload_n 0, 1) := by decide +kernel
theorem dJ3_checkIndex_8e157_17 : decode cJ3_checkIndex_8e157 17 = .ok (.ireturn, 1) := by decide +kernel
theorem dL_law_0 : decode cL_law 0 = .ok (.new 7, 3) := by decide +kernel
theorem dL_law_3 : decode cL_law 3 = .ok (.dup, 1) := by decide +kernel
theorem dL_law_4 : decode cL_law 4 = .ok (.invokespecial 9, 3) := by decide +kernel
theorem dL_law_7 : decode cL_law 7 = .ok (.astore_n 1, 1) := by decide +kernel
theorem dL_law_8 : decode cL_law 8 = .ok (.new 10, 3) := by decide +kernel
theorem dL_law_11 : decode cL_law 11 = .ok (.dup, 1) := by decide +kernel
theorem dL_law_12 : decode cL_law 12 = .ok (.invokespecial 12, 3) := by decide +kernel
theorem dL_law_15 : decode cL_law 15 = .ok (.astore_n 2, 1) := by decide +kernel
theorem dL_law_16 : decode cL_law 16 = .ok (.iconst 0, 1) := by decide +kernel
theorem dL_law_17 : decode cL_law 17 = .ok (.istore_n 3, 1) := by decide +kernel
theorem dL_law_18 : decode cL_law 18 = .ok (.iload_n 3, 1) := by decide +kernel
theorem dL_law_19 : decode cL_law 19 = .ok (.aload_n 0, 1) := by decide +kernel
theorem dL_law_20 : decode cL_law 20 = .ok (.arraylength, 1) := by decide +kernel
theorem dL_law_21 : decode cL_law 21 = .ok (.bipush 7, 2) := by decide +kernel
theorem dL_law_23 : decode cL_law 23 = .ok (.isub, 1) := by decide +kernel
theorem dL_law_24 : decode cL_law 24 = .ok (.if_icmp .gt 1430, 3) := by decide +kernel
theorem dL_law_27 : decode cL_law 27 = .ok (.aload_n 0, 1) := by decide +kernel
theorem dL_law_28 : decode cL_law 28 = .ok (.iload_n 3, 1) := by decide +kernel
theorem dL_law_29 : decode cL_law 29 = .ok (.iaload, 1) := by decide +kernel
theorem dL_law_30 : decode cL_law 30 = .ok (.bipush 63, 2) := by decide +kernel
theorem dL_law_32 : decode cL_law 32 = .ok (.iand, 1) := by decide +kernel
theorem dL_law_33 : decode cL_law 33 = .ok (.tableswitch 1415 0 36 #[163, 216, 249, 282, 325, 358, 391, 434, 467, 500, 607, 640, 663, 686, 719, 768, 791, 814, 877, 890, 903, 916, 959, 1002, 1015, 1038, 1061, 1104, 1127, 1160, 1193, 1237, 1280, 1323, 1366, 1379, 1392], 163) := by decide +kernel
theorem dL_law_196 : decode cL_law 196 = .ok (.aload_n 1, 1) := by decide +kernel
theorem dL_law_197 : decode cL_law 197 = .ok (.aload_n 0, 1) := by decide +kernel
theorem dL_law_198 : decode cL_law 198 = .ok (.iload_n 3, 1) := by decide +kernel
theorem dL_law_199 : decode cL_law 199 = .ok (.iconst 1, 1) := by decide +kernel
theorem dL_law_200 : decode cL_law 200 = .ok (.iadd, 1) := by decide +kernel
theorem dL_law_201 : decode cL_law 201 = .ok (.iaload, 1) := by decide +kernel
theorem dL_law_202 : decode cL_law 202 = .ok (.aload_n 0, 1) := by decide +kernel
theorem dL_law_203 : decode cL_law 203 = .ok (.iload_n 3, 1) := by decide +kernel
theorem dL_law_204 : decode cL_law 204 = .ok (.iconst 2, 1) := by decide +kernel
theorem dL_law_205 : decode cL_law 205 = .ok (.iadd, 1) := by decide +kernel
theorem dL_law_206 : decode cL_law 206 = .ok (.iaload, 1) := by decide +kernel
theorem dL_law_207 : decode cL_law 207 = .ok (.aload_n 0, 1) := by decide +kernel
theorem dL_law_208 : decode cL_law 208 = .ok (.iload_n 3, 1) := by decide +kernel
theorem dL_law_209 : decode cL_law 209 = .ok (.iconst 3, 1) := by decide +kernel
theorem dL_law_210 : decode cL_law 210 = .ok (.iadd, 1) := by decide +kernel
theorem dL_law_211 : decode cL_law 211 = .ok (.iaload, 1) := by decide +kernel
theorem dL_law_212 : decode cL_law 212 = .ok (.aload_n 0, 1) := by decide +kernel
theorem dL_law_213 : decode cL_law 213 = .ok (.iload_n 3, 1) := by decide +kernel
theorem dL_law_214 : decode cL_law 214 = .ok (.iconst 4, 1) := by decide +kernel
theorem dL_law_215 : decode cL_law 215 = .ok (.iadd, 1) := by decide +kernel
theorem dL_law_216 : decode cL_law 216 = .ok (.iaload, 1) := by decide +kernel
theorem dL_law_217 : decode cL_law 217 = .ok (.invokevirtual 13, 3) := by decide +kernel
theorem dL_law_220 : decode cL_law 220 = .ok (.aload_n 2, 1) := by decide +kernel
theorem dL_law_221 : decode cL_law 221 = .ok (.aload_n 0, 1) := by decide +kernel
theorem dL_law_222 : decode cL_law 222 = .ok (.iload_n 3, 1) := by decide +kernel
theorem dL_law_223 : decode cL_law 223 = .ok (.iconst 1, 1) := by decide +kernel
theorem dL_law_224 : decode cL_law 224 = .ok (.iadd, 1) := by decide +kernel
theorem dL_law_225 : decode cL_law 225 = .ok (.iaload, 1) := by decide +kernel
theorem dL_law_226 : decode cL_law 226 = .ok (.aload_n 0, 1) := by decide +kernel
theorem dL_law_227 : decode cL_law 227 = .ok (.iload_n 3, 1) := by decide +kernel
theorem dL_law_228 : decode cL_law 228 = .ok (.iconst 2, 1) := by decide +kernel
theorem dL_law_229 : decode cL_law 229 = .ok (.iadd, 1) := by decide +kernel
theorem dL_law_230 : decode cL_law 230 = .ok (.iaload, 1) := by decide +kernel
theorem dL_law_231 : decode cL_law 231 = .ok (.aload_n 0, 1) := by decide +kernel
theorem dL_law_232 : decode cL_law 232 = .ok (.iload_n 3, 1) := by decide +kernel
theorem dL_law_233 : decode cL_law 233 = .ok (.iconst 3, 1) := by decide +kernel
theorem dL_law_234 : decode cL_law 234 = .ok (.iadd, 1) := by decide +kernel
theorem dL_law_235 : decode cL_law 235 = .ok (.iaload, 1) := by decide +kernel
theorem dL_law_236 : decode cL_law 236 = .ok (.aload_n 0, 1) := by decide +kernel
theorem dL_law_237 : decode cL_law 237 = .ok (.iload_n 3, 1) := by decide +kernel
theorem dL_law_238 : decode cL_law 238 = .ok (.iconst 4, 1) := by decide +kernel
theorem dL_law_239 : decode cL_law 239 = .ok (.iadd, 1) := by decide +kernel
theorem dL_law_240 : decode cL_law 240 = .ok (.iaload, 1) := by decide +kernel
theorem dL_law_241 : decode cL_law 241 = .ok (.invokevirtual 17, 3) := by decide +kernel
theorem dL_law_244 : decode cL_law 244 = .ok (.if_icmp .eq 1204, 3) := by decide +kernel
theorem dL_law_247 : decode cL_law 247 = .ok (.iconst 0, 1) := by decide +kernel
theorem dL_law_248 : decode cL_law 248 = .ok (.ireturn, 1) := by decide +kernel
theorem dL_law_249 : decode cL_law 249 = .ok (.aload_n 1, 1) := by decide +kernel
theorem dL_law_250 : decode cL_law 250 = .ok (.aload_n 0, 1) := by decide +kernel
theorem dL_law_251 : decode cL_law 251 = .ok (.iload_n 3, 1) := by decide +kernel
theorem dL_law_252 : decode cL_law 252 = .ok (.iconst 1, 1) := by decide +kernel
theorem dL_law_253 : decode cL_law 253 = .ok (.iadd, 1) := by decide +kernel
theorem dL_law_254 : decode cL_law 254 = .ok (.iaload, 1) := by decide +kernel
theorem dL_law_255 : decode cL_law 255 = .ok (.aload_n 0, 1) := by decide +kernel
theorem dL_law_256 : decode cL_law 256 = .ok (.iload_n 3, 1) := by decide +kernel
theorem dL_law_257 : decode cL_law 257 = .ok (.iconst 2, 1) := by decide +kernel
theorem dL_law_258 : decode cL_law 258 = .ok (.iadd, 1) := by decide +kernel
theorem dL_law_259 : decode cL_law 259 = .ok (.iaload, 1) := by decide +kernel
theorem dL_law_260 : decode cL_law 260 = .ok (.invokevirtual 18, 3) := by decide +kernel
theorem dL_law_263 : decode cL_law 263 = .ok (.aload_n 2, 1) := by decide +kernel
theorem dL_law_264 : decode cL_law 264 = .ok (.aload_n 0, 1) := by decide +kernel
theorem dL_law_265 : decode cL_law 265 = .ok (.iload_n 3, 1) := by decide +kernel
theorem dL_law_266 : decode cL_law 266 = .ok (.iconst 1, 1) := by decide +kernel
theorem dL_law_267 : decode cL_law 267 = .ok (.iadd, 1) := by decide +kernel
theorem dL_law_268 : decode cL_law 268 = .ok (.iaload, 1) := by decide +kernel
theorem dL_law_269 : decode cL_law 269 = .ok (.aload_n 0, 1) := by decide +kernel
theorem dL_law_270 : decode cL_law 270 = .ok (.iload_n 3, 1) := by decide +kernel
theorem dL_law_271 : decode cL_law 271 = .ok (.iconst 2, 1) := by decide +kernel
theorem dL_law_272 : decode cL_law 272 = .ok (.iadd, 1) := by decide +kernel
theorem dL_law_273 : decode cL_law 273 = .ok (.iaload, 1) := by decide +kernel
theorem dL_law_274 : decode cL_law 274 = .ok (.invokevirtual 22, 3) := by decide +kernel
theorem dL_law_277 : decode cL_law 277 = .ok (.if_icmp .eq 1171, 3) := by decide +kernel
theorem dL_law_280 : decode cL_law 280 = .ok (.iconst 0, 1) := by decide +kernel
theorem dL_law_281 : decode cL_law 281 = .ok (.ireturn, 1) := by decide +kernel
theorem dL_law_282 : decode cL_law 282 = .ok (.aload_n 1, 1) := by decide +kernel
theorem dL_law_283 : decode cL_law 283 = .ok (.aload_n 0, 1) := by decide +kernel
theorem dL_law_284 : decode cL_law 284 = .ok (.iload_n 3, 1) := by decide +kernel
theorem dL_law_285 : decode cL_law 285 = .ok (.iconst 1, 1) := by decide +kernel
theorem dL_law_286 : decode cL_law 286 = .ok (.iadd, 1) := by decide +kernel
theorem dL_law_287 : decode cL_law 287 = .ok (.iaload, 1) := by decide +kernel
theorem dL_law_288 : decode cL_law 288 = .ok (.aload_n 0, 1) := by decide +kernel
theorem dL_law_289 : decode cL_law 289 = .ok (.iload_n 3, 1) := by decide +kernel
theorem dL_law_290 : decode cL_law 290 = .ok (.iconst 2, 1) := by decide +kernel
theorem dL_law_291 : decode cL_law 291 = .ok (.iadd, 1) := by decide +kernel
theorem dL_law_292 : decode cL_law 292 = .ok (.iaload, 1) := by decide +kernel
theorem dL_law_293 : decode cL_law 293 = .ok (.invokevirtual 23, 3) := by decide +kernel
theorem dL_law_296 : decode cL_law 296 = .ok (.aload_n 2, 1) := by decide +kernel
theorem dL_law_297 : decode cL_law 297 = .ok (.aload_n 0, 1) := by decide +kernel
theorem dL_law_298 : decode cL_law 298 = .ok (.iload_n 3, 1) := by decide +kernel
theorem dL_law_299 : decode cL_law 299 = .ok (.iconst 1, 1) := by decide +kernel
theorem dL_law_300 : decode cL_law 300 = .ok (.iadd, 1) := by decide +kernel
theorem dL_law_301 : decode cL_law 301 = .ok (.iaload, 1) := by decide +kernel
theorem dL_law_302 : decode cL_law 302 = .ok (.aload_n 0, 1) := by decide +kernel
theorem dL_law_303 : decode cL_law 303 = .ok (.iload_n 3, 1) := by decide +kernel
theorem dL_law_304 : decode cL_law 304 = .ok (.iconst 2, 1) := by decide +kernel
theorem dL_law_305 : decode cL_law 305 = .ok (.iadd, 1) := by decide +kernel
theorem dL_law_306 : decode cL_law 306 = .ok (.iaload, 1) := by decide +kernel
theorem dL_law_307 : decode cL_law 307 = .ok (.invokevirtual 26, 3) := by decide +kernel
theorem dL_law_310 : decode cL_law 310 = .ok (.if_icmp .eq 1138, 3) := by decide +kernel
theorem dL_law_313 : decode cL_law 313 = .ok (.iconst 0, 1) := by decide +kernel
theorem dL_law_314 : decode cL_law 314 = .ok (.ireturn, 1) := by decide +kernel
theorem dL_law_315 : decode cL_law 315 = .ok (.aload_n 1, 1) := by decide +kernel
theorem dL_law_316 : decode cL_law 316 = .ok (.aload_n 0, 1) := by decide +kernel
theorem dL_law_317 : decode cL_law 317 = .ok (.iload_n 3, 1) := by decide +kernel
theorem dL_law_318 : decode cL_law 318 = .ok (.iconst 1, 1) := by decide +kernel
theorem dL_law_319 : decode cL_law 319 = .ok (.iadd, 1) := by decide +kernel
theorem dL_law_320 : decode cL_law 320 = .ok (.iaload, 1) := by decide +kernel
theorem dL_law_321 : decode cL_law 321 = .ok (.aload_n 0, 1) := by decide +kernel
theorem dL_law_322 : decode cL_law 322 = .ok (.iload_n 3, 1) := by decide +kernel
theorem dL_law_323 : decode cL_law 323 = .ok (.iconst 2, 1) := by decide +kernel
theorem dL_law_324 : decode cL_law 324 = .ok (.iadd, 1) := by decide +kernel
theorem dL_law_325 : decode cL_law 325 = .ok (.iaload, 1) := by decide +kernel
theorem dL_law_326 : decode cL_law 326 = .ok (.aload_n 0, 1) := by decide +kernel
theorem dL_law_327 : decode cL_law 327 = .ok (.iload_n 3, 1) := by decide +kernel
theorem dL_law_328 : decode cL_law 328 = .ok (.iconst 3, 1) := by decide +kernel
theorem dL_law_329 : decode cL_law 329 = .ok (.iadd, 1) := by decide +kernel
theorem dL_law_330 : decode cL_law 330 = .ok (.iaload, 1) := by decide +kernel
theorem dL_law_331 : decode cL_law 331 = .ok (.invokevirtual 27, 3) := by decide +kernel
theorem dL_law_334 : decode cL_law 334 = .ok (.aload_n 2, 1) := by decide +kernel
theorem dL_law_335 : decode cL_law 335 = .ok (.aload_n 0, 1) := by decide +kernel
theorem dL_law_336 : decode cL_law 336 = .ok (.iload_n 3, 1) := by decide +kernel
theorem dL_law_337 : decode cL_law 337 = .ok (.iconst 1, 1) := by decide +kernel
theorem dL_law_338 : decode cL_law 338 = .ok (.iadd, 1) := by decide +kernel
theorem dL_law_339 : decode cL_law 339 = .ok (.iaload, 1) := by decide +kernel
theorem dL_law_340 : decode cL_law 340 = .ok (.aload_n 0, 1) := by decide +kernel
theorem dL_law_341 : decode cL_law 341 = .ok (.iload_n 3, 1) := by decide +kernel
theorem dL_law_342 : decode cL_law 342 = .ok (.iconst 2, 1) := by decide +kernel
theorem dL_law_343 : decode cL_law 343 = .ok (.iadd, 1) := by decide +kernel
theorem dL_law_344 : decode cL_law 344 = .ok (.iaload, 1) := by decide +kernel
theorem dL_law_345 : decode cL_law 345 = .ok (.aload_n 0, 1) := by decide +kernel
theorem dL_law_346 : decode cL_law 346 = .ok (.iload_n 3, 1) := by decide +kernel
theorem dL_law_347 : decode cL_law 347 = .ok (.iconst 3, 1) := by decide +kernel
theorem dL_law_348 : decode cL_law 348 = .ok (.iadd, 1) := by decide +kernel
theorem dL_law_349 : decode cL_law 349 = .ok (.iaload, 1) := by decide +kernel
theorem dL_law_350 : decode cL_law 350 = .ok (.invokevirtual 31, 3) := by decide +kernel
theorem dL_law_353 : decode cL_law 353 = .ok (.if_icmp .eq 1095, 3) := by decide +kernel
theorem dL_law_356 : decode cL_law 356 = .ok (.iconst 0, 1) := by decide +kernel
theorem dL_law_357 : decode cL_law 357 = .ok (.ireturn, 1) := by decide +kernel
theorem dL_law_358 : decode cL_law 358 = .ok (.aload_n 1, 1) := by decide +kernel
theorem dL_law_359 : decode cL_law 359 = .ok (.aload_n 0, 1) := by decide +kernel
theorem dL_law_360 : decode cL_law 360 = .ok (.iload_n 3, 1) := by decide +kernel
theorem dL_law_361 : decode cL_law 361 = .ok (.iconst 1, 1) := by decide +kernel
theorem dL_law_362 : decode cL_law 362 = .ok (.iadd, 1) := by decide +kernel
theorem dL_law_363 : decode cL_law 363 = .ok (.iaload, 1) := by decide +kernel
theorem dL_law_364 : decode cL_law 364 = .ok (.aload_n 0, 1) := by decide +kernel
theorem dL_law_365 : decode cL_law 365 = .ok (.iload_n 3, 1) := by decide +kernel
theorem dL_law_366 : decode cL_law 366 = .ok (.iconst 2, 1) := by decide +kernel
theorem dL_law_367 : decode cL_law 367 = .ok (.iadd, 1) := by decide +kernel
theorem dL_law_368 : decode cL_law 368 = .ok (.iaload, 1) := by decide +kernel
theorem dL_law_369 : decode cL_law 369 = .ok (.invokevirtual 32, 3) := by decide +kernel
theorem dL_law_372 : decode cL_law 372 = .ok (.aload_n 2, 1) := by decide +kernel
theorem dL_law_373 : decode cL_law 373 = .ok (.aload_n 0, 1) := by decide +kernel
theorem dL_law_374 : decode cL_law 374 = .ok (.iload_n 3, 1) := by decide +kernel
theorem dL_law_375 : decode cL_law 375 = .ok (.iconst 1, 1) := by decide +kernel
theorem dL_law_376 : decode cL_law 376 = .ok (.iadd, 1) := by decide +kernel
theorem dL_law_377 : decode cL_law 377 = .ok (.iaload, 1) := by decide +kernel
theorem dL_law_378 : decode cL_law 378 = .ok (.aload_n 0, 1) := by decide +kernel
theorem dL_law_379 : decode cL_law 379 = .ok (.iload_n 3, 1) := by decide +kernel
theorem dL_law_380 : decode cL_law 380 = .ok (.iconst 2, 1) := by decide +kernel
theorem dL_law_381 : decode cL_law 381 = .ok (.iadd, 1) := by decide +kernel
theorem dL_law_382 : decode cL_law 382 = .ok (.iaload, 1) := by decide +kernel
theorem dL_law_383 : decode cL_law 383 = .ok (.invokevirtual 35, 3) := by decide +kernel
theorem dL_law_386 : decode cL_law 386 = .ok (.if_icmp .eq 1062, 3) := by decide +kernel
theorem dL_law_389 : decode cL_law 389 = .ok (.iconst 0, 1) := by decide +kernel
theorem dL_law_390 : decode cL_law 390 = .ok (.ireturn, 1) := by decide +kernel
theorem dL_law_391 : decode cL_law 391 = .ok (.aload_n 1, 1) := by decide +kernel
theorem dL_law_392 : decode cL_law 392 = .ok (.aload_n 0, 1) := by decide +kernel
theorem dL_law_393 : decode cL_law 393 = .ok (.iload_n 3, 1) := by decide +kernel
theorem dL_law_394 : decode cL_law 394 = .ok (.iconst 1, 1) := by decide +kernel
theorem dL_law_395 : decode cL_law 395 = .ok (.iadd, 1) := by decide +kernel
theorem dL_law_396 : decode cL_law 396 = .ok (.iaload, 1) := by decide +kernel
theorem dL_law_397 : decode cL_law 397 = .ok (.aload_n 0, 1) := by decide +kernel
theorem dL_law_398 : decode cL_law 398 = .ok (.iload_n 3, 1) := by decide +kernel
theorem dL_law_399 : decode cL_law 399 = .ok (.iconst 2, 1) := by decide +kernel
theorem dL_law_400 : decode cL_law 400 = .ok (.iadd, 1) := by decide +kernel
theorem dL_law_401 : decode cL_law 401 = .ok (.iaload, 1) := by decide +kernel
theorem dL_law_402 : decode cL_law 402 = .ok (.invokevirtual 36, 3) := by decide +kernel
theorem dL_law_405 : decode cL_law 405 = .ok (.aload_n 2, 1) := by decide +kernel
theorem dL_law_406 : decode cL_law 406 = .ok (.aload_n 0, 1) := by decide +kernel
theorem dL_law_407 : decode cL_law 407 = .ok (.iload_n 3, 1) := by decide +kernel
theorem dL_law_408 : decode cL_law 408 = .ok (.iconst 1, 1) := by decide +kernel
theorem dL_law_409 : decode cL_law 409 = .ok (.iadd, 1) := by decide +kernel
theorem dL_law_410 : decode cL_law 410 = .ok (.iaload, 1) := by decide +kernel
theorem dL_law_411 : decode cL_law 411 = .ok (.aload_n 0, 1) := by decide +kernel
theorem dL_law_412 : decode cL_law 412 = .ok (.iload_n 3, 1) := by decide +kernel
theorem dL_law_413 : decode cL_law 413 = .ok (.iconst 2, 1) := by decide +kernel
theorem dL_law_414 : decode cL_law 414 = .ok (.iadd, 1) := by decide +kernel
theorem dL_law_415 : decode cL_law 415 = .ok (.iaload, 1) := by decide +kernel
theorem dL_law_416 : decode cL_law 416 = .ok (.invokevirtual 39, 3) := by decide +kernel
theorem dL_law_419 : decode cL_law 419 = .ok (.if_icmp .eq 1029, 3) := by decide +kernel
theorem dL_law_422 : decode cL_law 422 = .ok (.iconst 0, 1) := by decide +kernel
theorem dL_law_423 : decode cL_law 423 = .ok (.ireturn, 1) := by decide +kernel
theorem dL_law_424 : decode cL_law 424 = .ok (.aload_n 1, 1) := by decide +kernel
theorem dL_law_425 : decode cL_law 425 = .ok (.aload_n 0, 1) := by decide +kernel
theorem dL_law_426 : decode cL_law 426 = .ok (.iload_n 3, 1) := by decide +kernel
theorem dL_law_427 : decode cL_law 427 = .ok (.iconst 1, 1) := by decide +kernel
theorem dL_law_428 : decode cL_law 428 = .ok (.iadd, 1) := by decide +kernel
theorem dL_law_429 : decode cL_law 429 = .ok (.iaload, 1) := by decide +kernel
theorem dL_law_430 : decode cL_law 430 = .ok (.aload_n 0, 1) := by decide +kernel
theorem dL_law_431 : decode cL_law 431 = .ok (.iload_n 3, 1) := by decide +kernel
theorem dL_law_432 : decode cL_law 432 = .ok (.iconst 2, 1) := by decide +kernel
theorem dL_law_433 : decode cL_law 433 = .ok (.iadd, 1) := by decide +kernel
theorem dL_law_434 : decode cL_law 434 = .ok (.iaload, 1) := by decide +kernel
theorem dL_law_435 : decode cL_law 435 = .ok (.aload_n 0, 1) := by decide +kernel
theorem dL_law_436 : decode cL_law 436 = .ok (.iload_n 3, 1) := by decide +kernel
theorem dL_law_437 : decode cL_law 437 = .ok (.iconst 3, 1) := by decide +kernel
theorem dL_law_438 : decode cL_law 438 = .ok (.iadd, 1) := by decide +kernel
theorem dL_law_439 : decode cL_law 439 = .ok (.iaload, 1) := by decide +kernel
theorem dL_law_440 : decode cL_law 440 = .ok (.invokevirtual 40, 3) := by decide +kernel
theorem dL_law_443 : decode cL_law 443 = .ok (.aload_n 2, 1) := by decide +kernel
theorem dL_law_444 : decode cL_law 444 = .ok (.aload_n 0, 1) := by decide +kernel
theorem dL_law_445 : decode cL_law 445 = .ok (.iload_n 3, 1) := by decide +kernel
theorem dL_law_446 : decode cL_law 446 = .ok (.iconst 1, 1) := by decide +kernel
theorem dL_law_447 : decode cL_law 447 = .ok (.iadd, 1) := by decide +kernel
theorem dL_law_448 : decode cL_law 448 = .ok (.iaload, 1) := by decide +kernel
theorem dL_law_449 : decode cL_law 449 = .ok (.aload_n 0, 1) := by decide +kernel
theorem dL_law_450 : decode cL_law 450 = .ok (.iload_n 3, 1) := by decide +kernel
theorem dL_law_451 : decode cL_law 451 = .ok (.iconst 2, 1) := by decide +kernel
theorem dL_law_452 : decode cL_law 452 = .ok (.iadd, 1) := by decide +kernel
theorem dL_law_453 : decode cL_law 453 = .ok (.iaload, 1) := by decide +kernel
theorem dL_law_454 : decode cL_law 454 = .ok (.aload_n 0, 1) := by decide +kernel
theorem dL_law_455 : decode cL_law 455 = .ok (.iload_n 3, 1) := by decide +kernel
theorem dL_law_456 : decode cL_law 456 = .ok (.iconst 3, 1) := by decide +kernel
theorem dL_law_457 : decode cL_law 457 = .ok (.iadd, 1) := by decide +kernel
theorem dL_law_458 : decode cL_law 458 = .ok (.iaload, 1) := by decide +kernel
theorem dL_law_459 : decode cL_law 459 = .ok (.invokevirtual 43, 3) := by decide +kernel
theorem dL_law_462 : decode cL_law 462 = .ok (.if_icmp .eq 986, 3) := by decide +kernel
theorem dL_law_465 : decode cL_law 465 = .ok (.iconst 0, 1) := by decide +kernel
theorem dL_law_466 : decode cL_law 466 = .ok (.ireturn, 1) := by decide +kernel
theorem dL_law_467 : decode cL_law 467 = .ok (.aload_n 1, 1) := by decide +kernel
theorem dL_law_468 : decode cL_law 468 = .ok (.aload_n 0, 1) := by decide +kernel
theorem dL_law_469 : decode cL_law 469 = .ok (.iload_n 3, 1) := by decide +kernel
theorem dL_law_470 : decode cL_law 470 = .ok (.iconst 1, 1) := by decide +kernel
theorem dL_law_471 : decode cL_law 471 = .ok (.iadd, 1) := by decide +kernel
theorem dL_law_472 : decode cL_law 472 = .ok (.iaload, 1) := by decide +kernel
theorem dL_law_473 : decode cL_law 473 = .ok (.aload_n 0, 1) := by decide +kernel
theorem dL_law_474 : decode cL_law 474 = .ok (.iload_n 3, 1) := by decide +kernel
theorem dL_law_475 : decode cL_law 475 = .ok (.iconst 2, 1) := by decide +kernel
theorem dL_law_476 : decode cL_law 476 = .ok (.iadd, 1) := by decide +kernel
theorem dL_law_477 : decode cL_law 477 = .ok (.iaload, 1) := by decide +kernel
theorem dL_law_478 : decode cL_law 478 = .ok (.invokevirtual 44, 3) := by decide +kernel
theorem dL_law_481 : decode cL_law 481 = .ok (.aload_n 2, 1) := by decide +kernel
theorem dL_law_482 : decode cL_law 482 = .ok (.aload_n 0, 1) := by decide +kernel
theorem dL_law_483 : decode cL_law 483 = .ok (.iload_n 3, 1) := by decide +kernel
theorem dL_law_484 : decode cL_law 484 = .ok (.iconst 1, 1) := by decide +kernel
theorem dL_law_485 : decode cL_law 485 = .ok (.iadd, 1) := by decide +kernel
theorem dL_law_486 : decode cL_law 486 = .ok (.iaload, 1) := by decide +kernel
theorem dL_law_487 : decode cL_law 487 = .ok (.aload_n 0, 1) := by decide +kernel
theorem dL_law_488 : decode cL_law 488 = .ok (.iload_n 3, 1) := by decide +kernel
theorem dL_law_489 : decode cL_law 489 = .ok (.iconst 2, 1) := by decide +kernel
theorem dL_law_490 : decode cL_law 490 = .ok (.iadd, 1) := by decide +kernel
theorem dL_law_491 : decode cL_law 491 = .ok (.iaload, 1) := by decide +kernel
theorem dL_law_492 : decode cL_law 492 = .ok (.invokevirtual 47, 3) := by decide +kernel
theorem dL_law_495 : decode cL_law 495 = .ok (.if_icmp .eq 953, 3) := by decide +kernel
theorem dL_law_498 : decode cL_law 498 = .ok (.iconst 0, 1) := by decide +kernel
theorem dL_law_499 : decode cL_law 499 = .ok (.ireturn, 1) := by decide +kernel
theorem dL_law_500 : decode cL_law 500 = .ok (.aload_n 1, 1) := by decide +kernel
theorem dL_law_501 : decode cL_law 501 = .ok (.aload_n 0, 1) := by decide +kernel
theorem dL_law_502 : decode cL_law 502 = .ok (.iload_n 3, 1) := by decide +kernel
theorem dL_law_503 : decode cL_law 503 = .ok (.iconst 1, 1) := by decide +kernel
theorem dL_law_504 : decode cL_law 504 = .ok (.iadd, 1) := by decide +kernel
theorem dL_law_505 : decode cL_law 505 = .ok (.iaload, 1) := by decide +kernel
theorem dL_law_506 : decode cL_law 506 = .ok (.aload_n 0, 1) := by decide +kernel
theorem dL_law_507 : decode cL_law 507 = .ok (.iload_n 3, 1) := by decide +kernel
theorem dL_law_508 : decode cL_law 508 = .ok (.iconst 2, 1) := by decide +kernel
theorem dL_law_509 : decode cL_law 509 = .ok (.iadd, 1) := by decide +kernel
theorem dL_law_510 : decode cL_law 510 = .ok (.iaload, 1) := by decide +kernel
theorem dL_law_511 : decode cL_law 511 = .ok (.invokevirtual 48, 3) := by decide +kernel
theorem dL_law_514 : decode cL_law 514 = .ok (.aload_n 2, 1) := by decide +kernel
theorem dL_law_515 : decode cL_law 515 = .ok (.aload_n 0, 1) := by decide +kernel
theorem dL_law_516 : decode cL_law 516 = .ok (.iload_n 3, 1) := by decide +kernel
theorem dL_law_517 : decode cL_law 517 = .ok (.iconst 1, 1) := by decide +kernel
theorem dL_law_518 : decode cL_law 518 = .ok (.iadd, 1) := by decide +kernel
theorem dL_law_519 : decode cL_law 519 = .ok (.iaload, 1) := by decide +kernel
theorem dL_law_520 : decode cL_law 520 = .ok (.aload_n 0, 1) := by decide +kernel
theorem dL_law_521 : decode cL_law 521 = .ok (.iload_n 3, 1) := by decide +kernel
theorem dL_law_522 : decode cL_law 522 = .ok (.iconst 2, 1) := by decide +kernel
theorem dL_law_523 : decode cL_law 523 = .ok (.iadd, 1) := by decide +kernel
theorem dL_law_524 : decode cL_law 524 = .ok (.iaload, 1) := by decide +kernel
theorem dL_law_525 : decode cL_law 525 = .ok (.invokevirtual 51, 3) := by decide +kernel
theorem dL_law_528 : decode cL_law 528 = .ok (.if_icmp .eq 920, 3) := by decide +kernel
theorem dL_law_531 : decode cL_law 531 = .ok (.iconst 0, 1) := by decide +kernel
theorem dL_law_532 : decode cL_law 532 = .ok (.ireturn, 1) := by decide +kernel
theorem dL_law_533 : decode cL_law 533 = .ok (.aload_n 1, 1) := by decide +kernel
theorem dL_law_534 : decode cL_law 534 = .ok (.aload_n 0, 1) := by decide +kernel
theorem dL_law_535 : decode cL_law 535 = .ok (.iload_n 3, 1) := by decide +kernel
theorem dL_law_536 : decode cL_law 536 = .ok (.iconst 1, 1) := by decide +kernel
theorem dL_law_537 : decode cL_law 537 = .ok (.iadd, 1) := by decide +kernel
theorem dL_law_538 : decode cL_law 538 = .ok (.iaload, 1) := by decide +kernel
theorem dL_law_539 : decode cL_law 539 = .ok (.aload_n 0, 1) := by decide +kernel
theorem dL_law_540 : decode cL_law 540 = .ok (.iload_n 3, 1) := by decide +kernel
theorem dL_law_541 : decode cL_law 541 = .ok (.iconst 2, 1) := by decide +kernel
theorem dL_law_542 : decode cL_law 542 = .ok (.iadd, 1) := by decide +kernel
theorem dL_law_543 : decode cL_law 543 = .ok (.iaload, 1) := by decide +kernel
theorem dL_law_544 : decode cL_law 544 = .ok (.aload_n 0, 1) := by decide +kernel
theorem dL_law_545 : decode cL_law 545 = .ok (.iload_n 3, 1) := by decide +kernel
theorem dL_law_546 : decode cL_law 546 = .ok (.iconst 3, 1) := by decide +kernel
theorem dL_law_547 : decode cL_law 547 = .ok (.iadd, 1) := by decide +kernel
theorem dL_law_548 : decode cL_law 548 = .ok (.iaload, 1) := by decide +kernel
theorem dL_law_549 : decode cL_law 549 = .ok (.aload_n 0, 1) := by decide +kernel
theorem dL_law_550 : decode cL_law 550 = .ok (.iload_n 3, 1) := by decide +kernel
theorem dL_law_551 : decode cL_law 551 = .ok (.iconst 4, 1) := by decide +kernel
theorem dL_law_552 : decode cL_law 552 = .ok (.iadd, 1) := by decide +kernel
theorem dL_law_553 : decode cL_law 553 = .ok (.iaload, 1) := by decide +kernel
theorem dL_law_554 : decode cL_law 554 = .ok (.aload_n 0, 1) := by decide +kernel
theorem dL_law_555 : decode cL_law 555 = .ok (.iload_n 3, 1) := by decide +kernel
theorem dL_law_556 : decode cL_law 556 = .ok (.iconst 5, 1) := by decide +kernel
theorem dL_law_557 : decode cL_law 557 = .ok (.iadd, 1) := by decide +kernel
theorem dL_law_558 : decode cL_law 558 = .ok (.iaload, 1) := by decide +kernel
theorem dL_law_559 : decode cL_law 559 = .ok (.ifCond .eq 7, 3) := by decide +kernel
theorem dL_law_562 : decode cL_law 562 = .ok (.iconst 1, 1) := by decide +kernel
theorem dL_law_563 : decode cL_law 563 = .ok (.goto 4, 3) := by decide +kernel
theorem dL_law_566 : decode cL_law 566 = .ok (.iconst 0, 1) := by decide +kernel
theorem dL_law_567 : decode cL_law 567 = .ok (.aload_n 0, 1) := by decide +kernel
theorem dL_law_568 : decode cL_law 568 = .ok (.iload_n 3, 1) := by decide +kernel
theorem dL_law_569 : decode cL_law 569 = .ok (.bipush 6, 2) := by decide +kernel
theorem dL_law_571 : decode cL_law 571 = .ok (.iadd, 1) := by decide +kernel
theorem dL_law_572 : decode cL_law 572 = .ok (.iaload, 1) := by decide +kernel
theorem dL_law_573 : decode cL_law 573 = .ok (.ifCond .eq 7, 3) := by decide +kernel
theorem dL_law_576 : decode cL_law 576 = .ok (.iconst 1, 1) := by decide +kernel
theorem dL_law_577 : decode cL_law 577 = .ok (.goto 4, 3) := by decide +kernel
theorem dL_law_580 : decode cL_law 580 = .ok (.iconst 0, 1) := by decide +kernel
theorem dL_law_581 : decode cL_law 581 = .ok (.invokevirtual 52, 3) := by decide +kernel
theorem dL_law_584 : decode cL_law 584 = .ok (.aload_n 2, 1) := by decide +kernel
theorem dL_law_585 : decode cL_law 585 = .ok (.aload_n 0, 1) := by decide +kernel
theorem dL_law_586 : decode cL_law 586 = .ok (.iload_n 3, 1) := by decide +kernel
theorem dL_law_587 : decode cL_law 587 = .ok (.iconst 1, 1) := by decide +kernel
theorem dL_law_588 : decode cL_law 588 = .ok (.iadd, 1) := by decide +kernel
theorem dL_law_589 : decode cL_law 589 = .ok (.iaload, 1) := by decide +kernel
theorem dL_law_590 : decode cL_law 590 = .ok (.aload_n 0, 1) := by decide +kernel
theorem dL_law_591 : decode cL_law 591 = .ok (.iload_n 3, 1) := by decide +kernel
theorem dL_law_592 : decode cL_law 592 = .ok (.iconst 2, 1) := by decide +kernel
theorem dL_law_593 : decode cL_law 593 = .ok (.iadd, 1) := by decide +kernel
theorem dL_law_594 : decode cL_law 594 = .ok (.iaload, 1) := by decide +kernel
theorem dL_law_595 : decode cL_law 595 = .ok (.aload_n 0, 1) := by decide +kernel
theorem dL_law_596 : decode cL_law 596 = .ok (.iload_n 3, 1) := by decide +kernel
theorem dL_law_597 : decode cL_law 597 = .ok (.iconst 3, 1) := by decide +kernel
theorem dL_law_598 : decode cL_law 598 = .ok (.iadd, 1) := by decide +kernel
theorem dL_law_599 : decode cL_law 599 = .ok (.iaload, 1) := by decide +kernel
theorem dL_law_600 : decode cL_law 600 = .ok (.aload_n 0, 1) := by decide +kernel
theorem dL_law_601 : decode cL_law 601 = .ok (.iload_n 3, 1) := by decide +kernel
theorem dL_law_602 : decode cL_law 602 = .ok (.iconst 4, 1) := by decide +kernel
theorem dL_law_603 : decode cL_law 603 = .ok (.iadd, 1) := by decide +kernel
theorem dL_law_604 : decode cL_law 604 = .ok (.iaload, 1) := by decide +kernel
theorem dL_law_605 : decode cL_law 605 = .ok (.aload_n 0, 1) := by decide +kernel
theorem dL_law_606 : decode cL_law 606 = .ok (.iload_n 3, 1) := by decide +kernel
theorem dL_law_607 : decode cL_law 607 = .ok (.iconst 5, 1) := by decide +kernel
theorem dL_law_608 : decode cL_law 608 = .ok (.iadd, 1) := by decide +kernel
theorem dL_law_609 : decode cL_law 609 = .ok (.iaload, 1) := by decide +kernel
theorem dL_law_610 : decode cL_law 610 = .ok (.ifCond .eq 7, 3) := by decide +kernel
theorem dL_law_613 : decode cL_law 613 = .ok (.iconst 1, 1) := by decide +kernel
theorem dL_law_614 : decode cL_law 614 = .ok (.goto 4, 3) := by decide +kernel
theorem dL_law_617 : decode cL_law 617 = .ok (.iconst 0, 1) := by decide +kernel
theorem dL_law_618 : decode cL_law 618 = .ok (.aload_n 0, 1) := by decide +kernel
theorem dL_law_619 : decode cL_law 619 = .ok (.iload_n 3, 1) := by decide +kernel
theorem dL_law_620 : decode cL_law 620 = .ok (.bipush 6, 2) := by decide +kernel
theorem dL_law_622 : decode cL_law 622 = .ok (.iadd, 1) := by decide +kernel
theorem dL_law_623 : decode cL_law 623 = .ok (.iaload, 1) := by decide +kernel
theorem dL_law_624 : decode cL_law 624 = .ok (.ifCond .eq 7, 3) := by decide +kernel
theorem dL_law_627 : decode cL_law 627 = .ok (.iconst 1, 1) := by decide +kernel
theorem dL_law_628 : decode cL_law 628 = .ok (.goto 4, 3) := by decide +kernel
theorem dL_law_631 : decode cL_law 631 = .ok (.iconst 0, 1) := by decide +kernel
theorem dL_law_632 : decode cL_law 632 = .ok (.invokevirtual 56, 3) := by decide +kernel
theorem dL_law_635 : decode cL_law 635 = .ok (.if_icmp .eq 813, 3) := by decide +kernel
theorem dL_law_638 : decode cL_law 638 = .ok (.iconst 0, 1) := by decide +kernel
theorem dL_law_639 : decode cL_law 639 = .ok (.ireturn, 1) := by decide +kernel
theorem dL_law_640 : decode cL_law 640 = .ok (.aload_n 1, 1) := by decide +kernel
theorem dL_law_641 : decode cL_law 641 = .ok (.aload_n 0, 1) := by decide +kernel
theorem dL_law_642 : decode cL_law 642 = .ok (.iload_n 3, 1) := by decide +kernel
theorem dL_law_643 : decode cL_law 643 = .ok (.iconst 1, 1) := by decide +kernel
theorem dL_law_644 : decode cL_law 644 = .ok (.iadd, 1) := by decide +kernel
theorem dL_law_645 : decode cL_law 645 = .ok (.iaload, 1) := by decide +kernel
theorem dL_law_646 : decode cL_law 646 = .ok (.aload_n 0, 1) := by decide +kernel
theorem dL_law_647 : decode cL_law 647 = .ok (.iload_n 3, 1) := by decide +kernel
theorem dL_law_648 : decode cL_law 648 = .ok (.iconst 2, 1) := by decide +kernel
theorem dL_law_649 : decode cL_law 649 = .ok (.iadd, 1) := by decide +kernel
theorem dL_law_650 : decode cL_law 650 = .ok (.iaload, 1) := by decide +kernel
theorem dL_law_651 : decode cL_law 651 = .ok (.invokevirtual 57, 3) := by decide +kernel
theorem dL_law_654 : decode cL_law 654 = .ok (.aload_n 2, 1) := by decide +kernel
theorem dL_law_655 : decode cL_law 655 = .ok (.aload_n 0, 1) := by decide +kernel
theorem dL_law_656 : decode cL_law 656 = .ok (.iload_n 3, 1) := by decide +kernel
theorem dL_law_657 : decode cL_law 657 = .ok (.iconst 1, 1) := by decide +kernel
theorem dL_law_658 : decode cL_law 658 = .ok (.iadd, 1) := by decide +kernel
theorem dL_law_659 : decode cL_law 659 = .ok (.iaload, 1) := by decide +kernel
theorem dL_law_660 : decode cL_law 660 = .ok (.aload_n 0, 1) := by decide +kernel
theorem dL_law_661 : decode cL_law 661 = .ok (.iload_n 3, 1) := by decide +kernel
theorem dL_law_662 : decode cL_law 662 = .ok (.iconst 2, 1) := by decide +kernel
theorem dL_law_663 : decode cL_law 663 = .ok (.iadd, 1) := by decide +kernel
theorem dL_law_664 : decode cL_law 664 = .ok (.iaload, 1) := by decide +kernel
theorem dL_law_665 : decode cL_law 665 = .ok (.invokevirtual 60, 3) := by decide +kernel
theorem dL_law_668 : decode cL_law 668 = .ok (.if_icmp .eq 780, 3) := by decide +kernel
theorem dL_law_671 : decode cL_law 671 = .ok (.iconst 0, 1) := by decide +kernel
theorem dL_law_672 : decode cL_law 672 = .ok (.ireturn, 1) := by decide +kernel
theorem dL_law_673 : decode cL_law 673 = .ok (.aload_n 1, 1) := by decide +kernel
theorem dL_law_674 : decode cL_law 674 = .ok (.aload_n 0, 1) := by decide +kernel
theorem dL_law_675 : decode cL_law 675 = .ok (.iload_n 3, 1) := by decide +kernel
theorem dL_law_676 : decode cL_law 676 = .ok (.iconst 1, 1) := by decide +kernel
theorem dL_law_677 : decode cL_law 677 = .ok (.iadd, 1) := by decide +kernel
theorem dL_law_678 : decode cL_law 678 = .ok (.iaload, 1) := by decide +kernel
theorem dL_law_679 : decode cL_law 679 = .ok (.invokevirtual 61, 3) := by decide +kernel
theorem dL_law_682 : decode cL_law 682 = .ok (.aload_n 2, 1) := by decide +kernel
theorem dL_law_683 : decode cL_law 683 = .ok (.aload_n 0, 1) := by decide +kernel
theorem dL_law_684 : decode cL_law 684 = .ok (.iload_n 3, 1) := by decide +kernel
theorem dL_law_685 : decode cL_law 685 = .ok (.iconst 1, 1) := by decide +kernel
theorem dL_law_686 : decode cL_law 686 = .ok (.iadd, 1) := by decide +kernel
theorem dL_law_687 : decode cL_law 687 = .ok (.iaload, 1) := by decide +kernel
theorem dL_law_688 : decode cL_law 688 = .ok (.invokevirtual 65, 3) := by decide +kernel
theorem dL_law_691 : decode cL_law 691 = .ok (.if_icmp .eq 757, 3) := by decide +kernel
theorem dL_law_694 : decode cL_law 694 = .ok (.iconst 0, 1) := by decide +kernel
theorem dL_law_695 : decode cL_law 695 = .ok (.ireturn, 1) := by decide +kernel
theorem dL_law_696 : decode cL_law 696 = .ok (.aload_n 1, 1) := by decide +kernel
theorem dL_law_697 : decode cL_law 697 = .ok (.aload_n 0, 1) := by decide +kernel
theorem dL_law_698 : decode cL_law 698 = .ok (.iload_n 3, 1) := by decide +kernel
theorem dL_law_699 : decode cL_law 699 = .ok (.iconst 1, 1) := by decide +kernel
theorem dL_law_700 : decode cL_law 700 = .ok (.iadd, 1) := by decide +kernel
theorem dL_law_701 : decode cL_law 701 = .ok (.iaload, 1) := by decide +kernel
theorem dL_law_702 : decode cL_law 702 = .ok (.invokevirtual 66, 3) := by decide +kernel
theorem dL_law_705 : decode cL_law 705 = .ok (.aload_n 2, 1) := by decide +kernel
theorem dL_law_706 : decode cL_law 706 = .ok (.aload_n 0, 1) := by decide +kernel
theorem dL_law_707 : decode cL_law 707 = .ok (.iload_n 3, 1) := by decide +kernel
theorem dL_law_708 : decode cL_law 708 = .ok (.iconst 1, 1) := by decide +kernel
theorem dL_law_709 : decode cL_law 709 = .ok (.iadd, 1) := by decide +kernel
theorem dL_law_710 : decode cL_law 710 = .ok (.iaload, 1) := by decide +kernel
theorem dL_law_711 : decode cL_law 711 = .ok (.invokevirtual 69, 3) := by decide +kernel
theorem dL_law_714 : decode cL_law 714 = .ok (.if_icmp .eq 734, 3) := by decide +kernel
theorem dL_law_717 : decode cL_law 717 = .ok (.iconst 0, 1) := by decide +kernel
theorem dL_law_718 : decode cL_law 718 = .ok (.ireturn, 1) := by decide +kernel
theorem dL_law_719 : decode cL_law 719 = .ok (.aload_n 1, 1) := by decide +kernel
theorem dL_law_720 : decode cL_law 720 = .ok (.aload_n 0, 1) := by decide +kernel
theorem dL_law_721 : decode cL_law 721 = .ok (.iload_n 3, 1) := by decide +kernel
theorem dL_law_722 : decode cL_law 722 = .ok (.iconst 1, 1) := by decide +kernel
theorem dL_law_723 : decode cL_law 723 = .ok (.iadd, 1) := by decide +kernel
theorem dL_law_724 : decode cL_law 724 = .ok (.iaload, 1) := by decide +kernel
theorem dL_law_725 : decode cL_law 725 = .ok (.aload_n 0, 1) := by decide +kernel
theorem dL_law_726 : decode cL_law 726 = .ok (.iload_n 3, 1) := by decide +kernel
theorem dL_law_727 : decode cL_law 727 = .ok (.iconst 2, 1) := by decide +kernel
theorem dL_law_728 : decode cL_law 728 = .ok (.iadd, 1) := by decide +kernel
theorem dL_law_729 : decode cL_law 729 = .ok (.iaload, 1) := by decide +kernel
theorem dL_law_730 : decode cL_law 730 = .ok (.invokevirtual 70, 3) := by decide +kernel
theorem dL_law_733 : decode cL_law 733 = .ok (.aload_n 2, 1) := by decide +kernel
theorem dL_law_734 : decode cL_law 734 = .ok (.aload_n 0, 1) := by decide +kernel
theorem dL_law_735 : decode cL_law 735 = .ok (.iload_n 3, 1) := by decide +kernel
theorem dL_law_736 : decode cL_law 736 = .ok (.iconst 1, 1) := by decide +kernel
theorem dL_law_737 : decode cL_law 737 = .ok (.iadd, 1) := by decide +kernel
theorem dL_law_738 : decode cL_law 738 = .ok (.iaload, 1) := by decide +kernel
theorem dL_law_739 : decode cL_law 739 = .ok (.aload_n 0, 1) := by decide +kernel
theorem dL_law_740 : decode cL_law 740 = .ok (.iload_n 3, 1) := by decide +kernel
theorem dL_law_741 : decode cL_law 741 = .ok (.iconst 2, 1) := by decide +kernel
theorem dL_law_742 : decode cL_law 742 = .ok (.iadd, 1) := by decide +kernel
theorem dL_law_743 : decode cL_law 743 = .ok (.iaload, 1) := by decide +kernel
theorem dL_law_744 : decode cL_law 744 = .ok (.invokevirtual 73, 3) := by decide +kernel
theorem dL_law_747 : decode cL_law 747 = .ok (.if_icmp .eq 701, 3) := by decide +kernel
theorem dL_law_750 : decode cL_law 750 = .ok (.iconst 0, 1) := by decide +kernel
theorem dL_law_751 : decode cL_law 751 = .ok (.ireturn, 1) := by decide +kernel
theorem dL_law_752 : decode cL_law 752 = .ok (.aload_n 1, 1) := by decide +kernel
theorem dL_law_753 : decode cL_law 753 = .ok (.aload_n 0, 1) := by decide +kernel
theorem dL_law_754 : decode cL_law 754 = .ok (.iload_n 3, 1) := by decide +kernel
theorem dL_law_755 : decode cL_law 755 = .ok (.iconst 1, 1) := by decide +kernel
theorem dL_law_756 : decode cL_law 756 = .ok (.iadd, 1) := by decide +kernel
theorem dL_law_757 : decode cL_law 757 = .ok (.iaload, 1) := by decide +kernel
theorem dL_law_758 : decode cL_law 758 = .ok (.aload_n 0, 1) := by decide +kernel
theorem dL_law_759 : decode cL_law 759 = .ok (.iload_n 3, 1) := by decide +kernel
theorem dL_law_760 : decode cL_law 760 = .ok (.iconst 2, 1) := by decide +kernel
theorem dL_law_761 : decode cL_law 761 = .ok (.iadd, 1) := by decide +kernel
theorem dL_law_762 : decode cL_law 762 = .ok (.iaload, 1) := by decide +kernel
theorem dL_law_763 : decode cL_law 763 = .ok (.ifCond .eq 7, 3) := by decide +kernel
theorem dL_law_766 : decode cL_law 766 = .ok (.iconst 1, 1) := by decide +kernel
theorem dL_law_767 : decode cL_law 767 = .ok (.goto 4, 3) := by decide +kernel
theorem dL_law_770 : decode cL_law 770 = .ok (.iconst 0, 1) := by decide +kernel
theorem dL_law_771 : decode cL_law 771 = .ok (.invokevirtual 74, 3) := by decide +kernel
theorem dL_law_774 : decode cL_law 774 = .ok (.aload_n 2, 1) := by decide +kernel
theorem dL_law_775 : decode cL_law 775 = .ok (.aload_n 0, 1) := by decide +kernel
theorem dL_law_776 : decode cL_law 776 = .ok (.iload_n 3, 1) := by decide +kernel
theorem dL_law_777 : decode cL_law 777 = .ok (.iconst 1, 1) := by decide +kernel
theorem dL_law_778 : decode cL_law 778 = .ok (.iadd, 1) := by decide +kernel
theorem dL_law_779 : decode cL_law 779 = .ok (.iaload, 1) := by decide +kernel
theorem dL_law_780 : decode cL_law 780 = .ok (.aload_n 0, 1) := by decide +kernel
theorem dL_law_781 : decode cL_law 781 = .ok (.iload_n 3, 1) := by decide +kernel
theorem dL_law_782 : decode cL_law 782 = .ok (.iconst 2, 1) := by decide +kernel
theorem dL_law_783 : decode cL_law 783 = .ok (.iadd, 1) := by decide +kernel
theorem dL_law_784 : decode cL_law 784 = .ok (.iaload, 1) := by decide +kernel
theorem dL_law_785 : decode cL_law 785 = .ok (.ifCond .eq 7, 3) := by decide +kernel
theorem dL_law_788 : decode cL_law 788 = .ok (.iconst 1, 1) := by decide +kernel
theorem dL_law_789 : decode cL_law 789 = .ok (.goto 4, 3) := by decide +kernel
theorem dL_law_792 : decode cL_law 792 = .ok (.iconst 0, 1) := by decide +kernel
theorem dL_law_793 : decode cL_law 793 = .ok (.invokevirtual 78, 3) := by decide +kernel
theorem dL_law_796 : decode cL_law 796 = .ok (.if_icmp .eq 652, 3) := by decide +kernel
theorem dL_law_799 : decode cL_law 799 = .ok (.iconst 0, 1) := by decide +kernel
theorem dL_law_800 : decode cL_law 800 = .ok (.ireturn, 1) := by decide +kernel
theorem dL_law_801 : decode cL_law 801 = .ok (.aload_n 1, 1) := by decide +kernel
theorem dL_law_802 : decode cL_law 802 = .ok (.aload_n 0, 1) := by decide +kernel
theorem dL_law_803 : decode cL_law 803 = .ok (.iload_n 3, 1) := by decide +kernel
theorem dL_law_804 : decode cL_law 804 = .ok (.iconst 1, 1) := by decide +kernel
theorem dL_law_805 : decode cL_law 805 = .ok (.iadd, 1) := by decide +kernel
theorem dL_law_806 : decode cL_law 806 = .ok (.iaload, 1) := by decide +kernel
theorem dL_law_807 : decode cL_law 807 = .ok (.invokevirtual 79, 3) := by decide +kernel
theorem dL_law_810 : decode cL_law 810 = .ok (.aload_n 2, 1) := by decide +kernel
theorem dL_law_811 : decode cL_law 811 = .ok (.aload_n 0, 1) := by decide +kernel
theorem dL_law_812 : decode cL_law 812 = .ok (.iload_n 3, 1) := by decide +kernel
theorem dL_law_813 : decode cL_law 813 = .ok (.iconst 1, 1) := by decide +kernel
theorem dL_law_814 : decode cL_law 814 = .ok (.iadd, 1) := by decide +kernel
theorem dL_law_815 : decode cL_law 815 = .ok (.iaload, 1) := by decide +kernel
theorem dL_law_816 : decode cL_law 816 = .ok (.invokevirtual 82, 3) := by decide +kernel
theorem dL_law_819 : decode cL_law 819 = .ok (.if_icmp .eq 629, 3) := by decide +kernel
theorem dL_law_822 : decode cL_law 822 = .ok (.iconst 0, 1) := by decide +kernel
theorem dL_law_823 : decode cL_law 823 = .ok (.ireturn, 1) := by decide +kernel
theorem dL_law_824 : decode cL_law 824 = .ok (.aload_n 1, 1) := by decide +kernel
theorem dL_law_825 : decode cL_law 825 = .ok (.aload_n 0, 1) := by decide +kernel
theorem dL_law_826 : decode cL_law 826 = .ok (.iload_n 3, 1) := by decide +kernel
theorem dL_law_827 : decode cL_law 827 = .ok (.iconst 1, 1) := by decide +kernel
theorem dL_law_828 : decode cL_law 828 = .ok (.iadd, 1) := by decide +kernel
theorem dL_law_829 : decode cL_law 829 = .ok (.iaload, 1) := by decide +kernel
theorem dL_law_830 : decode cL_law 830 = .ok (.invokevirtual 83, 3) := by decide +kernel
theorem dL_law_833 : decode cL_law 833 = .ok (.aload_n 2, 1) := by decide +kernel
theorem dL_law_834 : decode cL_law 834 = .ok (.aload_n 0, 1) := by decide +kernel
theorem dL_law_835 : decode cL_law 835 = .ok (.iload_n 3, 1) := by decide +kernel
theorem dL_law_836 : decode cL_law 836 = .ok (.iconst 1, 1) := by decide +kernel
theorem dL_law_837 : decode cL_law 837 = .ok (.iadd, 1) := by decide +kernel
theorem dL_law_838 : decode cL_law 838 = .ok (.iaload, 1) := by decide +kernel
theorem dL_law_839 : decode cL_law 839 = .ok (.invokevirtual 86, 3) := by decide +kernel
theorem dL_law_842 : decode cL_law 842 = .ok (.if_icmp .eq 606, 3) := by decide +kernel
theorem dL_law_845 : decode cL_law 845 = .ok (.iconst 0, 1) := by decide +kernel
theorem dL_law_846 : decode cL_law 846 = .ok (.ireturn, 1) := by decide +kernel
theorem dL_law_847 : decode cL_law 847 = .ok (.aload_n 1, 1) := by decide +kernel
theorem dL_law_848 : decode cL_law 848 = .ok (.aload_n 0, 1) := by decide +kernel
theorem dL_law_849 : decode cL_law 849 = .ok (.iload_n 3, 1) := by decide +kernel
theorem dL_law_850 : decode cL_law 850 = .ok (.iconst 1, 1) := by decide +kernel
theorem dL_law_851 : decode cL_law 851 = .ok (.iadd, 1) := by decide +kernel
theorem dL_law_852 : decode cL_law 852 = .ok (.iaload, 1) := by decide +kernel
theorem dL_law_853 : decode cL_law 853 = .ok (.aload_n 0, 1) := by decide +kernel
theorem dL_law_854 : decode cL_law 854 = .ok (.iload_n 3, 1) := by decide +kernel
theorem dL_law_855 : decode cL_law 855 = .ok (.iconst 2, 1) := by decide +kernel
theorem dL_law_856 : decode cL_law 856 = .ok (.iadd, 1) := by decide +kernel
theorem dL_law_857 : decode cL_law 857 = .ok (.iaload, 1) := by decide +kernel
theorem dL_law_858 : decode cL_law 858 = .ok (.i2l, 1) := by decide +kernel
theorem dL_law_859 : decode cL_law 859 = .ok (.bipush 32, 2) := by decide +kernel
theorem dL_law_861 : decode cL_law 861 = .ok (.lshl, 1) := by decide +kernel
theorem dL_law_862 : decode cL_law 862 = .ok (.aload_n 0, 1) := by decide +kernel
theorem dL_law_863 : decode cL_law 863 = .ok (.iload_n 3, 1) := by decide +kernel
theorem dL_law_864 : decode cL_law 864 = .ok (.iconst 3, 1) := by decide +kernel
theorem dL_law_865 : decode cL_law 865 = .ok (.iadd, 1) := by decide +kernel
theorem dL_law_866 : decode cL_law 866 = .ok (.iaload, 1) := by decide +kernel
theorem dL_law_867 : decode cL_law 867 = .ok (.i2l, 1) := by decide +kernel
theorem dL_law_868 : decode cL_law 868 = .ok (.ldc2_w 87, 3) := by decide +kernel
theorem dL_law_871 : decode cL_law 871 = .ok (.land, 1) := by decide +kernel
theorem dL_law_872 : decode cL_law 872 = .ok (.lor, 1) := by decide +kernel
theorem dL_law_873 : decode cL_law 873 = .ok (.invokevirtual 89, 3) := by decide +kernel
theorem dL_law_876 : decode cL_law 876 = .ok (.aload_n 2, 1) := by decide +kernel
theorem dL_law_877 : decode cL_law 877 = .ok (.aload_n 0, 1) := by decide +kernel
theorem dL_law_878 : decode cL_law 878 = .ok (.iload_n 3, 1) := by decide +kernel
theorem dL_law_879 : decode cL_law 879 = .ok (.iconst 1, 1) := by decide +kernel
theorem dL_law_880 : decode cL_law 880 = .ok (.iadd, 1) := by decide +kernel
theorem dL_law_881 : decode cL_law 881 = .ok (.iaload, 1) := by decide +kernel
theorem dL_law_882 : decode cL_law 882 = .ok (.aload_n 0, 1) := by decide +kernel
theorem dL_law_883 : decode cL_law 883 = .ok (.iload_n 3, 1) := by decide +kernel
theorem dL_law_884 : decode cL_law 884 = .ok (.iconst 2, 1) := by decide +kernel
theorem dL_law_885 : decode cL_law 885 = .ok (.iadd, 1) := by decide +kernel
theorem dL_law_886 : decode cL_law 886 = .ok (.iaload, 1) := by decide +kernel
theorem dL_law_887 : decode cL_law 887 = .ok (.i2l, 1) := by decide +kernel
theorem dL_law_888 : decode cL_law 888 = .ok (.bipush 32, 2) := by decide +kernel
theorem dL_law_890 : decode cL_law 890 = .ok (.lshl, 1) := by decide +kernel
theorem dL_law_891 : decode cL_law 891 = .ok (.aload_n 0, 1) := by decide +kernel
theorem dL_law_892 : decode cL_law 892 = .ok (.iload_n 3, 1) := by decide +kernel
theorem dL_law_893 : decode cL_law 893 = .ok (.iconst 3, 1) := by decide +kernel
theorem dL_law_894 : decode cL_law 894 = .ok (.iadd, 1) := by decide +kernel
theorem dL_law_895 : decode cL_law 895 = .ok (.iaload, 1) := by decide +kernel
theorem dL_law_896 : decode cL_law 896 = .ok (.i2l, 1) := by decide +kernel
theorem dL_law_897 : decode cL_law 897 = .ok (.ldc2_w 87, 3) := by decide +kernel
theorem dL_law_900 : decode cL_law 900 = .ok (.land, 1) := by decide +kernel
theorem dL_law_901 : decode cL_law 901 = .ok (.lor, 1) := by decide +kernel
theorem dL_law_902 : decode cL_law 902 = .ok (.invokevirtual 93, 3) := by decide +kernel
theorem dL_law_905 : decode cL_law 905 = .ok (.if_icmp .eq 543, 3) := by decide +kernel
theorem dL_law_908 : decode cL_law 908 = .ok (.iconst 0, 1) := by decide +kernel
theorem dL_law_909 : decode cL_law 909 = .ok (.ireturn, 1) := by decide +kernel
theorem dL_law_910 : decode cL_law 910 = .ok (.aload_n 1, 1) := by decide +kernel
theorem dL_law_911 : decode cL_law 911 = .ok (.invokevirtual 94, 3) := by decide +kernel
theorem dL_law_914 : decode cL_law 914 = .ok (.aload_n 2, 1) := by decide +kernel
theorem dL_law_915 : decode cL_law 915 = .ok (.invokevirtual 98, 3) := by decide +kernel
theorem dL_law_918 : decode cL_law 918 = .ok (.if_icmp .eq 530, 3) := by decide +kernel
theorem dL_law_921 : decode cL_law 921 = .ok (.iconst 0, 1) := by decide +kernel
theorem dL_law_922 : decode cL_law 922 = .ok (.ireturn, 1) := by decide +kernel
theorem dL_law_923 : decode cL_law 923 = .ok (.aload_n 1, 1) := by decide +kernel
theorem dL_law_924 : decode cL_law 924 = .ok (.invokevirtual 99, 3) := by decide +kernel
theorem dL_law_927 : decode cL_law 927 = .ok (.aload_n 2, 1) := by decide +kernel
theorem dL_law_928 : decode cL_law 928 = .ok (.invokevirtual 102, 3) := by decide +kernel
theorem dL_law_931 : decode cL_law 931 = .ok (.if_icmp .eq 517, 3) := by decide +kernel
theorem dL_law_934 : decode cL_law 934 = .ok (.iconst 0, 1) := by decide +kernel
theorem dL_law_935 : decode cL_law 935 = .ok (.ireturn, 1) := by decide +kernel
theorem dL_law_936 : decode cL_law 936 = .ok (.aload_n 1, 1) := by decide +kernel
theorem dL_law_937 : decode cL_law 937 = .ok (.invokevirtual 103, 3) := by decide +kernel
theorem dL_law_940 : decode cL_law 940 = .ok (.aload_n 2, 1) := by decide +kernel
theorem dL_law_941 : decode cL_law 941 = .ok (.invokevirtual 106, 3) := by decide +kernel
theorem dL_law_944 : decode cL_law 944 = .ok (.if_icmp .eq 504, 3) := by decide +kernel
theorem dL_law_947 : decode cL_law 947 = .ok (.iconst 0, 1) := by decide +kernel
theorem dL_law_948 : decode cL_law 948 = .ok (.ireturn, 1) := by decide +kernel
theorem dL_law_949 : decode cL_law 949 = .ok (.aload_n 1, 1) := by decide +kernel
theorem dL_law_950 : decode cL_law 950 = .ok (.aload_n 0, 1) := by decide +kernel
theorem dL_law_951 : decode cL_law 951 = .ok (.iload_n 3, 1) := by decide +kernel
theorem dL_law_952 : decode cL_law 952 = .ok (.iconst 1, 1) := by decide +kernel
theorem dL_law_953 : decode cL_law 953 = .ok (.iadd, 1) := by decide +kernel
theorem dL_law_954 : decode cL_law 954 = .ok (.iaload, 1) := by decide +kernel
theorem dL_law_955 : decode cL_law 955 = .ok (.aload_n 0, 1) := by decide +kernel
theorem dL_law_956 : decode cL_law 956 = .ok (.iload_n 3, 1) := by decide +kernel
theorem dL_law_957 : decode cL_law 957 = .ok (.iconst 2, 1) := by decide +kernel
theorem dL_law_958 : decode cL_law 958 = .ok (.iadd, 1) := by decide +kernel
theorem dL_law_959 : decode cL_law 959 = .ok (.iaload, 1) := by decide +kernel
theorem dL_law_960 : decode cL_law 960 = .ok (.aload_n 0, 1) := by decide +kernel
theorem dL_law_961 : decode cL_law 961 = .ok (.iload_n 3, 1) := by decide +kernel
theorem dL_law_962 : decode cL_law 962 = .ok (.iconst 3, 1) := by decide +kernel
theorem dL_law_963 : decode cL_law 963 = .ok (.iadd, 1) := by decide +kernel
theorem dL_law_964 : decode cL_law 964 = .ok (.iaload, 1) := by decide +kernel
theorem dL_law_965 : decode cL_law 965 = .ok (.invokevirtual 107, 3) := by decide +kernel
theorem dL_law_968 : decode cL_law 968 = .ok (.aload_n 2, 1) := by decide +kernel
theorem dL_law_969 : decode cL_law 969 = .ok (.aload_n 0, 1) := by decide +kernel
theorem dL_law_970 : decode cL_law 970 = .ok (.iload_n 3, 1) := by decide +kernel
theorem dL_law_971 : decode cL_law 971 = .ok (.iconst 1, 1) := by decide +kernel
theorem dL_law_972 : decode cL_law 972 = .ok (.iadd, 1) := by decide +kernel
theorem dL_law_973 : decode cL_law 973 = .ok (.iaload, 1) := by decide +kernel
theorem dL_law_974 : decode cL_law 974 = .ok (.aload_n 0, 1) := by decide +kernel
theorem dL_law_975 : decode cL_law 975 = .ok (.iload_n 3, 1) := by decide +kernel
theorem dL_law_976 : decode cL_law 976 = .ok (.iconst 2, 1) := by decide +kernel
theorem dL_law_977 : decode cL_law 977 = .ok (.iadd, 1) := by decide +kernel
theorem dL_law_978 : decode cL_law 978 = .ok (.iaload, 1) := by decide +kernel
theorem dL_law_979 : decode cL_law 979 = .ok (.aload_n 0, 1) := by decide +kernel
theorem dL_law_980 : decode cL_law 980 = .ok (.iload_n 3, 1) := by decide +kernel
theorem dL_law_981 : decode cL_law 981 = .ok (.iconst 3, 1) := by decide +kernel
theorem dL_law_982 : decode cL_law 982 = .ok (.iadd, 1) := by decide +kernel
theorem dL_law_983 : decode cL_law 983 = .ok (.iaload, 1) := by decide +kernel
theorem dL_law_984 : decode cL_law 984 = .ok (.invokevirtual 110, 3) := by decide +kernel
theorem dL_law_987 : decode cL_law 987 = .ok (.if_icmp .eq 461, 3) := by decide +kernel
theorem dL_law_990 : decode cL_law 990 = .ok (.iconst 0, 1) := by decide +kernel
theorem dL_law_991 : decode cL_law 991 = .ok (.ireturn, 1) := by decide +kernel
theorem dL_law_992 : decode cL_law 992 = .ok (.aload_n 1, 1) := by decide +kernel
theorem dL_law_993 : decode cL_law 993 = .ok (.aload_n 0, 1) := by decide +kernel
theorem dL_law_994 : decode cL_law 994 = .ok (.iload_n 3, 1) := by decide +kernel
theorem dL_law_995 : decode cL_law 995 = .ok (.iconst 1, 1) := by decide +kernel
theorem dL_law_996 : decode cL_law 996 = .ok (.iadd, 1) := by decide +kernel
theorem dL_law_997 : decode cL_law 997 = .ok (.iaload, 1) := by decide +kernel
theorem dL_law_998 : decode cL_law 998 = .ok (.aload_n 0, 1) := by decide +kernel
theorem dL_law_999 : decode cL_law 999 = .ok (.iload_n 3, 1) := by decide +kernel
theorem dL_law_1000 : decode cL_law 1000 = .ok (.iconst 2, 1) := by decide +kernel
theorem dL_law_1001 : decode cL_law 1001 = .ok (.iadd, 1) := by decide +kernel
theorem dL_law_1002 : decode cL_law 1002 = .ok (.iaload, 1) := by decide +kernel
theorem dL_law_1003 : decode cL_law 1003 = .ok (.aload_n 0, 1) := by decide +kernel
theorem dL_law_1004 : decode cL_law 1004 = .ok (.iload_n 3, 1) := by decide +kernel
theorem dL_law_1005 : decode cL_law 1005 = .ok (.iconst 3, 1) := by decide +kernel
theorem dL_law_1006 : decode cL_law 1006 = .ok (.iadd, 1) := by decide +kernel
theorem dL_law_1007 : decode cL_law 1007 = .ok (.iaload, 1) := by decide +kernel
theorem dL_law_1008 : decode cL_law 1008 = .ok (.invokevirtual 111, 3) := by decide +kernel
theorem dL_law_1011 : decode cL_law 1011 = .ok (.aload_n 2, 1) := by decide +kernel
theorem dL_law_1012 : decode cL_law 1012 = .ok (.aload_n 0, 1) := by decide +kernel
theorem dL_law_1013 : decode cL_law 1013 = .ok (.iload_n 3, 1) := by decide +kernel
theorem dL_law_1014 : decode cL_law 1014 = .ok (.iconst 1, 1) := by decide +kernel
theorem dL_law_1015 : decode cL_law 1015 = .ok (.iadd, 1) := by decide +kernel
theorem dL_law_1016 : decode cL_law 1016 = .ok (.iaload, 1) := by decide +kernel
theorem dL_law_1017 : decode cL_law 1017 = .ok (.aload_n 0, 1) := by decide +kernel
theorem dL_law_1018 : decode cL_law 1018 = .ok (.iload_n 3, 1) := by decide +kernel
theorem dL_law_1019 : decode cL_law 1019 = .ok (.iconst 2, 1) := by decide +kernel
theorem dL_law_1020 : decode cL_law 1020 = .ok (.iadd, 1) := by decide +kernel
theorem dL_law_1021 : decode cL_law 1021 = .ok (.iaload, 1) := by decide +kernel
theorem dL_law_1022 : decode cL_law 1022 = .ok (.aload_n 0, 1) := by decide +kernel
theorem dL_law_1023 : decode cL_law 1023 = .ok (.iload_n 3, 1) := by decide +kernel
theorem dL_law_1024 : decode cL_law 1024 = .ok (.iconst 3, 1) := by decide +kernel
theorem dL_law_1025 : decode cL_law 1025 = .ok (.iadd, 1) := by decide +kernel
theorem dL_law_1026 : decode cL_law 1026 = .ok (.iaload, 1) := by decide +kernel
theorem dL_law_1027 : decode cL_law 1027 = .ok (.invokevirtual 114, 3) := by decide +kernel
theorem dL_law_1030 : decode cL_law 1030 = .ok (.if_icmp .eq 418, 3) := by decide +kernel
theorem dL_law_1033 : decode cL_law 1033 = .ok (.iconst 0, 1) := by decide +kernel
theorem dL_law_1034 : decode cL_law 1034 = .ok (.ireturn, 1) := by decide +kernel
theorem dL_law_1035 : decode cL_law 1035 = .ok (.aload_n 1, 1) := by decide +kernel
theorem dL_law_1036 : decode cL_law 1036 = .ok (.invokevirtual 115, 3) := by decide +kernel
theorem dL_law_1039 : decode cL_law 1039 = .ok (.aload_n 2, 1) := by decide +kernel
theorem dL_law_1040 : decode cL_law 1040 = .ok (.invokevirtual 118, 3) := by decide +kernel
theorem dL_law_1043 : decode cL_law 1043 = .ok (.if_icmp .eq 405, 3) := by decide +kernel
theorem dL_law_1046 : decode cL_law 1046 = .ok (.iconst 0, 1) := by decide +kernel
theorem dL_law_1047 : decode cL_law 1047 = .ok (.ireturn, 1) := by decide +kernel
theorem dL_law_1048 : decode cL_law 1048 = .ok (.aload_n 1, 1) := by decide +kernel
theorem dL_law_1049 : decode cL_law 1049 = .ok (.aload_n 0, 1) := by decide +kernel
theorem dL_law_1050 : decode cL_law 1050 = .ok (.iload_n 3, 1) := by decide +kernel
theorem dL_law_1051 : decode cL_law 1051 = .ok (.iconst 1, 1) := by decide +kernel
theorem dL_law_1052 : decode cL_law 1052 = .ok (.iadd, 1) := by decide +kernel
theorem dL_law_1053 : decode cL_law 1053 = .ok (.iaload, 1) := by decide +kernel
theorem dL_law_1054 : decode cL_law 1054 = .ok (.invokevirtual 119, 3) := by decide +kernel
theorem dL_law_1057 : decode cL_law 1057 = .ok (.aload_n 2, 1) := by decide +kernel
theorem dL_law_1058 : decode cL_law 1058 = .ok (.aload_n 0, 1) := by decide +kernel
theorem dL_law_1059 : decode cL_law 1059 = .ok (.iload_n 3, 1) := by decide +kernel
theorem dL_law_1060 : decode cL_law 1060 = .ok (.iconst 1, 1) := by decide +kernel
theorem dL_law_1061 : decode cL_law 1061 = .ok (.iadd, 1) := by decide +kernel
theorem dL_law_1062 : decode cL_law 1062 = .ok (.iaload, 1) := by decide +kernel
theorem dL_law_1063 : decode cL_law 1063 = .ok (.invokevirtual 122, 3) := by decide +kernel
theorem dL_law_1066 : decode cL_law 1066 = .ok (.if_icmp .eq 382, 3) := by decide +kernel
theorem dL_law_1069 : decode cL_law 1069 = .ok (.iconst 0, 1) := by decide +kernel
theorem dL_law_1070 : decode cL_law 1070 = .ok (.ireturn, 1) := by decide +kernel
theorem dL_law_1071 : decode cL_law 1071 = .ok (.aload_n 1, 1) := by decide +kernel
theorem dL_law_1072 : decode cL_law 1072 = .ok (.aload_n 0, 1) := by decide +kernel
theorem dL_law_1073 : decode cL_law 1073 = .ok (.iload_n 3, 1) := by decide +kernel
theorem dL_law_1074 : decode cL_law 1074 = .ok (.iconst 1, 1) := by decide +kernel
theorem dL_law_1075 : decode cL_law 1075 = .ok (.iadd, 1) := by decide +kernel
theorem dL_law_1076 : decode cL_law 1076 = .ok (.iaload, 1) := by decide +kernel
theorem dL_law_1077 : decode cL_law 1077 = .ok (.invokevirtual 123, 3) := by decide +kernel
theorem dL_law_1080 : decode cL_law 1080 = .ok (.aload_n 2, 1) := by decide +kernel
theorem dL_law_1081 : decode cL_law 1081 = .ok (.aload_n 0, 1) := by decide +kernel
theorem dL_law_1082 : decode cL_law 1082 = .ok (.iload_n 3, 1) := by decide +kernel
theorem dL_law_1083 : decode cL_law 1083 = .ok (.iconst 1, 1) := by decide +kernel
theorem dL_law_1084 : decode cL_law 1084 = .ok (.iadd, 1) := by decide +kernel
theorem dL_law_1085 : decode cL_law 1085 = .ok (.iaload, 1) := by decide +kernel
theorem dL_law_1086 : decode cL_law 1086 = .ok (.invokevirtual 126, 3) := by decide +kernel
theorem dL_law_1089 : decode cL_law 1089 = .ok (.if_icmp .eq 359, 3) := by decide +kernel
theorem dL_law_1092 : decode cL_law 1092 = .ok (.iconst 0, 1) := by decide +kernel
theorem dL_law_1093 : decode cL_law 1093 = .ok (.ireturn, 1) := by decide +kernel
theorem dL_law_1094 : decode cL_law 1094 = .ok (.aload_n 1, 1) := by decide +kernel
theorem dL_law_1095 : decode cL_law 1095 = .ok (.aload_n 0, 1) := by decide +kernel
theorem dL_law_1096 : decode cL_law 1096 = .ok (.iload_n 3, 1) := by decide +kernel
theorem dL_law_1097 : decode cL_law 1097 = .ok (.iconst 1, 1) := by decide +kernel
theorem dL_law_1098 : decode cL_law 1098 = .ok (.iadd, 1) := by decide +kernel
theorem dL_law_1099 : decode cL_law 1099 = .ok (.iaload, 1) := by decide +kernel
theorem dL_law_1100 : decode cL_law 1100 = .ok (.aload_n 0, 1) := by decide +kernel
theorem dL_law_1101 : decode cL_law 1101 = .ok (.iload_n 3, 1) := by decide +kernel
theorem dL_law_1102 : decode cL_law 1102 = .ok (.iconst 2, 1) := by decide +kernel
theorem dL_law_1103 : decode cL_law 1103 = .ok (.iadd, 1) := by decide +kernel
theorem dL_law_1104 : decode cL_law 1104 = .ok (.iaload, 1) := by decide +kernel
theorem dL_law_1105 : decode cL_law 1105 = .ok (.aload_n 0, 1) := by decide +kernel
theorem dL_law_1106 : decode cL_law 1106 = .ok (.iload_n 3, 1) := by decide +kernel
theorem dL_law_1107 : decode cL_law 1107 = .ok (.iconst 3, 1) := by decide +kernel
theorem dL_law_1108 : decode cL_law 1108 = .ok (.iadd, 1) := by decide +kernel
theorem dL_law_1109 : decode cL_law 1109 = .ok (.iaload, 1) := by decide +kernel
theorem dL_law_1110 : decode cL_law 1110 = .ok (.invokevirtual 127, 3) := by decide +kernel
theorem dL_law_1113 : decode cL_law 1113 = .ok (.aload_n 2, 1) := by decide +kernel
theorem dL_law_1114 : decode cL_law 1114 = .ok (.aload_n 0, 1) := by decide +kernel
theorem dL_law_1115 : decode cL_law 1115 = .ok (.iload_n 3, 1) := by decide +kernel
theorem dL_law_1116 : decode cL_law 1116 = .ok (.iconst 1, 1) := by decide +kernel
theorem dL_law_1117 : decode cL_law 1117 = .ok (.iadd, 1) := by decide +kernel
theorem dL_law_1118 : decode cL_law 1118 = .ok (.iaload, 1) := by decide +kernel
theorem dL_law_1119 : decode cL_law 1119 = .ok (.aload_n 0, 1) := by decide +kernel
theorem dL_law_1120 : decode cL_law 1120 = .ok (.iload_n 3, 1) := by decide +kernel
theorem dL_law_1121 : decode cL_law 1121 = .ok (.iconst 2, 1) := by decide +kernel
theorem dL_law_1122 : decode cL_law 1122 = .ok (.iadd, 1) := by decide +kernel
theorem dL_law_1123 : decode cL_law 1123 = .ok (.iaload, 1) := by decide +kernel
theorem dL_law_1124 : decode cL_law 1124 = .ok (.aload_n 0, 1) := by decide +kernel
theorem dL_law_1125 : decode cL_law 1125 = .ok (.iload_n 3, 1) := by decide +kernel
theorem dL_law_1126 : decode cL_law 1126 = .ok (.iconst 3, 1) := by decide +kernel
theorem dL_law_1127 : decode cL_law 1127 = .ok (.iadd, 1) := by decide +kernel
theorem dL_law_1128 : decode cL_law 1128 = .ok (.iaload, 1) := by decide +kernel
theorem dL_law_1129 : decode cL_law 1129 = .ok (.invokevirtual 130, 3) := by decide +kernel
theorem dL_law_1132 : decode cL_law 1132 = .ok (.if_icmp .eq 316, 3) := by decide +kernel
theorem dL_law_1135 : decode cL_law 1135 = .ok (.iconst 0, 1) := by decide +kernel
theorem dL_law_1136 : decode cL_law 1136 = .ok (.ireturn, 1) := by decide +kernel
theorem dL_law_1137 : decode cL_law 1137 = .ok (.aload_n 1, 1) := by decide +kernel
theorem dL_law_1138 : decode cL_law 1138 = .ok (.aload_n 0, 1) := by decide +kernel
theorem dL_law_1139 : decode cL_law 1139 = .ok (.iload_n 3, 1) := by decide +kernel
theorem dL_law_1140 : decode cL_law 1140 = .ok (.iconst 1, 1) := by decide +kernel
theorem dL_law_1141 : decode cL_law 1141 = .ok (.iadd, 1) := by decide +kernel
theorem dL_law_1142 : decode cL_law 1142 = .ok (.iaload, 1) := by decide +kernel
theorem dL_law_1143 : decode cL_law 1143 = .ok (.invokevirtual 131, 3) := by decide +kernel
theorem dL_law_1146 : decode cL_law 1146 = .ok (.aload_n 2, 1) := by decide +kernel
theorem dL_law_1147 : decode cL_law 1147 = .ok (.aload_n 0, 1) := by decide +kernel
theorem dL_law_1148 : decode cL_law 1148 = .ok (.iload_n 3, 1) := by decide +kernel
theorem dL_law_1149 : decode cL_law 1149 = .ok (.iconst 1, 1) := by decide +kernel
theorem dL_law_1150 : decode cL_law 1150 = .ok (.iadd, 1) := by decide +kernel
theorem dL_law_1151 : decode cL_law 1151 = .ok (.iaload, 1) := by decide +kernel
theorem dL_law_1152 : decode cL_law 1152 = .ok (.invokevirtual 134, 3) := by decide +kernel
theorem dL_law_1155 : decode cL_law 1155 = .ok (.if_icmp .eq 293, 3) := by decide +kernel
theorem dL_law_1158 : decode cL_law 1158 = .ok (.iconst 0, 1) := by decide +kernel
theorem dL_law_1159 : decode cL_law 1159 = .ok (.ireturn, 1) := by decide +kernel
theorem dL_law_1160 : decode cL_law 1160 = .ok (.aload_n 1, 1) := by decide +kernel
theorem dL_law_1161 : decode cL_law 1161 = .ok (.aload_n 0, 1) := by decide +kernel
theorem dL_law_1162 : decode cL_law 1162 = .ok (.iload_n 3, 1) := by decide +kernel
theorem dL_law_1163 : decode cL_law 1163 = .ok (.iconst 1, 1) := by decide +kernel
theorem dL_law_1164 : decode cL_law 1164 = .ok (.iadd, 1) := by decide +kernel
theorem dL_law_1165 : decode cL_law 1165 = .ok (.iaload, 1) := by decide +kernel
theorem dL_law_1166 : decode cL_law 1166 = .ok (.aload_n 0, 1) := by decide +kernel
theorem dL_law_1167 : decode cL_law 1167 = .ok (.iload_n 3, 1) := by decide +kernel
theorem dL_law_1168 : decode cL_law 1168 = .ok (.iconst 2, 1) := by decide +kernel
theorem dL_law_1169 : decode cL_law 1169 = .ok (.iadd, 1) := by decide +kernel
theorem dL_law_1170 : decode cL_law 1170 = .ok (.iaload, 1) := by decide +kernel
theorem dL_law_1171 : decode cL_law 1171 = .ok (.invokevirtual 135, 3) := by decide +kernel
theorem dL_law_1174 : decode cL_law 1174 = .ok (.aload_n 2, 1) := by decide +kernel
theorem dL_law_1175 : decode cL_law 1175 = .ok (.aload_n 0, 1) := by decide +kernel
theorem dL_law_1176 : decode cL_law 1176 = .ok (.iload_n 3, 1) := by decide +kernel
theorem dL_law_1177 : decode cL_law 1177 = .ok (.iconst 1, 1) := by decide +kernel
theorem dL_law_1178 : decode cL_law 1178 = .ok (.iadd, 1) := by decide +kernel
theorem dL_law_1179 : decode cL_law 1179 = .ok (.iaload, 1) := by decide +kernel
theorem dL_law_1180 : decode cL_law 1180 = .ok (.aload_n 0, 1) := by decide +kernel
theorem dL_law_1181 : decode cL_law 1181 = .ok (.iload_n 3, 1) := by decide +kernel
theorem dL_law_1182 : decode cL_law 1182 = .ok (.iconst 2, 1) := by decide +kernel
theorem dL_law_1183 : decode cL_law 1183 = .ok (.iadd, 1) := by decide +kernel
theorem dL_law_1184 : decode cL_law 1184 = .ok (.iaload, 1) := by decide +kernel
theorem dL_law_1185 : decode cL_law 1185 = .ok (.invokevirtual 138, 3) := by decide +kernel
theorem dL_law_1188 : decode cL_law 1188 = .ok (.if_icmp .eq 260, 3) := by decide +kernel
theorem dL_law_1191 : decode cL_law 1191 = .ok (.iconst 0, 1) := by decide +kernel
theorem dL_law_1192 : decode cL_law 1192 = .ok (.ireturn, 1) := by decide +kernel
theorem dL_law_1193 : decode cL_law 1193 = .ok (.aload_n 1, 1) := by decide +kernel
theorem dL_law_1194 : decode cL_law 1194 = .ok (.aload_n 0, 1) := by decide +kernel
theorem dL_law_1195 : decode cL_law 1195 = .ok (.iload_n 3, 1) := by decide +kernel
theorem dL_law_1196 : decode cL_law 1196 = .ok (.iconst 1, 1) := by decide +kernel
theorem dL_law_1197 : decode cL_law 1197 = .ok (.iadd, 1) := by decide +kernel
theorem dL_law_1198 : decode cL_law 1198 = .ok (.iaload, 1) := by decide +kernel
theorem dL_law_1199 : decode cL_law 1199 = .ok (.aload_n 0, 1) := by decide +kernel
theorem dL_law_1200 : decode cL_law 1200 = .ok (.iload_n 3, 1) := by decide +kernel
theorem dL_law_1201 : decode cL_law 1201 = .ok (.iconst 2, 1) := by decide +kernel
theorem dL_law_1202 : decode cL_law 1202 = .ok (.iadd, 1) := by decide +kernel
theorem dL_law_1203 : decode cL_law 1203 = .ok (.iaload, 1) := by decide +kernel
theorem dL_law_1204 : decode cL_law 1204 = .ok (.invokevirtual 139, 3) := by decide +kernel
theorem dL_law_1207 : decode cL_law 1207 = .ok (.aload_n 2, 1) := by decide +kernel
theorem dL_law_1208 : decode cL_law 1208 = .ok (.aload_n 0, 1) := by decide +kernel
theorem dL_law_1209 : decode cL_law 1209 = .ok (.iload_n 3, 1) := by decide +kernel
theorem dL_law_1210 : decode cL_law 1210 = .ok (.iconst 1, 1) := by decide +kernel
theorem dL_law_1211 : decode cL_law 1211 = .ok (.iadd, 1) := by decide +kernel
theorem dL_law_1212 : decode cL_law 1212 = .ok (.iaload, 1) := by decide +kernel
theorem dL_law_1213 : decode cL_law 1213 = .ok (.aload_n 0, 1) := by decide +kernel
theorem dL_law_1214 : decode cL_law 1214 = .ok (.iload_n 3, 1) := by decide +kernel
theorem dL_law_1215 : decode cL_law 1215 = .ok (.iconst 2, 1) := by decide +kernel
theorem dL_law_1216 : decode cL_law 1216 = .ok (.iadd, 1) := by decide +kernel
theorem dL_law_1217 : decode cL_law 1217 = .ok (.iaload, 1) := by decide +kernel
theorem dL_law_1218 : decode cL_law 1218 = .ok (.invokevirtual 142, 3) := by decide +kernel
theorem dL_law_1221 : decode cL_law 1221 = .ok (.if_icmp .eq 227, 3) := by decide +kernel
theorem dL_law_1224 : decode cL_law 1224 = .ok (.iconst 0, 1) := by decide +kernel
theorem dL_law_1225 : decode cL_law 1225 = .ok (.ireturn, 1) := by decide +kernel
theorem dL_law_1226 : decode cL_law 1226 = .ok (.aload_n 1, 1) := by decide +kernel
theorem dL_law_1227 : decode cL_law 1227 = .ok (.aload_n 0, 1) := by decide +kernel
theorem dL_law_1228 : decode cL_law 1228 = .ok (.iload_n 3, 1) := by decide +kernel
theorem dL_law_1229 : decode cL_law 1229 = .ok (.iconst 1, 1) := by decide +kernel
theorem dL_law_1230 : decode cL_law 1230 = .ok (.iadd, 1) := by decide +kernel
theorem dL_law_1231 : decode cL_law 1231 = .ok (.iaload, 1) := by decide +kernel
theorem dL_law_1232 : decode cL_law 1232 = .ok (.aload_n 0, 1) := by decide +kernel
theorem dL_law_1233 : decode cL_law 1233 = .ok (.iload_n 3, 1) := by decide +kernel
theorem dL_law_1234 : decode cL_law 1234 = .ok (.iconst 2, 1) := by decide +kernel
theorem dL_law_1235 : decode cL_law 1235 = .ok (.iadd, 1) := by decide +kernel
theorem dL_law_1236 : decode cL_law 1236 = .ok (.iaload, 1) := by decide +kernel
theorem dL_law_1237 : decode cL_law 1237 = .ok (.aload_n 0, 1) := by decide +kernel
theorem dL_law_1238 : decode cL_law 1238 = .ok (.iload_n 3, 1) := by decide +kernel
theorem dL_law_1239 : decode cL_law 1239 = .ok (.iconst 3, 1) := by decide +kernel
theorem dL_law_1240 : decode cL_law 1240 = .ok (.iadd, 1) := by decide +kernel
theorem dL_law_1241 : decode cL_law 1241 = .ok (.iaload, 1) := by decide +kernel
theorem dL_law_1242 : decode cL_law 1242 = .ok (.invokevirtual 143, 3) := by decide +kernel
theorem dL_law_1245 : decode cL_law 1245 = .ok (.aload_n 2, 1) := by decide +kernel
theorem dL_law_1246 : decode cL_law 1246 = .ok (.aload_n 0, 1) := by decide +kernel
theorem dL_law_1247 : decode cL_law 1247 = .ok (.iload_n 3, 1) := by decide +kernel
theorem dL_law_1248 : decode cL_law 1248 = .ok (.iconst 1, 1) := by decide +kernel
theorem dL_law_1249 : decode cL_law 1249 = .ok (.iadd, 1) := by decide +kernel
theorem dL_law_1250 : decode cL_law 1250 = .ok (.iaload, 1) := by decide +kernel
theorem dL_law_1251 : decode cL_law 1251 = .ok (.aload_n 0, 1) := by decide +kernel
theorem dL_law_1252 : decode cL_law 1252 = .ok (.iload_n 3, 1) := by decide +kernel
theorem dL_law_1253 : decode cL_law 1253 = .ok (.iconst 2, 1) := by decide +kernel
theorem dL_law_1254 : decode cL_law 1254 = .ok (.iadd, 1) := by decide +kernel
theorem dL_law_1255 : decode cL_law 1255 = .ok (.iaload, 1) := by decide +kernel
theorem dL_law_1256 : decode cL_law 1256 = .ok (.aload_n 0, 1) := by decide +kernel
theorem dL_law_1257 : decode cL_law 1257 = .ok (.iload_n 3, 1) := by decide +kernel
theorem dL_law_1258 : decode cL_law 1258 = .ok (.iconst 3, 1) := by decide +kernel
theorem dL_law_1259 : decode cL_law 1259 = .ok (.iadd, 1) := by decide +kernel
theorem dL_law_1260 : decode cL_law 1260 = .ok (.iaload, 1) := by decide +kernel
theorem dL_law_1261 : decode cL_law 1261 = .ok (.invokevirtual 147, 3) := by decide +kernel
theorem dL_law_1264 : decode cL_law 1264 = .ok (.lcmp, 1) := by decide +kernel
theorem dL_law_1265 : decode cL_law 1265 = .ok (.ifCond .eq 183, 3) := by decide +kernel
theorem dL_law_1268 : decode cL_law 1268 = .ok (.iconst 0, 1) := by decide +kernel
theorem dL_law_1269 : decode cL_law 1269 = .ok (.ireturn, 1) := by decide +kernel
theorem dL_law_1270 : decode cL_law 1270 = .ok (.aload_n 1, 1) := by decide +kernel
theorem dL_law_1271 : decode cL_law 1271 = .ok (.aload_n 0, 1) := by decide +kernel
theorem dL_law_1272 : decode cL_law 1272 = .ok (.iload_n 3, 1) := by decide +kernel
theorem dL_law_1273 : decode cL_law 1273 = .ok (.iconst 1, 1) := by decide +kernel
theorem dL_law_1274 : decode cL_law 1274 = .ok (.iadd, 1) := by decide +kernel
theorem dL_law_1275 : decode cL_law 1275 = .ok (.iaload, 1) := by decide +kernel
theorem dL_law_1276 : decode cL_law 1276 = .ok (.aload_n 0, 1) := by decide +kernel
theorem dL_law_1277 : decode cL_law 1277 = .ok (.iload_n 3, 1) := by decide +kernel
theorem dL_law_1278 : decode cL_law 1278 = .ok (.iconst 2, 1) := by decide +kernel
theorem dL_law_1279 : decode cL_law 1279 = .ok (.iadd, 1) := by decide +kernel
theorem dL_law_1280 : decode cL_law 1280 = .ok (.iaload, 1) := by decide +kernel
theorem dL_law_1281 : decode cL_law 1281 = .ok (.aload_n 0, 1) := by decide +kernel
theorem dL_law_1282 : decode cL_law 1282 = .ok (.iload_n 3, 1) := by decide +kernel
theorem dL_law_1283 : decode cL_law 1283 = .ok (.iconst 3, 1) := by decide +kernel
theorem dL_law_1284 : decode cL_law 1284 = .ok (.iadd, 1) := by decide +kernel
theorem dL_law_1285 : decode cL_law 1285 = .ok (.iaload, 1) := by decide +kernel
theorem dL_law_1286 : decode cL_law 1286 = .ok (.invokevirtual 148, 3) := by decide +kernel
theorem dL_law_1289 : decode cL_law 1289 = .ok (.aload_n 2, 1) := by decide +kernel
theorem dL_law_1290 : decode cL_law 1290 = .ok (.aload_n 0, 1) := by decide +kernel
theorem dL_law_1291 : decode cL_law 1291 = .ok (.iload_n 3, 1) := by decide +kernel
theorem dL_law_1292 : decode cL_law 1292 = .ok (.iconst 1, 1) := by decide +kernel
theorem dL_law_1293 : decode cL_law 1293 = .ok (.iadd, 1) := by decide +kernel
theorem dL_law_1294 : decode cL_law 1294 = .ok (.iaload, 1) := by decide +kernel
theorem dL_law_1295 : decode cL_law 1295 = .ok (.aload_n 0, 1) := by decide +kernel
theorem dL_law_1296 : decode cL_law 1296 = .ok (.iload_n 3, 1) := by decide +kernel
theorem dL_law_1297 : decode cL_law 1297 = .ok (.iconst 2, 1) := by decide +kernel
theorem dL_law_1298 : decode cL_law 1298 = .ok (.iadd, 1) := by decide +kernel
theorem dL_law_1299 : decode cL_law 1299 = .ok (.iaload, 1) := by decide +kernel
theorem dL_law_1300 : decode cL_law 1300 = .ok (.aload_n 0, 1) := by decide +kernel
theorem dL_law_1301 : decode cL_law 1301 = .ok (.iload_n 3, 1) := by decide +kernel
theorem dL_law_1302 : decode cL_law 1302 = .ok (.iconst 3, 1) := by decide +kernel
theorem dL_law_1303 : decode cL_law 1303 = .ok (.iadd, 1) := by decide +kernel
theorem dL_law_1304 : decode cL_law 1304 = .ok (.iaload, 1) := by decide +kernel
theorem dL_law_1305 : decode cL_law 1305 = .ok (.invokevirtual 151, 3) := by decide +kernel
theorem dL_law_1308 : decode cL_law 1308 = .ok (.if_icmp .eq 140, 3) := by decide +kernel
theorem dL_law_1311 : decode cL_law 1311 = .ok (.iconst 0, 1) := by decide +kernel
theorem dL_law_1312 : decode cL_law 1312 = .ok (.ireturn, 1) := by decide +kernel
theorem dL_law_1313 : decode cL_law 1313 = .ok (.aload_n 1, 1) := by decide +kernel
theorem dL_law_1314 : decode cL_law 1314 = .ok (.aload_n 0, 1) := by decide +kernel
theorem dL_law_1315 : decode cL_law 1315 = .ok (.iload_n 3, 1) := by decide +kernel
theorem dL_law_1316 : decode cL_law 1316 = .ok (.iconst 1, 1) := by decide +kernel
theorem dL_law_1317 : decode cL_law 1317 = .ok (.iadd, 1) := by decide +kernel
theorem dL_law_1318 : decode cL_law 1318 = .ok (.iaload, 1) := by decide +kernel
theorem dL_law_1319 : decode cL_law 1319 = .ok (.aload_n 0, 1) := by decide +kernel
theorem dL_law_1320 : decode cL_law 1320 = .ok (.iload_n 3, 1) := by decide +kernel
theorem dL_law_1321 : decode cL_law 1321 = .ok (.iconst 2, 1) := by decide +kernel
theorem dL_law_1322 : decode cL_law 1322 = .ok (.iadd, 1) := by decide +kernel
theorem dL_law_1323 : decode cL_law 1323 = .ok (.iaload, 1) := by decide +kernel
theorem dL_law_1324 : decode cL_law 1324 = .ok (.aload_n 0, 1) := by decide +kernel
theorem dL_law_1325 : decode cL_law 1325 = .ok (.iload_n 3, 1) := by decide +kernel
theorem dL_law_1326 : decode cL_law 1326 = .ok (.iconst 3, 1) := by decide +kernel
theorem dL_law_1327 : decode cL_law 1327 = .ok (.iadd, 1) := by decide +kernel
theorem dL_law_1328 : decode cL_law 1328 = .ok (.iaload, 1) := by decide +kernel
theorem dL_law_1329 : decode cL_law 1329 = .ok (.invokevirtual 152, 3) := by decide +kernel
theorem dL_law_1332 : decode cL_law 1332 = .ok (.aload_n 2, 1) := by decide +kernel
theorem dL_law_1333 : decode cL_law 1333 = .ok (.aload_n 0, 1) := by decide +kernel
theorem dL_law_1334 : decode cL_law 1334 = .ok (.iload_n 3, 1) := by decide +kernel
theorem dL_law_1335 : decode cL_law 1335 = .ok (.iconst 1, 1) := by decide +kernel
theorem dL_law_1336 : decode cL_law 1336 = .ok (.iadd, 1) := by decide +kernel
theorem dL_law_1337 : decode cL_law 1337 = .ok (.iaload, 1) := by decide +kernel
theorem dL_law_1338 : decode cL_law 1338 = .ok (.aload_n 0, 1) := by decide +kernel
theorem dL_law_1339 : decode cL_law 1339 = .ok (.iload_n 3, 1) := by decide +kernel
theorem dL_law_1340 : decode cL_law 1340 = .ok (.iconst 2, 1) := by decide +kernel
theorem dL_law_1341 : decode cL_law 1341 = .ok (.iadd, 1) := by decide +kernel
theorem dL_law_1342 : decode cL_law 1342 = .ok (.iaload, 1) := by decide +kernel
theorem dL_law_1343 : decode cL_law 1343 = .ok (.aload_n 0, 1) := by decide +kernel
theorem dL_law_1344 : decode cL_law 1344 = .ok (.iload_n 3, 1) := by decide +kernel
theorem dL_law_1345 : decode cL_law 1345 = .ok (.iconst 3, 1) := by decide +kernel
theorem dL_law_1346 : decode cL_law 1346 = .ok (.iadd, 1) := by decide +kernel
theorem dL_law_1347 : decode cL_law 1347 = .ok (.iaload, 1) := by decide +kernel
theorem dL_law_1348 : decode cL_law 1348 = .ok (.invokevirtual 155, 3) := by decide +kernel
theorem dL_law_1351 : decode cL_law 1351 = .ok (.if_icmp .eq 97, 3) := by decide +kernel
theorem dL_law_1354 : decode cL_law 1354 = .ok (.iconst 0, 1) := by decide +kernel
theorem dL_law_1355 : decode cL_law 1355 = .ok (.ireturn, 1) := by decide +kernel
theorem dL_law_1356 : decode cL_law 1356 = .ok (.aload_n 1, 1) := by decide +kernel
theorem dL_law_1357 : decode cL_law 1357 = .ok (.aload_n 0, 1) := by decide +kernel
theorem dL_law_1358 : decode cL_law 1358 = .ok (.iload_n 3, 1) := by decide +kernel
theorem dL_law_1359 : decode cL_law 1359 = .ok (.iconst 1, 1) := by decide +kernel
theorem dL_law_1360 : decode cL_law 1360 = .ok (.iadd, 1) := by decide +kernel
theorem dL_law_1361 : decode cL_law 1361 = .ok (.iaload, 1) := by decide +kernel
theorem dL_law_1362 : decode cL_law 1362 = .ok (.aload_n 0, 1) := by decide +kernel
theorem dL_law_1363 : decode cL_law 1363 = .ok (.iload_n 3, 1) := by decide +kernel
theorem dL_law_1364 : decode cL_law 1364 = .ok (.iconst 2, 1) := by decide +kernel
theorem dL_law_1365 : decode cL_law 1365 = .ok (.iadd, 1) := by decide +kernel
theorem dL_law_1366 : decode cL_law 1366 = .ok (.iaload, 1) := by decide +kernel
theorem dL_law_1367 : decode cL_law 1367 = .ok (.aload_n 0, 1) := by decide +kernel
theorem dL_law_1368 : decode cL_law 1368 = .ok (.iload_n 3, 1) := by decide +kernel
theorem dL_law_1369 : decode cL_law 1369 = .ok (.iconst 3, 1) := by decide +kernel
theorem dL_law_1370 : decode cL_law 1370 = .ok (.iadd, 1) := by decide +kernel
theorem dL_law_1371 : decode cL_law 1371 = .ok (.iaload, 1) := by decide +kernel
theorem dL_law_1372 : decode cL_law 1372 = .ok (.invokevirtual 156, 3) := by decide +kernel
theorem dL_law_1375 : decode cL_law 1375 = .ok (.aload_n 2, 1) := by decide +kernel
theorem dL_law_1376 : decode cL_law 1376 = .ok (.aload_n 0, 1) := by decide +kernel
theorem dL_law_1377 : decode cL_law 1377 = .ok (.iload_n 3, 1) := by decide +kernel
theorem dL_law_1378 : decode cL_law 1378 = .ok (.iconst 1, 1) := by decide +kernel
theorem dL_law_1379 : decode cL_law 1379 = .ok (.iadd, 1) := by decide +kernel
theorem dL_law_1380 : decode cL_law 1380 = .ok (.iaload, 1) := by decide +kernel
theorem dL_law_1381 : decode cL_law 1381 = .ok (.aload_n 0, 1) := by decide +kernel
theorem dL_law_1382 : decode cL_law 1382 = .ok (.iload_n 3, 1) := by decide +kernel
theorem dL_law_1383 : decode cL_law 1383 = .ok (.iconst 2, 1) := by decide +kernel
theorem dL_law_1384 : decode cL_law 1384 = .ok (.iadd, 1) := by decide +kernel
theorem dL_law_1385 : decode cL_law 1385 = .ok (.iaload, 1) := by decide +kernel
theorem dL_law_1386 : decode cL_law 1386 = .ok (.aload_n 0, 1) := by decide +kernel
theorem dL_law_1387 : decode cL_law 1387 = .ok (.iload_n 3, 1) := by decide +kernel
theorem dL_law_1388 : decode cL_law 1388 = .ok (.iconst 3, 1) := by decide +kernel
theorem dL_law_1389 : decode cL_law 1389 = .ok (.iadd, 1) := by decide +kernel
theorem dL_law_1390 : decode cL_law 1390 = .ok (.iaload, 1) := by decide +kernel
theorem dL_law_1391 : decode cL_law 1391 = .ok (.invokevirtual 159, 3) := by decide +kernel
theorem dL_law_1394 : decode cL_law 1394 = .ok (.if_icmp .eq 54, 3) := by decide +kernel
theorem dL_law_1397 : decode cL_law 1397 = .ok (.iconst 0, 1) := by decide +kernel
theorem dL_law_1398 : decode cL_law 1398 = .ok (.ireturn, 1) := by decide +kernel
theorem dL_law_1399 : decode cL_law 1399 = .ok (.aload_n 1, 1) := by decide +kernel
theorem dL_law_1400 : decode cL_law 1400 = .ok (.invokevirtual 160, 3) := by decide +kernel
theorem dL_law_1403 : decode cL_law 1403 = .ok (.aload_n 2, 1) := by decide +kernel
theorem dL_law_1404 : decode cL_law 1404 = .ok (.invokevirtual 163, 3) := by decide +kernel
theorem dL_law_1407 : decode cL_law 1407 = .ok (.if_icmp .eq 41, 3) := by decide +kernel
theorem dL_law_1410 : decode cL_law 1410 = .ok (.iconst 0, 1) := by decide +kernel
theorem dL_law_1411 : decode cL_law 1411 = .ok (.ireturn, 1) := by decide +kernel
theorem dL_law_1412 : decode cL_law 1412 = .ok (.aload_n 1, 1) := by decide +kernel
theorem dL_law_1413 : decode cL_law 1413 = .ok (.invokevirtual 164, 3) := by decide +kernel
theorem dL_law_1416 : decode cL_law 1416 = .ok (.aload_n 2, 1) := by decide +kernel
theorem dL_law_1417 : decode cL_law 1417 = .ok (.invokevirtual 167, 3) := by decide +kernel
theorem dL_law_1420 : decode cL_law 1420 = .ok (.if_icmp .eq 28, 3) := by decide +kernel
theorem dL_law_1423 : decode cL_law 1423 = .ok (.iconst 0, 1) := by decide +kernel
theorem dL_law_1424 : decode cL_law 1424 = .ok (.ireturn, 1) := by decide +kernel
theorem dL_law_1425 : decode cL_law 1425 = .ok (.aload_n 1, 1) := by decide +kernel
theorem dL_law_1426 : decode cL_law 1426 = .ok (.aload_n 0, 1) := by decide +kernel
theorem dL_law_1427 : decode cL_law 1427 = .ok (.iload_n 3, 1) := by decide +kernel
theorem dL_law_1428 : decode cL_law 1428 = .ok (.iconst 1, 1) := by decide +kernel
theorem dL_law_1429 : decode cL_law 1429 = .ok (.iadd, 1) := by decide +kernel
theorem dL_law_1430 : decode cL_law 1430 = .ok (.iaload, 1) := by decide +kernel
theorem dL_law_1431 : decode cL_law 1431 = .ok (.invokevirtual 168, 3) := by decide +kernel
theorem dL_law_1434 : decode cL_law 1434 = .ok (.aload_n 2, 1) := by decide +kernel
theorem dL_law_1435 : decode cL_law 1435 = .ok (.aload_n 0, 1) := by decide +kernel
theorem dL_law_1436 : decode cL_law 1436 = .ok (.iload_n 3, 1) := by decide +kernel
theorem dL_law_1437 : decode cL_law 1437 = .ok (.iconst 1, 1) := by decide +kernel
theorem dL_law_1438 : decode cL_law 1438 = .ok (.iadd, 1) := by decide +kernel
theorem dL_law_1439 : decode cL_law 1439 = .ok (.iaload, 1) := by decide +kernel
theorem dL_law_1440 : decode cL_law 1440 = .ok (.invokevirtual 171, 3) := by decide +kernel
theorem dL_law_1443 : decode cL_law 1443 = .ok (.if_icmp .eq 5, 3) := by decide +kernel
theorem dL_law_1446 : decode cL_law 1446 = .ok (.iconst 0, 1) := by decide +kernel
theorem dL_law_1447 : decode cL_law 1447 = .ok (.ireturn, 1) := by decide +kernel
theorem dL_law_1448 : decode cL_law 1448 = .ok (.iinc 3 7, 3) := by decide +kernel
theorem dL_law_1451 : decode cL_law 1451 = .ok (.goto (-1433), 3) := by decide +kernel
theorem dL_law_1454 : decode cL_law 1454 = .ok (.iconst 1, 1) := by decide +kernel
theorem dL_law_1455 : decode cL_law 1455 = .ok (.ireturn, 1) := by decide +kernel
end
section
/-! memory: a cell's number, a place in it; shapes of cells; the world -/
abbrev hn_M : Type := Nat → Nat → Int32
def hn_up (μ : hn_M) (k i : Nat) (x : Int32) : hn_M := fun a => if a = k then (fun b => if b = i then x else μ a b) else μ a
/-- of a cell: a row of numbers (bytes?, how long), of references, an object (class, its fields: a number, a reference that the memory names, a reference that stays), any other -/
abbrev hn_S : Type := (Bool × Nat) ⊕ (List Nat ⊕ ((Nat × List (Option (Option Nat))) ⊕ va_E))
abbrev hn_B : Type := va_G × Nat × (ClassId × ClassId × ClassId) × Nat × (Nat → hn_S) × (Nat × Nat × Nat × Nat)
abbrev hn_D (B : hn_B) : va_G := B.1
abbrev hn_base (B : hn_B) : Nat := B.2.1
abbrev hn_cI (B : hn_B) : ClassId := B.2.2.1.1
abbrev hn_cB (B : hn_B) : ClassId := B.2.2.1.2.1
abbrev hn_cR (B : hn_B) : ClassId := B.2.2.1.2.2
abbrev hn_n (B : hn_B) : Nat := B.2.2.2.1
abbrev hn_sg (B : hn_B) : Nat → hn_S := B.2.2.2.2.1
abbrev hn_tH (B : hn_B) : Nat := B.2.2.2.2.2.1
abbrev hn_tW (B : hn_B) : Nat := B.2.2.2.2.2.2.1
abbrev hn_aS (B : hn_B) : Nat := B.2.2.2.2.2.2.2.1
abbrev hn_aV (B : hn_B) : Nat := B.2.2.2.2.2.2.2.2
def hn_val (base : Nat) (k : Option (Option Nat)) (x : Int32) : Value := match k with
  | none => .int x
  | some none => .ref (base + x.toNatClampNeg)
  | some (some t) => .ref (base + t)
def hn_fields (base : Nat) (ks : List (Option (Option Nat))) (f : Nat → Int32) : List Value := (List.range ks.length).map fun j => hn_val base (ks.getD j none) (f j)
def hn_cell (B : hn_B) (k : Nat) (f : Nat → Int32) : va_E := match hn_sg B k with
  | .inl (b, n) => .inl (if b = true then hn_cB B else hn_cI B, n, .inl f)
  | .inr (.inl rs) => .inl (hn_cR B, rs.length, .inr (.inr (.inr (.inr fun j => (rs[j]?).map fun t => hn_base B + t))))
  | .inr (.inr (.inl o)) => .inr (o.1, hn_fields (hn_base B) o.2 f)
  | .inr (.inr (.inr e)) => e
def hn_w (B : hn_B) (μ : hn_M) : va_W := (List.range (hn_n B)).map fun k => (hn_base B + k, hn_cell B k (μ k))
def hn_P (B : hn_B) (μ : hn_M) (H : Heap) : Prop := va_P (hn_D B) vwCl (hn_w B μ) H
def hn_A (B : hn_B) : Nat → Prop := fun q => hn_base B ≤ q
abbrev hn_tys (B : hn_B) : List (ClassId × FieldType) := [(hn_cI B, .int), (hn_cB B, .byte), (hn_cR B, .object RX1)]
def hn_high (j : Nat) : Int32 := ([5, 100, 999, -1, 7, 100, 999, -1, -1, 999, 999, -1, -1, 999, 999, -1, -1, 9, 999, -1, 5, 9, 999, 999] : List Int32).getD j 0
def hn_out (j : Nat) : Int32 := ([10, 0, 999, 20, 1] : List Int32).getD j 0
/-- the statics that are read -/
def hn_St (B : hn_B) (U : State) (H : Heap) : Prop :=
  (va_Z "HandNews$Items" "HIGHEST" "[I" (.ref (hn_tH B)) (hn_A B) U H ∧ va_T .int (hn_tH B) 24 (fun j => .int (hn_high j)) (hn_A B) U H) ∧
  (va_Z "HandNews$Items" "WITHOUT" "[I" (.ref (hn_tW B)) (hn_A B) U H ∧ va_T .int (hn_tW B) 5 (fun j => .int (hn_out j)) (hn_A B) U H) ∧
  vk_R "HandNews$Items" 57 "wvobxn" (hn_aS B) U ∧ vk_S 1 [6] [[119, 118, 111, 98, 120, 110]] (fun _ => hn_aS B) (fun _ => hn_aV B) (hn_A B) U H ∧ va_Z "java/lang/String" "COMPACT_STRINGS" "Z" (.int 1) (hn_A B) U H
/-- the tables' words that a call keeps, and those of nest mates -/
def hn_tb : List Cond := lw_tbl.filter goodWord
theorem hn_in {w : Cond} (h : w ∈ lw_tbl) (g : goodWord w = true) : w ∈ hn_tb := List.mem_filter.mpr ⟨h, g⟩
def hn_nest : List (String × Nat × MethodName) := [(RX1, 70, yX7_with), (RX1, 74, yX7_isIn), (RX6, 19, yX7_isIn), (RX7, 29, yX3_init), (RX7, 36, yX5_init), (RX7, 43, yX4_init), (RX7, 50, yX6_init), (RX7, 57, yX0_init)]
def hn_Ne (U : State) : Prop := ∀ q ∈ hn_nest, va_Nw (.methodLinkNest q.1 q.2.1 q.2.2 "HandNews") U
def hn_K (B : hn_B) (U : State) : Prop := va_K (hn_D B) vwCl (hn_tys B) U ∧ hn_St B U U.heap ∧ hn_Ne U
theorem hn_St.go {B : hn_B} {s U : State} {H : Heap} (hW : s.WarmedH U.vm) (hq : ∀ a : Nat, a < s.heap.size → ¬ hn_A B a → H[a]? = s.heap[a]?) (h : hn_St B s s.heap) : hn_St B U H := by
  obtain ⟨⟨a1, a2⟩, ⟨b1, b2⟩, c, d, e⟩ := h
  exact ⟨⟨(a1.moved hW.alike).kept hq, (a2.moved hW.alike).kept hq⟩, ⟨(b1.moved hW.alike).kept hq, (b2.moved hW.alike).kept hq⟩, c.warm hW, (d.moved hW.alike).kept hq, (e.moved hW.alike).kept hq⟩
theorem hn_St.same {B : hn_B} {s U : State} {H : Heap} (hv : U.vm = s.vm) (h : hn_St B s H) : hn_St B U H := by
  obtain ⟨⟨a1, a2⟩, ⟨b1, b2⟩, c, d, e⟩ := h
  have hA : s.vm.Alike U.vm := by rw [hv]; exact Vm.Alike.refl _
  exact ⟨⟨a1.moved hA, a2.moved hA⟩, ⟨b1.moved hA, b2.moved hA⟩, c.same hv, d.moved hA, e.moved hA⟩
theorem hn_K.go {B : hn_B} {s U : State} {H : Heap} {locs : List Loc} (hW : s.WarmedH U.vm) (hU : U.heap = H) (hS : va_S (hn_A B) s.heap H locs) (h : hn_K B s) : hn_K B U :=
  ⟨va_K.moved hW.alike h.1, by rw [hU]; exact h.2.1.go hW hS.2.1, fun q hq => (h.2.2 q hq).warmM hW⟩
/-! places of the world -/
theorem hn_w_at (B : hn_B) (μ : hn_M) {k : Nat} (hk : k < hn_n B) : (hn_w B μ)[k]? = some (hn_base B + k, hn_cell B k (μ k)) := by
  simp [hn_w, List.getElem?_map, List.getElem?_range hk]
theorem hn_w_len (B : hn_B) (μ : hn_M) : (hn_w B μ).length = hn_n B := by simp [hn_w]
theorem hn_w_D (B : hn_B) (μ : hn_M) : va_D (hn_A B) (hn_w B μ) := by
  have key : ∀ (k : Nat) (q : Nat × va_E), (hn_w B μ)[k]? = some q → q.1 = hn_base B + k := by
    intro k q h
    have hk : k < hn_n B := by rw [← hn_w_len B μ]; exact (List.getElem?_eq_some_iff.mp h).1
    rw [hn_w_at B μ hk] at h
    rw [← Option.some.inj h]
  refine ⟨fun i j p q hp hq e => ?_, fun k q h => ?_⟩
  · have h1 := key i p hp
    have h2 := key j q hq
    omega
  · show hn_base B ≤ q.1
    have := key k q h
    omega
theorem hn_w_set {B : hn_B} {μ μ' : hn_M} {k : Nat} {e : va_E} (hk : k < hn_n B) (he : hn_cell B k (μ' k) = e) (ho : ∀ j, j ≠ k → μ' j = μ j) : (hn_w B μ).set k (hn_base B + k, e) = hn_w B μ' := by
  apply List.ext_getElem?
  intro j
  by_cases hj : j < hn_n B
  · rw [hn_w_at B μ' hj]
    by_cases hjk : j = k
    · subst hjk
      rw [List.getElem?_set_self (by rw [hn_w_len]; exact hj), he]
    · rw [List.getElem?_set_ne (fun q => hjk q.symm), hn_w_at B μ hj, ho j hjk]
  · rw [List.getElem?_eq_none (by rw [List.length_set, hn_w_len]; omega), List.getElem?_eq_none (by rw [hn_w_len]; omega)]
theorem hn_up_ne {μ : hn_M} {k i : Nat} {x : Int32} {j : Nat} (h : j ≠ k) : hn_up μ k i x j = μ j := by simp [hn_up, h]
theorem hn_up_eq {μ : hn_M} {k i : Nat} {x : Int32} : hn_up μ k i x k = fun b => if b = i then x else μ k b := by simp [hn_up]
def hn_isA (B : hn_B) (k : Nat) (b : Bool) (n : Nat) : Prop := k < hn_n B ∧ hn_sg B k = .inl (b, n)
def hn_isR (B : hn_B) (k : Nat) (rs : List Nat) : Prop := k < hn_n B ∧ hn_sg B k = .inr (.inl rs)
def hn_isO (B : hn_B) (k ci : Nat) (ks : List (Option (Option Nat))) : Prop := k < hn_n B ∧ hn_sg B k = .inr (.inr (.inl (ci, ks)))
theorem hn_at_A {B : hn_B} {k : Nat} {b : Bool} {n : Nat} (h : hn_isA B k b n) (μ : hn_M) : (hn_w B μ)[k]? = some (hn_base B + k, .inl (if b = true then hn_cB B else hn_cI B, n, .inl (μ k))) := by
  rw [hn_w_at B μ h.1]; simp only [hn_cell, h.2]
theorem hn_at_R {B : hn_B} {k : Nat} {rs : List Nat} (h : hn_isR B k rs) (μ : hn_M) : (hn_w B μ)[k]? = some (hn_base B + k, .inl (hn_cR B, rs.length, .inr (.inr (.inr (.inr fun j => (rs[j]?).map fun t => hn_base B + t))))) := by
  rw [hn_w_at B μ h.1]; simp only [hn_cell, h.2]
theorem hn_at_O {B : hn_B} {k ci : Nat} {ks : List (Option (Option Nat))} (h : hn_isO B k ci ks) (μ : hn_M) : (hn_w B μ)[k]? = some (hn_base B + k, .inr (ci, hn_fields (hn_base B) ks (μ k))) := by
  rw [hn_w_at B μ h.1]; simp only [hn_cell, h.2]
theorem hn_fields_at {base : Nat} {ks : List (Option (Option Nat))} {f : Nat → Int32} {j : Nat} {kd : Option (Option Nat)} (h : ks[j]? = some kd) : (hn_fields base ks f)[j]? = some (hn_val base kd (f j)) := by
  have hj : j < ks.length := (List.getElem?_eq_some_iff.mp h).1
  simp [hn_fields, List.getElem?_map, List.getElem?_range hj, List.getD_eq_getElem?_getD, h]
theorem hn_fields_len {base : Nat} {ks : List (Option (Option Nat))} {f : Nat → Int32} : (hn_fields base ks f).length = ks.length := by simp [hn_fields]
theorem hn_fields_set {base : Nat} {ks : List (Option (Option Nat))} {f : Nat → Int32} {j : Nat} {kd : Option (Option Nat)} (h : ks[j]? = some kd) (x : Int32) : (hn_fields base ks f).set j (hn_val base kd x) = hn_fields base ks (fun b => if b = j then x else f b) := by
  have hj : j < ks.length := (List.getElem?_eq_some_iff.mp h).1
  apply List.ext_getElem?
  intro i
  by_cases hi : i < ks.length
  · obtain ⟨ki, hki⟩ : ∃ ki, ks[i]? = some ki := ⟨_, List.getElem?_eq_getElem hi⟩
    rw [hn_fields_at hki]
    by_cases hij : i = j
    · subst hij
      cases h.symm.trans hki
      rw [List.getElem?_set_self (by rw [hn_fields_len]; exact hi), if_pos rfl]
    · rw [List.getElem?_set_ne (fun q => hij q.symm), hn_fields_at hki, if_neg hij]
  · rw [List.getElem?_eq_none (by rw [List.length_set, hn_fields_len]; omega), List.getElem?_eq_none (by rw [hn_fields_len]; omega)]
/-! where a method stands: the machine's fixed things, and the goal -/
abbrev hn_Z : Type := Program × Launch × Env × Room × State × MethodId × Array Value × List Frame × Method × Code × (State → Prop)
abbrev zp (Z : hn_Z) : Program := Z.1
abbrev zl (Z : hn_Z) : Launch := Z.2.1
abbrev ze (Z : hn_Z) : Env := Z.2.2.1
abbrev zR (Z : hn_Z) : Room := Z.2.2.2.1
abbrev zs (Z : hn_Z) : State := Z.2.2.2.2.1
abbrev zm (Z : hn_Z) : MethodId := Z.2.2.2.2.2.1
abbrev za (Z : hn_Z) : Array Value := Z.2.2.2.2.2.2.1
abbrev zb (Z : hn_Z) : List Frame := Z.2.2.2.2.2.2.2.1
abbrev zt (Z : hn_Z) : Method := Z.2.2.2.2.2.2.2.2.1
abbrev zc (Z : hn_Z) : Code := Z.2.2.2.2.2.2.2.2.2.1
abbrev zQ (Z : hn_Z) : State → Prop := Z.2.2.2.2.2.2.2.2.2.2
def hn_G (Z : hn_Z) (B : hn_B) (kp : Nat × Nat) (nL pc : Nat) (L : List (Nat × Value)) (st : List Value) (μ : hn_M) : Prop :=
  ∀ (H : Heap) (locs : List Loc) (ls : Array Slot), lv_has ls nL L → hn_P B μ H → va_S (hn_A B) (zs Z).heap H locs → W (zp Z) (zl Z) (ze Z) (zR Z) (zs Z) (zm Z) (za Z) (zb Z) (zt Z) (zc Z) H locs kp.1 kp.2 (zQ Z) (F0 (zm Z) pc ls st)
def hn_F (Z : hn_Z) (B : hn_B) (kp : Nat × Nat) (cc : ByteArray) (nL : Nat) (own : String) (ret : Option FieldType) (h : Nat) : Prop :=
  (zp Z).tables.exec = Jvm.exec ∧ (zc Z).code = cc ∧ (zc Z).maxLocals = nL ∧ (zs Z).vm.findClass own = some (zm Z).cls ∧ (∀ w ∈ hn_tb, w.before (za Z) (zs Z) = true) ∧ (zt Z).sig.returnType = ret ∧ (zt Z).locks = false ∧ hn_K B (zs Z) ∧ (h ≤ (zR Z).frames ∧ 35 * h ≤ (zR Z).locals) ∧ (kp.1 ≤ (zR Z).cells ∧ kp.2 ≤ (zR Z).slots)
section hn_rules
variable {Z : hn_Z} {B : hn_B} {kp : Nat × Nat} {cc : ByteArray} {nL : Nat} {own : String} {ret : Option FieldType} {h : Nat} {pc q : Nat} {L L' : List (Nat × Value)} {st : List Value} {μ : hn_M} {α : Type} {R : α}
theorem hn_sub (ks : List Nat) (hl : lv_pick L ks = L') (k : hn_G Z B kp nL pc L' st μ) : hn_G Z B kp nL pc L st μ :=
  fun H locs ls a b c => k H locs ls (lv_sub a ks hl) b c
theorem hn_eq {st' : List Value} {L' : List (Nat × Value)} {q : Nat} (h1 : pc = q) (h2 : L = L') (h3 : st = st') (k : hn_G Z B kp nL q L' st' μ) : hn_G Z B kp nL pc L st μ := by
  subst h1; subst h2; subst h3; exact k
theorem hn_iconst {n : Int} {v : Int32} (hF : hn_F Z B kp cc nL own ret h) (hd : decode cc pc = .ok (.iconst n, 1)) (hq : pc + 1 = q) (hv : Int32.ofInt n = v) (k : hn_G Z B kp nL q L (.int v :: st) μ) : hn_G Z B kp nL pc L (st) μ := by
  subst hq; exact fun H locs ls a b c => lv_iconst hF.1 hF.2.1 hd hv (k H locs ls a b c)
theorem hn_bipush {n : Int} {v : Int32} (hF : hn_F Z B kp cc nL own ret h) (hd : decode cc pc = .ok (.bipush n, 2)) (hq : pc + 2 = q) (hv : (Int8.ofInt n).toInt32 = v) (k : hn_G Z B kp nL q L (.int v :: st) μ) : hn_G Z B kp nL pc L (st) μ := by
  subst hq; exact fun H locs ls a b c => lv_bipush hF.1 hF.2.1 hd hv (k H locs ls a b c)
theorem hn_sipush {n : Int} {v : Int32} (hF : hn_F Z B kp cc nL own ret h) (hd : decode cc pc = .ok (.sipush n, 3)) (hq : pc + 3 = q) (hv : (Int16.ofInt n).toInt32 = v) (k : hn_G Z B kp nL q L (.int v :: st) μ) : hn_G Z B kp nL pc L (st) μ := by
  subst hq; exact fun H locs ls a b c => lv_sipush hF.1 hF.2.1 hd hv (k H locs ls a b c)
theorem hn_lconst {n : Fin 2} {v : Int64} (hF : hn_F Z B kp cc nL own ret h) (hd : decode cc pc = .ok (.lconst n, 1)) (hq : pc + 1 = q) (hv : Int64.ofNat (n : Nat) = v) (k : hn_G Z B kp nL q L (.long v :: st) μ) : hn_G Z B kp nL pc L (st) μ := by
  subst hq; exact fun H locs ls a b c => lv_lconst hF.1 hF.2.1 hd hv (k H locs ls a b c)
theorem hn_iload_n {k0 : Fin 4} {x : Int32} (hF : hn_F Z B kp cc nL own ret h) (hd : decode cc pc = .ok (.iload_n k0, 1)) (hq : pc + 1 = q) (p : Nat) (hl : L[p]? = some ((k0 : Nat), .int x)) (k : hn_G Z B kp nL q L (.int x :: st) μ) : hn_G Z B kp nL pc L st μ := by
  subst hq; exact fun H locs ls a b c => lv_iload_n hF.1 hF.2.1 hd rfl (lv_at a p hl) (k H locs ls a b c)
theorem hn_iload {i : Nat} {x : Int32} (hF : hn_F Z B kp cc nL own ret h) (hd : decode cc pc = .ok (.iload i, 2)) (hq : pc + 2 = q) (p : Nat) (hl : L[p]? = some (i, .int x)) (k : hn_G Z B kp nL q L (.int x :: st) μ) : hn_G Z B kp nL pc L st μ := by
  subst hq; exact fun H locs ls a b c => lv_iload hF.1 hF.2.1 hd (lv_at a p hl) (k H locs ls a b c)
theorem hn_lload_n {k0 : Fin 4} {x : Int64} (hF : hn_F Z B kp cc nL own ret h) (hd : decode cc pc = .ok (.lload_n k0, 1)) (hq : pc + 1 = q) (p : Nat) (hl : L[p]? = some ((k0 : Nat), .long x)) (k : hn_G Z B kp nL q L (.long x :: st) μ) : hn_G Z B kp nL pc L st μ := by
  subst hq; exact fun H locs ls a b c => lv_lload_n hF.1 hF.2.1 hd rfl (lv_at a p hl) (k H locs ls a b c)
theorem hn_lload {i : Nat} {x : Int64} (hF : hn_F Z B kp cc nL own ret h) (hd : decode cc pc = .ok (.lload i, 2)) (hq : pc + 2 = q) (p : Nat) (hl : L[p]? = some (i, .long x)) (k : hn_G Z B kp nL q L (.long x :: st) μ) : hn_G Z B kp nL pc L st μ := by
  subst hq; exact fun H locs ls a b c => lv_lload hF.1 hF.2.1 hd (lv_at a p hl) (k H locs ls a b c)
theorem hn_aload_n {k0 : Fin 4} {x : Nat} (hF : hn_F Z B kp cc nL own ret h) (hd : decode cc pc = .ok (.aload_n k0, 1)) (hq : pc + 1 = q) (p : Nat) (hl : L[p]? = some ((k0 : Nat), .ref x)) (k : hn_G Z B kp nL q L (.ref x :: st) μ) : hn_G Z B kp nL pc L st μ := by
  subst hq; exact fun H locs ls a b c => lv_aload_n hF.1 hF.2.1 hd rfl (lv_at a p hl) (k H locs ls a b c)
theorem hn_aload {i : Nat} {x : Nat} (hF : hn_F Z B kp cc nL own ret h) (hd : decode cc pc = .ok (.aload i, 2)) (hq : pc + 2 = q) (p : Nat) (hl : L[p]? = some (i, .ref x)) (k : hn_G Z B kp nL q L (.ref x :: st) μ) : hn_G Z B kp nL pc L st μ := by
  subst hq; exact fun H locs ls a b c => lv_aload hF.1 hF.2.1 hd (lv_at a p hl) (k H locs ls a b c)
theorem hn_istore_n {k0 : Fin 4} {i : Nat} {x : Int32} (hF : hn_F Z B kp cc nL own ret h) (hd : decode cc pc = .ok (.istore_n k0, 1)) (hq : pc + 1 = q) (hi : (k0 : Nat) = i) (hn : i < nL) (hl : (i, Value.int x) :: L.filter (fun q => !(q.1 == i) && !(q.1 + 1 == i && q.2.category == 2)) = L') (k : hn_G Z B kp nL q L' st μ) : hn_G Z B kp nL pc L (.int x :: st) μ := by
  subst hq; exact fun H locs ls a b c => lv_istore_n hF.1 hF.2.1 hd hi a hn hl (fun ls' a' => k H locs ls' a' b c)
theorem hn_istore {i : Nat} {x : Int32} (hF : hn_F Z B kp cc nL own ret h) (hd : decode cc pc = .ok (.istore i, 2)) (hq : pc + 2 = q) (hn : i < nL) (hl : (i, Value.int x) :: L.filter (fun q => !(q.1 == i) && !(q.1 + 1 == i && q.2.category == 2)) = L') (k : hn_G Z B kp nL q L' st μ) : hn_G Z B kp nL pc L (.int x :: st) μ := by
  subst hq; exact fun H locs ls a b c => lv_istore hF.1 hF.2.1 hd a hn hl (fun ls' a' => k H locs ls' a' b c)
theorem hn_lstore_n {k0 : Fin 4} {i : Nat} {x : Int64} (hF : hn_F Z B kp cc nL own ret h) (hd : decode cc pc = .ok (.lstore_n k0, 1)) (hq : pc + 1 = q) (hi : (k0 : Nat) = i) (hn : i + 1 < nL) (hl : (i, Value.long x) :: L.filter (fun q => !(q.1 == i) && (!(q.1 == i + 1) && !(q.1 + 1 == i && q.2.category == 2))) = L') (k : hn_G Z B kp nL q L' st μ) : hn_G Z B kp nL pc L (.long x :: st) μ := by
  subst hq; exact fun H locs ls a b c => lv_lstore_n hF.1 hF.2.1 hd hi a hn hl (fun ls' a' => k H locs ls' a' b c)
theorem hn_lstore {i : Nat} {x : Int64} (hF : hn_F Z B kp cc nL own ret h) (hd : decode cc pc = .ok (.lstore i, 2)) (hq : pc + 2 = q) (hn : i + 1 < nL) (hl : (i, Value.long x) :: L.filter (fun q => !(q.1 == i) && (!(q.1 == i + 1) && !(q.1 + 1 == i && q.2.category == 2))) = L') (k : hn_G Z B kp nL q L' st μ) : hn_G Z B kp nL pc L (.long x :: st) μ := by
  subst hq; exact fun H locs ls a b c => lv_lstore hF.1 hF.2.1 hd a hn hl (fun ls' a' => k H locs ls' a' b c)
theorem hn_astore_n {k0 : Fin 4} {i : Nat} {x : Nat} (hF : hn_F Z B kp cc nL own ret h) (hd : decode cc pc = .ok (.astore_n k0, 1)) (hq : pc + 1 = q) (hi : (k0 : Nat) = i) (hn : i < nL) (hl : (i, Value.ref x) :: L.filter (fun q => !(q.1 == i) && !(q.1 + 1 == i && q.2.category == 2)) = L') (k : hn_G Z B kp nL q L' st μ) : hn_G Z B kp nL pc L (.ref x :: st) μ := by
  subst hq; exact fun H locs ls a b c => lv_astore_n hF.1 hF.2.1 hd hi a hn hl (fun ls' a' => k H locs ls' a' b c)
theorem hn_astore {i : Nat} {x : Nat} (hF : hn_F Z B kp cc nL own ret h) (hd : decode cc pc = .ok (.astore i, 2)) (hq : pc + 2 = q) (hn : i < nL) (hl : (i, Value.ref x) :: L.filter (fun q => !(q.1 == i) && !(q.1 + 1 == i && q.2.category == 2)) = L') (k : hn_G Z B kp nL q L' st μ) : hn_G Z B kp nL pc L (.ref x :: st) μ := by
  subst hq; exact fun H locs ls a b c => lv_astore hF.1 hF.2.1 hd a hn hl (fun ls' a' => k H locs ls' a' b c)
theorem hn_iinc {i p : Nat} {n : Int} {x v : Int32} (hF : hn_F Z B kp cc nL own ret h) (hd : decode cc pc = .ok (.iinc i n, 3)) (hq : pc + 3 = q) (hk : L[p]? = some (i, .int x)) (hv : x + Int32.ofInt n = v) (hn : i < nL) (hl : (i, Value.int v) :: L.filter (fun q => !(q.1 == i) && !(q.1 + 1 == i && q.2.category == 2)) = L') (k : hn_G Z B kp nL q L' st μ) : hn_G Z B kp nL pc L st μ := by
  subst hq; exact fun H locs ls a b c => lv_iinc hF.1 hF.2.1 hd a hk hv hn hl (fun ls' a' => k H locs ls' a' b c)
theorem hn_iadd {x y : Int32} (hF : hn_F Z B kp cc nL own ret h) (hd : decode cc pc = .ok (.iadd, 1)) (hq : pc + 1 = q)  (k : hn_G Z B kp nL q L (.int (x + y) :: st) μ) : hn_G Z B kp nL pc L (.int y :: .int x :: st) μ := by
  subst hq; exact fun H locs ls a b c => lv_iadd hF.1 hF.2.1 hd  (k H locs ls a b c)
theorem hn_isub {x y : Int32} (hF : hn_F Z B kp cc nL own ret h) (hd : decode cc pc = .ok (.isub, 1)) (hq : pc + 1 = q)  (k : hn_G Z B kp nL q L (.int (x - y) :: st) μ) : hn_G Z B kp nL pc L (.int y :: .int x :: st) μ := by
  subst hq; exact fun H locs ls a b c => lv_isub hF.1 hF.2.1 hd  (k H locs ls a b c)
theorem hn_imul {x y : Int32} (hF : hn_F Z B kp cc nL own ret h) (hd : decode cc pc = .ok (.imul, 1)) (hq : pc + 1 = q)  (k : hn_G Z B kp nL q L (.int (x * y) :: st) μ) : hn_G Z B kp nL pc L (.int y :: .int x :: st) μ := by
  subst hq; exact fun H locs ls a b c => lv_imul hF.1 hF.2.1 hd  (k H locs ls a b c)
theorem hn_iand {x y : Int32} (hF : hn_F Z B kp cc nL own ret h) (hd : decode cc pc = .ok (.iand, 1)) (hq : pc + 1 = q)  (k : hn_G Z B kp nL q L (.int (x &&& y) :: st) μ) : hn_G Z B kp nL pc L (.int y :: .int x :: st) μ := by
  subst hq; exact fun H locs ls a b c => lv_iand hF.1 hF.2.1 hd  (k H locs ls a b c)
theorem hn_ior {x y : Int32} (hF : hn_F Z B kp cc nL own ret h) (hd : decode cc pc = .ok (.ior, 1)) (hq : pc + 1 = q)  (k : hn_G Z B kp nL q L (.int (x ||| y) :: st) μ) : hn_G Z B kp nL pc L (.int y :: .int x :: st) μ := by
  subst hq; exact fun H locs ls a b c => lv_ior hF.1 hF.2.1 hd  (k H locs ls a b c)
theorem hn_ixor {x y : Int32} (hF : hn_F Z B kp cc nL own ret h) (hd : decode cc pc = .ok (.ixor, 1)) (hq : pc + 1 = q)  (k : hn_G Z B kp nL q L (.int (x ^^^ y) :: st) μ) : hn_G Z B kp nL pc L (.int y :: .int x :: st) μ := by
  subst hq; exact fun H locs ls a b c => lv_ixor hF.1 hF.2.1 hd  (k H locs ls a b c)
theorem hn_ishl {x y : Int32} (hF : hn_F Z B kp cc nL own ret h) (hd : decode cc pc = .ok (.ishl, 1)) (hq : pc + 1 = q)  (k : hn_G Z B kp nL q L (.int (x <<< (y &&& 31)) :: st) μ) : hn_G Z B kp nL pc L (.int y :: .int x :: st) μ := by
  subst hq; exact fun H locs ls a b c => lv_ishl hF.1 hF.2.1 hd  (k H locs ls a b c)
theorem hn_ishr {x y : Int32} (hF : hn_F Z B kp cc nL own ret h) (hd : decode cc pc = .ok (.ishr, 1)) (hq : pc + 1 = q)  (k : hn_G Z B kp nL q L (.int (x >>> (y &&& 31)) :: st) μ) : hn_G Z B kp nL pc L (.int y :: .int x :: st) μ := by
  subst hq; exact fun H locs ls a b c => lv_ishr hF.1 hF.2.1 hd  (k H locs ls a b c)
theorem hn_ladd {x y : Int64} (hF : hn_F Z B kp cc nL own ret h) (hd : decode cc pc = .ok (.ladd, 1)) (hq : pc + 1 = q)  (k : hn_G Z B kp nL q L (.long (x + y) :: st) μ) : hn_G Z B kp nL pc L (.long y :: .long x :: st) μ := by
  subst hq; exact fun H locs ls a b c => lv_ladd hF.1 hF.2.1 hd  (k H locs ls a b c)
theorem hn_lmul {x y : Int64} (hF : hn_F Z B kp cc nL own ret h) (hd : decode cc pc = .ok (.lmul, 1)) (hq : pc + 1 = q)  (k : hn_G Z B kp nL q L (.long (x * y) :: st) μ) : hn_G Z B kp nL pc L (.long y :: .long x :: st) μ := by
  subst hq; exact fun H locs ls a b c => lv_lmul hF.1 hF.2.1 hd  (k H locs ls a b c)
theorem hn_land {x y : Int64} (hF : hn_F Z B kp cc nL own ret h) (hd : decode cc pc = .ok (.land, 1)) (hq : pc + 1 = q)  (k : hn_G Z B kp nL q L (.long (x &&& y) :: st) μ) : hn_G Z B kp nL pc L (.long y :: .long x :: st) μ := by
  subst hq; exact fun H locs ls a b c => lv_land hF.1 hF.2.1 hd  (k H locs ls a b c)
theorem hn_lor {x y : Int64} (hF : hn_F Z B kp cc nL own ret h) (hd : decode cc pc = .ok (.lor, 1)) (hq : pc + 1 = q)  (k : hn_G Z B kp nL q L (.long (x ||| y) :: st) μ) : hn_G Z B kp nL pc L (.long y :: .long x :: st) μ := by
  subst hq; exact fun H locs ls a b c => lv_lor hF.1 hF.2.1 hd  (k H locs ls a b c)
theorem hn_ineg {x : Int32} (hF : hn_F Z B kp cc nL own ret h) (hd : decode cc pc = .ok (.ineg, 1)) (hq : pc + 1 = q)  (k : hn_G Z B kp nL q L (.int (-x) :: st) μ) : hn_G Z B kp nL pc L (.int x :: st) μ := by
  subst hq; exact fun H locs ls a b c => lv_ineg hF.1 hF.2.1 hd  (k H locs ls a b c)
theorem hn_idiv {x y : Int32} (hF : hn_F Z B kp cc nL own ret h) (hd : decode cc pc = .ok (.idiv, 1)) (hq : pc + 1 = q) (hne : ¬ y = 0) (k : hn_G Z B kp nL q L (.int (x / y) :: st) μ) : hn_G Z B kp nL pc L (.int y :: .int x :: st) μ := by
  subst hq; exact fun H locs ls a b c => lv_idiv hF.1 hF.2.1 hd hne (k H locs ls a b c)
theorem hn_irem {x y : Int32} (hF : hn_F Z B kp cc nL own ret h) (hd : decode cc pc = .ok (.irem, 1)) (hq : pc + 1 = q) (hne : ¬ y = 0) (k : hn_G Z B kp nL q L (.int (x - x / y * y) :: st) μ) : hn_G Z B kp nL pc L (.int y :: .int x :: st) μ := by
  subst hq; exact fun H locs ls a b c => lv_irem hF.1 hF.2.1 hd hne (k H locs ls a b c)
theorem hn_i2l {x : Int32} {v : Int64} (hF : hn_F Z B kp cc nL own ret h) (hd : decode cc pc = .ok (.i2l, 1)) (hq : pc + 1 = q) (hv : x.toInt64 = v) (k : hn_G Z B kp nL q L (.long v :: st) μ) : hn_G Z B kp nL pc L (.int x :: st) μ := by
  subst hq; exact fun H locs ls a b c => lv_i2l hF.1 hF.2.1 hd hv (k H locs ls a b c)
theorem hn_l2i {x : Int64} {v : Int32} (hF : hn_F Z B kp cc nL own ret h) (hd : decode cc pc = .ok (.l2i, 1)) (hq : pc + 1 = q) (hv : x.toInt32 = v) (k : hn_G Z B kp nL q L (.int v :: st) μ) : hn_G Z B kp nL pc L (.long x :: st) μ := by
  subst hq; exact fun H locs ls a b c => lv_l2i hF.1 hF.2.1 hd hv (k H locs ls a b c)
theorem hn_i2b {x v : Int32} (hF : hn_F Z B kp cc nL own ret h) (hd : decode cc pc = .ok (.i2b, 1)) (hq : pc + 1 = q) (hv : x.toInt8.toInt32 = v) (k : hn_G Z B kp nL q L (.int v :: st) μ) : hn_G Z B kp nL pc L (.int x :: st) μ := by
  subst hq; exact fun H locs ls a b c => lv_i2b hF.1 hF.2.1 hd hv (k H locs ls a b c)
theorem hn_iushr {x y v : Int32} (hF : hn_F Z B kp cc nL own ret h) (hd : decode cc pc = .ok (.iushr, 1)) (hq : pc + 1 = q) (hv : (x.toUInt32 >>> (y.toUInt32 &&& Int32.toUInt32 31)).toInt32 = v) (k : hn_G Z B kp nL q L (.int v :: st) μ) : hn_G Z B kp nL pc L (.int y :: .int x :: st) μ := by
  subst hq; exact fun H locs ls a b c => lv_iushr hF.1 hF.2.1 hd hv (k H locs ls a b c)
theorem hn_lushr {x v : Int64} {y : Int32} (hF : hn_F Z B kp cc nL own ret h) (hd : decode cc pc = .ok (.lushr, 1)) (hq : pc + 1 = q) (hv : (x.toUInt64 >>> (y.toInt64.toUInt64 &&& Int64.toUInt64 63)).toInt64 = v) (k : hn_G Z B kp nL q L (.long v :: st) μ) : hn_G Z B kp nL pc L (.int y :: .long x :: st) μ := by
  subst hq; exact fun H locs ls a b c => lv_lushr hF.1 hF.2.1 hd hv (k H locs ls a b c)
theorem hn_lshl {x v : Int64} {y : Int32} (hF : hn_F Z B kp cc nL own ret h) (hd : decode cc pc = .ok (.lshl, 1)) (hq : pc + 1 = q) (hv : x <<< (y.toInt64 &&& 63) = v) (k : hn_G Z B kp nL q L (.long v :: st) μ) : hn_G Z B kp nL pc L (.int y :: .long x :: st) μ := by
  subst hq; exact fun H locs ls a b c => lv_lshl hF.1 hF.2.1 hd hv (k H locs ls a b c)
theorem hn_lshr {x v : Int64} {y : Int32} (hF : hn_F Z B kp cc nL own ret h) (hd : decode cc pc = .ok (.lshr, 1)) (hq : pc + 1 = q) (hv : x >>> (y.toInt64 &&& 63) = v) (k : hn_G Z B kp nL q L (.long v :: st) μ) : hn_G Z B kp nL pc L (.int y :: .long x :: st) μ := by
  subst hq; exact fun H locs ls a b c => lv_lshr hF.1 hF.2.1 hd hv (k H locs ls a b c)
theorem hn_dup {va : Value} (hF : hn_F Z B kp cc nL own ret h) (hd : decode cc pc = .ok (.dup, 1)) (hq : pc + 1 = q) (hva : va.category = 1) (k : hn_G Z B kp nL q L (va :: va :: st) μ) : hn_G Z B kp nL pc L (va :: st) μ := by
  subst hq; exact fun H locs ls a b c => lv_dup hF.1 hF.2.1 hd hva (k H locs ls a b c)
theorem hn_dup2_11 {va vb : Value} (hF : hn_F Z B kp cc nL own ret h) (hd : decode cc pc = .ok (.dup2, 1)) (hq : pc + 1 = q) (hva : va.category = 1) (hvb : vb.category = 1) (k : hn_G Z B kp nL q L (va :: vb :: va :: vb :: st) μ) : hn_G Z B kp nL pc L (va :: vb :: st) μ := by
  subst hq; exact fun H locs ls a b c => lv_dup2_11 hF.1 hF.2.1 hd hva hvb (k H locs ls a b c)
theorem hn_lcmp {x y : Int64} (hF : hn_F Z B kp cc nL own ret h) (hd : decode cc pc = .ok (.lcmp, 1)) (hq : pc + 1 = q) (k : hn_G Z B kp nL q L (.int (lg_cmp x y) :: st) μ) : hn_G Z B kp nL pc L (.long y :: .long x :: st) μ := by
  subst hq; exact fun H locs ls a b c => W.lcmp hF.1 hF.2.1 hd (k H locs ls a b c)
theorem hn_goto {off : Int} (hF : hn_F Z B kp cc nL own ret h) (hd : decode cc pc = .ok (.goto off, 3)) (hq : (pc : Int) + off = (q : Int)) (k : hn_G Z B kp nL q L st μ) : hn_G Z B kp nL pc L st μ :=
  fun H locs ls a b c => lv_goto hF.1 hF.2.1 hd hq (k H locs ls a b c)
theorem hn_ldc {i : Nat} {v : Int32} (hF : hn_F Z B kp cc nL own ret h) (hw : Cond.constant own i v ∈ hn_tb) (hd : decode cc pc = .ok (.ldc i, 2)) (hq : pc + 2 = q) (k : hn_G Z B kp nL q L (.int v :: st) μ) : hn_G Z B kp nL pc L st μ := by
  subst hq; exact fun H locs ls a b c => lv_ldc hF.1 hF.2.1 hF.2.2.2.1 (hF.2.2.2.2.1 _ hw) hd (k H locs ls a b c)
theorem hn_ldcw {i : Nat} {v : Int32} (hF : hn_F Z B kp cc nL own ret h) (hw : Cond.constant own i v ∈ hn_tb) (hd : decode cc pc = .ok (.ldc_w i, 3)) (hq : pc + 3 = q) (k : hn_G Z B kp nL q L (.int v :: st) μ) : hn_G Z B kp nL pc L st μ := by
  subst hq; exact fun H locs ls a b c => lv_ldcw hF.1 hF.2.1 hF.2.2.2.1 (hF.2.2.2.2.1 _ hw) hd (k H locs ls a b c)
theorem hn_ldc2 {i : Nat} {v : Int64} (hF : hn_F Z B kp cc nL own ret h) (hw : Cond.constantLong own i v ∈ hn_tb) (hd : decode cc pc = .ok (.ldc2_w i, 3)) (hq : pc + 3 = q) (k : hn_G Z B kp nL q L (.long v :: st) μ) : hn_G Z B kp nL pc L st μ := by
  subst hq; exact fun H locs ls a b c => lv_ldc2 hF.1 hF.2.1 hF.2.2.2.1 (hF.2.2.2.2.1 _ hw) hd (k H locs ls a b c)
theorem hn_if_eq {x : Int32} {off : Int} {t : Nat} {X Y : Option α} (hF : hn_F Z B kp cc nL own ret h) (hd : decode cc pc = .ok (.ifCond .eq off, 3)) (ht : (pc : Int) + off = (t : Int)) (hq : pc + 3 = q) (e : (if x = 0 then X else Y) = some R) (kt : X = some R → hn_G Z B kp nL t L st μ) (kf : Y = some R → hn_G Z B kp nL q L st μ) : hn_G Z B kp nL pc L (.int x :: st) μ := by
  subst hq; exact fun H locs ls a b c => lv_if_eq hF.1 hF.2.1 hd ht (fun z => kt (by rw [if_pos z] at e; exact e) H locs ls a b c) (fun z => kf (by rw [if_neg z] at e; exact e) H locs ls a b c)
theorem hn_icmp_eq {x y : Int32} {off : Int} {t : Nat} {X Y : Option α} (hF : hn_F Z B kp cc nL own ret h) (hd : decode cc pc = .ok (.if_icmp .eq off, 3)) (ht : (pc : Int) + off = (t : Int)) (hq : pc + 3 = q) (e : (if x = y then X else Y) = some R) (kt : X = some R → hn_G Z B kp nL t L st μ) (kf : Y = some R → hn_G Z B kp nL q L st μ) : hn_G Z B kp nL pc L (.int y :: .int x :: st) μ := by
  subst hq; exact fun H locs ls a b c => lv_icmp_eq hF.1 hF.2.1 hd ht (fun z => kt (by rw [if_pos z] at e; exact e) H locs ls a b c) (fun z => kf (by rw [if_neg z] at e; exact e) H locs ls a b c)
theorem hn_if_ne {x : Int32} {off : Int} {t : Nat} {X Y : Option α} (hF : hn_F Z B kp cc nL own ret h) (hd : decode cc pc = .ok (.ifCond .ne off, 3)) (ht : (pc : Int) + off = (t : Int)) (hq : pc + 3 = q) (e : (if x = 0 then X else Y) = some R) (kt : Y = some R → hn_G Z B kp nL t L st μ) (kf : X = some R → hn_G Z B kp nL q L st μ) : hn_G Z B kp nL pc L (.int x :: st) μ := by
  subst hq; exact fun H locs ls a b c => lv_if_ne hF.1 hF.2.1 hd ht (fun z => kt (by rw [if_neg z] at e; exact e) H locs ls a b c) (fun z => kf (by rw [if_pos z] at e; exact e) H locs ls a b c)
theorem hn_icmp_ne {x y : Int32} {off : Int} {t : Nat} {X Y : Option α} (hF : hn_F Z B kp cc nL own ret h) (hd : decode cc pc = .ok (.if_icmp .ne off, 3)) (ht : (pc : Int) + off = (t : Int)) (hq : pc + 3 = q) (e : (if x = y then X else Y) = some R) (kt : Y = some R → hn_G Z B kp nL t L st μ) (kf : X = some R → hn_G Z B kp nL q L st μ) : hn_G Z B kp nL pc L (.int y :: .int x :: st) μ := by
  subst hq; exact fun H locs ls a b c => lv_icmp_ne hF.1 hF.2.1 hd ht (fun z => kt (by rw [if_neg z] at e; exact e) H locs ls a b c) (fun z => kf (by rw [if_pos z] at e; exact e) H locs ls a b c)
theorem hn_if_lt {x : Int32} {off : Int} {t : Nat} {X Y : Option α} (hF : hn_F Z B kp cc nL own ret h) (hd : decode cc pc = .ok (.ifCond .lt off, 3)) (ht : (pc : Int) + off = (t : Int)) (hq : pc + 3 = q) (e : (if x < 0 then X else Y) = some R) (kt : X = some R → hn_G Z B kp nL t L st μ) (kf : Y = some R → hn_G Z B kp nL q L st μ) : hn_G Z B kp nL pc L (.int x :: st) μ := by
  subst hq; exact fun H locs ls a b c => lv_if_lt hF.1 hF.2.1 hd ht (fun z => kt (by rw [if_pos z] at e; exact e) H locs ls a b c) (fun z => kf (by rw [if_neg z] at e; exact e) H locs ls a b c)
theorem hn_icmp_lt {x y : Int32} {off : Int} {t : Nat} {X Y : Option α} (hF : hn_F Z B kp cc nL own ret h) (hd : decode cc pc = .ok (.if_icmp .lt off, 3)) (ht : (pc : Int) + off = (t : Int)) (hq : pc + 3 = q) (e : (if x < y then X else Y) = some R) (kt : X = some R → hn_G Z B kp nL t L st μ) (kf : Y = some R → hn_G Z B kp nL q L st μ) : hn_G Z B kp nL pc L (.int y :: .int x :: st) μ := by
  subst hq; exact fun H locs ls a b c => lv_icmp_lt hF.1 hF.2.1 hd ht (fun z => kt (by rw [if_pos z] at e; exact e) H locs ls a b c) (fun z => kf (by rw [if_neg z] at e; exact e) H locs ls a b c)
theorem hn_if_ge {x : Int32} {off : Int} {t : Nat} {X Y : Option α} (hF : hn_F Z B kp cc nL own ret h) (hd : decode cc pc = .ok (.ifCond .ge off, 3)) (ht : (pc : Int) + off = (t : Int)) (hq : pc + 3 = q) (e : (if 0 ≤ x then X else Y) = some R) (kt : X = some R → hn_G Z B kp nL t L st μ) (kf : Y = some R → hn_G Z B kp nL q L st μ) : hn_G Z B kp nL pc L (.int x :: st) μ := by
  subst hq; exact fun H locs ls a b c => lv_if_ge hF.1 hF.2.1 hd ht (fun z => kt (by rw [if_pos z] at e; exact e) H locs ls a b c) (fun z => kf (by rw [if_neg z] at e; exact e) H locs ls a b c)
theorem hn_icmp_ge {x y : Int32} {off : Int} {t : Nat} {X Y : Option α} (hF : hn_F Z B kp cc nL own ret h) (hd : decode cc pc = .ok (.if_icmp .ge off, 3)) (ht : (pc : Int) + off = (t : Int)) (hq : pc + 3 = q) (e : (if y ≤ x then X else Y) = some R) (kt : X = some R → hn_G Z B kp nL t L st μ) (kf : Y = some R → hn_G Z B kp nL q L st μ) : hn_G Z B kp nL pc L (.int y :: .int x :: st) μ := by
  subst hq; exact fun H locs ls a b c => lv_icmp_ge hF.1 hF.2.1 hd ht (fun z => kt (by rw [if_pos z] at e; exact e) H locs ls a b c) (fun z => kf (by rw [if_neg z] at e; exact e) H locs ls a b c)
theorem hn_if_gt {x : Int32} {off : Int} {t : Nat} {X Y : Option α} (hF : hn_F Z B kp cc nL own ret h) (hd : decode cc pc = .ok (.ifCond .gt off, 3)) (ht : (pc : Int) + off = (t : Int)) (hq : pc + 3 = q) (e : (if 0 < x then X else Y) = some R) (kt : X = some R → hn_G Z B kp nL t L st μ) (kf : Y = some R → hn_G Z B kp nL q L st μ) : hn_G Z B kp nL pc L (.int x :: st) μ := by
  subst hq; exact fun H locs ls a b c => lv_if_gt hF.1 hF.2.1 hd ht (fun z => kt (by rw [if_pos z] at e; exact e) H locs ls a b c) (fun z => kf (by rw [if_neg z] at e; exact e) H locs ls a b c)
theorem hn_icmp_gt {x y : Int32} {off : Int} {t : Nat} {X Y : Option α} (hF : hn_F Z B kp cc nL own ret h) (hd : decode cc pc = .ok (.if_icmp .gt off, 3)) (ht : (pc : Int) + off = (t : Int)) (hq : pc + 3 = q) (e : (if y < x then X else Y) = some R) (kt : X = some R → hn_G Z B kp nL t L st μ) (kf : Y = some R → hn_G Z B kp nL q L st μ) : hn_G Z B kp nL pc L (.int y :: .int x :: st) μ := by
  subst hq; exact fun H locs ls a b c => lv_icmp_gt hF.1 hF.2.1 hd ht (fun z => kt (by rw [if_pos z] at e; exact e) H locs ls a b c) (fun z => kf (by rw [if_neg z] at e; exact e) H locs ls a b c)
theorem hn_if_le {x : Int32} {off : Int} {t : Nat} {X Y : Option α} (hF : hn_F Z B kp cc nL own ret h) (hd : decode cc pc = .ok (.ifCond .le off, 3)) (ht : (pc : Int) + off = (t : Int)) (hq : pc + 3 = q) (e : (if x ≤ 0 then X else Y) = some R) (kt : X = some R → hn_G Z B kp nL t L st μ) (kf : Y = some R → hn_G Z B kp nL q L st μ) : hn_G Z B kp nL pc L (.int x :: st) μ := by
  subst hq; exact fun H locs ls a b c => lv_if_le hF.1 hF.2.1 hd ht (fun z => kt (by rw [if_pos z] at e; exact e) H locs ls a b c) (fun z => kf (by rw [if_neg z] at e; exact e) H locs ls a b c)
theorem hn_icmp_le {x y : Int32} {off : Int} {t : Nat} {X Y : Option α} (hF : hn_F Z B kp cc nL own ret h) (hd : decode cc pc = .ok (.if_icmp .le off, 3)) (ht : (pc : Int) + off = (t : Int)) (hq : pc + 3 = q) (e : (if x ≤ y then X else Y) = some R) (kt : X = some R → hn_G Z B kp nL t L st μ) (kf : Y = some R → hn_G Z B kp nL q L st μ) : hn_G Z B kp nL pc L (.int y :: .int x :: st) μ := by
  subst hq; exact fun H locs ls a b c => lv_icmp_le hF.1 hF.2.1 hd ht (fun z => kt (by rw [if_pos z] at e; exact e) H locs ls a b c) (fun z => kf (by rw [if_neg z] at e; exact e) H locs ls a b c)
end hn_rules
end
section
/-! reads and writes of the memory, in the mirrors: nothing where an index is outside -/
def hn_rd {α : Type} (μ : hn_M) (k n : Nat) (i : Int32) (K : Int32 → Option α) : Option α := if i < 0 ∨ n ≤ i.toNatClampNeg then none else K (μ k i.toNatClampNeg)
def hn_wr {α : Type} (μ : hn_M) (k n : Nat) (i x : Int32) (K : hn_M → Option α) : Option α := if i < 0 ∨ n ≤ i.toNatClampNeg then none else K (hn_up μ k i.toNatClampNeg x)
def hn_pf {α : Type} (μ : hn_M) (k j : Nat) (x : Int32) (K : hn_M → Option α) : Option α := K (hn_up μ k j x)
def hn_cp {α : Type} (μ : hn_M) (k1 k2 n : Nat) (K : hn_M → Option α) : Option α := K (fun a => if a = k2 then va_cpy (μ k1) (μ k2) 0 0 n else μ a)
def hn_fl (own : String) (idx ci j : Nat) : Prop := ∃ (C : String) (T : u_T) (N : Nat), vwCl[ci]? = some (C, T, N) ∧ j < N ∧ Cond.fieldLink own idx (T j).1 (T j).2.1 (T j).2.2.1 ∈ hn_tb ∧ ∀ w ∈ u_ws C T N, w ∈ hn_tb
def hn_fp (ci j : Nat) (ty : FieldType) : Prop := ∃ (C : String) (T : u_T) (N : Nat) (ty0 : Nat → FieldType), vwCl[ci]? = some (C, T, N) ∧ (∀ k, k < N → parseFieldDescriptor (T k).2.2.1 = some (ty0 k)) ∧ (∀ a, a < N → ∀ b, b < N → a ≠ b → (T a).2.1 ≠ (T b).2.1) ∧ (T j).2.2.2 = false ∧ parseFieldDescriptor (T j).2.2.1 = some ty
def hn_rm (h : Nat) : Room := { frames := h, cells := 0, slots := 0, locals := 35 * h }
def hn_Q (B : hn_B) (r : Option Value × hn_M) : Array Value → State → Outcome → State → Prop := fun _ st o t => (o = .returned r.1 ∧ hn_P B r.2 t.heap) ∧ va_F (hn_A B) st t
/-- a method's contract: with these arguments and this memory it returns r.1 and leaves the memory r.2 -/
def hn_C (y : MethodName) (cy : ByteArray) (ny : Nat) (rt : Option FieldType) (h : Nat) (B : hn_B) (as : List Value) (μ : hn_M) (r : Option Value × hn_M) : Prop :=
  ∀ l : Launch, Met l y (Cond.code y cy ny rt :: hn_tb) (hn_rm h) (va_Pc as fun U => hn_P B μ U.heap ∧ hn_K B U) (hn_Q B r) 0 0 (hn_A B)
def hn_goal (Z : hn_Z) (B : hn_B) (r : Option Value × hn_M) : Prop := zQ Z = MQ (zb Z) (hn_Q B r) (za Z) (zs Z) 0 0 (hn_A B)
theorem hn_C.of {y : MethodName} {cy : ByteArray} {ny : Nat} {rt : Option FieldType} {h : Nat} {B : hn_B} {as : List Value} {μ : hn_M} {r : Option Value × hn_M} (own : String) (hy : plainName y.cls = true) (ho : y.cls = own) (hlen : (lg_sl as).length ≤ ny)
    (body : ∀ Z : hn_Z, hn_F Z B (0, 0) cy ny own rt h → hn_goal Z B r → hn_G Z B (0, 0) ny 0 (lv_args 0 as) [] μ) : hn_C y cy ny rt h B as μ r := by
  intro l
  refine Met.ofW (cc := cy) (maxL := ny) (ret := rt) hy rfl ?_
  intro p e s m args below meth c s₁ Bd hml hv
  obtain ⟨rfl, hP, hK⟩ := hv
  have hts := atoms_spec (ws := Cond.code y cy ny rt :: hn_tb) Bd.pre
  have hown : s.vm.findClass y.cls = some m.cls := findClass_of_methodNamed Bd.named
  subst ho
  have k := body (p, l, e, (headSpec (Cond.code y cy ny rt :: hn_tb) (hn_rm h)).room, s, m, as.toArray, below, meth, c, MQ below (hn_Q B r) as.toArray s 0 0 (hn_A B)) ⟨Bd.exec, Bd.bytes, hml, hown, fun w hw => hts w (List.mem_cons_of_mem _ hw), Bd.returns, Bd.notSynchronized, hK, ⟨Nat.le_refl _, Nat.le_refl _⟩, Nat.zero_le _, Nat.zero_le _⟩ rfl
  rw [lg_entry_eq]
  exact k s.heap [] _ (lv_entry as hlen) hP va_S.rf
section hn_rules2
variable {Z : hn_Z} {B : hn_B} {kp : Nat × Nat} {cc : ByteArray} {nL : Nat} {own : String} {ret : Option FieldType} {h : Nat} {pc q : Nat} {L L' : List (Nat × Value)} {st : List Value} {μ : hn_M} {α : Type} {R : α}
theorem hn_get {k j ci idx : Nat} {ks : List (Option (Option Nat))} {kd : Option (Option Nat)} {v : Value} (hF : hn_F Z B kp cc nL own ret h) (hl : hn_fl own idx ci j) (ho : hn_isO B k ci ks) (hj : ks[j]? = some kd) (hv : hn_val (hn_base B) kd (μ k j) = v) (hd : decode cc pc = .ok (.getfield idx, 3)) (hq : pc + 3 = q) (kk : hn_G Z B kp nL q L (v :: st) μ) : hn_G Z B kp nL pc L (.ref (hn_base B + k) :: st) μ := by
  subst hq
  obtain ⟨C, T, N, h1, h2, h3, h4⟩ := hl
  exact fun H locs ls a b c => va_get hF.1 hF.2.1 hF.2.2.2.2.1 h4 hF.2.2.2.1 hF.2.2.2.2.2.2.2.1.1 b k (hn_at_O ho μ) h1 j h2 (hF.2.2.2.2.1 _ h3) (fun _ z => z) (by rw [hn_fields_at hj, hv]) hd (kk H locs ls a b c)
theorem hn_put {k j ci idx : Nat} {ks : List (Option (Option Nat))} {kd : Option (Option Nat)} {v : Value} {x : Int32} {ty : FieldType} {K : hn_M → Option α} (hF : hn_F Z B kp cc nL own ret h) (hl : hn_fl own idx ci j) (hp : hn_fp ci j ty) (ho : hn_isO B k ci ks) (hj : ks[j]? = some kd) (hv : hn_val (hn_base B) kd x = v) (hn : narrow ty v = v) (hfit : fits ty v = true) (hd : decode cc pc = .ok (.putfield idx, 3)) (hq : pc + 3 = q) (e : hn_pf μ k j x K = some R) (kk : ∀ μ', K μ' = some R → hn_G Z B kp nL q L st μ') : hn_G Z B kp nL pc L (v :: .ref (hn_base B + k) :: st) μ := by
  subst hq
  obtain ⟨C, T, N, h1, h2, h3, h4⟩ := hl
  obtain ⟨C', T', N', ty0, g1, g2, g3, g4, g5⟩ := hp
  cases h1.symm.trans g1
  intro H locs ls a b c
  refine va_put hF.1 hF.2.1 hF.2.2.2.2.1 h4 ty0 g2 g3 hF.2.2.2.1 hF.2.2.2.2.2.2.2.1.1 b (hn_w_D B μ) c k (hn_at_O ho μ) h1 j h2 (hF.2.2.2.2.1 _ h3) (fun _ z => z) g4 g5 hn hfit (by rw [hn_fields_len]; exact (List.getElem?_eq_some_iff.mp hj).1) hd (fun H1 locs1 b1 _ c1 => ?_)
  refine kk _ e H1 locs1 ls a ?_ c1
  rw [← hv, hn_fields_set hj] at b1
  have hs : (hn_w B μ).set k (hn_base B + k, .inr (ci, hn_fields (hn_base B) ks fun b => if b = j then x else μ k b)) = hn_w B (hn_up μ k j x) := hn_w_set ho.1 (by simp only [hn_cell, ho.2, hn_up_eq]) (fun i hi => hn_up_ne hi)
  show va_P _ _ _ _
  rw [← hs]
  exact b1
theorem hn_ald {k n : Nat} {i : Int32} {K : Int32 → Option α} (hF : hn_F Z B kp cc nL own ret h) (ha : hn_isA B k false n) (hd : decode cc pc = .ok (.iaload, 1)) (hq : pc + 1 = q) (e : hn_rd μ k n i K = some R) (kk : ∀ v, K v = some R → hn_G Z B kp nL q L (.int v :: st) μ) : hn_G Z B kp nL pc L (.int i :: .ref (hn_base B + k) :: st) μ := by
  subst hq
  by_cases hin : i < 0 ∨ n ≤ i.toNatClampNeg
  · simp [hn_rd, hin] at e
  · have e' : K (μ k i.toNatClampNeg) = some R := by simpa only [hn_rd, if_neg hin] using e
    exact fun H locs ls a b c => va_iald hF.1 hF.2.1 hF.2.2.2.2.2.2.2.1.1 b k 0 (hn_at_A ha μ) rfl hin hd (kk _ e' H locs ls a b c)
theorem hn_bald {k n : Nat} {i : Int32} {K : Int32 → Option α} (hF : hn_F Z B kp cc nL own ret h) (ha : hn_isA B k true n) (hd : decode cc pc = .ok (.baload, 1)) (hq : pc + 1 = q) (e : hn_rd μ k n i K = some R) (kk : ∀ v, K v = some R → hn_G Z B kp nL q L (.int v :: st) μ) : hn_G Z B kp nL pc L (.int i :: .ref (hn_base B + k) :: st) μ := by
  subst hq
  by_cases hin : i < 0 ∨ n ≤ i.toNatClampNeg
  · simp [hn_rd, hin] at e
  · have e' : K (μ k i.toNatClampNeg) = some R := by simpa only [hn_rd, if_neg hin] using e
    exact fun H locs ls a b c => va_bald hF.1 hF.2.1 hF.2.2.2.2.2.2.2.1.1 b k 1 (hn_at_A ha μ) rfl hin hd (kk _ e' H locs ls a b c)
theorem hn_ast {k n : Nat} {i x : Int32} {K : hn_M → Option α} (hF : hn_F Z B kp cc nL own ret h) (ha : hn_isA B k false n) (hd : decode cc pc = .ok (.iastore, 1)) (hq : pc + 1 = q) (e : hn_wr μ k n i x K = some R) (kk : ∀ μ', K μ' = some R → hn_G Z B kp nL q L st μ') : hn_G Z B kp nL pc L (.int x :: .int i :: .ref (hn_base B + k) :: st) μ := by
  subst hq
  by_cases hin : i < 0 ∨ n ≤ i.toNatClampNeg
  · simp [hn_wr, hin] at e
  · have e' : K (hn_up μ k i.toNatClampNeg x) = some R := by simpa only [hn_wr, if_neg hin] using e
    intro H locs ls a b c
    refine va_iast hF.1 hF.2.1 hF.2.2.2.2.2.2.2.1.1 b (hn_w_D B μ) c k 0 (hn_at_A ha μ) rfl hin hd (fun H1 locs1 b1 _ c1 => ?_)
    refine kk _ e' H1 locs1 ls a ?_ c1
    rw [hn_w_set (μ' := hn_up μ k i.toNatClampNeg x) ha.1 (by simp only [hn_cell, ha.2, hn_up_eq]; rfl) (fun j hj => hn_up_ne hj)] at b1
    exact b1
theorem hn_bast {k n : Nat} {i x : Int32} {K : hn_M → Option α} (hF : hn_F Z B kp cc nL own ret h) (ha : hn_isA B k true n) (hd : decode cc pc = .ok (.bastore, 1)) (hq : pc + 1 = q) (e : hn_wr μ k n i (vp_nar .byte x) K = some R) (kk : ∀ μ', K μ' = some R → hn_G Z B kp nL q L st μ') : hn_G Z B kp nL pc L (.int x :: .int i :: .ref (hn_base B + k) :: st) μ := by
  subst hq
  by_cases hin : i < 0 ∨ n ≤ i.toNatClampNeg
  · simp [hn_wr, hin] at e
  · have e' : K (hn_up μ k i.toNatClampNeg (vp_nar .byte x)) = some R := by simpa only [hn_wr, if_neg hin] using e
    intro H locs ls a b c
    refine va_bast hF.1 hF.2.1 hF.2.2.2.2.2.2.2.1.1 b (hn_w_D B μ) c k 1 (hn_at_A ha μ) rfl hin hd (fun H1 locs1 b1 _ c1 => ?_)
    refine kk _ e' H1 locs1 ls a ?_ c1
    rw [hn_w_set (μ' := hn_up μ k i.toNatClampNeg (vp_nar .byte x)) ha.1 (by simp only [hn_cell, ha.2, hn_up_eq]; rfl) (fun j hj => hn_up_ne hj)] at b1
    exact b1
theorem hn_alen {k n : Nat} {v : Int32} (hF : hn_F Z B kp cc nL own ret h) (ha : hn_isA B k false n) (hv : Int32.ofNat n = v) (hd : decode cc pc = .ok (.arraylength, 1)) (hq : pc + 1 = q) (kk : hn_G Z B kp nL q L (.int v :: st) μ) : hn_G Z B kp nL pc L (.ref (hn_base B + k) :: st) μ := by
  subst hq
  exact fun H locs ls a b c => va_alen hF.1 hF.2.1 hF.2.2.2.2.2.2.2.1.1 b k 0 (hn_at_A ha μ) (ty := .int) rfl hv hd (kk H locs ls a b c)
theorem hn_aald {k t0 t1 : Nat} {i : Int32} {X0 X1 : Option α} (hF : hn_F Z B kp cc nL own ret h) (ha : hn_isR B k [t0, t1]) (hd : decode cc pc = .ok (.aaload, 1)) (hq : pc + 1 = q) (e : (if i = 0 then X0 else if i = 1 then X1 else none) = some R) (k0 : X0 = some R → hn_G Z B kp nL q L (.ref (hn_base B + t0) :: st) μ) (k1 : X1 = some R → hn_G Z B kp nL q L (.ref (hn_base B + t1) :: st) μ) : hn_G Z B kp nL pc L (.int i :: .ref (hn_base B + k) :: st) μ := by
  subst hq
  by_cases h0 : i = 0
  · subst h0
    rw [if_pos rfl] at e
    exact fun H locs ls a b c => va_aldq hF.1 hF.2.1 hF.2.2.2.2.2.2.2.1.1 b k 2 (hn_at_R ha μ) (C := RX1) rfl (by show ¬ ((0 : Int32) < 0 ∨ 2 ≤ (0 : Int32).toNatClampNeg); decide) hd (k0 e H locs ls a b c)
  · rw [if_neg h0] at e
    by_cases h1 : i = 1
    · subst h1
      rw [if_pos rfl] at e
      exact fun H locs ls a b c => va_aldq hF.1 hF.2.1 hF.2.2.2.2.2.2.2.1.1 b k 2 (hn_at_R ha μ) (C := RX1) rfl (by show ¬ ((1 : Int32) < 0 ∨ 2 ≤ (1 : Int32).toNatClampNeg); decide) hd (k1 e H locs ls a b c)
    · rw [if_neg h1] at e
      cases e
theorem hn_iret {v : Int32} {r : Option Value × hn_M} (hF : hn_F Z B (0, 0) cc nL own (some .int) h) (hQ : hn_goal Z B r) (hd : decode cc pc = .ok (.ireturn, 1)) (hr : r = (some (.int v), μ)) : hn_G Z B (0, 0) nL pc L [.int v] μ := by
  subst hr
  intro H locs ls a b c
  unfold hn_goal at hQ
  rw [hQ]
  exact W.iret hF.1 hF.2.1 hF.2.2.2.2.2.1 (fun t ht _ => ⟨⟨rfl, by rw [ht]; exact b⟩, c.F ht⟩) c.2.2 hd hF.2.2.2.2.2.2.1
theorem hn_lret {v : Int64} {r : Option Value × hn_M} (hF : hn_F Z B (0, 0) cc nL own (some .long) h) (hQ : hn_goal Z B r) (hd : decode cc pc = .ok (.lreturn, 1)) (hr : r = (some (.long v), μ)) : hn_G Z B (0, 0) nL pc L [.long v] μ := by
  subst hr
  intro H locs ls a b c
  unfold hn_goal at hQ
  rw [hQ]
  exact W.lret hF.1 hF.2.1 hF.2.2.2.2.2.1 (fun t ht _ => ⟨⟨rfl, by rw [ht]; exact b⟩, c.F ht⟩) c.2.2 hd hF.2.2.2.2.2.2.1
theorem hn_vret {r : Option Value × hn_M} (hF : hn_F Z B (0, 0) cc nL own none h) (hQ : hn_goal Z B r) (hd : decode cc pc = .ok (.return_, 1)) (hr : r = (none, μ)) : hn_G Z B (0, 0) nL pc L [] μ := by
  subst hr
  intro H locs ls a b c
  unfold hn_goal at hQ
  rw [hQ]
  exact W.vret hF.1 hF.2.1 hF.2.2.2.2.2.1 (fun t ht _ => ⟨⟨rfl, by rw [ht]; exact b⟩, c.F ht⟩) c.2.2 hd hF.2.2.2.2.2.2.1
theorem hn_zret {v : Int32} {r : Option Value × hn_M} (hF : hn_F Z B (0, 0) cc nL own (some .boolean) h) (hQ : hn_goal Z B r) (hd : decode cc pc = .ok (.ireturn, 1)) (hz : v = 0 ∨ v = 1) (hr : r = (some (.int v), μ)) : hn_G Z B (0, 0) nL pc L [.int v] μ := by
  subst hr
  intro H locs ls a b c
  unfold hn_goal at hQ
  rw [hQ]
  exact W.zret hF.1 hF.2.1 hF.2.2.2.2.2.1 (by rcases hz with rfl | rfl <;> rfl) (fun t ht _ => ⟨⟨rfl, by rw [ht]; exact b⟩, c.F ht⟩) c.2.2 hd hF.2.2.2.2.2.2.1
/-! a mirror's last word, by kinds: a number and the memory as it was; a number and a memory; a memory; a long -/
theorem hn_iretP {v R : Int32} (hF : hn_F Z B (0, 0) cc nL own (some .int) h) (hQ : hn_goal Z B (some (.int R), μ)) (hd : decode cc pc = .ok (.ireturn, 1)) (e : some v = some R) : hn_G Z B (0, 0) nL pc L [.int v] μ := by
  cases e; exact hn_iret hF hQ hd rfl
theorem hn_iretM {v : Int32} {R : Int32 × hn_M} (hF : hn_F Z B (0, 0) cc nL own (some .int) h) (hQ : hn_goal Z B (some (.int R.1), R.2)) (hd : decode cc pc = .ok (.ireturn, 1)) (e : some (v, μ) = some R) : hn_G Z B (0, 0) nL pc L [.int v] μ := by
  cases e; exact hn_iret hF hQ hd rfl
theorem hn_lretP {v R : Int64} (hF : hn_F Z B (0, 0) cc nL own (some .long) h) (hQ : hn_goal Z B (some (.long R), μ)) (hd : decode cc pc = .ok (.lreturn, 1)) (e : some v = some R) : hn_G Z B (0, 0) nL pc L [.long v] μ := by
  cases e; exact hn_lret hF hQ hd rfl
theorem hn_vretM {R : hn_M} (hF : hn_F Z B (0, 0) cc nL own none h) (hQ : hn_goal Z B (none, R)) (hd : decode cc pc = .ok (.return_, 1)) (e : some μ = some R) : hn_G Z B (0, 0) nL pc L [] μ := by
  cases e; exact hn_vret hF hQ hd rfl
theorem hn_zretP {v R : Int32} (hF : hn_F Z B (0, 0) cc nL own (some .boolean) h) (hQ : hn_goal Z B (some (.int R), μ)) (hd : decode cc pc = .ok (.ireturn, 1)) (hz : v = 0 ∨ v = 1) (e : some v = some R) : hn_G Z B (0, 0) nL pc L [.int v] μ := by
  cases e; exact hn_zret hF hQ hd hz rfl
theorem hn_zretM {v : Int32} {R : Int32 × hn_M} (hF : hn_F Z B (0, 0) cc nL own (some .boolean) h) (hQ : hn_goal Z B (some (.int R.1), R.2)) (hd : decode cc pc = .ok (.ireturn, 1)) (hz : v = 0 ∨ v = 1) (e : some (v, μ) = some R) : hn_G Z B (0, 0) nL pc L [.int v] μ := by
  cases e; exact hn_zret hF hQ hd hz rfl
def hn_bo {α : Type} (v : Int32) (K : Option α) : Option α := if v = 0 ∨ v = 1 then K else none
theorem hn_bo_some {v : Int32} {K : Option α} (e : hn_bo v K = some R) : (v = 0 ∨ v = 1) ∧ K = some R := by
  by_cases hv : v = 0 ∨ v = 1
  · exact ⟨hv, by simpa only [hn_bo, if_pos hv] using e⟩
  · simp [hn_bo, hv] at e
theorem hn_zretPg {v R : Int32} (hF : hn_F Z B (0, 0) cc nL own (some .boolean) h) (hQ : hn_goal Z B (some (.int R), μ)) (hd : decode cc pc = .ok (.ireturn, 1)) (e : hn_bo v (some v) = some R) : hn_G Z B (0, 0) nL pc L [.int v] μ :=
  hn_zretP hF hQ hd (hn_bo_some e).1 (hn_bo_some e).2
theorem hn_zretMg {v : Int32} {R : Int32 × hn_M} (hF : hn_F Z B (0, 0) cc nL own (some .boolean) h) (hQ : hn_goal Z B (some (.int R.1), R.2)) (hd : decode cc pc = .ok (.ireturn, 1)) (e : hn_bo v (some (v, μ)) = some R) : hn_G Z B (0, 0) nL pc L [.int v] μ :=
  hn_zretM hF hQ hd (hn_bo_some e).1 (hn_bo_some e).2
/-! calls -/
theorem hn_good : ∀ w ∈ hn_tb, goodWord w = true := fun _ h => (List.mem_filter.mp h).2
def hn_ms (y : MethodName) (cy : ByteArray) (ny : Nat) (rt : Option FieldType) (n : Nat) : Prop := Cond.code y cy ny rt ∈ hn_tb ∧ Cond.initialized y.cls ∈ hn_tb ∧ (y.cls ≠ "java/lang/invoke/MethodHandle" ∧ y.cls ≠ "java/lang/invoke/VarHandle" ∧ (parseMethodDescriptor y.desc).map (fun d => d.parameters.length) = some n) ∧ ny ≤ 16
def hn_mv (y : MethodName) : Prop := Cond.instanceMethod y ∈ hn_tb ∧ Cond.selects y.cls y y ∈ hn_tb
theorem hn_pay {y : MethodName} {cy : ByteArray} {ny : Nat} {rt : Option FieldType} (hc : Cond.code y cy ny rt ∈ hn_tb) : GoodIn hn_tb (Cond.code y cy ny rt :: hn_tb) := fun w hw => by
  have hm : w ∈ hn_tb := by
    rcases List.mem_cons.mp hw with e | e
    · rw [e]; exact hc
    · exact e
  exact ⟨hm, good_of_word (hn_good w hm)⟩
theorem hn_room {R : Room} {h h' ny : Nat} (hR : h ≤ R.frames ∧ 35 * h ≤ R.locals) (hh : h' + 1 ≤ h) (hn : ny ≤ 16) : (hn_rm h').frames + 1 ≤ R.frames ∧ 8 + (ny + 11) + (hn_rm h').locals ≤ R.locals := by
  simp only [hn_rm]; omega
theorem hn_run {p : Program} {l : Launch} {e : Env} {R : Room} {s : State} {m : MethodId} {args : Array Value} {below : List Frame} {meth : Method} {c : Code} {H : Heap} {locs : List Loc} {kc ks : Nat} {Q : State → Prop} {pc : Nat} {ls : Array Slot} {st0 rest : List Value} {B : hn_B} {r : Option Value × hn_M} {a : Array Value}
    (hr : va_Run p l e R s m args below meth c H locs kc ks 0 0 (F0 m pc ls st0) rest (hn_Q B r a) (hn_A B)) (hS : va_S (hn_A B) s.heap H locs)
    (kk : ∀ (H1 : Heap) (locs1 : List Loc), hn_P B r.2 H1 → va_S (hn_A B) s.heap H1 locs1 → W p l e R s m args below meth c H1 locs1 kc ks Q (F0 m (pc + 3) ls (r.1.toList ++ rest))) : W p l e R s m args below meth c H locs kc ks Q (F0 m pc ls st0) := by
  intro T hT X
  obtain ⟨v, st₀, t, T', L, h0, X', hL, e1, e2, ⟨⟨hv, hp⟩, hz, hk⟩, st⟩ := hr T hT X
  cases hv
  rw [h0] at hz hk
  obtain ⟨t2, a1, b1⟩ := kk T'.heap (locs ++ L) (by rw [e1]; exact hp)
    ⟨Nat.le_trans hS.1 (by rw [e1]; exact hz), fun q h1 h2 => by rw [e1, hk q (Nat.lt_of_lt_of_le h1 hS.1) h2]; exact hS.2.1 q h1 h2, fun q hq => by
      rcases List.mem_append.mp hq with h | h
      · exact hS.2.2 q h
      · exact hL q h⟩ T' rfl X'
  exact ⟨t2, st t2 a1, b1⟩
theorem hn_blind (B : hn_B) (as : List Value) (μ : hn_M) : FrameBlind (va_Pc as fun U => hn_P B μ U.heap ∧ hn_K B U) := by
  intro a U g mk qq
  obtain ⟨q0, qP, qK⟩ := qq
  exact ⟨q0, qP, va_K.moved (u := U) (U := U.calling g mk a) (Vm.Alike.refl U.vm) qK.1, qK.2.1.same (U := U.calling g mk a) rfl, fun q hq => (qK.2.2 q hq).same rfl (U := U.calling g mk a) rfl⟩
theorem hn_callV {y : MethodName} {cy : ByteArray} {ny nn h' idx k ci : Nat} {rt : Option FieldType} {ks : List (Option (Option Nat))} {as rest : List Value} {r : Option Value × hn_M} {Tc : u_T × Nat} (hF : hn_F Z B kp cc nL own ret h) (hM : hn_ms y cy ny rt nn) (hV : hn_mv y) (hl : Cond.methodLink own idx y ∈ hn_tb) (ho : hn_isO B k ci ks) (hc : vwCl[ci]? = some (y.cls, Tc)) (hh : h' + 1 ≤ h) (hn : as.length = nn) (hcat : (rest.map fun v => v.category).sum ≤ 8) (hd : decode cc pc = .ok (.invokevirtual idx, 3)) (hq : pc + 3 = q)
    (hC : hn_C y cy ny rt h' B (.ref (hn_base B + k) :: as) μ r) (hst : st = as.reverse ++ .ref (hn_base B + k) :: rest) (kk : hn_G Z B kp nL q L (r.1.toList ++ rest) r.2) : hn_G Z B kp nL pc L st μ := by
  subst hq; subst hst
  intro H locs ls a b c
  have W1 := hF.2.2.2.2.1
  refine hn_run (va_runV (As := as) (rest := rest) (n := nn) (C := y.cls) ⟨hF.1, hF.2.1, hF.2.2.1, hF.2.2.2.1, W1⟩ (hC (zl Z)) ⟨callB_of nn W1 (hn_pay hM.1) rfl rfl rfl (W1 _ hM.2.1) (W1 _ hl) hM.2.2.1 (hn_room hF.2.2.2.2.2.2.2.2.1 hh hM.2.2.2), W1 _ hV.1, W1 _ hV.2⟩
    ⟨hn_blind B _ μ, va_recv hF.2.2.2.2.2.2.2.1.1 b hc (hn_at_O ho μ), fun U hU hW => ⟨rfl, by rw [hU]; exact b, hF.2.2.2.2.2.2.2.1.go hW hU c⟩⟩ rfl hn a.1 rfl (lv_room hcat) hd hF.2.2.2.2.2.2.2.2.2) c
    (fun H1 locs1 b1 c1 => kk H1 locs1 ls a b1 c1)
theorem hn_callS {y : MethodName} {cy : ByteArray} {ny nn h' idx : Nat} {rt : Option FieldType} {as rest : List Value} {r : Option Value × hn_M} (hF : hn_F Z B kp cc nL own ret h) (hM : hn_ms y cy ny rt nn) (hV : Cond.static y ∈ hn_tb) (hl : Cond.methodLink own idx y ∈ hn_tb) (hh : h' + 1 ≤ h) (hn : as.length = nn) (hcat : (rest.map fun v => v.category).sum ≤ 8) (hd : decode cc pc = .ok (.invokestatic idx, 3)) (hq : pc + 3 = q)
    (hC : hn_C y cy ny rt h' B as μ r) (hst : st = as.reverse ++ rest) (kk : hn_G Z B kp nL q L (r.1.toList ++ rest) r.2) : hn_G Z B kp nL pc L st μ := by
  subst hq; subst hst
  intro H locs ls a b c
  have W1 := hF.2.2.2.2.1
  refine hn_run (va_runS (As := as) (rest := rest) (n := nn) ⟨hF.1, hF.2.1, hF.2.2.1, hF.2.2.2.1, W1⟩ (hC (zl Z)) ⟨callB_of nn W1 (hn_pay hM.1) rfl rfl rfl (W1 _ hM.2.1) (W1 _ hl) hM.2.2.1 (hn_room hF.2.2.2.2.2.2.2.2.1 hh hM.2.2.2), W1 _ hV⟩
    ⟨hn_blind B _ μ, fun U hU hW => ⟨rfl, by rw [hU]; exact b, hF.2.2.2.2.2.2.2.1.go hW hU c⟩⟩ rfl hn a.1 rfl (lv_room hcat) hd hF.2.2.2.2.2.2.2.2.2) c
    (fun H1 locs1 b1 c1 => kk H1 locs1 ls a b1 c1)
theorem hn_callN {y : MethodName} {cy : ByteArray} {ny nn h' idx : Nat} {rt : Option FieldType} {as rest : List Value} {r : Option Value × hn_M} (hF : hn_F Z B kp cc nL own ret h) (hM : hn_ms y cy ny rt nn) (hV : Cond.static y ∈ hn_tb) (hl : (own, idx, y) ∈ hn_nest) (hh : h' + 1 ≤ h) (hn : as.length = nn) (hcat : (rest.map fun v => v.category).sum ≤ 8) (hd : decode cc pc = .ok (.invokestatic idx, 3)) (hq : pc + 3 = q)
    (hC : hn_C y cy ny rt h' B as μ r) (hst : st = as.reverse ++ rest) (kk : hn_G Z B kp nL q L (r.1.toList ++ rest) r.2) : hn_G Z B kp nL pc L st μ := by
  subst hq; subst hst
  intro H locs ls a b c
  have W1 := hF.2.2.2.2.1
  refine hn_run (va_runSN (As := as) (rest := rest) (n := nn) ⟨hF.1, hF.2.1, hF.2.2.1, hF.2.2.2.1, W1⟩ (hC (zl Z)) ⟨va_cnB nn W1 (hn_pay hM.1) rfl rfl rfl (hF.2.2.2.2.2.2.2.1.2.2 _ hl) (W1 _ hM.2.1) hM.2.2.1 (hn_room hF.2.2.2.2.2.2.2.2.1 hh hM.2.2.2), W1 _ hV, trivial⟩
    ⟨hn_blind B _ μ, fun U hU hW => ⟨rfl, by rw [hU]; exact b, hF.2.2.2.2.2.2.2.1.go hW hU c⟩⟩ rfl hn a.1 rfl (lv_room hcat) hd hF.2.2.2.2.2.2.2.2.2) c
    (fun H1 locs1 b1 c1 => kk H1 locs1 ls a b1 c1)
theorem hn_callVi {y : MethodName} {cy : ByteArray} {ny nn h' idx : Nat} {rt : Option FieldType} {k ci : Nat} {ks : List (Option (Option Nat))} {Tc : u_T × Nat} {rest : List Value} {o : Option (Int32)} {K : (Int32) → Option α} (hF : hn_F Z B kp cc nL own ret h) (hM : hn_ms y cy ny rt nn) (hV : hn_mv y) (hl : Cond.methodLink own idx y ∈ hn_tb) (ho : hn_isO B k ci ks) (hc : vwCl[ci]? = some (y.cls, Tc)) (hh : h' + 1 ≤ h) (as : List Value) (hn : as.length = nn) (hcat : (rest.map fun v => v.category).sum ≤ 8) (hd : decode cc pc = .ok (.invokevirtual idx, 3)) (hq : pc + 3 = q)
    (hst : st = as.reverse ++ .ref (hn_base B + k) :: rest) (e : o.bind K = some R) (hC : ∀ v, o = some v → hn_C y cy ny rt h' B (.ref (hn_base B + k) :: as) μ (some (.int v), μ)) (kk : ∀ v, K v = some R → hn_G Z B kp nL q L (.int v :: rest) μ) : hn_G Z B kp nL pc L st μ := by
  obtain ⟨v, hv, e⟩ := Option.bind_eq_some_iff.mp e
  exact hn_callV hF hM hV hl ho hc hh hn hcat hd hq (hC v hv) hst (kk v e)
theorem hn_callVm {y : MethodName} {cy : ByteArray} {ny nn h' idx : Nat} {rt : Option FieldType} {k ci : Nat} {ks : List (Option (Option Nat))} {Tc : u_T × Nat} {rest : List Value} {o : Option (Int32 × hn_M)} {K : (Int32 × hn_M) → Option α} (hF : hn_F Z B kp cc nL own ret h) (hM : hn_ms y cy ny rt nn) (hV : hn_mv y) (hl : Cond.methodLink own idx y ∈ hn_tb) (ho : hn_isO B k ci ks) (hc : vwCl[ci]? = some (y.cls, Tc)) (hh : h' + 1 ≤ h) (as : List Value) (hn : as.length = nn) (hcat : (rest.map fun v => v.category).sum ≤ 8) (hd : decode cc pc = .ok (.invokevirtual idx, 3)) (hq : pc + 3 = q)
    (hst : st = as.reverse ++ .ref (hn_base B + k) :: rest) (e : o.bind K = some R) (hC : ∀ v, o = some v → hn_C y cy ny rt h' B (.ref (hn_base B + k) :: as) μ (some (.int v.1), v.2)) (kk : ∀ v, K v = some R → hn_G Z B kp nL q L (.int v.1 :: rest) v.2) : hn_G Z B kp nL pc L st μ := by
  obtain ⟨v, hv, e⟩ := Option.bind_eq_some_iff.mp e
  exact hn_callV hF hM hV hl ho hc hh hn hcat hd hq (hC v hv) hst (kk v e)
theorem hn_callVv {y : MethodName} {cy : ByteArray} {ny nn h' idx : Nat} {rt : Option FieldType} {k ci : Nat} {ks : List (Option (Option Nat))} {Tc : u_T × Nat} {rest : List Value} {o : Option (hn_M)} {K : (hn_M) → Option α} (hF : hn_F Z B kp cc nL own ret h) (hM : hn_ms y cy ny rt nn) (hV : hn_mv y) (hl : Cond.methodLink own idx y ∈ hn_tb) (ho : hn_isO B k ci ks) (hc : vwCl[ci]? = some (y.cls, Tc)) (hh : h' + 1 ≤ h) (as : List Value) (hn : as.length = nn) (hcat : (rest.map fun v => v.category).sum ≤ 8) (hd : decode cc pc = .ok (.invokevirtual idx, 3)) (hq : pc + 3 = q)
    (hst : st = as.reverse ++ .ref (hn_base B + k) :: rest) (e : o.bind K = some R) (hC : ∀ v, o = some v → hn_C y cy ny rt h' B (.ref (hn_base B + k) :: as) μ (none, v)) (kk : ∀ v, K v = some R → hn_G Z B kp nL q L (rest) v) : hn_G Z B kp nL pc L st μ := by
  obtain ⟨v, hv, e⟩ := Option.bind_eq_some_iff.mp e
  exact hn_callV hF hM hV hl ho hc hh hn hcat hd hq (hC v hv) hst (kk v e)
theorem hn_callVl {y : MethodName} {cy : ByteArray} {ny nn h' idx : Nat} {rt : Option FieldType} {k ci : Nat} {ks : List (Option (Option Nat))} {Tc : u_T × Nat} {rest : List Value} {o : Option (Int64)} {K : (Int64) → Option α} (hF : hn_F Z B kp cc nL own ret h) (hM : hn_ms y cy ny rt nn) (hV : hn_mv y) (hl : Cond.methodLink own idx y ∈ hn_tb) (ho : hn_isO B k ci ks) (hc : vwCl[ci]? = some (y.cls, Tc)) (hh : h' + 1 ≤ h) (as : List Value) (hn : as.length = nn) (hcat : (rest.map fun v => v.category).sum ≤ 8) (hd : decode cc pc = .ok (.invokevirtual idx, 3)) (hq : pc + 3 = q)
    (hst : st = as.reverse ++ .ref (hn_base B + k) :: rest) (e : o.bind K = some R) (hC : ∀ v, o = some v → hn_C y cy ny rt h' B (.ref (hn_base B + k) :: as) μ (some (.long v), μ)) (kk : ∀ v, K v = some R → hn_G Z B kp nL q L (.long v :: rest) μ) : hn_G Z B kp nL pc L st μ := by
  obtain ⟨v, hv, e⟩ := Option.bind_eq_some_iff.mp e
  exact hn_callV hF hM hV hl ho hc hh hn hcat hd hq (hC v hv) hst (kk v e)
theorem hn_callSi {y : MethodName} {cy : ByteArray} {ny nn h' idx : Nat} {rt : Option FieldType} {rest : List Value} {o : Option (Int32)} {K : (Int32) → Option α} (hF : hn_F Z B kp cc nL own ret h) (hM : hn_ms y cy ny rt nn) (hV : Cond.static y ∈ hn_tb) (hl : Cond.methodLink own idx y ∈ hn_tb) (hh : h' + 1 ≤ h) (as : List Value) (hn : as.length = nn) (hcat : (rest.map fun v => v.category).sum ≤ 8) (hd : decode cc pc = .ok (.invokestatic idx, 3)) (hq : pc + 3 = q)
    (hst : st = as.reverse ++ rest) (e : o.bind K = some R) (hC : ∀ v, o = some v → hn_C y cy ny rt h' B as μ (some (.int v), μ)) (kk : ∀ v, K v = some R → hn_G Z B kp nL q L (.int v :: rest) μ) : hn_G Z B kp nL pc L st μ := by
  obtain ⟨v, hv, e⟩ := Option.bind_eq_some_iff.mp e
  exact hn_callS hF hM hV hl hh hn hcat hd hq (hC v hv) hst (kk v e)
theorem hn_callSm {y : MethodName} {cy : ByteArray} {ny nn h' idx : Nat} {rt : Option FieldType} {rest : List Value} {o : Option (Int32 × hn_M)} {K : (Int32 × hn_M) → Option α} (hF : hn_F Z B kp cc nL own ret h) (hM : hn_ms y cy ny rt nn) (hV : Cond.static y ∈ hn_tb) (hl : Cond.methodLink own idx y ∈ hn_tb) (hh : h' + 1 ≤ h) (as : List Value) (hn : as.length = nn) (hcat : (rest.map fun v => v.category).sum ≤ 8) (hd : decode cc pc = .ok (.invokestatic idx, 3)) (hq : pc + 3 = q)
    (hst : st = as.reverse ++ rest) (e : o.bind K = some R) (hC : ∀ v, o = some v → hn_C y cy ny rt h' B as μ (some (.int v.1), v.2)) (kk : ∀ v, K v = some R → hn_G Z B kp nL q L (.int v.1 :: rest) v.2) : hn_G Z B kp nL pc L st μ := by
  obtain ⟨v, hv, e⟩ := Option.bind_eq_some_iff.mp e
  exact hn_callS hF hM hV hl hh hn hcat hd hq (hC v hv) hst (kk v e)
theorem hn_callSv {y : MethodName} {cy : ByteArray} {ny nn h' idx : Nat} {rt : Option FieldType} {rest : List Value} {o : Option (hn_M)} {K : (hn_M) → Option α} (hF : hn_F Z B kp cc nL own ret h) (hM : hn_ms y cy ny rt nn) (hV : Cond.static y ∈ hn_tb) (hl : Cond.methodLink own idx y ∈ hn_tb) (hh : h' + 1 ≤ h) (as : List Value) (hn : as.length = nn) (hcat : (rest.map fun v => v.category).sum ≤ 8) (hd : decode cc pc = .ok (.invokestatic idx, 3)) (hq : pc + 3 = q)
    (hst : st = as.reverse ++ rest) (e : o.bind K = some R) (hC : ∀ v, o = some v → hn_C y cy ny rt h' B as μ (none, v)) (kk : ∀ v, K v = some R → hn_G Z B kp nL q L (rest) v) : hn_G Z B kp nL pc L st μ := by
  obtain ⟨v, hv, e⟩ := Option.bind_eq_some_iff.mp e
  exact hn_callS hF hM hV hl hh hn hcat hd hq (hC v hv) hst (kk v e)
theorem hn_callSl {y : MethodName} {cy : ByteArray} {ny nn h' idx : Nat} {rt : Option FieldType} {rest : List Value} {o : Option (Int64)} {K : (Int64) → Option α} (hF : hn_F Z B kp cc nL own ret h) (hM : hn_ms y cy ny rt nn) (hV : Cond.static y ∈ hn_tb) (hl : Cond.methodLink own idx y ∈ hn_tb) (hh : h' + 1 ≤ h) (as : List Value) (hn : as.length = nn) (hcat : (rest.map fun v => v.category).sum ≤ 8) (hd : decode cc pc = .ok (.invokestatic idx, 3)) (hq : pc + 3 = q)
    (hst : st = as.reverse ++ rest) (e : o.bind K = some R) (hC : ∀ v, o = some v → hn_C y cy ny rt h' B as μ (some (.long v), μ)) (kk : ∀ v, K v = some R → hn_G Z B kp nL q L (.long v :: rest) μ) : hn_G Z B kp nL pc L st μ := by
  obtain ⟨v, hv, e⟩ := Option.bind_eq_some_iff.mp e
  exact hn_callS hF hM hV hl hh hn hcat hd hq (hC v hv) hst (kk v e)
theorem hn_callNi {y : MethodName} {cy : ByteArray} {ny nn h' idx : Nat} {rt : Option FieldType} {rest : List Value} {o : Option (Int32)} {K : (Int32) → Option α} (hF : hn_F Z B kp cc nL own ret h) (hM : hn_ms y cy ny rt nn) (hV : Cond.static y ∈ hn_tb) (hl : (own, idx, y) ∈ hn_nest) (hh : h' + 1 ≤ h) (as : List Value) (hn : as.length = nn) (hcat : (rest.map fun v => v.category).sum ≤ 8) (hd : decode cc pc = .ok (.invokestatic idx, 3)) (hq : pc + 3 = q)
    (hst : st = as.reverse ++ rest) (e : o.bind K = some R) (hC : ∀ v, o = some v → hn_C y cy ny rt h' B as μ (some (.int v), μ)) (kk : ∀ v, K v = some R → hn_G Z B kp nL q L (.int v :: rest) μ) : hn_G Z B kp nL pc L st μ := by
  obtain ⟨v, hv, e⟩ := Option.bind_eq_some_iff.mp e
  exact hn_callN hF hM hV hl hh hn hcat hd hq (hC v hv) hst (kk v e)
theorem hn_callNm {y : MethodName} {cy : ByteArray} {ny nn h' idx : Nat} {rt : Option FieldType} {rest : List Value} {o : Option (Int32 × hn_M)} {K : (Int32 × hn_M) → Option α} (hF : hn_F Z B kp cc nL own ret h) (hM : hn_ms y cy ny rt nn) (hV : Cond.static y ∈ hn_tb) (hl : (own, idx, y) ∈ hn_nest) (hh : h' + 1 ≤ h) (as : List Value) (hn : as.length = nn) (hcat : (rest.map fun v => v.category).sum ≤ 8) (hd : decode cc pc = .ok (.invokestatic idx, 3)) (hq : pc + 3 = q)
    (hst : st = as.reverse ++ rest) (e : o.bind K = some R) (hC : ∀ v, o = some v → hn_C y cy ny rt h' B as μ (some (.int v.1), v.2)) (kk : ∀ v, K v = some R → hn_G Z B kp nL q L (.int v.1 :: rest) v.2) : hn_G Z B kp nL pc L st μ := by
  obtain ⟨v, hv, e⟩ := Option.bind_eq_some_iff.mp e
  exact hn_callN hF hM hV hl hh hn hcat hd hq (hC v hv) hst (kk v e)
theorem hn_callNv {y : MethodName} {cy : ByteArray} {ny nn h' idx : Nat} {rt : Option FieldType} {rest : List Value} {o : Option (hn_M)} {K : (hn_M) → Option α} (hF : hn_F Z B kp cc nL own ret h) (hM : hn_ms y cy ny rt nn) (hV : Cond.static y ∈ hn_tb) (hl : (own, idx, y) ∈ hn_nest) (hh : h' + 1 ≤ h) (as : List Value) (hn : as.length = nn) (hcat : (rest.map fun v => v.category).sum ≤ 8) (hd : decode cc pc = .ok (.invokestatic idx, 3)) (hq : pc + 3 = q)
    (hst : st = as.reverse ++ rest) (e : o.bind K = some R) (hC : ∀ v, o = some v → hn_C y cy ny rt h' B as μ (none, v)) (kk : ∀ v, K v = some R → hn_G Z B kp nL q L (rest) v) : hn_G Z B kp nL pc L st μ := by
  obtain ⟨v, hv, e⟩ := Option.bind_eq_some_iff.mp e
  exact hn_callN hF hM hV hl hh hn hcat hd hq (hC v hv) hst (kk v e)
theorem hn_callNl {y : MethodName} {cy : ByteArray} {ny nn h' idx : Nat} {rt : Option FieldType} {rest : List Value} {o : Option (Int64)} {K : (Int64) → Option α} (hF : hn_F Z B kp cc nL own ret h) (hM : hn_ms y cy ny rt nn) (hV : Cond.static y ∈ hn_tb) (hl : (own, idx, y) ∈ hn_nest) (hh : h' + 1 ≤ h) (as : List Value) (hn : as.length = nn) (hcat : (rest.map fun v => v.category).sum ≤ 8) (hd : decode cc pc = .ok (.invokestatic idx, 3)) (hq : pc + 3 = q)
    (hst : st = as.reverse ++ rest) (e : o.bind K = some R) (hC : ∀ v, o = some v → hn_C y cy ny rt h' B as μ (some (.long v), μ)) (kk : ∀ v, K v = some R → hn_G Z B kp nL q L (.long v :: rest) μ) : hn_G Z B kp nL pc L st μ := by
  obtain ⟨v, hv, e⟩ := Option.bind_eq_some_iff.mp e
  exact hn_callN hF hM hV hl hh hn hcat hd hq (hC v hv) hst (kk v e)
end hn_rules2
end
section
theorem hn_l0 : ∀ w ∈ u_ws RX0 TX0 8, w ∈ hn_tb := by decide +kernel
theorem hn_l1 : ∀ w ∈ u_ws RX1 TX1 17, w ∈ hn_tb := by decide +kernel
theorem hn_l2 : ∀ w ∈ u_ws RX2 TX2 5, w ∈ hn_tb := by decide +kernel
theorem hn_l3 : ∀ w ∈ u_ws RX3 TX3 4, w ∈ hn_tb := by decide +kernel
theorem hn_l4 : ∀ w ∈ u_ws RX4 TX4 2, w ∈ hn_tb := by decide +kernel
theorem hn_l5 : ∀ w ∈ u_ws RX5 TX5 3, w ∈ hn_tb := by decide +kernel
theorem hn_l6 : ∀ w ∈ u_ws RX6 TX6 1, w ∈ hn_tb := by decide +kernel
theorem hn_l7 : ∀ w ∈ u_ws RX7 TX7 13, w ∈ hn_tb := by decide +kernel
theorem hn_l8 : ∀ w ∈ u_ws RX8 TX8 26, w ∈ hn_tb := by decide +kernel
theorem fl_X0_11 : hn_fl RX0 11 0 0 := ⟨RX0, TX0, 8, rfl, by decide, hn_in (by decide +kernel) rfl, hn_l0⟩
theorem fl_X0_15 : hn_fl RX0 15 0 1 := ⟨RX0, TX0, 8, rfl, by decide, hn_in (by decide +kernel) rfl, hn_l0⟩
theorem fl_X0_18 : hn_fl RX0 18 0 2 := ⟨RX0, TX0, 8, rfl, by decide, hn_in (by decide +kernel) rfl, hn_l0⟩
theorem fl_X0_21 : hn_fl RX0 21 0 3 := ⟨RX0, TX0, 8, rfl, by decide, hn_in (by decide +kernel) rfl, hn_l0⟩
theorem fl_X0_24 : hn_fl RX0 24 0 4 := ⟨RX0, TX0, 8, rfl, by decide, hn_in (by decide +kernel) rfl, hn_l0⟩
theorem fl_X0_27 : hn_fl RX0 27 0 5 := ⟨RX0, TX0, 8, rfl, by decide, hn_in (by decide +kernel) rfl, hn_l0⟩
theorem fl_X0_30 : hn_fl RX0 30 0 6 := ⟨RX0, TX0, 8, rfl, by decide, hn_in (by decide +kernel) rfl, hn_l0⟩
theorem fl_X0_34 : hn_fl RX0 34 0 7 := ⟨RX0, TX0, 8, rfl, by decide, hn_in (by decide +kernel) rfl, hn_l0⟩
theorem fl_X0_37 : hn_fl RX0 37 4 1 := ⟨RX4, TX4, 2, rfl, by decide, hn_in (by decide +kernel) rfl, hn_l4⟩
theorem fl_X1_9 : hn_fl RX1 9 1 0 := ⟨RX1, TX1, 17, rfl, by decide, hn_in (by decide +kernel) rfl, hn_l1⟩
theorem fl_X1_15 : hn_fl RX1 15 1 1 := ⟨RX1, TX1, 17, rfl, by decide, hn_in (by decide +kernel) rfl, hn_l1⟩
theorem fl_X1_19 : hn_fl RX1 19 1 2 := ⟨RX1, TX1, 17, rfl, by decide, hn_in (by decide +kernel) rfl, hn_l1⟩
theorem fl_X1_22 : hn_fl RX1 22 1 3 := ⟨RX1, TX1, 17, rfl, by decide, hn_in (by decide +kernel) rfl, hn_l1⟩
theorem fl_X1_25 : hn_fl RX1 25 1 4 := ⟨RX1, TX1, 17, rfl, by decide, hn_in (by decide +kernel) rfl, hn_l1⟩
theorem fl_X1_28 : hn_fl RX1 28 1 5 := ⟨RX1, TX1, 17, rfl, by decide, hn_in (by decide +kernel) rfl, hn_l1⟩
theorem fl_X1_31 : hn_fl RX1 31 1 6 := ⟨RX1, TX1, 17, rfl, by decide, hn_in (by decide +kernel) rfl, hn_l1⟩
theorem fl_X1_34 : hn_fl RX1 34 1 7 := ⟨RX1, TX1, 17, rfl, by decide, hn_in (by decide +kernel) rfl, hn_l1⟩
theorem fl_X1_37 : hn_fl RX1 37 1 8 := ⟨RX1, TX1, 17, rfl, by decide, hn_in (by decide +kernel) rfl, hn_l1⟩
theorem fl_X1_40 : hn_fl RX1 40 1 9 := ⟨RX1, TX1, 17, rfl, by decide, hn_in (by decide +kernel) rfl, hn_l1⟩
theorem fl_X1_43 : hn_fl RX1 43 1 10 := ⟨RX1, TX1, 17, rfl, by decide, hn_in (by decide +kernel) rfl, hn_l1⟩
theorem fl_X1_46 : hn_fl RX1 46 1 11 := ⟨RX1, TX1, 17, rfl, by decide, hn_in (by decide +kernel) rfl, hn_l1⟩
theorem fl_X1_49 : hn_fl RX1 49 1 12 := ⟨RX1, TX1, 17, rfl, by decide, hn_in (by decide +kernel) rfl, hn_l1⟩
theorem fl_X1_52 : hn_fl RX1 52 1 13 := ⟨RX1, TX1, 17, rfl, by decide, hn_in (by decide +kernel) rfl, hn_l1⟩
theorem fl_X1_55 : hn_fl RX1 55 1 14 := ⟨RX1, TX1, 17, rfl, by decide, hn_in (by decide +kernel) rfl, hn_l1⟩
theorem fl_X1_58 : hn_fl RX1 58 1 15 := ⟨RX1, TX1, 17, rfl, by decide, hn_in (by decide +kernel) rfl, hn_l1⟩
theorem fl_X1_61 : hn_fl RX1 61 1 16 := ⟨RX1, TX1, 17, rfl, by decide, hn_in (by decide +kernel) rfl, hn_l1⟩
theorem fl_X2_9 : hn_fl RX2 9 2 0 := ⟨RX2, TX2, 5, rfl, by decide, hn_in (by decide +kernel) rfl, hn_l2⟩
theorem fl_X2_15 : hn_fl RX2 15 2 1 := ⟨RX2, TX2, 5, rfl, by decide, hn_in (by decide +kernel) rfl, hn_l2⟩
theorem fl_X2_18 : hn_fl RX2 18 2 2 := ⟨RX2, TX2, 5, rfl, by decide, hn_in (by decide +kernel) rfl, hn_l2⟩
theorem fl_X2_21 : hn_fl RX2 21 2 3 := ⟨RX2, TX2, 5, rfl, by decide, hn_in (by decide +kernel) rfl, hn_l2⟩
theorem fl_X2_24 : hn_fl RX2 24 2 4 := ⟨RX2, TX2, 5, rfl, by decide, hn_in (by decide +kernel) rfl, hn_l2⟩
theorem fl_X3_9 : hn_fl RX3 9 3 0 := ⟨RX3, TX3, 4, rfl, by decide, hn_in (by decide +kernel) rfl, hn_l3⟩
theorem fl_X3_15 : hn_fl RX3 15 3 1 := ⟨RX3, TX3, 4, rfl, by decide, hn_in (by decide +kernel) rfl, hn_l3⟩
theorem fl_X3_18 : hn_fl RX3 18 3 2 := ⟨RX3, TX3, 4, rfl, by decide, hn_in (by decide +kernel) rfl, hn_l3⟩
theorem fl_X3_21 : hn_fl RX3 21 3 3 := ⟨RX3, TX3, 4, rfl, by decide, hn_in (by decide +kernel) rfl, hn_l3⟩
theorem fl_X3_41 : hn_fl RX3 41 1 0 := ⟨RX1, TX1, 17, rfl, by decide, hn_in (by decide +kernel) rfl, hn_l1⟩
theorem fl_X3_47 : hn_fl RX3 47 1 3 := ⟨RX1, TX1, 17, rfl, by decide, hn_in (by decide +kernel) rfl, hn_l1⟩
theorem fl_X3_56 : hn_fl RX3 56 1 7 := ⟨RX1, TX1, 17, rfl, by decide, hn_in (by decide +kernel) rfl, hn_l1⟩
theorem fl_X3_59 : hn_fl RX3 59 1 9 := ⟨RX1, TX1, 17, rfl, by decide, hn_in (by decide +kernel) rfl, hn_l1⟩
theorem fl_X3_62 : hn_fl RX3 62 1 8 := ⟨RX1, TX1, 17, rfl, by decide, hn_in (by decide +kernel) rfl, hn_l1⟩
theorem fl_X3_69 : hn_fl RX3 69 1 15 := ⟨RX1, TX1, 17, rfl, by decide, hn_in (by decide +kernel) rfl, hn_l1⟩
theorem fl_X3_72 : hn_fl RX3 72 1 14 := ⟨RX1, TX1, 17, rfl, by decide, hn_in (by decide +kernel) rfl, hn_l1⟩
theorem fl_X3_75 : hn_fl RX3 75 1 1 := ⟨RX1, TX1, 17, rfl, by decide, hn_in (by decide +kernel) rfl, hn_l1⟩
theorem fl_X3_95 : hn_fl RX3 95 1 4 := ⟨RX1, TX1, 17, rfl, by decide, hn_in (by decide +kernel) rfl, hn_l1⟩
theorem fl_X3_98 : hn_fl RX3 98 1 6 := ⟨RX1, TX1, 17, rfl, by decide, hn_in (by decide +kernel) rfl, hn_l1⟩
theorem fl_X3_105 : hn_fl RX3 105 1 5 := ⟨RX1, TX1, 17, rfl, by decide, hn_in (by decide +kernel) rfl, hn_l1⟩
theorem fl_X4_9 : hn_fl RX4 9 4 0 := ⟨RX4, TX4, 2, rfl, by decide, hn_in (by decide +kernel) rfl, hn_l4⟩
theorem fl_X4_15 : hn_fl RX4 15 4 1 := ⟨RX4, TX4, 2, rfl, by decide, hn_in (by decide +kernel) rfl, hn_l4⟩
theorem fl_X5_9 : hn_fl RX5 9 5 0 := ⟨RX5, TX5, 3, rfl, by decide, hn_in (by decide +kernel) rfl, hn_l5⟩
theorem fl_X5_15 : hn_fl RX5 15 5 1 := ⟨RX5, TX5, 3, rfl, by decide, hn_in (by decide +kernel) rfl, hn_l5⟩
theorem fl_X5_18 : hn_fl RX5 18 5 2 := ⟨RX5, TX5, 3, rfl, by decide, hn_in (by decide +kernel) rfl, hn_l5⟩
theorem fl_X5_21 : hn_fl RX5 21 1 7 := ⟨RX1, TX1, 17, rfl, by decide, hn_in (by decide +kernel) rfl, hn_l1⟩
theorem fl_X5_47 : hn_fl RX5 47 1 8 := ⟨RX1, TX1, 17, rfl, by decide, hn_in (by decide +kernel) rfl, hn_l1⟩
theorem fl_X5_50 : hn_fl RX5 50 1 9 := ⟨RX1, TX1, 17, rfl, by decide, hn_in (by decide +kernel) rfl, hn_l1⟩
theorem fl_X5_56 : hn_fl RX5 56 1 1 := ⟨RX1, TX1, 17, rfl, by decide, hn_in (by decide +kernel) rfl, hn_l1⟩
theorem fl_X5_65 : hn_fl RX5 65 3 1 := ⟨RX3, TX3, 4, rfl, by decide, hn_in (by decide +kernel) rfl, hn_l3⟩
theorem fl_X5_70 : hn_fl RX5 70 3 0 := ⟨RX3, TX3, 4, rfl, by decide, hn_in (by decide +kernel) rfl, hn_l3⟩
theorem fl_X6_9 : hn_fl RX6 9 6 0 := ⟨RX6, TX6, 1, rfl, by decide, hn_in (by decide +kernel) rfl, hn_l6⟩
theorem fl_X7_10 : hn_fl RX7 10 7 0 := ⟨RX7, TX7, 13, rfl, by decide, hn_in (by decide +kernel) rfl, hn_l7⟩
theorem fl_X7_19 : hn_fl RX7 19 7 1 := ⟨RX7, TX7, 13, rfl, by decide, hn_in (by decide +kernel) rfl, hn_l7⟩
theorem fl_X7_23 : hn_fl RX7 23 7 2 := ⟨RX7, TX7, 13, rfl, by decide, hn_in (by decide +kernel) rfl, hn_l7⟩
theorem fl_X7_30 : hn_fl RX7 30 7 3 := ⟨RX7, TX7, 13, rfl, by decide, hn_in (by decide +kernel) rfl, hn_l7⟩
theorem fl_X7_37 : hn_fl RX7 37 7 4 := ⟨RX7, TX7, 13, rfl, by decide, hn_in (by decide +kernel) rfl, hn_l7⟩
theorem fl_X7_44 : hn_fl RX7 44 7 5 := ⟨RX7, TX7, 13, rfl, by decide, hn_in (by decide +kernel) rfl, hn_l7⟩
theorem fl_X7_51 : hn_fl RX7 51 7 6 := ⟨RX7, TX7, 13, rfl, by decide, hn_in (by decide +kernel) rfl, hn_l7⟩
theorem fl_X7_58 : hn_fl RX7 58 7 7 := ⟨RX7, TX7, 13, rfl, by decide, hn_in (by decide +kernel) rfl, hn_l7⟩
theorem fl_X7_62 : hn_fl RX7 62 7 8 := ⟨RX7, TX7, 13, rfl, by decide, hn_in (by decide +kernel) rfl, hn_l7⟩
theorem fl_X7_65 : hn_fl RX7 65 7 9 := ⟨RX7, TX7, 13, rfl, by decide, hn_in (by decide +kernel) rfl, hn_l7⟩
theorem fl_X7_69 : hn_fl RX7 69 7 10 := ⟨RX7, TX7, 13, rfl, by decide, hn_in (by decide +kernel) rfl, hn_l7⟩
theorem fl_X7_72 : hn_fl RX7 72 7 11 := ⟨RX7, TX7, 13, rfl, by decide, hn_in (by decide +kernel) rfl, hn_l7⟩
theorem fl_X7_75 : hn_fl RX7 75 7 12 := ⟨RX7, TX7, 13, rfl, by decide, hn_in (by decide +kernel) rfl, hn_l7⟩
theorem fl_X7_83 : hn_fl RX7 83 1 0 := ⟨RX1, TX1, 17, rfl, by decide, hn_in (by decide +kernel) rfl, hn_l1⟩
theorem fl_X7_114 : hn_fl RX7 114 1 3 := ⟨RX1, TX1, 17, rfl, by decide, hn_in (by decide +kernel) rfl, hn_l1⟩
theorem fl_X7_118 : hn_fl RX7 118 1 1 := ⟨RX1, TX1, 17, rfl, by decide, hn_in (by decide +kernel) rfl, hn_l1⟩
theorem fl_X7_121 : hn_fl RX7 121 1 4 := ⟨RX1, TX1, 17, rfl, by decide, hn_in (by decide +kernel) rfl, hn_l1⟩
theorem fl_X7_139 : hn_fl RX7 139 1 14 := ⟨RX1, TX1, 17, rfl, by decide, hn_in (by decide +kernel) rfl, hn_l1⟩
theorem fl_X7_142 : hn_fl RX7 142 1 15 := ⟨RX1, TX1, 17, rfl, by decide, hn_in (by decide +kernel) rfl, hn_l1⟩
theorem fl_X7_149 : hn_fl RX7 149 3 0 := ⟨RX3, TX3, 4, rfl, by decide, hn_in (by decide +kernel) rfl, hn_l3⟩
theorem fl_X7_152 : hn_fl RX7 152 3 1 := ⟨RX3, TX3, 4, rfl, by decide, hn_in (by decide +kernel) rfl, hn_l3⟩
theorem fl_X7_159 : hn_fl RX7 159 1 7 := ⟨RX1, TX1, 17, rfl, by decide, hn_in (by decide +kernel) rfl, hn_l1⟩
theorem fl_X7_173 : hn_fl RX7 173 1 9 := ⟨RX1, TX1, 17, rfl, by decide, hn_in (by decide +kernel) rfl, hn_l1⟩
theorem fl_X7_182 : hn_fl RX7 182 5 0 := ⟨RX5, TX5, 3, rfl, by decide, hn_in (by decide +kernel) rfl, hn_l5⟩
theorem fl_X7_185 : hn_fl RX7 185 5 1 := ⟨RX5, TX5, 3, rfl, by decide, hn_in (by decide +kernel) rfl, hn_l5⟩
theorem fl_X7_192 : hn_fl RX7 192 5 2 := ⟨RX5, TX5, 3, rfl, by decide, hn_in (by decide +kernel) rfl, hn_l5⟩
theorem fl_X7_208 : hn_fl RX7 208 4 1 := ⟨RX4, TX4, 2, rfl, by decide, hn_in (by decide +kernel) rfl, hn_l4⟩
theorem fl_X7_219 : hn_fl RX7 219 0 6 := ⟨RX0, TX0, 8, rfl, by decide, hn_in (by decide +kernel) rfl, hn_l0⟩
theorem fl_X7_244 : hn_fl RX7 244 1 16 := ⟨RX1, TX1, 17, rfl, by decide, hn_in (by decide +kernel) rfl, hn_l1⟩
theorem fl_X7_291 : hn_fl RX7 291 2 4 := ⟨RX2, TX2, 5, rfl, by decide, hn_in (by decide +kernel) rfl, hn_l2⟩
theorem fl_X7_298 : hn_fl RX7 298 3 3 := ⟨RX3, TX3, 4, rfl, by decide, hn_in (by decide +kernel) rfl, hn_l3⟩
theorem fl_X7_308 : hn_fl RX7 308 1 10 := ⟨RX1, TX1, 17, rfl, by decide, hn_in (by decide +kernel) rfl, hn_l1⟩
theorem fl_X7_311 : hn_fl RX7 311 1 8 := ⟨RX1, TX1, 17, rfl, by decide, hn_in (by decide +kernel) rfl, hn_l1⟩
theorem fl_X8_7 : hn_fl RX8 7 8 0 := ⟨RX8, TX8, 26, rfl, by decide, hn_in (by decide +kernel) rfl, hn_l8⟩
theorem fl_X8_13 : hn_fl RX8 13 8 1 := ⟨RX8, TX8, 26, rfl, by decide, hn_in (by decide +kernel) rfl, hn_l8⟩
theorem fl_X8_16 : hn_fl RX8 16 8 2 := ⟨RX8, TX8, 26, rfl, by decide, hn_in (by decide +kernel) rfl, hn_l8⟩
theorem fl_X8_19 : hn_fl RX8 19 8 3 := ⟨RX8, TX8, 26, rfl, by decide, hn_in (by decide +kernel) rfl, hn_l8⟩
theorem fl_X8_22 : hn_fl RX8 22 8 4 := ⟨RX8, TX8, 26, rfl, by decide, hn_in (by decide +kernel) rfl, hn_l8⟩
theorem fl_X8_25 : hn_fl RX8 25 8 5 := ⟨RX8, TX8, 26, rfl, by decide, hn_in (by decide +kernel) rfl, hn_l8⟩
theorem fl_X8_28 : hn_fl RX8 28 8 6 := ⟨RX8, TX8, 26, rfl, by decide, hn_in (by decide +kernel) rfl, hn_l8⟩
theorem fl_X8_31 : hn_fl RX8 31 8 7 := ⟨RX8, TX8, 26, rfl, by decide, hn_in (by decide +kernel) rfl, hn_l8⟩
theorem fl_X8_34 : hn_fl RX8 34 8 8 := ⟨RX8, TX8, 26, rfl, by decide, hn_in (by decide +kernel) rfl, hn_l8⟩
theorem fl_X8_37 : hn_fl RX8 37 8 9 := ⟨RX8, TX8, 26, rfl, by decide, hn_in (by decide +kernel) rfl, hn_l8⟩
theorem fl_X8_40 : hn_fl RX8 40 8 10 := ⟨RX8, TX8, 26, rfl, by decide, hn_in (by decide +kernel) rfl, hn_l8⟩
theorem fl_X8_43 : hn_fl RX8 43 8 12 := ⟨RX8, TX8, 26, rfl, by decide, hn_in (by decide +kernel) rfl, hn_l8⟩
theorem fl_X8_47 : hn_fl RX8 47 8 15 := ⟨RX8, TX8, 26, rfl, by decide, hn_in (by decide +kernel) rfl, hn_l8⟩
theorem fl_X8_50 : hn_fl RX8 50 8 16 := ⟨RX8, TX8, 26, rfl, by decide, hn_in (by decide +kernel) rfl, hn_l8⟩
theorem fl_X8_53 : hn_fl RX8 53 8 17 := ⟨RX8, TX8, 26, rfl, by decide, hn_in (by decide +kernel) rfl, hn_l8⟩
theorem fl_X8_56 : hn_fl RX8 56 8 18 := ⟨RX8, TX8, 26, rfl, by decide, hn_in (by decide +kernel) rfl, hn_l8⟩
theorem fl_X8_59 : hn_fl RX8 59 8 19 := ⟨RX8, TX8, 26, rfl, by decide, hn_in (by decide +kernel) rfl, hn_l8⟩
theorem fl_X8_62 : hn_fl RX8 62 8 20 := ⟨RX8, TX8, 26, rfl, by decide, hn_in (by decide +kernel) rfl, hn_l8⟩
theorem fl_X8_65 : hn_fl RX8 65 8 21 := ⟨RX8, TX8, 26, rfl, by decide, hn_in (by decide +kernel) rfl, hn_l8⟩
theorem fl_X8_68 : hn_fl RX8 68 8 23 := ⟨RX8, TX8, 26, rfl, by decide, hn_in (by decide +kernel) rfl, hn_l8⟩
theorem fl_X8_71 : hn_fl RX8 71 8 25 := ⟨RX8, TX8, 26, rfl, by decide, hn_in (by decide +kernel) rfl, hn_l8⟩
theorem fl_X8_110 : hn_fl RX8 110 8 22 := ⟨RX8, TX8, 26, rfl, by decide, hn_in (by decide +kernel) rfl, hn_l8⟩
theorem fl_X8_165 : hn_fl RX8 165 8 14 := ⟨RX8, TX8, 26, rfl, by decide, hn_in (by decide +kernel) rfl, hn_l8⟩
theorem fl_X8_168 : hn_fl RX8 168 8 24 := ⟨RX8, TX8, 26, rfl, by decide, hn_in (by decide +kernel) rfl, hn_l8⟩
theorem fl_X8_205 : hn_fl RX8 205 8 13 := ⟨RX8, TX8, 26, rfl, by decide, hn_in (by decide +kernel) rfl, hn_l8⟩
theorem fl_X8_231 : hn_fl RX8 231 8 11 := ⟨RX8, TX8, 26, rfl, by decide, hn_in (by decide +kernel) rfl, hn_l8⟩
theorem fp_X0_6 : hn_fp 0 6 (.int) := ⟨RX0, TX0, 8, tyX0, rfl, tyX0_ok, nmX0, rfl, by decide +kernel⟩
theorem fp_X0_7 : hn_fp 0 7 (.int) := ⟨RX0, TX0, 8, tyX0, rfl, tyX0_ok, nmX0, rfl, by decide +kernel⟩
theorem fp_X1_0 : hn_fp 1 0 (.int) := ⟨RX1, TX1, 17, tyX1, rfl, tyX1_ok, nmX1, rfl, by decide +kernel⟩
theorem fp_X1_4 : hn_fp 1 4 (.int) := ⟨RX1, TX1, 17, tyX1, rfl, tyX1_ok, nmX1, rfl, by decide +kernel⟩
theorem fp_X1_7 : hn_fp 1 7 (.int) := ⟨RX1, TX1, 17, tyX1, rfl, tyX1_ok, nmX1, rfl, by decide +kernel⟩
theorem fp_X1_12 : hn_fp 1 12 (.int) := ⟨RX1, TX1, 17, tyX1, rfl, tyX1_ok, nmX1, rfl, by decide +kernel⟩
theorem fp_X1_13 : hn_fp 1 13 (.int) := ⟨RX1, TX1, 17, tyX1, rfl, tyX1_ok, nmX1, rfl, by decide +kernel⟩
theorem fp_X2_4 : hn_fp 2 4 (.int) := ⟨RX2, TX2, 5, tyX2, rfl, tyX2_ok, nmX2, rfl, by decide +kernel⟩
theorem fp_X3_3 : hn_fp 3 3 (.boolean) := ⟨RX3, TX3, 4, tyX3, rfl, tyX3_ok, nmX3, rfl, by decide +kernel⟩
theorem fp_X4_1 : hn_fp 4 1 (.int) := ⟨RX4, TX4, 2, tyX4, rfl, tyX4_ok, nmX4, rfl, by decide +kernel⟩
theorem fp_X7_7 : hn_fp 7 7 (.object "HandNews$Items") := ⟨RX7, TX7, 13, tyX7, rfl, tyX7_ok, nmX7, rfl, by decide +kernel⟩
theorem fp_X7_8 : hn_fp 7 8 (.object "HandNews$Items") := ⟨RX7, TX7, 13, tyX7, rfl, tyX7_ok, nmX7, rfl, by decide +kernel⟩
theorem fp_X7_9 : hn_fp 7 9 (.int) := ⟨RX7, TX7, 13, tyX7, rfl, tyX7_ok, nmX7, rfl, by decide +kernel⟩
theorem fp_X7_10 : hn_fp 7 10 (.int) := ⟨RX7, TX7, 13, tyX7, rfl, tyX7_ok, nmX7, rfl, by decide +kernel⟩
theorem fp_X7_11 : hn_fp 7 11 (.int) := ⟨RX7, TX7, 13, tyX7, rfl, tyX7_ok, nmX7, rfl, by decide +kernel⟩
theorem fp_X7_12 : hn_fp 7 12 (.boolean) := ⟨RX7, TX7, 13, tyX7, rfl, tyX7_ok, nmX7, rfl, by decide +kernel⟩
theorem fp_X8_11 : hn_fp 8 11 (.int) := ⟨RX8, TX8, 26, tyX8, rfl, tyX8_ok, nmX8, rfl, by decide +kernel⟩
theorem fp_X8_12 : hn_fp 8 12 (.int) := ⟨RX8, TX8, 26, tyX8, rfl, tyX8_ok, nmX8, rfl, by decide +kernel⟩
theorem fp_X8_13 : hn_fp 8 13 (.int) := ⟨RX8, TX8, 26, tyX8, rfl, tyX8_ok, nmX8, rfl, by decide +kernel⟩
theorem fp_X8_14 : hn_fp 8 14 (.int) := ⟨RX8, TX8, 26, tyX8, rfl, tyX8_ok, nmX8, rfl, by decide +kernel⟩
theorem fp_X8_22 : hn_fp 8 22 (.boolean) := ⟨RX8, TX8, 26, tyX8, rfl, tyX8_ok, nmX8, rfl, by decide +kernel⟩
theorem fp_X8_24 : hn_fp 8 24 (.int) := ⟨RX8, TX8, 26, tyX8, rfl, tyX8_ok, nmX8, rfl, by decide +kernel⟩
theorem kd_X2_31 : Cond.constant RX2 31 1000000 ∈ hn_tb := hn_in (by decide +kernel) rfl
theorem kd_X7_198 : Cond.constant RX7 198 (-100000) ∈ hn_tb := hn_in (by decide +kernel) rfl
theorem kd_X7_199 : Cond.constant RX7 199 (-100002) ∈ hn_tb := hn_in (by decide +kernel) rfl
theorem kd_X7_203 : Cond.constant RX7 203 (-1000000) ∈ hn_tb := hn_in (by decide +kernel) rfl
theorem kd_X7_204 : Cond.constant RX7 204 (-1000002) ∈ hn_tb := hn_in (by decide +kernel) rfl
theorem kd_X7_253 : Cond.constantLong RX7 253 (-1) ∈ hn_tb := hn_in (by decide +kernel) rfl
theorem kd_X8_77 : Cond.constantLong RX8 77 5 ∈ hn_tb := hn_in (by decide +kernel) rfl
theorem kd_X8_83 : Cond.constantLong RX8 83 999 ∈ hn_tb := hn_in (by decide +kernel) rfl
theorem kd_X8_85 : Cond.constantLong RX8 85 9 ∈ hn_tb := hn_in (by decide +kernel) rfl
theorem kd_X8_91 : Cond.constantLong RX8 91 60 ∈ hn_tb := hn_in (by decide +kernel) rfl
theorem kd_X8_93 : Cond.constantLong RX8 93 7 ∈ hn_tb := hn_in (by decide +kernel) rfl
theorem kd_X8_95 : Cond.constantLong RX8 95 (-1) ∈ hn_tb := hn_in (by decide +kernel) rfl
theorem kd_X8_129 : Cond.constantLong RX8 129 9999 ∈ hn_tb := hn_in (by decide +kernel) rfl
theorem kd_X8_131 : Cond.constantLong RX8 131 255 ∈ hn_tb := hn_in (by decide +kernel) rfl
theorem kd_X8_139 : Cond.constantLong RX8 139 40 ∈ hn_tb := hn_in (by decide +kernel) rfl
theorem kd_X8_147 : Cond.constantLong RX8 147 2 ∈ hn_tb := hn_in (by decide +kernel) rfl
theorem kd_X8_153 : Cond.constant RX8 153 (-100000) ∈ hn_tb := hn_in (by decide +kernel) rfl
theorem kd_X8_157 : Cond.constant RX8 157 (-100002) ∈ hn_tb := hn_in (by decide +kernel) rfl
theorem kd_X8_158 : Cond.constant RX8 158 (-1000000) ∈ hn_tb := hn_in (by decide +kernel) rfl
theorem kd_X8_159 : Cond.constant RX8 159 (-1000002) ∈ hn_tb := hn_in (by decide +kernel) rfl
theorem kd_X8_163 : Cond.constantLong RX8 163 8 ∈ hn_tb := hn_in (by decide +kernel) rfl
theorem kd_X8_171 : Cond.constantLong RX8 171 48 ∈ hn_tb := hn_in (by decide +kernel) rfl
theorem kd_X8_173 : Cond.constantLong RX8 173 57 ∈ hn_tb := hn_in (by decide +kernel) rfl
theorem kd_X8_175 : Cond.constantLong RX8 175 3 ∈ hn_tb := hn_in (by decide +kernel) rfl
theorem kd_X8_180 : Cond.constantLong RX8 180 100 ∈ hn_tb := hn_in (by decide +kernel) rfl
theorem kd_X8_196 : Cond.constantLong RX8 196 4 ∈ hn_tb := hn_in (by decide +kernel) rfl
theorem kd_X8_217 : Cond.constantLong RX8 217 15 ∈ hn_tb := hn_in (by decide +kernel) rfl
theorem kd_X8_219 : Cond.constantLong RX8 219 10 ∈ hn_tb := hn_in (by decide +kernel) rfl
theorem kd_X8_224 : Cond.constantLong RX8 224 (-1000) ∈ hn_tb := hn_in (by decide +kernel) rfl
theorem kd_X8_226 : Cond.constantLong RX8 226 1000 ∈ hn_tb := hn_in (by decide +kernel) rfl
theorem kd_X8_228 : Cond.constantLong RX8 228 6 ∈ hn_tb := hn_in (by decide +kernel) rfl
theorem kd_X8_230 : Cond.constant RX8 230 100000 ∈ hn_tb := hn_in (by decide +kernel) rfl
theorem lk_X0_42 : Cond.methodLink RX0 42 yX0_readItem ∈ hn_tb := hn_in (by decide +kernel) rfl
theorem lk_X0_46 : Cond.methodLink RX0 46 yX4_byteAt ∈ hn_tb := hn_in (by decide +kernel) rfl
theorem lk_X0_50 : Cond.methodLink RX0 50 yX0_kindOf ∈ hn_tb := hn_in (by decide +kernel) rfl
theorem lk_X0_53 : Cond.methodLink RX0 53 yX0_readParts ∈ hn_tb := hn_in (by decide +kernel) rfl
theorem lk_X0_71 : Cond.methodLink RX0 71 yX0_readNumber ∈ hn_tb := hn_in (by decide +kernel) rfl
theorem lk_X0_75 : Cond.methodLink RX0 75 yX0_isFigure ∈ hn_tb := hn_in (by decide +kernel) rfl
theorem lk_X0_79 : Cond.methodLink RX0 79 yX0_holding ∈ hn_tb := hn_in (by decide +kernel) rfl
theorem lk_X0_86 : Cond.methodLink RX0 86 yX0_disagree ∈ hn_tb := hn_in (by decide +kernel) rfl
theorem lk_X1_70 : (RX1, 70, yX7_with) ∈ hn_nest := by decide +kernel
theorem lk_X1_74 : (RX1, 74, yX7_isIn) ∈ hn_nest := by decide +kernel
theorem lk_X1_78 : Cond.methodLink RX1 78 yJ6_bitCount_0f7a4 ∈ hn_tb := hn_in (by decide +kernel) rfl
theorem lk_X2_28 : Cond.methodLink RX2 28 yX2_reckon ∈ hn_tb := hn_in (by decide +kernel) rfl
theorem lk_X2_32 : Cond.methodLink RX2 32 yX2_layPosts ∈ hn_tb := hn_in (by decide +kernel) rfl
theorem lk_X2_35 : Cond.methodLink RX2 35 yX2_goThrough ∈ hn_tb := hn_in (by decide +kernel) rfl
theorem lk_X3_25 : Cond.methodLink RX3 25 yX3_layFloors ∈ hn_tb := hn_in (by decide +kernel) rfl
theorem lk_X3_29 : Cond.methodLink RX3 29 yX3_rises ∈ hn_tb := hn_in (by decide +kernel) rfl
theorem lk_X3_33 : Cond.methodLink RX3 33 yX3_layCeilings ∈ hn_tb := hn_in (by decide +kernel) rfl
theorem lk_X3_37 : Cond.methodLink RX3 37 yX3_sink ∈ hn_tb := hn_in (by decide +kernel) rfl
theorem lk_X3_65 : Cond.methodLink RX3 65 yX1_hasHappened ∈ hn_tb := hn_in (by decide +kernel) rfl
theorem lk_X3_78 : Cond.methodLink RX3 78 yX2_days ∈ hn_tb := hn_in (by decide +kernel) rfl
theorem lk_X3_83 : Cond.methodLink RX3 83 yX3_ceiling ∈ hn_tb := hn_in (by decide +kernel) rfl
theorem lk_X3_87 : Cond.methodLink RX3 87 yX3_raise ∈ hn_tb := hn_in (by decide +kernel) rfl
theorem lk_X3_91 : Cond.methodLink RX3 91 yX3_staysBelow ∈ hn_tb := hn_in (by decide +kernel) rfl
theorem lk_X3_101 : Cond.methodLink RX3 101 yX3_gap ∈ hn_tb := hn_in (by decide +kernel) rfl
theorem lk_X5_27 : Cond.methodLink RX5 27 yX1_isSeen ∈ hn_tb := hn_in (by decide +kernel) rfl
theorem lk_X5_31 : Cond.methodLink RX5 31 yX5_nearest ∈ hn_tb := hn_in (by decide +kernel) rfl
theorem lk_X5_35 : Cond.methodLink RX5 35 yX5_climb ∈ hn_tb := hn_in (by decide +kernel) rfl
theorem lk_X5_39 : Cond.methodLink RX5 39 yX5_couldCopy ∈ hn_tb := hn_in (by decide +kernel) rfl
theorem lk_X5_43 : Cond.methodLink RX5 43 yX1_unlikeness ∈ hn_tb := hn_in (by decide +kernel) rfl
theorem lk_X5_53 : Cond.methodLink RX5 53 yX1_isDenied ∈ hn_tb := hn_in (by decide +kernel) rfl
theorem lk_X5_59 : Cond.methodLink RX5 59 yX2_leads ∈ hn_tb := hn_in (by decide +kernel) rfl
theorem lk_X5_73 : Cond.methodLink RX5 73 yX2_days ∈ hn_tb := hn_in (by decide +kernel) rfl
theorem lk_X6_15 : Cond.methodLink RX6 15 yX6_leastOf ∈ hn_tb := hn_in (by decide +kernel) rfl
theorem lk_X6_19 : (RX6, 19, yX7_isIn) ∈ hn_nest := by decide +kernel
theorem lk_X6_28 : Cond.methodLink RX6 28 yX6_regretOf ∈ hn_tb := hn_in (by decide +kernel) rfl
theorem lk_X6_32 : Cond.methodLink RX6 32 yX6_bestOf ∈ hn_tb := hn_in (by decide +kernel) rfl
theorem lk_X7_79 : Cond.methodLink RX7 79 yX7_isTown ∈ hn_tb := hn_in (by decide +kernel) rfl
theorem lk_X7_86 : Cond.methodLink RX7 86 yX2_tell ∈ hn_tb := hn_in (by decide +kernel) rfl
theorem lk_X7_90 : Cond.methodLink RX7 90 yX2_leads ∈ hn_tb := hn_in (by decide +kernel) rfl
theorem lk_X7_94 : Cond.methodLink RX7 94 yX2_days ∈ hn_tb := hn_in (by decide +kernel) rfl
theorem lk_X7_98 : Cond.methodLink RX7 98 yX2_slowestDays ∈ hn_tb := hn_in (by decide +kernel) rfl
theorem lk_X7_101 : Cond.methodLink RX7 101 yX7_isWriter ∈ hn_tb := hn_in (by decide +kernel) rfl
theorem lk_X7_104 : Cond.methodLink RX7 104 yX7_isDayOrNone ∈ hn_tb := hn_in (by decide +kernel) rfl
theorem lk_X7_107 : Cond.methodLink RX7 107 yX1_addSheet ∈ hn_tb := hn_in (by decide +kernel) rfl
theorem lk_X7_111 : Cond.methodLink RX7 111 yX7_isSheet ∈ hn_tb := hn_in (by decide +kernel) rfl
theorem lk_X7_124 : Cond.methodLink RX7 124 yX1_addPair ∈ hn_tb := hn_in (by decide +kernel) rfl
theorem lk_X7_127 : Cond.methodLink RX7 127 yX7_isThing ∈ hn_tb := hn_in (by decide +kernel) rfl
theorem lk_X7_130 : Cond.methodLink RX7 130 yX7_isDay ∈ hn_tb := hn_in (by decide +kernel) rfl
theorem lk_X7_133 : Cond.methodLink RX7 133 yX1_hasHappened ∈ hn_tb := hn_in (by decide +kernel) rfl
theorem lk_X7_136 : Cond.methodLink RX7 136 yX7_reachesAllThatSay ∈ hn_tb := hn_in (by decide +kernel) rfl
theorem lk_X7_145 : Cond.methodLink RX7 145 yX7_isQuarrel ∈ hn_tb := hn_in (by decide +kernel) rfl
theorem lk_X7_155 : Cond.methodLink RX7 155 yX3_canBeNoEarlier ∈ hn_tb := hn_in (by decide +kernel) rfl
theorem lk_X7_162 : Cond.methodLink RX7 162 yX1_addSaying ∈ hn_tb := hn_in (by decide +kernel) rfl
theorem lk_X7_166 : Cond.methodLink RX7 166 yX1_mark ∈ hn_tb := hn_in (by decide +kernel) rfl
theorem lk_X7_170 : Cond.methodLink RX7 170 yX7_isSaying ∈ hn_tb := hn_in (by decide +kernel) rfl
theorem lk_X7_176 : Cond.methodLink RX7 176 yX1_unlikeness ∈ hn_tb := hn_in (by decide +kernel) rfl
theorem lk_X7_179 : Cond.methodLink RX7 179 yX5_isVoice ∈ hn_tb := hn_in (by decide +kernel) rfl
theorem lk_X7_188 : Cond.methodLink RX7 188 yX7_followers ∈ hn_tb := hn_in (by decide +kernel) rfl
theorem lk_X7_195 : Cond.methodLink RX7 195 yX1_isDenied ∈ hn_tb := hn_in (by decide +kernel) rfl
theorem lk_X7_200 : Cond.methodLink RX7 200 yX7_growth ∈ hn_tb := hn_in (by decide +kernel) rfl
theorem lk_X7_205 : Cond.methodLink RX7 205 yX1_writerOf ∈ hn_tb := hn_in (by decide +kernel) rfl
theorem lk_X7_211 : Cond.methodLink RX7 211 yX4_append ∈ hn_tb := hn_in (by decide +kernel) rfl
theorem lk_X7_215 : Cond.methodLink RX7 215 yX0_read ∈ hn_tb := hn_in (by decide +kernel) rfl
theorem lk_X7_222 : Cond.methodLink RX7 222 yX7_isRule ∈ hn_tb := hn_in (by decide +kernel) rfl
theorem lk_X7_225 : Cond.methodLink RX7 225 yX0_amountOn ∈ hn_tb := hn_in (by decide +kernel) rfl
theorem lk_X7_228 : Cond.methodLink RX7 228 yX0_holding ∈ hn_tb := hn_in (by decide +kernel) rfl
theorem lk_X7_231 : Cond.methodLink RX7 231 yX0_firstQuarrel ∈ hn_tb := hn_in (by decide +kernel) rfl
theorem lk_X7_235 : Cond.methodLink RX7 235 yX7_arrival ∈ hn_tb := hn_in (by decide +kernel) rfl
theorem lk_X7_238 : Cond.methodLink RX7 238 yX7_weightOf ∈ hn_tb := hn_in (by decide +kernel) rfl
theorem lk_X7_241 : Cond.methodLink RX7 241 yX7_isForbidden ∈ hn_tb := hn_in (by decide +kernel) rfl
theorem lk_X7_247 : Cond.methodLink RX7 247 yX7_isTried ∈ hn_tb := hn_in (by decide +kernel) rfl
theorem lk_X7_250 : Cond.methodLink RX7 250 yX7_outcome ∈ hn_tb := hn_in (by decide +kernel) rfl
theorem lk_X7_255 : Cond.methodLink RX7 255 yX7_choices ∈ hn_tb := hn_in (by decide +kernel) rfl
theorem lk_X7_259 : Cond.methodLink RX7 259 yX7_power ∈ hn_tb := hn_in (by decide +kernel) rfl
theorem lk_X7_262 : Cond.methodLink RX7 262 yX7_firstKnown ∈ hn_tb := hn_in (by decide +kernel) rfl
theorem lk_X7_265 : Cond.methodLink RX7 265 yX7_lagBehind ∈ hn_tb := hn_in (by decide +kernel) rfl
theorem lk_X7_268 : Cond.methodLink RX7 268 yX6_put ∈ hn_tb := hn_in (by decide +kernel) rfl
theorem lk_X7_271 : Cond.methodLink RX7 271 yX6_safest ∈ hn_tb := hn_in (by decide +kernel) rfl
theorem lk_X7_274 : Cond.methodLink RX7 274 yX6_leastOf ∈ hn_tb := hn_in (by decide +kernel) rfl
theorem lk_X7_277 : Cond.methodLink RX7 277 yX6_calmest ∈ hn_tb := hn_in (by decide +kernel) rfl
theorem lk_X7_280 : Cond.methodLink RX7 280 yX6_regretOf ∈ hn_tb := hn_in (by decide +kernel) rfl
theorem lk_X7_283 : Cond.methodLink RX7 283 yX1_copyFrom ∈ hn_tb := hn_in (by decide +kernel) rfl
theorem lk_X7_287 : Cond.methodLink RX7 287 yX7_toldIn ∈ hn_tb := hn_in (by decide +kernel) rfl
theorem lk_X7_294 : Cond.methodLink RX7 294 yX3_reckon ∈ hn_tb := hn_in (by decide +kernel) rfl
theorem lk_X7_301 : Cond.methodLink RX7 301 yX5_grow ∈ hn_tb := hn_in (by decide +kernel) rfl
theorem lk_X7_305 : Cond.methodLink RX7 305 yX1_townOf ∈ hn_tb := hn_in (by decide +kernel) rfl
theorem lk_X7_314 : Cond.methodLink RX7 314 yX7_voicesHeard ∈ hn_tb := hn_in (by decide +kernel) rfl
theorem lk_X7_317 : Cond.methodLink RX7 317 yX7_isIn ∈ hn_tb := hn_in (by decide +kernel) rfl
theorem lk_X7_320 : Cond.methodLink RX7 320 yX7_weightOfVoice ∈ hn_tb := hn_in (by decide +kernel) rfl
theorem lk_X7_323 : Cond.methodLink RX7 323 yX0_forbids ∈ hn_tb := hn_in (by decide +kernel) rfl
theorem lk_X8_74 : Cond.methodLink RX8 74 yX8_layWays ∈ hn_tb := hn_in (by decide +kernel) rfl
theorem lk_X8_79 : Cond.methodLink RX8 79 yX8_in ∈ hn_tb := hn_in (by decide +kernel) rfl
theorem lk_X8_87 : Cond.methodLink RX8 87 yX8_isTown ∈ hn_tb := hn_in (by decide +kernel) rfl
theorem lk_X8_97 : Cond.methodLink RX8 97 yX8_isSheet ∈ hn_tb := hn_in (by decide +kernel) rfl
theorem lk_X8_100 : Cond.methodLink RX8 100 yX8_wayOf ∈ hn_tb := hn_in (by decide +kernel) rfl
theorem lk_X8_104 : Cond.methodLink RX8 104 yX8_isThing ∈ hn_tb := hn_in (by decide +kernel) rfl
theorem lk_X8_107 : Cond.methodLink RX8 107 yX8_isDay ∈ hn_tb := hn_in (by decide +kernel) rfl
theorem lk_X8_114 : Cond.methodLink RX8 114 yX8_isLet ∈ hn_tb := hn_in (by decide +kernel) rfl
theorem lk_X8_118 : Cond.methodLink RX8 118 yX8_push ∈ hn_tb := hn_in (by decide +kernel) rfl
theorem lk_X8_122 : Cond.methodLink RX8 122 yX8_layDays ∈ hn_tb := hn_in (by decide +kernel) rfl
theorem lk_X8_126 : Cond.methodLink RX8 126 yX8_areDays ∈ hn_tb := hn_in (by decide +kernel) rfl
theorem lk_X8_133 : Cond.methodLink RX8 133 yX8_isSaying ∈ hn_tb := hn_in (by decide +kernel) rfl
theorem lk_X8_136 : Cond.methodLink RX8 136 yX8_changeOf ∈ hn_tb := hn_in (by decide +kernel) rfl
theorem lk_X8_141 : Cond.methodLink RX8 141 yX8_couldCopy ∈ hn_tb := hn_in (by decide +kernel) rfl
theorem lk_X8_144 : Cond.methodLink RX8 144 yX8_layTree ∈ hn_tb := hn_in (by decide +kernel) rfl
theorem lk_X8_149 : Cond.methodLink RX8 149 yX8_rootOf ∈ hn_tb := hn_in (by decide +kernel) rfl
theorem lk_X8_154 : Cond.methodLink RX8 154 yX8_grewOf ∈ hn_tb := hn_in (by decide +kernel) rfl
theorem lk_X8_160 : Cond.methodLink RX8 160 yX8_writerOf ∈ hn_tb := hn_in (by decide +kernel) rfl
theorem lk_X8_177 : Cond.methodLink RX8 177 yX8_numbers ∈ hn_tb := hn_in (by decide +kernel) rfl
theorem lk_X8_182 : Cond.methodLink RX8 182 yX8_item ∈ hn_tb := hn_in (by decide +kernel) rfl
theorem lk_X8_185 : Cond.methodLink RX8 185 yX8_readAll ∈ hn_tb := hn_in (by decide +kernel) rfl
theorem lk_X8_189 : Cond.methodLink RX8 189 yX8_letterOf ∈ hn_tb := hn_in (by decide +kernel) rfl
theorem lk_X8_192 : Cond.methodLink RX8 192 yX8_whyOf ∈ hn_tb := hn_in (by decide +kernel) rfl
theorem lk_X8_198 : Cond.methodLink RX8 198 yX8_isAsked ∈ hn_tb := hn_in (by decide +kernel) rfl
theorem lk_X8_202 : Cond.methodLink RX8 202 yX8_ruleOf ∈ hn_tb := hn_in (by decide +kernel) rfl
theorem lk_X8_208 : Cond.methodLink RX8 208 yX8_cameOf ∈ hn_tb := hn_in (by decide +kernel) rfl
theorem lk_X8_211 : Cond.methodLink RX8 211 yX8_isHeard ∈ hn_tb := hn_in (by decide +kernel) rfl
theorem lk_X8_214 : Cond.methodLink RX8 214 yX8_isBanned ∈ hn_tb := hn_in (by decide +kernel) rfl
theorem lk_X8_221 : Cond.methodLink RX8 221 yX8_knownIn ∈ hn_tb := hn_in (by decide +kernel) rfl
theorem lk_X8_234 : Cond.methodLink RX8 234 yX8_copy ∈ hn_tb := hn_in (by decide +kernel) rfl
theorem lm_X3_50 : Cond.methodLink RX3 50 Lib.Math.max.name ∈ hn_tb := hn_in (by decide +kernel) rfl
theorem lm_X3_108 : Cond.methodLink RX3 108 Lib.Math.min.name ∈ hn_tb := hn_in (by decide +kernel) rfl
theorem lm_X6_23 : Cond.methodLink RX6 23 Lib.Math.min.name ∈ hn_tb := hn_in (by decide +kernel) rfl
theorem lm_X6_35 : Cond.methodLink RX6 35 Lib.Math.max.name ∈ hn_tb := hn_in (by decide +kernel) rfl
theorem lm_X7_327 : Cond.methodLink RX7 327 Lib.Math.abs.name ∈ hn_tb := hn_in (by decide +kernel) rfl
theorem lc_X1_84 : Cond.methodLink RX1 84 arraycopyName ∈ hn_tb := hn_in (by decide +kernel) rfl
theorem ms_X7_arrival : hn_ms yX7_arrival cX7_arrival 3 (some .int) 1 := ⟨hn_in (by decide +kernel) rfl, hn_in (by decide +kernel) rfl, by decide +kernel, by decide⟩
theorem mv_X7_arrival : hn_mv yX7_arrival := ⟨hn_in (by decide +kernel) rfl, hn_in (by decide +kernel) rfl⟩
theorem ms_X7_choices : hn_ms yX7_choices cX7_choices 5 (some .long) 2 := ⟨hn_in (by decide +kernel) rfl, hn_in (by decide +kernel) rfl, by decide +kernel, by decide⟩
theorem mt_X7_choices : Cond.static yX7_choices ∈ hn_tb := hn_in (by decide +kernel) rfl
theorem ms_X7_firstKnown : hn_ms yX7_firstKnown cX7_firstKnown 4 (some .int) 2 := ⟨hn_in (by decide +kernel) rfl, hn_in (by decide +kernel) rfl, by decide +kernel, by decide⟩
theorem mv_X7_firstKnown : hn_mv yX7_firstKnown := ⟨hn_in (by decide +kernel) rfl, hn_in (by decide +kernel) rfl⟩
theorem ms_X7_followers : hn_ms yX7_followers cX7_followers 4 (some .int) 1 := ⟨hn_in (by decide +kernel) rfl, hn_in (by decide +kernel) rfl, by decide +kernel, by decide⟩
theorem mv_X7_followers : hn_mv yX7_followers := ⟨hn_in (by decide +kernel) rfl, hn_in (by decide +kernel) rfl⟩
theorem ms_X7_growth : hn_ms yX7_growth cX7_growth 2 (some .int) 1 := ⟨hn_in (by decide +kernel) rfl, hn_in (by decide +kernel) rfl, by decide +kernel, by decide⟩
theorem mv_X7_growth : hn_mv yX7_growth := ⟨hn_in (by decide +kernel) rfl, hn_in (by decide +kernel) rfl⟩
theorem ms_X7_isDay : hn_ms yX7_isDay cX7_isDay 1 (some .boolean) 1 := ⟨hn_in (by decide +kernel) rfl, hn_in (by decide +kernel) rfl, by decide +kernel, by decide⟩
theorem mt_X7_isDay : Cond.static yX7_isDay ∈ hn_tb := hn_in (by decide +kernel) rfl
theorem ms_X7_isDayOrNone : hn_ms yX7_isDayOrNone cX7_isDayOrNone 1 (some .boolean) 1 := ⟨hn_in (by decide +kernel) rfl, hn_in (by decide +kernel) rfl, by decide +kernel, by decide⟩
theorem mt_X7_isDayOrNone : Cond.static yX7_isDayOrNone ∈ hn_tb := hn_in (by decide +kernel) rfl
theorem ms_X7_isForbidden : hn_ms yX7_isForbidden cX7_isForbidden 3 (some .boolean) 1 := ⟨hn_in (by decide +kernel) rfl, hn_in (by decide +kernel) rfl, by decide +kernel, by decide⟩
theorem mv_X7_isForbidden : hn_mv yX7_isForbidden := ⟨hn_in (by decide +kernel) rfl, hn_in (by decide +kernel) rfl⟩
theorem ms_X7_isIn : hn_ms yX7_isIn cX7_isIn 2 (some .boolean) 2 := ⟨hn_in (by decide +kernel) rfl, hn_in (by decide +kernel) rfl, by decide +kernel, by decide⟩
theorem mt_X7_isIn : Cond.static yX7_isIn ∈ hn_tb := hn_in (by decide +kernel) rfl
theorem ms_X7_isQuarrel : hn_ms yX7_isQuarrel cX7_isQuarrel 1 (some .boolean) 0 := ⟨hn_in (by decide +kernel) rfl, hn_in (by decide +kernel) rfl, by decide +kernel, by decide⟩
theorem mv_X7_isQuarrel : hn_mv yX7_isQuarrel := ⟨hn_in (by decide +kernel) rfl, hn_in (by decide +kernel) rfl⟩
theorem ms_X7_isRule : hn_ms yX7_isRule cX7_isRule 2 (some .boolean) 2 := ⟨hn_in (by decide +kernel) rfl, hn_in (by decide +kernel) rfl, by decide +kernel, by decide⟩
theorem mt_X7_isRule : Cond.static yX7_isRule ∈ hn_tb := hn_in (by decide +kernel) rfl
theorem ms_X7_isSaying : hn_ms yX7_isSaying cX7_isSaying 2 (some .boolean) 1 := ⟨hn_in (by decide +kernel) rfl, hn_in (by decide +kernel) rfl, by decide +kernel, by decide⟩
theorem mv_X7_isSaying : hn_mv yX7_isSaying := ⟨hn_in (by decide +kernel) rfl, hn_in (by decide +kernel) rfl⟩
theorem ms_X7_isSheet : hn_ms yX7_isSheet cX7_isSheet 2 (some .boolean) 1 := ⟨hn_in (by decide +kernel) rfl, hn_in (by decide +kernel) rfl, by decide +kernel, by decide⟩
theorem mv_X7_isSheet : hn_mv yX7_isSheet := ⟨hn_in (by decide +kernel) rfl, hn_in (by decide +kernel) rfl⟩
theorem ms_X7_isThing : hn_ms yX7_isThing cX7_isThing 1 (some .boolean) 1 := ⟨hn_in (by decide +kernel) rfl, hn_in (by decide +kernel) rfl, by decide +kernel, by decide⟩
theorem mt_X7_isThing : Cond.static yX7_isThing ∈ hn_tb := hn_in (by decide +kernel) rfl
theorem ms_X7_isTown : hn_ms yX7_isTown cX7_isTown 1 (some .boolean) 1 := ⟨hn_in (by decide +kernel) rfl, hn_in (by decide +kernel) rfl, by decide +kernel, by decide⟩
theorem mt_X7_isTown : Cond.static yX7_isTown ∈ hn_tb := hn_in (by decide +kernel) rfl
theorem ms_X7_isTried : hn_ms yX7_isTried cX7_isTried 2 (some .boolean) 1 := ⟨hn_in (by decide +kernel) rfl, hn_in (by decide +kernel) rfl, by decide +kernel, by decide⟩
theorem mv_X7_isTried : hn_mv yX7_isTried := ⟨hn_in (by decide +kernel) rfl, hn_in (by decide +kernel) rfl⟩
theorem ms_X7_isWriter : hn_ms yX7_isWriter cX7_isWriter 1 (some .boolean) 1 := ⟨hn_in (by decide +kernel) rfl, hn_in (by decide +kernel) rfl, by decide +kernel, by decide⟩
theorem mt_X7_isWriter : Cond.static yX7_isWriter ∈ hn_tb := hn_in (by decide +kernel) rfl
theorem ms_X7_lagBehind : hn_ms yX7_lagBehind cX7_lagBehind 6 (some .int) 2 := ⟨hn_in (by decide +kernel) rfl, hn_in (by decide +kernel) rfl, by decide +kernel, by decide⟩
theorem mv_X7_lagBehind : hn_mv yX7_lagBehind := ⟨hn_in (by decide +kernel) rfl, hn_in (by decide +kernel) rfl⟩
theorem ms_X7_outcome : hn_ms yX7_outcome cX7_outcome 4 (some .int) 2 := ⟨hn_in (by decide +kernel) rfl, hn_in (by decide +kernel) rfl, by decide +kernel, by decide⟩
theorem mv_X7_outcome : hn_mv yX7_outcome := ⟨hn_in (by decide +kernel) rfl, hn_in (by decide +kernel) rfl⟩
theorem ms_X7_power : hn_ms yX7_power cX7_power 5 (some .long) 2 := ⟨hn_in (by decide +kernel) rfl, hn_in (by decide +kernel) rfl, by decide +kernel, by decide⟩
theorem mt_X7_power : Cond.static yX7_power ∈ hn_tb := hn_in (by decide +kernel) rfl
theorem ms_X7_reachesAllThatSay : hn_ms yX7_reachesAllThatSay cX7_reachesAllThatSay 4 (some .boolean) 2 := ⟨hn_in (by decide +kernel) rfl, hn_in (by decide +kernel) rfl, by decide +kernel, by decide⟩
theorem mv_X7_reachesAllThatSay : hn_mv yX7_reachesAllThatSay := ⟨hn_in (by decide +kernel) rfl, hn_in (by decide +kernel) rfl⟩
theorem ms_X7_toldIn : hn_ms yX7_toldIn cX7_toldIn 6 (some .int) 1 := ⟨hn_in (by decide +kernel) rfl, hn_in (by decide +kernel) rfl, by decide +kernel, by decide⟩
theorem mt_X7_toldIn : Cond.static yX7_toldIn ∈ hn_tb := hn_in (by decide +kernel) rfl
theorem ms_X7_voicesHeard : hn_ms yX7_voicesHeard cX7_voicesHeard 8 (some .int) 2 := ⟨hn_in (by decide +kernel) rfl, hn_in (by decide +kernel) rfl, by decide +kernel, by decide⟩
theorem mv_X7_voicesHeard : hn_mv yX7_voicesHeard := ⟨hn_in (by decide +kernel) rfl, hn_in (by decide +kernel) rfl⟩
theorem ms_X7_weightOf : hn_ms yX7_weightOf cX7_weightOf 6 (some .int) 2 := ⟨hn_in (by decide +kernel) rfl, hn_in (by decide +kernel) rfl, by decide +kernel, by decide⟩
theorem mv_X7_weightOf : hn_mv yX7_weightOf := ⟨hn_in (by decide +kernel) rfl, hn_in (by decide +kernel) rfl⟩
theorem ms_X7_weightOfVoice : hn_ms yX7_weightOfVoice cX7_weightOfVoice 4 (some .int) 2 := ⟨hn_in (by decide +kernel) rfl, hn_in (by decide +kernel) rfl, by decide +kernel, by decide⟩
theorem mv_X7_weightOfVoice : hn_mv yX7_weightOfVoice := ⟨hn_in (by decide +kernel) rfl, hn_in (by decide +kernel) rfl⟩
theorem ms_X7_with : hn_ms yX7_with cX7_with 3 (some .int) 3 := ⟨hn_in (by decide +kernel) rfl, hn_in (by decide +kernel) rfl, by decide +kernel, by decide⟩
theorem mt_X7_with : Cond.static yX7_with ∈ hn_tb := hn_in (by decide +kernel) rfl
theorem ms_X0_amountOn : hn_ms yX0_amountOn cX0_amountOn 5 (some .int) 3 := ⟨hn_in (by decide +kernel) rfl, hn_in (by decide +kernel) rfl, by decide +kernel, by decide⟩
theorem mv_X0_amountOn : hn_mv yX0_amountOn := ⟨hn_in (by decide +kernel) rfl, hn_in (by decide +kernel) rfl⟩
theorem ms_X0_disagree : hn_ms yX0_disagree cX0_disagree 3 (some .boolean) 2 := ⟨hn_in (by decide +kernel) rfl, hn_in (by decide +kernel) rfl, by decide +kernel, by decide⟩
theorem mv_X0_disagree : hn_mv yX0_disagree := ⟨hn_in (by decide +kernel) rfl, hn_in (by decide +kernel) rfl⟩
theorem ms_X0_firstQuarrel : hn_ms yX0_firstQuarrel cX0_firstQuarrel 3 (some .int) 0 := ⟨hn_in (by decide +kernel) rfl, hn_in (by decide +kernel) rfl, by decide +kernel, by decide⟩
theorem mv_X0_firstQuarrel : hn_mv yX0_firstQuarrel := ⟨hn_in (by decide +kernel) rfl, hn_in (by decide +kernel) rfl⟩
theorem ms_X0_forbids : hn_ms yX0_forbids cX0_forbids 6 (some .boolean) 4 := ⟨hn_in (by decide +kernel) rfl, hn_in (by decide +kernel) rfl, by decide +kernel, by decide⟩
theorem mv_X0_forbids : hn_mv yX0_forbids := ⟨hn_in (by decide +kernel) rfl, hn_in (by decide +kernel) rfl⟩
theorem ms_X0_holding : hn_ms yX0_holding cX0_holding 6 (some .int) 3 := ⟨hn_in (by decide +kernel) rfl, hn_in (by decide +kernel) rfl, by decide +kernel, by decide⟩
theorem mv_X0_holding : hn_mv yX0_holding := ⟨hn_in (by decide +kernel) rfl, hn_in (by decide +kernel) rfl⟩
theorem ms_X0_isFigure : hn_ms yX0_isFigure cX0_isFigure 1 (some .boolean) 1 := ⟨hn_in (by decide +kernel) rfl, hn_in (by decide +kernel) rfl, by decide +kernel, by decide⟩
theorem mt_X0_isFigure : Cond.static yX0_isFigure ∈ hn_tb := hn_in (by decide +kernel) rfl
theorem ms_X0_kindOf : hn_ms yX0_kindOf cX0_kindOf 2 (some .int) 1 := ⟨hn_in (by decide +kernel) rfl, hn_in (by decide +kernel) rfl, by decide +kernel, by decide⟩
theorem mt_X0_kindOf : Cond.static yX0_kindOf ∈ hn_tb := hn_in (by decide +kernel) rfl
theorem ms_X0_read : hn_ms yX0_read cX0_read 3 (some .int) 1 := ⟨hn_in (by decide +kernel) rfl, hn_in (by decide +kernel) rfl, by decide +kernel, by decide⟩
theorem mv_X0_read : hn_mv yX0_read := ⟨hn_in (by decide +kernel) rfl, hn_in (by decide +kernel) rfl⟩
theorem ms_X0_readItem : hn_ms yX0_readItem cX0_readItem 3 (some .boolean) 1 := ⟨hn_in (by decide +kernel) rfl, hn_in (by decide +kernel) rfl, by decide +kernel, by decide⟩
theorem mv_X0_readItem : hn_mv yX0_readItem := ⟨hn_in (by decide +kernel) rfl, hn_in (by decide +kernel) rfl⟩
theorem ms_X0_readNumber : hn_ms yX0_readNumber cX0_readNumber 4 (some .int) 1 := ⟨hn_in (by decide +kernel) rfl, hn_in (by decide +kernel) rfl, by decide +kernel, by decide⟩
theorem mv_X0_readNumber : hn_mv yX0_readNumber := ⟨hn_in (by decide +kernel) rfl, hn_in (by decide +kernel) rfl⟩
theorem ms_X0_readParts : hn_ms yX0_readParts cX0_readParts 7 (some .boolean) 2 := ⟨hn_in (by decide +kernel) rfl, hn_in (by decide +kernel) rfl, by decide +kernel, by decide⟩
theorem mv_X0_readParts : hn_mv yX0_readParts := ⟨hn_in (by decide +kernel) rfl, hn_in (by decide +kernel) rfl⟩
theorem ms_X1_addPair : hn_ms yX1_addPair cX1_addPair 3 (some .int) 2 := ⟨hn_in (by decide +kernel) rfl, hn_in (by decide +kernel) rfl, by decide +kernel, by decide⟩
theorem mv_X1_addPair : hn_mv yX1_addPair := ⟨hn_in (by decide +kernel) rfl, hn_in (by decide +kernel) rfl⟩
theorem ms_X1_addSaying : hn_ms yX1_addSaying cX1_addSaying 6 (some .int) 4 := ⟨hn_in (by decide +kernel) rfl, hn_in (by decide +kernel) rfl, by decide +kernel, by decide⟩
theorem mv_X1_addSaying : hn_mv yX1_addSaying := ⟨hn_in (by decide +kernel) rfl, hn_in (by decide +kernel) rfl⟩
theorem ms_X1_addSheet : hn_ms yX1_addSheet cX1_addSheet 5 (some .int) 3 := ⟨hn_in (by decide +kernel) rfl, hn_in (by decide +kernel) rfl, by decide +kernel, by decide⟩
theorem mv_X1_addSheet : hn_mv yX1_addSheet := ⟨hn_in (by decide +kernel) rfl, hn_in (by decide +kernel) rfl⟩
theorem ms_X1_copyFrom : hn_ms yX1_copyFrom cX1_copyFrom 2 none 1 := ⟨hn_in (by decide +kernel) rfl, hn_in (by decide +kernel) rfl, by decide +kernel, by decide⟩
theorem mv_X1_copyFrom : hn_mv yX1_copyFrom := ⟨hn_in (by decide +kernel) rfl, hn_in (by decide +kernel) rfl⟩
theorem ms_X1_hasHappened : hn_ms yX1_hasHappened cX1_hasHappened 2 (some .boolean) 1 := ⟨hn_in (by decide +kernel) rfl, hn_in (by decide +kernel) rfl, by decide +kernel, by decide⟩
theorem mv_X1_hasHappened : hn_mv yX1_hasHappened := ⟨hn_in (by decide +kernel) rfl, hn_in (by decide +kernel) rfl⟩
theorem ms_X1_isDenied : hn_ms yX1_isDenied cX1_isDenied 2 (some .boolean) 1 := ⟨hn_in (by decide +kernel) rfl, hn_in (by decide +kernel) rfl, by decide +kernel, by decide⟩
theorem mv_X1_isDenied : hn_mv yX1_isDenied := ⟨hn_in (by decide +kernel) rfl, hn_in (by decide +kernel) rfl⟩
theorem ms_X1_isSeen : hn_ms yX1_isSeen cX1_isSeen 2 (some .boolean) 1 := ⟨hn_in (by decide +kernel) rfl, hn_in (by decide +kernel) rfl, by decide +kernel, by decide⟩
theorem mv_X1_isSeen : hn_mv yX1_isSeen := ⟨hn_in (by decide +kernel) rfl, hn_in (by decide +kernel) rfl⟩
theorem ms_X1_mark : hn_ms yX1_mark cX1_mark 4 none 3 := ⟨hn_in (by decide +kernel) rfl, hn_in (by decide +kernel) rfl, by decide +kernel, by decide⟩
theorem mv_X1_mark : hn_mv yX1_mark := ⟨hn_in (by decide +kernel) rfl, hn_in (by decide +kernel) rfl⟩
theorem ms_X1_townOf : hn_ms yX1_townOf cX1_townOf 2 (some .int) 1 := ⟨hn_in (by decide +kernel) rfl, hn_in (by decide +kernel) rfl, by decide +kernel, by decide⟩
theorem mv_X1_townOf : hn_mv yX1_townOf := ⟨hn_in (by decide +kernel) rfl, hn_in (by decide +kernel) rfl⟩
theorem ms_X1_unlikeness : hn_ms yX1_unlikeness cX1_unlikeness 7 (some .int) 2 := ⟨hn_in (by decide +kernel) rfl, hn_in (by decide +kernel) rfl, by decide +kernel, by decide⟩
theorem mv_X1_unlikeness : hn_mv yX1_unlikeness := ⟨hn_in (by decide +kernel) rfl, hn_in (by decide +kernel) rfl⟩
theorem ms_X1_writerOf : hn_ms yX1_writerOf cX1_writerOf 2 (some .int) 1 := ⟨hn_in (by decide +kernel) rfl, hn_in (by decide +kernel) rfl, by decide +kernel, by decide⟩
theorem mv_X1_writerOf : hn_mv yX1_writerOf := ⟨hn_in (by decide +kernel) rfl, hn_in (by decide +kernel) rfl⟩
theorem ms_X2_days : hn_ms yX2_days cX2_days 3 (some .int) 2 := ⟨hn_in (by decide +kernel) rfl, hn_in (by decide +kernel) rfl, by decide +kernel, by decide⟩
theorem mv_X2_days : hn_mv yX2_days := ⟨hn_in (by decide +kernel) rfl, hn_in (by decide +kernel) rfl⟩
theorem ms_X2_goThrough : hn_ms yX2_goThrough cX2_goThrough 9 none 3 := ⟨hn_in (by decide +kernel) rfl, hn_in (by decide +kernel) rfl, by decide +kernel, by decide⟩
theorem mv_X2_goThrough : hn_mv yX2_goThrough := ⟨hn_in (by decide +kernel) rfl, hn_in (by decide +kernel) rfl⟩
theorem ms_X2_layPosts : hn_ms yX2_layPosts cX2_layPosts 3 none 0 := ⟨hn_in (by decide +kernel) rfl, hn_in (by decide +kernel) rfl, by decide +kernel, by decide⟩
theorem mv_X2_layPosts : hn_mv yX2_layPosts := ⟨hn_in (by decide +kernel) rfl, hn_in (by decide +kernel) rfl⟩
theorem ms_X2_leads : hn_ms yX2_leads cX2_leads 3 (some .boolean) 2 := ⟨hn_in (by decide +kernel) rfl, hn_in (by decide +kernel) rfl, by decide +kernel, by decide⟩
theorem mv_X2_leads : hn_mv yX2_leads := ⟨hn_in (by decide +kernel) rfl, hn_in (by decide +kernel) rfl⟩
theorem ms_X2_reckon : hn_ms yX2_reckon cX2_reckon 4 none 0 := ⟨hn_in (by decide +kernel) rfl, hn_in (by decide +kernel) rfl, by decide +kernel, by decide⟩
theorem mv_X2_reckon : hn_mv yX2_reckon := ⟨hn_in (by decide +kernel) rfl, hn_in (by decide +kernel) rfl⟩
theorem ms_X2_slowestDays : hn_ms yX2_slowestDays cX2_slowestDays 3 (some .int) 2 := ⟨hn_in (by decide +kernel) rfl, hn_in (by decide +kernel) rfl, by decide +kernel, by decide⟩
theorem mv_X2_slowestDays : hn_mv yX2_slowestDays := ⟨hn_in (by decide +kernel) rfl, hn_in (by decide +kernel) rfl⟩
theorem ms_X2_tell : hn_ms yX2_tell cX2_tell 6 none 4 := ⟨hn_in (by decide +kernel) rfl, hn_in (by decide +kernel) rfl, by decide +kernel, by decide⟩
theorem mv_X2_tell : hn_mv yX2_tell := ⟨hn_in (by decide +kernel) rfl, hn_in (by decide +kernel) rfl⟩
theorem ms_X3_canBeNoEarlier : hn_ms yX3_canBeNoEarlier cX3_canBeNoEarlier 5 (some .boolean) 4 := ⟨hn_in (by decide +kernel) rfl, hn_in (by decide +kernel) rfl, by decide +kernel, by decide⟩
theorem mv_X3_canBeNoEarlier : hn_mv yX3_canBeNoEarlier := ⟨hn_in (by decide +kernel) rfl, hn_in (by decide +kernel) rfl⟩
theorem ms_X3_ceiling : hn_ms yX3_ceiling cX3_ceiling 2 (some .int) 2 := ⟨hn_in (by decide +kernel) rfl, hn_in (by decide +kernel) rfl, by decide +kernel, by decide⟩
theorem mt_X3_ceiling : Cond.static yX3_ceiling ∈ hn_tb := hn_in (by decide +kernel) rfl
theorem ms_X3_gap : hn_ms yX3_gap cX3_gap 3 (some .int) 3 := ⟨hn_in (by decide +kernel) rfl, hn_in (by decide +kernel) rfl, by decide +kernel, by decide⟩
theorem mt_X3_gap : Cond.static yX3_gap ∈ hn_tb := hn_in (by decide +kernel) rfl
theorem ms_X3_layCeilings : hn_ms yX3_layCeilings cX3_layCeilings 3 none 1 := ⟨hn_in (by decide +kernel) rfl, hn_in (by decide +kernel) rfl, by decide +kernel, by decide⟩
theorem mv_X3_layCeilings : hn_mv yX3_layCeilings := ⟨hn_in (by decide +kernel) rfl, hn_in (by decide +kernel) rfl⟩
theorem ms_X3_layFloors : hn_ms yX3_layFloors cX3_layFloors 8 none 3 := ⟨hn_in (by decide +kernel) rfl, hn_in (by decide +kernel) rfl, by decide +kernel, by decide⟩
theorem mv_X3_layFloors : hn_mv yX3_layFloors := ⟨hn_in (by decide +kernel) rfl, hn_in (by decide +kernel) rfl⟩
theorem ms_X3_raise : hn_ms yX3_raise cX3_raise 6 (some .boolean) 3 := ⟨hn_in (by decide +kernel) rfl, hn_in (by decide +kernel) rfl, by decide +kernel, by decide⟩
theorem mt_X3_raise : Cond.static yX3_raise ∈ hn_tb := hn_in (by decide +kernel) rfl
theorem ms_X3_reckon : hn_ms yX3_reckon cX3_reckon 3 none 2 := ⟨hn_in (by decide +kernel) rfl, hn_in (by decide +kernel) rfl, by decide +kernel, by decide⟩
theorem mv_X3_reckon : hn_mv yX3_reckon := ⟨hn_in (by decide +kernel) rfl, hn_in (by decide +kernel) rfl⟩
theorem ms_X3_rises : hn_ms yX3_rises cX3_rises 8 (some .boolean) 5 := ⟨hn_in (by decide +kernel) rfl, hn_in (by decide +kernel) rfl, by decide +kernel, by decide⟩
theorem mv_X3_rises : hn_mv yX3_rises := ⟨hn_in (by decide +kernel) rfl, hn_in (by decide +kernel) rfl⟩
theorem ms_X3_sink : hn_ms yX3_sink cX3_sink 7 none 2 := ⟨hn_in (by decide +kernel) rfl, hn_in (by decide +kernel) rfl, by decide +kernel, by decide⟩
theorem mv_X3_sink : hn_mv yX3_sink := ⟨hn_in (by decide +kernel) rfl, hn_in (by decide +kernel) rfl⟩
theorem ms_X3_staysBelow : hn_ms yX3_staysBelow cX3_staysBelow 3 (some .boolean) 2 := ⟨hn_in (by decide +kernel) rfl, hn_in (by decide +kernel) rfl, by decide +kernel, by decide⟩
theorem mt_X3_staysBelow : Cond.static yX3_staysBelow ∈ hn_tb := hn_in (by decide +kernel) rfl
theorem ms_X4_append : hn_ms yX4_append cX4_append 5 none 2 := ⟨hn_in (by decide +kernel) rfl, hn_in (by decide +kernel) rfl, by decide +kernel, by decide⟩
theorem mv_X4_append : hn_mv yX4_append := ⟨hn_in (by decide +kernel) rfl, hn_in (by decide +kernel) rfl⟩
theorem ms_X4_byteAt : hn_ms yX4_byteAt cX4_byteAt 2 (some .int) 1 := ⟨hn_in (by decide +kernel) rfl, hn_in (by decide +kernel) rfl, by decide +kernel, by decide⟩
theorem mv_X4_byteAt : hn_mv yX4_byteAt := ⟨hn_in (by decide +kernel) rfl, hn_in (by decide +kernel) rfl⟩
theorem ms_X5_climb : hn_ms yX5_climb cX5_climb 4 none 1 := ⟨hn_in (by decide +kernel) rfl, hn_in (by decide +kernel) rfl, by decide +kernel, by decide⟩
theorem mv_X5_climb : hn_mv yX5_climb := ⟨hn_in (by decide +kernel) rfl, hn_in (by decide +kernel) rfl⟩
theorem ms_X5_couldCopy : hn_ms yX5_couldCopy cX5_couldCopy 9 (some .boolean) 5 := ⟨hn_in (by decide +kernel) rfl, hn_in (by decide +kernel) rfl, by decide +kernel, by decide⟩
theorem mt_X5_couldCopy : Cond.static yX5_couldCopy ∈ hn_tb := hn_in (by decide +kernel) rfl
theorem ms_X5_grow : hn_ms yX5_grow cX5_grow 6 none 4 := ⟨hn_in (by decide +kernel) rfl, hn_in (by decide +kernel) rfl, by decide +kernel, by decide⟩
theorem mv_X5_grow : hn_mv yX5_grow := ⟨hn_in (by decide +kernel) rfl, hn_in (by decide +kernel) rfl⟩
theorem ms_X5_isVoice : hn_ms yX5_isVoice cX5_isVoice 2 (some .boolean) 1 := ⟨hn_in (by decide +kernel) rfl, hn_in (by decide +kernel) rfl, by decide +kernel, by decide⟩
theorem mv_X5_isVoice : hn_mv yX5_isVoice := ⟨hn_in (by decide +kernel) rfl, hn_in (by decide +kernel) rfl⟩
theorem ms_X5_nearest : hn_ms yX5_nearest cX5_nearest 9 (some .int) 5 := ⟨hn_in (by decide +kernel) rfl, hn_in (by decide +kernel) rfl, by decide +kernel, by decide⟩
theorem mt_X5_nearest : Cond.static yX5_nearest ∈ hn_tb := hn_in (by decide +kernel) rfl
theorem ms_X6_bestOf : hn_ms yX6_bestOf cX6_bestOf 5 (some .int) 2 := ⟨hn_in (by decide +kernel) rfl, hn_in (by decide +kernel) rfl, by decide +kernel, by decide⟩
theorem mv_X6_bestOf : hn_mv yX6_bestOf := ⟨hn_in (by decide +kernel) rfl, hn_in (by decide +kernel) rfl⟩
theorem ms_X6_calmest : hn_ms yX6_calmest cX6_calmest 5 (some .int) 2 := ⟨hn_in (by decide +kernel) rfl, hn_in (by decide +kernel) rfl, by decide +kernel, by decide⟩
theorem mv_X6_calmest : hn_mv yX6_calmest := ⟨hn_in (by decide +kernel) rfl, hn_in (by decide +kernel) rfl⟩
theorem ms_X6_leastOf : hn_ms yX6_leastOf cX6_leastOf 5 (some .int) 2 := ⟨hn_in (by decide +kernel) rfl, hn_in (by decide +kernel) rfl, by decide +kernel, by decide⟩
theorem mv_X6_leastOf : hn_mv yX6_leastOf := ⟨hn_in (by decide +kernel) rfl, hn_in (by decide +kernel) rfl⟩
theorem ms_X6_put : hn_ms yX6_put cX6_put 5 (some .int) 3 := ⟨hn_in (by decide +kernel) rfl, hn_in (by decide +kernel) rfl, by decide +kernel, by decide⟩
theorem mv_X6_put : hn_mv yX6_put := ⟨hn_in (by decide +kernel) rfl, hn_in (by decide +kernel) rfl⟩
theorem ms_X6_regretOf : hn_ms yX6_regretOf cX6_regretOf 7 (some .int) 3 := ⟨hn_in (by decide +kernel) rfl, hn_in (by decide +kernel) rfl, by decide +kernel, by decide⟩
theorem mv_X6_regretOf : hn_mv yX6_regretOf := ⟨hn_in (by decide +kernel) rfl, hn_in (by decide +kernel) rfl⟩
theorem ms_X6_safest : hn_ms yX6_safest cX6_safest 5 (some .int) 2 := ⟨hn_in (by decide +kernel) rfl, hn_in (by decide +kernel) rfl, by decide +kernel, by decide⟩
theorem mv_X6_safest : hn_mv yX6_safest := ⟨hn_in (by decide +kernel) rfl, hn_in (by decide +kernel) rfl⟩
theorem ms_X8_areDays : hn_ms yX8_areDays cX8_areDays 1 (some .boolean) 0 := ⟨hn_in (by decide +kernel) rfl, hn_in (by decide +kernel) rfl, by decide +kernel, by decide⟩
theorem mv_X8_areDays : hn_mv yX8_areDays := ⟨hn_in (by decide +kernel) rfl, hn_in (by decide +kernel) rfl⟩
theorem ms_X8_cameOf : hn_ms yX8_cameOf cX8_cameOf 4 (some .int) 1 := ⟨hn_in (by decide +kernel) rfl, hn_in (by decide +kernel) rfl, by decide +kernel, by decide⟩
theorem mv_X8_cameOf : hn_mv yX8_cameOf := ⟨hn_in (by decide +kernel) rfl, hn_in (by decide +kernel) rfl⟩
theorem ms_X8_changeOf : hn_ms yX8_changeOf cX8_changeOf 7 (some .int) 2 := ⟨hn_in (by decide +kernel) rfl, hn_in (by decide +kernel) rfl, by decide +kernel, by decide⟩
theorem mv_X8_changeOf : hn_mv yX8_changeOf := ⟨hn_in (by decide +kernel) rfl, hn_in (by decide +kernel) rfl⟩
theorem ms_X8_copy : hn_ms yX8_copy cX8_copy 4 none 2 := ⟨hn_in (by decide +kernel) rfl, hn_in (by decide +kernel) rfl, by decide +kernel, by decide⟩
theorem mv_X8_copy : hn_mv yX8_copy := ⟨hn_in (by decide +kernel) rfl, hn_in (by decide +kernel) rfl⟩
theorem ms_X8_couldCopy : hn_ms yX8_couldCopy cX8_couldCopy 6 (some .boolean) 2 := ⟨hn_in (by decide +kernel) rfl, hn_in (by decide +kernel) rfl, by decide +kernel, by decide⟩
theorem mv_X8_couldCopy : hn_mv yX8_couldCopy := ⟨hn_in (by decide +kernel) rfl, hn_in (by decide +kernel) rfl⟩
theorem ms_X8_grewOf : hn_ms yX8_grewOf cX8_grewOf 2 (some .int) 1 := ⟨hn_in (by decide +kernel) rfl, hn_in (by decide +kernel) rfl, by decide +kernel, by decide⟩
theorem mv_X8_grewOf : hn_mv yX8_grewOf := ⟨hn_in (by decide +kernel) rfl, hn_in (by decide +kernel) rfl⟩
theorem ms_X8_in : hn_ms yX8_in cX8_in 6 (some .boolean) 3 := ⟨hn_in (by decide +kernel) rfl, hn_in (by decide +kernel) rfl, by decide +kernel, by decide⟩
theorem mt_X8_in : Cond.static yX8_in ∈ hn_tb := hn_in (by decide +kernel) rfl
theorem ms_X8_isAsked : hn_ms yX8_isAsked cX8_isAsked 3 (some .boolean) 3 := ⟨hn_in (by decide +kernel) rfl, hn_in (by decide +kernel) rfl, by decide +kernel, by decide⟩
theorem mt_X8_isAsked : Cond.static yX8_isAsked ∈ hn_tb := hn_in (by decide +kernel) rfl
theorem ms_X8_isBanned : hn_ms yX8_isBanned cX8_isBanned 7 (some .boolean) 1 := ⟨hn_in (by decide +kernel) rfl, hn_in (by decide +kernel) rfl, by decide +kernel, by decide⟩
theorem mv_X8_isBanned : hn_mv yX8_isBanned := ⟨hn_in (by decide +kernel) rfl, hn_in (by decide +kernel) rfl⟩
theorem ms_X8_isDay : hn_ms yX8_isDay cX8_isDay 1 (some .boolean) 1 := ⟨hn_in (by decide +kernel) rfl, hn_in (by decide +kernel) rfl, by decide +kernel, by decide⟩
theorem mt_X8_isDay : Cond.static yX8_isDay ∈ hn_tb := hn_in (by decide +kernel) rfl
theorem ms_X8_isHeard : hn_ms yX8_isHeard cX8_isHeard 7 (some .boolean) 2 := ⟨hn_in (by decide +kernel) rfl, hn_in (by decide +kernel) rfl, by decide +kernel, by decide⟩
theorem mv_X8_isHeard : hn_mv yX8_isHeard := ⟨hn_in (by decide +kernel) rfl, hn_in (by decide +kernel) rfl⟩
theorem ms_X8_isLet : hn_ms yX8_isLet cX8_isLet 3 (some .boolean) 0 := ⟨hn_in (by decide +kernel) rfl, hn_in (by decide +kernel) rfl, by decide +kernel, by decide⟩
theorem mv_X8_isLet : hn_mv yX8_isLet := ⟨hn_in (by decide +kernel) rfl, hn_in (by decide +kernel) rfl⟩
theorem ms_X8_isSaying : hn_ms yX8_isSaying cX8_isSaying 2 (some .boolean) 1 := ⟨hn_in (by decide +kernel) rfl, hn_in (by decide +kernel) rfl, by decide +kernel, by decide⟩
theorem mv_X8_isSaying : hn_mv yX8_isSaying := ⟨hn_in (by decide +kernel) rfl, hn_in (by decide +kernel) rfl⟩
theorem ms_X8_isSheet : hn_ms yX8_isSheet cX8_isSheet 2 (some .boolean) 1 := ⟨hn_in (by decide +kernel) rfl, hn_in (by decide +kernel) rfl, by decide +kernel, by decide⟩
theorem mv_X8_isSheet : hn_mv yX8_isSheet := ⟨hn_in (by decide +kernel) rfl, hn_in (by decide +kernel) rfl⟩
theorem ms_X8_isThing : hn_ms yX8_isThing cX8_isThing 1 (some .boolean) 1 := ⟨hn_in (by decide +kernel) rfl, hn_in (by decide +kernel) rfl, by decide +kernel, by decide⟩
theorem mt_X8_isThing : Cond.static yX8_isThing ∈ hn_tb := hn_in (by decide +kernel) rfl
theorem ms_X8_isTown : hn_ms yX8_isTown cX8_isTown 1 (some .boolean) 1 := ⟨hn_in (by decide +kernel) rfl, hn_in (by decide +kernel) rfl, by decide +kernel, by decide⟩
theorem mt_X8_isTown : Cond.static yX8_isTown ∈ hn_tb := hn_in (by decide +kernel) rfl
theorem ms_X8_item : hn_ms yX8_item cX8_item 2 (some .boolean) 0 := ⟨hn_in (by decide +kernel) rfl, hn_in (by decide +kernel) rfl, by decide +kernel, by decide⟩
theorem mv_X8_item : hn_mv yX8_item := ⟨hn_in (by decide +kernel) rfl, hn_in (by decide +kernel) rfl⟩
theorem ms_X8_knownIn : hn_ms yX8_knownIn cX8_knownIn 4 (some .int) 2 := ⟨hn_in (by decide +kernel) rfl, hn_in (by decide +kernel) rfl, by decide +kernel, by decide⟩
theorem mv_X8_knownIn : hn_mv yX8_knownIn := ⟨hn_in (by decide +kernel) rfl, hn_in (by decide +kernel) rfl⟩
theorem ms_X8_layDays : hn_ms yX8_layDays cX8_layDays 7 (some .boolean) 2 := ⟨hn_in (by decide +kernel) rfl, hn_in (by decide +kernel) rfl, by decide +kernel, by decide⟩
theorem mv_X8_layDays : hn_mv yX8_layDays := ⟨hn_in (by decide +kernel) rfl, hn_in (by decide +kernel) rfl⟩
theorem ms_X8_layTree : hn_ms yX8_layTree cX8_layTree 4 (some .boolean) 0 := ⟨hn_in (by decide +kernel) rfl, hn_in (by decide +kernel) rfl, by decide +kernel, by decide⟩
theorem mv_X8_layTree : hn_mv yX8_layTree := ⟨hn_in (by decide +kernel) rfl, hn_in (by decide +kernel) rfl⟩
theorem ms_X8_layWays : hn_ms yX8_layWays cX8_layWays 6 none 0 := ⟨hn_in (by decide +kernel) rfl, hn_in (by decide +kernel) rfl, by decide +kernel, by decide⟩
theorem mv_X8_layWays : hn_mv yX8_layWays := ⟨hn_in (by decide +kernel) rfl, hn_in (by decide +kernel) rfl⟩
theorem ms_X8_letterOf : hn_ms yX8_letterOf cX8_letterOf 1 (some .int) 1 := ⟨hn_in (by decide +kernel) rfl, hn_in (by decide +kernel) rfl, by decide +kernel, by decide⟩
theorem mt_X8_letterOf : Cond.static yX8_letterOf ∈ hn_tb := hn_in (by decide +kernel) rfl
theorem ms_X8_numbers : hn_ms yX8_numbers cX8_numbers 5 (some .boolean) 1 := ⟨hn_in (by decide +kernel) rfl, hn_in (by decide +kernel) rfl, by decide +kernel, by decide⟩
theorem mv_X8_numbers : hn_mv yX8_numbers := ⟨hn_in (by decide +kernel) rfl, hn_in (by decide +kernel) rfl⟩
theorem ms_X8_push : hn_ms yX8_push cX8_push 4 none 3 := ⟨hn_in (by decide +kernel) rfl, hn_in (by decide +kernel) rfl, by decide +kernel, by decide⟩
theorem mv_X8_push : hn_mv yX8_push := ⟨hn_in (by decide +kernel) rfl, hn_in (by decide +kernel) rfl⟩
theorem ms_X8_readAll : hn_ms yX8_readAll cX8_readAll 5 (some .int) 0 := ⟨hn_in (by decide +kernel) rfl, hn_in (by decide +kernel) rfl, by decide +kernel, by decide⟩
theorem mv_X8_readAll : hn_mv yX8_readAll := ⟨hn_in (by decide +kernel) rfl, hn_in (by decide +kernel) rfl⟩
theorem ms_X8_rootOf : hn_ms yX8_rootOf cX8_rootOf 3 (some .int) 1 := ⟨hn_in (by decide +kernel) rfl, hn_in (by decide +kernel) rfl, by decide +kernel, by decide⟩
theorem mv_X8_rootOf : hn_mv yX8_rootOf := ⟨hn_in (by decide +kernel) rfl, hn_in (by decide +kernel) rfl⟩
theorem ms_X8_ruleOf : hn_ms yX8_ruleOf cX8_ruleOf 5 (some .int) 3 := ⟨hn_in (by decide +kernel) rfl, hn_in (by decide +kernel) rfl, by decide +kernel, by decide⟩
theorem mv_X8_ruleOf : hn_mv yX8_ruleOf := ⟨hn_in (by decide +kernel) rfl, hn_in (by decide +kernel) rfl⟩
theorem ms_X8_wayOf : hn_ms yX8_wayOf cX8_wayOf 3 (some .int) 2 := ⟨hn_in (by decide +kernel) rfl, hn_in (by decide +kernel) rfl, by decide +kernel, by decide⟩
theorem mv_X8_wayOf : hn_mv yX8_wayOf := ⟨hn_in (by decide +kernel) rfl, hn_in (by decide +kernel) rfl⟩
theorem ms_X8_whyOf : hn_ms yX8_whyOf cX8_whyOf 8 (some .int) 3 := ⟨hn_in (by decide +kernel) rfl, hn_in (by decide +kernel) rfl, by decide +kernel, by decide⟩
theorem mv_X8_whyOf : hn_mv yX8_whyOf := ⟨hn_in (by decide +kernel) rfl, hn_in (by decide +kernel) rfl⟩
theorem ms_X8_writerOf : hn_ms yX8_writerOf cX8_writerOf 2 (some .int) 1 := ⟨hn_in (by decide +kernel) rfl, hn_in (by decide +kernel) rfl, by decide +kernel, by decide⟩
theorem mv_X8_writerOf : hn_mv yX8_writerOf := ⟨hn_in (by decide +kernel) rfl, hn_in (by decide +kernel) rfl⟩
theorem ms_J6_bitCount_0f7a4 : hn_ms yJ6_bitCount_0f7a4 cJ6_bitCount_0f7a4 1 (some .int) 1 := ⟨hn_in (by decide +kernel) rfl, hn_in (by decide +kernel) rfl, by decide +kernel, by decide⟩
theorem mt_J6_bitCount_0f7a4 : Cond.static yJ6_bitCount_0f7a4 ∈ hn_tb := hn_in (by decide +kernel) rfl
theorem ki_m1 : Int32.ofInt (-1) = (-1) := by decide
theorem ki_0 : Int32.ofInt (0) = 0 := by decide
theorem ki_1 : Int32.ofInt (1) = 1 := by decide
theorem ki_2 : Int32.ofInt (2) = 2 := by decide
theorem ki_3 : Int32.ofInt (3) = 3 := by decide
theorem ki_4 : Int32.ofInt (4) = 4 := by decide
theorem ki_5 : Int32.ofInt (5) = 5 := by decide
theorem kb_m100 : (Int8.ofInt (-100)).toInt32 = (-100) := by decide
theorem kb_m4 : (Int8.ofInt (-4)).toInt32 = (-4) := by decide
theorem kb_m3 : (Int8.ofInt (-3)).toInt32 = (-3) := by decide
theorem kb_m2 : (Int8.ofInt (-2)).toInt32 = (-2) := by decide
theorem kb_6 : (Int8.ofInt (6)).toInt32 = 6 := by decide
theorem kb_8 : (Int8.ofInt (8)).toInt32 = 8 := by decide
theorem kb_10 : (Int8.ofInt (10)).toInt32 = 10 := by decide
theorem kb_12 : (Int8.ofInt (12)).toInt32 = 12 := by decide
theorem kb_15 : (Int8.ofInt (15)).toInt32 = 15 := by decide
theorem kb_16 : (Int8.ofInt (16)).toInt32 = 16 := by decide
theorem kb_20 : (Int8.ofInt (20)).toInt32 = 20 := by decide
theorem kb_30 : (Int8.ofInt (30)).toInt32 = 30 := by decide
theorem kb_36 : (Int8.ofInt (36)).toInt32 = 36 := by decide
theorem kb_40 : (Int8.ofInt (40)).toInt32 = 40 := by decide
theorem kb_44 : (Int8.ofInt (44)).toInt32 = 44 := by decide
theorem kb_48 : (Int8.ofInt (48)).toInt32 = 48 := by decide
theorem kb_57 : (Int8.ofInt (57)).toInt32 = 57 := by decide
theorem kb_59 : (Int8.ofInt (59)).toInt32 = 59 := by decide
theorem kb_60 : (Int8.ofInt (60)).toInt32 = 60 := by decide
theorem kb_98 : (Int8.ofInt (98)).toInt32 = 98 := by decide
theorem kb_100 : (Int8.ofInt (100)).toInt32 = 100 := by decide
theorem kb_110 : (Int8.ofInt (110)).toInt32 = 110 := by decide
theorem kb_111 : (Int8.ofInt (111)).toInt32 = 111 := by decide
theorem kb_118 : (Int8.ofInt (118)).toInt32 = 118 := by decide
theorem kb_119 : (Int8.ofInt (119)).toInt32 = 119 := by decide
theorem kb_120 : (Int8.ofInt (120)).toInt32 = 120 := by decide
theorem ks_m10000 : (Int16.ofInt (-10000)).toInt32 = (-10000) := by decide
theorem ks_m1000 : (Int16.ofInt (-1000)).toInt32 = (-1000) := by decide
theorem ks_180 : (Int16.ofInt (180)).toInt32 = 180 := by decide
theorem ks_200 : (Int16.ofInt (200)).toInt32 = 200 := by decide
theorem ks_202 : (Int16.ofInt (202)).toInt32 = 202 := by decide
theorem ks_255 : (Int16.ofInt (255)).toInt32 = 255 := by decide
theorem ks_999 : (Int16.ofInt (999)).toInt32 = 999 := by decide
theorem ks_1000 : (Int16.ofInt (1000)).toInt32 = 1000 := by decide
theorem ks_9999 : (Int16.ofInt (9999)).toInt32 = 9999 := by decide
theorem kn_m8 (x : Int32) : x + Int32.ofInt (-8) = x + (-8) := by rw [show Int32.ofInt (-8) = ((-8) : Int32) from by decide]
theorem kn_m1 (x : Int32) : x + Int32.ofInt (-1) = x + (-1) := by rw [show Int32.ofInt (-1) = ((-1) : Int32) from by decide]
theorem kn_1 (x : Int32) : x + Int32.ofInt (1) = x + 1 := by rw [show Int32.ofInt (1) = (1 : Int32) from by decide]
theorem kn_3 (x : Int32) : x + Int32.ofInt (3) = x + 3 := by rw [show Int32.ofInt (3) = (3 : Int32) from by decide]
theorem kl_0 : Int64.ofNat ((0 : Fin 2) : Nat) = 0 := by decide
theorem kl_1 : Int64.ofNat ((1 : Fin 2) : Nat) = 1 := by decide
theorem kz_10 : ¬ (10 : Int32) = 0 := by decide
theorem kz_6 : ¬ (6 : Int32) = 0 := by decide
end
section
def hn_k0 : List (Option (Option Nat)) := [some (some 1), some (some 6), some (some 19), some (some 46), some (some 50), some (some 54), some (some 56), some none, some none, none, none, none, none]
def hn_k1 : List (Option (Option Nat)) := [some (some 2), some (some 3), some (some 4), some (some 5), none]
def hn_k6 : List (Option (Option Nat)) := [none, some (some 7), some (some 8), some (some 9), none, some (some 10), some (some 11), none, some (some 12), some (some 13), some (some 14), some (some 15), none, none, some (some 16), some (some 17), some (some 18)]
def hn_k20 : List (Option (Option Nat)) := [none, some (some 21), some (some 22), some (some 23), none, some (some 24), some (some 25), none, some (some 26), some (some 27), some (some 28), some (some 29), none, none, some (some 30), some (some 31), some (some 32)]
def hn_k33 : List (Option (Option Nat)) := [none, some (some 34), some (some 35), some (some 36), none, some (some 37), some (some 38), none, some (some 39), some (some 40), some (some 41), some (some 42), none, none, some (some 43), some (some 44), some (some 45)]
def hn_k46 : List (Option (Option Nat)) := [some (some 47), some (some 48), some (some 49), none]
def hn_k50 : List (Option (Option Nat)) := [some (some 51), some (some 52), some (some 53)]
def hn_k54 : List (Option (Option Nat)) := [some (some 55), none]
def hn_k56 : List (Option (Option Nat)) := [some (some 57)]
def hn_k58 : List (Option (Option Nat)) := [some (some 59), some (some 60), some (some 61), some (some 62), some (some 63), some (some 64), none, none]
def hn_k65 : List (Option (Option Nat)) := [some (some 66), some (some 67), some (some 68), some (some 69), some (some 70), some (some 71), none, none]
def hn_k72 : List (Option (Option Nat)) := [some (some 73), some (some 74), some (some 75), some (some 76), some (some 77), some (some 78), some (some 79), some (some 80), some (some 81), some (some 82), some (some 83), none, none, none, none, some (some 84), some (some 85), some (some 86), some (some 87), some (some 88), some (some 89), some (some 90), none, some (some 91), none, some (some 92)]
def hn_sh (k : Nat) : hn_S := match k with
  | 0 => .inr (.inr (.inl (7, hn_k0)))
  | 1 => .inr (.inr (.inl (2, hn_k1)))
  | 2 => .inl (false, 36)
  | 3 => .inl (false, 36)
  | 4 => .inl (false, 36)
  | 5 => .inl (false, 36)
  | 6 => .inr (.inr (.inl (1, hn_k6)))
  | 7 => .inl (false, 12)
  | 8 => .inl (false, 12)
  | 9 => .inl (false, 12)
  | 10 => .inl (false, 20)
  | 11 => .inl (false, 20)
  | 12 => .inl (false, 30)
  | 13 => .inl (false, 30)
  | 14 => .inl (false, 30)
  | 15 => .inl (false, 30)
  | 16 => .inl (false, 10)
  | 17 => .inl (false, 10)
  | 18 => .inl (false, 10)
  | 19 => .inr (.inl [20, 33])
  | 20 => .inr (.inr (.inl (1, hn_k20)))
  | 21 => .inl (false, 12)
  | 22 => .inl (false, 12)
  | 23 => .inl (false, 12)
  | 24 => .inl (false, 20)
  | 25 => .inl (false, 20)
  | 26 => .inl (false, 30)
  | 27 => .inl (false, 30)
  | 28 => .inl (false, 30)
  | 29 => .inl (false, 30)
  | 30 => .inl (false, 10)
  | 31 => .inl (false, 10)
  | 32 => .inl (false, 10)
  | 33 => .inr (.inr (.inl (1, hn_k33)))
  | 34 => .inl (false, 12)
  | 35 => .inl (false, 12)
  | 36 => .inl (false, 12)
  | 37 => .inl (false, 20)
  | 38 => .inl (false, 20)
  | 39 => .inl (false, 30)
  | 40 => .inl (false, 30)
  | 41 => .inl (false, 30)
  | 42 => .inl (false, 30)
  | 43 => .inl (false, 10)
  | 44 => .inl (false, 10)
  | 45 => .inl (false, 10)
  | 46 => .inr (.inr (.inl (3, hn_k46)))
  | 47 => .inl (false, 12)
  | 48 => .inl (false, 12)
  | 49 => .inl (false, 12)
  | 50 => .inr (.inr (.inl (5, hn_k50)))
  | 51 => .inl (false, 30)
  | 52 => .inl (false, 30)
  | 53 => .inl (false, 30)
  | 54 => .inr (.inr (.inl (4, hn_k54)))
  | 55 => .inl (true, 200)
  | 56 => .inr (.inr (.inl (6, hn_k56)))
  | 57 => .inl (false, 24)
  | 58 => .inr (.inr (.inl (0, hn_k58)))
  | 59 => .inl (false, 40)
  | 60 => .inl (false, 40)
  | 61 => .inl (false, 40)
  | 62 => .inl (false, 40)
  | 63 => .inl (false, 40)
  | 64 => .inl (false, 4)
  | 65 => .inr (.inr (.inl (0, hn_k65)))
  | 66 => .inl (false, 40)
  | 67 => .inl (false, 40)
  | 68 => .inl (false, 40)
  | 69 => .inl (false, 40)
  | 70 => .inl (false, 40)
  | 71 => .inl (false, 4)
  | 72 => .inr (.inr (.inl (8, hn_k72)))
  | 73 => .inl (false, 36)
  | 74 => .inl (false, 36)
  | 75 => .inl (false, 36)
  | 76 => .inl (false, 3)
  | 77 => .inl (false, 108)
  | 78 => .inl (false, 3)
  | 79 => .inl (false, 120)
  | 80 => .inl (false, 3)
  | 81 => .inl (false, 540)
  | 82 => .inl (false, 60)
  | 83 => .inl (false, 30)
  | 84 => .inl (false, 200)
  | 85 => .inl (false, 2)
  | 86 => .inl (false, 400)
  | 87 => .inl (false, 24)
  | 88 => .inl (false, 6)
  | 89 => .inl (false, 12)
  | 90 => .inl (false, 12)
  | 91 => .inl (false, 30)
  | _ => .inl (false, 4)
def hn_V (B : hn_B) (ks : List Nat) : Prop := ∀ k ∈ ks, k < hn_n B ∧ hn_sg B k = hn_sh k
def hn_nA : List Nat := List.range 93
def hn_nP : List Nat := [1, 2, 3, 4, 5]
def hn_nW : List Nat := [72, 73, 75]
theorem hn_V.P {B : hn_B} (h : hn_V B hn_nA) : hn_V B hn_nP := fun k hk => h k ((by decide : ∀ k ∈ hn_nP, k ∈ hn_nA) k hk)
theorem hn_V.W {B : hn_B} (h : hn_V B hn_nA) : hn_V B hn_nW := fun k hk => h k ((by decide : ∀ k ∈ hn_nW, k ∈ hn_nA) k hk)
def hn_kI (t : Nat) : List (Option (Option Nat)) := [some (some (t + 1)), some (some (t + 2)), some (some (t + 3)), some (some (t + 4)), some (some (t + 5)), some (some (t + 6)), none, none]
abbrev hn_tI (t : Nat) : Prop := t = 58 ∨ t = 65
theorem hn_Io {B : hn_B} {t : Nat} (hV : hn_V B hn_nA) (h : hn_tI t) : hn_isO B t 0 (hn_kI t) := by
  rcases h with rfl | rfl
  · exact hV 58 (by decide)
  · exact hV 65 (by decide)
theorem hn_Ia1 {B : hn_B} {t : Nat} (hV : hn_V B hn_nA) (h : hn_tI t) : hn_isA B (t + 1) false 40 := by
  rcases h with rfl | rfl
  · exact hV 59 (by decide)
  · exact hV 66 (by decide)
theorem hn_Ia2 {B : hn_B} {t : Nat} (hV : hn_V B hn_nA) (h : hn_tI t) : hn_isA B (t + 2) false 40 := by
  rcases h with rfl | rfl
  · exact hV 60 (by decide)
  · exact hV 67 (by decide)
theorem hn_Ia3 {B : hn_B} {t : Nat} (hV : hn_V B hn_nA) (h : hn_tI t) : hn_isA B (t + 3) false 40 := by
  rcases h with rfl | rfl
  · exact hV 61 (by decide)
  · exact hV 68 (by decide)
theorem hn_Ia4 {B : hn_B} {t : Nat} (hV : hn_V B hn_nA) (h : hn_tI t) : hn_isA B (t + 4) false 40 := by
  rcases h with rfl | rfl
  · exact hV 62 (by decide)
  · exact hV 69 (by decide)
theorem hn_Ia5 {B : hn_B} {t : Nat} (hV : hn_V B hn_nA) (h : hn_tI t) : hn_isA B (t + 5) false 40 := by
  rcases h with rfl | rfl
  · exact hV 63 (by decide)
  · exact hV 70 (by decide)
theorem hn_Ia6 {B : hn_B} {t : Nat} (hV : hn_V B hn_nA) (h : hn_tI t) : hn_isA B (t + 6) false 4 := by
  rcases h with rfl | rfl
  · exact hV 64 (by decide)
  · exact hV 71 (by decide)
def hn_kP (t : Nat) : List (Option (Option Nat)) := [none, some (some (t + 1)), some (some (t + 2)), some (some (t + 3)), none, some (some (t + 4)), some (some (t + 5)), none, some (some (t + 6)), some (some (t + 7)), some (some (t + 8)), some (some (t + 9)), none, none, some (some (t + 10)), some (some (t + 11)), some (some (t + 12))]
abbrev hn_tP (t : Nat) : Prop := t = 6 ∨ t = 20 ∨ t = 33
theorem hn_Po {B : hn_B} {t : Nat} (hV : hn_V B hn_nA) (h : hn_tP t) : hn_isO B t 1 (hn_kP t) := by
  rcases h with rfl | rfl | rfl
  · exact hV 6 (by decide)
  · exact hV 20 (by decide)
  · exact hV 33 (by decide)
theorem hn_Pa1 {B : hn_B} {t : Nat} (hV : hn_V B hn_nA) (h : hn_tP t) : hn_isA B (t + 1) false 12 := by
  rcases h with rfl | rfl | rfl
  · exact hV 7 (by decide)
  · exact hV 21 (by decide)
  · exact hV 34 (by decide)
theorem hn_Pa2 {B : hn_B} {t : Nat} (hV : hn_V B hn_nA) (h : hn_tP t) : hn_isA B (t + 2) false 12 := by
  rcases h with rfl | rfl | rfl
  · exact hV 8 (by decide)
  · exact hV 22 (by decide)
  · exact hV 35 (by decide)
theorem hn_Pa3 {B : hn_B} {t : Nat} (hV : hn_V B hn_nA) (h : hn_tP t) : hn_isA B (t + 3) false 12 := by
  rcases h with rfl | rfl | rfl
  · exact hV 9 (by decide)
  · exact hV 23 (by decide)
  · exact hV 36 (by decide)
theorem hn_Pa4 {B : hn_B} {t : Nat} (hV : hn_V B hn_nA) (h : hn_tP t) : hn_isA B (t + 4) false 20 := by
  rcases h with rfl | rfl | rfl
  · exact hV 10 (by decide)
  · exact hV 24 (by decide)
  · exact hV 37 (by decide)
theorem hn_Pa5 {B : hn_B} {t : Nat} (hV : hn_V B hn_nA) (h : hn_tP t) : hn_isA B (t + 5) false 20 := by
  rcases h with rfl | rfl | rfl
  · exact hV 11 (by decide)
  · exact hV 25 (by decide)
  · exact hV 38 (by decide)
theorem hn_Pa6 {B : hn_B} {t : Nat} (hV : hn_V B hn_nA) (h : hn_tP t) : hn_isA B (t + 6) false 30 := by
  rcases h with rfl | rfl | rfl
  · exact hV 12 (by decide)
  · exact hV 26 (by decide)
  · exact hV 39 (by decide)
theorem hn_Pa7 {B : hn_B} {t : Nat} (hV : hn_V B hn_nA) (h : hn_tP t) : hn_isA B (t + 7) false 30 := by
  rcases h with rfl | rfl | rfl
  · exact hV 13 (by decide)
  · exact hV 27 (by decide)
  · exact hV 40 (by decide)
theorem hn_Pa8 {B : hn_B} {t : Nat} (hV : hn_V B hn_nA) (h : hn_tP t) : hn_isA B (t + 8) false 30 := by
  rcases h with rfl | rfl | rfl
  · exact hV 14 (by decide)
  · exact hV 28 (by decide)
  · exact hV 41 (by decide)
theorem hn_Pa9 {B : hn_B} {t : Nat} (hV : hn_V B hn_nA) (h : hn_tP t) : hn_isA B (t + 9) false 30 := by
  rcases h with rfl | rfl | rfl
  · exact hV 15 (by decide)
  · exact hV 29 (by decide)
  · exact hV 42 (by decide)
theorem hn_Pa10 {B : hn_B} {t : Nat} (hV : hn_V B hn_nA) (h : hn_tP t) : hn_isA B (t + 10) false 10 := by
  rcases h with rfl | rfl | rfl
  · exact hV 16 (by decide)
  · exact hV 30 (by decide)
  · exact hV 43 (by decide)
theorem hn_Pa11 {B : hn_B} {t : Nat} (hV : hn_V B hn_nA) (h : hn_tP t) : hn_isA B (t + 11) false 10 := by
  rcases h with rfl | rfl | rfl
  · exact hV 17 (by decide)
  · exact hV 31 (by decide)
  · exact hV 44 (by decide)
theorem hn_Pa12 {B : hn_B} {t : Nat} (hV : hn_V B hn_nA) (h : hn_tP t) : hn_isA B (t + 12) false 10 := by
  rcases h with rfl | rfl | rfl
  · exact hV 18 (by decide)
  · exact hV 32 (by decide)
  · exact hV 45 (by decide)
abbrev hn_tD (d : Nat) : Prop := d = 47 ∨ d = 49
theorem hn_Da {B : hn_B} {d : Nat} (hV : hn_V B hn_nA) (h : hn_tD d) : hn_isA B d false 12 := by
  rcases h with rfl | rfl
  · exact hV 47 (by decide)
  · exact hV 49 (by decide)
abbrev hn_tT (d : Nat) : Prop := d = 17 ∨ d = 18
theorem hn_Ta {B : hn_B} {d : Nat} (hV : hn_V B hn_nA) (h : hn_tT d) : hn_isA B d false 10 := by
  rcases h with rfl | rfl
  · exact hV 17 (by decide)
  · exact hV 18 (by decide)
def hn_it {α : Type} (x : Int32) (K : Nat → Option α) : Option α := if x = 58 ∨ x = 65 then K x.toNatClampNeg else none
theorem hn_getIt {Z : hn_Z} {B : hn_B} {kp : Nat × Nat} {cc : ByteArray} {nL : Nat} {own : String} {ret : Option FieldType} {h : Nat} {pc q : Nat} {L : List (Nat × Value)} {st : List Value} {μ : hn_M} {α : Type} {R : α} {k j ci idx : Nat} {ks : List (Option (Option Nat))} {K : Nat → Option α} (hF : hn_F Z B kp cc nL own ret h) (hl : hn_fl own idx ci j) (ho : hn_isO B k ci ks) (hj : ks[j]? = some (some none)) (hd : decode cc pc = .ok (.getfield idx, 3)) (hq : pc + 3 = q) (e : hn_it (μ k j) K = some R) (kk : ∀ t : Nat, hn_tI t → K t = some R → hn_G Z B kp nL q L (.ref (hn_base B + t) :: st) μ) : hn_G Z B kp nL pc L (.ref (hn_base B + k) :: st) μ := by
  by_cases hx : μ k j = 58 ∨ μ k j = 65
  · have e' : K (μ k j).toNatClampNeg = some R := by simpa only [hn_it, if_pos hx] using e
    have ht : hn_tI (μ k j).toNatClampNeg := by
      rcases hx with hx | hx <;> rw [hx]
      · exact Or.inl rfl
      · exact Or.inr rfl
    exact hn_get hF hl ho hj rfl hd hq (kk _ ht e')
  · simp [hn_it, hx] at e
theorem hn_dv {base t : Nat} (h : hn_tI t) : hn_val base (some none) (Int32.ofNat t) = .ref (base + t) := by
  rcases h with rfl | rfl <;> rfl
theorem hn_nb {v : Int32} (h : v = 0 ∨ v = 1) : narrow .boolean (.int v) = .int v := by rcases h with rfl | rfl <;> rfl
theorem hn_fb {v : Int32} (h : v = 0 ∨ v = 1) : fits .boolean (.int v) = true := by rcases h with rfl | rfl <;> rfl
end
section
/-! HandNews$Posts.layPosts()V -/
def fX2_layPosts_58 (F : Nat) (k2 : Int32 → hn_M → Option hn_M) (l1 : Int32) (s0 : Int32) (s1 : Int32) (μ : hn_M) : Option hn_M := hn_wr μ 4 36 s1 s0 fun μ1 => hn_rd μ1 3 36 l1 fun v2 => hn_wr μ1 5 36 l1 v2 fun μ3 => k2 (l1 + 1) μ3
def fX2_layPosts_24 (F : Nat) (k2 : Int32 → hn_M → Option hn_M) (l1 : Int32) (s0 : Int32) (μ : hn_M) : Option hn_M := if s0 = 0 then hn_rd μ 2 36 l1 fun v4 => if v4 ≤ 0 then fX2_layPosts_58 F k2 l1 1000000 l1 μ else hn_rd μ 2 36 l1 fun v5 => fX2_layPosts_58 F k2 l1 v5 l1 μ else fX2_layPosts_58 F k2 l1 0 l1 μ
def fX2_layPosts_2 (F : Nat) : Nat → Int32 → hn_M → Option hn_M
  | 0, _, _ => none
  | n + 1, l1, μ => if 36 ≤ l1 then some μ else if l1 / 6 = l1 - l1 / 6 * 6 then fX2_layPosts_24 F (fX2_layPosts_2 F n) l1 1 μ else fX2_layPosts_24 F (fX2_layPosts_2 F n) l1 0 μ
def fX2_layPosts (F : Nat) (μ : hn_M) : Option hn_M := fX2_layPosts_2 F F 0 μ
set_option maxHeartbeats 1000000 in
theorem gX2_layPosts_58 {Z : hn_Z} {B : hn_B} {F : Nat} {R : hn_M} (hF : hn_F Z B (0, 0) cX2_layPosts 3 RX2 none 0) (hQ : hn_goal Z B (none, R)) (hV : hn_V B hn_nP) {k2 : Int32 → hn_M → Option hn_M} (H2 : ∀ (l1 : Int32) (μ : hn_M), k2 l1 μ = some R → hn_G Z B (0, 0) 3 2 [(0, .ref (hn_base B + 1)), (1, .int l1)] [] μ) {l1 : Int32} {s0 : Int32} {s1 : Int32} {μ : hn_M} (e : fX2_layPosts_58 F k2 l1 s0 s1 μ = some R) : hn_G Z B (0, 0) 3 58 [(0, .ref (hn_base B + 1)), (1, .int l1)] [.int s0, .int s1, .ref (hn_base B + 4)] μ := by
  unfold fX2_layPosts_58 at e
  have a3 : hn_isA B 3 false 36 := hV 3 (by decide)
  have a4 : hn_isA B 4 false 36 := hV 4 (by decide)
  have a5 : hn_isA B 5 false 36 := hV 5 (by decide)
  have o1 : hn_isO B 1 2 hn_k1 := hV 1 (by decide)
  refine hn_ast hF a4 dX2_layPosts_58 (q := 59) rfl e (fun μ1 e => ?_)
  refine hn_aload_n hF dX2_layPosts_59 (q := 60) rfl 0 rfl ?_
  refine hn_get hF fl_X2_21 o1 rfl rfl dX2_layPosts_60 (q := 63) rfl ?_
  refine hn_iload_n hF dX2_layPosts_63 (q := 64) rfl 1 rfl ?_
  refine hn_aload_n hF dX2_layPosts_64 (q := 65) rfl 0 rfl ?_
  refine hn_get hF fl_X2_15 o1 rfl rfl dX2_layPosts_65 (q := 68) rfl ?_
  refine hn_iload_n hF dX2_layPosts_68 (q := 69) rfl 1 rfl ?_
  refine hn_ald hF a3 dX2_layPosts_69 (q := 70) rfl e (fun v2 e => ?_)
  refine hn_ast hF a5 dX2_layPosts_70 (q := 71) rfl e (fun μ3 e => ?_)
  refine hn_iinc (p := 1) hF dX2_layPosts_71 (q := 74) rfl rfl (kn_1 _) (by decide) (L' := [(1, .int (l1 + 1)), (0, .ref (hn_base B + 1))]) rfl ?_
  refine hn_goto hF dX2_layPosts_74 (q := 2) rfl ?_
  refine hn_sub [1, 0] (L' := [(0, .ref (hn_base B + 1)), (1, .int (l1 + 1))]) rfl ?_
  exact H2 (l1 + 1) μ3 e
set_option maxHeartbeats 1000000 in
theorem gX2_layPosts_24 {Z : hn_Z} {B : hn_B} {F : Nat} {R : hn_M} (hF : hn_F Z B (0, 0) cX2_layPosts 3 RX2 none 0) (hQ : hn_goal Z B (none, R)) (hV : hn_V B hn_nP) {k2 : Int32 → hn_M → Option hn_M} (H2 : ∀ (l1 : Int32) (μ : hn_M), k2 l1 μ = some R → hn_G Z B (0, 0) 3 2 [(0, .ref (hn_base B + 1)), (1, .int l1)] [] μ) {l1 : Int32} {s0 : Int32} {μ : hn_M} (e : fX2_layPosts_24 F k2 l1 s0 μ = some R) : hn_G Z B (0, 0) 3 24 [(0, .ref (hn_base B + 1)), (1, .int l1)] [.int s0] μ := by
  unfold fX2_layPosts_24 at e
  have a2 : hn_isA B 2 false 36 := hV 2 (by decide)
  have o1 : hn_isO B 1 2 hn_k1 := hV 1 (by decide)
  refine hn_istore_n hF dX2_layPosts_24 (q := 25) rfl (i := 2) rfl (by decide) (L' := [(2, .int s0), (0, .ref (hn_base B + 1)), (1, .int l1)]) rfl ?_
  refine hn_aload_n hF dX2_layPosts_25 (q := 26) rfl 1 rfl ?_
  refine hn_get hF fl_X2_18 o1 rfl rfl dX2_layPosts_26 (q := 29) rfl ?_
  refine hn_iload_n hF dX2_layPosts_29 (q := 30) rfl 2 rfl ?_
  refine hn_iload_n hF dX2_layPosts_30 (q := 31) rfl 0 rfl ?_
  refine hn_if_eq hF dX2_layPosts_31 (t := 38) (q := 34) rfl rfl e (fun e => ?_) (fun e => ?_)
  · refine hn_aload_n hF dX2_layPosts_38 (q := 39) rfl 1 rfl ?_
    refine hn_get hF fl_X2_9 o1 rfl rfl dX2_layPosts_39 (q := 42) rfl ?_
    refine hn_iload_n hF dX2_layPosts_42 (q := 43) rfl 2 rfl ?_
    refine hn_ald hF a2 dX2_layPosts_43 (q := 44) rfl e (fun v4 e => ?_)
    refine hn_if_le hF dX2_layPosts_44 (t := 56) (q := 47) rfl rfl e (fun e => ?_) (fun e => ?_)
    · refine hn_ldc hF kd_X2_31 dX2_layPosts_56 (q := 58) rfl ?_
      refine hn_sub [1, 2] (L' := [(0, .ref (hn_base B + 1)), (1, .int l1)]) rfl ?_
      exact gX2_layPosts_58 hF hQ hV H2 e
    · refine hn_aload_n hF dX2_layPosts_47 (q := 48) rfl 1 rfl ?_
      refine hn_get hF fl_X2_9 o1 rfl rfl dX2_layPosts_48 (q := 51) rfl ?_
      refine hn_iload_n hF dX2_layPosts_51 (q := 52) rfl 2 rfl ?_
      refine hn_ald hF a2 dX2_layPosts_52 (q := 53) rfl e (fun v5 e => ?_)
      refine hn_goto hF dX2_layPosts_53 (q := 58) rfl ?_
      refine hn_sub [1, 2] (L' := [(0, .ref (hn_base B + 1)), (1, .int l1)]) rfl ?_
      exact gX2_layPosts_58 hF hQ hV H2 e
  · refine hn_iconst hF dX2_layPosts_34 (q := 35) rfl ki_0 ?_
    refine hn_goto hF dX2_layPosts_35 (q := 58) rfl ?_
    refine hn_sub [1, 2] (L' := [(0, .ref (hn_base B + 1)), (1, .int l1)]) rfl ?_
    exact gX2_layPosts_58 hF hQ hV H2 e
set_option maxHeartbeats 1000000 in
theorem gX2_layPosts_2 {Z : hn_Z} {B : hn_B} {F : Nat} {R : hn_M} (hF : hn_F Z B (0, 0) cX2_layPosts 3 RX2 none 0) (hQ : hn_goal Z B (none, R)) (hV : hn_V B hn_nP) : ∀ (n : Nat) (l1 : Int32) (μ : hn_M), fX2_layPosts_2 F n l1 μ = some R → hn_G Z B (0, 0) 3 2 [(0, .ref (hn_base B + 1)), (1, .int l1)] [] μ := by
  intro n
  induction n with
  | zero => intro l1 μ e; rw [fX2_layPosts_2] at e; cases e
  | succ n ih =>
    intro l1 μ e
    rw [fX2_layPosts_2] at e
    refine hn_iload_n hF dX2_layPosts_2 (q := 3) rfl 1 rfl ?_
    refine hn_bipush hF dX2_layPosts_3 (q := 5) rfl kb_36 ?_
    refine hn_icmp_ge hF dX2_layPosts_5 (t := 77) (q := 8) rfl rfl e (fun e => ?_) (fun e => ?_)
    · exact hn_vretM hF hQ dX2_layPosts_77 e
    · refine hn_iload_n hF dX2_layPosts_8 (q := 9) rfl 1 rfl ?_
      refine hn_bipush hF dX2_layPosts_9 (q := 11) rfl kb_6 ?_
      refine hn_idiv hF dX2_layPosts_11 (q := 12) rfl kz_6 ?_
      refine hn_iload_n hF dX2_layPosts_12 (q := 13) rfl 1 rfl ?_
      refine hn_bipush hF dX2_layPosts_13 (q := 15) rfl kb_6 ?_
      refine hn_irem hF dX2_layPosts_15 (q := 16) rfl kz_6 ?_
      refine hn_icmp_ne hF dX2_layPosts_16 (t := 23) (q := 19) rfl rfl e (fun e => ?_) (fun e => ?_)
      · refine hn_iconst hF dX2_layPosts_23 (q := 24) rfl ki_0 ?_
        exact gX2_layPosts_24 hF hQ hV ih e
      · refine hn_iconst hF dX2_layPosts_19 (q := 20) rfl ki_1 ?_
        refine hn_goto hF dX2_layPosts_20 (q := 24) rfl ?_
        exact gX2_layPosts_24 hF hQ hV ih e
set_option maxHeartbeats 1000000 in
theorem gX2_layPosts {Z : hn_Z} {B : hn_B} {F : Nat} {R : hn_M} (hF : hn_F Z B (0, 0) cX2_layPosts 3 RX2 none 0) (hQ : hn_goal Z B (none, R)) (hV : hn_V B hn_nP) {μ : hn_M} (e : fX2_layPosts F μ = some R) : hn_G Z B (0, 0) 3 0 [(0, .ref (hn_base B + 1))] [] μ := by
  unfold fX2_layPosts at e
  refine hn_iconst hF dX2_layPosts_0 (q := 1) rfl ki_0 ?_
  refine hn_istore_n hF dX2_layPosts_1 (q := 2) rfl (i := 1) rfl (by decide) (L' := [(1, .int 0), (0, .ref (hn_base B + 1))]) rfl ?_
  refine hn_sub [1, 0] (L' := [(0, .ref (hn_base B + 1)), (1, .int 0)]) rfl ?_
  exact gX2_layPosts_2 hF hQ hV F 0 μ e
theorem cX2_layPosts_ {B : hn_B} {F : Nat} {μ : hn_M} {R : hn_M} (hV : hn_V B hn_nP) (e : fX2_layPosts F μ = some R) : hn_C yX2_layPosts cX2_layPosts 3 none 0 B [.ref (hn_base B + 1)] μ (none, R) :=
  hn_C.of RX2 (by decide) rfl (Nat.le_of_ble_eq_true rfl) (fun _ hF hQ => gX2_layPosts hF hQ hV e)
/-! HandNews$Posts.goThrough(III)V -/
def fX2_goThrough_102 (l4 : Int32) (l7 : Int32) (l8 : Int32) (μ : hn_M) : Option hn_M := hn_wr μ 4 36 l4 l7 fun μ1 => hn_wr μ1 5 36 l4 l8 fun μ2 => some μ2
def fX2_goThrough (l1 : Int32) (l2 : Int32) (l3 : Int32) (μ : hn_M) : Option hn_M := hn_rd μ 4 36 ((l1 * 6) + l2) fun v3 => hn_rd μ 4 36 ((l2 * 6) + l3) fun v4 => hn_rd μ 5 36 ((l1 * 6) + l2) fun v5 => hn_rd μ 5 36 ((l2 * 6) + l3) fun v6 => if v3 + v4 < 1000000 then hn_rd μ 4 36 ((l1 * 6) + l3) fun v7 => if v3 + v4 < v7 then fX2_goThrough_102 ((l1 * 6) + l3) (v3 + v4) (v5 + v6) μ else hn_rd μ 4 36 ((l1 * 6) + l3) fun v8 => if v3 + v4 = v8 then hn_rd μ 5 36 ((l1 * 6) + l3) fun v9 => if v5 + v6 ≤ v9 then some μ else fX2_goThrough_102 ((l1 * 6) + l3) (v3 + v4) (v5 + v6) μ else some μ else some μ
set_option maxHeartbeats 1000000 in
theorem gX2_goThrough_102 {Z : hn_Z} {B : hn_B} {R : hn_M} (hF : hn_F Z B (0, 0) cX2_goThrough 9 RX2 none 0) (hQ : hn_goal Z B (none, R)) (hV : hn_V B hn_nP) {l4 : Int32} {l7 : Int32} {l8 : Int32} {μ : hn_M} (e : fX2_goThrough_102 l4 l7 l8 μ = some R) : hn_G Z B (0, 0) 9 102 [(0, .ref (hn_base B + 1)), (4, .int l4), (7, .int l7), (8, .int l8)] [] μ := by
  unfold fX2_goThrough_102 at e
  have a4 : hn_isA B 4 false 36 := hV 4 (by decide)
  have a5 : hn_isA B 5 false 36 := hV 5 (by decide)
  have o1 : hn_isO B 1 2 hn_k1 := hV 1 (by decide)
  refine hn_aload_n hF dX2_goThrough_102 (q := 103) rfl 0 rfl ?_
  refine hn_get hF fl_X2_18 o1 rfl rfl dX2_goThrough_103 (q := 106) rfl ?_
  refine hn_iload hF dX2_goThrough_106 (q := 108) rfl 1 rfl ?_
  refine hn_iload hF dX2_goThrough_108 (q := 110) rfl 2 rfl ?_
  refine hn_ast hF a4 dX2_goThrough_110 (q := 111) rfl e (fun μ1 e => ?_)
  refine hn_aload_n hF dX2_goThrough_111 (q := 112) rfl 0 rfl ?_
  refine hn_get hF fl_X2_21 o1 rfl rfl dX2_goThrough_112 (q := 115) rfl ?_
  refine hn_iload hF dX2_goThrough_115 (q := 117) rfl 1 rfl ?_
  refine hn_iload hF dX2_goThrough_117 (q := 119) rfl 3 rfl ?_
  refine hn_ast hF a5 dX2_goThrough_119 (q := 120) rfl e (fun μ2 e => ?_)
  exact hn_vretM hF hQ dX2_goThrough_120 e
set_option maxHeartbeats 1000000 in
theorem gX2_goThrough {Z : hn_Z} {B : hn_B} {R : hn_M} (hF : hn_F Z B (0, 0) cX2_goThrough 9 RX2 none 0) (hQ : hn_goal Z B (none, R)) (hV : hn_V B hn_nP) {l1 : Int32} {l2 : Int32} {l3 : Int32} {μ : hn_M} (e : fX2_goThrough l1 l2 l3 μ = some R) : hn_G Z B (0, 0) 9 0 [(0, .ref (hn_base B + 1)), (1, .int l1), (2, .int l2), (3, .int l3)] [] μ := by
  unfold fX2_goThrough at e
  have a4 : hn_isA B 4 false 36 := hV 4 (by decide)
  have a5 : hn_isA B 5 false 36 := hV 5 (by decide)
  have o1 : hn_isO B 1 2 hn_k1 := hV 1 (by decide)
  refine hn_iload_n hF dX2_goThrough_0 (q := 1) rfl 1 rfl ?_
  refine hn_bipush hF dX2_goThrough_1 (q := 3) rfl kb_6 ?_
  refine hn_imul hF dX2_goThrough_3 (q := 4) rfl ?_
  refine hn_iload_n hF dX2_goThrough_4 (q := 5) rfl 3 rfl ?_
  refine hn_iadd hF dX2_goThrough_5 (q := 6) rfl ?_
  refine hn_istore hF dX2_goThrough_6 (q := 8) rfl (by decide) (L' := [(4, .int ((l1 * 6) + l3)), (0, .ref (hn_base B + 1)), (1, .int l1), (2, .int l2), (3, .int l3)]) rfl ?_
  refine hn_iload_n hF dX2_goThrough_8 (q := 9) rfl 2 rfl ?_
  refine hn_bipush hF dX2_goThrough_9 (q := 11) rfl kb_6 ?_
  refine hn_imul hF dX2_goThrough_11 (q := 12) rfl ?_
  refine hn_iload_n hF dX2_goThrough_12 (q := 13) rfl 3 rfl ?_
  refine hn_iadd hF dX2_goThrough_13 (q := 14) rfl ?_
  refine hn_istore hF dX2_goThrough_14 (q := 16) rfl (by decide) (L' := [(5, .int ((l1 * 6) + l2)), (4, .int ((l1 * 6) + l3)), (0, .ref (hn_base B + 1)), (1, .int l1), (2, .int l2), (3, .int l3)]) rfl ?_
  refine hn_iload_n hF dX2_goThrough_16 (q := 17) rfl 4 rfl ?_
  refine hn_bipush hF dX2_goThrough_17 (q := 19) rfl kb_6 ?_
  refine hn_imul hF dX2_goThrough_19 (q := 20) rfl ?_
  refine hn_iload_n hF dX2_goThrough_20 (q := 21) rfl 5 rfl ?_
  refine hn_iadd hF dX2_goThrough_21 (q := 22) rfl ?_
  refine hn_istore hF dX2_goThrough_22 (q := 24) rfl (by decide) (L' := [(6, .int ((l2 * 6) + l3)), (5, .int ((l1 * 6) + l2)), (4, .int ((l1 * 6) + l3)), (0, .ref (hn_base B + 1)), (1, .int l1), (2, .int l2), (3, .int l3)]) rfl ?_
  refine hn_aload_n hF dX2_goThrough_24 (q := 25) rfl 3 rfl ?_
  refine hn_get hF fl_X2_18 o1 rfl rfl dX2_goThrough_25 (q := 28) rfl ?_
  refine hn_iload hF dX2_goThrough_28 (q := 30) rfl 1 rfl ?_
  refine hn_ald hF a4 dX2_goThrough_30 (q := 31) rfl e (fun v3 e => ?_)
  refine hn_aload_n hF dX2_goThrough_31 (q := 32) rfl 3 rfl ?_
  refine hn_get hF fl_X2_18 o1 rfl rfl dX2_goThrough_32 (q := 35) rfl ?_
  refine hn_iload hF dX2_goThrough_35 (q := 37) rfl 0 rfl ?_
  refine hn_ald hF a4 dX2_goThrough_37 (q := 38) rfl e (fun v4 e => ?_)
  refine hn_iadd hF dX2_goThrough_38 (q := 39) rfl ?_
  refine hn_istore hF dX2_goThrough_39 (q := 41) rfl (by decide) (L' := [(7, .int (v3 + v4)), (6, .int ((l2 * 6) + l3)), (5, .int ((l1 * 6) + l2)), (4, .int ((l1 * 6) + l3)), (0, .ref (hn_base B + 1)), (1, .int l1), (2, .int l2), (3, .int l3)]) rfl ?_
  refine hn_aload_n hF dX2_goThrough_41 (q := 42) rfl 4 rfl ?_
  refine hn_get hF fl_X2_21 o1 rfl rfl dX2_goThrough_42 (q := 45) rfl ?_
  refine hn_iload hF dX2_goThrough_45 (q := 47) rfl 2 rfl ?_
  refine hn_ald hF a5 dX2_goThrough_47 (q := 48) rfl e (fun v5 e => ?_)
  refine hn_aload_n hF dX2_goThrough_48 (q := 49) rfl 4 rfl ?_
  refine hn_get hF fl_X2_21 o1 rfl rfl dX2_goThrough_49 (q := 52) rfl ?_
  refine hn_iload hF dX2_goThrough_52 (q := 54) rfl 1 rfl ?_
  refine hn_ald hF a5 dX2_goThrough_54 (q := 55) rfl e (fun v6 e => ?_)
  refine hn_iadd hF dX2_goThrough_55 (q := 56) rfl ?_
  refine hn_istore hF dX2_goThrough_56 (q := 58) rfl (by decide) (L' := [(8, .int (v5 + v6)), (7, .int (v3 + v4)), (6, .int ((l2 * 6) + l3)), (5, .int ((l1 * 6) + l2)), (4, .int ((l1 * 6) + l3)), (0, .ref (hn_base B + 1)), (1, .int l1), (2, .int l2), (3, .int l3)]) rfl ?_
  refine hn_iload hF dX2_goThrough_58 (q := 60) rfl 1 rfl ?_
  refine hn_ldc hF kd_X2_31 dX2_goThrough_60 (q := 62) rfl ?_
  refine hn_icmp_lt hF dX2_goThrough_62 (t := 66) (q := 65) rfl rfl e (fun e => ?_) (fun e => ?_)
  · refine hn_iload hF dX2_goThrough_66 (q := 68) rfl 1 rfl ?_
    refine hn_aload_n hF dX2_goThrough_68 (q := 69) rfl 5 rfl ?_
    refine hn_get hF fl_X2_18 o1 rfl rfl dX2_goThrough_69 (q := 72) rfl ?_
    refine hn_iload hF dX2_goThrough_72 (q := 74) rfl 4 rfl ?_
    refine hn_ald hF a4 dX2_goThrough_74 (q := 75) rfl e (fun v7 e => ?_)
    refine hn_icmp_lt hF dX2_goThrough_75 (t := 102) (q := 78) rfl rfl e (fun e => ?_) (fun e => ?_)
    · refine hn_sub [5, 4, 1, 0] (L' := [(0, .ref (hn_base B + 1)), (4, .int ((l1 * 6) + l3)), (7, .int (v3 + v4)), (8, .int (v5 + v6))]) rfl ?_
      exact gX2_goThrough_102 hF hQ hV e
    · refine hn_iload hF dX2_goThrough_78 (q := 80) rfl 1 rfl ?_
      refine hn_aload_n hF dX2_goThrough_80 (q := 81) rfl 5 rfl ?_
      refine hn_get hF fl_X2_18 o1 rfl rfl dX2_goThrough_81 (q := 84) rfl ?_
      refine hn_iload hF dX2_goThrough_84 (q := 86) rfl 4 rfl ?_
      refine hn_ald hF a4 dX2_goThrough_86 (q := 87) rfl e (fun v8 e => ?_)
      refine hn_icmp_ne hF dX2_goThrough_87 (t := 120) (q := 90) rfl rfl e (fun e => ?_) (fun e => ?_)
      · exact hn_vretM hF hQ dX2_goThrough_120 e
      · refine hn_iload hF dX2_goThrough_90 (q := 92) rfl 0 rfl ?_
        refine hn_aload_n hF dX2_goThrough_92 (q := 93) rfl 5 rfl ?_
        refine hn_get hF fl_X2_21 o1 rfl rfl dX2_goThrough_93 (q := 96) rfl ?_
        refine hn_iload hF dX2_goThrough_96 (q := 98) rfl 4 rfl ?_
        refine hn_ald hF a5 dX2_goThrough_98 (q := 99) rfl e (fun v9 e => ?_)
        refine hn_icmp_le hF dX2_goThrough_99 (t := 120) (q := 102) rfl rfl e (fun e => ?_) (fun e => ?_)
        · exact hn_vretM hF hQ dX2_goThrough_120 e
        · refine hn_sub [5, 4, 1, 0] (L' := [(0, .ref (hn_base B + 1)), (4, .int ((l1 * 6) + l3)), (7, .int (v3 + v4)), (8, .int (v5 + v6))]) rfl ?_
          exact gX2_goThrough_102 hF hQ hV e
  · exact hn_vretM hF hQ dX2_goThrough_65 e
theorem cX2_goThrough_ {B : hn_B} {μ : hn_M} {R : hn_M} {l1 : Int32} {l2 : Int32} {l3 : Int32} (hV : hn_V B hn_nP) (e : fX2_goThrough l1 l2 l3 μ = some R) : hn_C yX2_goThrough cX2_goThrough 9 none 0 B [.ref (hn_base B + 1), .int l1, .int l2, .int l3] μ (none, R) :=
  hn_C.of RX2 (by decide) rfl (Nat.le_of_ble_eq_true rfl) (fun _ hF hQ => gX2_goThrough hF hQ hV e)
/-! HandNews$Posts.reckon()V -/
def fX2_reckon_41 (F : Nat) (k6 : Int32 → hn_M → Option hn_M) (k14 : Int32 → Int32 → hn_M → Option hn_M) (l1 : Int32) (l2 : Int32) (μ : hn_M) : Option hn_M := k14 l1 (l2 + 1) μ
def fX2_reckon_22 (F : Nat) (k6 : Int32 → hn_M → Option hn_M) (k14 : Int32 → Int32 → hn_M → Option hn_M) : Nat → Int32 → Int32 → Int32 → hn_M → Option hn_M
  | 0, _, _, _, _ => none
  | n + 1, l1, l2, l3, μ => if 6 ≤ l3 then fX2_reckon_41 F k6 k14 l1 l2 μ else (fX2_goThrough l2 l1 l3 μ).bind fun μ1 => fX2_reckon_22 F k6 k14 n l1 l2 (l3 + 1) μ1
def fX2_reckon_47 (F : Nat) (k6 : Int32 → hn_M → Option hn_M) (l1 : Int32) (μ : hn_M) : Option hn_M := k6 (l1 + 1) μ
def fX2_reckon_14 (F : Nat) (k6 : Int32 → hn_M → Option hn_M) : Nat → Int32 → Int32 → hn_M → Option hn_M
  | 0, _, _, _ => none
  | n + 1, l1, l2, μ => if 6 ≤ l2 then fX2_reckon_47 F k6 l1 μ else fX2_reckon_22 F k6 (fX2_reckon_14 F k6 n) F l1 l2 0 μ
def fX2_reckon_6 (F : Nat) : Nat → Int32 → hn_M → Option hn_M
  | 0, _, _ => none
  | n + 1, l1, μ => if 6 ≤ l1 then some μ else fX2_reckon_14 F (fX2_reckon_6 F n) F l1 0 μ
def fX2_reckon (F : Nat) (μ : hn_M) : Option hn_M := (fX2_layPosts F μ).bind fun μ2 => fX2_reckon_6 F F 0 μ2
set_option maxHeartbeats 1000000 in
theorem gX2_reckon_41 {Z : hn_Z} {B : hn_B} {F : Nat} {R : hn_M} (hF : hn_F Z B (0, 0) cX2_reckon 4 RX2 none 1) (hQ : hn_goal Z B (none, R)) (hV : hn_V B hn_nP) {k6 : Int32 → hn_M → Option hn_M} (H6 : ∀ (l1 : Int32) (μ : hn_M), k6 l1 μ = some R → hn_G Z B (0, 0) 4 6 [(0, .ref (hn_base B + 1)), (1, .int l1)] [] μ) {k14 : Int32 → Int32 → hn_M → Option hn_M} (H14 : ∀ (l1 : Int32) (l2 : Int32) (μ : hn_M), k14 l1 l2 μ = some R → hn_G Z B (0, 0) 4 14 [(0, .ref (hn_base B + 1)), (1, .int l1), (2, .int l2)] [] μ) {l1 : Int32} {l2 : Int32} {μ : hn_M} (e : fX2_reckon_41 F k6 k14 l1 l2 μ = some R) : hn_G Z B (0, 0) 4 41 [(0, .ref (hn_base B + 1)), (1, .int l1), (2, .int l2)] [] μ := by
  unfold fX2_reckon_41 at e
  refine hn_iinc (p := 2) hF dX2_reckon_41 (q := 44) rfl rfl (kn_1 _) (by decide) (L' := [(2, .int (l2 + 1)), (0, .ref (hn_base B + 1)), (1, .int l1)]) rfl ?_
  refine hn_goto hF dX2_reckon_44 (q := 14) rfl ?_
  refine hn_sub [1, 2, 0] (L' := [(0, .ref (hn_base B + 1)), (1, .int l1), (2, .int (l2 + 1))]) rfl ?_
  exact H14 l1 (l2 + 1) μ e
set_option maxHeartbeats 1000000 in
theorem gX2_reckon_22 {Z : hn_Z} {B : hn_B} {F : Nat} {R : hn_M} (hF : hn_F Z B (0, 0) cX2_reckon 4 RX2 none 1) (hQ : hn_goal Z B (none, R)) (hV : hn_V B hn_nP) {k6 : Int32 → hn_M → Option hn_M} (H6 : ∀ (l1 : Int32) (μ : hn_M), k6 l1 μ = some R → hn_G Z B (0, 0) 4 6 [(0, .ref (hn_base B + 1)), (1, .int l1)] [] μ) {k14 : Int32 → Int32 → hn_M → Option hn_M} (H14 : ∀ (l1 : Int32) (l2 : Int32) (μ : hn_M), k14 l1 l2 μ = some R → hn_G Z B (0, 0) 4 14 [(0, .ref (hn_base B + 1)), (1, .int l1), (2, .int l2)] [] μ) : ∀ (n : Nat) (l1 : Int32) (l2 : Int32) (l3 : Int32) (μ : hn_M), fX2_reckon_22 F k6 k14 n l1 l2 l3 μ = some R → hn_G Z B (0, 0) 4 22 [(0, .ref (hn_base B + 1)), (1, .int l1), (2, .int l2), (3, .int l3)] [] μ := by
  have o1 : hn_isO B 1 2 hn_k1 := hV 1 (by decide)
  intro n
  induction n with
  | zero => intro l1 l2 l3 μ e; rw [fX2_reckon_22] at e; cases e
  | succ n ih =>
    intro l1 l2 l3 μ e
    rw [fX2_reckon_22] at e
    refine hn_iload_n hF dX2_reckon_22 (q := 23) rfl 3 rfl ?_
    refine hn_bipush hF dX2_reckon_23 (q := 25) rfl kb_6 ?_
    refine hn_icmp_ge hF dX2_reckon_25 (t := 41) (q := 28) rfl rfl e (fun e => ?_) (fun e => ?_)
    · refine hn_sub [0, 1, 2] (L' := [(0, .ref (hn_base B + 1)), (1, .int l1), (2, .int l2)]) rfl ?_
      exact gX2_reckon_41 hF hQ hV H6 H14 e
    · refine hn_aload_n hF dX2_reckon_28 (q := 29) rfl 0 rfl ?_
      refine hn_iload_n hF dX2_reckon_29 (q := 30) rfl 2 rfl ?_
      refine hn_iload_n hF dX2_reckon_30 (q := 31) rfl 1 rfl ?_
      refine hn_iload_n hF dX2_reckon_31 (q := 32) rfl 3 rfl ?_
      refine hn_callVv (rest := []) hF ms_X2_goThrough mv_X2_goThrough lk_X2_35 o1 rfl (by decide) [.int l2, .int l1, .int l3] rfl (Nat.le_of_ble_eq_true rfl) dX2_reckon_32 (q := 35) rfl rfl e (fun v hv => cX2_goThrough_ hV hv) (fun μ1 e => ?_)
      refine hn_iinc (p := 3) hF dX2_reckon_35 (q := 38) rfl rfl (kn_1 _) (by decide) (L' := [(3, .int (l3 + 1)), (0, .ref (hn_base B + 1)), (1, .int l1), (2, .int l2)]) rfl ?_
      refine hn_goto hF dX2_reckon_38 (q := 22) rfl ?_
      refine hn_sub [1, 2, 3, 0] (L' := [(0, .ref (hn_base B + 1)), (1, .int l1), (2, .int l2), (3, .int (l3 + 1))]) rfl ?_
      exact ih l1 l2 (l3 + 1) μ1 e
set_option maxHeartbeats 1000000 in
theorem gX2_reckon_47 {Z : hn_Z} {B : hn_B} {F : Nat} {R : hn_M} (hF : hn_F Z B (0, 0) cX2_reckon 4 RX2 none 1) (hQ : hn_goal Z B (none, R)) (hV : hn_V B hn_nP) {k6 : Int32 → hn_M → Option hn_M} (H6 : ∀ (l1 : Int32) (μ : hn_M), k6 l1 μ = some R → hn_G Z B (0, 0) 4 6 [(0, .ref (hn_base B + 1)), (1, .int l1)] [] μ) {l1 : Int32} {μ : hn_M} (e : fX2_reckon_47 F k6 l1 μ = some R) : hn_G Z B (0, 0) 4 47 [(0, .ref (hn_base B + 1)), (1, .int l1)] [] μ := by
  unfold fX2_reckon_47 at e
  refine hn_iinc (p := 1) hF dX2_reckon_47 (q := 50) rfl rfl (kn_1 _) (by decide) (L' := [(1, .int (l1 + 1)), (0, .ref (hn_base B + 1))]) rfl ?_
  refine hn_goto hF dX2_reckon_50 (q := 6) rfl ?_
  refine hn_sub [1, 0] (L' := [(0, .ref (hn_base B + 1)), (1, .int (l1 + 1))]) rfl ?_
  exact H6 (l1 + 1) μ e
set_option maxHeartbeats 1000000 in
theorem gX2_reckon_14 {Z : hn_Z} {B : hn_B} {F : Nat} {R : hn_M} (hF : hn_F Z B (0, 0) cX2_reckon 4 RX2 none 1) (hQ : hn_goal Z B (none, R)) (hV : hn_V B hn_nP) {k6 : Int32 → hn_M → Option hn_M} (H6 : ∀ (l1 : Int32) (μ : hn_M), k6 l1 μ = some R → hn_G Z B (0, 0) 4 6 [(0, .ref (hn_base B + 1)), (1, .int l1)] [] μ) : ∀ (n : Nat) (l1 : Int32) (l2 : Int32) (μ : hn_M), fX2_reckon_14 F k6 n l1 l2 μ = some R → hn_G Z B (0, 0) 4 14 [(0, .ref (hn_base B + 1)), (1, .int l1), (2, .int l2)] [] μ := by
  intro n
  induction n with
  | zero => intro l1 l2 μ e; rw [fX2_reckon_14] at e; cases e
  | succ n ih =>
    intro l1 l2 μ e
    rw [fX2_reckon_14] at e
    refine hn_iload_n hF dX2_reckon_14 (q := 15) rfl 2 rfl ?_
    refine hn_bipush hF dX2_reckon_15 (q := 17) rfl kb_6 ?_
    refine hn_icmp_ge hF dX2_reckon_17 (t := 47) (q := 20) rfl rfl e (fun e => ?_) (fun e => ?_)
    · refine hn_sub [0, 1] (L' := [(0, .ref (hn_base B + 1)), (1, .int l1)]) rfl ?_
      exact gX2_reckon_47 hF hQ hV H6 e
    · refine hn_iconst hF dX2_reckon_20 (q := 21) rfl ki_0 ?_
      refine hn_istore_n hF dX2_reckon_21 (q := 22) rfl (i := 3) rfl (by decide) (L' := [(3, .int 0), (0, .ref (hn_base B + 1)), (1, .int l1), (2, .int l2)]) rfl ?_
      refine hn_sub [1, 2, 3, 0] (L' := [(0, .ref (hn_base B + 1)), (1, .int l1), (2, .int l2), (3, .int 0)]) rfl ?_
      exact gX2_reckon_22 hF hQ hV H6 ih F l1 l2 0 μ e
set_option maxHeartbeats 1000000 in
theorem gX2_reckon_6 {Z : hn_Z} {B : hn_B} {F : Nat} {R : hn_M} (hF : hn_F Z B (0, 0) cX2_reckon 4 RX2 none 1) (hQ : hn_goal Z B (none, R)) (hV : hn_V B hn_nP) : ∀ (n : Nat) (l1 : Int32) (μ : hn_M), fX2_reckon_6 F n l1 μ = some R → hn_G Z B (0, 0) 4 6 [(0, .ref (hn_base B + 1)), (1, .int l1)] [] μ := by
  intro n
  induction n with
  | zero => intro l1 μ e; rw [fX2_reckon_6] at e; cases e
  | succ n ih =>
    intro l1 μ e
    rw [fX2_reckon_6] at e
    refine hn_iload_n hF dX2_reckon_6 (q := 7) rfl 1 rfl ?_
    refine hn_bipush hF dX2_reckon_7 (q := 9) rfl kb_6 ?_
    refine hn_icmp_ge hF dX2_reckon_9 (t := 53) (q := 12) rfl rfl e (fun e => ?_) (fun e => ?_)
    · exact hn_vretM hF hQ dX2_reckon_53 e
    · refine hn_iconst hF dX2_reckon_12 (q := 13) rfl ki_0 ?_
      refine hn_istore_n hF dX2_reckon_13 (q := 14) rfl (i := 2) rfl (by decide) (L' := [(2, .int 0), (0, .ref (hn_base B + 1)), (1, .int l1)]) rfl ?_
      refine hn_sub [1, 2, 0] (L' := [(0, .ref (hn_base B + 1)), (1, .int l1), (2, .int 0)]) rfl ?_
      exact gX2_reckon_14 hF hQ hV ih F l1 0 μ e
set_option maxHeartbeats 1000000 in
theorem gX2_reckon {Z : hn_Z} {B : hn_B} {F : Nat} {R : hn_M} (hF : hn_F Z B (0, 0) cX2_reckon 4 RX2 none 1) (hQ : hn_goal Z B (none, R)) (hV : hn_V B hn_nP) {μ : hn_M} (e : fX2_reckon F μ = some R) : hn_G Z B (0, 0) 4 0 [(0, .ref (hn_base B + 1))] [] μ := by
  unfold fX2_reckon at e
  have o1 : hn_isO B 1 2 hn_k1 := hV 1 (by decide)
  refine hn_aload_n hF dX2_reckon_0 (q := 1) rfl 0 rfl ?_
  refine hn_callVv (rest := []) hF ms_X2_layPosts mv_X2_layPosts lk_X2_32 o1 rfl (by decide) [] rfl (Nat.le_of_ble_eq_true rfl) dX2_reckon_1 (q := 4) rfl rfl e (fun v hv => cX2_layPosts_ hV hv) (fun μ2 e => ?_)
  refine hn_iconst hF dX2_reckon_4 (q := 5) rfl ki_0 ?_
  refine hn_istore_n hF dX2_reckon_5 (q := 6) rfl (i := 1) rfl (by decide) (L' := [(1, .int 0), (0, .ref (hn_base B + 1))]) rfl ?_
  refine hn_sub [1, 0] (L' := [(0, .ref (hn_base B + 1)), (1, .int 0)]) rfl ?_
  exact gX2_reckon_6 hF hQ hV F 0 μ2 e
theorem cX2_reckon_ {B : hn_B} {F : Nat} {μ : hn_M} {R : hn_M} (hV : hn_V B hn_nP) (e : fX2_reckon F μ = some R) : hn_C yX2_reckon cX2_reckon 4 none 1 B [.ref (hn_base B + 1)] μ (none, R) :=
  hn_C.of RX2 (by decide) rfl (Nat.le_of_ble_eq_true rfl) (fun _ hF hQ => gX2_reckon hF hQ hV e)
/-! HandNews$Posts.tell(IIII)V -/
def fX2_tell_28 (F : Nat) (l3 : Int32) (l4 : Int32) (l5 : Int32) (μ : hn_M) : Option hn_M := hn_wr μ 2 36 l5 l3 fun μ1 => hn_wr μ1 3 36 l5 l4 fun μ2 => (fX2_reckon F μ2).bind fun μ3 => some μ3
def fX2_tell (F : Nat) (l1 : Int32) (l2 : Int32) (l3 : Int32) (l4 : Int32) (μ : hn_M) : Option hn_M := hn_rd μ 2 36 ((l1 * 6) + l2) fun v4 => if v4 = 0 then hn_pf μ 1 4 ((μ 1 4) + 1) fun μ5 => fX2_tell_28 F l3 l4 ((l1 * 6) + l2) μ5 else fX2_tell_28 F l3 l4 ((l1 * 6) + l2) μ
set_option maxHeartbeats 1000000 in
theorem gX2_tell_28 {Z : hn_Z} {B : hn_B} {F : Nat} {R : hn_M} (hF : hn_F Z B (0, 0) cX2_tell 6 RX2 none 2) (hQ : hn_goal Z B (none, R)) (hV : hn_V B hn_nP) {l3 : Int32} {l4 : Int32} {l5 : Int32} {μ : hn_M} (e : fX2_tell_28 F l3 l4 l5 μ = some R) : hn_G Z B (0, 0) 6 28 [(0, .ref (hn_base B + 1)), (3, .int l3), (4, .int l4), (5, .int l5)] [] μ := by
  unfold fX2_tell_28 at e
  have a2 : hn_isA B 2 false 36 := hV 2 (by decide)
  have a3 : hn_isA B 3 false 36 := hV 3 (by decide)
  have o1 : hn_isO B 1 2 hn_k1 := hV 1 (by decide)
  refine hn_aload_n hF dX2_tell_28 (q := 29) rfl 0 rfl ?_
  refine hn_get hF fl_X2_9 o1 rfl rfl dX2_tell_29 (q := 32) rfl ?_
  refine hn_iload hF dX2_tell_32 (q := 34) rfl 3 rfl ?_
  refine hn_iload_n hF dX2_tell_34 (q := 35) rfl 1 rfl ?_
  refine hn_ast hF a2 dX2_tell_35 (q := 36) rfl e (fun μ1 e => ?_)
  refine hn_aload_n hF dX2_tell_36 (q := 37) rfl 0 rfl ?_
  refine hn_get hF fl_X2_15 o1 rfl rfl dX2_tell_37 (q := 40) rfl ?_
  refine hn_iload hF dX2_tell_40 (q := 42) rfl 3 rfl ?_
  refine hn_iload hF dX2_tell_42 (q := 44) rfl 2 rfl ?_
  refine hn_ast hF a3 dX2_tell_44 (q := 45) rfl e (fun μ2 e => ?_)
  refine hn_aload_n hF dX2_tell_45 (q := 46) rfl 0 rfl ?_
  refine hn_callVv (rest := []) hF ms_X2_reckon mv_X2_reckon lk_X2_28 o1 rfl (by decide) [] rfl (Nat.le_of_ble_eq_true rfl) dX2_tell_46 (q := 49) rfl rfl e (fun v hv => cX2_reckon_ hV hv) (fun μ3 e => ?_)
  exact hn_vretM hF hQ dX2_tell_49 e
set_option maxHeartbeats 1000000 in
theorem gX2_tell {Z : hn_Z} {B : hn_B} {F : Nat} {R : hn_M} (hF : hn_F Z B (0, 0) cX2_tell 6 RX2 none 2) (hQ : hn_goal Z B (none, R)) (hV : hn_V B hn_nP) {l1 : Int32} {l2 : Int32} {l3 : Int32} {l4 : Int32} {μ : hn_M} (e : fX2_tell F l1 l2 l3 l4 μ = some R) : hn_G Z B (0, 0) 6 0 [(0, .ref (hn_base B + 1)), (1, .int l1), (2, .int l2), (3, .int l3), (4, .int l4)] [] μ := by
  unfold fX2_tell at e
  have a2 : hn_isA B 2 false 36 := hV 2 (by decide)
  have o1 : hn_isO B 1 2 hn_k1 := hV 1 (by decide)
  refine hn_iload_n hF dX2_tell_0 (q := 1) rfl 1 rfl ?_
  refine hn_bipush hF dX2_tell_1 (q := 3) rfl kb_6 ?_
  refine hn_imul hF dX2_tell_3 (q := 4) rfl ?_
  refine hn_iload_n hF dX2_tell_4 (q := 5) rfl 2 rfl ?_
  refine hn_iadd hF dX2_tell_5 (q := 6) rfl ?_
  refine hn_istore hF dX2_tell_6 (q := 8) rfl (by decide) (L' := [(5, .int ((l1 * 6) + l2)), (0, .ref (hn_base B + 1)), (1, .int l1), (2, .int l2), (3, .int l3), (4, .int l4)]) rfl ?_
  refine hn_aload_n hF dX2_tell_8 (q := 9) rfl 1 rfl ?_
  refine hn_get hF fl_X2_9 o1 rfl rfl dX2_tell_9 (q := 12) rfl ?_
  refine hn_iload hF dX2_tell_12 (q := 14) rfl 0 rfl ?_
  refine hn_ald hF a2 dX2_tell_14 (q := 15) rfl e (fun v4 e => ?_)
  refine hn_if_ne hF dX2_tell_15 (t := 28) (q := 18) rfl rfl e (fun e => ?_) (fun e => ?_)
  · refine hn_sub [1, 4, 5, 0] (L' := [(0, .ref (hn_base B + 1)), (3, .int l3), (4, .int l4), (5, .int ((l1 * 6) + l2))]) rfl ?_
    exact gX2_tell_28 hF hQ hV e
  · refine hn_aload_n hF dX2_tell_18 (q := 19) rfl 1 rfl ?_
    refine hn_dup hF dX2_tell_19 (q := 20) rfl rfl ?_
    refine hn_get hF fl_X2_24 o1 rfl rfl dX2_tell_20 (q := 23) rfl ?_
    refine hn_iconst hF dX2_tell_23 (q := 24) rfl ki_1 ?_
    refine hn_iadd hF dX2_tell_24 (q := 25) rfl ?_
    refine hn_put hF fl_X2_24 fp_X2_4 o1 rfl rfl rfl rfl dX2_tell_25 (q := 28) rfl e (fun μ5 e => ?_)
    refine hn_sub [1, 4, 5, 0] (L' := [(0, .ref (hn_base B + 1)), (3, .int l3), (4, .int l4), (5, .int ((l1 * 6) + l2))]) rfl ?_
    exact gX2_tell_28 hF hQ hV e
theorem cX2_tell_ {B : hn_B} {F : Nat} {μ : hn_M} {R : hn_M} {l1 : Int32} {l2 : Int32} {l3 : Int32} {l4 : Int32} (hV : hn_V B hn_nP) (e : fX2_tell F l1 l2 l3 l4 μ = some R) : hn_C yX2_tell cX2_tell 6 none 2 B [.ref (hn_base B + 1), .int l1, .int l2, .int l3, .int l4] μ (none, R) :=
  hn_C.of RX2 (by decide) rfl (Nat.le_of_ble_eq_true rfl) (fun _ hF hQ => gX2_tell hF hQ hV e)
/-! HandNews$Posts.leads(II)Z -/
def fX2_leads (μ : hn_M) (l1 : Int32) (l2 : Int32) : Option Int32 := hn_rd μ 4 36 ((l1 * 6) + l2) fun v1 => if 1000000 ≤ v1 then some 0 else some 1
set_option maxHeartbeats 1000000 in
theorem gX2_leads {Z : hn_Z} {B : hn_B} {μ : hn_M} {R : Int32} (hF : hn_F Z B (0, 0) cX2_leads 3 RX2 (some .boolean) 0) (hQ : hn_goal Z B (some (.int R), μ)) (hV : hn_V B hn_nP) {l1 : Int32} {l2 : Int32} (e : fX2_leads μ l1 l2 = some R) : hn_G Z B (0, 0) 3 0 [(0, .ref (hn_base B + 1)), (1, .int l1), (2, .int l2)] [] μ := by
  unfold fX2_leads at e
  have a4 : hn_isA B 4 false 36 := hV 4 (by decide)
  have o1 : hn_isO B 1 2 hn_k1 := hV 1 (by decide)
  refine hn_aload_n hF dX2_leads_0 (q := 1) rfl 0 rfl ?_
  refine hn_get hF fl_X2_18 o1 rfl rfl dX2_leads_1 (q := 4) rfl ?_
  refine hn_iload_n hF dX2_leads_4 (q := 5) rfl 1 rfl ?_
  refine hn_bipush hF dX2_leads_5 (q := 7) rfl kb_6 ?_
  refine hn_imul hF dX2_leads_7 (q := 8) rfl ?_
  refine hn_iload_n hF dX2_leads_8 (q := 9) rfl 2 rfl ?_
  refine hn_iadd hF dX2_leads_9 (q := 10) rfl ?_
  refine hn_ald hF a4 dX2_leads_10 (q := 11) rfl e (fun v1 e => ?_)
  refine hn_ldc hF kd_X2_31 dX2_leads_11 (q := 13) rfl ?_
  refine hn_icmp_ge hF dX2_leads_13 (t := 20) (q := 16) rfl rfl e (fun e => ?_) (fun e => ?_)
  · refine hn_iconst hF dX2_leads_20 (q := 21) rfl ki_0 ?_
    exact hn_zretP hF hQ dX2_leads_21 (Or.inl rfl) e
  · refine hn_iconst hF dX2_leads_16 (q := 17) rfl ki_1 ?_
    refine hn_goto hF dX2_leads_17 (q := 21) rfl ?_
    exact hn_zretP hF hQ dX2_leads_21 (Or.inr rfl) e
theorem cX2_leads_ {B : hn_B} {μ : hn_M} {R : Int32} {l1 : Int32} {l2 : Int32} (hV : hn_V B hn_nP) (e : fX2_leads μ l1 l2 = some R) : hn_C yX2_leads cX2_leads 3 (some .boolean) 0 B [.ref (hn_base B + 1), .int l1, .int l2] μ (some (.int R), μ) :=
  hn_C.of RX2 (by decide) rfl (Nat.le_of_ble_eq_true rfl) (fun _ hF hQ => gX2_leads hF hQ hV e)
/-! HandNews$Posts.days(II)I -/
def fX2_days (μ : hn_M) (l1 : Int32) (l2 : Int32) : Option Int32 := hn_rd μ 4 36 ((l1 * 6) + l2) fun v1 => some v1
set_option maxHeartbeats 1000000 in
theorem gX2_days {Z : hn_Z} {B : hn_B} {μ : hn_M} {R : Int32} (hF : hn_F Z B (0, 0) cX2_days 3 RX2 (some .int) 0) (hQ : hn_goal Z B (some (.int R), μ)) (hV : hn_V B hn_nP) {l1 : Int32} {l2 : Int32} (e : fX2_days μ l1 l2 = some R) : hn_G Z B (0, 0) 3 0 [(0, .ref (hn_base B + 1)), (1, .int l1), (2, .int l2)] [] μ := by
  unfold fX2_days at e
  have a4 : hn_isA B 4 false 36 := hV 4 (by decide)
  have o1 : hn_isO B 1 2 hn_k1 := hV 1 (by decide)
  refine hn_aload_n hF dX2_days_0 (q := 1) rfl 0 rfl ?_
  refine hn_get hF fl_X2_18 o1 rfl rfl dX2_days_1 (q := 4) rfl ?_
  refine hn_iload_n hF dX2_days_4 (q := 5) rfl 1 rfl ?_
  refine hn_bipush hF dX2_days_5 (q := 7) rfl kb_6 ?_
  refine hn_imul hF dX2_days_7 (q := 8) rfl ?_
  refine hn_iload_n hF dX2_days_8 (q := 9) rfl 2 rfl ?_
  refine hn_iadd hF dX2_days_9 (q := 10) rfl ?_
  refine hn_ald hF a4 dX2_days_10 (q := 11) rfl e (fun v1 e => ?_)
  exact hn_iretP hF hQ dX2_days_11 e
theorem cX2_days_ {B : hn_B} {μ : hn_M} {R : Int32} {l1 : Int32} {l2 : Int32} (hV : hn_V B hn_nP) (e : fX2_days μ l1 l2 = some R) : hn_C yX2_days cX2_days 3 (some .int) 0 B [.ref (hn_base B + 1), .int l1, .int l2] μ (some (.int R), μ) :=
  hn_C.of RX2 (by decide) rfl (Nat.le_of_ble_eq_true rfl) (fun _ hF hQ => gX2_days hF hQ hV e)
/-! HandNews$Posts.slowestDays(II)I -/
def fX2_slowestDays (μ : hn_M) (l1 : Int32) (l2 : Int32) : Option Int32 := hn_rd μ 5 36 ((l1 * 6) + l2) fun v1 => some v1
set_option maxHeartbeats 1000000 in
theorem gX2_slowestDays {Z : hn_Z} {B : hn_B} {μ : hn_M} {R : Int32} (hF : hn_F Z B (0, 0) cX2_slowestDays 3 RX2 (some .int) 0) (hQ : hn_goal Z B (some (.int R), μ)) (hV : hn_V B hn_nP) {l1 : Int32} {l2 : Int32} (e : fX2_slowestDays μ l1 l2 = some R) : hn_G Z B (0, 0) 3 0 [(0, .ref (hn_base B + 1)), (1, .int l1), (2, .int l2)] [] μ := by
  unfold fX2_slowestDays at e
  have a5 : hn_isA B 5 false 36 := hV 5 (by decide)
  have o1 : hn_isO B 1 2 hn_k1 := hV 1 (by decide)
  refine hn_aload_n hF dX2_slowestDays_0 (q := 1) rfl 0 rfl ?_
  refine hn_get hF fl_X2_21 o1 rfl rfl dX2_slowestDays_1 (q := 4) rfl ?_
  refine hn_iload_n hF dX2_slowestDays_4 (q := 5) rfl 1 rfl ?_
  refine hn_bipush hF dX2_slowestDays_5 (q := 7) rfl kb_6 ?_
  refine hn_imul hF dX2_slowestDays_7 (q := 8) rfl ?_
  refine hn_iload_n hF dX2_slowestDays_8 (q := 9) rfl 2 rfl ?_
  refine hn_iadd hF dX2_slowestDays_9 (q := 10) rfl ?_
  refine hn_ald hF a5 dX2_slowestDays_10 (q := 11) rfl e (fun v1 e => ?_)
  exact hn_iretP hF hQ dX2_slowestDays_11 e
theorem cX2_slowestDays_ {B : hn_B} {μ : hn_M} {R : Int32} {l1 : Int32} {l2 : Int32} (hV : hn_V B hn_nP) (e : fX2_slowestDays μ l1 l2 = some R) : hn_C yX2_slowestDays cX2_slowestDays 3 (some .int) 0 B [.ref (hn_base B + 1), .int l1, .int l2] μ (some (.int R), μ) :=
  hn_C.of RX2 (by decide) rfl (Nat.le_of_ble_eq_true rfl) (fun _ hF hQ => gX2_slowestDays hF hQ hV e)
end
