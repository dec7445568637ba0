section
-- ===== PART A: goes FIRST, ahead of the names: the tables' words, and 'selects' of the private methods out of them =====
/-- a private method of a class that the tables say can be made, by its rows of tables_1 -/
def lw_okq (q : MethodName × Nat) : Prop := (q.1.cls ≠ "java/lang/invoke/MethodHandle" ∧ q.1.cls ≠ "java/lang/invoke/VarHandle") ∧ Cond.instantiable q.1.cls q.2 ∈ tables_1 ∧ Cond.privateMethod q.1 ∈ tables_1 ∧ Cond.instanceMethod q.1 ∈ tables_1
theorem lw_p0 : lw_okq (⟨"FeudBook", "needStatement", "(I)V"⟩, 11) := ⟨⟨by decide +kernel, by decide +kernel⟩, List.mem_of_getElem? (i := 30) (by decide +kernel), List.mem_of_getElem? (i := 397) (by decide +kernel), List.mem_of_getElem? (i := 398) (by decide +kernel)⟩
theorem lw_p1 : lw_okq (⟨"java/lang/Throwable", "fillInStackTrace", "(I)Ljava/lang/Throwable;"⟩, 6) := ⟨⟨by decide +kernel, by decide +kernel⟩, List.mem_of_getElem? (i := 439) (by decide +kernel), List.mem_of_getElem? (i := 437) (by decide +kernel), List.mem_of_getElem? (i := 438) (by decide +kernel)⟩
theorem lw_p2 : lw_okq (⟨"FeudBook", "needStanding", "(I)V"⟩, 11) := ⟨⟨by decide +kernel, by decide +kernel⟩, List.mem_of_getElem? (i := 30) (by decide +kernel), List.mem_of_getElem? (i := 502) (by decide +kernel), List.mem_of_getElem? (i := 503) (by decide +kernel)⟩
theorem lw_p3 : lw_okq (⟨"FeudBook$Peaces", "look", "(I)V"⟩, 7) := ⟨⟨by decide +kernel, by decide +kernel⟩, List.mem_of_getElem? (i := 262) (by decide +kernel), List.mem_of_getElem? (i := 526) (by decide +kernel), List.mem_of_getElem? (i := 527) (by decide +kernel)⟩
theorem lw_p4 : lw_okq (⟨"FeudBook$Peaces", "allOf", "(I)J"⟩, 7) := ⟨⟨by decide +kernel, by decide +kernel⟩, List.mem_of_getElem? (i := 262) (by decide +kernel), List.mem_of_getElem? (i := 530) (by decide +kernel), List.mem_of_getElem? (i := 531) (by decide +kernel)⟩
theorem lw_p5 : lw_okq (⟨"FeudBook$Peaces", "row", "(II)J"⟩, 7) := ⟨⟨by decide +kernel, by decide +kernel⟩, List.mem_of_getElem? (i := 262) (by decide +kernel), List.mem_of_getElem? (i := 536) (by decide +kernel), List.mem_of_getElem? (i := 537) (by decide +kernel)⟩
theorem lw_p6 : lw_okq (⟨"FeudBook", "needClaim", "(I)V"⟩, 11) := ⟨⟨by decide +kernel, by decide +kernel⟩, List.mem_of_getElem? (i := 30) (by decide +kernel), List.mem_of_getElem? (i := 553) (by decide +kernel), List.mem_of_getElem? (i := 554) (by decide +kernel)⟩
theorem lw_p7 : lw_okq (⟨"FeudBook$Web", "look", "(I)V"⟩, 6) := ⟨⟨by decide +kernel, by decide +kernel⟩, List.mem_of_getElem? (i := 237) (by decide +kernel), List.mem_of_getElem? (i := 562) (by decide +kernel), List.mem_of_getElem? (i := 563) (by decide +kernel)⟩
theorem lw_p8 : lw_okq (⟨"FeudBook$Web", "addStep", "(II)V"⟩, 6) := ⟨⟨by decide +kernel, by decide +kernel⟩, List.mem_of_getElem? (i := 237) (by decide +kernel), List.mem_of_getElem? (i := 575) (by decide +kernel), List.mem_of_getElem? (i := 576) (by decide +kernel)⟩
theorem lw_p9 : lw_okq (⟨"FeudBook$Web", "close", "()V"⟩, 6) := ⟨⟨by decide +kernel, by decide +kernel⟩, List.mem_of_getElem? (i := 237) (by decide +kernel), List.mem_of_getElem? (i := 582) (by decide +kernel), List.mem_of_getElem? (i := 583) (by decide +kernel)⟩
theorem lw_p10 : lw_okq (⟨"FeudBook$Web", "together", "(I)I"⟩, 6) := ⟨⟨by decide +kernel, by decide +kernel⟩, List.mem_of_getElem? (i := 237) (by decide +kernel), List.mem_of_getElem? (i := 589) (by decide +kernel), List.mem_of_getElem? (i := 590) (by decide +kernel)⟩
theorem lw_p11 : lw_okq (⟨"FeudBook$Web", "afterOneStep", "(I)I"⟩, 6) := ⟨⟨by decide +kernel, by decide +kernel⟩, List.mem_of_getElem? (i := 237) (by decide +kernel), List.mem_of_getElem? (i := 608) (by decide +kernel), List.mem_of_getElem? (i := 609) (by decide +kernel)⟩
theorem lw_p12 : lw_okq (⟨"FeudBook", "needPeace", "()V"⟩, 11) := ⟨⟨by decide +kernel, by decide +kernel⟩, List.mem_of_getElem? (i := 30) (by decide +kernel), List.mem_of_getElem? (i := 663) (by decide +kernel), List.mem_of_getElem? (i := 664) (by decide +kernel)⟩
theorem lw_p13 : lw_okq (⟨"FeudBook$Peaces", "narrow", "(I)Z"⟩, 7) := ⟨⟨by decide +kernel, by decide +kernel⟩, List.mem_of_getElem? (i := 262) (by decide +kernel), List.mem_of_getElem? (i := 677) (by decide +kernel), List.mem_of_getElem? (i := 678) (by decide +kernel)⟩
theorem lw_p14 : lw_okq (⟨"FeudBook", "needDays", "(I)V"⟩, 11) := ⟨⟨by decide +kernel, by decide +kernel⟩, List.mem_of_getElem? (i := 30) (by decide +kernel), List.mem_of_getElem? (i := 705) (by decide +kernel), List.mem_of_getElem? (i := 706) (by decide +kernel)⟩
theorem lw_p15 : lw_okq (⟨"FeudBook$Judge", "isDue", "(ILFeudBook$Course;)Z"⟩, 5) := ⟨⟨by decide +kernel, by decide +kernel⟩, List.mem_of_getElem? (i := 290) (by decide +kernel), List.mem_of_getElem? (i := 729) (by decide +kernel), List.mem_of_getElem? (i := 730) (by decide +kernel)⟩
def lw_privs_1 : List (MethodName × Nat) := [(⟨"FeudBook", "needStatement", "(I)V"⟩, 11), (⟨"java/lang/Throwable", "fillInStackTrace", "(I)Ljava/lang/Throwable;"⟩, 6), (⟨"FeudBook", "needStanding", "(I)V"⟩, 11), (⟨"FeudBook$Peaces", "look", "(I)V"⟩, 7), (⟨"FeudBook$Peaces", "allOf", "(I)J"⟩, 7), (⟨"FeudBook$Peaces", "row", "(II)J"⟩, 7), (⟨"FeudBook", "needClaim", "(I)V"⟩, 11), (⟨"FeudBook$Web", "look", "(I)V"⟩, 6), (⟨"FeudBook$Web", "addStep", "(II)V"⟩, 6), (⟨"FeudBook$Web", "close", "()V"⟩, 6), (⟨"FeudBook$Web", "together", "(I)I"⟩, 6), (⟨"FeudBook$Web", "afterOneStep", "(I)I"⟩, 6), (⟨"FeudBook", "needPeace", "()V"⟩, 11), (⟨"FeudBook$Peaces", "narrow", "(I)Z"⟩, 7), (⟨"FeudBook", "needDays", "(I)V"⟩, 11), (⟨"FeudBook$Judge", "isDue", "(ILFeudBook$Course;)Z"⟩, 5)]
theorem lw_r1 : ∀ q ∈ lw_privs_1, lw_okq q := List.forall_mem_cons.mpr ⟨lw_p0, List.forall_mem_cons.mpr ⟨lw_p1, List.forall_mem_cons.mpr ⟨lw_p2, List.forall_mem_cons.mpr ⟨lw_p3, List.forall_mem_cons.mpr ⟨lw_p4, List.forall_mem_cons.mpr ⟨lw_p5, List.forall_mem_cons.mpr ⟨lw_p6, List.forall_mem_cons.mpr ⟨lw_p7, List.forall_mem_cons.mpr ⟨lw_p8, List.forall_mem_cons.mpr ⟨lw_p9, List.forall_mem_cons.mpr ⟨lw_p10, List.forall_mem_cons.mpr ⟨lw_p11, List.forall_mem_cons.mpr ⟨lw_p12, List.forall_mem_cons.mpr ⟨lw_p13, List.forall_mem_cons.mpr ⟨lw_p14, List.forall_mem_cons.mpr ⟨lw_p15, fun _ h => absurd h List.not_mem_nil⟩⟩⟩⟩⟩⟩⟩⟩⟩⟩⟩⟩⟩⟩⟩⟩
theorem lw_p16 : lw_okq (⟨"FeudBook$Judge", "reckon", "(ILFeudBook$Course;)V"⟩, 5) := ⟨⟨by decide +kernel, by decide +kernel⟩, List.mem_of_getElem? (i := 290) (by decide +kernel), List.mem_of_getElem? (i := 741) (by decide +kernel), List.mem_of_getElem? (i := 742) (by decide +kernel)⟩
theorem lw_p17 : lw_okq (⟨"FeudBook$Judge", "push", "(I)V"⟩, 5) := ⟨⟨by decide +kernel, by decide +kernel⟩, List.mem_of_getElem? (i := 290) (by decide +kernel), List.mem_of_getElem? (i := 753) (by decide +kernel), List.mem_of_getElem? (i := 754) (by decide +kernel)⟩
theorem lw_p18 : lw_okq (⟨"FeudBook$Judge", "pop", "()I"⟩, 5) := ⟨⟨by decide +kernel, by decide +kernel⟩, List.mem_of_getElem? (i := 290) (by decide +kernel), List.mem_of_getElem? (i := 767) (by decide +kernel), List.mem_of_getElem? (i := 768) (by decide +kernel)⟩
theorem lw_p19 : lw_okq (⟨"FeudBook$Peaces", "fewestNotHoldingIn", "(II)I"⟩, 7) := ⟨⟨by decide +kernel, by decide +kernel⟩, List.mem_of_getElem? (i := 262) (by decide +kernel), List.mem_of_getElem? (i := 820) (by decide +kernel), List.mem_of_getElem? (i := 821) (by decide +kernel)⟩
theorem lw_p20 : lw_okq (⟨"FeudBook", "digestStatements", "(J)J"⟩, 11) := ⟨⟨by decide +kernel, by decide +kernel⟩, List.mem_of_getElem? (i := 30) (by decide +kernel), List.mem_of_getElem? (i := 840) (by decide +kernel), List.mem_of_getElem? (i := 841) (by decide +kernel)⟩
theorem lw_p21 : lw_okq (⟨"FeudBook", "digestClaims", "(J)J"⟩, 11) := ⟨⟨by decide +kernel, by decide +kernel⟩, List.mem_of_getElem? (i := 30) (by decide +kernel), List.mem_of_getElem? (i := 844) (by decide +kernel), List.mem_of_getElem? (i := 845) (by decide +kernel)⟩
theorem lw_p22 : lw_okq (⟨"FeudBook", "digestPeace", "(J)J"⟩, 11) := ⟨⟨by decide +kernel, by decide +kernel⟩, List.mem_of_getElem? (i := 30) (by decide +kernel), List.mem_of_getElem? (i := 848) (by decide +kernel), List.mem_of_getElem? (i := 849) (by decide +kernel)⟩
theorem lw_p23 : lw_okq (⟨"FeudBookLaw$Sim", "isDue", "([I)Z"⟩, 5) := ⟨⟨by decide +kernel, by decide +kernel⟩, List.mem_of_getElem? (i := 858) (by decide +kernel), List.mem_of_getElem? (i := 856) (by decide +kernel), List.mem_of_getElem? (i := 857) (by decide +kernel)⟩
theorem lw_p24 : lw_okq (⟨"FeudBookLaw$Sim", "count", "([II[I[I)V"⟩, 5) := ⟨⟨by decide +kernel, by decide +kernel⟩, List.mem_of_getElem? (i := 858) (by decide +kernel), List.mem_of_getElem? (i := 865) (by decide +kernel), List.mem_of_getElem? (i := 866) (by decide +kernel)⟩
theorem lw_p25 : lw_okq (⟨"FeudBookLaw$Sim", "isKept", "([I[I)Z"⟩, 5) := ⟨⟨by decide +kernel, by decide +kernel⟩, List.mem_of_getElem? (i := 858) (by decide +kernel), List.mem_of_getElem? (i := 869) (by decide +kernel), List.mem_of_getElem? (i := 870) (by decide +kernel)⟩
theorem lw_p26 : lw_okq (⟨"FeudBook$Tokens", "skipBlanks", "(LFeudBook$Tape;)V"⟩, 7) := ⟨⟨by decide +kernel, by decide +kernel⟩, List.mem_of_getElem? (i := 54) (by decide +kernel), List.mem_of_getElem? (i := 970) (by decide +kernel), List.mem_of_getElem? (i := 971) (by decide +kernel)⟩
theorem lw_p27 : lw_okq (⟨"FeudBook$Tokens", "readToken", "(LFeudBook$Tape;)I"⟩, 7) := ⟨⟨by decide +kernel, by decide +kernel⟩, List.mem_of_getElem? (i := 54) (by decide +kernel), List.mem_of_getElem? (i := 978) (by decide +kernel), List.mem_of_getElem? (i := 979) (by decide +kernel)⟩
theorem lw_p28 : lw_okq (⟨"FeudBook$Tokens", "readWord", "(LFeudBook$Tape;)I"⟩, 7) := ⟨⟨by decide +kernel, by decide +kernel⟩, List.mem_of_getElem? (i := 54) (by decide +kernel), List.mem_of_getElem? (i := 985) (by decide +kernel), List.mem_of_getElem? (i := 986) (by decide +kernel)⟩
theorem lw_p29 : lw_okq (⟨"FeudBook$Tokens", "readNumber", "(LFeudBook$Tape;)I"⟩, 7) := ⟨⟨by decide +kernel, by decide +kernel⟩, List.mem_of_getElem? (i := 54) (by decide +kernel), List.mem_of_getElem? (i := 989) (by decide +kernel), List.mem_of_getElem? (i := 990) (by decide +kernel)⟩
theorem lw_p30 : lw_okq (⟨"FeudBook$Tokens", "readSymbol", "(LFeudBook$Tape;I)I"⟩, 7) := ⟨⟨by decide +kernel, by decide +kernel⟩, List.mem_of_getElem? (i := 54) (by decide +kernel), List.mem_of_getElem? (i := 994) (by decide +kernel), List.mem_of_getElem? (i := 995) (by decide +kernel)⟩
theorem lw_p31 : lw_okq (⟨"FeudBook$Reader", "isNext", "(I)Z"⟩, 7) := ⟨⟨by decide +kernel, by decide +kernel⟩, List.mem_of_getElem? (i := 209) (by decide +kernel), List.mem_of_getElem? (i := 1006) (by decide +kernel), List.mem_of_getElem? (i := 1007) (by decide +kernel)⟩
def lw_privs_2 : List (MethodName × Nat) := [(⟨"FeudBook$Judge", "reckon", "(ILFeudBook$Course;)V"⟩, 5), (⟨"FeudBook$Judge", "push", "(I)V"⟩, 5), (⟨"FeudBook$Judge", "pop", "()I"⟩, 5), (⟨"FeudBook$Peaces", "fewestNotHoldingIn", "(II)I"⟩, 7), (⟨"FeudBook", "digestStatements", "(J)J"⟩, 11), (⟨"FeudBook", "digestClaims", "(J)J"⟩, 11), (⟨"FeudBook", "digestPeace", "(J)J"⟩, 11), (⟨"FeudBookLaw$Sim", "isDue", "([I)Z"⟩, 5), (⟨"FeudBookLaw$Sim", "count", "([II[I[I)V"⟩, 5), (⟨"FeudBookLaw$Sim", "isKept", "([I[I)Z"⟩, 5), (⟨"FeudBook$Tokens", "skipBlanks", "(LFeudBook$Tape;)V"⟩, 7), (⟨"FeudBook$Tokens", "readToken", "(LFeudBook$Tape;)I"⟩, 7), (⟨"FeudBook$Tokens", "readWord", "(LFeudBook$Tape;)I"⟩, 7), (⟨"FeudBook$Tokens", "readNumber", "(LFeudBook$Tape;)I"⟩, 7), (⟨"FeudBook$Tokens", "readSymbol", "(LFeudBook$Tape;I)I"⟩, 7), (⟨"FeudBook$Reader", "isNext", "(I)Z"⟩, 7)]
theorem lw_r2 : ∀ q ∈ lw_privs_2, lw_okq q := List.forall_mem_cons.mpr ⟨lw_p16, List.forall_mem_cons.mpr ⟨lw_p17, List.forall_mem_cons.mpr ⟨lw_p18, List.forall_mem_cons.mpr ⟨lw_p19, List.forall_mem_cons.mpr ⟨lw_p20, List.forall_mem_cons.mpr ⟨lw_p21, List.forall_mem_cons.mpr ⟨lw_p22, List.forall_mem_cons.mpr ⟨lw_p23, List.forall_mem_cons.mpr ⟨lw_p24, List.forall_mem_cons.mpr ⟨lw_p25, List.forall_mem_cons.mpr ⟨lw_p26, List.forall_mem_cons.mpr ⟨lw_p27, List.forall_mem_cons.mpr ⟨lw_p28, List.forall_mem_cons.mpr ⟨lw_p29, List.forall_mem_cons.mpr ⟨lw_p30, List.forall_mem_cons.mpr ⟨lw_p31, fun _ h => absurd h List.not_mem_nil⟩⟩⟩⟩⟩⟩⟩⟩⟩⟩⟩⟩⟩⟩⟩⟩
theorem lw_p32 : lw_okq (⟨"FeudBook$Reader", "readLine", "()Z"⟩, 7) := ⟨⟨by decide +kernel, by decide +kernel⟩, List.mem_of_getElem? (i := 209) (by decide +kernel), List.mem_of_getElem? (i := 1014) (by decide +kernel), List.mem_of_getElem? (i := 1015) (by decide +kernel)⟩
theorem lw_p33 : lw_okq (⟨"FeudBook$Reader", "readFamily", "()Z"⟩, 7) := ⟨⟨by decide +kernel, by decide +kernel⟩, List.mem_of_getElem? (i := 209) (by decide +kernel), List.mem_of_getElem? (i := 1018) (by decide +kernel), List.mem_of_getElem? (i := 1019) (by decide +kernel)⟩
theorem lw_p34 : lw_okq (⟨"FeudBook$Reader", "note", "(I)V"⟩, 7) := ⟨⟨by decide +kernel, by decide +kernel⟩, List.mem_of_getElem? (i := 209) (by decide +kernel), List.mem_of_getElem? (i := 1029) (by decide +kernel), List.mem_of_getElem? (i := 1030) (by decide +kernel)⟩
theorem lw_p35 : lw_okq (⟨"FeudBook$Reader", "readStatement", "(III)Z"⟩, 7) := ⟨⟨by decide +kernel, by decide +kernel⟩, List.mem_of_getElem? (i := 209) (by decide +kernel), List.mem_of_getElem? (i := 1033) (by decide +kernel), List.mem_of_getElem? (i := 1034) (by decide +kernel)⟩
theorem lw_p36 : lw_okq (⟨"FeudBook$Reader", "readStatementName", "()Z"⟩, 7) := ⟨⟨by decide +kernel, by decide +kernel⟩, List.mem_of_getElem? (i := 209) (by decide +kernel), List.mem_of_getElem? (i := 1037) (by decide +kernel), List.mem_of_getElem? (i := 1038) (by decide +kernel)⟩
theorem lw_p37 : lw_okq (⟨"FeudBook$Reader", "take", "(I)Z"⟩, 7) := ⟨⟨by decide +kernel, by decide +kernel⟩, List.mem_of_getElem? (i := 209) (by decide +kernel), List.mem_of_getElem? (i := 1041) (by decide +kernel), List.mem_of_getElem? (i := 1042) (by decide +kernel)⟩
theorem lw_p38 : lw_okq (⟨"FeudBook$Reader", "readClaim", "()I"⟩, 7) := ⟨⟨by decide +kernel, by decide +kernel⟩, List.mem_of_getElem? (i := 209) (by decide +kernel), List.mem_of_getElem? (i := 1045) (by decide +kernel), List.mem_of_getElem? (i := 1046) (by decide +kernel)⟩
theorem lw_p39 : lw_okq (⟨"FeudBook$Reader", "readKnownName", "([JI)I"⟩, 7) := ⟨⟨by decide +kernel, by decide +kernel⟩, List.mem_of_getElem? (i := 209) (by decide +kernel), List.mem_of_getElem? (i := 1049) (by decide +kernel), List.mem_of_getElem? (i := 1050) (by decide +kernel)⟩
theorem lw_p40 : lw_okq (⟨"FeudBook$Reader", "readOrder", "()Z"⟩, 7) := ⟨⟨by decide +kernel, by decide +kernel⟩, List.mem_of_getElem? (i := 209) (by decide +kernel), List.mem_of_getElem? (i := 1058) (by decide +kernel), List.mem_of_getElem? (i := 1059) (by decide +kernel)⟩
theorem lw_p41 : lw_okq (⟨"FeudBook$Reader", "readTest", "(I)Z"⟩, 7) := ⟨⟨by decide +kernel, by decide +kernel⟩, List.mem_of_getElem? (i := 209) (by decide +kernel), List.mem_of_getElem? (i := 1062) (by decide +kernel), List.mem_of_getElem? (i := 1063) (by decide +kernel)⟩
theorem lw_p42 : lw_okq (⟨"FeudBook$Reader", "readBoth", "(I)Z"⟩, 7) := ⟨⟨by decide +kernel, by decide +kernel⟩, List.mem_of_getElem? (i := 209) (by decide +kernel), List.mem_of_getElem? (i := 1066) (by decide +kernel), List.mem_of_getElem? (i := 1067) (by decide +kernel)⟩
theorem lw_p43 : lw_okq (⟨"FeudBook$Reader", "readSingle", "(I)Z"⟩, 7) := ⟨⟨by decide +kernel, by decide +kernel⟩, List.mem_of_getElem? (i := 209) (by decide +kernel), List.mem_of_getElem? (i := 1070) (by decide +kernel), List.mem_of_getElem? (i := 1071) (by decide +kernel)⟩
theorem lw_p44 : lw_okq (⟨"FeudBook$Reader", "takeDeeper", "(II)Z"⟩, 7) := ⟨⟨by decide +kernel, by decide +kernel⟩, List.mem_of_getElem? (i := 209) (by decide +kernel), List.mem_of_getElem? (i := 1074) (by decide +kernel), List.mem_of_getElem? (i := 1075) (by decide +kernel)⟩
theorem lw_p45 : lw_okq (⟨"FeudBook$Reader", "readSum", "(I)Z"⟩, 7) := ⟨⟨by decide +kernel, by decide +kernel⟩, List.mem_of_getElem? (i := 209) (by decide +kernel), List.mem_of_getElem? (i := 1082) (by decide +kernel), List.mem_of_getElem? (i := 1083) (by decide +kernel)⟩
theorem lw_p46 : lw_okq (⟨"FeudBook$Reader", "readProduct", "(I)Z"⟩, 7) := ⟨⟨by decide +kernel, by decide +kernel⟩, List.mem_of_getElem? (i := 209) (by decide +kernel), List.mem_of_getElem? (i := 1086) (by decide +kernel), List.mem_of_getElem? (i := 1087) (by decide +kernel)⟩
theorem lw_p47 : lw_okq (⟨"FeudBook$Reader", "readValue", "(I)Z"⟩, 7) := ⟨⟨by decide +kernel, by decide +kernel⟩, List.mem_of_getElem? (i := 209) (by decide +kernel), List.mem_of_getElem? (i := 1090) (by decide +kernel), List.mem_of_getElem? (i := 1091) (by decide +kernel)⟩
def lw_privs_3 : List (MethodName × Nat) := [(⟨"FeudBook$Reader", "readLine", "()Z"⟩, 7), (⟨"FeudBook$Reader", "readFamily", "()Z"⟩, 7), (⟨"FeudBook$Reader", "note", "(I)V"⟩, 7), (⟨"FeudBook$Reader", "readStatement", "(III)Z"⟩, 7), (⟨"FeudBook$Reader", "readStatementName", "()Z"⟩, 7), (⟨"FeudBook$Reader", "take", "(I)Z"⟩, 7), (⟨"FeudBook$Reader", "readClaim", "()I"⟩, 7), (⟨"FeudBook$Reader", "readKnownName", "([JI)I"⟩, 7), (⟨"FeudBook$Reader", "readOrder", "()Z"⟩, 7), (⟨"FeudBook$Reader", "readTest", "(I)Z"⟩, 7), (⟨"FeudBook$Reader", "readBoth", "(I)Z"⟩, 7), (⟨"FeudBook$Reader", "readSingle", "(I)Z"⟩, 7), (⟨"FeudBook$Reader", "takeDeeper", "(II)Z"⟩, 7), (⟨"FeudBook$Reader", "readSum", "(I)Z"⟩, 7), (⟨"FeudBook$Reader", "readProduct", "(I)Z"⟩, 7), (⟨"FeudBook$Reader", "readValue", "(I)Z"⟩, 7)]
theorem lw_r3 : ∀ q ∈ lw_privs_3, lw_okq q := List.forall_mem_cons.mpr ⟨lw_p32, List.forall_mem_cons.mpr ⟨lw_p33, List.forall_mem_cons.mpr ⟨lw_p34, List.forall_mem_cons.mpr ⟨lw_p35, List.forall_mem_cons.mpr ⟨lw_p36, List.forall_mem_cons.mpr ⟨lw_p37, List.forall_mem_cons.mpr ⟨lw_p38, List.forall_mem_cons.mpr ⟨lw_p39, List.forall_mem_cons.mpr ⟨lw_p40, List.forall_mem_cons.mpr ⟨lw_p41, List.forall_mem_cons.mpr ⟨lw_p42, List.forall_mem_cons.mpr ⟨lw_p43, List.forall_mem_cons.mpr ⟨lw_p44, List.forall_mem_cons.mpr ⟨lw_p45, List.forall_mem_cons.mpr ⟨lw_p46, List.forall_mem_cons.mpr ⟨lw_p47, fun _ h => absurd h List.not_mem_nil⟩⟩⟩⟩⟩⟩⟩⟩⟩⟩⟩⟩⟩⟩⟩⟩
theorem lw_p48 : lw_okq (⟨"FeudBook", "begin", "()V"⟩, 11) := ⟨⟨by decide +kernel, by decide +kernel⟩, List.mem_of_getElem? (i := 30) (by decide +kernel), List.mem_of_getElem? (i := 1109) (by decide +kernel), List.mem_of_getElem? (i := 1110) (by decide +kernel)⟩
def lw_privs_4 : List (MethodName × Nat) := [(⟨"FeudBook", "begin", "()V"⟩, 11)]
theorem lw_r4 : ∀ q ∈ lw_privs_4, lw_okq q := List.forall_mem_cons.mpr ⟨lw_p48, fun _ h => absurd h List.not_mem_nil⟩
def lw_privs : List (MethodName × Nat) := lw_privs_1 ++ (lw_privs_2 ++ (lw_privs_3 ++ (lw_privs_4)))
def lw_tbl : List Cond := k2_sels lw_privs ++ tables_1
theorem lw_privs_ok : ∀ q ∈ lw_privs, lw_okq q := by
  show ∀ q ∈ lw_privs_1 ++ (lw_privs_2 ++ (lw_privs_3 ++ (lw_privs_4))), lw_okq q
  exact List.forall_mem_append.mpr ⟨lw_r1, List.forall_mem_append.mpr ⟨lw_r2, List.forall_mem_append.mpr ⟨lw_r3, lw_r4⟩⟩⟩
/-- the streams that the claim lets the run draw from -/
abbrev lw_cs : List Choice := [Jvm.Choice.named "NaN.bits"]
theorem lw_bits : nanBits ∈ lw_cs := by first | decide | exact List.mem_cons_self | simp [lw_cs, nanBits]
-- ===== end of PART A; then your names; then what follows =====
end
section
/-! ===== BEGIN words of one list among another's, by their places ===== -/
theorem goodIn_r {big : List Cond} (ws : List Cond) (ps : List Nat) (hp : ws = ps.filterMap (fun i => big[i]?)) (h : ws.all goodWord = true) : GoodIn big ws := by
  intro w hw
  have h1 := List.all_eq_true.mp h w hw
  rw [hp] at hw
  obtain ⟨i, -, hi⟩ := List.mem_filterMap.mp hw
  have hm : w ∈ big := by first | exact List.mem_of_getElem? hi | exact List.getElem?_mem hi
  exact ⟨hm, good_of_word h1⟩
theorem goodIn_app {big a b : List Cond} (ha : GoodIn big a) (hb : GoodIn big b) : GoodIn big (a ++ b) := fun w h => (List.mem_append.mp h).elim (ha w) (hb w)
theorem goodIn_ca {big a b : List Cond} {c : Cond} (ha : GoodIn big (c :: a)) (hb : GoodIn big b) : GoodIn big (c :: (a ++ b)) := fun w h => (List.mem_cons.mp h).elim (fun e => ha w (List.mem_cons.mpr (Or.inl e))) (fun h => (List.mem_append.mp h).elim (fun h => ha w (List.mem_cons.mpr (Or.inr h))) (hb w))
theorem goodIn_sub {big ws : List Cond} (hm : ∀ w ∈ ws, w ∈ big) (h : ws.all goodWord = true) : GoodIn big ws := fun w hw => ⟨hm w hw, good_of_word (List.all_eq_true.mp h w hw)⟩
/-! ===== END ===== -/

/-! ===== BEGIN exceptions that leave a method, and their catching by the caller (launches without stack traces) ===== -/
section VXA
/-! The laws vx_back, vx_callV, vx_callS, vx_callSW, vx_throw0, vx_throwS follow proofs of the library, with one case more: JvmDerived/Free/Laws.lean (Back.of_free), Shelf42/LK1.lean (callV, callS), Shelf/KitTraced.lean (throwNew0V, throwNewS). -/
/-- where a method has thrown q: the class by its name, the cell, what was written, the world -/
def vx_T (XC : String → State → State → Prop) (st : State) (q : Addr) (t : State) (mc ms : Nat) (free : Addr → Prop) : Prop :=
  ∃ (E : String) (ce : Cell) (L : List Loc), XC E st t ∧ t.heap[q]? = some ce ∧ ce.vm = .none ∧ st.vm.findClass E = some ce.cls ∧ st.WarmedH t.vm ∧ st.sameButNew ({ t with vm := st.vm } : State) L mc ms ∧ ∀ z ∈ L, free z.base
def vx_Q (Qc : Array Value → State → Outcome → State → Prop) (XC : String → State → State → Prop) (mc ms : Nat) (free : Addr → Prop) : Array Value → State → Outcome → State → Prop := fun a st o t =>
  (Qc a st o t ∧ ∃ L, FrameEnd st o t L mc ms ∧ ∀ q ∈ L, free q.base) ∨ ∃ q, o = .threw q ∧ vx_T XC st q t mc ms free
/-- a callee that returns or throws -/
def vx_Met (l : Launch) (y : MethodName) (ws : List Cond) (rm : Room) (Pc : Array Value → State → Prop) (Qc : Array Value → State → Outcome → State → Prop) (XC : String → State → State → Prop) (mc ms : Nat) (free : Addr → Prop) : Prop :=
  MetFree l y (headSpec ws rm) Pc (fun _ _ _ _ _ => True) (vx_Q Qc XC mc ms free)
def vx_Post (XC : String → State → State → Prop) (mc ms : Nat) (free : Addr → Prop) : Pt → Array Value → Addr → Pt → Prop := fun A a q B =>
  ∃ (g : JFrame) (mk : MethodId) (t : State) (L : List Loc) (E : String) (ce : Cell), B.U.heap = t.heap ∧ B.U.vm = t.vm ∧ XC E (A.U.calling g mk a) t ∧ t.heap[q]? = some ce ∧ ce.vm = .none ∧ A.U.vm.findClass E = some ce.cls ∧ B.locs = A.locs ++ L ∧ (∀ z ∈ L, free z.base) ∧ B.cells = A.cells + mc ∧ B.slots = A.slots + ms
def vx_Back (l : Launch) (R : Room) (p : Program) (e : Env) (below : List Frame) (s : State) (sargs : Array Value) (y : MethodName) (len W9 : Nat)
    (Pre : Pt → Array Value → Prop) (Post : Pt → Array Value → Option Value → Pt → Prop) (PostX : Pt → Array Value → Addr → Pt → Prop) : Prop :=
  ∀ (m : MethodId) (meth : Method) (c : Code) (A : Pt) (g : JFrame) (ig : Instr) (mk : MethodId) (a : Array Value),
    Stand p l e R s m sargs below meth c A.U A.locs A.cells A.slots → g.method = m → g.locals.size = c.maxLocals → decode c.code g.pc = .ok (ig, len) →
    2 * g.monitorRoom + (g.stack.map fun v => v.category).sum ≤ W9 → A.U.methodNamed? y = some mk → Pre A a →
    (∃ (v : Option Value) (B : Pt), Stand p l e R s m sargs below meth c B.U B.locs B.cells B.slots ∧ Post A a v B ∧
      Steps p.tables e below (doInvoke e (A.U.setTop g) [] mk a).1 (B.U.setTop { g with pc := g.pc + len, stack := v.toList ++ g.stack })) ∨
    (∃ (q : Addr) (B : Pt), Stand p l e R s m sargs below meth c B.U B.locs B.cells B.slots ∧ PostX A a q B ∧
      Steps p.tables e below (doInvoke e (A.U.setTop g) [] mk a).1 ((B.U.setTop g).pushFrame (.throwing q)))
section Payer
variable {l : Launch} {R : Room} {p : Program} {e : Env} {below : List Frame} {s : State} {sargs : Array Value} {y : MethodName} {len W9 : Nat}
theorem vx_back {ws : List Cond} {rm : Room} {Pc : Array Value → State → Prop} {Qc : Array Value → State → Outcome → State → Prop} {XC : String → State → State → Prop} {mc ms : Nat} {free : Addr → Prop} {bytes : ByteArray} {maxL : Nat} {ret : Option FieldType}
    (hM : vx_Met l y ws rm Pc Qc XC mc ms free) (hblind : FrameBlind Pc) (hrc : rm.cells = mc) (hrs : rm.slots = ms)
    (hframes : rm.frames + 1 ≤ R.frames) (hlocals : W9 + (maxL + 11) + rm.locals ≤ R.locals)
    (hws : ∀ w ∈ ws, ∀ a' U, s.WarmedH U.vm → w.before a' U = true) (hcode : Cond.code y bytes maxL ret ∈ ws) (hinit : ∀ a' U, s.WarmedH U.vm → (Cond.initialized y.cls).before a' U = true) :
    vx_Back l R p e below s sargs y len W9 (PreOf R mc ms Pc) (PostOf Qc mc ms free) (vx_Post XC mc ms free) := by
  intro m meth c A g ig mk a X hg hsize hdg hW hn hp
  have h1 : (headSpec ws rm).pre.before a A.U = true := atoms_intro fun w hw => hws w hw _ _ X.warmed
  have h2 : (Cond.code y bytes maxL ret).before a A.U = true := hws _ hcode _ _ X.warmed
  have h3 : (Cond.initialized y.cls).before a A.U = true := hinit _ _ X.warmed
  have h4 : A.cells + (headSpec ws rm).room.cells ≤ R.cells := by rw [show (headSpec ws rm).room.cells = mc from hrc]; exact hp.1
  have h5 : A.slots + (headSpec ws rm).room.slots ≤ R.slots := by rw [show (headSpec ws rm).room.slots = ms from hrs]; exact hp.2.1
  have hPc : Pc a (A.U.calling g mk a) := hblind _ _ _ _ hp.2.2
  obtain ⟨U, Ls, c0, s0⟩ := A
  dsimp only [Pt.U, Pt.locs, Pt.cells, Pt.slots] at h1 h2 h3 h4 h5 X hn hPc ⊢
  obtain ⟨methY, cY, hmY, hcY, -, hlY, -, -, -, -⟩ := Cond.code_spec hn h2
  obtain ⟨kY, hkY, -⟩ := className_of_methodNamed hn
  have hinitY : kY.init = .initialized := Cond.initialized_spec (findClass_of_methodNamed hn) hkY h3
  have h : At U g.method c below := by rw [hg]; exact X.here
  have hlocals9 : W9 + (maxL + 11) + (headSpec ws rm).room.locals ≤ R.locals := hlocals
  have happ : (headSpec ws rm).appliesLoose y e.platform (U.calling g mk a) = true :=
    Spec.appliesLoose_calling (g := g) h hdg hn hkY hinitY
      (X.room_calling (g := g) (R' := (headSpec ws rm).room) hsize hmY hcY hframes (by rw [hlY]; omega) h4 h5) h1
  obtain ⟨mid, hmid⟩ := h.above
  have hfr : (U.setTop g).frames = (.java g :: mid) ++ below := by rw [State.frames_setTop' g h.top, hmid]; rfl
  obtain ⟨o, s₂, hsteps, -, hend, hq⟩ := Steps.callFree hM p X.admits X.cas X.clock (acts := []) hfr happ hPc trivial
  have hq' : vx_Q Qc XC mc ms free a (U.calling g mk a) o s₂ := hq
  rw [State.frames_setTop' g h.top] at hend
  obtain ⟨g₀, hg0⟩ := Option.isSome_iff_exists.mp h.top
  obtain ⟨r, hr⟩ := State.topJava?_eq_some.mp hg0
  have hr' : (({ U with heap := s₂.heap, slotsUsed := s₂.slotsUsed } : State).setVm s₂.vm).frames = .java g₀ :: r := hr
  rcases hq' with ⟨hqc, L, hfe, hL⟩ | ⟨q, rfl, E, ce, L, hx, hce, hcv, hcl, hW₂, hsm, hL⟩
  · obtain ⟨⟨v, rfl⟩, hW₂, e2, q2, q3, q4, q5, q6⟩ := id hfe
    have e3 : s₂ = ({ (U.calling g mk a).setFrames s₂.frames with heap := s₂.heap, slotsUsed := s₂.slotsUsed } : State).setVm s₂.vm := by
      have : s₂ = ({ s₂ with vm := (U.calling g mk a).vm } : State).setVm s₂.vm := rfl
      rw [e2] at this
      exact this
    obtain ⟨c₂, i₂, len₂, hc₂, hd₂, hf₂⟩ := hend
    have hW' : U.WarmedH s₂.vm := hW₂
    have hcc : c₂ = c := by
      have h1 : s₂.code? g.method = U.code? g.method := by
        rw [State.code?_eq, State.code?_eq, hW'.alike.method?]
      exact Option.some.inj (hc₂.symm.trans (h1.trans h.code))
    subst hcc
    have hlen : len₂ = len := by rw [hdg] at hd₂; cases hd₂; rfl
    subst hlen
    have hs₂ : s₂ = (({ U with heap := s₂.heap, slotsUsed := s₂.slotsUsed } : State).setVm s₂.vm).setTop { g with pc := g.pc + len₂, stack := v.toList ++ g.stack } := by
      refine e3.trans ?_
      rw [hf₂, State.calling_eq h.top, State.setFrames_setFrames, State.setTop_of_frames _ hr', hr]
      rfl
    have hsame : U.sameButNew ({ U with heap := s₂.heap, slotsUsed := s₂.slotsUsed } : State) L mc ms := by
      refine ⟨?_, q2, q3, q4, q5, q6⟩
      obtain ⟨t, ht, -⟩ := State.frames_cons hr
      show ({ U with heap := s₂.heap, slotsUsed := s₂.slotsUsed } : State) = { U.setFrames U.frames with heap := s₂.heap, slotsUsed := s₂.slotsUsed }
      rw [State.setFrames_self ht]
    subst hg
    refine Or.inl ⟨v, ⟨(({ U with heap := s₂.heap, slotsUsed := s₂.slotsUsed } : State).setVm s₂.vm), Ls ++ L, c0 + mc, s0 + ms⟩,
      ⟨X.admits, X.cas, X.clock, X.frames, X.room, X.hears, X.method, X.code, (X.here.setHeapUsed s₂.heap s₂.slotsUsed).setVm hW'.alike, X.tail, State.WarmedH.trans X.warmed hW', X.limits, X.bytes, X.same.trans (hsame.setVm s.vm)⟩,
      ⟨g, mk, s₂, L, rfl, rfl, hqc, rfl, hL, rfl, rfl⟩, ?_⟩
    show Steps p.tables e below _ ((({ U with heap := s₂.heap, slotsUsed := s₂.slotsUsed } : State).setVm s₂.vm).setTop { g with pc := g.pc + len₂, stack := v.toList ++ g.stack })
    rw [← hs₂]
    exact hsteps
  · obtain ⟨e2, q2, q3, q4, q5, q6⟩ := id hsm
    have e3 : s₂ = ({ (U.calling g mk a).setFrames s₂.frames with heap := s₂.heap, slotsUsed := s₂.slotsUsed } : State).setVm s₂.vm := by
      have : s₂ = ({ s₂ with vm := (U.calling g mk a).vm } : State).setVm s₂.vm := rfl
      rw [e2] at this
      exact this
    have hf₂ : s₂.frames = .throwing q :: .java g :: U.frames.tail := hend
    have hW' : U.WarmedH s₂.vm := hW₂
    have hs₂ : s₂ = ((({ U with heap := s₂.heap, slotsUsed := s₂.slotsUsed } : State).setVm s₂.vm).setTop g).pushFrame (.throwing q) := by
      refine e3.trans ?_
      rw [hf₂, State.calling_eq h.top, State.setFrames_setFrames, State.pushFrame, State.frames_setTop _ hr', State.setTop_of_frames _ hr', State.setFrames_setFrames, hr]
      rfl
    have hsame : U.sameButNew ({ U with heap := s₂.heap, slotsUsed := s₂.slotsUsed } : State) L mc ms := by
      refine ⟨?_, q2, q3, q4, q5, q6⟩
      obtain ⟨t, ht, -⟩ := State.frames_cons hr
      show ({ U with heap := s₂.heap, slotsUsed := s₂.slotsUsed } : State) = { U.setFrames U.frames with heap := s₂.heap, slotsUsed := s₂.slotsUsed }
      rw [State.setFrames_self ht]
    subst hg
    refine Or.inr ⟨q, ⟨(({ U with heap := s₂.heap, slotsUsed := s₂.slotsUsed } : State).setVm s₂.vm), Ls ++ L, c0 + mc, s0 + ms⟩,
      ⟨X.admits, X.cas, X.clock, X.frames, X.room, X.hears, X.method, X.code, (X.here.setHeapUsed s₂.heap s₂.slotsUsed).setVm hW'.alike, X.tail, State.WarmedH.trans X.warmed hW', X.limits, X.bytes, X.same.trans (hsame.setVm s.vm)⟩,
      ⟨g, mk, s₂, L, E, ce, rfl, rfl, hx, hce, hcv, hcl, rfl, hL, rfl, rfl⟩, ?_⟩
    show Steps p.tables e below _ (((({ U with heap := s₂.heap, slotsUsed := s₂.slotsUsed } : State).setVm s₂.vm).setTop g).pushFrame (.throwing q))
    rw [← hs₂]
    exact hsteps
end Payer
section Calls
variable {p : Program} {l : Launch} {e : Env} {R : Room} {s : State} {m : MethodId} {args : Array Value} {below : List Frame} {meth : Method} {c : Code} {T : State} {locs : List Loc} {cells slots : Nat}
theorem vx_callV (X : Stand p l e R s m args below meth c T locs cells slots) (hexec : p.tables.exec = Jvm.exec) {own C : String} {index : Nat} {y : MethodName} {bytes : ByteArray} {maxL : Nat} {ret : Option FieldType}
    (hown : s.vm.findClass own = some m.cls) (hlink : (Cond.methodLink own index y).before args s = true) (hinst : (Cond.instanceMethod y).before args s = true) (hsel : (Cond.selects C y y).before args s = true)
    (hcode : (Cond.code y bytes maxL ret).before args s = true) (hy : y.cls ≠ "java/lang/invoke/MethodHandle" ∧ y.cls ≠ "java/lang/invoke/VarHandle")
    {W9 : Nat} {Pre : Pt → Array Value → Prop} {Post : Pt → Array Value → Option Value → Pt → Prop} {PostX : Pt → Array Value → Addr → Pt → Prop} (hK : vx_Back l R p e below s args y 3 W9 Pre Post PostX)
    {b : Addr} {cellB : Cell} (hcell : T.heap[b]? = some cellB) (hobj : cellB.vm.isStatics = false) (hcls : s.vm.findClass C = some cellB.cls)
    {g : JFrame} (hg : g.method = m) (hsize : g.locals.size = c.maxLocals) {argsL rest : List Value} (hlen : ∀ sig, parseMethodDescriptor y.desc = some sig → argsL.length = sig.parameters.length)
    (hstack : g.stack = argsL.reverse ++ .ref b :: rest) (hW : 2 * g.monitorRoom + (rest.map fun v => v.category).sum ≤ W9) (hdg : decode c.code g.pc = .ok (.invokevirtual index, 3))
    (hpre : ∀ vm₁, s.WarmedH vm₁ → Pre ⟨T.setVm vm₁, locs, cells, slots⟩ (Value.ref b :: argsL).toArray) :
    (∃ (v : Option Value) (vm₁ : Vm) (B : Pt), s.WarmedH vm₁ ∧ Stand p l e R s m args below meth c B.U B.locs B.cells B.slots ∧ Post ⟨T.setVm vm₁, locs, cells, slots⟩ (Value.ref b :: argsL).toArray v B ∧
      ∀ target, Steps p.tables e below (B.U.setTop { g with pc := g.pc + 3, stack := v.toList ++ rest }) target → Steps p.tables e below (T.setTop g) target) ∨
    (∃ (q : Addr) (vm₁ : Vm) (B : Pt), s.WarmedH vm₁ ∧ Stand p l e R s m args below meth c B.U B.locs B.cells B.slots ∧ PostX ⟨T.setVm vm₁, locs, cells, slots⟩ (Value.ref b :: argsL).toArray q B ∧
      Steps p.tables e below (T.setTop g) ((B.U.setTop { g with stack := rest }).pushFrame (.throwing q))) := by
  obtain ⟨mk, methM, hnamed, hmethM, hstM, habM⟩ := Cond.instanceMethod_spec hinst
  obtain ⟨methM', cM, hmethM', -, -, -, -, -, -, hsigM⟩ := Cond.code_spec hnamed hcode
  cases hmethM.symm.trans hmethM'
  obtain ⟨c2, r2, m2, q1, q2, q3, q4, kP, hkP, hkPi⟩ := Cond.selects_spec hsel
  cases hcls.symm.trans q1
  cases (State.methodFound?_of_named hnamed hy).symm.trans q2
  cases hnamed.symm.trans q3
  have hselP : selectMethod e.platform s.vm cellB.cls mk = .method mk := by rw [Launch.admits_selectMethod X.admits]; exact q4
  obtain ⟨vm₁, X₁, hstep₁⟩ := X.invokevirtual hexec hown hlink hnamed hmethM hstM hkP hkPi hy (a := b) (cell := cellB) hcell
    (fun z h => by rw [h] at hobj; cases hobj) hselP hmethM habM hkP hkPi (g := g) hg (argsL := argsL) (rest := rest) (hlen _ hsigM) hstack hdg
  rcases hK m meth c ⟨T.setVm vm₁, locs, cells, slots⟩ { g with stack := rest } (.invokevirtual index) mk (Value.ref b :: argsL).toArray X₁ hg hsize hdg hW (X₁.named hnamed) (hpre vm₁ X₁.warmed) with ⟨v, B, X', hpost, hsteps⟩ | ⟨q, B, X', hpost, hsteps⟩
  · exact Or.inl ⟨v, vm₁, B, X₁.warmed, X', hpost, fun target h => hstep₁ _ fun acts => by rw [doInvoke_state]; exact hsteps.trans h⟩
  · exact Or.inr ⟨q, vm₁, B, X₁.warmed, X', hpost, hstep₁ _ fun acts => by rw [doInvoke_state]; exact hsteps⟩
theorem vx_callS (X : Stand p l e R s m args below meth c T locs cells slots) (hexec : p.tables.exec = Jvm.exec) {own : String} {index : Nat} {y : MethodName} {bytes : ByteArray} {maxL : Nat} {ret : Option FieldType}
    (hown : s.vm.findClass own = some m.cls) (hlink : (Cond.methodLink own index y).before args s = true) (hstat : (Cond.static y).before args s = true) (hinit : (Cond.initialized y.cls).before args s = true)
    (hcode : (Cond.code y bytes maxL ret).before args s = true) (hy : y.cls ≠ "java/lang/invoke/MethodHandle" ∧ y.cls ≠ "java/lang/invoke/VarHandle")
    {W9 : Nat} {Pre : Pt → Array Value → Prop} {Post : Pt → Array Value → Option Value → Pt → Prop} {PostX : Pt → Array Value → Addr → Pt → Prop} (hK : vx_Back l R p e below s args y 3 W9 Pre Post PostX)
    {g : JFrame} (hg : g.method = m) (hsize : g.locals.size = c.maxLocals) {argsL rest : List Value} (hlen : ∀ sig, parseMethodDescriptor y.desc = some sig → argsL.length = sig.parameters.length)
    (hstack : g.stack = argsL.reverse ++ rest) (hW : 2 * g.monitorRoom + (rest.map fun v => v.category).sum ≤ W9) (hdg : decode c.code g.pc = .ok (.invokestatic index, 3))
    (hpre : ∀ vm₁, s.WarmedH vm₁ → Pre ⟨T.setVm vm₁, locs, cells, slots⟩ argsL.toArray) :
    (∃ (v : Option Value) (vm₁ : Vm) (B : Pt), s.WarmedH vm₁ ∧ Stand p l e R s m args below meth c B.U B.locs B.cells B.slots ∧ Post ⟨T.setVm vm₁, locs, cells, slots⟩ argsL.toArray v B ∧
      ∀ target, Steps p.tables e below (B.U.setTop { g with pc := g.pc + 3, stack := v.toList ++ rest }) target → Steps p.tables e below (T.setTop g) target) ∨
    (∃ (q : Addr) (vm₁ : Vm) (B : Pt), s.WarmedH vm₁ ∧ Stand p l e R s m args below meth c B.U B.locs B.cells B.slots ∧ PostX ⟨T.setVm vm₁, locs, cells, slots⟩ argsL.toArray q B ∧
      Steps p.tables e below (T.setTop g) ((B.U.setTop { g with stack := rest }).pushFrame (.throwing q))) := by
  obtain ⟨mk, hnamed⟩ := Cond.code_named hcode
  obtain ⟨methM, cM, hmethM, -, -, -, -, -, -, hsigM⟩ := Cond.code_spec hnamed hcode
  have hstatic : methM.isStatic = true := Cond.static_spec hnamed hmethM hstat
  obtain ⟨kP, hkP, -⟩ := className_of_methodNamed hnamed
  have hinitP : kP.init = .initialized := Cond.initialized_spec (findClass_of_methodNamed hnamed) hkP hinit
  obtain ⟨vm₁, X₁, hstep₁⟩ := X.invokestatic hexec hown hlink hnamed hmethM hstatic hkP hinitP hy (g := g) hg (argsL := argsL) (rest := rest) (hlen _ hsigM) hstack hdg
  rcases hK m meth c ⟨T.setVm vm₁, locs, cells, slots⟩ { g with stack := rest } (.invokestatic index) mk argsL.toArray X₁ hg hsize hdg hW (X₁.named hnamed) (hpre vm₁ X₁.warmed) with ⟨v, B, X', hpost, hsteps⟩ | ⟨q, B, X', hpost, hsteps⟩
  · exact Or.inl ⟨v, vm₁, B, X₁.warmed, X', hpost, fun target h => hstep₁ _ fun acts => by rw [doInvoke_state]; exact hsteps.trans h⟩
  · exact Or.inr ⟨q, vm₁, B, X₁.warmed, X', hpost, hstep₁ _ fun acts => by rw [doInvoke_state]; exact hsteps⟩
end Calls
theorem vx_cls {s : State} {T : State} {vm₁ : Vm} {E : String} {k : ClassId} (hW : s.WarmedH vm₁) (h : (T.setVm vm₁).vm.findClass E = some k) : s.vm.findClass E = some k := by
  have h1 : vm₁.findClass E = some k := h
  rw [hW.alike.findClass] at h1
  exact h1
/-- the method's frame g, with q thrown over it -/
def vx_W (p : Program) (l : Launch) (e : Env) (R : Room) (s : State) (m : MethodId) (args : Array Value) (below : List Frame) (meth : Method) (c : Code) (H : Heap) (locs : List Loc) (cells slots : Nat) (Q : State → Prop) (g : JFrame) (q : Addr) : Prop :=
  ∀ T : State, T.heap = H → Stand p l e R s m args below meth c T locs cells slots → ∃ t, Steps p.tables e below ((T.setTop g).pushFrame (.throwing q)) t ∧ Q t
def vx_Run (p : Program) (l : Launch) (e : Env) (R : Room) (s : State) (m : MethodId) (args : Array Value) (below : List Frame) (meth : Method) (c : Code) (H : Heap) (locs : List Loc) (cells slots mc ms : Nat) (g : JFrame) (rest : List Value) (Qa : State → Outcome → State → Prop) (XC : String → State → State → Prop) (free : Addr → Prop) : Prop :=
  ∀ T : State, T.heap = H → Stand p l e R s m args below meth c T locs cells slots →
    (∃ (v : Option Value) (st₀ t T' : State) (L : List Loc), st₀.heap = H ∧ Stand p l e R s m args below meth c T' (locs ++ L) (cells + mc) (slots + ms) ∧ (∀ q ∈ L, free q.base) ∧ T'.heap = t.heap ∧ T'.vm = t.vm ∧ Qa st₀ (.returned v) t ∧
      Goes p e below T g T' { g with pc := g.pc + 3, stack := v.toList ++ rest }) ∨
    (∃ (q : Addr) (st₀ t T' : State) (L : List Loc) (E : String) (ce : Cell), st₀.heap = H ∧ Stand p l e R s m args below meth c T' (locs ++ L) (cells + mc) (slots + ms) ∧ (∀ z ∈ L, free z.base) ∧ T'.heap = t.heap ∧ T'.vm = t.vm ∧ XC E st₀ t ∧ t.heap[q]? = some ce ∧ ce.vm = .none ∧ s.vm.findClass E = some ce.cls ∧
      Steps p.tables e below (T.setTop g) ((T'.setTop { g with stack := rest }).pushFrame (.throwing q)))
def vx_X {S : Type} (px : S → Prop) (B : String → S → State → Prop) (A : Nat → Prop) : String → State → State → Prop := fun E st t => ∃ u : S, px u ∧ B E u t ∧ va_F A st t
section Runs
variable {p : Program} {l : Launch} {e : Env} {R : Room} {s : State} {m : MethodId} {args : Array Value} {below : List Frame} {meth : Method} {c : Code} {H : Heap} {locs : List Loc} {cells slots : Nat}
variable {y : MethodName} {bytes cc : ByteArray} {maxL nL mc ms n index : Nat} {ret : Option FieldType} {ws : List Cond} {rm : Room} {Pc : Array Value → State → Prop} {Qc : Array Value → State → Outcome → State → Prop} {XC : String → State → State → Prop} {free : Addr → Prop} {Ts : List Cond} {own C : String} {b : Addr} {As rest : List Value} {g : JFrame}
theorem vx_callBack (cb : CallB R s args own index y bytes maxL ret ws rm mc ms n) (hM : vx_Met l y ws rm Pc Qc XC mc ms free) (hbl : FrameBlind Pc) : vx_Back l R p e below s args y 3 8 (PreOf R mc ms Pc) (PostOf Qc mc ms free) (vx_Post XC mc ms free) := by
  obtain ⟨hrc, hrs, hfr, hlo, hws, hcw, -, hini, -⟩ := cb
  exact vx_back (bytes := bytes) (maxL := maxL) (ret := ret) hM hbl hrc hrs hfr hlo hws hcw (fun a' U hW => word_at hW (Or.inl (by first | rfl | simp [Cond.onTables, Cond.keeps, Cond.steady])) hini)
theorem vx_runV (S : CallFix p m c cc nL s args Ts own) (hM : vx_Met l y ws rm Pc Qc XC mc ms free) (cw : CallW R s args own C index y bytes maxL ret ws rm mc ms n) (hp : PreV s H C b Pc As)
    (hg : g.method = m) (hn : As.length = n) (hsize : g.locals.size = nL) (hstack : g.stack = As.reverse ++ .ref b :: rest) (hW : 2 * g.monitorRoom + (rest.map fun v => v.category).sum ≤ 8) (hdg : decode cc g.pc = .ok (.invokevirtual index, 3)) (hf : cells + mc ≤ R.cells ∧ slots + ms ≤ R.slots) :
    vx_Run p l e R s m args below meth c H locs cells slots mc ms g rest (Qc (Value.ref b :: As).toArray) XC free := by
  have hK : vx_Back l R p e below s args y 3 8 (PreOf R mc ms Pc) (PostOf Qc mc ms free) (vx_Post XC mc ms free) := vx_callBack cw.1 hM hp.1
  obtain ⟨⟨-, -, -, -, -, -, hcode, -, hy, hlen, hl⟩, hin, hse⟩ := cw
  obtain ⟨hx, hb, hml, ho, -⟩ := S
  obtain ⟨-, ⟨cellB, hcB, hoB, hclB⟩, hPc⟩ := hp
  intro T hT X
  rcases vx_callV X hx (C := C) (bytes := bytes) (maxL := maxL) (ret := ret) ho hl hin hse hcode hy hK (by rw [hT]; exact hcB) hoB hclB hg (hsize.trans hml.symm) (argsL := As) (rest := rest) (fun sig h => hn.trans (hlen sig h)) hstack hW (by rw [hb]; exact hdg)
    (fun vm₁ hW₁ => ⟨hf.1, hf.2, hPc (T.setVm vm₁) hT hW₁⟩) with ⟨v, vm₁, ⟨U', l2, c2, s2⟩, hW₁, X', ⟨g', mk, t, L, e1, e2, hq, h1, hL, h2, h3⟩, st⟩ | ⟨q, vm₁, ⟨U', l2, c2, s2⟩, hW₁, X', ⟨g', mk, t, L, E, ce, e1, e2, hq, hce, hcv, hcl, h1, hL, h2, h3⟩, st⟩
  · dsimp only [Pt.U, Pt.locs, Pt.cells, Pt.slots] at X' e1 e2 h1 h2 h3 st
    subst h1; subst h2; subst h3
    exact Or.inl ⟨v, (T.setVm vm₁).calling g' mk (Value.ref b :: As).toArray, t, U', L, hT, X', hL, e1, e2, hq, st⟩
  · dsimp only [Pt.U, Pt.locs, Pt.cells, Pt.slots] at X' e1 e2 h1 h2 h3 st hcl
    subst h1; subst h2; subst h3
    exact Or.inr ⟨q, (T.setVm vm₁).calling g' mk (Value.ref b :: As).toArray, t, U', L, E, ce, hT, X', hL, e1, e2, hq, hce, hcv, vx_cls hW₁ hcl, st⟩
theorem vx_runS (S : CallFix p m c cc nL s args Ts own) (hM : vx_Met l y ws rm Pc Qc XC mc ms free) (cw : CallB R s args own index y bytes maxL ret ws rm mc ms n ∧ (Cond.static y).before args s = true) (hp : PreS s H Pc As)
    (hg : g.method = m) (hn : As.length = n) (hsize : g.locals.size = nL) (hstack : g.stack = As.reverse ++ rest) (hW : 2 * g.monitorRoom + (rest.map fun v => v.category).sum ≤ 8) (hdg : decode cc g.pc = .ok (.invokestatic index, 3)) (hf : cells + mc ≤ R.cells ∧ slots + ms ≤ R.slots) :
    vx_Run p l e R s m args below meth c H locs cells slots mc ms g rest (Qc As.toArray) XC free := by
  have hK : vx_Back l R p e below s args y 3 8 (PreOf R mc ms Pc) (PostOf Qc mc ms free) (vx_Post XC mc ms free) := vx_callBack cw.1 hM hp.1
  obtain ⟨⟨-, -, -, -, -, -, hcode, hini, hy, hlen, hl⟩, hstt⟩ := cw
  obtain ⟨hx, hb, hml, ho, -⟩ := S
  intro T hT X
  rcases vx_callS X hx (bytes := bytes) (maxL := maxL) (ret := ret) ho hl hstt hini hcode hy hK hg (hsize.trans hml.symm) (argsL := As) (rest := rest) (fun sig h => hn.trans (hlen sig h)) hstack hW (by rw [hb]; exact hdg)
    (fun vm₁ hW₁ => ⟨hf.1, hf.2, hp.2 (T.setVm vm₁) hT hW₁⟩) with ⟨v, vm₁, ⟨U', l2, c2, s2⟩, hW₁, X', ⟨g', mk, t, L, e1, e2, hq, h1, hL, h2, h3⟩, st⟩ | ⟨q, vm₁, ⟨U', l2, c2, s2⟩, hW₁, X', ⟨g', mk, t, L, E, ce, e1, e2, hq, hce, hcv, hcl, h1, hL, h2, h3⟩, st⟩
  · dsimp only [Pt.U, Pt.locs, Pt.cells, Pt.slots] at X' e1 e2 h1 h2 h3 st
    subst h1; subst h2; subst h3
    exact Or.inl ⟨v, (T.setVm vm₁).calling g' mk As.toArray, t, U', L, hT, X', hL, e1, e2, hq, st⟩
  · dsimp only [Pt.U, Pt.locs, Pt.cells, Pt.slots] at X' e1 e2 h1 h2 h3 st hcl
    subst h1; subst h2; subst h3
    exact Or.inr ⟨q, (T.setVm vm₁).calling g' mk As.toArray, t, U', L, E, ce, hT, X', hL, e1, e2, hq, hce, hcv, vx_cls hW₁ hcl, st⟩
end Runs
section Rows
variable {p : Program} {l : Launch} {e : Env} {R : Room} {s : State} {m : MethodId} {args : Array Value} {below : List Frame} {meth : Method} {c : Code} {H : Heap} {locs : List Loc} {cells slots : Nat} {Q : State → Prop}
variable {mc ms : Nat} {free : Addr → Prop} {A0 A1 : Nat → Prop} {H0 : Heap} {a : Array Value} {pc : Nat} {ls : Array Slot} {st0 rest : List Value}
theorem vx_keep {st₀ t T' : State} {L : List Loc} (h0 : st₀.heap = H) (e1 : T'.heap = t.heap) (hS : va_S A0 H0 H locs) (hA : ∀ q, q < H.size → A1 q → A0 q) (hf : ∀ q, free q → A0 q) (hL : ∀ q ∈ L, free q.base) (hF : va_F A1 st₀ t) :
    H.size ≤ T'.heap.size ∧ (∀ q : Nat, q < H.size → ¬ A1 q → T'.heap[q]? = H[q]?) ∧ va_S A0 H0 T'.heap (locs ++ L) := by
  obtain ⟨hz, hk⟩ := hF
  rw [h0] at hz hk
  exact ⟨by rw [e1]; exact hz, fun q h1 h2 => by rw [e1]; exact hk q h1 h2,
    ⟨Nat.le_trans hS.1 (by rw [e1]; exact hz), fun q h1 h2 => by rw [e1, hk q (Nat.lt_of_lt_of_le h1 hS.1) (fun z => h2 (hA q (Nat.lt_of_lt_of_le h1 hS.1) z))]; exact hS.2.1 q h1 h2, fun q hq => by
      rcases List.mem_append.mp hq with h | h
      · exact hS.2.2 q h
      · exact hf _ (hL q h)⟩⟩
theorem vx_calli {S SX : Type} {post : Int32 → S → Prop} {px : SX → Prop} {B : S → State → Prop} {BX : String → SX → State → Prop} {AX : Nat → Prop} (hr : vx_Run p l e R s m args below meth c H locs cells slots mc ms (F0 m pc ls st0) rest (va_Qi post B A1 a) (vx_X px BX AX) free) (hS : va_S A0 H0 H locs) (hA : ∀ q, q < H.size → A1 q → A0 q) (hf : ∀ q, free q → A0 q) (hAX : ∀ q, q < H.size → AX q → A0 q)
    (kx : ∀ (E : String) (ce : Cell) (q9 : Addr) (u : SX) (t : State) (H1 : Heap) (locs1 : List Loc), t.heap = H1 → s.vm.Alike t.vm → px u → BX E u t → H.size ≤ H1.size → (∀ q : Nat, q < H.size → ¬ AX q → H1[q]? = H[q]?) → va_S A0 H0 H1 locs1 → H1[q9]? = some ce → ce.vm = .none → s.vm.findClass E = some ce.cls → vx_W p l e R s m args below meth c H1 locs1 (cells + mc) (slots + ms) Q (F0 m pc ls rest) q9)
    (kk : ∀ (r : Int32) (u : S) (t : State) (H1 : Heap) (locs1 : List Loc), t.heap = H1 → s.vm.Alike t.vm → post r u → B u t → H.size ≤ H1.size → (∀ q : Nat, q < H.size → ¬ A1 q → H1[q]? = H[q]?) → va_S A0 H0 H1 locs1 → W p l e R s m args below meth c H1 locs1 (cells + mc) (slots + ms) Q (F0 m (pc + 3) ls (.int r :: rest))) : W p l e R s m args below meth c H locs cells slots Q (F0 m pc ls st0) := by
  intro T hT X
  rcases hr T hT X with ⟨v, st₀, t, T', L, h0, X', hL, e1, e2, ⟨⟨r, u, hv, hp, hb⟩, hF⟩, st⟩ | ⟨q, st₀, t, T', L, E, ce, h0, X', hL, e1, e2, ⟨u, hp, hb, hF⟩, hce, hcv, hcl, st⟩
  · cases hv
    obtain ⟨k1, k2, k3⟩ := vx_keep h0 e1 hS hA hf hL hF
    obtain ⟨t2, a1, b1⟩ := kk r u t T'.heap (locs ++ L) e1.symm (by rw [← e2]; exact X'.warmed.alike) hp hb k1 k2 k3 T' rfl X'
    exact ⟨t2, st t2 a1, b1⟩
  · obtain ⟨k1, k2, k3⟩ := vx_keep h0 e1 hS hAX hf hL hF
    obtain ⟨t2, a1, b1⟩ := kx E ce q u t T'.heap (locs ++ L) e1.symm (by rw [← e2]; exact X'.warmed.alike) hp hb k1 k2 k3 (by rw [e1]; exact hce) hcv hcl T' rfl X'
    exact ⟨t2, st.trans a1, b1⟩
theorem vx_calll {S SX : Type} {post : Int64 → S → Prop} {px : SX → Prop} {B : S → State → Prop} {BX : String → SX → State → Prop} {AX : Nat → Prop} (hr : vx_Run p l e R s m args below meth c H locs cells slots mc ms (F0 m pc ls st0) rest (va_Ql post B A1 a) (vx_X px BX AX) free) (hS : va_S A0 H0 H locs) (hA : ∀ q, q < H.size → A1 q → A0 q) (hf : ∀ q, free q → A0 q) (hAX : ∀ q, q < H.size → AX q → A0 q)
    (kx : ∀ (E : String) (ce : Cell) (q9 : Addr) (u : SX) (t : State) (H1 : Heap) (locs1 : List Loc), t.heap = H1 → s.vm.Alike t.vm → px u → BX E u t → H.size ≤ H1.size → (∀ q : Nat, q < H.size → ¬ AX q → H1[q]? = H[q]?) → va_S A0 H0 H1 locs1 → H1[q9]? = some ce → ce.vm = .none → s.vm.findClass E = some ce.cls → vx_W p l e R s m args below meth c H1 locs1 (cells + mc) (slots + ms) Q (F0 m pc ls rest) q9)
    (kk : ∀ (r : Int64) (u : S) (t : State) (H1 : Heap) (locs1 : List Loc), t.heap = H1 → s.vm.Alike t.vm → post r u → B u t → H.size ≤ H1.size → (∀ q : Nat, q < H.size → ¬ A1 q → H1[q]? = H[q]?) → va_S A0 H0 H1 locs1 → W p l e R s m args below meth c H1 locs1 (cells + mc) (slots + ms) Q (F0 m (pc + 3) ls (.long r :: rest))) : W p l e R s m args below meth c H locs cells slots Q (F0 m pc ls st0) := by
  intro T hT X
  rcases hr T hT X with ⟨v, st₀, t, T', L, h0, X', hL, e1, e2, ⟨⟨r, u, hv, hp, hb⟩, hF⟩, st⟩ | ⟨q, st₀, t, T', L, E, ce, h0, X', hL, e1, e2, ⟨u, hp, hb, hF⟩, hce, hcv, hcl, st⟩
  · cases hv
    obtain ⟨k1, k2, k3⟩ := vx_keep h0 e1 hS hA hf hL hF
    obtain ⟨t2, a1, b1⟩ := kk r u t T'.heap (locs ++ L) e1.symm (by rw [← e2]; exact X'.warmed.alike) hp hb k1 k2 k3 T' rfl X'
    exact ⟨t2, st t2 a1, b1⟩
  · obtain ⟨k1, k2, k3⟩ := vx_keep h0 e1 hS hAX hf hL hF
    obtain ⟨t2, a1, b1⟩ := kx E ce q u t T'.heap (locs ++ L) e1.symm (by rw [← e2]; exact X'.warmed.alike) hp hb k1 k2 k3 (by rw [e1]; exact hce) hcv hcl T' rfl X'
    exact ⟨t2, st.trans a1, b1⟩
theorem vx_callf {S SX : Type} {post : UInt32 → S → Prop} {px : SX → Prop} {B : S → State → Prop} {BX : String → SX → State → Prop} {AX : Nat → Prop} (hr : vx_Run p l e R s m args below meth c H locs cells slots mc ms (F0 m pc ls st0) rest (va_Qf post B A1 a) (vx_X px BX AX) free) (hS : va_S A0 H0 H locs) (hA : ∀ q, q < H.size → A1 q → A0 q) (hf : ∀ q, free q → A0 q) (hAX : ∀ q, q < H.size → AX q → A0 q)
    (kx : ∀ (E : String) (ce : Cell) (q9 : Addr) (u : SX) (t : State) (H1 : Heap) (locs1 : List Loc), t.heap = H1 → s.vm.Alike t.vm → px u → BX E u t → H.size ≤ H1.size → (∀ q : Nat, q < H.size → ¬ AX q → H1[q]? = H[q]?) → va_S A0 H0 H1 locs1 → H1[q9]? = some ce → ce.vm = .none → s.vm.findClass E = some ce.cls → vx_W p l e R s m args below meth c H1 locs1 (cells + mc) (slots + ms) Q (F0 m pc ls rest) q9)
    (kk : ∀ (r : UInt32) (u : S) (t : State) (H1 : Heap) (locs1 : List Loc), t.heap = H1 → s.vm.Alike t.vm → post r u → B u t → H.size ≤ H1.size → (∀ q : Nat, q < H.size → ¬ A1 q → H1[q]? = H[q]?) → va_S A0 H0 H1 locs1 → W p l e R s m args below meth c H1 locs1 (cells + mc) (slots + ms) Q (F0 m (pc + 3) ls (.float r :: rest))) : W p l e R s m args below meth c H locs cells slots Q (F0 m pc ls st0) := by
  intro T hT X
  rcases hr T hT X with ⟨v, st₀, t, T', L, h0, X', hL, e1, e2, ⟨⟨r, u, hv, hp, hb⟩, hF⟩, st⟩ | ⟨q, st₀, t, T', L, E, ce, h0, X', hL, e1, e2, ⟨u, hp, hb, hF⟩, hce, hcv, hcl, st⟩
  · cases hv
    obtain ⟨k1, k2, k3⟩ := vx_keep h0 e1 hS hA hf hL hF
    obtain ⟨t2, a1, b1⟩ := kk r u t T'.heap (locs ++ L) e1.symm (by rw [← e2]; exact X'.warmed.alike) hp hb k1 k2 k3 T' rfl X'
    exact ⟨t2, st t2 a1, b1⟩
  · obtain ⟨k1, k2, k3⟩ := vx_keep h0 e1 hS hAX hf hL hF
    obtain ⟨t2, a1, b1⟩ := kx E ce q u t T'.heap (locs ++ L) e1.symm (by rw [← e2]; exact X'.warmed.alike) hp hb k1 k2 k3 (by rw [e1]; exact hce) hcv hcl T' rfl X'
    exact ⟨t2, st.trans a1, b1⟩
theorem vx_calld {S SX : Type} {post : UInt64 → S → Prop} {px : SX → Prop} {B : S → State → Prop} {BX : String → SX → State → Prop} {AX : Nat → Prop} (hr : vx_Run p l e R s m args below meth c H locs cells slots mc ms (F0 m pc ls st0) rest (va_Qd post B A1 a) (vx_X px BX AX) free) (hS : va_S A0 H0 H locs) (hA : ∀ q, q < H.size → A1 q → A0 q) (hf : ∀ q, free q → A0 q) (hAX : ∀ q, q < H.size → AX q → A0 q)
    (kx : ∀ (E : String) (ce : Cell) (q9 : Addr) (u : SX) (t : State) (H1 : Heap) (locs1 : List Loc), t.heap = H1 → s.vm.Alike t.vm → px u → BX E u t → H.size ≤ H1.size → (∀ q : Nat, q < H.size → ¬ AX q → H1[q]? = H[q]?) → va_S A0 H0 H1 locs1 → H1[q9]? = some ce → ce.vm = .none → s.vm.findClass E = some ce.cls → vx_W p l e R s m args below meth c H1 locs1 (cells + mc) (slots + ms) Q (F0 m pc ls rest) q9)
    (kk : ∀ (r : UInt64) (u : S) (t : State) (H1 : Heap) (locs1 : List Loc), t.heap = H1 → s.vm.Alike t.vm → post r u → B u t → H.size ≤ H1.size → (∀ q : Nat, q < H.size → ¬ A1 q → H1[q]? = H[q]?) → va_S A0 H0 H1 locs1 → W p l e R s m args below meth c H1 locs1 (cells + mc) (slots + ms) Q (F0 m (pc + 3) ls (.double r :: rest))) : W p l e R s m args below meth c H locs cells slots Q (F0 m pc ls st0) := by
  intro T hT X
  rcases hr T hT X with ⟨v, st₀, t, T', L, h0, X', hL, e1, e2, ⟨⟨r, u, hv, hp, hb⟩, hF⟩, st⟩ | ⟨q, st₀, t, T', L, E, ce, h0, X', hL, e1, e2, ⟨u, hp, hb, hF⟩, hce, hcv, hcl, st⟩
  · cases hv
    obtain ⟨k1, k2, k3⟩ := vx_keep h0 e1 hS hA hf hL hF
    obtain ⟨t2, a1, b1⟩ := kk r u t T'.heap (locs ++ L) e1.symm (by rw [← e2]; exact X'.warmed.alike) hp hb k1 k2 k3 T' rfl X'
    exact ⟨t2, st t2 a1, b1⟩
  · obtain ⟨k1, k2, k3⟩ := vx_keep h0 e1 hS hAX hf hL hF
    obtain ⟨t2, a1, b1⟩ := kx E ce q u t T'.heap (locs ++ L) e1.symm (by rw [← e2]; exact X'.warmed.alike) hp hb k1 k2 k3 (by rw [e1]; exact hce) hcv hcl T' rfl X'
    exact ⟨t2, st.trans a1, b1⟩
theorem vx_callv {S SX : Type} {post : S → Prop} {px : SX → Prop} {B : S → State → Prop} {BX : String → SX → State → Prop} {AX : Nat → Prop} (hr : vx_Run p l e R s m args below meth c H locs cells slots mc ms (F0 m pc ls st0) rest (va_Qv post B A1 a) (vx_X px BX AX) free) (hS : va_S A0 H0 H locs) (hA : ∀ q, q < H.size → A1 q → A0 q) (hf : ∀ q, free q → A0 q) (hAX : ∀ q, q < H.size → AX q → A0 q)
    (kx : ∀ (E : String) (ce : Cell) (q9 : Addr) (u : SX) (t : State) (H1 : Heap) (locs1 : List Loc), t.heap = H1 → s.vm.Alike t.vm → px u → BX E u t → H.size ≤ H1.size → (∀ q : Nat, q < H.size → ¬ AX q → H1[q]? = H[q]?) → va_S A0 H0 H1 locs1 → H1[q9]? = some ce → ce.vm = .none → s.vm.findClass E = some ce.cls → vx_W p l e R s m args below meth c H1 locs1 (cells + mc) (slots + ms) Q (F0 m pc ls rest) q9)
    (kk : ∀ (u : S) (t : State) (H1 : Heap) (locs1 : List Loc), t.heap = H1 → s.vm.Alike t.vm → post u → B u t → H.size ≤ H1.size → (∀ q : Nat, q < H.size → ¬ A1 q → H1[q]? = H[q]?) → va_S A0 H0 H1 locs1 → W p l e R s m args below meth c H1 locs1 (cells + mc) (slots + ms) Q (F0 m (pc + 3) ls (rest))) : W p l e R s m args below meth c H locs cells slots Q (F0 m pc ls st0) := by
  intro T hT X
  rcases hr T hT X with ⟨v, st₀, t, T', L, h0, X', hL, e1, e2, ⟨⟨u, hv, hp, hb⟩, hF⟩, st⟩ | ⟨q, st₀, t, T', L, E, ce, h0, X', hL, e1, e2, ⟨u, hp, hb, hF⟩, hce, hcv, hcl, st⟩
  · cases hv
    obtain ⟨k1, k2, k3⟩ := vx_keep h0 e1 hS hA hf hL hF
    obtain ⟨t2, a1, b1⟩ := kk u t T'.heap (locs ++ L) e1.symm (by rw [← e2]; exact X'.warmed.alike) hp hb k1 k2 k3 T' rfl X'
    exact ⟨t2, st t2 a1, b1⟩
  · obtain ⟨k1, k2, k3⟩ := vx_keep h0 e1 hS hAX hf hL hF
    obtain ⟨t2, a1, b1⟩ := kx E ce q u t T'.heap (locs ++ L) e1.symm (by rw [← e2]; exact X'.warmed.alike) hp hb k1 k2 k3 (by rw [e1]; exact hce) hcv hcl T' rfl X'
    exact ⟨t2, st.trans a1, b1⟩
/-- caught by the row x of this method's table; the rows ahead don't take it -/
theorem vx_catch {own name : String} {E : String} {ce : Cell} {q : Addr} (hown : s.vm.findClass own = some m.cls) (pre : List ExceptionTableEntry) (x : ExceptionTableEntry) (suf : List ExceptionTableEntry) (hsplit : c.exceptionTable.toList = pre ++ x :: suf)
    (hpass : ∀ z ∈ pre, covers z pc = false ∨ (z.catchType ≠ 0 ∧ ∃ nm : String, (Cond.classLink own z.catchType nm).before args s = true ∧ va_Nc E nm s)) (hx : covers x pc = true) (h0 : x.catchType ≠ 0)
    (hlink : (Cond.classLink own x.catchType name).before args s = true) (hcast : (Cond.castable E name).before args s = true) (hcell : H[q]? = some ce) (hv : ce.vm = .none) (hcl : s.vm.findClass E = some ce.cls)
    (kk : W p l e R s m args below meth c H locs cells slots Q (F0 m x.handlerPc ls [.ref q])) : vx_W p l e R s m args below meth c H locs cells slots Q (F0 m pc ls rest) q := by
  intro T hT X
  have hpl : e.platform.magicAccessors = ({} : Platform).magicAccessors := by rw [X.admits.platform]
  obtain ⟨c3, c4, hc3, hc4, hasg⟩ := Cond.castable_spec hcast
  cases Option.some.inj (hc3.symm.trans hcl)
  obtain ⟨c5, hc5, hcl5⟩ := Cond.classLink_spec hown hlink e.platform hpl
  cases Option.some.inj (hc4.symm.trans hc5)
  obtain ⟨vm', X', st⟩ := X.thenCaughtThrough q (g := F0 m pc ls rest) rfl (Steps.refl _) (by rw [hT]; exact hcell) (by rw [hv]; rfl) (by obtain ⟨k9, h9, -⟩ := Vm.findClass_spec hcl; exact ⟨k9, h9⟩) pre x suf hsplit
    (fun z hz => by
      rcases hpass z hz with h | ⟨hz0, nm, hl1, hn1⟩
      · exact Or.inl h
      · obtain ⟨c6, hc6, hcl6⟩ := Cond.classLink_spec hown hl1 e.platform hpl
        obtain ⟨a8, b8, h1, h2, h3⟩ := hn1
        cases Option.some.inj (h1.symm.trans hcl)
        cases Option.some.inj (h2.symm.trans hc6)
        exact Or.inr ⟨hz0, _, hcl6, h3⟩) hx (Or.inr ⟨h0, c4, hcl5, hasg⟩)
  obtain ⟨t, a1, b1⟩ := kk (T.setVm vm') hT X'
  exact ⟨t, st.trans a1, b1⟩
end Rows
section Ends
variable {p : Program} {l : Launch} {e : Env} {R : Room} {s : State} {m : MethodId} {args : Array Value} {below : List Frame} {meth : Method} {c : Code} {H : Heap} {locs : List Loc} {cells slots : Nat} {Q : State → Prop}
variable {mc ms : Nat} {free : Addr → Prop} {A0 A1 : Nat → Prop} {H0 : Heap} {a : Array Value} {ls : Array Slot} {st0 rest : List Value}
variable {Qc : Array Value → State → Outcome → State → Prop} {XC : String → State → State → Prop}
/-- what a body that may throw owes at its end -/
def vx_MQ (below : List Frame) (Qc : Array Value → State → Outcome → State → Prop) (XC : String → State → State → Prop) (a : Array Value) (s : State) (mc ms : Nat) (free : Addr → Prop) : State → Prop := fun t =>
  ∃ o, t.status = .running ∧ Ended t below o ∧ vx_Q Qc XC mc ms free a s o t
theorem vx_ret {g : JFrame} {mc ms : Nat} (k : W p l e R s m args below meth c H locs cells slots (MQ below Qc args s mc ms free) g) : W p l e R s m args below meth c H locs cells slots (vx_MQ below Qc XC args s mc ms free) g := by
  intro T hT X
  obtain ⟨t, a1, o, b1, b2, b3, b4⟩ := k T hT X
  exact ⟨t, a1, o, b1, b2, Or.inl ⟨b3, b4⟩⟩
/-- not caught here: it goes on to the caller -/
theorem vx_widen {g : JFrame} {q : Addr} {k n : Nat} (h1 : cells ≤ k) (h2 : slots ≤ n) (kk : vx_W p l e R s m args below meth c H locs k n Q g q) : vx_W p l e R s m args below meth c H locs cells slots Q g q := fun T hT X => kk T hT (stand_widen X h1 h2)
theorem vx_out {pc : Nat} {E : String} {ce : Cell} {q : Addr} {mc ms : Nat} (hout : ∀ x ∈ c.exceptionTable.toList, covers x pc = false) (hlocks : meth.locks = false) (hcell : H[q]? = some ce) (hv : ce.vm = .none) (hcl : s.vm.findClass E = some ce.cls)
    (hx : ∀ t : State, t.heap = H → s.vm.Alike t.vm → XC E s t) (hf : ∀ z ∈ locs, free z.base) (hc : cells ≤ mc) (hs : slots ≤ ms) :
    vx_W p l e R s m args below meth c H locs cells slots (vx_MQ below Qc XC args s mc ms free) (F0 m pc ls rest) q := by
  intro T hT X
  obtain ⟨st1, hrun, hend, hW, hsm⟩ := X.leaveThrown q (g := F0 m pc ls rest) rfl rfl rfl hout hlocks
  have hcell9 : (T.setFrames (.throwing q :: below)).heap[q]? = some ce := by
    show T.heap[q]? = some ce
    rw [hT]; exact hcell
  exact ⟨_, st1, .threw q, hrun, hend, Or.inr ⟨q, rfl, E, ce, locs, hx _ hT hW.alike, hcell9, hv, hcl, hW, hsm.mono hc hs, hf⟩⟩
theorem vx_frame {U : State} {k n : Nat} (h : s.sameButNew ({ U with vm := s.vm } : State) locs k n) : s.heap.size ≤ U.heap.size ∧ ∀ q : Nat, q < s.heap.size → (∀ z ∈ locs, z.base ≠ q) → U.heap[q]? = s.heap[q]? := by
  obtain ⟨-, h2, -, -, -, h6⟩ := h
  refine ⟨h2, fun q hq hz => ?_⟩
  obtain ⟨c9, e1, e2, e3, e4⟩ := h6 q _ (Array.getElem?_eq_getElem hq)
  have hs : c9.slots = (s.heap[q]).slots := Array.ext_getElem? fun i => e4 i fun hm => hz _ hm rfl
  have h9 : c9 = s.heap[q] := by
    rw [hs] at e2
    exact e2
  have e5 : U.heap[q]? = some c9 := e1
  rw [e5, h9, Array.getElem?_eq_getElem hq]
/-- the words of a throw but the four that speak of the heap -/
def vx_no (w : Cond) : Bool := decide (w ≠ .isRef (.static Bundle.tN "UNASSIGNED_STACK" Bundle.steD)) && decide (w ≠ .isRef (.static Bundle.tN "SUPPRESSED_SENTINEL" Bundle.listD)) && decide (w ≠ .laysStatic Bundle.tN "UNASSIGNED_STACK" Bundle.steD) && decide (w ≠ .laysStatic Bundle.tN "SUPPRESSED_SENTINEL" Bundle.listD)
def vx_at0 (own : String) (ic : Nat) (X : String) (names : List String) : List Cond := (Bundle.ownAtoms0 own ic X names).filter vx_no
def vx_atS (own : String) (ic : Nat) (X : String) (names : List String) : List Cond := (Bundle.ownAtoms own ic X names).filter vx_no
/-- a word that the tables alone decide, or a good one -/
def vx_ot (w : Cond) : Bool := w.onTables || goodWord w
theorem vx_ot_at {args a' : Array Value} {s U : State} {w : Cond} (hW : s.WarmedH U.vm) (hvm : s.vm = U.vm) (hg : vx_ot w = true) (h : w.before args s = true) : w.before a' U = true := by
  simp only [vx_ot, Bool.or_eq_true] at hg
  rcases hg with hg | hg
  · exact va_tabs hg hvm h
  · exact word_at hW (good_of_word hg) h
/-- a list's words: the good ones out of the method's own list, the others by premises of their own -/
theorem vx_hat {args : Array Value} {s : State} {L B : List Cond} (h1 : ∀ w ∈ L.filter goodWord, w.before args s = true) (h2 : ∀ w ∈ L.filter (fun w => !goodWord w), w ∈ B) (h3 : ∀ w ∈ B, w.before args s = true) : ∀ w ∈ L, w.before args s = true := by
  intro w hw
  by_cases g : goodWord w = true
  · exact h1 w (List.mem_filter.mpr ⟨hw, g⟩)
  · refine h3 w (h2 w (List.mem_filter.mpr ⟨hw, ?_⟩))
    show (!goodWord w) = true
    cases hgw : goodWord w
    · rfl
    · exact absurd hgw g
theorem vx_c {args : Array Value} {s : State} {w : Cond} {B : List Cond} (h : w.before args s = true) (t : ∀ w ∈ B, w.before args s = true) : ∀ w' ∈ w :: B, w'.before args s = true := fun w' h' => (List.mem_cons.mp h').elim (fun e => by rw [e]; exact h) (t w')
theorem vx_n {args : Array Value} {s : State} : ∀ w ∈ ([] : List Cond), w.before args s = true := fun _ h => nomatch h
theorem vx_own {args : Array Value} {s : State} {L : List Cond} (h1 : ∀ w ∈ L.filter vx_no, w.before args s = true)
    (hU : (Cond.isRef (.static Bundle.tN "UNASSIGNED_STACK" Bundle.steD)).before args s = true) (hN : (Cond.isRef (.static Bundle.tN "SUPPRESSED_SENTINEL" Bundle.listD)).before args s = true)
    (lU : (Cond.laysStatic Bundle.tN "UNASSIGNED_STACK" Bundle.steD).before args s = true) (lN : (Cond.laysStatic Bundle.tN "SUPPRESSED_SENTINEL" Bundle.listD).before args s = true) : ∀ w ∈ L, w.before args s = true := by
  intro w hw
  by_cases e1 : w = .isRef (.static Bundle.tN "UNASSIGNED_STACK" Bundle.steD)
  · rw [e1]; exact hU
  · by_cases e2 : w = .isRef (.static Bundle.tN "SUPPRESSED_SENTINEL" Bundle.listD)
    · rw [e2]; exact hN
    · by_cases e3 : w = .laysStatic Bundle.tN "UNASSIGNED_STACK" Bundle.steD
      · rw [e3]; exact lU
      · by_cases e4 : w = .laysStatic Bundle.tN "SUPPRESSED_SENTINEL" Bundle.listD
        · rw [e4]; exact lN
        · exact h1 w (List.mem_filter.mpr ⟨hw, by unfold vx_no; rw [decide_eq_true e1, decide_eq_true e2, decide_eq_true e3, decide_eq_true e4]; rfl⟩)
/-- where a static field lies, its class's statics cell in H -/
def vx_L (C n d : String) (A : Nat → Prop) (U : State) (H : Heap) : Prop := ∃ (c : ClassId) (k : Class) (i : Nat) (f : Field) (a : Nat) (cell : Cell), U.vm.findClass C = some c ∧ U.fieldFound? C n d = some (c, k, i, f) ∧ f.isStatic = true ∧ k.statics = some a ∧ H[a]? = some cell ∧ cell.vm.isStatics = true ∧ cell.cls = c ∧ f.slot < cell.slots.size ∧ k.staticTypes[f.slot]? = some f.type ∧ ¬ A a
theorem vx_L.moved {C n d : String} {A : Nat → Prop} {u U : State} {H : Heap} (hvm : u.vm.Alike U.vm) (h : vx_L C n d A u H) : vx_L C n d A U H := by
  obtain ⟨c, k, i, f, a, cell, h1, h2, h3, h4, h5, h6, h7, h8, h9, h10⟩ := h
  obtain ⟨k', hi', he⟩ := State.fieldFound?_setVm hvm h2
  exact ⟨c, k', i, f, a, cell, by rw [hvm.findClass]; exact h1, hi', h3, by rw [he]; exact h4, h5, h6, h7, h8, by rw [he]; exact h9, h10⟩
theorem vx_L.kept {C n d : String} {A : Nat → Prop} {U : State} {H H1 : Heap} (h : vx_L C n d A U H) (hq : ∀ a : Nat, a < H.size → ¬ A a → H1[a]? = H[a]?) : vx_L C n d A U H1 := by
  obtain ⟨c, k, i, f, a, cell, h1, h2, h3, h4, h5, h6, h7, h8, h9, h10⟩ := h
  exact ⟨c, k, i, f, a, cell, h1, h2, h3, h4, by rw [hq a (Array.getElem?_eq_some_iff.mp h5).1 h10]; exact h5, h6, h7, h8, h9, h10⟩
theorem vx_L.narrow {C n d : String} {A B : Nat → Prop} {U : State} {H : Heap} (h : vx_L C n d A U H) (hAB : ∀ q, B q → A q) : vx_L C n d B U H := by
  obtain ⟨c, k, i, f, a, cell, h1, h2, h3, h4, h5, h6, h7, h8, h9, h10⟩ := h
  exact ⟨c, k, i, f, a, cell, h1, h2, h3, h4, h5, h6, h7, h8, h9, fun z => h10 (hAB _ z)⟩
theorem vx_L.word {C n d : String} {A : Nat → Prop} {s : State} {args : Array Value} (h : vx_L C n d A s s.heap) : (Cond.laysStatic C n d).before args s = true := by
  obtain ⟨c, k, i, f, a, cell, h1, h2, h3, h4, h5, h6, h7, h8, h9, -⟩ := h
  show (Cond.laysStatic C n d).holds args s none s [] = true
  exact Cond.laysStatic_of h1 h2 h3 h4 h5 h6 h7 h8 h9
/-- .. and what it holds: null or some reference -/
def vx_Zq (C n d : String) (A : Nat → Prop) (U : State) (H : Heap) : Prop := va_Zq C n d A U H ∧ vx_L C n d A U H
theorem vx_Zq.moved {C n d : String} {A : Nat → Prop} {u U : State} {H : Heap} (hvm : u.vm.Alike U.vm) (h : vx_Zq C n d A u H) : vx_Zq C n d A U H := ⟨va_Zq.moved hvm h.1, vx_L.moved hvm h.2⟩
theorem vx_Zq.kept {C n d : String} {A : Nat → Prop} {U : State} {H H1 : Heap} (h : vx_Zq C n d A U H) (hq : ∀ a : Nat, a < H.size → ¬ A a → H1[a]? = H[a]?) : vx_Zq C n d A U H1 := ⟨va_Zq.kept h.1 hq, vx_L.kept h.2 hq⟩
theorem vx_Zq.narrow {C n d : String} {A B : Nat → Prop} {U : State} {H : Heap} (h : vx_Zq C n d A U H) (hAB : ∀ q, B q → A q) : vx_Zq C n d B U H := ⟨va_Zq.narrow h.1 hAB, vx_L.narrow h.2 hAB⟩
theorem vx_Zqof {args : Array Value} {s : State} {C n d : String} {A : Nat → Prop} (hl : (Cond.laysStatic C n d).before args s = true) (hini : (Cond.initialized C).before args s = true) (h : (Cond.isRef (.static C n d)).before args s = true) (hA : ∀ a : Nat, a < s.heap.size → ¬ A a) : vx_Zq C n d A s s.heap := by
  refine ⟨va_Zqof hl hini h hA, ?_⟩
  obtain ⟨c, k, i, f, a, cell, h1, h2, h3, h4, h5, h6, h7, h8, h9⟩ := Cond.laysStatic_spec hl
  exact ⟨c, k, i, f, a, cell, h1, h2, h3, h4, h5, h6, h7, h8, h9, hA a (Array.getElem?_eq_some_iff.mp h5).1⟩
theorem vx_isRef {C n d : String} {v : Value} {A : Nat → Prop} {s : State} {args : Array Value} (h : va_Z C n d v A s s.heap) (hv : v.isRef = true) : (Cond.isRef (.static C n d)).before args s = true := by
  obtain ⟨cf, kf, fi, f, a, cell, h1, h2, h3, h4, h5, h6, h7, -⟩ := h
  have he : (Term.static C n d).eval args s none [] s = some v := by
    simp [Term.eval, State.fieldNamed?, h1, h2, h4, h5, h6, h7]
  simp only [Cond.before, Cond.holds, Cond.value, he]
  cases v <;> simp_all [Value.isRef]
theorem vx_isRefq {C n d : String} {A : Nat → Prop} {s : State} {args : Array Value} (h : va_Zq C n d A s s.heap) : (Cond.isRef (.static C n d)).before args s = true := by
  rcases h with h | ⟨t, h⟩
  · exact vx_isRef h rfl
  · exact vx_isRef h rfl
/-- the same frame, seen from here: as if the method were called anew in this heap -/
theorem vx_rebase {T : State} (X : Stand p l e R s m args below meth c T locs cells slots) {R' : Room} (hf : R'.frames ≤ R.frames) (hl : R'.locals ≤ R.locals) (hc : cells + R'.cells ≤ R.cells) (hs : slots + R'.slots ≤ R.slots) :
    Stand p l e R' ((T.setVm s.vm).setFrames (.invoking m args :: below)) m args below meth c T [] 0 0 := by
  have htop : (T.setVm s.vm).topJava?.isSome := X.here.top
  have hF : ((T.setVm s.vm).setFrames (.invoking m args :: below)).frames = .invoking m args :: below := State.frames_setFrames _ (State.cur_lt_of_top htop)
  obtain ⟨g₀, hg0⟩ := Option.isSome_iff_exists.mp htop
  obtain ⟨r, hr⟩ := State.topJava?_eq_some.mp hg0
  have hl9 : e.platform.stackLimits (T.setVm s.vm).me = e.platform.stackLimits s.me := X.limits
  have hb9 : (T.setVm s.vm).me.stackBytes = s.me.stackBytes := X.bytes
  refine ⟨X.admits, X.cas, X.clock, hF, ?_, X.hears, X.method, X.code, X.here, X.tail, X.warmed, ?_, ?_, ?_⟩
  · have h := X.room
    have hU : ((T.setVm s.vm).setFrames (.invoking m args :: below)).localsInUse = s.localsInUse := by
      rw [State.localsInUse_invoking hF (meth := meth) (c := c) X.method X.code, State.localsInUse_invoking X.frames X.method X.code]
    simp only [State.hasRoom, Bool.and_eq_true, decide_eq_true_eq] at h ⊢
    obtain ⟨⟨⟨⟨h1, h2, h3, h4, h5, h6⟩, h7⟩, h8⟩, h9⟩ := h
    rw [X.frames, List.length_cons] at h2 h3
    have q1 := X.heapSize
    have q2 := X.used
    simp only [hF, hU, List.length_cons, State.stackLimits_setFrames, State.stackBytes_setFrames, hl9, hb9]
    refine ⟨⟨⟨⟨by omega, by omega, by omega, by omega, by omega, h6⟩, ?_⟩, ?_⟩, X.book⟩
    · show T.heap.size + R'.cells ≤ e.platform.maxCells
      omega
    · show T.slotsUsed + R'.slots ≤ e.platform.maxSlots
      omega
  · rw [State.stackLimits_setFrames]; rfl
  · rw [State.stackBytes_setFrames]; rfl
  · refine ⟨?_, Nat.le_refl _, Nat.le_refl _, ?_, ?_, fun a c9 h9 => ⟨c9, h9, rfl, rfl, fun _ _ => rfl⟩⟩
    · obtain ⟨t, ht, -⟩ := State.frames_cons hr
      show T.setVm s.vm = { ((T.setVm s.vm).setFrames (.invoking m args :: below)).setFrames (T.setVm s.vm).frames with heap := T.heap, slotsUsed := T.slotsUsed }
      rw [State.setFrames_setFrames, State.setFrames_self ht]
      rfl
    · show T.slotsUsed = T.slotsUsed + ((T.heap.toList.drop T.heap.size).map (·.slots.size)).sum
      rw [List.drop_eq_nil_of_le (Nat.le_of_eq Array.length_toList)]
      rfl
    · show ((T.heap.toList.drop T.heap.size).map (·.slots.size)).sum ≤ 0
      rw [List.drop_eq_nil_of_le (Nat.le_of_eq Array.length_toList)]
      exact Nat.le_refl _
/-- 'throw new E()': new; dup; invokespecial; athrow -/
theorem vx_throw0 {cc : ByteArray} {pc : Nat} (hexec : p.tables.exec = Jvm.exec) (hb : c.code = cc) (hl : l.stackTraces = false) {own cls : String} {names : List String} {ik ic mc ms : Nat} {A : Nat → Prop}
    (hown : s.vm.findClass own = some m.cls) (hcls : Bundle.fit cls = true) (hnames : ∀ n ∈ names, Bundle.fit n = true)
    (hk : (Cond.classLink own ik cls).before args s = true) (hini : (Cond.initialized cls).before args s = true) (hat : ∀ w ∈ vx_at0 own ic cls names, w.before args s = true)
    (hgood : ∀ w ∈ Cond.classLink own ik cls :: Cond.initialized cls :: vx_at0 own ic cls names, vx_ot w = true)
    (hU : vx_Zq Bundle.tN "UNASSIGNED_STACK" Bundle.steD A s s.heap) (hN : vx_Zq Bundle.tN "SUPPRESSED_SENTINEL" Bundle.listD A s s.heap) (hS : va_S A s.heap H locs) (hsize : ls.size = c.maxLocals)
    (d0 : decode cc pc = .ok (.new ik, 3)) (d3 : decode cc (pc + 3) = .ok (.dup, 1)) (d4 : decode cc (pc + 4) = .ok (.invokespecial ic, 3)) (d7 : decode cc (pc + 7) = .ok (.athrow, 1))
    (hout : ∀ x ∈ c.exceptionTable.toList, covers x (pc + 7) = false)
    (hRframes : names.length + 3 < R.frames) (hRlocals : (rest.map fun v => v.category).sum + (13 * (names.length + 1) + 42) ≤ R.locals) (hRcells : cells + 1 ≤ R.cells) (hRslots : slots + 6 ≤ R.slots) (hlocks : meth.locks = false)
    (hx : ∀ t : State, s.vm.Alike t.vm → H.size ≤ t.heap.size → (∀ q : Nat, q < H.size → t.heap[q]? = H[q]?) → XC cls s t)
    (hf : ∀ z ∈ locs, free z.base) (hc : cells + 1 ≤ mc) (hs : slots + 6 ≤ ms) :
    W p l e R s m args below meth c H locs cells slots (vx_MQ below Qc XC args s mc ms free) (F0 m pc ls rest) := by
  intro T hT X
  have htr : e.platform.stackTraces = false := (show e.platform.stackTraces = l.stackTraces by rw [X.admits.platform]).trans hl
  have Y := vx_rebase X (R' := { frames := R.frames, locals := R.locals, cells := 1, slots := 6 }) (Nat.le_refl _) (Nat.le_refl _) hRcells hRslots
  obtain ⟨s', hA⟩ : ∃ z, z = (T.setVm s.vm).setFrames (.invoking m args :: below) := ⟨_, rfl⟩
  rw [← hA] at Y
  have hvm : s'.vm = s.vm := by rw [hA]; rfl
  have hhp : s'.heap = H := by rw [hA]; exact hT
  have hW0 : s.WarmedH s'.vm := by rw [hvm]; exact State.WarmedH.refl s
  have hat' : ∀ w ∈ vx_at0 own ic cls names, w.before args s' = true := fun w hw => vx_ot_at hW0 hvm.symm (hgood w (List.mem_cons_of_mem _ (List.mem_cons_of_mem _ hw))) (hat w hw)
  have hk' : (Cond.classLink own ik cls).before args s' = true := vx_ot_at hW0 hvm.symm (hgood _ List.mem_cons_self) hk
  have hini' : (Cond.initialized cls).before args s' = true := vx_ot_at hW0 hvm.symm (hgood _ (List.mem_cons_of_mem _ List.mem_cons_self)) hini
  have hU' : vx_Zq Bundle.tN "UNASSIGNED_STACK" Bundle.steD A s' s'.heap := by rw [hhp]; exact vx_Zq.moved hW0.alike (hU.kept hS.2.1)
  have hN' : vx_Zq Bundle.tN "SUPPRESSED_SENTINEL" Bundle.listD A s' s'.heap := by rw [hhp]; exact vx_Zq.moved hW0.alike (hN.kept hS.2.1)
  have h : ∀ w ∈ Bundle.ownAtoms0 own ic cls names, w.before args s' = true := vx_own hat' (vx_isRefq hU'.1) (vx_isRefq hN'.1) hU'.2.word hN'.2.word
  have hown' : s'.vm.findClass own = some m.cls := by rw [hvm]; exact hown
  have hins : (Cond.instantiable cls 6).before args s' = true := h _ (by simp [Bundle.ownAtoms0])
  obtain ⟨vm₁, cX, kX, hfX, hkX, -, -, X₁, st1⟩ := Y.newCold hexec (own := own) (C := cls) (index := ik) (n := 6) hown' hk' hins hini'
    (g := F0 m pc ls rest) rfl (by rw [hb]; exact d0) (Nat.le_refl _) (Nat.le_refl _)
  generalize hT1 : (T.setVm vm₁).pushCell { cls := cX, slots := kX.instanceTypes.map defaultValue, vm := .none } = T1 at X₁ st1
  have hcat : (Value.ref T.heap.size).category = 1 := rfl
  have hcellA : T1.heap[T.heap.size]? = some (freshCell cX kX) := by rw [← hT1]; exact State.heap_pushCell_size _ _
  have d3' : decode c.code (pc + 3) = .ok (.dup, 1) := by rw [hb]; exact d3
  obtain ⟨U, hsteps, hrun, hend, hW, hsame, ce, hce, hO⟩ := X₁.ctorThrow0 hexec htr (own := own) (cls := cls) (names := names) (ic := ic) hown' hcls hnames h (fun x hx => nomatch hx) hfX hkX hcellA (by rw [hhp, hT]; exact Nat.le_refl _)
    (g := { method := m, pc := pc + 4, locals := ls, stack := .ref T.heap.size :: .ref T.heap.size :: rest, locked := none }) rfl hsize rfl rfl (rest := rest) rfl
    (by rw [hb]; exact d4) (by rw [hb]; exact d7) hout hRframes (by simp only [List.map_cons, List.sum_cons, hcat]; omega) hlocks
  obtain ⟨f1, f2⟩ := vx_frame hsame
  rw [hhp] at f1 f2
  have hWs : s.WarmedH U.vm := State.WarmedH.trans hW0 hW
  have hcl : s.vm.findClass cls = some ce.cls := by
    have h9 := hO.cls
    rw [hvm] at h9
    exact h9
  have hall : s.sameButNew ({ U with vm := s.vm } : State) locs mc ms := by
    subst hA
    obtain ⟨e1, e2⟩ := hsame
    rw [State.setFrames_setFrames] at e1
    have h2 : (T.setVm s.vm).sameButNew ({ U with vm := s.vm } : State) [] (0 + 1) (0 + 6) := ⟨e1, e2⟩
    have h3 := X.same.trans h2
    rw [List.append_nil] at h3
    exact h3.mono hc hs
  refine ⟨U, ?_, .threw T.heap.size, hrun, hend, Or.inr ⟨T.heap.size, rfl, cls, ce, locs, hx U hWs.alike f1 (fun q hq => f2 q hq (fun z hz => nomatch hz)), hce, hO.vm, hcl, hWs, hall, hf⟩⟩
  refine st1 _ ?_
  show Steps p.tables e below (T1.setTop { method := m, pc := pc + 3, locals := ls, stack := .ref T.heap.size :: rest, locked := none }) _
  jvm_step X₁.here [X₁.here.top, hexec, d3', Value.category]
  exact hsteps
/-- 'throw new E("text")': new; dup; ldc; invokespecial; athrow -/
theorem vx_throwS {cc : ByteArray} {pc : Nat} (hexec : p.tables.exec = Jvm.exec) (hb : c.code = cc) (hl : l.stackTraces = false) {own cls text : String} {names : List String} {ik is ic mc ms sa : Nat} {A : Nat → Prop}
    (hown : s.vm.findClass own = some m.cls) (hcls : Bundle.fit cls = true) (hnames : ∀ n ∈ names, Bundle.fit n = true)
    (hk : (Cond.classLink own ik cls).before args s = true) (hini : (Cond.initialized cls).before args s = true) (hstr : vk_R own is text sa s) (hat : ∀ w ∈ vx_atS own ic cls names, w.before args s = true)
    (hgood : ∀ w ∈ Cond.classLink own ik cls :: Cond.initialized cls :: vx_atS own ic cls names, vx_ot w = true)
    (hU : vx_Zq Bundle.tN "UNASSIGNED_STACK" Bundle.steD A s s.heap) (hN : vx_Zq Bundle.tN "SUPPRESSED_SENTINEL" Bundle.listD A s s.heap) (hS : va_S A s.heap H locs) (hsize : ls.size = c.maxLocals)
    (d0 : decode cc pc = .ok (.new ik, 3)) (d3 : decode cc (pc + 3) = .ok (.dup, 1)) (d4 : decode cc (pc + 4) = .ok (.ldc is, 2)) (d6 : decode cc (pc + 6) = .ok (.invokespecial ic, 3)) (d9 : decode cc (pc + 9) = .ok (.athrow, 1))
    (hout : ∀ x ∈ c.exceptionTable.toList, covers x (pc + 9) = false)
    (hRframes : names.length + 3 < R.frames) (hRlocals : (rest.map fun v => v.category).sum + (13 * (names.length + 1) + 43) ≤ R.locals) (hRcells : cells + 1 ≤ R.cells) (hRslots : slots + 6 ≤ R.slots) (hlocks : meth.locks = false)
    (hx : ∀ t : State, s.vm.Alike t.vm → H.size ≤ t.heap.size → (∀ q : Nat, q < H.size → t.heap[q]? = H[q]?) → XC cls s t)
    (hf : ∀ z ∈ locs, free z.base) (hc : cells + 1 ≤ mc) (hs : slots + 6 ≤ ms) :
    W p l e R s m args below meth c H locs cells slots (vx_MQ below Qc XC args s mc ms free) (F0 m pc ls rest) := by
  intro T hT X
  have htr : e.platform.stackTraces = false := (show e.platform.stackTraces = l.stackTraces by rw [X.admits.platform]).trans hl
  have Y := vx_rebase X (R' := { frames := R.frames, locals := R.locals, cells := 1, slots := 6 }) (Nat.le_refl _) (Nat.le_refl _) hRcells hRslots
  obtain ⟨s', hA⟩ : ∃ z, z = (T.setVm s.vm).setFrames (.invoking m args :: below) := ⟨_, rfl⟩
  rw [← hA] at Y
  have hvm : s'.vm = s.vm := by rw [hA]; rfl
  have hhp : s'.heap = H := by rw [hA]; exact hT
  have hW0 : s.WarmedH s'.vm := by rw [hvm]; exact State.WarmedH.refl s
  have hat' : ∀ w ∈ vx_atS own ic cls names, w.before args s' = true := fun w hw => vx_ot_at hW0 hvm.symm (hgood w (List.mem_cons_of_mem _ (List.mem_cons_of_mem _ hw))) (hat w hw)
  have hk' : (Cond.classLink own ik cls).before args s' = true := vx_ot_at hW0 hvm.symm (hgood _ List.mem_cons_self) hk
  have hini' : (Cond.initialized cls).before args s' = true := vx_ot_at hW0 hvm.symm (hgood _ (List.mem_cons_of_mem _ List.mem_cons_self)) hini
  have hU' : vx_Zq Bundle.tN "UNASSIGNED_STACK" Bundle.steD A s' s'.heap := by rw [hhp]; exact vx_Zq.moved hW0.alike (hU.kept hS.2.1)
  have hN' : vx_Zq Bundle.tN "SUPPRESSED_SENTINEL" Bundle.listD A s' s'.heap := by rw [hhp]; exact vx_Zq.moved hW0.alike (hN.kept hS.2.1)
  have h : ∀ w ∈ Bundle.ownAtoms own ic cls names, w.before args s' = true := vx_own hat' (vx_isRefq hU'.1) (vx_isRefq hN'.1) hU'.2.word hN'.2.word
  have hown' : s'.vm.findClass own = some m.cls := by rw [hvm]; exact hown
  have hins : (Cond.instantiable cls 6).before args s' = true := h _ (by simp [Bundle.ownAtoms])
  obtain ⟨vm₁, cX, kX, hfX, hkX, -, -, X₁, st1⟩ := Y.newCold hexec (own := own) (C := cls) (index := ik) (n := 6) hown' hk' hins hini'
    (g := F0 m pc ls rest) rfl (by rw [hb]; exact d0) (Nat.le_refl _) (Nat.le_refl _)
  generalize hT1 : (T.setVm vm₁).pushCell { cls := cX, slots := kX.instanceTypes.map defaultValue, vm := .none } = T1 at X₁ st1
  have hcat : (Value.ref T.heap.size).category = 1 := rfl
  have hcellA : T1.heap[T.heap.size]? = some (freshCell cX kX) := by rw [← hT1]; exact State.heap_pushCell_size _ _
  have d3' : decode c.code (pc + 3) = .ok (.dup, 1) := by rw [hb]; exact d3
  have d4' : decode c.code (pc + 4) = .ok (.ldc is, 2) := by rw [hb]; exact d4
  have hstr' : vk_R own is text sa s' := vk_R.warm hW0 hstr
  obtain ⟨U, hsteps, hrun, hend, hW, hsame, ce, hce, hO⟩ := X₁.ctorThrowS hexec htr (own := own) (cls := cls) (names := names) (ic := ic) hown' hcls hnames h (fun x hx => nomatch hx) hfX hkX hcellA (by rw [hhp, hT]; exact Nat.le_refl _) (msg := .ref sa) rfl
    (g := { method := m, pc := pc + 6, locals := ls, stack := .ref sa :: .ref T.heap.size :: .ref T.heap.size :: rest, locked := none }) rfl hsize rfl rfl (rest := rest) rfl
    (by rw [hb]; exact d6) (by rw [hb]; exact d9) hout hRframes (by simp only [List.map_cons, List.sum_cons, hcat]; omega) hlocks
  obtain ⟨f1, f2⟩ := vx_frame hsame
  rw [hhp] at f1 f2
  have hWs : s.WarmedH U.vm := State.WarmedH.trans hW0 hW
  have hcl : s.vm.findClass cls = some ce.cls := by
    have h9 := hO.cls
    rw [hvm] at h9
    exact h9
  have hall : s.sameButNew ({ U with vm := s.vm } : State) locs mc ms := by
    subst hA
    obtain ⟨e1, e2⟩ := hsame
    rw [State.setFrames_setFrames] at e1
    have h2 : (T.setVm s.vm).sameButNew ({ U with vm := s.vm } : State) [] (0 + 1) (0 + 6) := ⟨e1, e2⟩
    have h3 := X.same.trans h2
    rw [List.append_nil] at h3
    exact h3.mono hc hs
  refine ⟨U, ?_, .threw T.heap.size, hrun, hend, Or.inr ⟨T.heap.size, rfl, cls, ce, locs, hx U hWs.alike f1 (fun q hq => f2 q hq (fun z hz => nomatch hz)), hce, hO.vm, hcl, hWs, hall, hf⟩⟩
  refine st1 _ ?_
  show Steps p.tables e below (T1.setTop { method := m, pc := pc + 3, locals := ls, stack := .ref T.heap.size :: rest, locked := none }) _
  jvm_step X₁.here [X₁.here.top, hexec, d3', Value.category]
  exact X₁.ldcString hexec (own := own) (text := text) (index := is) (a := sa) hown' hstr'.1 hstr'.2
    (g := { method := m, pc := pc + 4, locals := ls, stack := .ref T.heap.size :: .ref T.heap.size :: rest, locked := none }) rfl d4' _ hsteps
/-- 'throw new E("text")', the text by a wide index -/
theorem vx_throwSW {cc : ByteArray} {pc : Nat} (hexec : p.tables.exec = Jvm.exec) (hb : c.code = cc) (hl : l.stackTraces = false) {own cls text : String} {names : List String} {ik is ic mc ms sa : Nat} {A : Nat → Prop}
    (hown : s.vm.findClass own = some m.cls) (hcls : Bundle.fit cls = true) (hnames : ∀ n ∈ names, Bundle.fit n = true)
    (hk : (Cond.classLink own ik cls).before args s = true) (hini : (Cond.initialized cls).before args s = true) (hstr : vk_R own is text sa s) (hat : ∀ w ∈ vx_atS own ic cls names, w.before args s = true)
    (hgood : ∀ w ∈ Cond.classLink own ik cls :: Cond.initialized cls :: vx_atS own ic cls names, vx_ot w = true)
    (hU : vx_Zq Bundle.tN "UNASSIGNED_STACK" Bundle.steD A s s.heap) (hN : vx_Zq Bundle.tN "SUPPRESSED_SENTINEL" Bundle.listD A s s.heap) (hS : va_S A s.heap H locs) (hsize : ls.size = c.maxLocals)
    (d0 : decode cc pc = .ok (.new ik, 3)) (d3 : decode cc (pc + 3) = .ok (.dup, 1)) (d4 : decode cc (pc + 4) = .ok (.ldc_w is, 3)) (d7 : decode cc (pc + 7) = .ok (.invokespecial ic, 3)) (d10 : decode cc (pc + 10) = .ok (.athrow, 1))
    (hout : ∀ x ∈ c.exceptionTable.toList, covers x (pc + 10) = false)
    (hRframes : names.length + 3 < R.frames) (hRlocals : (rest.map fun v => v.category).sum + (13 * (names.length + 1) + 43) ≤ R.locals) (hRcells : cells + 1 ≤ R.cells) (hRslots : slots + 6 ≤ R.slots) (hlocks : meth.locks = false)
    (hx : ∀ t : State, s.vm.Alike t.vm → H.size ≤ t.heap.size → (∀ q : Nat, q < H.size → t.heap[q]? = H[q]?) → XC cls s t)
    (hf : ∀ z ∈ locs, free z.base) (hc : cells + 1 ≤ mc) (hs : slots + 6 ≤ ms) :
    W p l e R s m args below meth c H locs cells slots (vx_MQ below Qc XC args s mc ms free) (F0 m pc ls rest) := by
  intro T hT X
  have htr : e.platform.stackTraces = false := (show e.platform.stackTraces = l.stackTraces by rw [X.admits.platform]).trans hl
  have Y := vx_rebase X (R' := { frames := R.frames, locals := R.locals, cells := 1, slots := 6 }) (Nat.le_refl _) (Nat.le_refl _) hRcells hRslots
  obtain ⟨s', hA⟩ : ∃ z, z = (T.setVm s.vm).setFrames (.invoking m args :: below) := ⟨_, rfl⟩
  rw [← hA] at Y
  have hvm : s'.vm = s.vm := by rw [hA]; rfl
  have hhp : s'.heap = H := by rw [hA]; exact hT
  have hW0 : s.WarmedH s'.vm := by rw [hvm]; exact State.WarmedH.refl s
  have hat' : ∀ w ∈ vx_atS own ic cls names, w.before args s' = true := fun w hw => vx_ot_at hW0 hvm.symm (hgood w (List.mem_cons_of_mem _ (List.mem_cons_of_mem _ hw))) (hat w hw)
  have hk' : (Cond.classLink own ik cls).before args s' = true := vx_ot_at hW0 hvm.symm (hgood _ List.mem_cons_self) hk
  have hini' : (Cond.initialized cls).before args s' = true := vx_ot_at hW0 hvm.symm (hgood _ (List.mem_cons_of_mem _ List.mem_cons_self)) hini
  have hU' : vx_Zq Bundle.tN "UNASSIGNED_STACK" Bundle.steD A s' s'.heap := by rw [hhp]; exact vx_Zq.moved hW0.alike (hU.kept hS.2.1)
  have hN' : vx_Zq Bundle.tN "SUPPRESSED_SENTINEL" Bundle.listD A s' s'.heap := by rw [hhp]; exact vx_Zq.moved hW0.alike (hN.kept hS.2.1)
  have h : ∀ w ∈ Bundle.ownAtoms own ic cls names, w.before args s' = true := vx_own hat' (vx_isRefq hU'.1) (vx_isRefq hN'.1) hU'.2.word hN'.2.word
  have hown' : s'.vm.findClass own = some m.cls := by rw [hvm]; exact hown
  have hins : (Cond.instantiable cls 6).before args s' = true := h _ (by simp [Bundle.ownAtoms])
  obtain ⟨vm₁, cX, kX, hfX, hkX, -, -, X₁, st1⟩ := Y.newCold hexec (own := own) (C := cls) (index := ik) (n := 6) hown' hk' hins hini'
    (g := F0 m pc ls rest) rfl (by rw [hb]; exact d0) (Nat.le_refl _) (Nat.le_refl _)
  generalize hT1 : (T.setVm vm₁).pushCell { cls := cX, slots := kX.instanceTypes.map defaultValue, vm := .none } = T1 at X₁ st1
  have hcat : (Value.ref T.heap.size).category = 1 := rfl
  have hcellA : T1.heap[T.heap.size]? = some (freshCell cX kX) := by rw [← hT1]; exact State.heap_pushCell_size _ _
  have d3' : decode c.code (pc + 3) = .ok (.dup, 1) := by rw [hb]; exact d3
  have d4' : decode c.code (pc + 4) = .ok (.ldc_w is, 3) := by rw [hb]; exact d4
  have hstr' : vk_R own is text sa s' := vk_R.warm hW0 hstr
  obtain ⟨U, hsteps, hrun, hend, hW, hsame, ce, hce, hO⟩ := X₁.ctorThrowS hexec htr (own := own) (cls := cls) (names := names) (ic := ic) hown' hcls hnames h (fun x hx => nomatch hx) hfX hkX hcellA (by rw [hhp, hT]; exact Nat.le_refl _) (msg := .ref sa) rfl
    (g := { method := m, pc := pc + 7, locals := ls, stack := .ref sa :: .ref T.heap.size :: .ref T.heap.size :: rest, locked := none }) rfl hsize rfl rfl (rest := rest) rfl
    (by rw [hb]; exact d7) (by rw [hb]; exact d10) hout hRframes (by simp only [List.map_cons, List.sum_cons, hcat]; omega) hlocks
  obtain ⟨f1, f2⟩ := vx_frame hsame
  rw [hhp] at f1 f2
  have hWs : s.WarmedH U.vm := State.WarmedH.trans hW0 hW
  have hcl : s.vm.findClass cls = some ce.cls := by
    have h9 := hO.cls
    rw [hvm] at h9
    exact h9
  have hall : s.sameButNew ({ U with vm := s.vm } : State) locs mc ms := by
    subst hA
    obtain ⟨e1, e2⟩ := hsame
    rw [State.setFrames_setFrames] at e1
    have h2 : (T.setVm s.vm).sameButNew ({ U with vm := s.vm } : State) [] (0 + 1) (0 + 6) := ⟨e1, e2⟩
    have h3 := X.same.trans h2
    rw [List.append_nil] at h3
    exact h3.mono hc hs
  refine ⟨U, ?_, .threw T.heap.size, hrun, hend, Or.inr ⟨T.heap.size, rfl, cls, ce, locs, hx U hWs.alike f1 (fun q hq => f2 q hq (fun z hz => nomatch hz)), hce, hO.vm, hcl, hWs, hall, hf⟩⟩
  refine st1 _ ?_
  show Steps p.tables e below (T1.setTop { method := m, pc := pc + 3, locals := ls, stack := .ref T.heap.size :: rest, locked := none }) _
  jvm_step X₁.here [X₁.here.top, hexec, d3', Value.category]
  exact X₁.ldcStringW hexec (own := own) (text := text) (index := is) (a := sa) hown' hstr'.1 hstr'.2
    (g := { method := m, pc := pc + 4, locals := ls, stack := .ref T.heap.size :: .ref T.heap.size :: rest, locked := none }) rfl d4' _ hsteps
end Ends
section Bodies
variable {l : Launch}
theorem vx_ofW {y : MethodName} {ws ws' : List Cond} {rm : Room} {Pc : Array Value → State → Prop} {Qc : Array Value → State → Outcome → State → Prop} {XC : String → State → State → Prop} {mc ms : Nat} {free : Addr → Prop} {cc : ByteArray} {maxL : Nat} {ret : Option FieldType}
    (hy : plainName y.cls = true) (hw : ws = Cond.code y cc maxL ret :: ws')
    (body : ∀ p e s m args below meth c s₁, BodyLoose p l y (headSpec ws rm) cc maxL ret e s m args below meth c s₁ → c.maxLocals = maxL → (∀ x ∈ c.exceptionTable.toList, False) → Pc args s →
      W p l e (headSpec ws rm).room s m args below meth c s.heap [] 0 0 (vx_MQ below Qc XC args s mc ms free) (entryFrame m args maxL)) : vx_Met l y ws rm Pc Qc XC mc ms free := by
  refine MetFree.of_bodyS (code := cc) (maxLocals := maxL) (ret := ret) hy ?_ ?_
  · intro args s m h hn
    obtain ⟨meth, c, h1, h2, h3, h4, h5, h6, -, -⟩ := Cond.code_spec hn (atoms_spec (ws := ws) h _ (by rw [hw]; exact List.mem_cons_self))
    exact ⟨meth, c, h1, h2, h3, h4, h5, h6⟩
  · intro p e s m args below meth c s₁ B hml hP _
    have hh0 : s₁.heap = s.heap := by rw [B.state]; rfl
    have ht : ∀ x ∈ c.exceptionTable.toList, False := by
      obtain ⟨meth9, c9, h1, h2, -, -, -, -, h7, -⟩ := Cond.code_spec B.named (atoms_spec (ws := ws) B.pre _ (by rw [hw]; exact List.mem_cons_self))
      cases Option.some.inj (h1.symm.trans B.method)
      cases Option.some.inj (h2.symm.trans (Stand.of_body B).code)
      intro x hx
      rw [Array.isEmpty_iff.mp h7] at hx
      cases hx
    obtain ⟨t, a1, o, b1, b2, b3⟩ := body p e s m args below meth c s₁ B hml ht hP s₁ hh0 (Stand.of_body B)
    exact ⟨t, o, a1, b1, b2, b3⟩
/-- the table of a body with handlers -/
theorem vx_table {p : Program} {x y : MethodName} {S : Spec} {cc bytes : ByteArray} {maxL maxL' : Nat} {ret ret' : Option FieldType} {e : Env} {s s₁ : State} {m : MethodId} {args : Array Value} {below : List Frame} {meth : Method} {c : Code} {hh : List (Nat × Nat × Nat × Nat)}
    (B : BodyLoose p l y S cc maxL ret e s m args below meth c s₁) (h : (Cond.codeWith y bytes maxL' ret' hh).before args s = true) : c.exceptionTable.toList = tableOf hh := by
  obtain ⟨m9, meth9, c9, hn9, h1, h2, -, -, h6, -⟩ := Cond.codeWith_spec h
  cases Option.some.inj (hn9.symm.trans B.named)
  cases Option.some.inj (h1.symm.trans B.method)
  cases Option.some.inj (h2.symm.trans (Stand.of_body B).code)
  rw [← h6, table_eq]
end Bodies
end VXA
/-! ===== END ===== -/
/-! ===== BEGIN a static call of a method with an exception table ===== -/
section VXS
variable {p : Program} {l : Launch} {e : Env} {R : Room} {s : State} {m : MethodId} {args : Array Value} {below : List Frame} {meth : Method} {c : Code} {T : State} {H : Heap} {locs : List Loc} {cells slots : Nat}
abbrev vx_CSW (R : Room) (s : State) (args : Array Value) (own : String) (index : Nat) (y : MethodName) (bytes : ByteArray) (maxL : Nat) (ret : Option FieldType) (hh : List (Nat × Nat × Nat × Nat)) (ws : List Cond) (rm : Room) (mc ms n : Nat) : Prop :=
  (rm.cells = mc ∧ rm.slots = ms ∧ rm.frames + 1 ≤ R.frames ∧ 8 + (maxL + 11) + rm.locals ≤ R.locals ∧ (∀ w ∈ ws, ∀ (a' : Array Value) (U : State), s.WarmedH U.vm → w.before a' U = true) ∧ Cond.codeWith y bytes maxL ret hh ∈ ws) ∧
  (Cond.codeWith y bytes maxL ret hh).before args s = true ∧ (Cond.initialized y.cls).before args s = true ∧ (y.cls ≠ "java/lang/invoke/MethodHandle" ∧ y.cls ≠ "java/lang/invoke/VarHandle") ∧
  (∀ sig, parseMethodDescriptor y.desc = some sig → n = sig.parameters.length) ∧ (Cond.methodLink own index y).before args s = true ∧ (Cond.static y).before args s = true
theorem vx_cwSW {own : String} {index maxL mc ms : Nat} {y : MethodName} {bytes : ByteArray} {ret : Option FieldType} {hh : List (Nat × Nat × Nat × Nat)} {Ts ws ws' : List Cond} {rm : Room} (n : Nat) (ht : ∀ w ∈ Ts, w.before args s = true) (hT : GoodIn Ts (va_wsS own index y ws)) (hw : ws = Cond.codeWith y bytes maxL ret hh :: ws') (hrc : rm.cells = mc) (hrs : rm.slots = ms)
    (hd : y.cls ≠ "java/lang/invoke/MethodHandle" ∧ y.cls ≠ "java/lang/invoke/VarHandle" ∧ (parseMethodDescriptor y.desc).map (fun d => d.parameters.length) = some n) (hR : rm.frames + 1 ≤ R.frames ∧ 8 + (maxL + 11) + rm.locals ≤ R.locals) :
    vx_CSW R s args own index y bytes maxL ret hh ws rm mc ms n := by
  have ok : ∀ w ∈ va_wsS own index y ws, w.before args s = true := fun w h => ht w (hT w h).1
  have hG : GoodIn Ts ws := fun w h => hT w (by unfold va_wsS; exact List.mem_append_right _ h)
  have hc : Cond.codeWith y bytes maxL ret hh ∈ ws := by rw [hw]; exact List.mem_cons_self
  refine ⟨⟨hrc, hrs, hR.1, hR.2, pay_in ht hG, hc⟩, ht _ (hG _ hc).1, ok _ (by simp [va_wsS]), ⟨hd.1, hd.2.1⟩, fun sig h => ?_, ok _ (by simp [va_wsS]), ok _ (by simp [va_wsS])⟩
  have h2 := hd.2.2
  rw [h] at h2
  exact (Option.some.inj h2).symm
theorem vx_callSW (X : Stand p l e R s m args below meth c T locs cells slots) (hexec : p.tables.exec = Jvm.exec) {own : String} {index : Nat} {y : MethodName} {bytes : ByteArray} {maxL : Nat} {ret : Option FieldType} {hh : List (Nat × Nat × Nat × Nat)}
    (hown : s.vm.findClass own = some m.cls) (hlink : (Cond.methodLink own index y).before args s = true) (hstat : (Cond.static y).before args s = true) (hinit : (Cond.initialized y.cls).before args s = true)
    (hcode : (Cond.codeWith y bytes maxL ret hh).before args s = true) (hy : y.cls ≠ "java/lang/invoke/MethodHandle" ∧ y.cls ≠ "java/lang/invoke/VarHandle")
    {W9 : Nat} {Pre : Pt → Array Value → Prop} {Post : Pt → Array Value → Option Value → Pt → Prop} (hK : Back l R p e below s args y 3 W9 Pre Post)
    {g : JFrame} (hg : g.method = m) (hsize : g.locals.size = c.maxLocals) {argsL rest : List Value} (hlen : ∀ sig, parseMethodDescriptor y.desc = some sig → argsL.length = sig.parameters.length)
    (hstack : g.stack = argsL.reverse ++ rest) (hW : 2 * g.monitorRoom + (rest.map fun v => v.category).sum ≤ W9) (hdg : decode c.code g.pc = .ok (.invokestatic index, 3))
    (hpre : ∀ vm₁, s.WarmedH vm₁ → Pre ⟨T.setVm vm₁, locs, cells, slots⟩ argsL.toArray) :
    ∃ (v : Option Value) (vm₁ : Vm) (B : Pt), s.WarmedH vm₁ ∧ Stand p l e R s m args below meth c B.U B.locs B.cells B.slots ∧ Post ⟨T.setVm vm₁, locs, cells, slots⟩ argsL.toArray v B ∧
      ∀ target, Steps p.tables e below (B.U.setTop { g with pc := g.pc + 3, stack := v.toList ++ rest }) target → Steps p.tables e below (T.setTop g) target := by
  obtain ⟨mk, methM, cM, hnamed, hmethM, -, -, -, -, -, -, hsigM⟩ := Cond.codeWith_spec hcode
  have hstatic : methM.isStatic = true := Cond.static_spec hnamed hmethM hstat
  obtain ⟨kP, hkP, -⟩ := className_of_methodNamed hnamed
  have hinitP : kP.init = .initialized := Cond.initialized_spec (findClass_of_methodNamed hnamed) hkP hinit
  obtain ⟨vm₁, X₁, hstep₁⟩ := X.invokestatic hexec hown hlink hnamed hmethM hstatic hkP hinitP hy (g := g) hg (argsL := argsL) (rest := rest) (hlen _ hsigM) hstack hdg
  obtain ⟨v, B, X', hpost, hsteps⟩ := hK m meth c ⟨T.setVm vm₁, locs, cells, slots⟩ { g with stack := rest } (.invokestatic index) mk argsL.toArray X₁ hg hsize hdg hW (X₁.named hnamed) (hpre vm₁ X₁.warmed)
  exact ⟨v, vm₁, B, X₁.warmed, X', hpost, fun target h => hstep₁ _ fun acts => by rw [doInvoke_state]; exact hsteps.trans h⟩
theorem vx_runSW {y : MethodName} {bytes cc : ByteArray} {maxL nL mc ms n index : Nat} {ret : Option FieldType} {hh : List (Nat × Nat × Nat × Nat)} {ws : List Cond} {rm : Room} {Pc : Array Value → State → Prop} {Qc : Array Value → State → Outcome → State → Prop} {free : Addr → Prop} {Ts : List Cond} {own : String} {As rest : List Value} {g : JFrame}
    (S : CallFix p m c cc nL s args Ts own) (hM : Met l y ws rm Pc Qc mc ms free) (cw : vx_CSW R s args own index y bytes maxL ret hh ws rm mc ms n) (hp : PreS s H Pc As)
    (hg : g.method = m) (hn : As.length = n) (hsize : g.locals.size = nL) (hstack : g.stack = As.reverse ++ rest) (hW : 2 * g.monitorRoom + (rest.map fun v => v.category).sum ≤ 8) (hdg : decode cc g.pc = .ok (.invokestatic index, 3)) (hf : cells + mc ≤ R.cells ∧ slots + ms ≤ R.slots) :
    va_Run p l e R s m args below meth c H locs cells slots mc ms g rest (Qc As.toArray) (free) := by
  obtain ⟨⟨hrc, hrs, hfr, hlo, hws, hcw⟩, hcode, hini, hy, hlen, hl, hstt⟩ := cw
  have hK : Back l R p e below s args y 3 8 (PreOf R mc ms Pc) (PostOf Qc mc ms free) := va_backW (hh := hh) (bytes := bytes) (maxL := maxL) (ret := ret) hM hp.1 hrc hrs hfr hlo hws hcw (fun a' U hW => word_at hW (Or.inl (by first | rfl | simp [Cond.onTables, Cond.keeps, Cond.steady])) hini)
  obtain ⟨hx, hb, hml, ho, -⟩ := S
  intro T hT X
  obtain ⟨v, vm₁, ⟨U', l2, c2, s2⟩, hW₁, X', ⟨g', mk, t, L, e1, e2, hq, h1, hL, h2, h3⟩, st⟩ := vx_callSW X hx (hh := hh) (bytes := bytes) (maxL := maxL) (ret := ret) ho hl hstt hini hcode hy hK hg (hsize.trans hml.symm) (argsL := As) (rest := rest) (fun sig h => hn.trans (hlen sig h)) hstack hW (by rw [hb]; exact hdg)
    (fun vm₁ hW₁ => ⟨hf.1, hf.2, hp.2 (T.setVm vm₁) hT hW₁⟩)
  dsimp only [Pt.U, Pt.locs, Pt.cells, Pt.slots] at X' e1 e2 h1 h2 h3 st
  subst h1; subst h2; subst h3
  exact ⟨v, (T.setVm vm₁).calling g' mk As.toArray, t, U', L, hT, X', hL, e1, e2, hq, st⟩
/-- not caught here, past rows that name other classes: it goes on to the caller -/
theorem vx_outP {p : Program} {l : Launch} {e : Env} {R : Room} {s : State} {m : MethodId} {args : Array Value} {below : List Frame} {meth : Method} {c : Code} {H : Heap} {locs : List Loc} {cells slots : Nat} {free : Addr → Prop} {ls : Array Slot} {rest : List Value} {Qc : Array Value → State → Outcome → State → Prop} {XC : String → State → State → Prop}
    {pc : Nat} {own E : String} {ce : Cell} {q : Addr} {mc ms : Nat} (hown : s.vm.findClass own = some m.cls) (hlocks : meth.locks = false)
    (hpass : ∀ z ∈ c.exceptionTable.toList, covers z pc = false ∨ (z.catchType ≠ 0 ∧ ∃ nm : String, (Cond.classLink own z.catchType nm).before args s = true ∧ va_Nc E nm s)) (hcell : H[q]? = some ce) (hv : ce.vm = .none) (hcl : s.vm.findClass E = some ce.cls)
    (hx : ∀ t : State, t.heap = H → s.vm.Alike t.vm → XC E s t) (hf : ∀ z ∈ locs, free z.base) (hc : cells ≤ mc) (hs : slots ≤ ms) :
    vx_W p l e R s m args below meth c H locs cells slots (vx_MQ below Qc XC args s mc ms free) (F0 m pc ls rest) q := by
  intro T hT X
  have hpl : e.platform.magicAccessors = ({} : Platform).magicAccessors := by rw [X.admits.platform]
  obtain ⟨vm', hW', X', st⟩ := X.outThrough hlocks q (g := F0 m pc ls rest) rfl rfl rfl (cell := ce) (by rw [hT]; exact hcell) (by rw [hv]; rfl)
    (by obtain ⟨k9, h9, -⟩ := Vm.findClass_spec hcl; exact ⟨k9, h9⟩) (fun z hz => by
      rcases hpass z hz with h | ⟨hz0, nm, hl1, hn1⟩
      · exact Or.inl h
      · obtain ⟨c6, hc6, hcl6⟩ := Cond.classLink_spec hown hl1 e.platform hpl
        obtain ⟨a8, b8, h1, h2, h3⟩ := hn1
        cases Option.some.inj (h1.symm.trans hcl)
        cases Option.some.inj (h2.symm.trans hc6)
        exact Or.inr ⟨hz0, _, hcl6, h3⟩)
  obtain ⟨g₀, hfr⟩ := X'.frames_eq
  have hcell9 : ((T.setVm vm').setFrames (.throwing q :: below)).heap[q]? = some ce := by
    show T.heap[q]? = some ce
    rw [hT]; exact hcell
  have hend : Ended ((T.setVm vm').setFrames (.throwing q :: below)) below (.threw q) := State.frames_setFrames _ (State.cur_lt_of_frames hfr)
  refine ⟨(T.setVm vm').setFrames (.throwing q :: below), ?_, .threw q, X'.here.running, hend, Or.inr ⟨q, rfl, E, ce, locs, hx _ hT (X'.ends _).1.alike, hcell9, hv, hcl, (X'.ends _).1, (X'.ends _).2.mono hc hs, hf⟩⟩
  rw [X.pushThrowing_eq]
  exact st
/-- a thing of a world lies in the heap -/
theorem vx_lt {D : va_G} {cl : List vw_C} {ws : va_W} {H1 : Heap} (h : va_P D cl ws H1) {k : Nat} {q : Nat × va_E} (hk : ws[k]? = some q) : q.1 < H1.size := (h k q hk).lt
end VXS
/-! ===== END ===== -/
/-! ===== BEGIN methods with a table of their own: called by a name, returning or throwing ===== -/
section VXH
/-! vx_backW, vx_callVX, vx_callSX, vx_callVW, vx_runVW, vx_runVX, vx_runSX, vx_ofWH follow the same proofs as their sisters above (Free/Laws.lean, Shelf42/LK1.lean); vx_outP calls Shelf42/NT130.lean (outThrough). -/
section
variable {l : Launch} {R : Room} {p : Program} {e : Env} {below : List Frame} {s : State} {sargs : Array Value} {y : MethodName} {len W9 : Nat}
theorem vx_backW {ws : List Cond} {rm : Room} {Pc : Array Value → State → Prop} {Qc : Array Value → State → Outcome → State → Prop} {XC : String → State → State → Prop} {mc ms : Nat} {free : Addr → Prop} {bytes : ByteArray} {maxL : Nat} {ret : Option FieldType} {hh : List (Nat × Nat × Nat × Nat)}
    (hM : vx_Met l y ws rm Pc Qc XC mc ms free) (hblind : FrameBlind Pc) (hrc : rm.cells = mc) (hrs : rm.slots = ms)
    (hframes : rm.frames + 1 ≤ R.frames) (hlocals : W9 + (maxL + 11) + rm.locals ≤ R.locals)
    (hws : ∀ w ∈ ws, ∀ a' U, s.WarmedH U.vm → w.before a' U = true) (hcode : Cond.codeWith y bytes maxL ret hh ∈ ws) (hinit : ∀ a' U, s.WarmedH U.vm → (Cond.initialized y.cls).before a' U = true) :
    vx_Back l R p e below s sargs y len W9 (PreOf R mc ms Pc) (PostOf Qc mc ms free) (vx_Post XC mc ms free) := by
  intro m meth c A g ig mk a X hg hsize hdg hW hn hp
  have h1 : (headSpec ws rm).pre.before a A.U = true := atoms_intro fun w hw => hws w hw _ _ X.warmed
  have h2 : (Cond.codeWith y bytes maxL ret hh).before a A.U = true := hws _ hcode _ _ X.warmed
  have h3 : (Cond.initialized y.cls).before a A.U = true := hinit _ _ X.warmed
  have h4 : A.cells + (headSpec ws rm).room.cells ≤ R.cells := by rw [show (headSpec ws rm).room.cells = mc from hrc]; exact hp.1
  have h5 : A.slots + (headSpec ws rm).room.slots ≤ R.slots := by rw [show (headSpec ws rm).room.slots = ms from hrs]; exact hp.2.1
  have hPc : Pc a (A.U.calling g mk a) := hblind _ _ _ _ hp.2.2
  obtain ⟨U, Ls, c0, s0⟩ := A
  dsimp only [Pt.U, Pt.locs, Pt.cells, Pt.slots] at h1 h2 h3 h4 h5 X hn hPc ⊢
  obtain ⟨m9, methY, cY, hn9, hmY, hcY, -, hlY, -⟩ := Cond.codeWith_spec h2
  cases Option.some.inj (hn9.symm.trans hn)
  obtain ⟨kY, hkY, -⟩ := className_of_methodNamed hn
  have hinitY : kY.init = .initialized := Cond.initialized_spec (findClass_of_methodNamed hn) hkY h3
  have h : At U g.method c below := by rw [hg]; exact X.here
  have hlocals9 : W9 + (maxL + 11) + (headSpec ws rm).room.locals ≤ R.locals := hlocals
  have happ : (headSpec ws rm).appliesLoose y e.platform (U.calling g mk a) = true :=
    Spec.appliesLoose_calling (g := g) h hdg hn hkY hinitY
      (X.room_calling (g := g) (R' := (headSpec ws rm).room) hsize hmY hcY hframes (by rw [hlY]; omega) h4 h5) h1
  obtain ⟨mid, hmid⟩ := h.above
  have hfr : (U.setTop g).frames = (.java g :: mid) ++ below := by rw [State.frames_setTop' g h.top, hmid]; rfl
  obtain ⟨o, s₂, hsteps, -, hend, hq⟩ := Steps.callFree hM p X.admits X.cas X.clock (acts := []) hfr happ hPc trivial
  have hq' : vx_Q Qc XC mc ms free a (U.calling g mk a) o s₂ := hq
  rw [State.frames_setTop' g h.top] at hend
  obtain ⟨g₀, hg0⟩ := Option.isSome_iff_exists.mp h.top
  obtain ⟨r, hr⟩ := State.topJava?_eq_some.mp hg0
  have hr' : (({ U with heap := s₂.heap, slotsUsed := s₂.slotsUsed } : State).setVm s₂.vm).frames = .java g₀ :: r := hr
  rcases hq' with ⟨hqc, L, hfe, hL⟩ | ⟨q, rfl, E, ce, L, hx, hce, hcv, hcl, hW₂, hsm, hL⟩
  · obtain ⟨⟨v, rfl⟩, hW₂, e2, q2, q3, q4, q5, q6⟩ := id hfe
    have e3 : s₂ = ({ (U.calling g mk a).setFrames s₂.frames with heap := s₂.heap, slotsUsed := s₂.slotsUsed } : State).setVm s₂.vm := by
      have : s₂ = ({ s₂ with vm := (U.calling g mk a).vm } : State).setVm s₂.vm := rfl
      rw [e2] at this
      exact this
    obtain ⟨c₂, i₂, len₂, hc₂, hd₂, hf₂⟩ := hend
    have hW' : U.WarmedH s₂.vm := hW₂
    have hcc : c₂ = c := by
      have h1 : s₂.code? g.method = U.code? g.method := by
        rw [State.code?_eq, State.code?_eq, hW'.alike.method?]
      exact Option.some.inj (hc₂.symm.trans (h1.trans h.code))
    subst hcc
    have hlen : len₂ = len := by rw [hdg] at hd₂; cases hd₂; rfl
    subst hlen
    have hs₂ : s₂ = (({ U with heap := s₂.heap, slotsUsed := s₂.slotsUsed } : State).setVm s₂.vm).setTop { g with pc := g.pc + len₂, stack := v.toList ++ g.stack } := by
      refine e3.trans ?_
      rw [hf₂, State.calling_eq h.top, State.setFrames_setFrames, State.setTop_of_frames _ hr', hr]
      rfl
    have hsame : U.sameButNew ({ U with heap := s₂.heap, slotsUsed := s₂.slotsUsed } : State) L mc ms := by
      refine ⟨?_, q2, q3, q4, q5, q6⟩
      obtain ⟨t, ht, -⟩ := State.frames_cons hr
      show ({ U with heap := s₂.heap, slotsUsed := s₂.slotsUsed } : State) = { U.setFrames U.frames with heap := s₂.heap, slotsUsed := s₂.slotsUsed }
      rw [State.setFrames_self ht]
    subst hg
    refine Or.inl ⟨v, ⟨(({ U with heap := s₂.heap, slotsUsed := s₂.slotsUsed } : State).setVm s₂.vm), Ls ++ L, c0 + mc, s0 + ms⟩,
      ⟨X.admits, X.cas, X.clock, X.frames, X.room, X.hears, X.method, X.code, (X.here.setHeapUsed s₂.heap s₂.slotsUsed).setVm hW'.alike, X.tail, State.WarmedH.trans X.warmed hW', X.limits, X.bytes, X.same.trans (hsame.setVm s.vm)⟩,
      ⟨g, mk, s₂, L, rfl, rfl, hqc, rfl, hL, rfl, rfl⟩, ?_⟩
    show Steps p.tables e below _ ((({ U with heap := s₂.heap, slotsUsed := s₂.slotsUsed } : State).setVm s₂.vm).setTop { g with pc := g.pc + len₂, stack := v.toList ++ g.stack })
    rw [← hs₂]
    exact hsteps
  · obtain ⟨e2, q2, q3, q4, q5, q6⟩ := id hsm
    have e3 : s₂ = ({ (U.calling g mk a).setFrames s₂.frames with heap := s₂.heap, slotsUsed := s₂.slotsUsed } : State).setVm s₂.vm := by
      have : s₂ = ({ s₂ with vm := (U.calling g mk a).vm } : State).setVm s₂.vm := rfl
      rw [e2] at this
      exact this
    have hf₂ : s₂.frames = .throwing q :: .java g :: U.frames.tail := hend
    have hW' : U.WarmedH s₂.vm := hW₂
    have hs₂ : s₂ = ((({ U with heap := s₂.heap, slotsUsed := s₂.slotsUsed } : State).setVm s₂.vm).setTop g).pushFrame (.throwing q) := by
      refine e3.trans ?_
      rw [hf₂, State.calling_eq h.top, State.setFrames_setFrames, State.pushFrame, State.frames_setTop _ hr', State.setTop_of_frames _ hr', State.setFrames_setFrames, hr]
      rfl
    have hsame : U.sameButNew ({ U with heap := s₂.heap, slotsUsed := s₂.slotsUsed } : State) L mc ms := by
      refine ⟨?_, q2, q3, q4, q5, q6⟩
      obtain ⟨t, ht, -⟩ := State.frames_cons hr
      show ({ U with heap := s₂.heap, slotsUsed := s₂.slotsUsed } : State) = { U.setFrames U.frames with heap := s₂.heap, slotsUsed := s₂.slotsUsed }
      rw [State.setFrames_self ht]
    subst hg
    refine Or.inr ⟨q, ⟨(({ U with heap := s₂.heap, slotsUsed := s₂.slotsUsed } : State).setVm s₂.vm), Ls ++ L, c0 + mc, s0 + ms⟩,
      ⟨X.admits, X.cas, X.clock, X.frames, X.room, X.hears, X.method, X.code, (X.here.setHeapUsed s₂.heap s₂.slotsUsed).setVm hW'.alike, X.tail, State.WarmedH.trans X.warmed hW', X.limits, X.bytes, X.same.trans (hsame.setVm s.vm)⟩,
      ⟨g, mk, s₂, L, E, ce, rfl, rfl, hx, hce, hcv, hcl, rfl, hL, rfl, rfl⟩, ?_⟩
    show Steps p.tables e below _ (((({ U with heap := s₂.heap, slotsUsed := s₂.slotsUsed } : State).setVm s₂.vm).setTop g).pushFrame (.throwing q))
    rw [← hs₂]
    exact hsteps
end
variable {p : Program} {l : Launch} {e : Env} {R : Room} {s : State} {m : MethodId} {args : Array Value} {below : List Frame} {meth : Method} {c : Code} {T : State} {H : Heap} {locs : List Loc} {cells slots : Nat}
theorem vx_callVX (X : Stand p l e R s m args below meth c T locs cells slots) (hexec : p.tables.exec = Jvm.exec) {own C : String} {index : Nat} {y : MethodName} {bytes : ByteArray} {maxL : Nat} {ret : Option FieldType} {hh : List (Nat × Nat × Nat × Nat)}
    (hown : s.vm.findClass own = some m.cls) (hlink : (Cond.methodLink own index y).before args s = true) (hinst : (Cond.instanceMethod y).before args s = true) (hsel : (Cond.selects C y y).before args s = true)
    (hcode : (Cond.codeWith y bytes maxL ret hh).before args s = true) (hy : y.cls ≠ "java/lang/invoke/MethodHandle" ∧ y.cls ≠ "java/lang/invoke/VarHandle")
    {W9 : Nat} {Pre : Pt → Array Value → Prop} {Post : Pt → Array Value → Option Value → Pt → Prop} {PostX : Pt → Array Value → Addr → Pt → Prop} (hK : vx_Back l R p e below s args y 3 W9 Pre Post PostX)
    {b : Addr} {cellB : Cell} (hcell : T.heap[b]? = some cellB) (hobj : cellB.vm.isStatics = false) (hcls : s.vm.findClass C = some cellB.cls)
    {g : JFrame} (hg : g.method = m) (hsize : g.locals.size = c.maxLocals) {argsL rest : List Value} (hlen : ∀ sig, parseMethodDescriptor y.desc = some sig → argsL.length = sig.parameters.length)
    (hstack : g.stack = argsL.reverse ++ .ref b :: rest) (hW : 2 * g.monitorRoom + (rest.map fun v => v.category).sum ≤ W9) (hdg : decode c.code g.pc = .ok (.invokevirtual index, 3))
    (hpre : ∀ vm₁, s.WarmedH vm₁ → Pre ⟨T.setVm vm₁, locs, cells, slots⟩ (Value.ref b :: argsL).toArray) :
    (∃ (v : Option Value) (vm₁ : Vm) (B : Pt), s.WarmedH vm₁ ∧ Stand p l e R s m args below meth c B.U B.locs B.cells B.slots ∧ Post ⟨T.setVm vm₁, locs, cells, slots⟩ (Value.ref b :: argsL).toArray v B ∧
      ∀ target, Steps p.tables e below (B.U.setTop { g with pc := g.pc + 3, stack := v.toList ++ rest }) target → Steps p.tables e below (T.setTop g) target) ∨
    (∃ (q : Addr) (vm₁ : Vm) (B : Pt), s.WarmedH vm₁ ∧ Stand p l e R s m args below meth c B.U B.locs B.cells B.slots ∧ PostX ⟨T.setVm vm₁, locs, cells, slots⟩ (Value.ref b :: argsL).toArray q B ∧
      Steps p.tables e below (T.setTop g) ((B.U.setTop { g with stack := rest }).pushFrame (.throwing q))) := by
  obtain ⟨mk, methM, hnamed, hmethM, hstM, habM⟩ := Cond.instanceMethod_spec hinst
  obtain ⟨m8, methM', cM, hn8, hmethM', -, -, -, -, -, -, hsigM⟩ := Cond.codeWith_spec hcode
  cases Option.some.inj (hn8.symm.trans hnamed)
  cases hmethM.symm.trans hmethM'
  obtain ⟨c2, r2, m2, q1, q2, q3, q4, kP, hkP, hkPi⟩ := Cond.selects_spec hsel
  cases hcls.symm.trans q1
  cases (State.methodFound?_of_named hnamed hy).symm.trans q2
  cases hnamed.symm.trans q3
  have hselP : selectMethod e.platform s.vm cellB.cls mk = .method mk := by rw [Launch.admits_selectMethod X.admits]; exact q4
  obtain ⟨vm₁, X₁, hstep₁⟩ := X.invokevirtual hexec hown hlink hnamed hmethM hstM hkP hkPi hy (a := b) (cell := cellB) hcell
    (fun z h => by rw [h] at hobj; cases hobj) hselP hmethM habM hkP hkPi (g := g) hg (argsL := argsL) (rest := rest) (hlen _ hsigM) hstack hdg
  rcases hK m meth c ⟨T.setVm vm₁, locs, cells, slots⟩ { g with stack := rest } (.invokevirtual index) mk (Value.ref b :: argsL).toArray X₁ hg hsize hdg hW (X₁.named hnamed) (hpre vm₁ X₁.warmed) with ⟨v, B, X', hpost, hsteps⟩ | ⟨q, B, X', hpost, hsteps⟩
  · exact Or.inl ⟨v, vm₁, B, X₁.warmed, X', hpost, fun target h => hstep₁ _ fun acts => by rw [doInvoke_state]; exact hsteps.trans h⟩
  · exact Or.inr ⟨q, vm₁, B, X₁.warmed, X', hpost, hstep₁ _ fun acts => by rw [doInvoke_state]; exact hsteps⟩
theorem vx_callSX (X : Stand p l e R s m args below meth c T locs cells slots) (hexec : p.tables.exec = Jvm.exec) {own : String} {index : Nat} {y : MethodName} {bytes : ByteArray} {maxL : Nat} {ret : Option FieldType} {hh : List (Nat × Nat × Nat × Nat)}
    (hown : s.vm.findClass own = some m.cls) (hlink : (Cond.methodLink own index y).before args s = true) (hstat : (Cond.static y).before args s = true) (hinit : (Cond.initialized y.cls).before args s = true)
    (hcode : (Cond.codeWith y bytes maxL ret hh).before args s = true) (hy : y.cls ≠ "java/lang/invoke/MethodHandle" ∧ y.cls ≠ "java/lang/invoke/VarHandle")
    {W9 : Nat} {Pre : Pt → Array Value → Prop} {Post : Pt → Array Value → Option Value → Pt → Prop} {PostX : Pt → Array Value → Addr → Pt → Prop} (hK : vx_Back l R p e below s args y 3 W9 Pre Post PostX)
    {g : JFrame} (hg : g.method = m) (hsize : g.locals.size = c.maxLocals) {argsL rest : List Value} (hlen : ∀ sig, parseMethodDescriptor y.desc = some sig → argsL.length = sig.parameters.length)
    (hstack : g.stack = argsL.reverse ++ rest) (hW : 2 * g.monitorRoom + (rest.map fun v => v.category).sum ≤ W9) (hdg : decode c.code g.pc = .ok (.invokestatic index, 3))
    (hpre : ∀ vm₁, s.WarmedH vm₁ → Pre ⟨T.setVm vm₁, locs, cells, slots⟩ argsL.toArray) :
    (∃ (v : Option Value) (vm₁ : Vm) (B : Pt), s.WarmedH vm₁ ∧ Stand p l e R s m args below meth c B.U B.locs B.cells B.slots ∧ Post ⟨T.setVm vm₁, locs, cells, slots⟩ argsL.toArray v B ∧
      ∀ target, Steps p.tables e below (B.U.setTop { g with pc := g.pc + 3, stack := v.toList ++ rest }) target → Steps p.tables e below (T.setTop g) target) ∨
    (∃ (q : Addr) (vm₁ : Vm) (B : Pt), s.WarmedH vm₁ ∧ Stand p l e R s m args below meth c B.U B.locs B.cells B.slots ∧ PostX ⟨T.setVm vm₁, locs, cells, slots⟩ argsL.toArray q B ∧
      Steps p.tables e below (T.setTop g) ((B.U.setTop { g with stack := rest }).pushFrame (.throwing q))) := by
  obtain ⟨mk, methM, cM, hnamed, hmethM, -, -, -, -, -, -, hsigM⟩ := Cond.codeWith_spec hcode
  have hstatic : methM.isStatic = true := Cond.static_spec hnamed hmethM hstat
  obtain ⟨kP, hkP, -⟩ := className_of_methodNamed hnamed
  have hinitP : kP.init = .initialized := Cond.initialized_spec (findClass_of_methodNamed hnamed) hkP hinit
  obtain ⟨vm₁, X₁, hstep₁⟩ := X.invokestatic hexec hown hlink hnamed hmethM hstatic hkP hinitP hy (g := g) hg (argsL := argsL) (rest := rest) (hlen _ hsigM) hstack hdg
  rcases hK m meth c ⟨T.setVm vm₁, locs, cells, slots⟩ { g with stack := rest } (.invokestatic index) mk argsL.toArray X₁ hg hsize hdg hW (X₁.named hnamed) (hpre vm₁ X₁.warmed) with ⟨v, B, X', hpost, hsteps⟩ | ⟨q, B, X', hpost, hsteps⟩
  · exact Or.inl ⟨v, vm₁, B, X₁.warmed, X', hpost, fun target h => hstep₁ _ fun acts => by rw [doInvoke_state]; exact hsteps.trans h⟩
  · exact Or.inr ⟨q, vm₁, B, X₁.warmed, X', hpost, hstep₁ _ fun acts => by rw [doInvoke_state]; exact hsteps⟩
theorem vx_callVW (X : Stand p l e R s m args below meth c T locs cells slots) (hexec : p.tables.exec = Jvm.exec) {own C : String} {index : Nat} {y : MethodName} {bytes : ByteArray} {maxL : Nat} {ret : Option FieldType} {hh : List (Nat × Nat × Nat × Nat)}
    (hown : s.vm.findClass own = some m.cls) (hlink : (Cond.methodLink own index y).before args s = true) (hinst : (Cond.instanceMethod y).before args s = true) (hsel : (Cond.selects C y y).before args s = true)
    (hcode : (Cond.codeWith y bytes maxL ret hh).before args s = true) (hy : y.cls ≠ "java/lang/invoke/MethodHandle" ∧ y.cls ≠ "java/lang/invoke/VarHandle")
    {W9 : Nat} {Pre : Pt → Array Value → Prop} {Post : Pt → Array Value → Option Value → Pt → Prop} (hK : Back l R p e below s args y 3 W9 Pre Post)
    {b : Addr} {cellB : Cell} (hcell : T.heap[b]? = some cellB) (hobj : cellB.vm.isStatics = false) (hcls : s.vm.findClass C = some cellB.cls)
    {g : JFrame} (hg : g.method = m) (hsize : g.locals.size = c.maxLocals) {argsL rest : List Value} (hlen : ∀ sig, parseMethodDescriptor y.desc = some sig → argsL.length = sig.parameters.length)
    (hstack : g.stack = argsL.reverse ++ .ref b :: rest) (hW : 2 * g.monitorRoom + (rest.map fun v => v.category).sum ≤ W9) (hdg : decode c.code g.pc = .ok (.invokevirtual index, 3))
    (hpre : ∀ vm₁, s.WarmedH vm₁ → Pre ⟨T.setVm vm₁, locs, cells, slots⟩ (Value.ref b :: argsL).toArray) :
    ∃ (v : Option Value) (vm₁ : Vm) (B : Pt), s.WarmedH vm₁ ∧ Stand p l e R s m args below meth c B.U B.locs B.cells B.slots ∧ Post ⟨T.setVm vm₁, locs, cells, slots⟩ (Value.ref b :: argsL).toArray v B ∧
      ∀ target, Steps p.tables e below (B.U.setTop { g with pc := g.pc + 3, stack := v.toList ++ rest }) target → Steps p.tables e below (T.setTop g) target := by
  obtain ⟨mk, methM, hnamed, hmethM, hstM, habM⟩ := Cond.instanceMethod_spec hinst
  obtain ⟨m8, methM', cM, hn8, hmethM', -, -, -, -, -, -, hsigM⟩ := Cond.codeWith_spec hcode
  cases Option.some.inj (hn8.symm.trans hnamed)
  cases hmethM.symm.trans hmethM'
  obtain ⟨c2, r2, m2, q1, q2, q3, q4, kP, hkP, hkPi⟩ := Cond.selects_spec hsel
  cases hcls.symm.trans q1
  cases (State.methodFound?_of_named hnamed hy).symm.trans q2
  cases hnamed.symm.trans q3
  have hselP : selectMethod e.platform s.vm cellB.cls mk = .method mk := by rw [Launch.admits_selectMethod X.admits]; exact q4
  obtain ⟨vm₁, X₁, hstep₁⟩ := X.invokevirtual hexec hown hlink hnamed hmethM hstM hkP hkPi hy (a := b) (cell := cellB) hcell
    (fun z h => by rw [h] at hobj; cases hobj) hselP hmethM habM hkP hkPi (g := g) hg (argsL := argsL) (rest := rest) (hlen _ hsigM) hstack hdg
  obtain ⟨v, B, X', hpost, hsteps⟩ := hK m meth c ⟨T.setVm vm₁, locs, cells, slots⟩ { g with stack := rest } (.invokevirtual index) mk (Value.ref b :: argsL).toArray X₁ hg hsize hdg hW (X₁.named hnamed) (hpre vm₁ X₁.warmed)
  exact ⟨v, vm₁, B, X₁.warmed, X', hpost, fun target h => hstep₁ _ fun acts => by rw [doInvoke_state]; exact hsteps.trans h⟩
abbrev vx_CVW (R : Room) (s : State) (args : Array Value) (own C : String) (index : Nat) (y : MethodName) (bytes : ByteArray) (maxL : Nat) (ret : Option FieldType) (hh : List (Nat × Nat × Nat × Nat)) (ws : List Cond) (rm : Room) (mc ms n : Nat) : Prop :=
  (rm.cells = mc ∧ rm.slots = ms ∧ rm.frames + 1 ≤ R.frames ∧ 8 + (maxL + 11) + rm.locals ≤ R.locals ∧ (∀ w ∈ ws, ∀ (a' : Array Value) (U : State), s.WarmedH U.vm → w.before a' U = true) ∧ Cond.codeWith y bytes maxL ret hh ∈ ws) ∧
  (Cond.codeWith y bytes maxL ret hh).before args s = true ∧ (Cond.initialized y.cls).before args s = true ∧ (y.cls ≠ "java/lang/invoke/MethodHandle" ∧ y.cls ≠ "java/lang/invoke/VarHandle") ∧
  (∀ sig, parseMethodDescriptor y.desc = some sig → n = sig.parameters.length) ∧ (Cond.methodLink own index y).before args s = true ∧ (Cond.instanceMethod y).before args s = true ∧ (Cond.selects C y y).before args s = true
theorem vx_cwVW {own C : String} {index maxL mc ms : Nat} {y : MethodName} {bytes : ByteArray} {ret : Option FieldType} {hh : List (Nat × Nat × Nat × Nat)} {Ts ws ws' : List Cond} {rm : Room} (n : Nat) (ht : ∀ w ∈ Ts, w.before args s = true) (hT : GoodIn Ts (wsV own index C y ws)) (hw : ws = Cond.codeWith y bytes maxL ret hh :: ws') (hrc : rm.cells = mc) (hrs : rm.slots = ms)
    (hd : y.cls = C ∧ y.cls ≠ "java/lang/invoke/MethodHandle" ∧ y.cls ≠ "java/lang/invoke/VarHandle" ∧ (parseMethodDescriptor y.desc).map (fun d => d.parameters.length) = some n) (hR : rm.frames + 1 ≤ R.frames ∧ 8 + (maxL + 11) + rm.locals ≤ R.locals) :
    vx_CVW R s args own C index y bytes maxL ret hh ws rm mc ms n := by
  obtain ⟨hC, hd⟩ := hd
  subst hC
  have ok : ∀ w ∈ wsV own index y.cls y ws, w.before args s = true := fun w h => ht w (hT w h).1
  have hG : GoodIn Ts ws := fun w h => hT w (by unfold wsV; exact List.mem_append_right _ h)
  have hc : Cond.codeWith y bytes maxL ret hh ∈ ws := by rw [hw]; exact List.mem_cons_self
  refine ⟨⟨hrc, hrs, hR.1, hR.2, pay_in ht hG, hc⟩, ht _ (hG _ hc).1, ok _ (by simp [wsV]), ⟨hd.1, hd.2.1⟩, fun sig h => ?_, ok _ (by simp [wsV]), ok _ (by simp [wsV]), ok _ (by simp [wsV])⟩
  have h2 := hd.2.2
  rw [h] at h2
  exact (Option.some.inj h2).symm
theorem vx_runVW {y : MethodName} {bytes cc : ByteArray} {maxL nL mc ms n index : Nat} {ret : Option FieldType} {hh : List (Nat × Nat × Nat × Nat)} {ws : List Cond} {rm : Room} {Pc : Array Value → State → Prop} {Qc : Array Value → State → Outcome → State → Prop} {free : Addr → Prop} {Ts : List Cond} {own C : String} {b : Addr} {As rest : List Value} {g : JFrame}
    (S : CallFix p m c cc nL s args Ts own) (hM : Met l y ws rm Pc Qc mc ms free) (cw : vx_CVW R s args own C index y bytes maxL ret hh ws rm mc ms n) (hp : PreV s H C b Pc As)
    (hg : g.method = m) (hn : As.length = n) (hsize : g.locals.size = nL) (hstack : g.stack = As.reverse ++ .ref b :: rest) (hW : 2 * g.monitorRoom + (rest.map fun v => v.category).sum ≤ 8) (hdg : decode cc g.pc = .ok (.invokevirtual index, 3)) (hf : cells + mc ≤ R.cells ∧ slots + ms ≤ R.slots) :
    va_Run p l e R s m args below meth c H locs cells slots mc ms g rest (Qc (Value.ref b :: As).toArray) free := by
  obtain ⟨⟨hrc, hrs, hfr, hlo, hws, hcw⟩, hcode, hini, hy, hlen, hl, hin, hse⟩ := cw
  have hK : Back l R p e below s args y 3 8 (PreOf R mc ms Pc) (PostOf Qc mc ms free) := va_backW (hh := hh) (bytes := bytes) (maxL := maxL) (ret := ret) hM hp.1 hrc hrs hfr hlo hws hcw (fun a' U hW => word_at hW (Or.inl (by first | rfl | simp [Cond.onTables, Cond.keeps, Cond.steady])) hini)
  obtain ⟨hx, hb, hml, ho, -⟩ := S
  obtain ⟨-, ⟨cellB, hcB, hoB, hclB⟩, hPc⟩ := hp
  intro T hT X
  obtain ⟨v, vm₁, ⟨U', l2, c2, s2⟩, hW₁, X', ⟨g', mk, t, L, e1, e2, hq, h1, hL, h2, h3⟩, st⟩ := vx_callVW X hx (C := C) (hh := hh) (bytes := bytes) (maxL := maxL) (ret := ret) ho hl hin hse hcode hy hK (by rw [hT]; exact hcB) hoB hclB hg (hsize.trans hml.symm) (argsL := As) (rest := rest) (fun sig h => hn.trans (hlen sig h)) hstack hW (by rw [hb]; exact hdg)
    (fun vm₁ hW₁ => ⟨hf.1, hf.2, hPc (T.setVm vm₁) hT hW₁⟩)
  dsimp only [Pt.U, Pt.locs, Pt.cells, Pt.slots] at X' e1 e2 h1 h2 h3 st
  subst h1; subst h2; subst h3
  exact ⟨v, (T.setVm vm₁).calling g' mk (Value.ref b :: As).toArray, t, U', L, hT, X', hL, e1, e2, hq, st⟩
section
variable {y : MethodName} {bytes cc : ByteArray} {maxL nL mc ms n index : Nat} {ret : Option FieldType} {ws : List Cond} {rm : Room} {Pc : Array Value → State → Prop} {Qc : Array Value → State → Outcome → State → Prop} {XC : String → State → State → Prop} {free : Addr → Prop} {Ts : List Cond} {own C : String} {b : Addr} {As rest : List Value} {g : JFrame}
theorem vx_runVX {hh : List (Nat × Nat × Nat × Nat)} (S : CallFix p m c cc nL s args Ts own) (hM : vx_Met l y ws rm Pc Qc XC mc ms free) (cw : vx_CVW R s args own C index y bytes maxL ret hh ws rm mc ms n) (hp : PreV s H C b Pc As)
    (hg : g.method = m) (hn : As.length = n) (hsize : g.locals.size = nL) (hstack : g.stack = As.reverse ++ .ref b :: rest) (hW : 2 * g.monitorRoom + (rest.map fun v => v.category).sum ≤ 8) (hdg : decode cc g.pc = .ok (.invokevirtual index, 3)) (hf : cells + mc ≤ R.cells ∧ slots + ms ≤ R.slots) :
    vx_Run p l e R s m args below meth c H locs cells slots mc ms g rest (Qc (Value.ref b :: As).toArray) XC free := by
  obtain ⟨⟨hrc, hrs, hfr, hlo, hws, hcw⟩, hcode, hini, hy, hlen, hl, hin, hse⟩ := cw
  have hK : vx_Back l R p e below s args y 3 8 (PreOf R mc ms Pc) (PostOf Qc mc ms free) (vx_Post XC mc ms free) := vx_backW (hh := hh) (bytes := bytes) (maxL := maxL) (ret := ret) hM hp.1 hrc hrs hfr hlo hws hcw (fun a' U hW => word_at hW (Or.inl (by first | rfl | simp [Cond.onTables, Cond.keeps, Cond.steady])) hini)
  obtain ⟨hx, hb, hml, ho, -⟩ := S
  obtain ⟨-, ⟨cellB, hcB, hoB, hclB⟩, hPc⟩ := hp
  intro T hT X
  rcases vx_callVX X hx (C := C) (hh := hh) (bytes := bytes) (maxL := maxL) (ret := ret) ho hl hin hse hcode hy hK (by rw [hT]; exact hcB) hoB hclB hg (hsize.trans hml.symm) (argsL := As) (rest := rest) (fun sig h => hn.trans (hlen sig h)) hstack hW (by rw [hb]; exact hdg)
    (fun vm₁ hW₁ => ⟨hf.1, hf.2, hPc (T.setVm vm₁) hT hW₁⟩) with ⟨v, vm₁, ⟨U', l2, c2, s2⟩, hW₁, X', ⟨g', mk, t, L, e1, e2, hq, h1, hL, h2, h3⟩, st⟩ | ⟨q, vm₁, ⟨U', l2, c2, s2⟩, hW₁, X', ⟨g', mk, t, L, E, ce, e1, e2, hq, hce, hcv, hcl, h1, hL, h2, h3⟩, st⟩
  · dsimp only [Pt.U, Pt.locs, Pt.cells, Pt.slots] at X' e1 e2 h1 h2 h3 st
    subst h1; subst h2; subst h3
    exact Or.inl ⟨v, (T.setVm vm₁).calling g' mk (Value.ref b :: As).toArray, t, U', L, hT, X', hL, e1, e2, hq, st⟩
  · dsimp only [Pt.U, Pt.locs, Pt.cells, Pt.slots] at X' e1 e2 h1 h2 h3 st hcl
    subst h1; subst h2; subst h3
    exact Or.inr ⟨q, (T.setVm vm₁).calling g' mk (Value.ref b :: As).toArray, t, U', L, E, ce, hT, X', hL, e1, e2, hq, hce, hcv, vx_cls hW₁ hcl, st⟩
theorem vx_runSX {hh : List (Nat × Nat × Nat × Nat)} (S : CallFix p m c cc nL s args Ts own) (hM : vx_Met l y ws rm Pc Qc XC mc ms free) (cw : vx_CSW R s args own index y bytes maxL ret hh ws rm mc ms n) (hp : PreS s H Pc As)
    (hg : g.method = m) (hn : As.length = n) (hsize : g.locals.size = nL) (hstack : g.stack = As.reverse ++ rest) (hW : 2 * g.monitorRoom + (rest.map fun v => v.category).sum ≤ 8) (hdg : decode cc g.pc = .ok (.invokestatic index, 3)) (hf : cells + mc ≤ R.cells ∧ slots + ms ≤ R.slots) :
    vx_Run p l e R s m args below meth c H locs cells slots mc ms g rest (Qc As.toArray) XC free := by
  obtain ⟨⟨hrc, hrs, hfr, hlo, hws, hcw⟩, hcode, hini, hy, hlen, hl, hstt⟩ := cw
  have hK : vx_Back l R p e below s args y 3 8 (PreOf R mc ms Pc) (PostOf Qc mc ms free) (vx_Post XC mc ms free) := vx_backW (hh := hh) (bytes := bytes) (maxL := maxL) (ret := ret) hM hp.1 hrc hrs hfr hlo hws hcw (fun a' U hW => word_at hW (Or.inl (by first | rfl | simp [Cond.onTables, Cond.keeps, Cond.steady])) hini)
  obtain ⟨hx, hb, hml, ho, -⟩ := S
  intro T hT X
  rcases vx_callSX X hx (hh := hh) (bytes := bytes) (maxL := maxL) (ret := ret) ho hl hstt hini hcode hy hK hg (hsize.trans hml.symm) (argsL := As) (rest := rest) (fun sig h => hn.trans (hlen sig h)) hstack hW (by rw [hb]; exact hdg)
    (fun vm₁ hW₁ => ⟨hf.1, hf.2, hp.2 (T.setVm vm₁) hT hW₁⟩) with ⟨v, vm₁, ⟨U', l2, c2, s2⟩, hW₁, X', ⟨g', mk, t, L, e1, e2, hq, h1, hL, h2, h3⟩, st⟩ | ⟨q, vm₁, ⟨U', l2, c2, s2⟩, hW₁, X', ⟨g', mk, t, L, E, ce, e1, e2, hq, hce, hcv, hcl, h1, hL, h2, h3⟩, st⟩
  · dsimp only [Pt.U, Pt.locs, Pt.cells, Pt.slots] at X' e1 e2 h1 h2 h3 st
    subst h1; subst h2; subst h3
    exact Or.inl ⟨v, (T.setVm vm₁).calling g' mk As.toArray, t, U', L, hT, X', hL, e1, e2, hq, st⟩
  · dsimp only [Pt.U, Pt.locs, Pt.cells, Pt.slots] at X' e1 e2 h1 h2 h3 st hcl
    subst h1; subst h2; subst h3
    exact Or.inr ⟨q, (T.setVm vm₁).calling g' mk As.toArray, t, U', L, E, ce, hT, X', hL, e1, e2, hq, hce, hcv, vx_cls hW₁ hcl, st⟩
end
end VXH
theorem vx_ofWH {l : Launch} {y : MethodName} {ws ws' : List Cond} {rm : Room} {Pc : Array Value → State → Prop} {Qc : Array Value → State → Outcome → State → Prop} {XC : String → State → State → Prop} {mc ms : Nat} {free : Addr → Prop} {cc : ByteArray} {maxL : Nat} {ret : Option FieldType} {hh : List (Nat × Nat × Nat × Nat)}
    (hy : plainName y.cls = true) (hw : ws = Cond.codeWith y cc maxL ret hh :: ws')
    (body : ∀ p e s m args below meth c s₁, BodyLoose p l y (headSpec ws rm) cc maxL ret e s m args below meth c s₁ → c.maxLocals = maxL → Pc args s →
      W p l e (headSpec ws rm).room s m args below meth c s.heap [] 0 0 (vx_MQ below Qc XC args s mc ms free) (entryFrame m args maxL)) : vx_Met l y ws rm Pc Qc XC mc ms free := by
  refine MetFree.of_bodyS (code := cc) (maxLocals := maxL) (ret := ret) hy ?_ ?_
  · intro args s m h hn
    obtain ⟨m9, meth, c, hn9, h1, h2, h3, h4, -, h5, h6, -⟩ := Cond.codeWith_spec (atoms_spec (ws := ws) h _ (by rw [hw]; exact List.mem_cons_self))
    cases hn.symm.trans hn9
    exact ⟨meth, c, h1, h2, h3, h4, h5, h6⟩
  · intro p e s m args below meth c s₁ B hml hP _
    have hh0 : s₁.heap = s.heap := by rw [B.state]; rfl
    obtain ⟨t, a1, o, b1, b2, b3⟩ := body p e s m args below meth c s₁ B hml hP s₁ hh0 (Stand.of_body B)
    exact ⟨t, o, a1, b1, b2, b3⟩
/-! ===== END ===== -/
end
section
def RX0 : String := "FeudBook$Book"
def TX0 : u_T := fun k => match k with
  | 0 => ("FeudBook$Book", "families", "I", false)
  | 1 => ("FeudBook$Book", "statements", "I", false)
  | 2 => ("FeudBook$Book", "kinds", "[I", true)
  | 3 => ("FeudBook$Book", "firsts", "[I", true)
  | 4 => ("FeudBook$Book", "seconds", "[I", true)
  | 5 => ("FeudBook$Book", "lefts", "[I", true)
  | 6 => ("FeudBook$Book", "rights", "[I", true)
  | 7 => ("FeudBook$Book", "orders", "I", false)
  | 8 => ("FeudBook$Book", "verbs", "[I", true)
  | 9 => ("FeudBook$Book", "targets", "[I", true)
  | 10 => ("FeudBook$Book", "codeStarts", "[I", true)
  | 11 => ("FeudBook$Book", "codeEnds", "[I", true)
  | 12 => ("FeudBook$Book", "codeLength", "I", false)
  | 13 => ("FeudBook$Book", "operations", "[I", true)
  | 14 => ("FeudBook$Book", "firstNumbers", "[I", true)
  | _ => ("FeudBook$Book", "secondNumbers", "[I", true)
def tyX0 : Nat → FieldType := fun k => match k with
  | 0 => .int
  | 1 => .int
  | 2 => .array .int
  | 3 => .array .int
  | 4 => .array .int
  | 5 => .array .int
  | 6 => .array .int
  | 7 => .int
  | 8 => .array .int
  | 9 => .array .int
  | 10 => .array .int
  | 11 => .array .int
  | 12 => .int
  | 13 => .array .int
  | 14 => .array .int
  | _ => .array .int
abbrev wsX00 : List Cond := u_ws RX0 TX0 16
theorem nmX0 : ∀ a, a < 16 → ∀ b, b < 16 → a ≠ b → (TX0 a).2.1 ≠ (TX0 b).2.1 := by decide +kernel
theorem tyX0_ok : ∀ k, k < 16 → parseFieldDescriptor (TX0 k).2.2.1 = some (tyX0 k) := by decide +kernel
abbrev cX0_init : ByteArray := prog_2_method_1_code
def yX0_init : MethodName := ⟨RX0, "<init>", "()V"⟩
abbrev cX0_clear : ByteArray := prog_2_method_2_code
def yX0_clear : MethodName := ⟨RX0, "clear", "()V"⟩
abbrev cX0_copyFrom : ByteArray := prog_2_method_3_code
def yX0_copyFrom : MethodName := ⟨RX0, "copyFrom", "(LFeudBook$Book;)V"⟩
abbrev cX0_copy : ByteArray := prog_2_method_4_code
def yX0_copy : MethodName := ⟨RX0, "copy", "([I[II)V"⟩
abbrev cX0_entry : ByteArray := prog_2_method_5_code
def yX0_entry : MethodName := ⟨RX0, "entry", "([II)I"⟩
abbrev cX0_addStatement : ByteArray := prog_2_method_6_code
def yX0_addStatement : MethodName := ⟨RX0, "addStatement", "(III)V"⟩
abbrev cX0_addOrder : ByteArray := prog_2_method_7_code
def yX0_addOrder : MethodName := ⟨RX0, "addOrder", "(ZII)V"⟩
abbrev cX0_addCode : ByteArray := prog_2_method_8_code
def yX0_addCode : MethodName := ⟨RX0, "addCode", "(III)V"⟩
abbrev cX0_kind : ByteArray := prog_2_method_9_code
def yX0_kind : MethodName := ⟨RX0, "kind", "(I)I"⟩
abbrev cX0_first : ByteArray := prog_2_method_10_code
def yX0_first : MethodName := ⟨RX0, "first", "(I)I"⟩
abbrev cX0_second : ByteArray := prog_2_method_11_code
def yX0_second : MethodName := ⟨RX0, "second", "(I)I"⟩
abbrev cX0_left : ByteArray := prog_2_method_12_code
def yX0_left : MethodName := ⟨RX0, "left", "(I)I"⟩
abbrev cX0_right : ByteArray := prog_2_method_13_code
def yX0_right : MethodName := ⟨RX0, "right", "(I)I"⟩
abbrev cX0_renews : ByteArray := prog_2_method_14_code
def yX0_renews : MethodName := ⟨RX0, "renews", "(I)Z"⟩
abbrev cX0_target : ByteArray := prog_2_method_15_code
def yX0_target : MethodName := ⟨RX0, "target", "(I)I"⟩
abbrev cX0_codeStart : ByteArray := prog_2_method_16_code
def yX0_codeStart : MethodName := ⟨RX0, "codeStart", "(I)I"⟩
abbrev cX0_codeEnd : ByteArray := prog_2_method_17_code
def yX0_codeEnd : MethodName := ⟨RX0, "codeEnd", "(I)I"⟩
abbrev cX0_operation : ByteArray := prog_2_method_18_code
def yX0_operation : MethodName := ⟨RX0, "operation", "(I)I"⟩
abbrev cX0_firstNumber : ByteArray := prog_2_method_19_code
def yX0_firstNumber : MethodName := ⟨RX0, "firstNumber", "(I)I"⟩
abbrev cX0_secondNumber : ByteArray := prog_2_method_20_code
def yX0_secondNumber : MethodName := ⟨RX0, "secondNumber", "(I)I"⟩
def RX1 : String := "FeudBook$Course"
def TX1 : u_T := fun k => match k with
  | 0 => ("FeudBook$Course", "day", "I", false)
  | 1 => ("FeudBook$Course", "standing", "I", false)
  | _ => ("FeudBook$Course", "carriedOut", "I", false)
def tyX1 : Nat → FieldType := fun k => match k with
  | 0 => .int
  | 1 => .int
  | _ => .int
abbrev wsX10 : List Cond := u_ws RX1 TX1 3
theorem nmX1 : ∀ a, a < 3 → ∀ b, b < 3 → a ≠ b → (TX1 a).2.1 ≠ (TX1 b).2.1 := by decide +kernel
theorem tyX1_ok : ∀ k, k < 3 → parseFieldDescriptor (TX1 k).2.2.1 = some (tyX1 k) := by decide +kernel
abbrev cX1_init : ByteArray := prog_3_method_1_code
def yX1_init : MethodName := ⟨RX1, "<init>", "()V"⟩
abbrev cX1_begin : ByteArray := prog_3_method_2_code
def yX1_begin : MethodName := ⟨RX1, "begin", "(I)V"⟩
abbrev cX1_copyFrom : ByteArray := prog_3_method_3_code
def yX1_copyFrom : MethodName := ⟨RX1, "copyFrom", "(LFeudBook$Course;)V"⟩
abbrev cX1_change : ByteArray := prog_3_method_4_code
def yX1_change : MethodName := ⟨RX1, "change", "(IZ)V"⟩
def RX2 : String := "FeudBook$Judge"
def TX2 : u_T := fun k => match k with
  | 0 => ("FeudBook$Judge", "book", "LFeudBook$Book;", true)
  | 1 => ("FeudBook$Judge", "web", "LFeudBook$Web;", true)
  | 2 => ("FeudBook$Judge", "land", "LFeudBook$Peaces;", true)
  | 3 => ("FeudBook$Judge", "stack", "[I", true)
  | _ => ("FeudBook$Judge", "height", "I", false)
def tyX2 : Nat → FieldType := fun k => match k with
  | 0 => .object "FeudBook$Book"
  | 1 => .object "FeudBook$Web"
  | 2 => .object "FeudBook$Peaces"
  | 3 => .array .int
  | _ => .int
abbrev wsX20 : List Cond := u_ws RX2 TX2 5
theorem nmX2 : ∀ a, a < 5 → ∀ b, b < 5 → a ≠ b → (TX2 a).2.1 ≠ (TX2 b).2.1 := by decide +kernel
theorem tyX2_ok : ∀ k, k < 5 → parseFieldDescriptor (TX2 k).2.2.1 = some (tyX2 k) := by decide +kernel
abbrev cX2_init : ByteArray := prog_4_method_1_code
def yX2_init : MethodName := ⟨RX2, "<init>", "(LFeudBook$Book;LFeudBook$Web;LFeudBook$Peaces;)V"⟩
abbrev cX2_letPass : ByteArray := prog_4_method_2_code
def yX2_letPass : MethodName := ⟨RX2, "letPass", "(LFeudBook$Course;I)V"⟩
abbrev cX2_isDue : ByteArray := prog_4_method_3_code
def yX2_isDue : MethodName := ⟨RX2, "isDue", "(ILFeudBook$Course;)Z"⟩
abbrev cX2_push : ByteArray := prog_4_method_4_code
def yX2_push : MethodName := ⟨RX2, "push", "(I)V"⟩
abbrev cX2_pop : ByteArray := prog_4_method_5_code
def yX2_pop : MethodName := ⟨RX2, "pop", "()I"⟩
abbrev cX2_reckon : ByteArray := prog_4_method_6_code
def yX2_reckon : MethodName := ⟨RX2, "reckon", "(ILFeudBook$Course;)V"⟩
abbrev cX2_combine : ByteArray := prog_4_method_7_code
def yX2_combine : MethodName := ⟨RX2, "combine", "(III)I"⟩
abbrev cX2_compare : ByteArray := prog_4_method_8_code
def yX2_compare : MethodName := ⟨RX2, "compare", "(III)Z"⟩
def RX3 : String := "FeudBook$Peaces"
def TX3 : u_T := fun k => match k with
  | 0 => ("FeudBook$Peaces", "book", "LFeudBook$Book;", true)
  | 1 => ("FeudBook$Peaces", "words", "[J", true)
  | 2 => ("FeudBook$Peaces", "narrowed", "[J", true)
  | 3 => ("FeudBook$Peaces", "rows", "[J", true)
  | 4 => ("FeudBook$Peaces", "used", "I", false)
  | 5 => ("FeudBook$Peaces", "total", "I", false)
  | _ => ("FeudBook$Peaces", "seen", "I", false)
def tyX3 : Nat → FieldType := fun k => match k with
  | 0 => .object "FeudBook$Book"
  | 1 => .array .long
  | 2 => .array .long
  | 3 => .array .long
  | 4 => .int
  | 5 => .int
  | _ => .int
abbrev wsX30 : List Cond := u_ws RX3 TX3 7
theorem nmX3 : ∀ a, a < 7 → ∀ b, b < 7 → a ≠ b → (TX3 a).2.1 ≠ (TX3 b).2.1 := by decide +kernel
theorem tyX3_ok : ∀ k, k < 7 → parseFieldDescriptor (TX3 k).2.2.1 = some (tyX3 k) := by decide +kernel
abbrev cX3_init : ByteArray := prog_5_method_1_code
def yX3_init : MethodName := ⟨RX3, "<init>", "(LFeudBook$Book;)V"⟩
abbrev cX3_prepare : ByteArray := prog_5_method_2_code
def yX3_prepare : MethodName := ⟨RX3, "prepare", "()V"⟩
abbrev cX3_count : ByteArray := prog_5_method_3_code
def yX3_count : MethodName := ⟨RX3, "count", "(I)I"⟩
abbrev cX3_countWith : ByteArray := prog_5_method_4_code
def yX3_countWith : MethodName := ⟨RX3, "countWith", "(II)I"⟩
abbrev cX3_riders : ByteArray := prog_5_method_5_code
def yX3_riders : MethodName := ⟨RX3, "riders", "(I)I"⟩
abbrev cX3_fewestNotHolding : ByteArray := prog_5_method_6_code
def yX3_fewestNotHolding : MethodName := ⟨RX3, "fewestNotHolding", "(I)I"⟩
abbrev cX3_fewestNotHoldingIn : ByteArray := prog_5_method_7_code
def yX3_fewestNotHoldingIn : MethodName := ⟨RX3, "fewestNotHoldingIn", "(II)I"⟩
abbrev cX3_narrow : ByteArray := prog_5_method_8_code
def yX3_narrow : MethodName := ⟨RX3, "narrow", "(I)Z"⟩
abbrev cX3_look : ByteArray := prog_5_method_9_code
def yX3_look : MethodName := ⟨RX3, "look", "(I)V"⟩
abbrev cX3_row : ByteArray := prog_5_method_10_code
def yX3_row : MethodName := ⟨RX3, "row", "(II)J"⟩
abbrev cX3_allOf : ByteArray := prog_5_method_11_code
def yX3_allOf : MethodName := ⟨RX3, "allOf", "(I)J"⟩
abbrev cX3_holds : ByteArray := prog_5_method_12_code
def yX3_holds : MethodName := ⟨RX3, "holds", "(II)J"⟩
def RX4 : String := "FeudBook$Reader"
def TX4 : u_T := fun k => match k with
  | 0 => ("FeudBook$Reader", "tokens", "LFeudBook$Tokens;", true)
  | 1 => ("FeudBook$Reader", "draft", "LFeudBook$Book;", true)
  | 2 => ("FeudBook$Reader", "familyNames", "[J", true)
  | 3 => ("FeudBook$Reader", "statementNames", "[J", true)
  | 4 => ("FeudBook$Reader", "at", "I", false)
  | 5 => ("FeudBook$Reader", "error", "I", false)
  | _ => ("FeudBook$Reader", "errorToken", "I", false)
def tyX4 : Nat → FieldType := fun k => match k with
  | 0 => .object "FeudBook$Tokens"
  | 1 => .object "FeudBook$Book"
  | 2 => .array .long
  | 3 => .array .long
  | 4 => .int
  | 5 => .int
  | _ => .int
abbrev wsX40 : List Cond := u_ws RX4 TX4 7
theorem nmX4 : ∀ a, a < 7 → ∀ b, b < 7 → a ≠ b → (TX4 a).2.1 ≠ (TX4 b).2.1 := by decide +kernel
theorem tyX4_ok : ∀ k, k < 7 → parseFieldDescriptor (TX4 k).2.2.1 = some (tyX4 k) := by decide +kernel
abbrev cX4_init : ByteArray := prog_6_method_1_code
def yX4_init : MethodName := ⟨RX4, "<init>", "(LFeudBook$Tokens;LFeudBook$Book;)V"⟩
abbrev cX4_read : ByteArray := prog_6_method_2_code
def yX4_read : MethodName := ⟨RX4, "read", "()I"⟩
abbrev cX4_errorPosition : ByteArray := prog_6_method_3_code
def yX4_errorPosition : MethodName := ⟨RX4, "errorPosition", "()I"⟩
abbrev cX4_isNext : ByteArray := prog_6_method_4_code
def yX4_isNext : MethodName := ⟨RX4, "isNext", "(I)Z"⟩
abbrev cX4_take : ByteArray := prog_6_method_5_code
def yX4_take : MethodName := ⟨RX4, "take", "(I)Z"⟩
abbrev cX4_takeDeeper : ByteArray := prog_6_method_6_code
def yX4_takeDeeper : MethodName := ⟨RX4, "takeDeeper", "(II)Z"⟩
abbrev cX4_note : ByteArray := prog_6_method_7_code
def yX4_note : MethodName := ⟨RX4, "note", "(I)V"⟩
abbrev cX4_find : ByteArray := prog_6_method_8_code
def yX4_find : MethodName := ⟨RX4, "find", "([JIJ)I"⟩
abbrev cX4_readLine : ByteArray := prog_6_method_9_code
def yX4_readLine : MethodName := ⟨RX4, "readLine", "()Z"⟩
abbrev cX4_readFamily : ByteArray := prog_6_method_10_code
def yX4_readFamily : MethodName := ⟨RX4, "readFamily", "()Z"⟩
abbrev cX4_readStatement : ByteArray := prog_6_method_11_code
def yX4_readStatement : MethodName := ⟨RX4, "readStatement", "(III)Z"⟩
abbrev cX4_readStatementName : ByteArray := prog_6_method_12_code
def yX4_readStatementName : MethodName := ⟨RX4, "readStatementName", "()Z"⟩
abbrev cX4_readKnownName : ByteArray := prog_6_method_13_code
def yX4_readKnownName : MethodName := ⟨RX4, "readKnownName", "([JI)I"⟩
abbrev cX4_readClaim : ByteArray := prog_6_method_14_code
def yX4_readClaim : MethodName := ⟨RX4, "readClaim", "()I"⟩
abbrev cX4_readOrder : ByteArray := prog_6_method_15_code
def yX4_readOrder : MethodName := ⟨RX4, "readOrder", "()Z"⟩
abbrev cX4_readTest : ByteArray := prog_6_method_16_code
def yX4_readTest : MethodName := ⟨RX4, "readTest", "(I)Z"⟩
abbrev cX4_readBoth : ByteArray := prog_6_method_17_code
def yX4_readBoth : MethodName := ⟨RX4, "readBoth", "(I)Z"⟩
abbrev cX4_readSingle : ByteArray := prog_6_method_18_code
def yX4_readSingle : MethodName := ⟨RX4, "readSingle", "(I)Z"⟩
abbrev cX4_isComparison : ByteArray := prog_6_method_19_code
def yX4_isComparison : MethodName := ⟨RX4, "isComparison", "(I)Z"⟩
abbrev cX4_readSum : ByteArray := prog_6_method_20_code
def yX4_readSum : MethodName := ⟨RX4, "readSum", "(I)Z"⟩
abbrev cX4_readProduct : ByteArray := prog_6_method_21_code
def yX4_readProduct : MethodName := ⟨RX4, "readProduct", "(I)Z"⟩
abbrev cX4_readValue : ByteArray := prog_6_method_22_code
def yX4_readValue : MethodName := ⟨RX4, "readValue", "(I)Z"⟩
def RX5 : String := "FeudBook$Tape"
def TX5 : u_T := fun k => match k with
  | 0 => ("FeudBook$Tape", "bytes", "[B", true)
  | _ => ("FeudBook$Tape", "length", "I", false)
def tyX5 : Nat → FieldType := fun k => match k with
  | 0 => .array .byte
  | _ => .int
abbrev wsX50 : List Cond := u_ws RX5 TX5 2
theorem nmX5 : ∀ a, a < 2 → ∀ b, b < 2 → a ≠ b → (TX5 a).2.1 ≠ (TX5 b).2.1 := by decide +kernel
theorem tyX5_ok : ∀ k, k < 2 → parseFieldDescriptor (TX5 k).2.2.1 = some (tyX5 k) := by decide +kernel
abbrev cX5_init : ByteArray := prog_7_method_1_code
def yX5_init : MethodName := ⟨RX5, "<init>", "()V"⟩
abbrev cX5_append : ByteArray := prog_7_method_2_code
def yX5_append : MethodName := ⟨RX5, "append", "(I)V"⟩
abbrev cX5_at : ByteArray := prog_7_method_3_code
def yX5_at : MethodName := ⟨RX5, "at", "(I)I"⟩
def RX6 : String := "FeudBook$Tokens"
def TX6 : u_T := fun k => match k with
  | 0 => ("FeudBook$Tokens", "keywords", "[J", true)
  | 1 => ("FeudBook$Tokens", "kinds", "[I", true)
  | 2 => ("FeudBook$Tokens", "starts", "[I", true)
  | 3 => ("FeudBook$Tokens", "values", "[J", true)
  | 4 => ("FeudBook$Tokens", "count", "I", false)
  | 5 => ("FeudBook$Tokens", "next", "I", false)
  | _ => ("FeudBook$Tokens", "value", "J", false)
def tyX6 : Nat → FieldType := fun k => match k with
  | 0 => .array .long
  | 1 => .array .int
  | 2 => .array .int
  | 3 => .array .long
  | 4 => .int
  | 5 => .int
  | _ => .long
abbrev wsX60 : List Cond := u_ws RX6 TX6 7
theorem nmX6 : ∀ a, a < 7 → ∀ b, b < 7 → a ≠ b → (TX6 a).2.1 ≠ (TX6 b).2.1 := by decide +kernel
theorem tyX6_ok : ∀ k, k < 7 → parseFieldDescriptor (TX6 k).2.2.1 = some (tyX6 k) := by decide +kernel
abbrev cX6_init : ByteArray := prog_8_method_1_code
def yX6_init : MethodName := ⟨RX6, "<init>", "()V"⟩
abbrev cX6_packKeywords : ByteArray := prog_8_method_2_code
def yX6_packKeywords : MethodName := ⟨RX6, "packKeywords", "()[J"⟩
abbrev cX6_pack : ByteArray := prog_8_method_3_code
def yX6_pack : MethodName := ⟨RX6, "pack", "(JI)J"⟩
abbrev cX6_isLetter : ByteArray := prog_8_method_4_code
def yX6_isLetter : MethodName := ⟨RX6, "isLetter", "(I)Z"⟩
abbrev cX6_isDigit : ByteArray := prog_8_method_5_code
def yX6_isDigit : MethodName := ⟨RX6, "isDigit", "(I)Z"⟩
abbrev cX6_scan : ByteArray := prog_8_method_6_code
def yX6_scan : MethodName := ⟨RX6, "scan", "(LFeudBook$Tape;)V"⟩
abbrev cX6_kindAt : ByteArray := prog_8_method_7_code
def yX6_kindAt : MethodName := ⟨RX6, "kindAt", "(I)I"⟩
abbrev cX6_startAt : ByteArray := prog_8_method_8_code
def yX6_startAt : MethodName := ⟨RX6, "startAt", "(I)I"⟩
abbrev cX6_valueAt : ByteArray := prog_8_method_9_code
def yX6_valueAt : MethodName := ⟨RX6, "valueAt", "(I)J"⟩
abbrev cX6_skipBlanks : ByteArray := prog_8_method_10_code
def yX6_skipBlanks : MethodName := ⟨RX6, "skipBlanks", "(LFeudBook$Tape;)V"⟩
abbrev cX6_readToken : ByteArray := prog_8_method_11_code
def yX6_readToken : MethodName := ⟨RX6, "readToken", "(LFeudBook$Tape;)I"⟩
abbrev cX6_readWord : ByteArray := prog_8_method_12_code
def yX6_readWord : MethodName := ⟨RX6, "readWord", "(LFeudBook$Tape;)I"⟩
abbrev cX6_readNumber : ByteArray := prog_8_method_13_code
def yX6_readNumber : MethodName := ⟨RX6, "readNumber", "(LFeudBook$Tape;)I"⟩
abbrev cX6_readSymbol : ByteArray := prog_8_method_14_code
def yX6_readSymbol : MethodName := ⟨RX6, "readSymbol", "(LFeudBook$Tape;I)I"⟩
def RX7 : String := "FeudBook$Web"
def TX7 : u_T := fun k => match k with
  | 0 => ("FeudBook$Web", "book", "LFeudBook$Book;", true)
  | 1 => ("FeudBook$Web", "steps", "[I", true)
  | 2 => ("FeudBook$Web", "reaches", "[I", true)
  | 3 => ("FeudBook$Web", "claims", "I", false)
  | 4 => ("FeudBook$Web", "partCount", "I", false)
  | _ => ("FeudBook$Web", "seen", "I", false)
def tyX7 : Nat → FieldType := fun k => match k with
  | 0 => .object "FeudBook$Book"
  | 1 => .array .int
  | 2 => .array .int
  | 3 => .int
  | 4 => .int
  | _ => .int
abbrev wsX70 : List Cond := u_ws RX7 TX7 6
theorem nmX7 : ∀ a, a < 6 → ∀ b, b < 6 → a ≠ b → (TX7 a).2.1 ≠ (TX7 b).2.1 := by decide +kernel
theorem tyX7_ok : ∀ k, k < 6 → parseFieldDescriptor (TX7 k).2.2.1 = some (tyX7 k) := by decide +kernel
abbrev cX7_init : ByteArray := prog_9_method_1_code
def yX7_init : MethodName := ⟨RX7, "<init>", "(LFeudBook$Book;)V"⟩
abbrev cX7_forget : ByteArray := prog_9_method_2_code
def yX7_forget : MethodName := ⟨RX7, "forget", "()V"⟩
abbrev cX7_reach : ByteArray := prog_9_method_3_code
def yX7_reach : MethodName := ⟨RX7, "reach", "(II)I"⟩
abbrev cX7_part : ByteArray := prog_9_method_4_code
def yX7_part : MethodName := ⟨RX7, "part", "(II)I"⟩
abbrev cX7_countParts : ByteArray := prog_9_method_5_code
def yX7_countParts : MethodName := ⟨RX7, "countParts", "(I)I"⟩
abbrev cX7_distance : ByteArray := prog_9_method_6_code
def yX7_distance : MethodName := ⟨RX7, "distance", "(III)I"⟩
abbrev cX7_afterOneStep : ByteArray := prog_9_method_7_code
def yX7_afterOneStep : MethodName := ⟨RX7, "afterOneStep", "(I)I"⟩
abbrev cX7_look : ByteArray := prog_9_method_8_code
def yX7_look : MethodName := ⟨RX7, "look", "(I)V"⟩
abbrev cX7_together : ByteArray := prog_9_method_9_code
def yX7_together : MethodName := ⟨RX7, "together", "(I)I"⟩
abbrev cX7_addStep : ByteArray := prog_9_method_10_code
def yX7_addStep : MethodName := ⟨RX7, "addStep", "(II)V"⟩
abbrev cX7_close : ByteArray := prog_9_method_11_code
def yX7_close : MethodName := ⟨RX7, "close", "()V"⟩
def RX8 : String := "FeudBook"
def TX8 : u_T := fun k => match k with
  | 0 => ("FeudBook", "tape", "LFeudBook$Tape;", true)
  | 1 => ("FeudBook", "tokens", "LFeudBook$Tokens;", true)
  | 2 => ("FeudBook", "draft", "LFeudBook$Book;", true)
  | 3 => ("FeudBook", "book", "LFeudBook$Book;", true)
  | 4 => ("FeudBook", "reader", "LFeudBook$Reader;", true)
  | 5 => ("FeudBook", "web", "LFeudBook$Web;", true)
  | 6 => ("FeudBook", "land", "LFeudBook$Peaces;", true)
  | 7 => ("FeudBook", "judge", "LFeudBook$Judge;", true)
  | 8 => ("FeudBook", "now", "LFeudBook$Course;", true)
  | 9 => ("FeudBook", "trial", "LFeudBook$Course;", true)
  | _ => ("FeudBook", "errorPosition", "I", false)
def tyX8 : Nat → FieldType := fun k => match k with
  | 0 => .object "FeudBook$Tape"
  | 1 => .object "FeudBook$Tokens"
  | 2 => .object "FeudBook$Book"
  | 3 => .object "FeudBook$Book"
  | 4 => .object "FeudBook$Reader"
  | 5 => .object "FeudBook$Web"
  | 6 => .object "FeudBook$Peaces"
  | 7 => .object "FeudBook$Judge"
  | 8 => .object "FeudBook$Course"
  | 9 => .object "FeudBook$Course"
  | _ => .int
abbrev wsX80 : List Cond := u_ws RX8 TX8 11
theorem nmX8 : ∀ a, a < 11 → ∀ b, b < 11 → a ≠ b → (TX8 a).2.1 ≠ (TX8 b).2.1 := by decide +kernel
theorem tyX8_ok : ∀ k, k < 11 → parseFieldDescriptor (TX8 k).2.2.1 = some (tyX8 k) := by decide +kernel
abbrev cX8_init : ByteArray := prog_1_method_1_code
def yX8_init : MethodName := ⟨RX8, "<init>", "()V"⟩
abbrev cX8_feed : ByteArray := prog_1_method_2_code
def yX8_feed : MethodName := ⟨RX8, "feed", "(IIIII)I"⟩
abbrev cX8_trim : ByteArray := prog_1_method_3_code
def yX8_trim : MethodName := ⟨RX8, "trim", "(I)I"⟩
abbrev cX8_teach : ByteArray := prog_1_method_4_code
def yX8_teach : MethodName := ⟨RX8, "teach", "()I"⟩
abbrev cX8_families : ByteArray := prog_1_method_6_code
def yX8_families : MethodName := ⟨RX8, "families", "()I"⟩
abbrev cX8_statements : ByteArray := prog_1_method_7_code
def yX8_statements : MethodName := ⟨RX8, "statements", "()I"⟩
abbrev cX8_orders : ByteArray := prog_1_method_8_code
def yX8_orders : MethodName := ⟨RX8, "orders", "()I"⟩
abbrev cX8_days : ByteArray := prog_1_method_9_code
def yX8_days : MethodName := ⟨RX8, "days", "()I"⟩
abbrev cX8_ordersCarriedOut : ByteArray := prog_1_method_10_code
def yX8_ordersCarriedOut : MethodName := ⟨RX8, "ordersCarriedOut", "()I"⟩
abbrev cX8_standing : ByteArray := prog_1_method_12_code
def yX8_standing : MethodName := ⟨RX8, "standing", "()I"⟩
abbrev cX8_kindOf : ByteArray := prog_1_method_13_code
def yX8_kindOf : MethodName := ⟨RX8, "kindOf", "(I)I"⟩
abbrev cX8_firstClaimOf : ByteArray := prog_1_method_14_code
def yX8_firstClaimOf : MethodName := ⟨RX8, "firstClaimOf", "(I)I"⟩
abbrev cX8_secondClaimOf : ByteArray := prog_1_method_15_code
def yX8_secondClaimOf : MethodName := ⟨RX8, "secondClaimOf", "(I)I"⟩
abbrev cX8_stands : ByteArray := prog_1_method_16_code
def yX8_stands : MethodName := ⟨RX8, "stands", "(I)Z"⟩
abbrev cX8_isNeedless : ByteArray := prog_1_method_17_code
def yX8_isNeedless : MethodName := ⟨RX8, "isNeedless", "(I)Z"⟩
abbrev cX8_follows : ByteArray := prog_1_method_18_code
def yX8_follows : MethodName := ⟨RX8, "follows", "(II)Z"⟩
abbrev cX8_whatFollowsFrom : ByteArray := prog_1_method_19_code
def yX8_whatFollowsFrom : MethodName := ⟨RX8, "whatFollowsFrom", "(I)I"⟩
abbrev cX8_fewestStatementsBetween : ByteArray := prog_1_method_20_code
def yX8_fewestStatementsBetween : MethodName := ⟨RX8, "fewestStatementsBetween", "(II)I"⟩
abbrev cX8_parts : ByteArray := prog_1_method_21_code
def yX8_parts : MethodName := ⟨RX8, "parts", "()I"⟩
abbrev cX8_partOf : ByteArray := prog_1_method_22_code
def yX8_partOf : MethodName := ⟨RX8, "partOf", "(I)I"⟩
abbrev cX8_partSize : ByteArray := prog_1_method_23_code
def yX8_partSize : MethodName := ⟨RX8, "partSize", "(I)I"⟩
abbrev cX8_isPeacePossible : ByteArray := prog_1_method_24_code
def yX8_isPeacePossible : MethodName := ⟨RX8, "isPeacePossible", "()Z"⟩
abbrev cX8_peaces : ByteArray := prog_1_method_25_code
def yX8_peaces : MethodName := ⟨RX8, "peaces", "()I"⟩
abbrev cX8_peacesWith : ByteArray := prog_1_method_26_code
def yX8_peacesWith : MethodName := ⟨RX8, "peacesWith", "(I)I"⟩
abbrev cX8_isPossible : ByteArray := prog_1_method_27_code
def yX8_isPossible : MethodName := ⟨RX8, "isPossible", "(I)Z"⟩
abbrev cX8_isSettled : ByteArray := prog_1_method_28_code
def yX8_isSettled : MethodName := ⟨RX8, "isSettled", "(I)Z"⟩
abbrev cX8_ridesInPeace : ByteArray := prog_1_method_29_code
def yX8_ridesInPeace : MethodName := ⟨RX8, "ridesInPeace", "(I)Z"⟩
abbrev cX8_ridersInPeace : ByteArray := prog_1_method_30_code
def yX8_ridersInPeace : MethodName := ⟨RX8, "ridersInPeace", "()I"⟩
abbrev cX8_blamedFamily : ByteArray := prog_1_method_31_code
def yX8_blamedFamily : MethodName := ⟨RX8, "blamedFamily", "()I"⟩
abbrev cX8_breakStatement : ByteArray := prog_1_method_32_code
def yX8_breakStatement : MethodName := ⟨RX8, "breakStatement", "(I)I"⟩
abbrev cX8_renewStatement : ByteArray := prog_1_method_33_code
def yX8_renewStatement : MethodName := ⟨RX8, "renewStatement", "(I)I"⟩
abbrev cX8_passDays : ByteArray := prog_1_method_34_code
def yX8_passDays : MethodName := ⟨RX8, "passDays", "(I)I"⟩
abbrev cX8_standingAfter : ByteArray := prog_1_method_35_code
def yX8_standingAfter : MethodName := ⟨RX8, "standingAfter", "(I)I"⟩
abbrev cX8_peacesAfter : ByteArray := prog_1_method_36_code
def yX8_peacesAfter : MethodName := ⟨RX8, "peacesAfter", "(I)I"⟩
abbrev cX8_daysUntilPeace : ByteArray := prog_1_method_37_code
def yX8_daysUntilPeace : MethodName := ⟨RX8, "daysUntilPeace", "()I"⟩
abbrev cX8_fewestToBreak : ByteArray := prog_1_method_38_code
def yX8_fewestToBreak : MethodName := ⟨RX8, "fewestToBreak", "()I"⟩
abbrev cX8_mostTellingOath : ByteArray := prog_1_method_39_code
def yX8_mostTellingOath : MethodName := ⟨RX8, "mostTellingOath", "()I"⟩
abbrev cX8_meanRiders : ByteArray := prog_1_method_40_code
def yX8_meanRiders : MethodName := ⟨RX8, "meanRiders", "()D"⟩
abbrev cX8_digest : ByteArray := prog_1_method_41_code
def yX8_digest : MethodName := ⟨RX8, "digest", "()J"⟩
abbrev cX8_digestStatements : ByteArray := prog_1_method_42_code
def yX8_digestStatements : MethodName := ⟨RX8, "digestStatements", "(J)J"⟩
abbrev cX8_digestClaims : ByteArray := prog_1_method_43_code
def yX8_digestClaims : MethodName := ⟨RX8, "digestClaims", "(J)J"⟩
abbrev cX8_digestPeace : ByteArray := prog_1_method_44_code
def yX8_digestPeace : MethodName := ⟨RX8, "digestPeace", "(J)J"⟩
abbrev cX8_begin : ByteArray := prog_1_method_45_code
def yX8_begin : MethodName := ⟨RX8, "begin", "()V"⟩
abbrev cX8_needStatement : ByteArray := prog_1_method_46_code
def yX8_needStatement : MethodName := ⟨RX8, "needStatement", "(I)V"⟩
abbrev cX8_needStanding : ByteArray := prog_1_method_47_code
def yX8_needStanding : MethodName := ⟨RX8, "needStanding", "(I)V"⟩
abbrev cX8_needClaim : ByteArray := prog_1_method_48_code
def yX8_needClaim : MethodName := ⟨RX8, "needClaim", "(I)V"⟩
abbrev cX8_needPeace : ByteArray := prog_1_method_49_code
def yX8_needPeace : MethodName := ⟨RX8, "needPeace", "()V"⟩
abbrev cX8_needDays : ByteArray := prog_1_method_50_code
def yX8_needDays : MethodName := ⟨RX8, "needDays", "(I)V"⟩
abbrev cX8_has : ByteArray := prog_1_method_51_code
def yX8_has : MethodName := ⟨RX8, "has", "(II)Z"⟩
abbrev cX8_with : ByteArray := prog_1_method_52_code
def yX8_with : MethodName := ⟨RX8, "with", "(II)I"⟩
abbrev cX8_without : ByteArray := prog_1_method_53_code
def yX8_without : MethodName := ⟨RX8, "without", "(II)I"⟩
abbrev cX8_lowest : ByteArray := prog_1_method_54_code
def yX8_lowest : MethodName := ⟨RX8, "lowest", "(I)I"⟩
def RX9 : String := "FeudBookLaw$Sim"
def TX9 : u_T := fun k => match k with
  | 0 => ("FeudBookLaw$Sim", "families", "I", false)
  | 1 => ("FeudBookLaw$Sim", "statements", "[[I", false)
  | 2 => ("FeudBookLaw$Sim", "orders", "[[I", false)
  | 3 => ("FeudBookLaw$Sim", "days", "I", false)
  | _ => ("FeudBookLaw$Sim", "carried", "I", false)
def tyX9 : Nat → FieldType := fun k => match k with
  | 0 => .int
  | 1 => .array (.array .int)
  | 2 => .array (.array .int)
  | 3 => .int
  | _ => .int
abbrev wsX90 : List Cond := u_ws RX9 TX9 5
theorem nmX9 : ∀ a, a < 5 → ∀ b, b < 5 → a ≠ b → (TX9 a).2.1 ≠ (TX9 b).2.1 := by decide +kernel
theorem tyX9_ok : ∀ k, k < 5 → parseFieldDescriptor (TX9 k).2.2.1 = some (tyX9 k) := by decide +kernel
abbrev cX9_init : ByteArray := prog_11_method_1_code
def yX9_init : MethodName := ⟨RX9, "<init>", "()V"⟩
abbrev cX9_with : ByteArray := prog_11_method_3_code
def yX9_with : MethodName := ⟨RX9, "with", "([[I[I)[[I"⟩
abbrev cX9_standing : ByteArray := prog_11_method_4_code
def yX9_standing : MethodName := ⟨RX9, "standing", "()I"⟩
abbrev cX9_holds : ByteArray := prog_11_method_5_code
def yX9_holds : MethodName := ⟨RX9, "holds", "([II)Z"⟩
abbrev cX9_isKept : ByteArray := prog_11_method_6_code
def yX9_isKept : MethodName := ⟨RX9, "isKept", "([I[I)Z"⟩
abbrev cX9_count : ByteArray := prog_11_method_7_code
def yX9_count : MethodName := ⟨RX9, "count", "([II[I[I)V"⟩
abbrev cX9_peaces : ByteArray := prog_11_method_8_code
def yX9_peaces : MethodName := ⟨RX9, "peaces", "([I)[I"⟩
abbrev cX9_peaces_ : ByteArray := prog_11_method_9_code
def yX9_peaces_ : MethodName := ⟨RX9, "peaces", "()I"⟩
abbrev cX9_from : ByteArray := prog_11_method_10_code
def yX9_from : MethodName := ⟨RX9, "from", "(I)[I"⟩
abbrev cX9_opposite : ByteArray := prog_11_method_11_code
def yX9_opposite : MethodName := ⟨RX9, "opposite", "(I)I"⟩
abbrev cX9_following : ByteArray := prog_11_method_12_code
def yX9_following : MethodName := ⟨RX9, "following", "()[[I"⟩
abbrev cX9_parts : ByteArray := prog_11_method_13_code
def yX9_parts : MethodName := ⟨RX9, "parts", "([[I)[I"⟩
abbrev cX9_many : ByteArray := prog_11_method_14_code
def yX9_many : MethodName := ⟨RX9, "many", "([I)I"⟩
abbrev cX9_isDue : ByteArray := prog_11_method_15_code
def yX9_isDue : MethodName := ⟨RX9, "isDue", "([I)Z"⟩
abbrev cX9_pass : ByteArray := prog_11_method_16_code
def yX9_pass : MethodName := ⟨RX9, "pass", "()V"⟩
abbrev cX9_isSame : ByteArray := prog_11_method_17_code
def yX9_isSame : MethodName := ⟨RX9, "isSame", "(LFeudBook;)Z"⟩
def RX10 : String := "FeudBookModel$Plan"
def TX10 : u_T := fun k => match k with
  | _ => ("", "", "", false)
def tyX10 : Nat → FieldType := fun k => match k with
  | _ => .int
abbrev wsX100 : List Cond := u_ws RX10 TX10 0
theorem nmX10 : ∀ a, a < 0 → ∀ b, b < 0 → a ≠ b → (TX10 a).2.1 ≠ (TX10 b).2.1 := by decide +kernel
theorem tyX10_ok : ∀ k, k < 0 → parseFieldDescriptor (TX10 k).2.2.1 = some (tyX10 k) := by decide +kernel
def RX11 : String := "FeudBookModel"
def TX11 : u_T := fun k => match k with
  | _ => ("", "", "", false)
def tyX11 : Nat → FieldType := fun k => match k with
  | _ => .int
abbrev wsX110 : List Cond := u_ws RX11 TX11 0
theorem nmX11 : ∀ a, a < 0 → ∀ b, b < 0 → a ≠ b → (TX11 a).2.1 ≠ (TX11 b).2.1 := by decide +kernel
theorem tyX11_ok : ∀ k, k < 0 → parseFieldDescriptor (TX11 k).2.2.1 = some (tyX11 k) := by decide +kernel
def RJ5 : String := "java/lang/AbstractStringBuilder"
def TJ5 : u_T := fun k => match k with
  | _ => ("", "", "", false)
def tyJ5 : Nat → FieldType := fun k => match k with
  | _ => .int
abbrev wsJ50 : List Cond := u_ws RJ5 TJ5 0
theorem nmJ5 : ∀ a, a < 0 → ∀ b, b < 0 → a ≠ b → (TJ5 a).2.1 ≠ (TJ5 b).2.1 := by decide +kernel
theorem tyJ5_ok : ∀ k, k < 0 → parseFieldDescriptor (TJ5 k).2.2.1 = some (tyJ5 k) := by decide +kernel
abbrev cJ5_init_d00df : ByteArray := prog_14_method_2_code
def yJ5_init_d00df : MethodName := ⟨RJ5, "<init>", "(I)V"⟩
abbrev cJ5_length_8abf5 : ByteArray := prog_14_method_6_code
def yJ5_length_8abf5 : MethodName := ⟨RJ5, "length", "()I"⟩
abbrev cJ5_ensureCapacityInternal_d00df : ByteArray := prog_14_method_9_code
def yJ5_ensureCapacityInternal_d00df : MethodName := ⟨RJ5, "ensureCapacityInternal", "(I)V"⟩
abbrev cJ5_newCapacity_0f7a4 : ByteArray := prog_14_method_10_code
def yJ5_newCapacity_0f7a4 : MethodName := ⟨RJ5, "newCapacity", "(I)I"⟩
abbrev cJ5_inflate_da8c8 : ByteArray := prog_14_method_11_code
def yJ5_inflate_da8c8 : MethodName := ⟨RJ5, "inflate", "()V"⟩
abbrev cJ5_append_cf1ce : ByteArray := prog_14_method_22_code
def yJ5_append_cf1ce : MethodName := ⟨RJ5, "append", "(Ljava/lang/String;)Ljava/lang/AbstractStringBuilder;"⟩
abbrev cJ5_appendNull_278bc : ByteArray := prog_14_method_26_code
def yJ5_appendNull_278bc : MethodName := ⟨RJ5, "appendNull", "()Ljava/lang/AbstractStringBuilder;"⟩
abbrev cJ5_append_c97b9 : ByteArray := prog_14_method_32_code
def yJ5_append_c97b9 : MethodName := ⟨RJ5, "append", "(I)Ljava/lang/AbstractStringBuilder;"⟩
abbrev cJ5_getValue_6d5f1 : ByteArray := prog_14_method_64_code
def yJ5_getValue_6d5f1 : MethodName := ⟨RJ5, "getValue", "()[B"⟩
abbrev cJ5_isLatin1_aae02 : ByteArray := prog_14_method_68_code
def yJ5_isLatin1_aae02 : MethodName := ⟨RJ5, "isLatin1", "()Z"⟩
abbrev cJ5_inflateIfNeededFor_a7421 : ByteArray := prog_14_method_71_code
def yJ5_inflateIfNeededFor_a7421 : MethodName := ⟨RJ5, "inflateIfNeededFor", "(Ljava/lang/String;)V"⟩
abbrev cJ5_putStringAt_47b60 : ByteArray := prog_14_method_73_code
def yJ5_putStringAt_47b60 : MethodName := ⟨RJ5, "putStringAt", "(ILjava/lang/String;)V"⟩
def RJx8e188 : String := "java/lang/Cloneable"
def TJx8e188 : u_T := fun k => match k with
  | _ => ("", "", "", false)
def tyJx8e188 : Nat → FieldType := fun k => match k with
  | _ => .int
theorem nmJx8e188 : ∀ a, a < 0 → ∀ b, b < 0 → a ≠ b → (TJx8e188 a).2.1 ≠ (TJx8e188 b).2.1 := by decide +kernel
theorem tyJx8e188_ok : ∀ k, k < 0 → parseFieldDescriptor (TJx8e188 k).2.2.1 = some (tyJx8e188 k) := by decide +kernel
def RJ6 : String := "java/lang/Integer"
def TJ6 : u_T := fun k => match k with
  | _ => ("", "", "", false)
def tyJ6 : Nat → FieldType := fun k => match k with
  | _ => .int
abbrev wsJ60 : List Cond := u_ws RJ6 TJ6 0
theorem nmJ6 : ∀ a, a < 0 → ∀ b, b < 0 → a ≠ b → (TJ6 a).2.1 ≠ (TJ6 b).2.1 := by decide +kernel
theorem tyJ6_ok : ∀ k, k < 0 → parseFieldDescriptor (TJ6 k).2.2.1 = some (tyJ6 k) := by decide +kernel
abbrev cJ6_getChars_ba4f3 : ByteArray := prog_20_method_12_code
def yJ6_getChars_ba4f3 : MethodName := ⟨RJ6, "getChars", "(II[B)I"⟩
abbrev cJ6_stringSize_0f7a4 : ByteArray := prog_20_method_13_code
def yJ6_stringSize_0f7a4 : MethodName := ⟨RJ6, "stringSize", "(I)I"⟩
abbrev cJ6_bitCount_0f7a4 : ByteArray := prog_20_method_49_code
def yJ6_bitCount_0f7a4 : MethodName := ⟨RJ6, "bitCount", "(I)I"⟩
def RJ13 : String := "java/lang/Long"
def TJ13 : u_T := fun k => match k with
  | _ => ("", "", "", false)
def tyJ13 : Nat → FieldType := fun k => match k with
  | _ => .int
abbrev wsJ130 : List Cond := u_ws RJ13 TJ13 0
theorem nmJ13 : ∀ a, a < 0 → ∀ b, b < 0 → a ≠ b → (TJ13 a).2.1 ≠ (TJ13 b).2.1 := by decide +kernel
theorem tyJ13_ok : ∀ k, k < 0 → parseFieldDescriptor (TJ13 k).2.2.1 = some (tyJ13 k) := by decide +kernel
abbrev cJ13_bitCount_95d88 : ByteArray := prog_21_method_50_code
def yJ13_bitCount_95d88 : MethodName := ⟨RJ13, "bitCount", "(J)I"⟩
def RJ9 : String := "java/lang/Math"
def TJ9 : u_T := fun k => match k with
  | _ => ("", "", "", false)
def tyJ9 : Nat → FieldType := fun k => match k with
  | _ => .int
abbrev wsJ90 : List Cond := u_ws RJ9 TJ9 0
theorem nmJ9 : ∀ a, a < 0 → ∀ b, b < 0 → a ≠ b → (TJ9 a).2.1 ≠ (TJ9 b).2.1 := by decide +kernel
theorem tyJ9_ok : ∀ k, k < 0 → parseFieldDescriptor (TJ9 k).2.2.1 = some (tyJ9 k) := by decide +kernel
abbrev cJ9_max_7cf53 : ByteArray := prog_22_method_65_code
def yJ9_max_7cf53 : MethodName := ⟨RJ9, "max", "(II)I"⟩
abbrev cJ9_min_7cf53 : ByteArray := prog_22_method_69_code
def yJ9_min_7cf53 : MethodName := ⟨RJ9, "min", "(II)I"⟩
def RJ0 : String := "java/lang/String"
def TJ0 : u_T := fun k => match k with
  | 0 => ("java/lang/String", "value", "[B", true)
  | 1 => ("java/lang/String", "coder", "B", true)
  | 2 => ("java/lang/String", "hash", "I", false)
  | _ => ("java/lang/String", "hashIsZero", "Z", false)
def tyJ0 : Nat → FieldType := fun k => match k with
  | 0 => .array .byte
  | 1 => .byte
  | 2 => .int
  | _ => .boolean
abbrev wsJ00 : List Cond := u_ws RJ0 TJ0 4
theorem nmJ0 : ∀ a, a < 4 → ∀ b, b < 4 → a ≠ b → (TJ0 a).2.1 ≠ (TJ0 b).2.1 := by decide +kernel
theorem tyJ0_ok : ∀ k, k < 4 → parseFieldDescriptor (TJ0 k).2.2.1 = some (tyJ0 k) := by decide +kernel
abbrev cJ0_init_81219 : ByteArray := prog_24_method_53_code
def yJ0_init_81219 : MethodName := ⟨RJ0, "<init>", "(Ljava/lang/StringBuilder;)V"⟩
abbrev cJ0_length_8abf5 : ByteArray := prog_24_method_54_code
def yJ0_length_8abf5 : MethodName := ⟨RJ0, "length", "()I"⟩
abbrev cJ0_charAt_5068e : ByteArray := prog_24_method_56_code
def yJ0_charAt_5068e : MethodName := ⟨RJ0, "charAt", "(I)C"⟩
abbrev cJ0_getBytes_840e7 : ByteArray := prog_24_method_147_code
def yJ0_getBytes_840e7 : MethodName := ⟨RJ0, "getBytes", "([BIB)V"⟩
abbrev cJ0_init_db425 : ByteArray := prog_24_method_150_code
def yJ0_init_db425 : MethodName := ⟨RJ0, "<init>", "(Ljava/lang/AbstractStringBuilder;Ljava/lang/Void;)V"⟩
abbrev cJ0_coder_7d493 : ByteArray := prog_24_method_152_code
def yJ0_coder_7d493 : MethodName := ⟨RJ0, "coder", "()B"⟩
abbrev cJ0_isLatin1_aae02 : ByteArray := prog_24_method_154_code
def yJ0_isLatin1_aae02 : MethodName := ⟨RJ0, "isLatin1", "()Z"⟩
abbrev cJ0_checkIndex_df160 : ByteArray := prog_24_method_155_code
def yJ0_checkIndex_df160 : MethodName := ⟨RJ0, "checkIndex", "(II)V"⟩
abbrev cJ0_checkBoundsOffCount_cabcc : ByteArray := prog_24_method_157_code
def yJ0_checkBoundsOffCount_cabcc : MethodName := ⟨RJ0, "checkBoundsOffCount", "(III)I"⟩
abbrev cJ0_checkBoundsBeginEnd_23922 : ByteArray := prog_24_method_158_code
def yJ0_checkBoundsBeginEnd_23922 : MethodName := ⟨RJ0, "checkBoundsBeginEnd", "(III)V"⟩
def RJ4 : String := "java/lang/StringBuilder"
def TJ4 : u_T := fun k => match k with
  | 0 => ("java/lang/AbstractStringBuilder", "value", "[B", false)
  | 1 => ("java/lang/AbstractStringBuilder", "coder", "B", false)
  | 2 => ("java/lang/AbstractStringBuilder", "maybeLatin1", "Z", false)
  | _ => ("java/lang/AbstractStringBuilder", "count", "I", false)
def tyJ4 : Nat → FieldType := fun k => match k with
  | 0 => .array .byte
  | 1 => .byte
  | 2 => .boolean
  | _ => .int
abbrev wsJ40 : List Cond := u_ws RJ4 TJ4 4
theorem nmJ4 : ∀ a, a < 4 → ∀ b, b < 4 → a ≠ b → (TJ4 a).2.1 ≠ (TJ4 b).2.1 := by decide +kernel
theorem tyJ4_ok : ∀ k, k < 4 → parseFieldDescriptor (TJ4 k).2.2.1 = some (tyJ4 k) := by decide +kernel
abbrev cJ4_init_da8c8 : ByteArray := prog_25_method_1_code
def yJ4_init_da8c8 : MethodName := ⟨RJ4, "<init>", "()V"⟩
abbrev cJ4_append_15ec4 : ByteArray := prog_25_method_7_code
def yJ4_append_15ec4 : MethodName := ⟨RJ4, "append", "(Ljava/lang/String;)Ljava/lang/StringBuilder;"⟩
abbrev cJ4_append_bf812 : ByteArray := prog_25_method_15_code
def yJ4_append_bf812 : MethodName := ⟨RJ4, "append", "(I)Ljava/lang/StringBuilder;"⟩
abbrev cJ4_toString_0e30d : ByteArray := prog_25_method_42_code
def yJ4_toString_0e30d : MethodName := ⟨RJ4, "toString", "()Ljava/lang/String;"⟩
abbrev cJ4_length_8abf5 : ByteArray := prog_25_method_93_code
def yJ4_length_8abf5 : MethodName := ⟨RJ4, "length", "()I"⟩
def RJ1 : String := "java/lang/StringLatin1"
def TJ1 : u_T := fun k => match k with
  | _ => ("", "", "", false)
def tyJ1 : Nat → FieldType := fun k => match k with
  | _ => .int
abbrev wsJ10 : List Cond := u_ws RJ1 TJ1 0
theorem nmJ1 : ∀ a, a < 0 → ∀ b, b < 0 → a ≠ b → (TJ1 a).2.1 ≠ (TJ1 b).2.1 := by decide +kernel
theorem tyJ1_ok : ∀ k, k < 0 → parseFieldDescriptor (TJ1 k).2.2.1 = some (tyJ1 k) := by decide +kernel
abbrev cJ1_charAt_3b067 : ByteArray := prog_26_method_2_code
def yJ1_charAt_3b067 : MethodName := ⟨RJ1, "charAt", "([BI)C"⟩
abbrev cJ1_inflate_0e8fd : ByteArray := prog_26_method_50_code
def yJ1_inflate_0e8fd : MethodName := ⟨RJ1, "inflate", "([BI[BII)V"⟩
def RJ2 : String := "java/lang/StringUTF16"
def TJ2 : u_T := fun k => match k with
  | _ => ("", "", "", false)
def tyJ2 : Nat → FieldType := fun k => match k with
  | _ => .int
abbrev wsJ20 : List Cond := u_ws RJ2 TJ2 0
theorem nmJ2 : ∀ a, a < 0 → ∀ b, b < 0 → a ≠ b → (TJ2 a).2.1 ≠ (TJ2 b).2.1 := by decide +kernel
theorem tyJ2_ok : ∀ k, k < 0 → parseFieldDescriptor (TJ2 k).2.2.1 = some (tyJ2 k) := by decide +kernel
abbrev cJ2_newBytesFor_77867 : ByteArray := prog_27_method_2_code
def yJ2_newBytesFor_77867 : MethodName := ⟨RJ2, "newBytesFor", "(I)[B"⟩
abbrev cJ2_newBytesLength_0f7a4 : ByteArray := prog_27_method_3_code
def yJ2_newBytesLength_0f7a4 : MethodName := ⟨RJ2, "newBytesLength", "(I)I"⟩
abbrev cJ2_putChar_b72d1 : ByteArray := prog_27_method_4_code
def yJ2_putChar_b72d1 : MethodName := ⟨RJ2, "putChar", "([BII)V"⟩
abbrev cJ2_getChar_3b067 : ByteArray := prog_27_method_5_code
def yJ2_getChar_3b067 : MethodName := ⟨RJ2, "getChar", "([BI)C"⟩
abbrev cJ2_length_9d52b : ByteArray := prog_27_method_6_code
def yJ2_length_9d52b : MethodName := ⟨RJ2, "length", "([B)I"⟩
abbrev cJ2_coderFromArrayLen_85cad : ByteArray := prog_27_method_15_code
def yJ2_coderFromArrayLen_85cad : MethodName := ⟨RJ2, "coderFromArrayLen", "([BI)B"⟩
abbrev cJ2_compress_39247 : ByteArray := prog_27_method_17_code
def yJ2_compress_39247 : MethodName := ⟨RJ2, "compress", "([BII)[B"⟩
abbrev cJ2_compress_5af95 : ByteArray := prog_27_method_22_code
def yJ2_compress_5af95 : MethodName := ⟨RJ2, "compress", "([BI[BII)I"⟩
abbrev cJ2_getChars_46870 : ByteArray := prog_27_method_77_code
def yJ2_getChars_46870 : MethodName := ⟨RJ2, "getChars", "(III[B)I"⟩
abbrev cJ2_putCharsAt_cd4e5 : ByteArray := prog_27_method_81_code
def yJ2_putCharsAt_cd4e5 : MethodName := ⟨RJ2, "putCharsAt", "([BICCCC)I"⟩
abbrev cJ2_charAt_3b067 : ByteArray := prog_27_method_83_code
def yJ2_charAt_3b067 : MethodName := ⟨RJ2, "charAt", "([BI)C"⟩
abbrev cJ2_inflate_0e8fd : ByteArray := prog_27_method_86_code
def yJ2_inflate_0e8fd : MethodName := ⟨RJ2, "inflate", "([BI[BII)V"⟩
abbrev cJ2_getChars_ba4f3 : ByteArray := prog_27_method_89_code
def yJ2_getChars_ba4f3 : MethodName := ⟨RJ2, "getChars", "(II[B)I"⟩
abbrev cJ2_checkIndex_2214a : ByteArray := prog_27_method_91_code
def yJ2_checkIndex_2214a : MethodName := ⟨RJ2, "checkIndex", "(I[B)V"⟩
abbrev cJ2_checkBoundsBeginEnd_d044e : ByteArray := prog_27_method_93_code
def yJ2_checkBoundsBeginEnd_d044e : MethodName := ⟨RJ2, "checkBoundsBeginEnd", "(II[B)V"⟩
abbrev cJ2_checkBoundsOffCount_d044e : ByteArray := prog_27_method_94_code
def yJ2_checkBoundsOffCount_d044e : MethodName := ⟨RJ2, "checkBoundsOffCount", "(II[B)V"⟩
def RJ10 : String := "java/lang/System"
def TJ10 : u_T := fun k => match k with
  | _ => ("", "", "", false)
def tyJ10 : Nat → FieldType := fun k => match k with
  | _ => .int
abbrev wsJ100 : List Cond := u_ws RJ10 TJ10 0
theorem nmJ10 : ∀ a, a < 0 → ∀ b, b < 0 → a ≠ b → (TJ10 a).2.1 ≠ (TJ10 b).2.1 := by decide +kernel
theorem tyJ10_ok : ∀ k, k < 0 → parseFieldDescriptor (TJ10 k).2.2.1 = some (tyJ10 k) := by decide +kernel
def RJ7 : String := "java/util/Arrays"
def TJ7 : u_T := fun k => match k with
  | _ => ("", "", "", false)
def tyJ7 : Nat → FieldType := fun k => match k with
  | _ => .int
abbrev wsJ70 : List Cond := u_ws RJ7 TJ7 0
theorem nmJ7 : ∀ a, a < 0 → ∀ b, b < 0 → a ≠ b → (TJ7 a).2.1 ≠ (TJ7 b).2.1 := by decide +kernel
theorem tyJ7_ok : ∀ k, k < 0 → parseFieldDescriptor (TJ7 k).2.2.1 = some (tyJ7 k) := by decide +kernel
abbrev cJ7_copyOf_9075b : ByteArray := prog_30_method_121_code
def yJ7_copyOf_9075b : MethodName := ⟨RJ7, "copyOf", "([BI)[B"⟩
abbrev cJ7_checkLength_df160 : ByteArray := prog_30_method_131_code
def yJ7_checkLength_df160 : MethodName := ⟨RJ7, "checkLength", "(II)V"⟩
abbrev cJ7_copyOfRange_39247 : ByteArray := prog_30_method_132_code
def yJ7_copyOfRange_39247 : MethodName := ⟨RJ7, "copyOfRange", "([BII)[B"⟩
abbrev cJ7_copyOfRangeByte_39247 : ByteArray := prog_30_method_133_code
def yJ7_copyOfRangeByte_39247 : MethodName := ⟨RJ7, "copyOfRangeByte", "([BII)[B"⟩
def RJ8 : String := "jdk/internal/util/ArraysSupport"
def TJ8 : u_T := fun k => match k with
  | _ => ("", "", "", false)
def tyJ8 : Nat → FieldType := fun k => match k with
  | _ => .int
abbrev wsJ80 : List Cond := u_ws RJ8 TJ8 0
theorem nmJ8 : ∀ a, a < 0 → ∀ b, b < 0 → a ≠ b → (TJ8 a).2.1 ≠ (TJ8 b).2.1 := by decide +kernel
theorem tyJ8_ok : ∀ k, k < 0 → parseFieldDescriptor (TJ8 k).2.2.1 = some (tyJ8 k) := by decide +kernel
abbrev cJ8_newLength_cabcc : ByteArray := prog_31_method_27_code
def yJ8_newLength_cabcc : MethodName := ⟨RJ8, "newLength", "(III)I"⟩
abbrev cJ8_hugeLength_7cf53 : ByteArray := prog_31_method_28_code
def yJ8_hugeLength_7cf53 : MethodName := ⟨RJ8, "hugeLength", "(II)I"⟩
def RJ3 : String := "jdk/internal/util/Preconditions"
def TJ3 : u_T := fun k => match k with
  | _ => ("", "", "", false)
def tyJ3 : Nat → FieldType := fun k => match k with
  | _ => .int
abbrev wsJ30 : List Cond := u_ws RJ3 TJ3 0
theorem nmJ3 : ∀ a, a < 0 → ∀ b, b < 0 → a ≠ b → (TJ3 a).2.1 ≠ (TJ3 b).2.1 := by decide +kernel
theorem tyJ3_ok : ∀ k, k < 0 → parseFieldDescriptor (TJ3 k).2.2.1 = some (tyJ3 k) := by decide +kernel
abbrev cJ3_checkIndex_8e157 : ByteArray := prog_32_method_11_code
def yJ3_checkIndex_8e157 : MethodName := ⟨RJ3, "checkIndex", "(IILjava/util/function/BiFunction;)I"⟩
abbrev cJ3_checkFromToIndex_8c36e : ByteArray := prog_32_method_12_code
def yJ3_checkFromToIndex_8c36e : MethodName := ⟨RJ3, "checkFromToIndex", "(IIILjava/util/function/BiFunction;)I"⟩
abbrev cJ3_checkFromIndexSize_8c36e : ByteArray := prog_32_method_13_code
def yJ3_checkFromIndexSize_8c36e : MethodName := ⟨RJ3, "checkFromIndexSize", "(IIILjava/util/function/BiFunction;)I"⟩
def RL : String := "FeudBookLaw"
abbrev cL_below : ByteArray := method_2_code
def yL_below : MethodName := ⟨RL, "below", "(II)I"⟩
abbrev cL_cell : ByteArray := method_3_code
def yL_cell : MethodName := ⟨RL, "cell", "([II)I"⟩
abbrev cL_taught : ByteArray := method_4_code
def yL_taught : MethodName := ⟨RL, "taught", "(LFeudBook;Ljava/lang/String;)I"⟩
abbrev cL_claim : ByteArray := method_5_code
def yL_claim : MethodName := ⟨RL, "claim", "(I)Ljava/lang/String;"⟩
abbrev cL_told : ByteArray := method_6_code
def yL_told : MethodName := ⟨RL, "told", "([II)Ljava/lang/String;"⟩
abbrev cL_test : ByteArray := method_7_code
def yL_test : MethodName := ⟨RL, "test", "([II)Ljava/lang/String;"⟩
abbrev cL_book : ByteArray := method_8_code
def yL_book : MethodName := ⟨RL, "book", "([IILjava/lang/StringBuilder;)LFeudBookLaw$Sim;"⟩
abbrev cL_act : ByteArray := method_9_code
def yL_act : MethodName := ⟨RL, "act", "(LFeudBook;LFeudBookLaw$Sim;I)Z"⟩
abbrev cL_law : ByteArray := code
def yL_law : MethodName := ⟨RL, "law", "([I)Z"⟩
abbrev vwCl : List vw_C := [(RX0, TX0, 16), (RX1, TX1, 3), (RX2, TX2, 5), (RX3, TX3, 7), (RX4, TX4, 7), (RX5, TX5, 2), (RX6, TX6, 7), (RX7, TX7, 6), (RX8, TX8, 11), (RX9, TX9, 5), (RJ0, TJ0, 4), (RJ4, TJ4, 4)]
end
section
theorem dX0_init_0 : decode cX0_init 0 = .ok (.aload_n 0, 1) := by decide +kernel
theorem dX0_init_1 : decode cX0_init 1 = .ok (.invokespecial 3, 3) := by decide +kernel
theorem dX0_init_4 : decode cX0_init 4 = .ok (.aload_n 0, 1) := by decide +kernel
theorem dX0_init_5 : decode cX0_init 5 = .ok (.bipush 20, 2) := by decide +kernel
theorem dX0_init_7 : decode cX0_init 7 = .ok (.newarray .int, 2) := by decide +kernel
theorem dX0_init_9 : decode cX0_init 9 = .ok (.putfield 9, 3) := by decide +kernel
theorem dX0_init_12 : decode cX0_init 12 = .ok (.aload_n 0, 1) := by decide +kernel
theorem dX0_init_13 : decode cX0_init 13 = .ok (.bipush 20, 2) := by decide +kernel
theorem dX0_init_15 : decode cX0_init 15 = .ok (.newarray .int, 2) := by decide +kernel
theorem dX0_init_17 : decode cX0_init 17 = .ok (.putfield 15, 3) := by decide +kernel
theorem dX0_init_20 : decode cX0_init 20 = .ok (.aload_n 0, 1) := by decide +kernel
theorem dX0_init_21 : decode cX0_init 21 = .ok (.bipush 20, 2) := by decide +kernel
theorem dX0_init_23 : decode cX0_init 23 = .ok (.newarray .int, 2) := by decide +kernel
theorem dX0_init_25 : decode cX0_init 25 = .ok (.putfield 18, 3) := by decide +kernel
theorem dX0_init_28 : decode cX0_init 28 = .ok (.aload_n 0, 1) := by decide +kernel
theorem dX0_init_29 : decode cX0_init 29 = .ok (.bipush 20, 2) := by decide +kernel
theorem dX0_init_31 : decode cX0_init 31 = .ok (.newarray .int, 2) := by decide +kernel
theorem dX0_init_33 : decode cX0_init 33 = .ok (.putfield 21, 3) := by decide +kernel
theorem dX0_init_36 : decode cX0_init 36 = .ok (.aload_n 0, 1) := by decide +kernel
theorem dX0_init_37 : decode cX0_init 37 = .ok (.bipush 20, 2) := by decide +kernel
theorem dX0_init_39 : decode cX0_init 39 = .ok (.newarray .int, 2) := by decide +kernel
theorem dX0_init_41 : decode cX0_init 41 = .ok (.putfield 24, 3) := by decide +kernel
theorem dX0_init_44 : decode cX0_init 44 = .ok (.aload_n 0, 1) := by decide +kernel
theorem dX0_init_45 : decode cX0_init 45 = .ok (.bipush 16, 2) := by decide +kernel
theorem dX0_init_47 : decode cX0_init 47 = .ok (.newarray .int, 2) := by decide +kernel
theorem dX0_init_49 : decode cX0_init 49 = .ok (.putfield 27, 3) := by decide +kernel
theorem dX0_init_52 : decode cX0_init 52 = .ok (.aload_n 0, 1) := by decide +kernel
theorem dX0_init_53 : decode cX0_init 53 = .ok (.bipush 16, 2) := by decide +kernel
theorem dX0_init_55 : decode cX0_init 55 = .ok (.newarray .int, 2) := by decide +kernel
theorem dX0_init_57 : decode cX0_init 57 = .ok (.putfield 30, 3) := by decide +kernel
theorem dX0_init_60 : decode cX0_init 60 = .ok (.aload_n 0, 1) := by decide +kernel
theorem dX0_init_61 : decode cX0_init 61 = .ok (.bipush 16, 2) := by decide +kernel
theorem dX0_init_63 : decode cX0_init 63 = .ok (.newarray .int, 2) := by decide +kernel
theorem dX0_init_65 : decode cX0_init 65 = .ok (.putfield 33, 3) := by decide +kernel
theorem dX0_init_68 : decode cX0_init 68 = .ok (.aload_n 0, 1) := by decide +kernel
theorem dX0_init_69 : decode cX0_init 69 = .ok (.bipush 16, 2) := by decide +kernel
theorem dX0_init_71 : decode cX0_init 71 = .ok (.newarray .int, 2) := by decide +kernel
theorem dX0_init_73 : decode cX0_init 73 = .ok (.putfield 36, 3) := by decide +kernel
theorem dX0_init_76 : decode cX0_init 76 = .ok (.aload_n 0, 1) := by decide +kernel
theorem dX0_init_77 : decode cX0_init 77 = .ok (.sipush 400, 3) := by decide +kernel
theorem dX0_init_80 : decode cX0_init 80 = .ok (.newarray .int, 2) := by decide +kernel
theorem dX0_init_82 : decode cX0_init 82 = .ok (.putfield 39, 3) := by decide +kernel
theorem dX0_init_85 : decode cX0_init 85 = .ok (.aload_n 0, 1) := by decide +kernel
theorem dX0_init_86 : decode cX0_init 86 = .ok (.sipush 400, 3) := by decide +kernel
theorem dX0_init_89 : decode cX0_init 89 = .ok (.newarray .int, 2) := by decide +kernel
theorem dX0_init_91 : decode cX0_init 91 = .ok (.putfield 42, 3) := by decide +kernel
theorem dX0_init_94 : decode cX0_init 94 = .ok (.aload_n 0, 1) := by decide +kernel
theorem dX0_init_95 : decode cX0_init 95 = .ok (.sipush 400, 3) := by decide +kernel
theorem dX0_init_98 : decode cX0_init 98 = .ok (.newarray .int, 2) := by decide +kernel
theorem dX0_init_100 : decode cX0_init 100 = .ok (.putfield 45, 3) := by decide +kernel
theorem dX0_init_103 : decode cX0_init 103 = .ok (.return_, 1) := by decide +kernel
theorem dX0_clear_0 : decode cX0_clear 0 = .ok (.aload_n 0, 1) := by decide +kernel
theorem dX0_clear_1 : decode cX0_clear 1 = .ok (.iconst 0, 1) := by decide +kernel
theorem dX0_clear_2 : decode cX0_clear 2 = .ok (.putfield 48, 3) := by decide +kernel
theorem dX0_clear_5 : decode cX0_clear 5 = .ok (.aload_n 0, 1) := by decide +kernel
theorem dX0_clear_6 : decode cX0_clear 6 = .ok (.iconst 0, 1) := by decide +kernel
theorem dX0_clear_7 : decode cX0_clear 7 = .ok (.putfield 52, 3) := by decide +kernel
theorem dX0_clear_10 : decode cX0_clear 10 = .ok (.aload_n 0, 1) := by decide +kernel
theorem dX0_clear_11 : decode cX0_clear 11 = .ok (.iconst 0, 1) := by decide +kernel
theorem dX0_clear_12 : decode cX0_clear 12 = .ok (.putfield 55, 3) := by decide +kernel
theorem dX0_clear_15 : decode cX0_clear 15 = .ok (.aload_n 0, 1) := by decide +kernel
theorem dX0_clear_16 : decode cX0_clear 16 = .ok (.iconst 0, 1) := by decide +kernel
theorem dX0_clear_17 : decode cX0_clear 17 = .ok (.putfield 58, 3) := by decide +kernel
theorem dX0_clear_20 : decode cX0_clear 20 = .ok (.return_, 1) := by decide +kernel
theorem dX0_copyFrom_0 : decode cX0_copyFrom 0 = .ok (.aload_n 0, 1) := by decide +kernel
theorem dX0_copyFrom_1 : decode cX0_copyFrom 1 = .ok (.aload_n 1, 1) := by decide +kernel
theorem dX0_copyFrom_2 : decode cX0_copyFrom 2 = .ok (.getfield 48, 3) := by decide +kernel
theorem dX0_copyFrom_5 : decode cX0_copyFrom 5 = .ok (.putfield 48, 3) := by decide +kernel
theorem dX0_copyFrom_8 : decode cX0_copyFrom 8 = .ok (.aload_n 0, 1) := by decide +kernel
theorem dX0_copyFrom_9 : decode cX0_copyFrom 9 = .ok (.aload_n 1, 1) := by decide +kernel
theorem dX0_copyFrom_10 : decode cX0_copyFrom 10 = .ok (.getfield 52, 3) := by decide +kernel
theorem dX0_copyFrom_13 : decode cX0_copyFrom 13 = .ok (.putfield 52, 3) := by decide +kernel
theorem dX0_copyFrom_16 : decode cX0_copyFrom 16 = .ok (.aload_n 0, 1) := by decide +kernel
theorem dX0_copyFrom_17 : decode cX0_copyFrom 17 = .ok (.aload_n 1, 1) := by decide +kernel
theorem dX0_copyFrom_18 : decode cX0_copyFrom 18 = .ok (.getfield 55, 3) := by decide +kernel
theorem dX0_copyFrom_21 : decode cX0_copyFrom 21 = .ok (.putfield 55, 3) := by decide +kernel
theorem dX0_copyFrom_24 : decode cX0_copyFrom 24 = .ok (.aload_n 0, 1) := by decide +kernel
theorem dX0_copyFrom_25 : decode cX0_copyFrom 25 = .ok (.aload_n 1, 1) := by decide +kernel
theorem dX0_copyFrom_26 : decode cX0_copyFrom 26 = .ok (.getfield 58, 3) := by decide +kernel
theorem dX0_copyFrom_29 : decode cX0_copyFrom 29 = .ok (.putfield 58, 3) := by decide +kernel
theorem dX0_copyFrom_32 : decode cX0_copyFrom 32 = .ok (.aload_n 1, 1) := by decide +kernel
theorem dX0_copyFrom_33 : decode cX0_copyFrom 33 = .ok (.getfield 9, 3) := by decide +kernel
theorem dX0_copyFrom_36 : decode cX0_copyFrom 36 = .ok (.aload_n 0, 1) := by decide +kernel
theorem dX0_copyFrom_37 : decode cX0_copyFrom 37 = .ok (.getfield 9, 3) := by decide +kernel
theorem dX0_copyFrom_40 : decode cX0_copyFrom 40 = .ok (.aload_n 0, 1) := by decide +kernel
theorem dX0_copyFrom_41 : decode cX0_copyFrom 41 = .ok (.getfield 52, 3) := by decide +kernel
theorem dX0_copyFrom_44 : decode cX0_copyFrom 44 = .ok (.invokestatic 61, 3) := by decide +kernel
theorem dX0_copyFrom_47 : decode cX0_copyFrom 47 = .ok (.aload_n 1, 1) := by decide +kernel
theorem dX0_copyFrom_48 : decode cX0_copyFrom 48 = .ok (.getfield 15, 3) := by decide +kernel
theorem dX0_copyFrom_51 : decode cX0_copyFrom 51 = .ok (.aload_n 0, 1) := by decide +kernel
theorem dX0_copyFrom_52 : decode cX0_copyFrom 52 = .ok (.getfield 15, 3) := by decide +kernel
theorem dX0_copyFrom_55 : decode cX0_copyFrom 55 = .ok (.aload_n 0, 1) := by decide +kernel
theorem dX0_copyFrom_56 : decode cX0_copyFrom 56 = .ok (.getfield 52, 3) := by decide +kernel
theorem dX0_copyFrom_59 : decode cX0_copyFrom 59 = .ok (.invokestatic 61, 3) := by decide +kernel
theorem dX0_copyFrom_62 : decode cX0_copyFrom 62 = .ok (.aload_n 1, 1) := by decide +kernel
theorem dX0_copyFrom_63 : decode cX0_copyFrom 63 = .ok (.getfield 18, 3) := by decide +kernel
theorem dX0_copyFrom_66 : decode cX0_copyFrom 66 = .ok (.aload_n 0, 1) := by decide +kernel
theorem dX0_copyFrom_67 : decode cX0_copyFrom 67 = .ok (.getfield 18, 3) := by decide +kernel
theorem dX0_copyFrom_70 : decode cX0_copyFrom 70 = .ok (.aload_n 0, 1) := by decide +kernel
theorem dX0_copyFrom_71 : decode cX0_copyFrom 71 = .ok (.getfield 52, 3) := by decide +kernel
theorem dX0_copyFrom_74 : decode cX0_copyFrom 74 = .ok (.invokestatic 61, 3) := by decide +kernel
theorem dX0_copyFrom_77 : decode cX0_copyFrom 77 = .ok (.aload_n 1, 1) := by decide +kernel
theorem dX0_copyFrom_78 : decode cX0_copyFrom 78 = .ok (.getfield 21, 3) := by decide +kernel
theorem dX0_copyFrom_81 : decode cX0_copyFrom 81 = .ok (.aload_n 0, 1) := by decide +kernel
theorem dX0_copyFrom_82 : decode cX0_copyFrom 82 = .ok (.getfield 21, 3) := by decide +kernel
theorem dX0_copyFrom_85 : decode cX0_copyFrom 85 = .ok (.aload_n 0, 1) := by decide +kernel
theorem dX0_copyFrom_86 : decode cX0_copyFrom 86 = .ok (.getfield 52, 3) := by decide +kernel
theorem dX0_copyFrom_89 : decode cX0_copyFrom 89 = .ok (.invokestatic 61, 3) := by decide +kernel
theorem dX0_copyFrom_92 : decode cX0_copyFrom 92 = .ok (.aload_n 1, 1) := by decide +kernel
theorem dX0_copyFrom_93 : decode cX0_copyFrom 93 = .ok (.getfield 24, 3) := by decide +kernel
theorem dX0_copyFrom_96 : decode cX0_copyFrom 96 = .ok (.aload_n 0, 1) := by decide +kernel
theorem dX0_copyFrom_97 : decode cX0_copyFrom 97 = .ok (.getfield 24, 3) := by decide +kernel
theorem dX0_copyFrom_100 : decode cX0_copyFrom 100 = .ok (.aload_n 0, 1) := by decide +kernel
theorem dX0_copyFrom_101 : decode cX0_copyFrom 101 = .ok (.getfield 52, 3) := by decide +kernel
theorem dX0_copyFrom_104 : decode cX0_copyFrom 104 = .ok (.invokestatic 61, 3) := by decide +kernel
theorem dX0_copyFrom_107 : decode cX0_copyFrom 107 = .ok (.aload_n 1, 1) := by decide +kernel
theorem dX0_copyFrom_108 : decode cX0_copyFrom 108 = .ok (.getfield 27, 3) := by decide +kernel
theorem dX0_copyFrom_111 : decode cX0_copyFrom 111 = .ok (.aload_n 0, 1) := by decide +kernel
theorem dX0_copyFrom_112 : decode cX0_copyFrom 112 = .ok (.getfield 27, 3) := by decide +kernel
theorem dX0_copyFrom_115 : decode cX0_copyFrom 115 = .ok (.aload_n 0, 1) := by decide +kernel
theorem dX0_copyFrom_116 : decode cX0_copyFrom 116 = .ok (.getfield 55, 3) := by decide +kernel
theorem dX0_copyFrom_119 : decode cX0_copyFrom 119 = .ok (.invokestatic 61, 3) := by decide +kernel
theorem dX0_copyFrom_122 : decode cX0_copyFrom 122 = .ok (.aload_n 1, 1) := by decide +kernel
theorem dX0_copyFrom_123 : decode cX0_copyFrom 123 = .ok (.getfield 30, 3) := by decide +kernel
theorem dX0_copyFrom_126 : decode cX0_copyFrom 126 = .ok (.aload_n 0, 1) := by decide +kernel
theorem dX0_copyFrom_127 : decode cX0_copyFrom 127 = .ok (.getfield 30, 3) := by decide +kernel
theorem dX0_copyFrom_130 : decode cX0_copyFrom 130 = .ok (.aload_n 0, 1) := by decide +kernel
theorem dX0_copyFrom_131 : decode cX0_copyFrom 131 = .ok (.getfield 55, 3) := by decide +kernel
theorem dX0_copyFrom_134 : decode cX0_copyFrom 134 = .ok (.invokestatic 61, 3) := by decide +kernel
theorem dX0_copyFrom_137 : decode cX0_copyFrom 137 = .ok (.aload_n 1, 1) := by decide +kernel
theorem dX0_copyFrom_138 : decode cX0_copyFrom 138 = .ok (.getfield 33, 3) := by decide +kernel
theorem dX0_copyFrom_141 : decode cX0_copyFrom 141 = .ok (.aload_n 0, 1) := by decide +kernel
theorem dX0_copyFrom_142 : decode cX0_copyFrom 142 = .ok (.getfield 33, 3) := by decide +kernel
theorem dX0_copyFrom_145 : decode cX0_copyFrom 145 = .ok (.aload_n 0, 1) := by decide +kernel
theorem dX0_copyFrom_146 : decode cX0_copyFrom 146 = .ok (.getfield 55, 3) := by decide +kernel
theorem dX0_copyFrom_149 : decode cX0_copyFrom 149 = .ok (.invokestatic 61, 3) := by decide +kernel
theorem dX0_copyFrom_152 : decode cX0_copyFrom 152 = .ok (.aload_n 1, 1) := by decide +kernel
theorem dX0_copyFrom_153 : decode cX0_copyFrom 153 = .ok (.getfield 36, 3) := by decide +kernel
theorem dX0_copyFrom_156 : decode cX0_copyFrom 156 = .ok (.aload_n 0, 1) := by decide +kernel
theorem dX0_copyFrom_157 : decode cX0_copyFrom 157 = .ok (.getfield 36, 3) := by decide +kernel
theorem dX0_copyFrom_160 : decode cX0_copyFrom 160 = .ok (.aload_n 0, 1) := by decide +kernel
theorem dX0_copyFrom_161 : decode cX0_copyFrom 161 = .ok (.getfield 55, 3) := by decide +kernel
theorem dX0_copyFrom_164 : decode cX0_copyFrom 164 = .ok (.invokestatic 61, 3) := by decide +kernel
theorem dX0_copyFrom_167 : decode cX0_copyFrom 167 = .ok (.aload_n 1, 1) := by decide +kernel
theorem dX0_copyFrom_168 : decode cX0_copyFrom 168 = .ok (.getfield 39, 3) := by decide +kernel
theorem dX0_copyFrom_171 : decode cX0_copyFrom 171 = .ok (.aload_n 0, 1) := by decide +kernel
theorem dX0_copyFrom_172 : decode cX0_copyFrom 172 = .ok (.getfield 39, 3) := by decide +kernel
theorem dX0_copyFrom_175 : decode cX0_copyFrom 175 = .ok (.aload_n 0, 1) := by decide +kernel
theorem dX0_copyFrom_176 : decode cX0_copyFrom 176 = .ok (.getfield 58, 3) := by decide +kernel
theorem dX0_copyFrom_179 : decode cX0_copyFrom 179 = .ok (.invokestatic 61, 3) := by decide +kernel
theorem dX0_copyFrom_182 : decode cX0_copyFrom 182 = .ok (.aload_n 1, 1) := by decide +kernel
theorem dX0_copyFrom_183 : decode cX0_copyFrom 183 = .ok (.getfield 42, 3) := by decide +kernel
theorem dX0_copyFrom_186 : decode cX0_copyFrom 186 = .ok (.aload_n 0, 1) := by decide +kernel
theorem dX0_copyFrom_187 : decode cX0_copyFrom 187 = .ok (.getfield 42, 3) := by decide +kernel
theorem dX0_copyFrom_190 : decode cX0_copyFrom 190 = .ok (.aload_n 0, 1) := by decide +kernel
theorem dX0_copyFrom_191 : decode cX0_copyFrom 191 = .ok (.getfield 58, 3) := by decide +kernel
theorem dX0_copyFrom_194 : decode cX0_copyFrom 194 = .ok (.invokestatic 61, 3) := by decide +kernel
theorem dX0_copyFrom_197 : decode cX0_copyFrom 197 = .ok (.aload_n 1, 1) := by decide +kernel
theorem dX0_copyFrom_198 : decode cX0_copyFrom 198 = .ok (.getfield 45, 3) := by decide +kernel
theorem dX0_copyFrom_201 : decode cX0_copyFrom 201 = .ok (.aload_n 0, 1) := by decide +kernel
theorem dX0_copyFrom_202 : decode cX0_copyFrom 202 = .ok (.getfield 45, 3) := by decide +kernel
theorem dX0_copyFrom_205 : decode cX0_copyFrom 205 = .ok (.aload_n 0, 1) := by decide +kernel
theorem dX0_copyFrom_206 : decode cX0_copyFrom 206 = .ok (.getfield 58, 3) := by decide +kernel
theorem dX0_copyFrom_209 : decode cX0_copyFrom 209 = .ok (.invokestatic 61, 3) := by decide +kernel
theorem dX0_copyFrom_212 : decode cX0_copyFrom 212 = .ok (.return_, 1) := by decide +kernel
theorem dX0_copy_0 : decode cX0_copy 0 = .ok (.iconst 0, 1) := by decide +kernel
theorem dX0_copy_1 : decode cX0_copy 1 = .ok (.istore_n 3, 1) := by decide +kernel
theorem dX0_copy_2 : decode cX0_copy 2 = .ok (.iload_n 3, 1) := by decide +kernel
theorem dX0_copy_3 : decode cX0_copy 3 = .ok (.iload_n 2, 1) := by decide +kernel
theorem dX0_copy_4 : decode cX0_copy 4 = .ok (.if_icmp .ge 27, 3) := by decide +kernel
theorem dX0_copy_7 : decode cX0_copy 7 = .ok (.iload_n 3, 1) := by decide +kernel
theorem dX0_copy_8 : decode cX0_copy 8 = .ok (.aload_n 0, 1) := by decide +kernel
theorem dX0_copy_9 : decode cX0_copy 9 = .ok (.arraylength, 1) := by decide +kernel
theorem dX0_copy_10 : decode cX0_copy 10 = .ok (.if_icmp .ge 21, 3) := by decide +kernel
theorem dX0_copy_13 : decode cX0_copy 13 = .ok (.iload_n 3, 1) := by decide +kernel
theorem dX0_copy_14 : decode cX0_copy 14 = .ok (.aload_n 1, 1) := by decide +kernel
theorem dX0_copy_15 : decode cX0_copy 15 = .ok (.arraylength, 1) := by decide +kernel
theorem dX0_copy_16 : decode cX0_copy 16 = .ok (.if_icmp .ge 15, 3) := by decide +kernel
theorem dX0_copy_19 : decode cX0_copy 19 = .ok (.aload_n 1, 1) := by decide +kernel
theorem dX0_copy_20 : decode cX0_copy 20 = .ok (.iload_n 3, 1) := by decide +kernel
theorem dX0_copy_21 : decode cX0_copy 21 = .ok (.aload_n 0, 1) := by decide +kernel
theorem dX0_copy_22 : decode cX0_copy 22 = .ok (.iload_n 3, 1) := by decide +kernel
theorem dX0_copy_23 : decode cX0_copy 23 = .ok (.iaload, 1) := by decide +kernel
theorem dX0_copy_24 : decode cX0_copy 24 = .ok (.iastore, 1) := by decide +kernel
theorem dX0_copy_25 : decode cX0_copy 25 = .ok (.iinc 3 1, 3) := by decide +kernel
theorem dX0_copy_28 : decode cX0_copy 28 = .ok (.goto (-26), 3) := by decide +kernel
theorem dX0_copy_31 : decode cX0_copy 31 = .ok (.return_, 1) := by decide +kernel
theorem dX0_entry_0 : decode cX0_entry 0 = .ok (.iload_n 1, 1) := by decide +kernel
theorem dX0_entry_1 : decode cX0_entry 1 = .ok (.ifCond .lt 15, 3) := by decide +kernel
theorem dX0_entry_4 : decode cX0_entry 4 = .ok (.iload_n 1, 1) := by decide +kernel
theorem dX0_entry_5 : decode cX0_entry 5 = .ok (.aload_n 0, 1) := by decide +kernel
theorem dX0_entry_6 : decode cX0_entry 6 = .ok (.arraylength, 1) := by decide +kernel
theorem dX0_entry_7 : decode cX0_entry 7 = .ok (.if_icmp .ge 9, 3) := by decide +kernel
theorem dX0_entry_10 : decode cX0_entry 10 = .ok (.aload_n 0, 1) := by decide +kernel
theorem dX0_entry_11 : decode cX0_entry 11 = .ok (.iload_n 1, 1) := by decide +kernel
theorem dX0_entry_12 : decode cX0_entry 12 = .ok (.iaload, 1) := by decide +kernel
theorem dX0_entry_13 : decode cX0_entry 13 = .ok (.goto 4, 3) := by decide +kernel
theorem dX0_entry_16 : decode cX0_entry 16 = .ok (.iconst 0, 1) := by decide +kernel
theorem dX0_entry_17 : decode cX0_entry 17 = .ok (.ireturn, 1) := by decide +kernel
theorem dX0_addStatement_0 : decode cX0_addStatement 0 = .ok (.aload_n 0, 1) := by decide +kernel
theorem dX0_addStatement_1 : decode cX0_addStatement 1 = .ok (.getfield 52, 3) := by decide +kernel
theorem dX0_addStatement_4 : decode cX0_addStatement 4 = .ok (.ifCond .lt 98, 3) := by decide +kernel
theorem dX0_addStatement_7 : decode cX0_addStatement 7 = .ok (.aload_n 0, 1) := by decide +kernel
theorem dX0_addStatement_8 : decode cX0_addStatement 8 = .ok (.getfield 52, 3) := by decide +kernel
theorem dX0_addStatement_11 : decode cX0_addStatement 11 = .ok (.bipush 20, 2) := by decide +kernel
theorem dX0_addStatement_13 : decode cX0_addStatement 13 = .ok (.if_icmp .ge 89, 3) := by decide +kernel
theorem dX0_addStatement_16 : decode cX0_addStatement 16 = .ok (.aload_n 0, 1) := by decide +kernel
theorem dX0_addStatement_17 : decode cX0_addStatement 17 = .ok (.getfield 9, 3) := by decide +kernel
theorem dX0_addStatement_20 : decode cX0_addStatement 20 = .ok (.aload_n 0, 1) := by decide +kernel
theorem dX0_addStatement_21 : decode cX0_addStatement 21 = .ok (.getfield 52, 3) := by decide +kernel
theorem dX0_addStatement_24 : decode cX0_addStatement 24 = .ok (.iload_n 1, 1) := by decide +kernel
theorem dX0_addStatement_25 : decode cX0_addStatement 25 = .ok (.iastore, 1) := by decide +kernel
theorem dX0_addStatement_26 : decode cX0_addStatement 26 = .ok (.aload_n 0, 1) := by decide +kernel
theorem dX0_addStatement_27 : decode cX0_addStatement 27 = .ok (.getfield 15, 3) := by decide +kernel
theorem dX0_addStatement_30 : decode cX0_addStatement 30 = .ok (.aload_n 0, 1) := by decide +kernel
theorem dX0_addStatement_31 : decode cX0_addStatement 31 = .ok (.getfield 52, 3) := by decide +kernel
theorem dX0_addStatement_34 : decode cX0_addStatement 34 = .ok (.iload_n 2, 1) := by decide +kernel
theorem dX0_addStatement_35 : decode cX0_addStatement 35 = .ok (.iastore, 1) := by decide +kernel
theorem dX0_addStatement_36 : decode cX0_addStatement 36 = .ok (.aload_n 0, 1) := by decide +kernel
theorem dX0_addStatement_37 : decode cX0_addStatement 37 = .ok (.getfield 18, 3) := by decide +kernel
theorem dX0_addStatement_40 : decode cX0_addStatement 40 = .ok (.aload_n 0, 1) := by decide +kernel
theorem dX0_addStatement_41 : decode cX0_addStatement 41 = .ok (.getfield 52, 3) := by decide +kernel
theorem dX0_addStatement_44 : decode cX0_addStatement 44 = .ok (.iload_n 3, 1) := by decide +kernel
theorem dX0_addStatement_45 : decode cX0_addStatement 45 = .ok (.iastore, 1) := by decide +kernel
theorem dX0_addStatement_46 : decode cX0_addStatement 46 = .ok (.aload_n 0, 1) := by decide +kernel
theorem dX0_addStatement_47 : decode cX0_addStatement 47 = .ok (.getfield 21, 3) := by decide +kernel
theorem dX0_addStatement_50 : decode cX0_addStatement 50 = .ok (.aload_n 0, 1) := by decide +kernel
theorem dX0_addStatement_51 : decode cX0_addStatement 51 = .ok (.getfield 52, 3) := by decide +kernel
theorem dX0_addStatement_54 : decode cX0_addStatement 54 = .ok (.iload_n 1, 1) := by decide +kernel
theorem dX0_addStatement_55 : decode cX0_addStatement 55 = .ok (.ifCond .eq 8, 3) := by decide +kernel
theorem dX0_addStatement_58 : decode cX0_addStatement 58 = .ok (.iload_n 1, 1) := by decide +kernel
theorem dX0_addStatement_59 : decode cX0_addStatement 59 = .ok (.iconst 2, 1) := by decide +kernel
theorem dX0_addStatement_60 : decode cX0_addStatement 60 = .ok (.if_icmp .ne 9, 3) := by decide +kernel
theorem dX0_addStatement_63 : decode cX0_addStatement 63 = .ok (.iload_n 2, 1) := by decide +kernel
theorem dX0_addStatement_64 : decode cX0_addStatement 64 = .ok (.iconst 1, 1) := by decide +kernel
theorem dX0_addStatement_65 : decode cX0_addStatement 65 = .ok (.ixor, 1) := by decide +kernel
theorem dX0_addStatement_66 : decode cX0_addStatement 66 = .ok (.goto 4, 3) := by decide +kernel
theorem dX0_addStatement_69 : decode cX0_addStatement 69 = .ok (.iload_n 2, 1) := by decide +kernel
theorem dX0_addStatement_70 : decode cX0_addStatement 70 = .ok (.iastore, 1) := by decide +kernel
theorem dX0_addStatement_71 : decode cX0_addStatement 71 = .ok (.aload_n 0, 1) := by decide +kernel
theorem dX0_addStatement_72 : decode cX0_addStatement 72 = .ok (.getfield 24, 3) := by decide +kernel
theorem dX0_addStatement_75 : decode cX0_addStatement 75 = .ok (.aload_n 0, 1) := by decide +kernel
theorem dX0_addStatement_76 : decode cX0_addStatement 76 = .ok (.getfield 52, 3) := by decide +kernel
theorem dX0_addStatement_79 : decode cX0_addStatement 79 = .ok (.iload_n 1, 1) := by decide +kernel
theorem dX0_addStatement_80 : decode cX0_addStatement 80 = .ok (.iconst 2, 1) := by decide +kernel
theorem dX0_addStatement_81 : decode cX0_addStatement 81 = .ok (.if_icmp .ne 9, 3) := by decide +kernel
theorem dX0_addStatement_84 : decode cX0_addStatement 84 = .ok (.iload_n 3, 1) := by decide +kernel
theorem dX0_addStatement_85 : decode cX0_addStatement 85 = .ok (.iconst 1, 1) := by decide +kernel
theorem dX0_addStatement_86 : decode cX0_addStatement 86 = .ok (.ixor, 1) := by decide +kernel
theorem dX0_addStatement_87 : decode cX0_addStatement 87 = .ok (.goto 4, 3) := by decide +kernel
theorem dX0_addStatement_90 : decode cX0_addStatement 90 = .ok (.iload_n 3, 1) := by decide +kernel
theorem dX0_addStatement_91 : decode cX0_addStatement 91 = .ok (.iastore, 1) := by decide +kernel
theorem dX0_addStatement_92 : decode cX0_addStatement 92 = .ok (.aload_n 0, 1) := by decide +kernel
theorem dX0_addStatement_93 : decode cX0_addStatement 93 = .ok (.dup, 1) := by decide +kernel
theorem dX0_addStatement_94 : decode cX0_addStatement 94 = .ok (.getfield 52, 3) := by decide +kernel
theorem dX0_addStatement_97 : decode cX0_addStatement 97 = .ok (.iconst 1, 1) := by decide +kernel
theorem dX0_addStatement_98 : decode cX0_addStatement 98 = .ok (.iadd, 1) := by decide +kernel
theorem dX0_addStatement_99 : decode cX0_addStatement 99 = .ok (.putfield 52, 3) := by decide +kernel
theorem dX0_addStatement_102 : decode cX0_addStatement 102 = .ok (.return_, 1) := by decide +kernel
theorem dX0_addOrder_0 : decode cX0_addOrder 0 = .ok (.aload_n 0, 1) := by decide +kernel
theorem dX0_addOrder_1 : decode cX0_addOrder 1 = .ok (.getfield 55, 3) := by decide +kernel
theorem dX0_addOrder_4 : decode cX0_addOrder 4 = .ok (.ifCond .lt 73, 3) := by decide +kernel
theorem dX0_addOrder_7 : decode cX0_addOrder 7 = .ok (.aload_n 0, 1) := by decide +kernel
theorem dX0_addOrder_8 : decode cX0_addOrder 8 = .ok (.getfield 55, 3) := by decide +kernel
theorem dX0_addOrder_11 : decode cX0_addOrder 11 = .ok (.bipush 16, 2) := by decide +kernel
theorem dX0_addOrder_13 : decode cX0_addOrder 13 = .ok (.if_icmp .ge 64, 3) := by decide +kernel
theorem dX0_addOrder_16 : decode cX0_addOrder 16 = .ok (.aload_n 0, 1) := by decide +kernel
theorem dX0_addOrder_17 : decode cX0_addOrder 17 = .ok (.getfield 27, 3) := by decide +kernel
theorem dX0_addOrder_20 : decode cX0_addOrder 20 = .ok (.aload_n 0, 1) := by decide +kernel
theorem dX0_addOrder_21 : decode cX0_addOrder 21 = .ok (.getfield 55, 3) := by decide +kernel
theorem dX0_addOrder_24 : decode cX0_addOrder 24 = .ok (.iload_n 1, 1) := by decide +kernel
theorem dX0_addOrder_25 : decode cX0_addOrder 25 = .ok (.ifCond .eq 7, 3) := by decide +kernel
theorem dX0_addOrder_28 : decode cX0_addOrder 28 = .ok (.iconst 1, 1) := by decide +kernel
theorem dX0_addOrder_29 : decode cX0_addOrder 29 = .ok (.goto 4, 3) := by decide +kernel
theorem dX0_addOrder_32 : decode cX0_addOrder 32 = .ok (.iconst 0, 1) := by decide +kernel
theorem dX0_addOrder_33 : decode cX0_addOrder 33 = .ok (.iastore, 1) := by decide +kernel
theorem dX0_addOrder_34 : decode cX0_addOrder 34 = .ok (.aload_n 0, 1) := by decide +kernel
theorem dX0_addOrder_35 : decode cX0_addOrder 35 = .ok (.getfield 30, 3) := by decide +kernel
theorem dX0_addOrder_38 : decode cX0_addOrder 38 = .ok (.aload_n 0, 1) := by decide +kernel
theorem dX0_addOrder_39 : decode cX0_addOrder 39 = .ok (.getfield 55, 3) := by decide +kernel
theorem dX0_addOrder_42 : decode cX0_addOrder 42 = .ok (.iload_n 2, 1) := by decide +kernel
theorem dX0_addOrder_43 : decode cX0_addOrder 43 = .ok (.iastore, 1) := by decide +kernel
theorem dX0_addOrder_44 : decode cX0_addOrder 44 = .ok (.aload_n 0, 1) := by decide +kernel
theorem dX0_addOrder_45 : decode cX0_addOrder 45 = .ok (.getfield 33, 3) := by decide +kernel
theorem dX0_addOrder_48 : decode cX0_addOrder 48 = .ok (.aload_n 0, 1) := by decide +kernel
theorem dX0_addOrder_49 : decode cX0_addOrder 49 = .ok (.getfield 55, 3) := by decide +kernel
theorem dX0_addOrder_52 : decode cX0_addOrder 52 = .ok (.iload_n 3, 1) := by decide +kernel
theorem dX0_addOrder_53 : decode cX0_addOrder 53 = .ok (.iastore, 1) := by decide +kernel
theorem dX0_addOrder_54 : decode cX0_addOrder 54 = .ok (.aload_n 0, 1) := by decide +kernel
theorem dX0_addOrder_55 : decode cX0_addOrder 55 = .ok (.getfield 36, 3) := by decide +kernel
theorem dX0_addOrder_58 : decode cX0_addOrder 58 = .ok (.aload_n 0, 1) := by decide +kernel
theorem dX0_addOrder_59 : decode cX0_addOrder 59 = .ok (.getfield 55, 3) := by decide +kernel
theorem dX0_addOrder_62 : decode cX0_addOrder 62 = .ok (.aload_n 0, 1) := by decide +kernel
theorem dX0_addOrder_63 : decode cX0_addOrder 63 = .ok (.getfield 58, 3) := by decide +kernel
theorem dX0_addOrder_66 : decode cX0_addOrder 66 = .ok (.iastore, 1) := by decide +kernel
theorem dX0_addOrder_67 : decode cX0_addOrder 67 = .ok (.aload_n 0, 1) := by decide +kernel
theorem dX0_addOrder_68 : decode cX0_addOrder 68 = .ok (.dup, 1) := by decide +kernel
theorem dX0_addOrder_69 : decode cX0_addOrder 69 = .ok (.getfield 55, 3) := by decide +kernel
theorem dX0_addOrder_72 : decode cX0_addOrder 72 = .ok (.iconst 1, 1) := by decide +kernel
theorem dX0_addOrder_73 : decode cX0_addOrder 73 = .ok (.iadd, 1) := by decide +kernel
theorem dX0_addOrder_74 : decode cX0_addOrder 74 = .ok (.putfield 55, 3) := by decide +kernel
theorem dX0_addOrder_77 : decode cX0_addOrder 77 = .ok (.return_, 1) := by decide +kernel
theorem dX0_addCode_0 : decode cX0_addCode 0 = .ok (.aload_n 0, 1) := by decide +kernel
theorem dX0_addCode_1 : decode cX0_addCode 1 = .ok (.getfield 58, 3) := by decide +kernel
theorem dX0_addCode_4 : decode cX0_addCode 4 = .ok (.ifCond .lt 53, 3) := by decide +kernel
theorem dX0_addCode_7 : decode cX0_addCode 7 = .ok (.aload_n 0, 1) := by decide +kernel
theorem dX0_addCode_8 : decode cX0_addCode 8 = .ok (.getfield 58, 3) := by decide +kernel
theorem dX0_addCode_11 : decode cX0_addCode 11 = .ok (.sipush 400, 3) := by decide +kernel
theorem dX0_addCode_14 : decode cX0_addCode 14 = .ok (.if_icmp .ge 43, 3) := by decide +kernel
theorem dX0_addCode_17 : decode cX0_addCode 17 = .ok (.aload_n 0, 1) := by decide +kernel
theorem dX0_addCode_18 : decode cX0_addCode 18 = .ok (.getfield 39, 3) := by decide +kernel
theorem dX0_addCode_21 : decode cX0_addCode 21 = .ok (.aload_n 0, 1) := by decide +kernel
theorem dX0_addCode_22 : decode cX0_addCode 22 = .ok (.getfield 58, 3) := by decide +kernel
theorem dX0_addCode_25 : decode cX0_addCode 25 = .ok (.iload_n 1, 1) := by decide +kernel
theorem dX0_addCode_26 : decode cX0_addCode 26 = .ok (.iastore, 1) := by decide +kernel
theorem dX0_addCode_27 : decode cX0_addCode 27 = .ok (.aload_n 0, 1) := by decide +kernel
theorem dX0_addCode_28 : decode cX0_addCode 28 = .ok (.getfield 42, 3) := by decide +kernel
theorem dX0_addCode_31 : decode cX0_addCode 31 = .ok (.aload_n 0, 1) := by decide +kernel
theorem dX0_addCode_32 : decode cX0_addCode 32 = .ok (.getfield 58, 3) := by decide +kernel
theorem dX0_addCode_35 : decode cX0_addCode 35 = .ok (.iload_n 2, 1) := by decide +kernel
theorem dX0_addCode_36 : decode cX0_addCode 36 = .ok (.iastore, 1) := by decide +kernel
theorem dX0_addCode_37 : decode cX0_addCode 37 = .ok (.aload_n 0, 1) := by decide +kernel
theorem dX0_addCode_38 : decode cX0_addCode 38 = .ok (.getfield 45, 3) := by decide +kernel
theorem dX0_addCode_41 : decode cX0_addCode 41 = .ok (.aload_n 0, 1) := by decide +kernel
theorem dX0_addCode_42 : decode cX0_addCode 42 = .ok (.getfield 58, 3) := by decide +kernel
theorem dX0_addCode_45 : decode cX0_addCode 45 = .ok (.iload_n 3, 1) := by decide +kernel
theorem dX0_addCode_46 : decode cX0_addCode 46 = .ok (.iastore, 1) := by decide +kernel
theorem dX0_addCode_47 : decode cX0_addCode 47 = .ok (.aload_n 0, 1) := by decide +kernel
theorem dX0_addCode_48 : decode cX0_addCode 48 = .ok (.dup, 1) := by decide +kernel
theorem dX0_addCode_49 : decode cX0_addCode 49 = .ok (.getfield 58, 3) := by decide +kernel
theorem dX0_addCode_52 : decode cX0_addCode 52 = .ok (.iconst 1, 1) := by decide +kernel
theorem dX0_addCode_53 : decode cX0_addCode 53 = .ok (.iadd, 1) := by decide +kernel
theorem dX0_addCode_54 : decode cX0_addCode 54 = .ok (.putfield 58, 3) := by decide +kernel
theorem dX0_addCode_57 : decode cX0_addCode 57 = .ok (.return_, 1) := by decide +kernel
theorem dX0_kind_0 : decode cX0_kind 0 = .ok (.aload_n 0, 1) := by decide +kernel
theorem dX0_kind_1 : decode cX0_kind 1 = .ok (.getfield 9, 3) := by decide +kernel
theorem dX0_kind_4 : decode cX0_kind 4 = .ok (.iload_n 1, 1) := by decide +kernel
theorem dX0_kind_5 : decode cX0_kind 5 = .ok (.invokestatic 65, 3) := by decide +kernel
theorem dX0_kind_8 : decode cX0_kind 8 = .ok (.ireturn, 1) := by decide +kernel
theorem dX0_first_0 : decode cX0_first 0 = .ok (.aload_n 0, 1) := by decide +kernel
theorem dX0_first_1 : decode cX0_first 1 = .ok (.getfield 15, 3) := by decide +kernel
theorem dX0_first_4 : decode cX0_first 4 = .ok (.iload_n 1, 1) := by decide +kernel
theorem dX0_first_5 : decode cX0_first 5 = .ok (.invokestatic 65, 3) := by decide +kernel
theorem dX0_first_8 : decode cX0_first 8 = .ok (.ireturn, 1) := by decide +kernel
theorem dX0_second_0 : decode cX0_second 0 = .ok (.aload_n 0, 1) := by decide +kernel
theorem dX0_second_1 : decode cX0_second 1 = .ok (.getfield 18, 3) := by decide +kernel
theorem dX0_second_4 : decode cX0_second 4 = .ok (.iload_n 1, 1) := by decide +kernel
theorem dX0_second_5 : decode cX0_second 5 = .ok (.invokestatic 65, 3) := by decide +kernel
theorem dX0_second_8 : decode cX0_second 8 = .ok (.ireturn, 1) := by decide +kernel
theorem dX0_left_0 : decode cX0_left 0 = .ok (.aload_n 0, 1) := by decide +kernel
theorem dX0_left_1 : decode cX0_left 1 = .ok (.getfield 21, 3) := by decide +kernel
theorem dX0_left_4 : decode cX0_left 4 = .ok (.iload_n 1, 1) := by decide +kernel
theorem dX0_left_5 : decode cX0_left 5 = .ok (.invokestatic 65, 3) := by decide +kernel
theorem dX0_left_8 : decode cX0_left 8 = .ok (.ireturn, 1) := by decide +kernel
theorem dX0_right_0 : decode cX0_right 0 = .ok (.aload_n 0, 1) := by decide +kernel
theorem dX0_right_1 : decode cX0_right 1 = .ok (.getfield 24, 3) := by decide +kernel
theorem dX0_right_4 : decode cX0_right 4 = .ok (.iload_n 1, 1) := by decide +kernel
theorem dX0_right_5 : decode cX0_right 5 = .ok (.invokestatic 65, 3) := by decide +kernel
theorem dX0_right_8 : decode cX0_right 8 = .ok (.ireturn, 1) := by decide +kernel
theorem dX0_renews_0 : decode cX0_renews 0 = .ok (.aload_n 0, 1) := by decide +kernel
theorem dX0_renews_1 : decode cX0_renews 1 = .ok (.getfield 27, 3) := by decide +kernel
theorem dX0_renews_4 : decode cX0_renews 4 = .ok (.iload_n 1, 1) := by decide +kernel
theorem dX0_renews_5 : decode cX0_renews 5 = .ok (.invokestatic 65, 3) := by decide +kernel
theorem dX0_renews_8 : decode cX0_renews 8 = .ok (.iconst 1, 1) := by decide +kernel
theorem dX0_renews_9 : decode cX0_renews 9 = .ok (.if_icmp .ne 7, 3) := by decide +kernel
theorem dX0_renews_12 : decode cX0_renews 12 = .ok (.iconst 1, 1) := by decide +kernel
theorem dX0_renews_13 : decode cX0_renews 13 = .ok (.goto 4, 3) := by decide +kernel
theorem dX0_renews_16 : decode cX0_renews 16 = .ok (.iconst 0, 1) := by decide +kernel
theorem dX0_renews_17 : decode cX0_renews 17 = .ok (.ireturn, 1) := by decide +kernel
theorem dX0_target_0 : decode cX0_target 0 = .ok (.aload_n 0, 1) := by decide +kernel
theorem dX0_target_1 : decode cX0_target 1 = .ok (.getfield 30, 3) := by decide +kernel
theorem dX0_target_4 : decode cX0_target 4 = .ok (.iload_n 1, 1) := by decide +kernel
theorem dX0_target_5 : decode cX0_target 5 = .ok (.invokestatic 65, 3) := by decide +kernel
theorem dX0_target_8 : decode cX0_target 8 = .ok (.ireturn, 1) := by decide +kernel
theorem dX0_codeStart_0 : decode cX0_codeStart 0 = .ok (.aload_n 0, 1) := by decide +kernel
theorem dX0_codeStart_1 : decode cX0_codeStart 1 = .ok (.getfield 33, 3) := by decide +kernel
theorem dX0_codeStart_4 : decode cX0_codeStart 4 = .ok (.iload_n 1, 1) := by decide +kernel
theorem dX0_codeStart_5 : decode cX0_codeStart 5 = .ok (.invokestatic 65, 3) := by decide +kernel
theorem dX0_codeStart_8 : decode cX0_codeStart 8 = .ok (.ireturn, 1) := by decide +kernel
theorem dX0_codeEnd_0 : decode cX0_codeEnd 0 = .ok (.aload_n 0, 1) := by decide +kernel
theorem dX0_codeEnd_1 : decode cX0_codeEnd 1 = .ok (.getfield 36, 3) := by decide +kernel
theorem dX0_codeEnd_4 : decode cX0_codeEnd 4 = .ok (.iload_n 1, 1) := by decide +kernel
theorem dX0_codeEnd_5 : decode cX0_codeEnd 5 = .ok (.invokestatic 65, 3) := by decide +kernel
theorem dX0_codeEnd_8 : decode cX0_codeEnd 8 = .ok (.ireturn, 1) := by decide +kernel
theorem dX0_operation_0 : decode cX0_operation 0 = .ok (.aload_n 0, 1) := by decide +kernel
theorem dX0_operation_1 : decode cX0_operation 1 = .ok (.getfield 39, 3) := by decide +kernel
theorem dX0_operation_4 : decode cX0_operation 4 = .ok (.iload_n 1, 1) := by decide +kernel
theorem dX0_operation_5 : decode cX0_operation 5 = .ok (.invokestatic 65, 3) := by decide +kernel
theorem dX0_operation_8 : decode cX0_operation 8 = .ok (.ireturn, 1) := by decide +kernel
theorem dX0_firstNumber_0 : decode cX0_firstNumber 0 = .ok (.aload_n 0, 1) := by decide +kernel
theorem dX0_firstNumber_1 : decode cX0_firstNumber 1 = .ok (.getfield 42, 3) := by decide +kernel
theorem dX0_firstNumber_4 : decode cX0_firstNumber 4 = .ok (.iload_n 1, 1) := by decide +kernel
theorem dX0_firstNumber_5 : decode cX0_firstNumber 5 = .ok (.invokestatic 65, 3) := by decide +kernel
theorem dX0_firstNumber_8 : decode cX0_firstNumber 8 = .ok (.ireturn, 1) := by decide +kernel
theorem dX0_secondNumber_0 : decode cX0_secondNumber 0 = .ok (.aload_n 0, 1) := by decide +kernel
theorem dX0_secondNumber_1 : decode cX0_secondNumber 1 = .ok (.getfield 45, 3) := by decide +kernel
theorem dX0_secondNumber_4 : decode cX0_secondNumber 4 = .ok (.iload_n 1, 1) := by decide +kernel
theorem dX0_secondNumber_5 : decode cX0_secondNumber 5 = .ok (.invokestatic 65, 3) := by decide +kernel
theorem dX0_secondNumber_8 : decode cX0_secondNumber 8 = .ok (.ireturn, 1) := by decide +kernel
theorem dX1_init_0 : decode cX1_init 0 = .ok (.aload_n 0, 1) := by decide +kernel
theorem dX1_init_1 : decode cX1_init 1 = .ok (.invokespecial 1, 3) := by decide +kernel
theorem dX1_init_4 : decode cX1_init 4 = .ok (.return_, 1) := by decide +kernel
theorem dX1_begin_0 : decode cX1_begin 0 = .ok (.aload_n 0, 1) := by decide +kernel
theorem dX1_begin_1 : decode cX1_begin 1 = .ok (.iconst 0, 1) := by decide +kernel
theorem dX1_begin_2 : decode cX1_begin 2 = .ok (.putfield 7, 3) := by decide +kernel
theorem dX1_begin_5 : decode cX1_begin 5 = .ok (.aload_n 0, 1) := by decide +kernel
theorem dX1_begin_6 : decode cX1_begin 6 = .ok (.iconst 1, 1) := by decide +kernel
theorem dX1_begin_7 : decode cX1_begin 7 = .ok (.iload_n 1, 1) := by decide +kernel
theorem dX1_begin_8 : decode cX1_begin 8 = .ok (.ishl, 1) := by decide +kernel
theorem dX1_begin_9 : decode cX1_begin 9 = .ok (.iconst 1, 1) := by decide +kernel
theorem dX1_begin_10 : decode cX1_begin 10 = .ok (.isub, 1) := by decide +kernel
theorem dX1_begin_11 : decode cX1_begin 11 = .ok (.putfield 13, 3) := by decide +kernel
theorem dX1_begin_14 : decode cX1_begin 14 = .ok (.aload_n 0, 1) := by decide +kernel
theorem dX1_begin_15 : decode cX1_begin 15 = .ok (.iconst 0, 1) := by decide +kernel
theorem dX1_begin_16 : decode cX1_begin 16 = .ok (.putfield 16, 3) := by decide +kernel
theorem dX1_begin_19 : decode cX1_begin 19 = .ok (.return_, 1) := by decide +kernel
theorem dX1_copyFrom_0 : decode cX1_copyFrom 0 = .ok (.aload_n 0, 1) := by decide +kernel
theorem dX1_copyFrom_1 : decode cX1_copyFrom 1 = .ok (.aload_n 1, 1) := by decide +kernel
theorem dX1_copyFrom_2 : decode cX1_copyFrom 2 = .ok (.getfield 7, 3) := by decide +kernel
theorem dX1_copyFrom_5 : decode cX1_copyFrom 5 = .ok (.putfield 7, 3) := by decide +kernel
theorem dX1_copyFrom_8 : decode cX1_copyFrom 8 = .ok (.aload_n 0, 1) := by decide +kernel
theorem dX1_copyFrom_9 : decode cX1_copyFrom 9 = .ok (.aload_n 1, 1) := by decide +kernel
theorem dX1_copyFrom_10 : decode cX1_copyFrom 10 = .ok (.getfield 13, 3) := by decide +kernel
theorem dX1_copyFrom_13 : decode cX1_copyFrom 13 = .ok (.putfield 13, 3) := by decide +kernel
theorem dX1_copyFrom_16 : decode cX1_copyFrom 16 = .ok (.aload_n 0, 1) := by decide +kernel
theorem dX1_copyFrom_17 : decode cX1_copyFrom 17 = .ok (.aload_n 1, 1) := by decide +kernel
theorem dX1_copyFrom_18 : decode cX1_copyFrom 18 = .ok (.getfield 16, 3) := by decide +kernel
theorem dX1_copyFrom_21 : decode cX1_copyFrom 21 = .ok (.putfield 16, 3) := by decide +kernel
theorem dX1_copyFrom_24 : decode cX1_copyFrom 24 = .ok (.return_, 1) := by decide +kernel
theorem dX1_change_0 : decode cX1_change 0 = .ok (.aload_n 0, 1) := by decide +kernel
theorem dX1_change_1 : decode cX1_change 1 = .ok (.getfield 13, 3) := by decide +kernel
theorem dX1_change_4 : decode cX1_change 4 = .ok (.iload_n 1, 1) := by decide +kernel
theorem dX1_change_5 : decode cX1_change 5 = .ok (.invokestatic 19, 3) := by decide +kernel
theorem dX1_change_8 : decode cX1_change 8 = .ok (.iload_n 2, 1) := by decide +kernel
theorem dX1_change_9 : decode cX1_change 9 = .ok (.if_icmp .eq 40, 3) := by decide +kernel
theorem dX1_change_12 : decode cX1_change 12 = .ok (.aload_n 0, 1) := by decide +kernel
theorem dX1_change_13 : decode cX1_change 13 = .ok (.iload_n 2, 1) := by decide +kernel
theorem dX1_change_14 : decode cX1_change 14 = .ok (.ifCond .eq 14, 3) := by decide +kernel
theorem dX1_change_17 : decode cX1_change 17 = .ok (.aload_n 0, 1) := by decide +kernel
theorem dX1_change_18 : decode cX1_change 18 = .ok (.getfield 13, 3) := by decide +kernel
theorem dX1_change_21 : decode cX1_change 21 = .ok (.iload_n 1, 1) := by decide +kernel
theorem dX1_change_22 : decode cX1_change 22 = .ok (.invokestatic 25, 3) := by decide +kernel
theorem dX1_change_25 : decode cX1_change 25 = .ok (.goto 11, 3) := by decide +kernel
theorem dX1_change_28 : decode cX1_change 28 = .ok (.aload_n 0, 1) := by decide +kernel
theorem dX1_change_29 : decode cX1_change 29 = .ok (.getfield 13, 3) := by decide +kernel
theorem dX1_change_32 : decode cX1_change 32 = .ok (.iload_n 1, 1) := by decide +kernel
theorem dX1_change_33 : decode cX1_change 33 = .ok (.invokestatic 29, 3) := by decide +kernel
theorem dX1_change_36 : decode cX1_change 36 = .ok (.putfield 13, 3) := by decide +kernel
theorem dX1_change_39 : decode cX1_change 39 = .ok (.aload_n 0, 1) := by decide +kernel
theorem dX1_change_40 : decode cX1_change 40 = .ok (.dup, 1) := by decide +kernel
theorem dX1_change_41 : decode cX1_change 41 = .ok (.getfield 16, 3) := by decide +kernel
theorem dX1_change_44 : decode cX1_change 44 = .ok (.iconst 1, 1) := by decide +kernel
theorem dX1_change_45 : decode cX1_change 45 = .ok (.iadd, 1) := by decide +kernel
theorem dX1_change_46 : decode cX1_change 46 = .ok (.putfield 16, 3) := by decide +kernel
theorem dX1_change_49 : decode cX1_change 49 = .ok (.return_, 1) := by decide +kernel
theorem dX2_init_0 : decode cX2_init 0 = .ok (.aload_n 0, 1) := by decide +kernel
theorem dX2_init_1 : decode cX2_init 1 = .ok (.invokespecial 3, 3) := by decide +kernel
theorem dX2_init_4 : decode cX2_init 4 = .ok (.aload_n 0, 1) := by decide +kernel
theorem dX2_init_5 : decode cX2_init 5 = .ok (.sipush 400, 3) := by decide +kernel
theorem dX2_init_8 : decode cX2_init 8 = .ok (.newarray .int, 2) := by decide +kernel
theorem dX2_init_10 : decode cX2_init 10 = .ok (.putfield 9, 3) := by decide +kernel
theorem dX2_init_13 : decode cX2_init 13 = .ok (.aload_n 0, 1) := by decide +kernel
theorem dX2_init_14 : decode cX2_init 14 = .ok (.aload_n 1, 1) := by decide +kernel
theorem dX2_init_15 : decode cX2_init 15 = .ok (.putfield 15, 3) := by decide +kernel
theorem dX2_init_18 : decode cX2_init 18 = .ok (.aload_n 0, 1) := by decide +kernel
theorem dX2_init_19 : decode cX2_init 19 = .ok (.aload_n 2, 1) := by decide +kernel
theorem dX2_init_20 : decode cX2_init 20 = .ok (.putfield 19, 3) := by decide +kernel
theorem dX2_init_23 : decode cX2_init 23 = .ok (.aload_n 0, 1) := by decide +kernel
theorem dX2_init_24 : decode cX2_init 24 = .ok (.aload_n 3, 1) := by decide +kernel
theorem dX2_init_25 : decode cX2_init 25 = .ok (.putfield 23, 3) := by decide +kernel
theorem dX2_init_28 : decode cX2_init 28 = .ok (.return_, 1) := by decide +kernel
theorem dX2_letPass_0 : decode cX2_letPass 0 = .ok (.iconst 0, 1) := by decide +kernel
theorem dX2_letPass_1 : decode cX2_letPass 1 = .ok (.istore_n 3, 1) := by decide +kernel
theorem dX2_letPass_2 : decode cX2_letPass 2 = .ok (.iload_n 3, 1) := by decide +kernel
theorem dX2_letPass_3 : decode cX2_letPass 3 = .ok (.iload_n 2, 1) := by decide +kernel
theorem dX2_letPass_4 : decode cX2_letPass 4 = .ok (.if_icmp .ge 72, 3) := by decide +kernel
theorem dX2_letPass_7 : decode cX2_letPass 7 = .ok (.iconst 0, 1) := by decide +kernel
theorem dX2_letPass_8 : decode cX2_letPass 8 = .ok (.istore 4, 2) := by decide +kernel
theorem dX2_letPass_10 : decode cX2_letPass 10 = .ok (.iload 4, 2) := by decide +kernel
theorem dX2_letPass_12 : decode cX2_letPass 12 = .ok (.aload_n 0, 1) := by decide +kernel
theorem dX2_letPass_13 : decode cX2_letPass 13 = .ok (.getfield 15, 3) := by decide +kernel
theorem dX2_letPass_16 : decode cX2_letPass 16 = .ok (.getfield 27, 3) := by decide +kernel
theorem dX2_letPass_19 : decode cX2_letPass 19 = .ok (.if_icmp .ge 41, 3) := by decide +kernel
theorem dX2_letPass_22 : decode cX2_letPass 22 = .ok (.aload_n 0, 1) := by decide +kernel
theorem dX2_letPass_23 : decode cX2_letPass 23 = .ok (.iload 4, 2) := by decide +kernel
theorem dX2_letPass_25 : decode cX2_letPass 25 = .ok (.aload_n 1, 1) := by decide +kernel
theorem dX2_letPass_26 : decode cX2_letPass 26 = .ok (.invokevirtual 33, 3) := by decide +kernel
theorem dX2_letPass_29 : decode cX2_letPass 29 = .ok (.ifCond .eq 25, 3) := by decide +kernel
theorem dX2_letPass_32 : decode cX2_letPass 32 = .ok (.aload_n 1, 1) := by decide +kernel
theorem dX2_letPass_33 : decode cX2_letPass 33 = .ok (.aload_n 0, 1) := by decide +kernel
theorem dX2_letPass_34 : decode cX2_letPass 34 = .ok (.getfield 15, 3) := by decide +kernel
theorem dX2_letPass_37 : decode cX2_letPass 37 = .ok (.iload 4, 2) := by decide +kernel
theorem dX2_letPass_39 : decode cX2_letPass 39 = .ok (.invokevirtual 37, 3) := by decide +kernel
theorem dX2_letPass_42 : decode cX2_letPass 42 = .ok (.aload_n 0, 1) := by decide +kernel
theorem dX2_letPass_43 : decode cX2_letPass 43 = .ok (.getfield 15, 3) := by decide +kernel
theorem dX2_letPass_46 : decode cX2_letPass 46 = .ok (.iload 4, 2) := by decide +kernel
theorem dX2_letPass_48 : decode cX2_letPass 48 = .ok (.invokevirtual 41, 3) := by decide +kernel
theorem dX2_letPass_51 : decode cX2_letPass 51 = .ok (.invokevirtual 45, 3) := by decide +kernel
theorem dX2_letPass_54 : decode cX2_letPass 54 = .ok (.iinc 4 1, 3) := by decide +kernel
theorem dX2_letPass_57 : decode cX2_letPass 57 = .ok (.goto (-47), 3) := by decide +kernel
theorem dX2_letPass_60 : decode cX2_letPass 60 = .ok (.aload_n 1, 1) := by decide +kernel
theorem dX2_letPass_61 : decode cX2_letPass 61 = .ok (.dup, 1) := by decide +kernel
theorem dX2_letPass_62 : decode cX2_letPass 62 = .ok (.getfield 51, 3) := by decide +kernel
theorem dX2_letPass_65 : decode cX2_letPass 65 = .ok (.iconst 1, 1) := by decide +kernel
theorem dX2_letPass_66 : decode cX2_letPass 66 = .ok (.iadd, 1) := by decide +kernel
theorem dX2_letPass_67 : decode cX2_letPass 67 = .ok (.putfield 51, 3) := by decide +kernel
theorem dX2_letPass_70 : decode cX2_letPass 70 = .ok (.iinc 3 1, 3) := by decide +kernel
theorem dX2_letPass_73 : decode cX2_letPass 73 = .ok (.goto (-71), 3) := by decide +kernel
theorem dX2_letPass_76 : decode cX2_letPass 76 = .ok (.return_, 1) := by decide +kernel
theorem dX2_isDue_0 : decode cX2_isDue 0 = .ok (.aload_n 0, 1) := by decide +kernel
theorem dX2_isDue_1 : decode cX2_isDue 1 = .ok (.getfield 15, 3) := by decide +kernel
theorem dX2_isDue_4 : decode cX2_isDue 4 = .ok (.iload_n 1, 1) := by decide +kernel
theorem dX2_isDue_5 : decode cX2_isDue 5 = .ok (.invokevirtual 54, 3) := by decide +kernel
theorem dX2_isDue_8 : decode cX2_isDue 8 = .ok (.istore_n 3, 1) := by decide +kernel
theorem dX2_isDue_9 : decode cX2_isDue 9 = .ok (.aload_n 0, 1) := by decide +kernel
theorem dX2_isDue_10 : decode cX2_isDue 10 = .ok (.getfield 15, 3) := by decide +kernel
theorem dX2_isDue_13 : decode cX2_isDue 13 = .ok (.iload_n 1, 1) := by decide +kernel
theorem dX2_isDue_14 : decode cX2_isDue 14 = .ok (.invokevirtual 57, 3) := by decide +kernel
theorem dX2_isDue_17 : decode cX2_isDue 17 = .ok (.istore 4, 2) := by decide +kernel
theorem dX2_isDue_19 : decode cX2_isDue 19 = .ok (.iload_n 3, 1) := by decide +kernel
theorem dX2_isDue_20 : decode cX2_isDue 20 = .ok (.iload 4, 2) := by decide +kernel
theorem dX2_isDue_22 : decode cX2_isDue 22 = .ok (.if_icmp .lt 5, 3) := by decide +kernel
theorem dX2_isDue_25 : decode cX2_isDue 25 = .ok (.iconst 1, 1) := by decide +kernel
theorem dX2_isDue_26 : decode cX2_isDue 26 = .ok (.ireturn, 1) := by decide +kernel
theorem dX2_isDue_27 : decode cX2_isDue 27 = .ok (.aload_n 0, 1) := by decide +kernel
theorem dX2_isDue_28 : decode cX2_isDue 28 = .ok (.iconst 0, 1) := by decide +kernel
theorem dX2_isDue_29 : decode cX2_isDue 29 = .ok (.putfield 60, 3) := by decide +kernel
theorem dX2_isDue_32 : decode cX2_isDue 32 = .ok (.iload_n 3, 1) := by decide +kernel
theorem dX2_isDue_33 : decode cX2_isDue 33 = .ok (.istore 5, 2) := by decide +kernel
theorem dX2_isDue_35 : decode cX2_isDue 35 = .ok (.iload 5, 2) := by decide +kernel
theorem dX2_isDue_37 : decode cX2_isDue 37 = .ok (.iload 4, 2) := by decide +kernel
theorem dX2_isDue_39 : decode cX2_isDue 39 = .ok (.if_icmp .ge 16, 3) := by decide +kernel
theorem dX2_isDue_42 : decode cX2_isDue 42 = .ok (.aload_n 0, 1) := by decide +kernel
theorem dX2_isDue_43 : decode cX2_isDue 43 = .ok (.iload 5, 2) := by decide +kernel
theorem dX2_isDue_45 : decode cX2_isDue 45 = .ok (.aload_n 2, 1) := by decide +kernel
theorem dX2_isDue_46 : decode cX2_isDue 46 = .ok (.invokevirtual 63, 3) := by decide +kernel
theorem dX2_isDue_49 : decode cX2_isDue 49 = .ok (.iinc 5 1, 3) := by decide +kernel
theorem dX2_isDue_52 : decode cX2_isDue 52 = .ok (.goto (-17), 3) := by decide +kernel
theorem dX2_isDue_55 : decode cX2_isDue 55 = .ok (.aload_n 0, 1) := by decide +kernel
theorem dX2_isDue_56 : decode cX2_isDue 56 = .ok (.invokevirtual 67, 3) := by decide +kernel
theorem dX2_isDue_59 : decode cX2_isDue 59 = .ok (.ifCond .eq 7, 3) := by decide +kernel
theorem dX2_isDue_62 : decode cX2_isDue 62 = .ok (.iconst 1, 1) := by decide +kernel
theorem dX2_isDue_63 : decode cX2_isDue 63 = .ok (.goto 4, 3) := by decide +kernel
theorem dX2_isDue_66 : decode cX2_isDue 66 = .ok (.iconst 0, 1) := by decide +kernel
theorem dX2_isDue_67 : decode cX2_isDue 67 = .ok (.ireturn, 1) := by decide +kernel
theorem dX2_push_0 : decode cX2_push 0 = .ok (.aload_n 0, 1) := by decide +kernel
theorem dX2_push_1 : decode cX2_push 1 = .ok (.getfield 60, 3) := by decide +kernel
theorem dX2_push_4 : decode cX2_push 4 = .ok (.ifCond .lt 35, 3) := by decide +kernel
theorem dX2_push_7 : decode cX2_push 7 = .ok (.aload_n 0, 1) := by decide +kernel
theorem dX2_push_8 : decode cX2_push 8 = .ok (.getfield 60, 3) := by decide +kernel
theorem dX2_push_11 : decode cX2_push 11 = .ok (.aload_n 0, 1) := by decide +kernel
theorem dX2_push_12 : decode cX2_push 12 = .ok (.getfield 9, 3) := by decide +kernel
theorem dX2_push_15 : decode cX2_push 15 = .ok (.arraylength, 1) := by decide +kernel
theorem dX2_push_16 : decode cX2_push 16 = .ok (.if_icmp .ge 23, 3) := by decide +kernel
theorem dX2_push_19 : decode cX2_push 19 = .ok (.aload_n 0, 1) := by decide +kernel
theorem dX2_push_20 : decode cX2_push 20 = .ok (.getfield 9, 3) := by decide +kernel
theorem dX2_push_23 : decode cX2_push 23 = .ok (.aload_n 0, 1) := by decide +kernel
theorem dX2_push_24 : decode cX2_push 24 = .ok (.getfield 60, 3) := by decide +kernel
theorem dX2_push_27 : decode cX2_push 27 = .ok (.iload_n 1, 1) := by decide +kernel
theorem dX2_push_28 : decode cX2_push 28 = .ok (.iastore, 1) := by decide +kernel
theorem dX2_push_29 : decode cX2_push 29 = .ok (.aload_n 0, 1) := by decide +kernel
theorem dX2_push_30 : decode cX2_push 30 = .ok (.dup, 1) := by decide +kernel
theorem dX2_push_31 : decode cX2_push 31 = .ok (.getfield 60, 3) := by decide +kernel
theorem dX2_push_34 : decode cX2_push 34 = .ok (.iconst 1, 1) := by decide +kernel
theorem dX2_push_35 : decode cX2_push 35 = .ok (.iadd, 1) := by decide +kernel
theorem dX2_push_36 : decode cX2_push 36 = .ok (.putfield 60, 3) := by decide +kernel
theorem dX2_push_39 : decode cX2_push 39 = .ok (.return_, 1) := by decide +kernel
theorem dX2_pop_0 : decode cX2_pop 0 = .ok (.aload_n 0, 1) := by decide +kernel
theorem dX2_pop_1 : decode cX2_pop 1 = .ok (.getfield 60, 3) := by decide +kernel
theorem dX2_pop_4 : decode cX2_pop 4 = .ok (.ifCond .le 15, 3) := by decide +kernel
theorem dX2_pop_7 : decode cX2_pop 7 = .ok (.aload_n 0, 1) := by decide +kernel
theorem dX2_pop_8 : decode cX2_pop 8 = .ok (.getfield 60, 3) := by decide +kernel
theorem dX2_pop_11 : decode cX2_pop 11 = .ok (.aload_n 0, 1) := by decide +kernel
theorem dX2_pop_12 : decode cX2_pop 12 = .ok (.getfield 9, 3) := by decide +kernel
theorem dX2_pop_15 : decode cX2_pop 15 = .ok (.arraylength, 1) := by decide +kernel
theorem dX2_pop_16 : decode cX2_pop 16 = .ok (.if_icmp .le 5, 3) := by decide +kernel
theorem dX2_pop_19 : decode cX2_pop 19 = .ok (.iconst 0, 1) := by decide +kernel
theorem dX2_pop_20 : decode cX2_pop 20 = .ok (.ireturn, 1) := by decide +kernel
theorem dX2_pop_21 : decode cX2_pop 21 = .ok (.aload_n 0, 1) := by decide +kernel
theorem dX2_pop_22 : decode cX2_pop 22 = .ok (.dup, 1) := by decide +kernel
theorem dX2_pop_23 : decode cX2_pop 23 = .ok (.getfield 60, 3) := by decide +kernel
theorem dX2_pop_26 : decode cX2_pop 26 = .ok (.iconst 1, 1) := by decide +kernel
theorem dX2_pop_27 : decode cX2_pop 27 = .ok (.isub, 1) := by decide +kernel
theorem dX2_pop_28 : decode cX2_pop 28 = .ok (.putfield 60, 3) := by decide +kernel
theorem dX2_pop_31 : decode cX2_pop 31 = .ok (.aload_n 0, 1) := by decide +kernel
theorem dX2_pop_32 : decode cX2_pop 32 = .ok (.getfield 9, 3) := by decide +kernel
theorem dX2_pop_35 : decode cX2_pop 35 = .ok (.aload_n 0, 1) := by decide +kernel
theorem dX2_pop_36 : decode cX2_pop 36 = .ok (.getfield 60, 3) := by decide +kernel
theorem dX2_pop_39 : decode cX2_pop 39 = .ok (.iaload, 1) := by decide +kernel
theorem dX2_pop_40 : decode cX2_pop 40 = .ok (.ireturn, 1) := by decide +kernel
theorem dX2_reckon_0 : decode cX2_reckon 0 = .ok (.aload_n 0, 1) := by decide +kernel
theorem dX2_reckon_1 : decode cX2_reckon 1 = .ok (.getfield 15, 3) := by decide +kernel
theorem dX2_reckon_4 : decode cX2_reckon 4 = .ok (.iload_n 1, 1) := by decide +kernel
theorem dX2_reckon_5 : decode cX2_reckon 5 = .ok (.invokevirtual 71, 3) := by decide +kernel
theorem dX2_reckon_8 : decode cX2_reckon 8 = .ok (.istore_n 3, 1) := by decide +kernel
theorem dX2_reckon_9 : decode cX2_reckon 9 = .ok (.aload_n 0, 1) := by decide +kernel
theorem dX2_reckon_10 : decode cX2_reckon 10 = .ok (.getfield 15, 3) := by decide +kernel
theorem dX2_reckon_13 : decode cX2_reckon 13 = .ok (.iload_n 1, 1) := by decide +kernel
theorem dX2_reckon_14 : decode cX2_reckon 14 = .ok (.invokevirtual 74, 3) := by decide +kernel
theorem dX2_reckon_17 : decode cX2_reckon 17 = .ok (.istore 4, 2) := by decide +kernel
theorem dX2_reckon_19 : decode cX2_reckon 19 = .ok (.iload_n 3, 1) := by decide +kernel
theorem dX2_reckon_20 : decode cX2_reckon 20 = .ok (.lookupswitch 284 #[(259, 92), (262, 253), (315, 101), (316, 112), (317, 126), (318, 144), (319, 162), (320, 190), (321, 214), (323, 265)], 92) := by decide +kernel
theorem dX2_reckon_112 : decode cX2_reckon 112 = .ok (.aload_n 0, 1) := by decide +kernel
theorem dX2_reckon_113 : decode cX2_reckon 113 = .ok (.iload 4, 2) := by decide +kernel
theorem dX2_reckon_115 : decode cX2_reckon 115 = .ok (.invokevirtual 77, 3) := by decide +kernel
theorem dX2_reckon_118 : decode cX2_reckon 118 = .ok (.goto 206, 3) := by decide +kernel
theorem dX2_reckon_121 : decode cX2_reckon 121 = .ok (.aload_n 0, 1) := by decide +kernel
theorem dX2_reckon_122 : decode cX2_reckon 122 = .ok (.aload_n 2, 1) := by decide +kernel
theorem dX2_reckon_123 : decode cX2_reckon 123 = .ok (.getfield 51, 3) := by decide +kernel
theorem dX2_reckon_126 : decode cX2_reckon 126 = .ok (.invokevirtual 77, 3) := by decide +kernel
theorem dX2_reckon_129 : decode cX2_reckon 129 = .ok (.goto 195, 3) := by decide +kernel
theorem dX2_reckon_132 : decode cX2_reckon 132 = .ok (.aload_n 0, 1) := by decide +kernel
theorem dX2_reckon_133 : decode cX2_reckon 133 = .ok (.aload_n 2, 1) := by decide +kernel
theorem dX2_reckon_134 : decode cX2_reckon 134 = .ok (.getfield 81, 3) := by decide +kernel
theorem dX2_reckon_137 : decode cX2_reckon 137 = .ok (.invokestatic 84, 3) := by decide +kernel
theorem dX2_reckon_140 : decode cX2_reckon 140 = .ok (.invokevirtual 77, 3) := by decide +kernel
theorem dX2_reckon_143 : decode cX2_reckon 143 = .ok (.goto 181, 3) := by decide +kernel
theorem dX2_reckon_146 : decode cX2_reckon 146 = .ok (.aload_n 0, 1) := by decide +kernel
theorem dX2_reckon_147 : decode cX2_reckon 147 = .ok (.aload_n 0, 1) := by decide +kernel
theorem dX2_reckon_148 : decode cX2_reckon 148 = .ok (.getfield 19, 3) := by decide +kernel
theorem dX2_reckon_151 : decode cX2_reckon 151 = .ok (.aload_n 2, 1) := by decide +kernel
theorem dX2_reckon_152 : decode cX2_reckon 152 = .ok (.getfield 81, 3) := by decide +kernel
theorem dX2_reckon_155 : decode cX2_reckon 155 = .ok (.invokevirtual 89, 3) := by decide +kernel
theorem dX2_reckon_158 : decode cX2_reckon 158 = .ok (.invokevirtual 77, 3) := by decide +kernel
theorem dX2_reckon_161 : decode cX2_reckon 161 = .ok (.goto 163, 3) := by decide +kernel
theorem dX2_reckon_164 : decode cX2_reckon 164 = .ok (.aload_n 0, 1) := by decide +kernel
theorem dX2_reckon_165 : decode cX2_reckon 165 = .ok (.aload_n 0, 1) := by decide +kernel
theorem dX2_reckon_166 : decode cX2_reckon 166 = .ok (.getfield 23, 3) := by decide +kernel
theorem dX2_reckon_169 : decode cX2_reckon 169 = .ok (.aload_n 2, 1) := by decide +kernel
theorem dX2_reckon_170 : decode cX2_reckon 170 = .ok (.getfield 81, 3) := by decide +kernel
theorem dX2_reckon_173 : decode cX2_reckon 173 = .ok (.invokevirtual 94, 3) := by decide +kernel
theorem dX2_reckon_176 : decode cX2_reckon 176 = .ok (.invokevirtual 77, 3) := by decide +kernel
theorem dX2_reckon_179 : decode cX2_reckon 179 = .ok (.goto 145, 3) := by decide +kernel
theorem dX2_reckon_182 : decode cX2_reckon 182 = .ok (.aload_n 0, 1) := by decide +kernel
theorem dX2_reckon_183 : decode cX2_reckon 183 = .ok (.aload_n 0, 1) := by decide +kernel
theorem dX2_reckon_184 : decode cX2_reckon 184 = .ok (.getfield 23, 3) := by decide +kernel
theorem dX2_reckon_187 : decode cX2_reckon 187 = .ok (.aload_n 2, 1) := by decide +kernel
theorem dX2_reckon_188 : decode cX2_reckon 188 = .ok (.getfield 81, 3) := by decide +kernel
theorem dX2_reckon_191 : decode cX2_reckon 191 = .ok (.iload 4, 2) := by decide +kernel
theorem dX2_reckon_193 : decode cX2_reckon 193 = .ok (.invokevirtual 99, 3) := by decide +kernel
theorem dX2_reckon_196 : decode cX2_reckon 196 = .ok (.ifCond .le 7, 3) := by decide +kernel
theorem dX2_reckon_199 : decode cX2_reckon 199 = .ok (.iconst 1, 1) := by decide +kernel
theorem dX2_reckon_200 : decode cX2_reckon 200 = .ok (.goto 4, 3) := by decide +kernel
theorem dX2_reckon_203 : decode cX2_reckon 203 = .ok (.iconst 0, 1) := by decide +kernel
theorem dX2_reckon_204 : decode cX2_reckon 204 = .ok (.invokevirtual 77, 3) := by decide +kernel
theorem dX2_reckon_207 : decode cX2_reckon 207 = .ok (.goto 117, 3) := by decide +kernel
theorem dX2_reckon_210 : decode cX2_reckon 210 = .ok (.aload_n 0, 1) := by decide +kernel
theorem dX2_reckon_211 : decode cX2_reckon 211 = .ok (.aload_n 2, 1) := by decide +kernel
theorem dX2_reckon_212 : decode cX2_reckon 212 = .ok (.getfield 81, 3) := by decide +kernel
theorem dX2_reckon_215 : decode cX2_reckon 215 = .ok (.iload 4, 2) := by decide +kernel
theorem dX2_reckon_217 : decode cX2_reckon 217 = .ok (.invokestatic 103, 3) := by decide +kernel
theorem dX2_reckon_220 : decode cX2_reckon 220 = .ok (.ifCond .eq 7, 3) := by decide +kernel
theorem dX2_reckon_223 : decode cX2_reckon 223 = .ok (.iconst 1, 1) := by decide +kernel
theorem dX2_reckon_224 : decode cX2_reckon 224 = .ok (.goto 4, 3) := by decide +kernel
theorem dX2_reckon_227 : decode cX2_reckon 227 = .ok (.iconst 0, 1) := by decide +kernel
theorem dX2_reckon_228 : decode cX2_reckon 228 = .ok (.invokevirtual 77, 3) := by decide +kernel
theorem dX2_reckon_231 : decode cX2_reckon 231 = .ok (.goto 93, 3) := by decide +kernel
theorem dX2_reckon_234 : decode cX2_reckon 234 = .ok (.aload_n 0, 1) := by decide +kernel
theorem dX2_reckon_235 : decode cX2_reckon 235 = .ok (.aload_n 0, 1) := by decide +kernel
theorem dX2_reckon_236 : decode cX2_reckon 236 = .ok (.getfield 19, 3) := by decide +kernel
theorem dX2_reckon_239 : decode cX2_reckon 239 = .ok (.aload_n 2, 1) := by decide +kernel
theorem dX2_reckon_240 : decode cX2_reckon 240 = .ok (.getfield 81, 3) := by decide +kernel
theorem dX2_reckon_243 : decode cX2_reckon 243 = .ok (.aload_n 0, 1) := by decide +kernel
theorem dX2_reckon_244 : decode cX2_reckon 244 = .ok (.getfield 15, 3) := by decide +kernel
theorem dX2_reckon_247 : decode cX2_reckon 247 = .ok (.iload_n 1, 1) := by decide +kernel
theorem dX2_reckon_248 : decode cX2_reckon 248 = .ok (.invokevirtual 107, 3) := by decide +kernel
theorem dX2_reckon_251 : decode cX2_reckon 251 = .ok (.invokevirtual 110, 3) := by decide +kernel
theorem dX2_reckon_254 : decode cX2_reckon 254 = .ok (.iload 4, 2) := by decide +kernel
theorem dX2_reckon_256 : decode cX2_reckon 256 = .ok (.invokestatic 103, 3) := by decide +kernel
theorem dX2_reckon_259 : decode cX2_reckon 259 = .ok (.ifCond .eq 7, 3) := by decide +kernel
theorem dX2_reckon_262 : decode cX2_reckon 262 = .ok (.iconst 1, 1) := by decide +kernel
theorem dX2_reckon_263 : decode cX2_reckon 263 = .ok (.goto 4, 3) := by decide +kernel
theorem dX2_reckon_266 : decode cX2_reckon 266 = .ok (.iconst 0, 1) := by decide +kernel
theorem dX2_reckon_267 : decode cX2_reckon 267 = .ok (.invokevirtual 77, 3) := by decide +kernel
theorem dX2_reckon_270 : decode cX2_reckon 270 = .ok (.goto 54, 3) := by decide +kernel
theorem dX2_reckon_273 : decode cX2_reckon 273 = .ok (.aload_n 0, 1) := by decide +kernel
theorem dX2_reckon_274 : decode cX2_reckon 274 = .ok (.aload_n 0, 1) := by decide +kernel
theorem dX2_reckon_275 : decode cX2_reckon 275 = .ok (.invokevirtual 67, 3) := by decide +kernel
theorem dX2_reckon_278 : decode cX2_reckon 278 = .ok (.ineg, 1) := by decide +kernel
theorem dX2_reckon_279 : decode cX2_reckon 279 = .ok (.invokevirtual 77, 3) := by decide +kernel
theorem dX2_reckon_282 : decode cX2_reckon 282 = .ok (.goto 42, 3) := by decide +kernel
theorem dX2_reckon_285 : decode cX2_reckon 285 = .ok (.aload_n 0, 1) := by decide +kernel
theorem dX2_reckon_286 : decode cX2_reckon 286 = .ok (.aload_n 0, 1) := by decide +kernel
theorem dX2_reckon_287 : decode cX2_reckon 287 = .ok (.invokevirtual 67, 3) := by decide +kernel
theorem dX2_reckon_290 : decode cX2_reckon 290 = .ok (.ifCond .ne 7, 3) := by decide +kernel
theorem dX2_reckon_293 : decode cX2_reckon 293 = .ok (.iconst 1, 1) := by decide +kernel
theorem dX2_reckon_294 : decode cX2_reckon 294 = .ok (.goto 4, 3) := by decide +kernel
theorem dX2_reckon_297 : decode cX2_reckon 297 = .ok (.iconst 0, 1) := by decide +kernel
theorem dX2_reckon_298 : decode cX2_reckon 298 = .ok (.invokevirtual 77, 3) := by decide +kernel
theorem dX2_reckon_301 : decode cX2_reckon 301 = .ok (.goto 23, 3) := by decide +kernel
theorem dX2_reckon_304 : decode cX2_reckon 304 = .ok (.aload_n 0, 1) := by decide +kernel
theorem dX2_reckon_305 : decode cX2_reckon 305 = .ok (.invokevirtual 67, 3) := by decide +kernel
theorem dX2_reckon_308 : decode cX2_reckon 308 = .ok (.istore 5, 2) := by decide +kernel
theorem dX2_reckon_310 : decode cX2_reckon 310 = .ok (.aload_n 0, 1) := by decide +kernel
theorem dX2_reckon_311 : decode cX2_reckon 311 = .ok (.iload_n 3, 1) := by decide +kernel
theorem dX2_reckon_312 : decode cX2_reckon 312 = .ok (.aload_n 0, 1) := by decide +kernel
theorem dX2_reckon_313 : decode cX2_reckon 313 = .ok (.invokevirtual 67, 3) := by decide +kernel
theorem dX2_reckon_316 : decode cX2_reckon 316 = .ok (.iload 5, 2) := by decide +kernel
theorem dX2_reckon_318 : decode cX2_reckon 318 = .ok (.invokestatic 113, 3) := by decide +kernel
theorem dX2_reckon_321 : decode cX2_reckon 321 = .ok (.invokevirtual 77, 3) := by decide +kernel
theorem dX2_reckon_324 : decode cX2_reckon 324 = .ok (.return_, 1) := by decide +kernel
theorem dX2_combine_0 : decode cX2_combine 0 = .ok (.iload_n 0, 1) := by decide +kernel
theorem dX2_combine_1 : decode cX2_combine 1 = .ok (.lookupswitch 119 #[(42, 83), (43, 75), (45, 79), (47, 87), (306, 115), (324, 111), (325, 99), (326, 105)], 75) := by decide +kernel
theorem dX2_combine_76 : decode cX2_combine 76 = .ok (.iload_n 1, 1) := by decide +kernel
theorem dX2_combine_77 : decode cX2_combine 77 = .ok (.iload_n 2, 1) := by decide +kernel
theorem dX2_combine_78 : decode cX2_combine 78 = .ok (.iadd, 1) := by decide +kernel
theorem dX2_combine_79 : decode cX2_combine 79 = .ok (.ireturn, 1) := by decide +kernel
theorem dX2_combine_80 : decode cX2_combine 80 = .ok (.iload_n 1, 1) := by decide +kernel
theorem dX2_combine_81 : decode cX2_combine 81 = .ok (.iload_n 2, 1) := by decide +kernel
theorem dX2_combine_82 : decode cX2_combine 82 = .ok (.isub, 1) := by decide +kernel
theorem dX2_combine_83 : decode cX2_combine 83 = .ok (.ireturn, 1) := by decide +kernel
theorem dX2_combine_84 : decode cX2_combine 84 = .ok (.iload_n 1, 1) := by decide +kernel
theorem dX2_combine_85 : decode cX2_combine 85 = .ok (.iload_n 2, 1) := by decide +kernel
theorem dX2_combine_86 : decode cX2_combine 86 = .ok (.imul, 1) := by decide +kernel
theorem dX2_combine_87 : decode cX2_combine 87 = .ok (.ireturn, 1) := by decide +kernel
theorem dX2_combine_88 : decode cX2_combine 88 = .ok (.iload_n 2, 1) := by decide +kernel
theorem dX2_combine_89 : decode cX2_combine 89 = .ok (.ifCond .ne 7, 3) := by decide +kernel
theorem dX2_combine_92 : decode cX2_combine 92 = .ok (.iconst 0, 1) := by decide +kernel
theorem dX2_combine_93 : decode cX2_combine 93 = .ok (.goto 6, 3) := by decide +kernel
theorem dX2_combine_96 : decode cX2_combine 96 = .ok (.iload_n 1, 1) := by decide +kernel
theorem dX2_combine_97 : decode cX2_combine 97 = .ok (.iload_n 2, 1) := by decide +kernel
theorem dX2_combine_98 : decode cX2_combine 98 = .ok (.idiv, 1) := by decide +kernel
theorem dX2_combine_99 : decode cX2_combine 99 = .ok (.ireturn, 1) := by decide +kernel
theorem dX2_combine_100 : decode cX2_combine 100 = .ok (.iload_n 1, 1) := by decide +kernel
theorem dX2_combine_101 : decode cX2_combine 101 = .ok (.iload_n 2, 1) := by decide +kernel
theorem dX2_combine_102 : decode cX2_combine 102 = .ok (.invokestatic 117, 3) := by decide +kernel
theorem dX2_combine_105 : decode cX2_combine 105 = .ok (.ireturn, 1) := by decide +kernel
theorem dX2_combine_106 : decode cX2_combine 106 = .ok (.iload_n 1, 1) := by decide +kernel
theorem dX2_combine_107 : decode cX2_combine 107 = .ok (.iload_n 2, 1) := by decide +kernel
theorem dX2_combine_108 : decode cX2_combine 108 = .ok (.invokestatic 122, 3) := by decide +kernel
theorem dX2_combine_111 : decode cX2_combine 111 = .ok (.ireturn, 1) := by decide +kernel
theorem dX2_combine_112 : decode cX2_combine 112 = .ok (.iload_n 1, 1) := by decide +kernel
theorem dX2_combine_113 : decode cX2_combine 113 = .ok (.iload_n 2, 1) := by decide +kernel
theorem dX2_combine_114 : decode cX2_combine 114 = .ok (.iand, 1) := by decide +kernel
theorem dX2_combine_115 : decode cX2_combine 115 = .ok (.ireturn, 1) := by decide +kernel
theorem dX2_combine_116 : decode cX2_combine 116 = .ok (.iload_n 1, 1) := by decide +kernel
theorem dX2_combine_117 : decode cX2_combine 117 = .ok (.iload_n 2, 1) := by decide +kernel
theorem dX2_combine_118 : decode cX2_combine 118 = .ok (.ior, 1) := by decide +kernel
theorem dX2_combine_119 : decode cX2_combine 119 = .ok (.ireturn, 1) := by decide +kernel
theorem dX2_combine_120 : decode cX2_combine 120 = .ok (.iload_n 0, 1) := by decide +kernel
theorem dX2_combine_121 : decode cX2_combine 121 = .ok (.iload_n 1, 1) := by decide +kernel
theorem dX2_combine_122 : decode cX2_combine 122 = .ok (.iload_n 2, 1) := by decide +kernel
theorem dX2_combine_123 : decode cX2_combine 123 = .ok (.invokestatic 125, 3) := by decide +kernel
theorem dX2_combine_126 : decode cX2_combine 126 = .ok (.ifCond .eq 7, 3) := by decide +kernel
theorem dX2_combine_129 : decode cX2_combine 129 = .ok (.iconst 1, 1) := by decide +kernel
theorem dX2_combine_130 : decode cX2_combine 130 = .ok (.goto 4, 3) := by decide +kernel
theorem dX2_combine_133 : decode cX2_combine 133 = .ok (.iconst 0, 1) := by decide +kernel
theorem dX2_combine_134 : decode cX2_combine 134 = .ok (.ireturn, 1) := by decide +kernel
theorem dX2_compare_0 : decode cX2_compare 0 = .ok (.iload_n 0, 1) := by decide +kernel
theorem dX2_compare_1 : decode cX2_compare 1 = .ok (.lookupswitch 87 #[(60, 43), (62, 54), (256, 65), (257, 76)], 43) := by decide +kernel
theorem dX2_compare_44 : decode cX2_compare 44 = .ok (.iload_n 1, 1) := by decide +kernel
theorem dX2_compare_45 : decode cX2_compare 45 = .ok (.iload_n 2, 1) := by decide +kernel
theorem dX2_compare_46 : decode cX2_compare 46 = .ok (.if_icmp .ge 7, 3) := by decide +kernel
theorem dX2_compare_49 : decode cX2_compare 49 = .ok (.iconst 1, 1) := by decide +kernel
theorem dX2_compare_50 : decode cX2_compare 50 = .ok (.goto 4, 3) := by decide +kernel
theorem dX2_compare_53 : decode cX2_compare 53 = .ok (.iconst 0, 1) := by decide +kernel
theorem dX2_compare_54 : decode cX2_compare 54 = .ok (.ireturn, 1) := by decide +kernel
theorem dX2_compare_55 : decode cX2_compare 55 = .ok (.iload_n 1, 1) := by decide +kernel
theorem dX2_compare_56 : decode cX2_compare 56 = .ok (.iload_n 2, 1) := by decide +kernel
theorem dX2_compare_57 : decode cX2_compare 57 = .ok (.if_icmp .le 7, 3) := by decide +kernel
theorem dX2_compare_60 : decode cX2_compare 60 = .ok (.iconst 1, 1) := by decide +kernel
theorem dX2_compare_61 : decode cX2_compare 61 = .ok (.goto 4, 3) := by decide +kernel
theorem dX2_compare_64 : decode cX2_compare 64 = .ok (.iconst 0, 1) := by decide +kernel
theorem dX2_compare_65 : decode cX2_compare 65 = .ok (.ireturn, 1) := by decide +kernel
theorem dX2_compare_66 : decode cX2_compare 66 = .ok (.iload_n 1, 1) := by decide +kernel
theorem dX2_compare_67 : decode cX2_compare 67 = .ok (.iload_n 2, 1) := by decide +kernel
theorem dX2_compare_68 : decode cX2_compare 68 = .ok (.if_icmp .gt 7, 3) := by decide +kernel
theorem dX2_compare_71 : decode cX2_compare 71 = .ok (.iconst 1, 1) := by decide +kernel
theorem dX2_compare_72 : decode cX2_compare 72 = .ok (.goto 4, 3) := by decide +kernel
theorem dX2_compare_75 : decode cX2_compare 75 = .ok (.iconst 0, 1) := by decide +kernel
theorem dX2_compare_76 : decode cX2_compare 76 = .ok (.ireturn, 1) := by decide +kernel
theorem dX2_compare_77 : decode cX2_compare 77 = .ok (.iload_n 1, 1) := by decide +kernel
theorem dX2_compare_78 : decode cX2_compare 78 = .ok (.iload_n 2, 1) := by decide +kernel
theorem dX2_compare_79 : decode cX2_compare 79 = .ok (.if_icmp .lt 7, 3) := by decide +kernel
theorem dX2_compare_82 : decode cX2_compare 82 = .ok (.iconst 1, 1) := by decide +kernel
theorem dX2_compare_83 : decode cX2_compare 83 = .ok (.goto 4, 3) := by decide +kernel
theorem dX2_compare_86 : decode cX2_compare 86 = .ok (.iconst 0, 1) := by decide +kernel
theorem dX2_compare_87 : decode cX2_compare 87 = .ok (.ireturn, 1) := by decide +kernel
theorem dX2_compare_88 : decode cX2_compare 88 = .ok (.iload_n 1, 1) := by decide +kernel
theorem dX2_compare_89 : decode cX2_compare 89 = .ok (.iload_n 2, 1) := by decide +kernel
theorem dX2_compare_90 : decode cX2_compare 90 = .ok (.if_icmp .ne 7, 3) := by decide +kernel
theorem dX2_compare_93 : decode cX2_compare 93 = .ok (.iconst 1, 1) := by decide +kernel
theorem dX2_compare_94 : decode cX2_compare 94 = .ok (.goto 4, 3) := by decide +kernel
theorem dX2_compare_97 : decode cX2_compare 97 = .ok (.iconst 0, 1) := by decide +kernel
theorem dX2_compare_98 : decode cX2_compare 98 = .ok (.ireturn, 1) := by decide +kernel
theorem dX3_init_0 : decode cX3_init 0 = .ok (.aload_n 0, 1) := by decide +kernel
theorem dX3_init_1 : decode cX3_init 1 = .ok (.invokespecial 3, 3) := by decide +kernel
theorem dX3_init_4 : decode cX3_init 4 = .ok (.aload_n 0, 1) := by decide +kernel
theorem dX3_init_5 : decode cX3_init 5 = .ok (.bipush 16, 2) := by decide +kernel
theorem dX3_init_7 : decode cX3_init 7 = .ok (.newarray .long, 2) := by decide +kernel
theorem dX3_init_9 : decode cX3_init 9 = .ok (.putfield 11, 3) := by decide +kernel
theorem dX3_init_12 : decode cX3_init 12 = .ok (.aload_n 0, 1) := by decide +kernel
theorem dX3_init_13 : decode cX3_init 13 = .ok (.bipush 16, 2) := by decide +kernel
theorem dX3_init_15 : decode cX3_init 15 = .ok (.newarray .long, 2) := by decide +kernel
theorem dX3_init_17 : decode cX3_init 17 = .ok (.putfield 15, 3) := by decide +kernel
theorem dX3_init_20 : decode cX3_init 20 = .ok (.aload_n 0, 1) := by decide +kernel
theorem dX3_init_21 : decode cX3_init 21 = .ok (.sipush 320, 3) := by decide +kernel
theorem dX3_init_24 : decode cX3_init 24 = .ok (.newarray .long, 2) := by decide +kernel
theorem dX3_init_26 : decode cX3_init 26 = .ok (.putfield 18, 3) := by decide +kernel
theorem dX3_init_29 : decode cX3_init 29 = .ok (.aload_n 0, 1) := by decide +kernel
theorem dX3_init_30 : decode cX3_init 30 = .ok (.iconst 1, 1) := by decide +kernel
theorem dX3_init_31 : decode cX3_init 31 = .ok (.putfield 21, 3) := by decide +kernel
theorem dX3_init_34 : decode cX3_init 34 = .ok (.aload_n 0, 1) := by decide +kernel
theorem dX3_init_35 : decode cX3_init 35 = .ok (.iconst (-1), 1) := by decide +kernel
theorem dX3_init_36 : decode cX3_init 36 = .ok (.putfield 25, 3) := by decide +kernel
theorem dX3_init_39 : decode cX3_init 39 = .ok (.aload_n 0, 1) := by decide +kernel
theorem dX3_init_40 : decode cX3_init 40 = .ok (.aload_n 1, 1) := by decide +kernel
theorem dX3_init_41 : decode cX3_init 41 = .ok (.putfield 28, 3) := by decide +kernel
theorem dX3_init_44 : decode cX3_init 44 = .ok (.return_, 1) := by decide +kernel
theorem dX3_prepare_0 : decode cX3_prepare 0 = .ok (.aload_n 0, 1) := by decide +kernel
theorem dX3_prepare_1 : decode cX3_prepare 1 = .ok (.iconst (-1), 1) := by decide +kernel
theorem dX3_prepare_2 : decode cX3_prepare 2 = .ok (.putfield 25, 3) := by decide +kernel
theorem dX3_prepare_5 : decode cX3_prepare 5 = .ok (.aload_n 0, 1) := by decide +kernel
theorem dX3_prepare_6 : decode cX3_prepare 6 = .ok (.iconst 1, 1) := by decide +kernel
theorem dX3_prepare_7 : decode cX3_prepare 7 = .ok (.aload_n 0, 1) := by decide +kernel
theorem dX3_prepare_8 : decode cX3_prepare 8 = .ok (.getfield 28, 3) := by decide +kernel
theorem dX3_prepare_11 : decode cX3_prepare 11 = .ok (.getfield 32, 3) := by decide +kernel
theorem dX3_prepare_14 : decode cX3_prepare 14 = .ok (.bipush 6, 2) := by decide +kernel
theorem dX3_prepare_16 : decode cX3_prepare 16 = .ok (.isub, 1) := by decide +kernel
theorem dX3_prepare_17 : decode cX3_prepare 17 = .ok (.iconst 0, 1) := by decide +kernel
theorem dX3_prepare_18 : decode cX3_prepare 18 = .ok (.invokestatic 37, 3) := by decide +kernel
theorem dX3_prepare_21 : decode cX3_prepare 21 = .ok (.ishl, 1) := by decide +kernel
theorem dX3_prepare_22 : decode cX3_prepare 22 = .ok (.putfield 21, 3) := by decide +kernel
theorem dX3_prepare_25 : decode cX3_prepare 25 = .ok (.iconst 0, 1) := by decide +kernel
theorem dX3_prepare_26 : decode cX3_prepare 26 = .ok (.istore_n 1, 1) := by decide +kernel
theorem dX3_prepare_27 : decode cX3_prepare 27 = .ok (.iload_n 1, 1) := by decide +kernel
theorem dX3_prepare_28 : decode cX3_prepare 28 = .ok (.aload_n 0, 1) := by decide +kernel
theorem dX3_prepare_29 : decode cX3_prepare 29 = .ok (.getfield 28, 3) := by decide +kernel
theorem dX3_prepare_32 : decode cX3_prepare 32 = .ok (.getfield 43, 3) := by decide +kernel
theorem dX3_prepare_35 : decode cX3_prepare 35 = .ok (.if_icmp .ge 76, 3) := by decide +kernel
theorem dX3_prepare_38 : decode cX3_prepare 38 = .ok (.iconst 0, 1) := by decide +kernel
theorem dX3_prepare_39 : decode cX3_prepare 39 = .ok (.istore_n 2, 1) := by decide +kernel
theorem dX3_prepare_40 : decode cX3_prepare 40 = .ok (.iload_n 2, 1) := by decide +kernel
theorem dX3_prepare_41 : decode cX3_prepare 41 = .ok (.aload_n 0, 1) := by decide +kernel
theorem dX3_prepare_42 : decode cX3_prepare 42 = .ok (.getfield 21, 3) := by decide +kernel
theorem dX3_prepare_45 : decode cX3_prepare 45 = .ok (.if_icmp .ge 60, 3) := by decide +kernel
theorem dX3_prepare_48 : decode cX3_prepare 48 = .ok (.iload_n 1, 1) := by decide +kernel
theorem dX3_prepare_49 : decode cX3_prepare 49 = .ok (.bipush 16, 2) := by decide +kernel
theorem dX3_prepare_51 : decode cX3_prepare 51 = .ok (.imul, 1) := by decide +kernel
theorem dX3_prepare_52 : decode cX3_prepare 52 = .ok (.iload_n 2, 1) := by decide +kernel
theorem dX3_prepare_53 : decode cX3_prepare 53 = .ok (.iadd, 1) := by decide +kernel
theorem dX3_prepare_54 : decode cX3_prepare 54 = .ok (.istore_n 3, 1) := by decide +kernel
theorem dX3_prepare_55 : decode cX3_prepare 55 = .ok (.iload_n 3, 1) := by decide +kernel
theorem dX3_prepare_56 : decode cX3_prepare 56 = .ok (.ifCond .lt 43, 3) := by decide +kernel
theorem dX3_prepare_59 : decode cX3_prepare 59 = .ok (.iload_n 3, 1) := by decide +kernel
theorem dX3_prepare_60 : decode cX3_prepare 60 = .ok (.aload_n 0, 1) := by decide +kernel
theorem dX3_prepare_61 : decode cX3_prepare 61 = .ok (.getfield 18, 3) := by decide +kernel
theorem dX3_prepare_64 : decode cX3_prepare 64 = .ok (.arraylength, 1) := by decide +kernel
theorem dX3_prepare_65 : decode cX3_prepare 65 = .ok (.if_icmp .ge 34, 3) := by decide +kernel
theorem dX3_prepare_68 : decode cX3_prepare 68 = .ok (.aload_n 0, 1) := by decide +kernel
theorem dX3_prepare_69 : decode cX3_prepare 69 = .ok (.getfield 18, 3) := by decide +kernel
theorem dX3_prepare_72 : decode cX3_prepare 72 = .ok (.iload_n 3, 1) := by decide +kernel
theorem dX3_prepare_73 : decode cX3_prepare 73 = .ok (.aload_n 0, 1) := by decide +kernel
theorem dX3_prepare_74 : decode cX3_prepare 74 = .ok (.getfield 28, 3) := by decide +kernel
theorem dX3_prepare_77 : decode cX3_prepare 77 = .ok (.iload_n 1, 1) := by decide +kernel
theorem dX3_prepare_78 : decode cX3_prepare 78 = .ok (.invokevirtual 46, 3) := by decide +kernel
theorem dX3_prepare_81 : decode cX3_prepare 81 = .ok (.iload_n 2, 1) := by decide +kernel
theorem dX3_prepare_82 : decode cX3_prepare 82 = .ok (.invokestatic 50, 3) := by decide +kernel
theorem dX3_prepare_85 : decode cX3_prepare 85 = .ok (.aload_n 0, 1) := by decide +kernel
theorem dX3_prepare_86 : decode cX3_prepare 86 = .ok (.getfield 28, 3) := by decide +kernel
theorem dX3_prepare_89 : decode cX3_prepare 89 = .ok (.iload_n 1, 1) := by decide +kernel
theorem dX3_prepare_90 : decode cX3_prepare 90 = .ok (.invokevirtual 54, 3) := by decide +kernel
theorem dX3_prepare_93 : decode cX3_prepare 93 = .ok (.iload_n 2, 1) := by decide +kernel
theorem dX3_prepare_94 : decode cX3_prepare 94 = .ok (.invokestatic 50, 3) := by decide +kernel
theorem dX3_prepare_97 : decode cX3_prepare 97 = .ok (.lor, 1) := by decide +kernel
theorem dX3_prepare_98 : decode cX3_prepare 98 = .ok (.lastore, 1) := by decide +kernel
theorem dX3_prepare_99 : decode cX3_prepare 99 = .ok (.iinc 2 1, 3) := by decide +kernel
theorem dX3_prepare_102 : decode cX3_prepare 102 = .ok (.goto (-62), 3) := by decide +kernel
theorem dX3_prepare_105 : decode cX3_prepare 105 = .ok (.iinc 1 1, 3) := by decide +kernel
theorem dX3_prepare_108 : decode cX3_prepare 108 = .ok (.goto (-81), 3) := by decide +kernel
theorem dX3_prepare_111 : decode cX3_prepare 111 = .ok (.return_, 1) := by decide +kernel
theorem dX3_count_0 : decode cX3_count 0 = .ok (.aload_n 0, 1) := by decide +kernel
theorem dX3_count_1 : decode cX3_count 1 = .ok (.iload_n 1, 1) := by decide +kernel
theorem dX3_count_2 : decode cX3_count 2 = .ok (.invokevirtual 57, 3) := by decide +kernel
theorem dX3_count_5 : decode cX3_count 5 = .ok (.aload_n 0, 1) := by decide +kernel
theorem dX3_count_6 : decode cX3_count 6 = .ok (.getfield 61, 3) := by decide +kernel
theorem dX3_count_9 : decode cX3_count 9 = .ok (.ireturn, 1) := by decide +kernel
theorem dX3_countWith_0 : decode cX3_countWith 0 = .ok (.aload_n 0, 1) := by decide +kernel
theorem dX3_countWith_1 : decode cX3_countWith 1 = .ok (.iload_n 1, 1) := by decide +kernel
theorem dX3_countWith_2 : decode cX3_countWith 2 = .ok (.invokevirtual 57, 3) := by decide +kernel
theorem dX3_countWith_5 : decode cX3_countWith 5 = .ok (.iconst 0, 1) := by decide +kernel
theorem dX3_countWith_6 : decode cX3_countWith 6 = .ok (.istore_n 3, 1) := by decide +kernel
theorem dX3_countWith_7 : decode cX3_countWith 7 = .ok (.iconst 0, 1) := by decide +kernel
theorem dX3_countWith_8 : decode cX3_countWith 8 = .ok (.istore 4, 2) := by decide +kernel
theorem dX3_countWith_10 : decode cX3_countWith 10 = .ok (.iload 4, 2) := by decide +kernel
theorem dX3_countWith_12 : decode cX3_countWith 12 = .ok (.aload_n 0, 1) := by decide +kernel
theorem dX3_countWith_13 : decode cX3_countWith 13 = .ok (.getfield 21, 3) := by decide +kernel
theorem dX3_countWith_16 : decode cX3_countWith 16 = .ok (.if_icmp .ge 39, 3) := by decide +kernel
theorem dX3_countWith_19 : decode cX3_countWith 19 = .ok (.iload 4, 2) := by decide +kernel
theorem dX3_countWith_21 : decode cX3_countWith 21 = .ok (.aload_n 0, 1) := by decide +kernel
theorem dX3_countWith_22 : decode cX3_countWith 22 = .ok (.getfield 11, 3) := by decide +kernel
theorem dX3_countWith_25 : decode cX3_countWith 25 = .ok (.arraylength, 1) := by decide +kernel
theorem dX3_countWith_26 : decode cX3_countWith 26 = .ok (.if_icmp .ge 29, 3) := by decide +kernel
theorem dX3_countWith_29 : decode cX3_countWith 29 = .ok (.iload_n 3, 1) := by decide +kernel
theorem dX3_countWith_30 : decode cX3_countWith 30 = .ok (.aload_n 0, 1) := by decide +kernel
theorem dX3_countWith_31 : decode cX3_countWith 31 = .ok (.getfield 11, 3) := by decide +kernel
theorem dX3_countWith_34 : decode cX3_countWith 34 = .ok (.iload 4, 2) := by decide +kernel
theorem dX3_countWith_36 : decode cX3_countWith 36 = .ok (.laload, 1) := by decide +kernel
theorem dX3_countWith_37 : decode cX3_countWith 37 = .ok (.iload_n 2, 1) := by decide +kernel
theorem dX3_countWith_38 : decode cX3_countWith 38 = .ok (.iload 4, 2) := by decide +kernel
theorem dX3_countWith_40 : decode cX3_countWith 40 = .ok (.invokestatic 50, 3) := by decide +kernel
theorem dX3_countWith_43 : decode cX3_countWith 43 = .ok (.land, 1) := by decide +kernel
theorem dX3_countWith_44 : decode cX3_countWith 44 = .ok (.invokestatic 64, 3) := by decide +kernel
theorem dX3_countWith_47 : decode cX3_countWith 47 = .ok (.iadd, 1) := by decide +kernel
theorem dX3_countWith_48 : decode cX3_countWith 48 = .ok (.istore_n 3, 1) := by decide +kernel
theorem dX3_countWith_49 : decode cX3_countWith 49 = .ok (.iinc 4 1, 3) := by decide +kernel
theorem dX3_countWith_52 : decode cX3_countWith 52 = .ok (.goto (-42), 3) := by decide +kernel
theorem dX3_countWith_55 : decode cX3_countWith 55 = .ok (.iload_n 3, 1) := by decide +kernel
theorem dX3_countWith_56 : decode cX3_countWith 56 = .ok (.ireturn, 1) := by decide +kernel
theorem dX3_riders_0 : decode cX3_riders 0 = .ok (.aload_n 0, 1) := by decide +kernel
theorem dX3_riders_1 : decode cX3_riders 1 = .ok (.iload_n 1, 1) := by decide +kernel
theorem dX3_riders_2 : decode cX3_riders 2 = .ok (.invokevirtual 57, 3) := by decide +kernel
theorem dX3_riders_5 : decode cX3_riders 5 = .ok (.iconst 0, 1) := by decide +kernel
theorem dX3_riders_6 : decode cX3_riders 6 = .ok (.istore_n 2, 1) := by decide +kernel
theorem dX3_riders_7 : decode cX3_riders 7 = .ok (.iload_n 2, 1) := by decide +kernel
theorem dX3_riders_8 : decode cX3_riders 8 = .ok (.aload_n 0, 1) := by decide +kernel
theorem dX3_riders_9 : decode cX3_riders 9 = .ok (.getfield 21, 3) := by decide +kernel
theorem dX3_riders_12 : decode cX3_riders 12 = .ok (.if_icmp .ge 39, 3) := by decide +kernel
theorem dX3_riders_15 : decode cX3_riders 15 = .ok (.iload_n 2, 1) := by decide +kernel
theorem dX3_riders_16 : decode cX3_riders 16 = .ok (.aload_n 0, 1) := by decide +kernel
theorem dX3_riders_17 : decode cX3_riders 17 = .ok (.getfield 11, 3) := by decide +kernel
theorem dX3_riders_20 : decode cX3_riders 20 = .ok (.arraylength, 1) := by decide +kernel
theorem dX3_riders_21 : decode cX3_riders 21 = .ok (.if_icmp .ge 30, 3) := by decide +kernel
theorem dX3_riders_24 : decode cX3_riders 24 = .ok (.iload_n 2, 1) := by decide +kernel
theorem dX3_riders_25 : decode cX3_riders 25 = .ok (.aload_n 0, 1) := by decide +kernel
theorem dX3_riders_26 : decode cX3_riders 26 = .ok (.getfield 15, 3) := by decide +kernel
theorem dX3_riders_29 : decode cX3_riders 29 = .ok (.arraylength, 1) := by decide +kernel
theorem dX3_riders_30 : decode cX3_riders 30 = .ok (.if_icmp .ge 21, 3) := by decide +kernel
theorem dX3_riders_33 : decode cX3_riders 33 = .ok (.aload_n 0, 1) := by decide +kernel
theorem dX3_riders_34 : decode cX3_riders 34 = .ok (.getfield 15, 3) := by decide +kernel
theorem dX3_riders_37 : decode cX3_riders 37 = .ok (.iload_n 2, 1) := by decide +kernel
theorem dX3_riders_38 : decode cX3_riders 38 = .ok (.aload_n 0, 1) := by decide +kernel
theorem dX3_riders_39 : decode cX3_riders 39 = .ok (.getfield 11, 3) := by decide +kernel
theorem dX3_riders_42 : decode cX3_riders 42 = .ok (.iload_n 2, 1) := by decide +kernel
theorem dX3_riders_43 : decode cX3_riders 43 = .ok (.laload, 1) := by decide +kernel
theorem dX3_riders_44 : decode cX3_riders 44 = .ok (.lastore, 1) := by decide +kernel
theorem dX3_riders_45 : decode cX3_riders 45 = .ok (.iinc 2 1, 3) := by decide +kernel
theorem dX3_riders_48 : decode cX3_riders 48 = .ok (.goto (-41), 3) := by decide +kernel
theorem dX3_riders_51 : decode cX3_riders 51 = .ok (.iconst 0, 1) := by decide +kernel
theorem dX3_riders_52 : decode cX3_riders 52 = .ok (.istore_n 2, 1) := by decide +kernel
theorem dX3_riders_53 : decode cX3_riders 53 = .ok (.iconst 0, 1) := by decide +kernel
theorem dX3_riders_54 : decode cX3_riders 54 = .ok (.istore_n 3, 1) := by decide +kernel
theorem dX3_riders_55 : decode cX3_riders 55 = .ok (.iload_n 3, 1) := by decide +kernel
theorem dX3_riders_56 : decode cX3_riders 56 = .ok (.aload_n 0, 1) := by decide +kernel
theorem dX3_riders_57 : decode cX3_riders 57 = .ok (.getfield 28, 3) := by decide +kernel
theorem dX3_riders_60 : decode cX3_riders 60 = .ok (.getfield 32, 3) := by decide +kernel
theorem dX3_riders_63 : decode cX3_riders 63 = .ok (.if_icmp .ge 23, 3) := by decide +kernel
theorem dX3_riders_66 : decode cX3_riders 66 = .ok (.aload_n 0, 1) := by decide +kernel
theorem dX3_riders_67 : decode cX3_riders 67 = .ok (.iload_n 3, 1) := by decide +kernel
theorem dX3_riders_68 : decode cX3_riders 68 = .ok (.invokevirtual 70, 3) := by decide +kernel
theorem dX3_riders_71 : decode cX3_riders 71 = .ok (.ifCond .eq 9, 3) := by decide +kernel
theorem dX3_riders_74 : decode cX3_riders 74 = .ok (.iload_n 2, 1) := by decide +kernel
theorem dX3_riders_75 : decode cX3_riders 75 = .ok (.iload_n 3, 1) := by decide +kernel
theorem dX3_riders_76 : decode cX3_riders 76 = .ok (.invokestatic 74, 3) := by decide +kernel
theorem dX3_riders_79 : decode cX3_riders 79 = .ok (.istore_n 2, 1) := by decide +kernel
theorem dX3_riders_80 : decode cX3_riders 80 = .ok (.iinc 3 1, 3) := by decide +kernel
theorem dX3_riders_83 : decode cX3_riders 83 = .ok (.goto (-28), 3) := by decide +kernel
theorem dX3_riders_86 : decode cX3_riders 86 = .ok (.iload_n 2, 1) := by decide +kernel
theorem dX3_riders_87 : decode cX3_riders 87 = .ok (.ireturn, 1) := by decide +kernel
theorem dX3_fewestNotHolding_0 : decode cX3_fewestNotHolding 0 = .ok (.iconst 3, 1) := by decide +kernel
theorem dX3_fewestNotHolding_1 : decode cX3_fewestNotHolding 1 = .ok (.istore_n 2, 1) := by decide +kernel
theorem dX3_fewestNotHolding_2 : decode cX3_fewestNotHolding 2 = .ok (.iconst 0, 1) := by decide +kernel
theorem dX3_fewestNotHolding_3 : decode cX3_fewestNotHolding 3 = .ok (.istore_n 3, 1) := by decide +kernel
theorem dX3_fewestNotHolding_4 : decode cX3_fewestNotHolding 4 = .ok (.iload_n 3, 1) := by decide +kernel
theorem dX3_fewestNotHolding_5 : decode cX3_fewestNotHolding 5 = .ok (.aload_n 0, 1) := by decide +kernel
theorem dX3_fewestNotHolding_6 : decode cX3_fewestNotHolding 6 = .ok (.getfield 21, 3) := by decide +kernel
theorem dX3_fewestNotHolding_9 : decode cX3_fewestNotHolding 9 = .ok (.if_icmp .ge 20, 3) := by decide +kernel
theorem dX3_fewestNotHolding_12 : decode cX3_fewestNotHolding 12 = .ok (.iload_n 2, 1) := by decide +kernel
theorem dX3_fewestNotHolding_13 : decode cX3_fewestNotHolding 13 = .ok (.aload_n 0, 1) := by decide +kernel
theorem dX3_fewestNotHolding_14 : decode cX3_fewestNotHolding 14 = .ok (.iload_n 3, 1) := by decide +kernel
theorem dX3_fewestNotHolding_15 : decode cX3_fewestNotHolding 15 = .ok (.iload_n 1, 1) := by decide +kernel
theorem dX3_fewestNotHolding_16 : decode cX3_fewestNotHolding 16 = .ok (.invokevirtual 77, 3) := by decide +kernel
theorem dX3_fewestNotHolding_19 : decode cX3_fewestNotHolding 19 = .ok (.invokestatic 80, 3) := by decide +kernel
theorem dX3_fewestNotHolding_22 : decode cX3_fewestNotHolding 22 = .ok (.istore_n 2, 1) := by decide +kernel
theorem dX3_fewestNotHolding_23 : decode cX3_fewestNotHolding 23 = .ok (.iinc 3 1, 3) := by decide +kernel
theorem dX3_fewestNotHolding_26 : decode cX3_fewestNotHolding 26 = .ok (.goto (-22), 3) := by decide +kernel
theorem dX3_fewestNotHolding_29 : decode cX3_fewestNotHolding 29 = .ok (.iload_n 2, 1) := by decide +kernel
theorem dX3_fewestNotHolding_30 : decode cX3_fewestNotHolding 30 = .ok (.iconst 2, 1) := by decide +kernel
theorem dX3_fewestNotHolding_31 : decode cX3_fewestNotHolding 31 = .ok (.if_icmp .le 7, 3) := by decide +kernel
theorem dX3_fewestNotHolding_34 : decode cX3_fewestNotHolding 34 = .ok (.iconst (-1), 1) := by decide +kernel
theorem dX3_fewestNotHolding_35 : decode cX3_fewestNotHolding 35 = .ok (.goto 4, 3) := by decide +kernel
theorem dX3_fewestNotHolding_38 : decode cX3_fewestNotHolding 38 = .ok (.iload_n 2, 1) := by decide +kernel
theorem dX3_fewestNotHolding_39 : decode cX3_fewestNotHolding 39 = .ok (.ireturn, 1) := by decide +kernel
theorem dX3_fewestNotHoldingIn_0 : decode cX3_fewestNotHoldingIn 0 = .ok (.aload_n 0, 1) := by decide +kernel
theorem dX3_fewestNotHoldingIn_1 : decode cX3_fewestNotHoldingIn 1 = .ok (.iload_n 1, 1) := by decide +kernel
theorem dX3_fewestNotHoldingIn_2 : decode cX3_fewestNotHoldingIn 2 = .ok (.invokevirtual 83, 3) := by decide +kernel
theorem dX3_fewestNotHoldingIn_5 : decode cX3_fewestNotHoldingIn 5 = .ok (.lstore_n 3, 1) := by decide +kernel
theorem dX3_fewestNotHoldingIn_6 : decode cX3_fewestNotHoldingIn 6 = .ok (.lload_n 3, 1) := by decide +kernel
theorem dX3_fewestNotHoldingIn_7 : decode cX3_fewestNotHoldingIn 7 = .ok (.lstore 5, 2) := by decide +kernel
theorem dX3_fewestNotHoldingIn_9 : decode cX3_fewestNotHoldingIn 9 = .ok (.lload_n 3, 1) := by decide +kernel
theorem dX3_fewestNotHoldingIn_10 : decode cX3_fewestNotHoldingIn 10 = .ok (.lstore 7, 2) := by decide +kernel
theorem dX3_fewestNotHoldingIn_12 : decode cX3_fewestNotHoldingIn 12 = .ok (.iconst 0, 1) := by decide +kernel
theorem dX3_fewestNotHoldingIn_13 : decode cX3_fewestNotHoldingIn 13 = .ok (.istore 9, 2) := by decide +kernel
theorem dX3_fewestNotHoldingIn_15 : decode cX3_fewestNotHoldingIn 15 = .ok (.iload 9, 2) := by decide +kernel
theorem dX3_fewestNotHoldingIn_17 : decode cX3_fewestNotHoldingIn 17 = .ok (.aload_n 0, 1) := by decide +kernel
theorem dX3_fewestNotHoldingIn_18 : decode cX3_fewestNotHoldingIn 18 = .ok (.getfield 28, 3) := by decide +kernel
theorem dX3_fewestNotHoldingIn_21 : decode cX3_fewestNotHoldingIn 21 = .ok (.getfield 43, 3) := by decide +kernel
theorem dX3_fewestNotHoldingIn_24 : decode cX3_fewestNotHoldingIn 24 = .ok (.if_icmp .ge 51, 3) := by decide +kernel
theorem dX3_fewestNotHoldingIn_27 : decode cX3_fewestNotHoldingIn 27 = .ok (.iload_n 2, 1) := by decide +kernel
theorem dX3_fewestNotHoldingIn_28 : decode cX3_fewestNotHoldingIn 28 = .ok (.iload 9, 2) := by decide +kernel
theorem dX3_fewestNotHoldingIn_30 : decode cX3_fewestNotHoldingIn 30 = .ok (.invokestatic 87, 3) := by decide +kernel
theorem dX3_fewestNotHoldingIn_33 : decode cX3_fewestNotHoldingIn 33 = .ok (.ifCond .eq 36, 3) := by decide +kernel
theorem dX3_fewestNotHoldingIn_36 : decode cX3_fewestNotHoldingIn 36 = .ok (.aload_n 0, 1) := by decide +kernel
theorem dX3_fewestNotHoldingIn_37 : decode cX3_fewestNotHoldingIn 37 = .ok (.iload 9, 2) := by decide +kernel
theorem dX3_fewestNotHoldingIn_39 : decode cX3_fewestNotHoldingIn 39 = .ok (.iload_n 1, 1) := by decide +kernel
theorem dX3_fewestNotHoldingIn_40 : decode cX3_fewestNotHoldingIn 40 = .ok (.invokevirtual 91, 3) := by decide +kernel
theorem dX3_fewestNotHoldingIn_43 : decode cX3_fewestNotHoldingIn 43 = .ok (.lstore 10, 2) := by decide +kernel
theorem dX3_fewestNotHoldingIn_45 : decode cX3_fewestNotHoldingIn 45 = .ok (.lload 7, 2) := by decide +kernel
theorem dX3_fewestNotHoldingIn_47 : decode cX3_fewestNotHoldingIn 47 = .ok (.lload 10, 2) := by decide +kernel
theorem dX3_fewestNotHoldingIn_49 : decode cX3_fewestNotHoldingIn 49 = .ok (.land, 1) := by decide +kernel
theorem dX3_fewestNotHoldingIn_50 : decode cX3_fewestNotHoldingIn 50 = .ok (.lload 5, 2) := by decide +kernel
theorem dX3_fewestNotHoldingIn_52 : decode cX3_fewestNotHoldingIn 52 = .ok (.lor, 1) := by decide +kernel
theorem dX3_fewestNotHoldingIn_53 : decode cX3_fewestNotHoldingIn 53 = .ok (.lstore 7, 2) := by decide +kernel
theorem dX3_fewestNotHoldingIn_55 : decode cX3_fewestNotHoldingIn 55 = .ok (.lload 5, 2) := by decide +kernel
theorem dX3_fewestNotHoldingIn_57 : decode cX3_fewestNotHoldingIn 57 = .ok (.lload 10, 2) := by decide +kernel
theorem dX3_fewestNotHoldingIn_59 : decode cX3_fewestNotHoldingIn 59 = .ok (.land, 1) := by decide +kernel
theorem dX3_fewestNotHoldingIn_60 : decode cX3_fewestNotHoldingIn 60 = .ok (.lload_n 3, 1) := by decide +kernel
theorem dX3_fewestNotHoldingIn_61 : decode cX3_fewestNotHoldingIn 61 = .ok (.lor, 1) := by decide +kernel
theorem dX3_fewestNotHoldingIn_62 : decode cX3_fewestNotHoldingIn 62 = .ok (.lstore 5, 2) := by decide +kernel
theorem dX3_fewestNotHoldingIn_64 : decode cX3_fewestNotHoldingIn 64 = .ok (.lload_n 3, 1) := by decide +kernel
theorem dX3_fewestNotHoldingIn_65 : decode cX3_fewestNotHoldingIn 65 = .ok (.lload 10, 2) := by decide +kernel
theorem dX3_fewestNotHoldingIn_67 : decode cX3_fewestNotHoldingIn 67 = .ok (.land, 1) := by decide +kernel
theorem dX3_fewestNotHoldingIn_68 : decode cX3_fewestNotHoldingIn 68 = .ok (.lstore_n 3, 1) := by decide +kernel
theorem dX3_fewestNotHoldingIn_69 : decode cX3_fewestNotHoldingIn 69 = .ok (.iinc 9 1, 3) := by decide +kernel
theorem dX3_fewestNotHoldingIn_72 : decode cX3_fewestNotHoldingIn 72 = .ok (.goto (-57), 3) := by decide +kernel
theorem dX3_fewestNotHoldingIn_75 : decode cX3_fewestNotHoldingIn 75 = .ok (.lload_n 3, 1) := by decide +kernel
theorem dX3_fewestNotHoldingIn_76 : decode cX3_fewestNotHoldingIn 76 = .ok (.lconst 0, 1) := by decide +kernel
theorem dX3_fewestNotHoldingIn_77 : decode cX3_fewestNotHoldingIn 77 = .ok (.lcmp, 1) := by decide +kernel
theorem dX3_fewestNotHoldingIn_78 : decode cX3_fewestNotHoldingIn 78 = .ok (.ifCond .eq 5, 3) := by decide +kernel
theorem dX3_fewestNotHoldingIn_81 : decode cX3_fewestNotHoldingIn 81 = .ok (.iconst 0, 1) := by decide +kernel
theorem dX3_fewestNotHoldingIn_82 : decode cX3_fewestNotHoldingIn 82 = .ok (.ireturn, 1) := by decide +kernel
theorem dX3_fewestNotHoldingIn_83 : decode cX3_fewestNotHoldingIn 83 = .ok (.lload 5, 2) := by decide +kernel
theorem dX3_fewestNotHoldingIn_85 : decode cX3_fewestNotHoldingIn 85 = .ok (.lconst 0, 1) := by decide +kernel
theorem dX3_fewestNotHoldingIn_86 : decode cX3_fewestNotHoldingIn 86 = .ok (.lcmp, 1) := by decide +kernel
theorem dX3_fewestNotHoldingIn_87 : decode cX3_fewestNotHoldingIn 87 = .ok (.ifCond .eq 5, 3) := by decide +kernel
theorem dX3_fewestNotHoldingIn_90 : decode cX3_fewestNotHoldingIn 90 = .ok (.iconst 1, 1) := by decide +kernel
theorem dX3_fewestNotHoldingIn_91 : decode cX3_fewestNotHoldingIn 91 = .ok (.ireturn, 1) := by decide +kernel
theorem dX3_fewestNotHoldingIn_92 : decode cX3_fewestNotHoldingIn 92 = .ok (.lload 7, 2) := by decide +kernel
theorem dX3_fewestNotHoldingIn_94 : decode cX3_fewestNotHoldingIn 94 = .ok (.lconst 0, 1) := by decide +kernel
theorem dX3_fewestNotHoldingIn_95 : decode cX3_fewestNotHoldingIn 95 = .ok (.lcmp, 1) := by decide +kernel
theorem dX3_fewestNotHoldingIn_96 : decode cX3_fewestNotHoldingIn 96 = .ok (.ifCond .eq 7, 3) := by decide +kernel
theorem dX3_fewestNotHoldingIn_99 : decode cX3_fewestNotHoldingIn 99 = .ok (.iconst 2, 1) := by decide +kernel
theorem dX3_fewestNotHoldingIn_100 : decode cX3_fewestNotHoldingIn 100 = .ok (.goto 4, 3) := by decide +kernel
theorem dX3_fewestNotHoldingIn_103 : decode cX3_fewestNotHoldingIn 103 = .ok (.iconst 3, 1) := by decide +kernel
theorem dX3_fewestNotHoldingIn_104 : decode cX3_fewestNotHoldingIn 104 = .ok (.ireturn, 1) := by decide +kernel
theorem dX3_narrow_0 : decode cX3_narrow 0 = .ok (.lconst 0, 1) := by decide +kernel
theorem dX3_narrow_1 : decode cX3_narrow 1 = .ok (.lstore_n 2, 1) := by decide +kernel
theorem dX3_narrow_2 : decode cX3_narrow 2 = .ok (.iconst 0, 1) := by decide +kernel
theorem dX3_narrow_3 : decode cX3_narrow 3 = .ok (.istore 4, 2) := by decide +kernel
theorem dX3_narrow_5 : decode cX3_narrow 5 = .ok (.iload 4, 2) := by decide +kernel
theorem dX3_narrow_7 : decode cX3_narrow 7 = .ok (.aload_n 0, 1) := by decide +kernel
theorem dX3_narrow_8 : decode cX3_narrow 8 = .ok (.getfield 21, 3) := by decide +kernel
theorem dX3_narrow_11 : decode cX3_narrow 11 = .ok (.if_icmp .ge 38, 3) := by decide +kernel
theorem dX3_narrow_14 : decode cX3_narrow 14 = .ok (.iload 4, 2) := by decide +kernel
theorem dX3_narrow_16 : decode cX3_narrow 16 = .ok (.aload_n 0, 1) := by decide +kernel
theorem dX3_narrow_17 : decode cX3_narrow 17 = .ok (.getfield 15, 3) := by decide +kernel
theorem dX3_narrow_20 : decode cX3_narrow 20 = .ok (.arraylength, 1) := by decide +kernel
theorem dX3_narrow_21 : decode cX3_narrow 21 = .ok (.if_icmp .ge 28, 3) := by decide +kernel
theorem dX3_narrow_24 : decode cX3_narrow 24 = .ok (.lload_n 2, 1) := by decide +kernel
theorem dX3_narrow_25 : decode cX3_narrow 25 = .ok (.aload_n 0, 1) := by decide +kernel
theorem dX3_narrow_26 : decode cX3_narrow 26 = .ok (.getfield 15, 3) := by decide +kernel
theorem dX3_narrow_29 : decode cX3_narrow 29 = .ok (.iload 4, 2) := by decide +kernel
theorem dX3_narrow_31 : decode cX3_narrow 31 = .ok (.laload, 1) := by decide +kernel
theorem dX3_narrow_32 : decode cX3_narrow 32 = .ok (.iconst 2, 1) := by decide +kernel
theorem dX3_narrow_33 : decode cX3_narrow 33 = .ok (.iload_n 1, 1) := by decide +kernel
theorem dX3_narrow_34 : decode cX3_narrow 34 = .ok (.imul, 1) := by decide +kernel
theorem dX3_narrow_35 : decode cX3_narrow 35 = .ok (.iload 4, 2) := by decide +kernel
theorem dX3_narrow_37 : decode cX3_narrow 37 = .ok (.invokestatic 50, 3) := by decide +kernel
theorem dX3_narrow_40 : decode cX3_narrow 40 = .ok (.land, 1) := by decide +kernel
theorem dX3_narrow_41 : decode cX3_narrow 41 = .ok (.lor, 1) := by decide +kernel
theorem dX3_narrow_42 : decode cX3_narrow 42 = .ok (.lstore_n 2, 1) := by decide +kernel
theorem dX3_narrow_43 : decode cX3_narrow 43 = .ok (.iinc 4 1, 3) := by decide +kernel
theorem dX3_narrow_46 : decode cX3_narrow 46 = .ok (.goto (-41), 3) := by decide +kernel
theorem dX3_narrow_49 : decode cX3_narrow 49 = .ok (.lload_n 2, 1) := by decide +kernel
theorem dX3_narrow_50 : decode cX3_narrow 50 = .ok (.lconst 0, 1) := by decide +kernel
theorem dX3_narrow_51 : decode cX3_narrow 51 = .ok (.lcmp, 1) := by decide +kernel
theorem dX3_narrow_52 : decode cX3_narrow 52 = .ok (.ifCond .ne 5, 3) := by decide +kernel
theorem dX3_narrow_55 : decode cX3_narrow 55 = .ok (.iconst 0, 1) := by decide +kernel
theorem dX3_narrow_56 : decode cX3_narrow 56 = .ok (.ireturn, 1) := by decide +kernel
theorem dX3_narrow_57 : decode cX3_narrow 57 = .ok (.iconst 0, 1) := by decide +kernel
theorem dX3_narrow_58 : decode cX3_narrow 58 = .ok (.istore 4, 2) := by decide +kernel
theorem dX3_narrow_60 : decode cX3_narrow 60 = .ok (.iload 4, 2) := by decide +kernel
theorem dX3_narrow_62 : decode cX3_narrow 62 = .ok (.aload_n 0, 1) := by decide +kernel
theorem dX3_narrow_63 : decode cX3_narrow 63 = .ok (.getfield 21, 3) := by decide +kernel
theorem dX3_narrow_66 : decode cX3_narrow 66 = .ok (.if_icmp .ge 37, 3) := by decide +kernel
theorem dX3_narrow_69 : decode cX3_narrow 69 = .ok (.iload 4, 2) := by decide +kernel
theorem dX3_narrow_71 : decode cX3_narrow 71 = .ok (.aload_n 0, 1) := by decide +kernel
theorem dX3_narrow_72 : decode cX3_narrow 72 = .ok (.getfield 15, 3) := by decide +kernel
theorem dX3_narrow_75 : decode cX3_narrow 75 = .ok (.arraylength, 1) := by decide +kernel
theorem dX3_narrow_76 : decode cX3_narrow 76 = .ok (.if_icmp .ge 27, 3) := by decide +kernel
theorem dX3_narrow_79 : decode cX3_narrow 79 = .ok (.aload_n 0, 1) := by decide +kernel
theorem dX3_narrow_80 : decode cX3_narrow 80 = .ok (.getfield 15, 3) := by decide +kernel
theorem dX3_narrow_83 : decode cX3_narrow 83 = .ok (.iload 4, 2) := by decide +kernel
theorem dX3_narrow_85 : decode cX3_narrow 85 = .ok (.dup2, 1) := by decide +kernel
theorem dX3_narrow_86 : decode cX3_narrow 86 = .ok (.laload, 1) := by decide +kernel
theorem dX3_narrow_87 : decode cX3_narrow 87 = .ok (.iconst 2, 1) := by decide +kernel
theorem dX3_narrow_88 : decode cX3_narrow 88 = .ok (.iload_n 1, 1) := by decide +kernel
theorem dX3_narrow_89 : decode cX3_narrow 89 = .ok (.imul, 1) := by decide +kernel
theorem dX3_narrow_90 : decode cX3_narrow 90 = .ok (.iload 4, 2) := by decide +kernel
theorem dX3_narrow_92 : decode cX3_narrow 92 = .ok (.invokestatic 50, 3) := by decide +kernel
theorem dX3_narrow_95 : decode cX3_narrow 95 = .ok (.land, 1) := by decide +kernel
theorem dX3_narrow_96 : decode cX3_narrow 96 = .ok (.lastore, 1) := by decide +kernel
theorem dX3_narrow_97 : decode cX3_narrow 97 = .ok (.iinc 4 1, 3) := by decide +kernel
theorem dX3_narrow_100 : decode cX3_narrow 100 = .ok (.goto (-40), 3) := by decide +kernel
theorem dX3_narrow_103 : decode cX3_narrow 103 = .ok (.iconst 1, 1) := by decide +kernel
theorem dX3_narrow_104 : decode cX3_narrow 104 = .ok (.ireturn, 1) := by decide +kernel
theorem dX3_look_0 : decode cX3_look 0 = .ok (.iload_n 1, 1) := by decide +kernel
theorem dX3_look_1 : decode cX3_look 1 = .ok (.aload_n 0, 1) := by decide +kernel
theorem dX3_look_2 : decode cX3_look 2 = .ok (.getfield 25, 3) := by decide +kernel
theorem dX3_look_5 : decode cX3_look 5 = .ok (.if_icmp .ne 4, 3) := by decide +kernel
theorem dX3_look_8 : decode cX3_look 8 = .ok (.return_, 1) := by decide +kernel
theorem dX3_look_9 : decode cX3_look 9 = .ok (.aload_n 0, 1) := by decide +kernel
theorem dX3_look_10 : decode cX3_look 10 = .ok (.iload_n 1, 1) := by decide +kernel
theorem dX3_look_11 : decode cX3_look 11 = .ok (.putfield 25, 3) := by decide +kernel
theorem dX3_look_14 : decode cX3_look 14 = .ok (.aload_n 0, 1) := by decide +kernel
theorem dX3_look_15 : decode cX3_look 15 = .ok (.iconst 0, 1) := by decide +kernel
theorem dX3_look_16 : decode cX3_look 16 = .ok (.putfield 61, 3) := by decide +kernel
theorem dX3_look_19 : decode cX3_look 19 = .ok (.iconst 0, 1) := by decide +kernel
theorem dX3_look_20 : decode cX3_look 20 = .ok (.istore_n 2, 1) := by decide +kernel
theorem dX3_look_21 : decode cX3_look 21 = .ok (.iload_n 2, 1) := by decide +kernel
theorem dX3_look_22 : decode cX3_look 22 = .ok (.aload_n 0, 1) := by decide +kernel
theorem dX3_look_23 : decode cX3_look 23 = .ok (.getfield 21, 3) := by decide +kernel
theorem dX3_look_26 : decode cX3_look 26 = .ok (.if_icmp .ge 84, 3) := by decide +kernel
theorem dX3_look_29 : decode cX3_look 29 = .ok (.iload_n 2, 1) := by decide +kernel
theorem dX3_look_30 : decode cX3_look 30 = .ok (.aload_n 0, 1) := by decide +kernel
theorem dX3_look_31 : decode cX3_look 31 = .ok (.getfield 11, 3) := by decide +kernel
theorem dX3_look_34 : decode cX3_look 34 = .ok (.arraylength, 1) := by decide +kernel
theorem dX3_look_35 : decode cX3_look 35 = .ok (.if_icmp .ge 75, 3) := by decide +kernel
theorem dX3_look_38 : decode cX3_look 38 = .ok (.aload_n 0, 1) := by decide +kernel
theorem dX3_look_39 : decode cX3_look 39 = .ok (.iload_n 2, 1) := by decide +kernel
theorem dX3_look_40 : decode cX3_look 40 = .ok (.invokevirtual 83, 3) := by decide +kernel
theorem dX3_look_43 : decode cX3_look 43 = .ok (.lstore_n 3, 1) := by decide +kernel
theorem dX3_look_44 : decode cX3_look 44 = .ok (.iconst 0, 1) := by decide +kernel
theorem dX3_look_45 : decode cX3_look 45 = .ok (.istore 5, 2) := by decide +kernel
theorem dX3_look_47 : decode cX3_look 47 = .ok (.iload 5, 2) := by decide +kernel
theorem dX3_look_49 : decode cX3_look 49 = .ok (.aload_n 0, 1) := by decide +kernel
theorem dX3_look_50 : decode cX3_look 50 = .ok (.getfield 28, 3) := by decide +kernel
theorem dX3_look_53 : decode cX3_look 53 = .ok (.getfield 43, 3) := by decide +kernel
theorem dX3_look_56 : decode cX3_look 56 = .ok (.if_icmp .ge 28, 3) := by decide +kernel
theorem dX3_look_59 : decode cX3_look 59 = .ok (.iload_n 1, 1) := by decide +kernel
theorem dX3_look_60 : decode cX3_look 60 = .ok (.iload 5, 2) := by decide +kernel
theorem dX3_look_62 : decode cX3_look 62 = .ok (.invokestatic 87, 3) := by decide +kernel
theorem dX3_look_65 : decode cX3_look 65 = .ok (.ifCond .eq 13, 3) := by decide +kernel
theorem dX3_look_68 : decode cX3_look 68 = .ok (.lload_n 3, 1) := by decide +kernel
theorem dX3_look_69 : decode cX3_look 69 = .ok (.aload_n 0, 1) := by decide +kernel
theorem dX3_look_70 : decode cX3_look 70 = .ok (.iload 5, 2) := by decide +kernel
theorem dX3_look_72 : decode cX3_look 72 = .ok (.iload_n 2, 1) := by decide +kernel
theorem dX3_look_73 : decode cX3_look 73 = .ok (.invokevirtual 91, 3) := by decide +kernel
theorem dX3_look_76 : decode cX3_look 76 = .ok (.land, 1) := by decide +kernel
theorem dX3_look_77 : decode cX3_look 77 = .ok (.lstore_n 3, 1) := by decide +kernel
theorem dX3_look_78 : decode cX3_look 78 = .ok (.iinc 5 1, 3) := by decide +kernel
theorem dX3_look_81 : decode cX3_look 81 = .ok (.goto (-34), 3) := by decide +kernel
theorem dX3_look_84 : decode cX3_look 84 = .ok (.aload_n 0, 1) := by decide +kernel
theorem dX3_look_85 : decode cX3_look 85 = .ok (.getfield 11, 3) := by decide +kernel
theorem dX3_look_88 : decode cX3_look 88 = .ok (.iload_n 2, 1) := by decide +kernel
theorem dX3_look_89 : decode cX3_look 89 = .ok (.lload_n 3, 1) := by decide +kernel
theorem dX3_look_90 : decode cX3_look 90 = .ok (.lastore, 1) := by decide +kernel
theorem dX3_look_91 : decode cX3_look 91 = .ok (.aload_n 0, 1) := by decide +kernel
theorem dX3_look_92 : decode cX3_look 92 = .ok (.dup, 1) := by decide +kernel
theorem dX3_look_93 : decode cX3_look 93 = .ok (.getfield 61, 3) := by decide +kernel
theorem dX3_look_96 : decode cX3_look 96 = .ok (.lload_n 3, 1) := by decide +kernel
theorem dX3_look_97 : decode cX3_look 97 = .ok (.invokestatic 64, 3) := by decide +kernel
theorem dX3_look_100 : decode cX3_look 100 = .ok (.iadd, 1) := by decide +kernel
theorem dX3_look_101 : decode cX3_look 101 = .ok (.putfield 61, 3) := by decide +kernel
theorem dX3_look_104 : decode cX3_look 104 = .ok (.iinc 2 1, 3) := by decide +kernel
theorem dX3_look_107 : decode cX3_look 107 = .ok (.goto (-86), 3) := by decide +kernel
theorem dX3_look_110 : decode cX3_look 110 = .ok (.return_, 1) := by decide +kernel
theorem dX3_row_0 : decode cX3_row 0 = .ok (.iload_n 1, 1) := by decide +kernel
theorem dX3_row_1 : decode cX3_row 1 = .ok (.bipush 16, 2) := by decide +kernel
theorem dX3_row_3 : decode cX3_row 3 = .ok (.imul, 1) := by decide +kernel
theorem dX3_row_4 : decode cX3_row 4 = .ok (.iload_n 2, 1) := by decide +kernel
theorem dX3_row_5 : decode cX3_row 5 = .ok (.iadd, 1) := by decide +kernel
theorem dX3_row_6 : decode cX3_row 6 = .ok (.istore_n 3, 1) := by decide +kernel
theorem dX3_row_7 : decode cX3_row 7 = .ok (.iload_n 3, 1) := by decide +kernel
theorem dX3_row_8 : decode cX3_row 8 = .ok (.ifCond .lt 21, 3) := by decide +kernel
theorem dX3_row_11 : decode cX3_row 11 = .ok (.iload_n 3, 1) := by decide +kernel
theorem dX3_row_12 : decode cX3_row 12 = .ok (.aload_n 0, 1) := by decide +kernel
theorem dX3_row_13 : decode cX3_row 13 = .ok (.getfield 18, 3) := by decide +kernel
theorem dX3_row_16 : decode cX3_row 16 = .ok (.arraylength, 1) := by decide +kernel
theorem dX3_row_17 : decode cX3_row 17 = .ok (.if_icmp .ge 12, 3) := by decide +kernel
theorem dX3_row_20 : decode cX3_row 20 = .ok (.aload_n 0, 1) := by decide +kernel
theorem dX3_row_21 : decode cX3_row 21 = .ok (.getfield 18, 3) := by decide +kernel
theorem dX3_row_24 : decode cX3_row 24 = .ok (.iload_n 3, 1) := by decide +kernel
theorem dX3_row_25 : decode cX3_row 25 = .ok (.laload, 1) := by decide +kernel
theorem dX3_row_26 : decode cX3_row 26 = .ok (.goto 4, 3) := by decide +kernel
theorem dX3_row_29 : decode cX3_row 29 = .ok (.lconst 0, 1) := by decide +kernel
theorem dX3_row_30 : decode cX3_row 30 = .ok (.lreturn, 1) := by decide +kernel
theorem dX3_allOf_0 : decode cX3_allOf 0 = .ok (.aload_n 0, 1) := by decide +kernel
theorem dX3_allOf_1 : decode cX3_allOf 1 = .ok (.getfield 28, 3) := by decide +kernel
theorem dX3_allOf_4 : decode cX3_allOf 4 = .ok (.getfield 32, 3) := by decide +kernel
theorem dX3_allOf_7 : decode cX3_allOf 7 = .ok (.bipush 6, 2) := by decide +kernel
theorem dX3_allOf_9 : decode cX3_allOf 9 = .ok (.if_icmp .lt 7, 3) := by decide +kernel
theorem dX3_allOf_12 : decode cX3_allOf 12 = .ok (.ldc2_w 94, 3) := by decide +kernel
theorem dX3_allOf_15 : decode cX3_allOf 15 = .ok (.lreturn, 1) := by decide +kernel
theorem dX3_allOf_16 : decode cX3_allOf 16 = .ok (.iload_n 1, 1) := by decide +kernel
theorem dX3_allOf_17 : decode cX3_allOf 17 = .ok (.ifCond .ne 19, 3) := by decide +kernel
theorem dX3_allOf_20 : decode cX3_allOf 20 = .ok (.lconst 1, 1) := by decide +kernel
theorem dX3_allOf_21 : decode cX3_allOf 21 = .ok (.iconst 1, 1) := by decide +kernel
theorem dX3_allOf_22 : decode cX3_allOf 22 = .ok (.aload_n 0, 1) := by decide +kernel
theorem dX3_allOf_23 : decode cX3_allOf 23 = .ok (.getfield 28, 3) := by decide +kernel
theorem dX3_allOf_26 : decode cX3_allOf 26 = .ok (.getfield 32, 3) := by decide +kernel
theorem dX3_allOf_29 : decode cX3_allOf 29 = .ok (.ishl, 1) := by decide +kernel
theorem dX3_allOf_30 : decode cX3_allOf 30 = .ok (.lshl, 1) := by decide +kernel
theorem dX3_allOf_31 : decode cX3_allOf 31 = .ok (.lconst 1, 1) := by decide +kernel
theorem dX3_allOf_32 : decode cX3_allOf 32 = .ok (.lsub, 1) := by decide +kernel
theorem dX3_allOf_33 : decode cX3_allOf 33 = .ok (.goto 4, 3) := by decide +kernel
theorem dX3_allOf_36 : decode cX3_allOf 36 = .ok (.lconst 0, 1) := by decide +kernel
theorem dX3_allOf_37 : decode cX3_allOf 37 = .ok (.lreturn, 1) := by decide +kernel
theorem dX3_holds_0 : decode cX3_holds 0 = .ok (.iload_n 0, 1) := by decide +kernel
theorem dX3_holds_1 : decode cX3_holds 1 = .ok (.iconst 1, 1) := by decide +kernel
theorem dX3_holds_2 : decode cX3_holds 2 = .ok (.ishr, 1) := by decide +kernel
theorem dX3_holds_3 : decode cX3_holds 3 = .ok (.istore_n 2, 1) := by decide +kernel
theorem dX3_holds_4 : decode cX3_holds 4 = .ok (.iload_n 2, 1) := by decide +kernel
theorem dX3_holds_5 : decode cX3_holds 5 = .ok (.ifCond .lt 20, 3) := by decide +kernel
theorem dX3_holds_8 : decode cX3_holds 8 = .ok (.iload_n 2, 1) := by decide +kernel
theorem dX3_holds_9 : decode cX3_holds 9 = .ok (.getstatic 96, 3) := by decide +kernel
theorem dX3_holds_12 : decode cX3_holds 12 = .ok (.arraylength, 1) := by decide +kernel
theorem dX3_holds_13 : decode cX3_holds 13 = .ok (.if_icmp .ge 12, 3) := by decide +kernel
theorem dX3_holds_16 : decode cX3_holds 16 = .ok (.getstatic 96, 3) := by decide +kernel
theorem dX3_holds_19 : decode cX3_holds 19 = .ok (.iload_n 2, 1) := by decide +kernel
theorem dX3_holds_20 : decode cX3_holds 20 = .ok (.laload, 1) := by decide +kernel
theorem dX3_holds_21 : decode cX3_holds 21 = .ok (.lstore_n 3, 1) := by decide +kernel
theorem dX3_holds_22 : decode cX3_holds 22 = .ok (.goto 22, 3) := by decide +kernel
theorem dX3_holds_25 : decode cX3_holds 25 = .ok (.iload_n 1, 1) := by decide +kernel
theorem dX3_holds_26 : decode cX3_holds 26 = .ok (.iload_n 2, 1) := by decide +kernel
theorem dX3_holds_27 : decode cX3_holds 27 = .ok (.bipush 6, 2) := by decide +kernel
theorem dX3_holds_29 : decode cX3_holds 29 = .ok (.isub, 1) := by decide +kernel
theorem dX3_holds_30 : decode cX3_holds 30 = .ok (.invokestatic 87, 3) := by decide +kernel
theorem dX3_holds_33 : decode cX3_holds 33 = .ok (.ifCond .eq 9, 3) := by decide +kernel
theorem dX3_holds_36 : decode cX3_holds 36 = .ok (.ldc2_w 94, 3) := by decide +kernel
theorem dX3_holds_39 : decode cX3_holds 39 = .ok (.goto 4, 3) := by decide +kernel
theorem dX3_holds_42 : decode cX3_holds 42 = .ok (.lconst 0, 1) := by decide +kernel
theorem dX3_holds_43 : decode cX3_holds 43 = .ok (.lstore_n 3, 1) := by decide +kernel
theorem dX3_holds_44 : decode cX3_holds 44 = .ok (.iload_n 0, 1) := by decide +kernel
theorem dX3_holds_45 : decode cX3_holds 45 = .ok (.iconst 1, 1) := by decide +kernel
theorem dX3_holds_46 : decode cX3_holds 46 = .ok (.iand, 1) := by decide +kernel
theorem dX3_holds_47 : decode cX3_holds 47 = .ok (.ifCond .ne 7, 3) := by decide +kernel
theorem dX3_holds_50 : decode cX3_holds 50 = .ok (.lload_n 3, 1) := by decide +kernel
theorem dX3_holds_51 : decode cX3_holds 51 = .ok (.goto 8, 3) := by decide +kernel
theorem dX3_holds_54 : decode cX3_holds 54 = .ok (.lload_n 3, 1) := by decide +kernel
theorem dX3_holds_55 : decode cX3_holds 55 = .ok (.ldc2_w 94, 3) := by decide +kernel
theorem dX3_holds_58 : decode cX3_holds 58 = .ok (.lxor, 1) := by decide +kernel
theorem dX3_holds_59 : decode cX3_holds 59 = .ok (.lreturn, 1) := by decide +kernel
theorem dX4_init_0 : decode cX4_init 0 = .ok (.aload_n 0, 1) := by decide +kernel
theorem dX4_init_1 : decode cX4_init 1 = .ok (.invokespecial 3, 3) := by decide +kernel
theorem dX4_init_4 : decode cX4_init 4 = .ok (.aload_n 0, 1) := by decide +kernel
theorem dX4_init_5 : decode cX4_init 5 = .ok (.bipush 10, 2) := by decide +kernel
theorem dX4_init_7 : decode cX4_init 7 = .ok (.newarray .long, 2) := by decide +kernel
theorem dX4_init_9 : decode cX4_init 9 = .ok (.putfield 9, 3) := by decide +kernel
theorem dX4_init_12 : decode cX4_init 12 = .ok (.aload_n 0, 1) := by decide +kernel
theorem dX4_init_13 : decode cX4_init 13 = .ok (.bipush 20, 2) := by decide +kernel
theorem dX4_init_15 : decode cX4_init 15 = .ok (.newarray .long, 2) := by decide +kernel
theorem dX4_init_17 : decode cX4_init 17 = .ok (.putfield 15, 3) := by decide +kernel
theorem dX4_init_20 : decode cX4_init 20 = .ok (.aload_n 0, 1) := by decide +kernel
theorem dX4_init_21 : decode cX4_init 21 = .ok (.aload_n 1, 1) := by decide +kernel
theorem dX4_init_22 : decode cX4_init 22 = .ok (.putfield 18, 3) := by decide +kernel
theorem dX4_init_25 : decode cX4_init 25 = .ok (.aload_n 0, 1) := by decide +kernel
theorem dX4_init_26 : decode cX4_init 26 = .ok (.aload_n 2, 1) := by decide +kernel
theorem dX4_init_27 : decode cX4_init 27 = .ok (.putfield 22, 3) := by decide +kernel
theorem dX4_init_30 : decode cX4_init 30 = .ok (.return_, 1) := by decide +kernel
theorem dX4_read_0 : decode cX4_read 0 = .ok (.aload_n 0, 1) := by decide +kernel
theorem dX4_read_1 : decode cX4_read 1 = .ok (.iconst 0, 1) := by decide +kernel
theorem dX4_read_2 : decode cX4_read 2 = .ok (.putfield 26, 3) := by decide +kernel
theorem dX4_read_5 : decode cX4_read 5 = .ok (.aload_n 0, 1) := by decide +kernel
theorem dX4_read_6 : decode cX4_read 6 = .ok (.iconst 0, 1) := by decide +kernel
theorem dX4_read_7 : decode cX4_read 7 = .ok (.putfield 30, 3) := by decide +kernel
theorem dX4_read_10 : decode cX4_read 10 = .ok (.aload_n 0, 1) := by decide +kernel
theorem dX4_read_11 : decode cX4_read 11 = .ok (.getfield 22, 3) := by decide +kernel
theorem dX4_read_14 : decode cX4_read 14 = .ok (.invokevirtual 33, 3) := by decide +kernel
theorem dX4_read_17 : decode cX4_read 17 = .ok (.iconst 1, 1) := by decide +kernel
theorem dX4_read_18 : decode cX4_read 18 = .ok (.istore_n 1, 1) := by decide +kernel
theorem dX4_read_19 : decode cX4_read 19 = .ok (.iconst 0, 1) := by decide +kernel
theorem dX4_read_20 : decode cX4_read 20 = .ok (.istore_n 2, 1) := by decide +kernel
theorem dX4_read_21 : decode cX4_read 21 = .ok (.iload_n 2, 1) := by decide +kernel
theorem dX4_read_22 : decode cX4_read 22 = .ok (.sipush 400, 3) := by decide +kernel
theorem dX4_read_25 : decode cX4_read 25 = .ok (.if_icmp .ge 45, 3) := by decide +kernel
theorem dX4_read_28 : decode cX4_read 28 = .ok (.iload_n 1, 1) := by decide +kernel
theorem dX4_read_29 : decode cX4_read 29 = .ok (.ifCond .eq 41, 3) := by decide +kernel
theorem dX4_read_32 : decode cX4_read 32 = .ok (.aload_n 0, 1) := by decide +kernel
theorem dX4_read_33 : decode cX4_read 33 = .ok (.sipush 260, 3) := by decide +kernel
theorem dX4_read_36 : decode cX4_read 36 = .ok (.invokevirtual 38, 3) := by decide +kernel
theorem dX4_read_39 : decode cX4_read 39 = .ok (.ifCond .ne 31, 3) := by decide +kernel
theorem dX4_read_42 : decode cX4_read 42 = .ok (.aload_n 0, 1) := by decide +kernel
theorem dX4_read_43 : decode cX4_read 43 = .ok (.invokevirtual 42, 3) := by decide +kernel
theorem dX4_read_46 : decode cX4_read 46 = .ok (.ifCond .eq 16, 3) := by decide +kernel
theorem dX4_read_49 : decode cX4_read 49 = .ok (.aload_n 0, 1) := by decide +kernel
theorem dX4_read_50 : decode cX4_read 50 = .ok (.bipush 59, 2) := by decide +kernel
theorem dX4_read_52 : decode cX4_read 52 = .ok (.invokevirtual 46, 3) := by decide +kernel
theorem dX4_read_55 : decode cX4_read 55 = .ok (.ifCond .eq 7, 3) := by decide +kernel
theorem dX4_read_58 : decode cX4_read 58 = .ok (.iconst 1, 1) := by decide +kernel
theorem dX4_read_59 : decode cX4_read 59 = .ok (.goto 4, 3) := by decide +kernel
theorem dX4_read_62 : decode cX4_read 62 = .ok (.iconst 0, 1) := by decide +kernel
theorem dX4_read_63 : decode cX4_read 63 = .ok (.istore_n 1, 1) := by decide +kernel
theorem dX4_read_64 : decode cX4_read 64 = .ok (.iinc 2 1, 3) := by decide +kernel
theorem dX4_read_67 : decode cX4_read 67 = .ok (.goto (-46), 3) := by decide +kernel
theorem dX4_read_70 : decode cX4_read 70 = .ok (.iload_n 1, 1) := by decide +kernel
theorem dX4_read_71 : decode cX4_read 71 = .ok (.ifCond .eq 13, 3) := by decide +kernel
theorem dX4_read_74 : decode cX4_read 74 = .ok (.aload_n 0, 1) := by decide +kernel
theorem dX4_read_75 : decode cX4_read 75 = .ok (.sipush 260, 3) := by decide +kernel
theorem dX4_read_78 : decode cX4_read 78 = .ok (.invokevirtual 38, 3) := by decide +kernel
theorem dX4_read_81 : decode cX4_read 81 = .ok (.ifCond .ne 16, 3) := by decide +kernel
theorem dX4_read_84 : decode cX4_read 84 = .ok (.aload_n 0, 1) := by decide +kernel
theorem dX4_read_85 : decode cX4_read 85 = .ok (.iconst 1, 1) := by decide +kernel
theorem dX4_read_86 : decode cX4_read 86 = .ok (.putfield 30, 3) := by decide +kernel
theorem dX4_read_89 : decode cX4_read 89 = .ok (.aload_n 0, 1) := by decide +kernel
theorem dX4_read_90 : decode cX4_read 90 = .ok (.aload_n 0, 1) := by decide +kernel
theorem dX4_read_91 : decode cX4_read 91 = .ok (.getfield 26, 3) := by decide +kernel
theorem dX4_read_94 : decode cX4_read 94 = .ok (.putfield 49, 3) := by decide +kernel
theorem dX4_read_97 : decode cX4_read 97 = .ok (.aload_n 0, 1) := by decide +kernel
theorem dX4_read_98 : decode cX4_read 98 = .ok (.getfield 30, 3) := by decide +kernel
theorem dX4_read_101 : decode cX4_read 101 = .ok (.ireturn, 1) := by decide +kernel
theorem dX4_errorPosition_0 : decode cX4_errorPosition 0 = .ok (.aload_n 0, 1) := by decide +kernel
theorem dX4_errorPosition_1 : decode cX4_errorPosition 1 = .ok (.getfield 30, 3) := by decide +kernel
theorem dX4_errorPosition_4 : decode cX4_errorPosition 4 = .ok (.ifCond .ne 7, 3) := by decide +kernel
theorem dX4_errorPosition_7 : decode cX4_errorPosition 7 = .ok (.iconst (-1), 1) := by decide +kernel
theorem dX4_errorPosition_8 : decode cX4_errorPosition 8 = .ok (.goto 14, 3) := by decide +kernel
theorem dX4_errorPosition_11 : decode cX4_errorPosition 11 = .ok (.aload_n 0, 1) := by decide +kernel
theorem dX4_errorPosition_12 : decode cX4_errorPosition 12 = .ok (.getfield 18, 3) := by decide +kernel
theorem dX4_errorPosition_15 : decode cX4_errorPosition 15 = .ok (.aload_n 0, 1) := by decide +kernel
theorem dX4_errorPosition_16 : decode cX4_errorPosition 16 = .ok (.getfield 49, 3) := by decide +kernel
theorem dX4_errorPosition_19 : decode cX4_errorPosition 19 = .ok (.invokevirtual 52, 3) := by decide +kernel
theorem dX4_errorPosition_22 : decode cX4_errorPosition 22 = .ok (.ireturn, 1) := by decide +kernel
theorem dX4_isNext_0 : decode cX4_isNext 0 = .ok (.aload_n 0, 1) := by decide +kernel
theorem dX4_isNext_1 : decode cX4_isNext 1 = .ok (.getfield 18, 3) := by decide +kernel
theorem dX4_isNext_4 : decode cX4_isNext 4 = .ok (.aload_n 0, 1) := by decide +kernel
theorem dX4_isNext_5 : decode cX4_isNext 5 = .ok (.getfield 26, 3) := by decide +kernel
theorem dX4_isNext_8 : decode cX4_isNext 8 = .ok (.invokevirtual 58, 3) := by decide +kernel
theorem dX4_isNext_11 : decode cX4_isNext 11 = .ok (.iload_n 1, 1) := by decide +kernel
theorem dX4_isNext_12 : decode cX4_isNext 12 = .ok (.if_icmp .ne 7, 3) := by decide +kernel
theorem dX4_isNext_15 : decode cX4_isNext 15 = .ok (.iconst 1, 1) := by decide +kernel
theorem dX4_isNext_16 : decode cX4_isNext 16 = .ok (.goto 4, 3) := by decide +kernel
theorem dX4_isNext_19 : decode cX4_isNext 19 = .ok (.iconst 0, 1) := by decide +kernel
theorem dX4_isNext_20 : decode cX4_isNext 20 = .ok (.ireturn, 1) := by decide +kernel
theorem dX4_take_0 : decode cX4_take 0 = .ok (.aload_n 0, 1) := by decide +kernel
theorem dX4_take_1 : decode cX4_take 1 = .ok (.getfield 18, 3) := by decide +kernel
theorem dX4_take_4 : decode cX4_take 4 = .ok (.aload_n 0, 1) := by decide +kernel
theorem dX4_take_5 : decode cX4_take 5 = .ok (.getfield 26, 3) := by decide +kernel
theorem dX4_take_8 : decode cX4_take 8 = .ok (.invokevirtual 58, 3) := by decide +kernel
theorem dX4_take_11 : decode cX4_take 11 = .ok (.iload_n 1, 1) := by decide +kernel
theorem dX4_take_12 : decode cX4_take 12 = .ok (.if_icmp .eq 5, 3) := by decide +kernel
theorem dX4_take_15 : decode cX4_take 15 = .ok (.iconst 0, 1) := by decide +kernel
theorem dX4_take_16 : decode cX4_take 16 = .ok (.ireturn, 1) := by decide +kernel
theorem dX4_take_17 : decode cX4_take 17 = .ok (.aload_n 0, 1) := by decide +kernel
theorem dX4_take_18 : decode cX4_take 18 = .ok (.dup, 1) := by decide +kernel
theorem dX4_take_19 : decode cX4_take 19 = .ok (.getfield 26, 3) := by decide +kernel
theorem dX4_take_22 : decode cX4_take 22 = .ok (.iconst 1, 1) := by decide +kernel
theorem dX4_take_23 : decode cX4_take 23 = .ok (.iadd, 1) := by decide +kernel
theorem dX4_take_24 : decode cX4_take 24 = .ok (.putfield 26, 3) := by decide +kernel
theorem dX4_take_27 : decode cX4_take 27 = .ok (.iconst 1, 1) := by decide +kernel
theorem dX4_take_28 : decode cX4_take 28 = .ok (.ireturn, 1) := by decide +kernel
theorem dX4_takeDeeper_0 : decode cX4_takeDeeper 0 = .ok (.iload_n 2, 1) := by decide +kernel
theorem dX4_takeDeeper_1 : decode cX4_takeDeeper 1 = .ok (.bipush 8, 2) := by decide +kernel
theorem dX4_takeDeeper_3 : decode cX4_takeDeeper 3 = .ok (.if_icmp .ge 18, 3) := by decide +kernel
theorem dX4_takeDeeper_6 : decode cX4_takeDeeper 6 = .ok (.aload_n 0, 1) := by decide +kernel
theorem dX4_takeDeeper_7 : decode cX4_takeDeeper 7 = .ok (.getfield 18, 3) := by decide +kernel
theorem dX4_takeDeeper_10 : decode cX4_takeDeeper 10 = .ok (.aload_n 0, 1) := by decide +kernel
theorem dX4_takeDeeper_11 : decode cX4_takeDeeper 11 = .ok (.getfield 26, 3) := by decide +kernel
theorem dX4_takeDeeper_14 : decode cX4_takeDeeper 14 = .ok (.invokevirtual 58, 3) := by decide +kernel
theorem dX4_takeDeeper_17 : decode cX4_takeDeeper 17 = .ok (.iload_n 1, 1) := by decide +kernel
theorem dX4_takeDeeper_18 : decode cX4_takeDeeper 18 = .ok (.if_icmp .eq 5, 3) := by decide +kernel
theorem dX4_takeDeeper_21 : decode cX4_takeDeeper 21 = .ok (.iconst 0, 1) := by decide +kernel
theorem dX4_takeDeeper_22 : decode cX4_takeDeeper 22 = .ok (.ireturn, 1) := by decide +kernel
theorem dX4_takeDeeper_23 : decode cX4_takeDeeper 23 = .ok (.aload_n 0, 1) := by decide +kernel
theorem dX4_takeDeeper_24 : decode cX4_takeDeeper 24 = .ok (.dup, 1) := by decide +kernel
theorem dX4_takeDeeper_25 : decode cX4_takeDeeper 25 = .ok (.getfield 26, 3) := by decide +kernel
theorem dX4_takeDeeper_28 : decode cX4_takeDeeper 28 = .ok (.iconst 1, 1) := by decide +kernel
theorem dX4_takeDeeper_29 : decode cX4_takeDeeper 29 = .ok (.iadd, 1) := by decide +kernel
theorem dX4_takeDeeper_30 : decode cX4_takeDeeper 30 = .ok (.putfield 26, 3) := by decide +kernel
theorem dX4_takeDeeper_33 : decode cX4_takeDeeper 33 = .ok (.iconst 1, 1) := by decide +kernel
theorem dX4_takeDeeper_34 : decode cX4_takeDeeper 34 = .ok (.ireturn, 1) := by decide +kernel
theorem dX4_note_0 : decode cX4_note 0 = .ok (.aload_n 0, 1) := by decide +kernel
theorem dX4_note_1 : decode cX4_note 1 = .ok (.getfield 30, 3) := by decide +kernel
theorem dX4_note_4 : decode cX4_note 4 = .ok (.ifCond .ne 16, 3) := by decide +kernel
theorem dX4_note_7 : decode cX4_note 7 = .ok (.aload_n 0, 1) := by decide +kernel
theorem dX4_note_8 : decode cX4_note 8 = .ok (.iload_n 1, 1) := by decide +kernel
theorem dX4_note_9 : decode cX4_note 9 = .ok (.putfield 30, 3) := by decide +kernel
theorem dX4_note_12 : decode cX4_note 12 = .ok (.aload_n 0, 1) := by decide +kernel
theorem dX4_note_13 : decode cX4_note 13 = .ok (.aload_n 0, 1) := by decide +kernel
theorem dX4_note_14 : decode cX4_note 14 = .ok (.getfield 26, 3) := by decide +kernel
theorem dX4_note_17 : decode cX4_note 17 = .ok (.putfield 49, 3) := by decide +kernel
theorem dX4_note_20 : decode cX4_note 20 = .ok (.return_, 1) := by decide +kernel
theorem dX4_find_0 : decode cX4_find 0 = .ok (.iconst 0, 1) := by decide +kernel
theorem dX4_find_1 : decode cX4_find 1 = .ok (.istore 4, 2) := by decide +kernel
theorem dX4_find_3 : decode cX4_find 3 = .ok (.iload 4, 2) := by decide +kernel
theorem dX4_find_5 : decode cX4_find 5 = .ok (.iload_n 1, 1) := by decide +kernel
theorem dX4_find_6 : decode cX4_find 6 = .ok (.if_icmp .ge 28, 3) := by decide +kernel
theorem dX4_find_9 : decode cX4_find 9 = .ok (.iload 4, 2) := by decide +kernel
theorem dX4_find_11 : decode cX4_find 11 = .ok (.aload_n 0, 1) := by decide +kernel
theorem dX4_find_12 : decode cX4_find 12 = .ok (.arraylength, 1) := by decide +kernel
theorem dX4_find_13 : decode cX4_find 13 = .ok (.if_icmp .ge 21, 3) := by decide +kernel
theorem dX4_find_16 : decode cX4_find 16 = .ok (.aload_n 0, 1) := by decide +kernel
theorem dX4_find_17 : decode cX4_find 17 = .ok (.iload 4, 2) := by decide +kernel
theorem dX4_find_19 : decode cX4_find 19 = .ok (.laload, 1) := by decide +kernel
theorem dX4_find_20 : decode cX4_find 20 = .ok (.lload_n 2, 1) := by decide +kernel
theorem dX4_find_21 : decode cX4_find 21 = .ok (.lcmp, 1) := by decide +kernel
theorem dX4_find_22 : decode cX4_find 22 = .ok (.ifCond .ne 6, 3) := by decide +kernel
theorem dX4_find_25 : decode cX4_find 25 = .ok (.iload 4, 2) := by decide +kernel
theorem dX4_find_27 : decode cX4_find 27 = .ok (.ireturn, 1) := by decide +kernel
theorem dX4_find_28 : decode cX4_find 28 = .ok (.iinc 4 1, 3) := by decide +kernel
theorem dX4_find_31 : decode cX4_find 31 = .ok (.goto (-28), 3) := by decide +kernel
theorem dX4_find_34 : decode cX4_find 34 = .ok (.iconst (-1), 1) := by decide +kernel
theorem dX4_find_35 : decode cX4_find 35 = .ok (.ireturn, 1) := by decide +kernel
theorem dX4_readLine_0 : decode cX4_readLine 0 = .ok (.aload_n 0, 1) := by decide +kernel
theorem dX4_readLine_1 : decode cX4_readLine 1 = .ok (.getfield 18, 3) := by decide +kernel
theorem dX4_readLine_4 : decode cX4_readLine 4 = .ok (.aload_n 0, 1) := by decide +kernel
theorem dX4_readLine_5 : decode cX4_readLine 5 = .ok (.getfield 26, 3) := by decide +kernel
theorem dX4_readLine_8 : decode cX4_readLine 8 = .ok (.invokevirtual 58, 3) := by decide +kernel
theorem dX4_readLine_11 : decode cX4_readLine 11 = .ok (.tableswitch 127 300 313 #[69, 74, 127, 127, 86, 127, 127, 98, 127, 110, 127, 127, 122, 122], 69) := by decide +kernel
theorem dX4_readLine_80 : decode cX4_readLine 80 = .ok (.aload_n 0, 1) := by decide +kernel
theorem dX4_readLine_81 : decode cX4_readLine 81 = .ok (.invokevirtual 61, 3) := by decide +kernel
theorem dX4_readLine_84 : decode cX4_readLine 84 = .ok (.ireturn, 1) := by decide +kernel
theorem dX4_readLine_85 : decode cX4_readLine 85 = .ok (.aload_n 0, 1) := by decide +kernel
theorem dX4_readLine_86 : decode cX4_readLine 86 = .ok (.iconst 0, 1) := by decide +kernel
theorem dX4_readLine_87 : decode cX4_readLine 87 = .ok (.sipush 302, 3) := by decide +kernel
theorem dX4_readLine_90 : decode cX4_readLine 90 = .ok (.sipush 303, 3) := by decide +kernel
theorem dX4_readLine_93 : decode cX4_readLine 93 = .ok (.invokevirtual 64, 3) := by decide +kernel
theorem dX4_readLine_96 : decode cX4_readLine 96 = .ok (.ireturn, 1) := by decide +kernel
theorem dX4_readLine_97 : decode cX4_readLine 97 = .ok (.aload_n 0, 1) := by decide +kernel
theorem dX4_readLine_98 : decode cX4_readLine 98 = .ok (.iconst 1, 1) := by decide +kernel
theorem dX4_readLine_99 : decode cX4_readLine 99 = .ok (.sipush 305, 3) := by decide +kernel
theorem dX4_readLine_102 : decode cX4_readLine 102 = .ok (.sipush 306, 3) := by decide +kernel
theorem dX4_readLine_105 : decode cX4_readLine 105 = .ok (.invokevirtual 64, 3) := by decide +kernel
theorem dX4_readLine_108 : decode cX4_readLine 108 = .ok (.ireturn, 1) := by decide +kernel
theorem dX4_readLine_109 : decode cX4_readLine 109 = .ok (.aload_n 0, 1) := by decide +kernel
theorem dX4_readLine_110 : decode cX4_readLine 110 = .ok (.iconst 2, 1) := by decide +kernel
theorem dX4_readLine_111 : decode cX4_readLine 111 = .ok (.sipush 263, 3) := by decide +kernel
theorem dX4_readLine_114 : decode cX4_readLine 114 = .ok (.sipush 308, 3) := by decide +kernel
theorem dX4_readLine_117 : decode cX4_readLine 117 = .ok (.invokevirtual 64, 3) := by decide +kernel
theorem dX4_readLine_120 : decode cX4_readLine 120 = .ok (.ireturn, 1) := by decide +kernel
theorem dX4_readLine_121 : decode cX4_readLine 121 = .ok (.aload_n 0, 1) := by decide +kernel
theorem dX4_readLine_122 : decode cX4_readLine 122 = .ok (.iconst 3, 1) := by decide +kernel
theorem dX4_readLine_123 : decode cX4_readLine 123 = .ok (.sipush 263, 3) := by decide +kernel
theorem dX4_readLine_126 : decode cX4_readLine 126 = .ok (.sipush 263, 3) := by decide +kernel
theorem dX4_readLine_129 : decode cX4_readLine 129 = .ok (.invokevirtual 64, 3) := by decide +kernel
theorem dX4_readLine_132 : decode cX4_readLine 132 = .ok (.ireturn, 1) := by decide +kernel
theorem dX4_readLine_133 : decode cX4_readLine 133 = .ok (.aload_n 0, 1) := by decide +kernel
theorem dX4_readLine_134 : decode cX4_readLine 134 = .ok (.invokevirtual 68, 3) := by decide +kernel
theorem dX4_readLine_137 : decode cX4_readLine 137 = .ok (.ireturn, 1) := by decide +kernel
theorem dX4_readLine_138 : decode cX4_readLine 138 = .ok (.iconst 0, 1) := by decide +kernel
theorem dX4_readLine_139 : decode cX4_readLine 139 = .ok (.ireturn, 1) := by decide +kernel
theorem dX4_readFamily_0 : decode cX4_readFamily 0 = .ok (.aload_n 0, 1) := by decide +kernel
theorem dX4_readFamily_1 : decode cX4_readFamily 1 = .ok (.dup, 1) := by decide +kernel
theorem dX4_readFamily_2 : decode cX4_readFamily 2 = .ok (.getfield 26, 3) := by decide +kernel
theorem dX4_readFamily_5 : decode cX4_readFamily 5 = .ok (.iconst 1, 1) := by decide +kernel
theorem dX4_readFamily_6 : decode cX4_readFamily 6 = .ok (.iadd, 1) := by decide +kernel
theorem dX4_readFamily_7 : decode cX4_readFamily 7 = .ok (.putfield 26, 3) := by decide +kernel
theorem dX4_readFamily_10 : decode cX4_readFamily 10 = .ok (.aload_n 0, 1) := by decide +kernel
theorem dX4_readFamily_11 : decode cX4_readFamily 11 = .ok (.sipush 258, 3) := by decide +kernel
theorem dX4_readFamily_14 : decode cX4_readFamily 14 = .ok (.invokevirtual 38, 3) := by decide +kernel
theorem dX4_readFamily_17 : decode cX4_readFamily 17 = .ok (.ifCond .ne 5, 3) := by decide +kernel
theorem dX4_readFamily_20 : decode cX4_readFamily 20 = .ok (.iconst 0, 1) := by decide +kernel
theorem dX4_readFamily_21 : decode cX4_readFamily 21 = .ok (.ireturn, 1) := by decide +kernel
theorem dX4_readFamily_22 : decode cX4_readFamily 22 = .ok (.aload_n 0, 1) := by decide +kernel
theorem dX4_readFamily_23 : decode cX4_readFamily 23 = .ok (.getfield 18, 3) := by decide +kernel
theorem dX4_readFamily_26 : decode cX4_readFamily 26 = .ok (.aload_n 0, 1) := by decide +kernel
theorem dX4_readFamily_27 : decode cX4_readFamily 27 = .ok (.getfield 26, 3) := by decide +kernel
theorem dX4_readFamily_30 : decode cX4_readFamily 30 = .ok (.invokevirtual 71, 3) := by decide +kernel
theorem dX4_readFamily_33 : decode cX4_readFamily 33 = .ok (.lstore_n 1, 1) := by decide +kernel
theorem dX4_readFamily_34 : decode cX4_readFamily 34 = .ok (.aload_n 0, 1) := by decide +kernel
theorem dX4_readFamily_35 : decode cX4_readFamily 35 = .ok (.getfield 22, 3) := by decide +kernel
theorem dX4_readFamily_38 : decode cX4_readFamily 38 = .ok (.getfield 75, 3) := by decide +kernel
theorem dX4_readFamily_41 : decode cX4_readFamily 41 = .ok (.istore_n 3, 1) := by decide +kernel
theorem dX4_readFamily_42 : decode cX4_readFamily 42 = .ok (.aload_n 0, 1) := by decide +kernel
theorem dX4_readFamily_43 : decode cX4_readFamily 43 = .ok (.getfield 9, 3) := by decide +kernel
theorem dX4_readFamily_46 : decode cX4_readFamily 46 = .ok (.iload_n 3, 1) := by decide +kernel
theorem dX4_readFamily_47 : decode cX4_readFamily 47 = .ok (.lload_n 1, 1) := by decide +kernel
theorem dX4_readFamily_48 : decode cX4_readFamily 48 = .ok (.invokestatic 78, 3) := by decide +kernel
theorem dX4_readFamily_51 : decode cX4_readFamily 51 = .ok (.ifCond .lt 11, 3) := by decide +kernel
theorem dX4_readFamily_54 : decode cX4_readFamily 54 = .ok (.aload_n 0, 1) := by decide +kernel
theorem dX4_readFamily_55 : decode cX4_readFamily 55 = .ok (.iconst 2, 1) := by decide +kernel
theorem dX4_readFamily_56 : decode cX4_readFamily 56 = .ok (.invokevirtual 82, 3) := by decide +kernel
theorem dX4_readFamily_59 : decode cX4_readFamily 59 = .ok (.goto 44, 3) := by decide +kernel
theorem dX4_readFamily_62 : decode cX4_readFamily 62 = .ok (.iload_n 3, 1) := by decide +kernel
theorem dX4_readFamily_63 : decode cX4_readFamily 63 = .ok (.ifCond .lt 35, 3) := by decide +kernel
theorem dX4_readFamily_66 : decode cX4_readFamily 66 = .ok (.iload_n 3, 1) := by decide +kernel
theorem dX4_readFamily_67 : decode cX4_readFamily 67 = .ok (.aload_n 0, 1) := by decide +kernel
theorem dX4_readFamily_68 : decode cX4_readFamily 68 = .ok (.getfield 9, 3) := by decide +kernel
theorem dX4_readFamily_71 : decode cX4_readFamily 71 = .ok (.arraylength, 1) := by decide +kernel
theorem dX4_readFamily_72 : decode cX4_readFamily 72 = .ok (.if_icmp .ge 26, 3) := by decide +kernel
theorem dX4_readFamily_75 : decode cX4_readFamily 75 = .ok (.aload_n 0, 1) := by decide +kernel
theorem dX4_readFamily_76 : decode cX4_readFamily 76 = .ok (.getfield 9, 3) := by decide +kernel
theorem dX4_readFamily_79 : decode cX4_readFamily 79 = .ok (.iload_n 3, 1) := by decide +kernel
theorem dX4_readFamily_80 : decode cX4_readFamily 80 = .ok (.lload_n 1, 1) := by decide +kernel
theorem dX4_readFamily_81 : decode cX4_readFamily 81 = .ok (.lastore, 1) := by decide +kernel
theorem dX4_readFamily_82 : decode cX4_readFamily 82 = .ok (.aload_n 0, 1) := by decide +kernel
theorem dX4_readFamily_83 : decode cX4_readFamily 83 = .ok (.getfield 22, 3) := by decide +kernel
theorem dX4_readFamily_86 : decode cX4_readFamily 86 = .ok (.dup, 1) := by decide +kernel
theorem dX4_readFamily_87 : decode cX4_readFamily 87 = .ok (.getfield 75, 3) := by decide +kernel
theorem dX4_readFamily_90 : decode cX4_readFamily 90 = .ok (.iconst 1, 1) := by decide +kernel
theorem dX4_readFamily_91 : decode cX4_readFamily 91 = .ok (.iadd, 1) := by decide +kernel
theorem dX4_readFamily_92 : decode cX4_readFamily 92 = .ok (.putfield 75, 3) := by decide +kernel
theorem dX4_readFamily_95 : decode cX4_readFamily 95 = .ok (.goto 8, 3) := by decide +kernel
theorem dX4_readFamily_98 : decode cX4_readFamily 98 = .ok (.aload_n 0, 1) := by decide +kernel
theorem dX4_readFamily_99 : decode cX4_readFamily 99 = .ok (.iconst 4, 1) := by decide +kernel
theorem dX4_readFamily_100 : decode cX4_readFamily 100 = .ok (.invokevirtual 82, 3) := by decide +kernel
theorem dX4_readFamily_103 : decode cX4_readFamily 103 = .ok (.aload_n 0, 1) := by decide +kernel
theorem dX4_readFamily_104 : decode cX4_readFamily 104 = .ok (.dup, 1) := by decide +kernel
theorem dX4_readFamily_105 : decode cX4_readFamily 105 = .ok (.getfield 26, 3) := by decide +kernel
theorem dX4_readFamily_108 : decode cX4_readFamily 108 = .ok (.iconst 1, 1) := by decide +kernel
theorem dX4_readFamily_109 : decode cX4_readFamily 109 = .ok (.iadd, 1) := by decide +kernel
theorem dX4_readFamily_110 : decode cX4_readFamily 110 = .ok (.putfield 26, 3) := by decide +kernel
theorem dX4_readFamily_113 : decode cX4_readFamily 113 = .ok (.iconst 1, 1) := by decide +kernel
theorem dX4_readFamily_114 : decode cX4_readFamily 114 = .ok (.ireturn, 1) := by decide +kernel
theorem dX4_readStatement_0 : decode cX4_readStatement 0 = .ok (.aload_n 0, 1) := by decide +kernel
theorem dX4_readStatement_1 : decode cX4_readStatement 1 = .ok (.dup, 1) := by decide +kernel
theorem dX4_readStatement_2 : decode cX4_readStatement 2 = .ok (.getfield 26, 3) := by decide +kernel
theorem dX4_readStatement_5 : decode cX4_readStatement 5 = .ok (.iconst 1, 1) := by decide +kernel
theorem dX4_readStatement_6 : decode cX4_readStatement 6 = .ok (.iadd, 1) := by decide +kernel
theorem dX4_readStatement_7 : decode cX4_readStatement 7 = .ok (.putfield 26, 3) := by decide +kernel
theorem dX4_readStatement_10 : decode cX4_readStatement 10 = .ok (.aload_n 0, 1) := by decide +kernel
theorem dX4_readStatement_11 : decode cX4_readStatement 11 = .ok (.invokevirtual 86, 3) := by decide +kernel
theorem dX4_readStatement_14 : decode cX4_readStatement 14 = .ok (.ifCond .eq 18, 3) := by decide +kernel
theorem dX4_readStatement_17 : decode cX4_readStatement 17 = .ok (.iload_n 2, 1) := by decide +kernel
theorem dX4_readStatement_18 : decode cX4_readStatement 18 = .ok (.sipush 263, 3) := by decide +kernel
theorem dX4_readStatement_21 : decode cX4_readStatement 21 = .ok (.if_icmp .eq 13, 3) := by decide +kernel
theorem dX4_readStatement_24 : decode cX4_readStatement 24 = .ok (.aload_n 0, 1) := by decide +kernel
theorem dX4_readStatement_25 : decode cX4_readStatement 25 = .ok (.iload_n 2, 1) := by decide +kernel
theorem dX4_readStatement_26 : decode cX4_readStatement 26 = .ok (.invokevirtual 46, 3) := by decide +kernel
theorem dX4_readStatement_29 : decode cX4_readStatement 29 = .ok (.ifCond .ne 5, 3) := by decide +kernel
theorem dX4_readStatement_32 : decode cX4_readStatement 32 = .ok (.iconst 0, 1) := by decide +kernel
theorem dX4_readStatement_33 : decode cX4_readStatement 33 = .ok (.ireturn, 1) := by decide +kernel
theorem dX4_readStatement_34 : decode cX4_readStatement 34 = .ok (.aload_n 0, 1) := by decide +kernel
theorem dX4_readStatement_35 : decode cX4_readStatement 35 = .ok (.invokevirtual 89, 3) := by decide +kernel
theorem dX4_readStatement_38 : decode cX4_readStatement 38 = .ok (.istore 4, 2) := by decide +kernel
theorem dX4_readStatement_40 : decode cX4_readStatement 40 = .ok (.iload 4, 2) := by decide +kernel
theorem dX4_readStatement_42 : decode cX4_readStatement 42 = .ok (.ifCond .ge 5, 3) := by decide +kernel
theorem dX4_readStatement_45 : decode cX4_readStatement 45 = .ok (.iconst 0, 1) := by decide +kernel
theorem dX4_readStatement_46 : decode cX4_readStatement 46 = .ok (.ireturn, 1) := by decide +kernel
theorem dX4_readStatement_47 : decode cX4_readStatement 47 = .ok (.iload 4, 2) := by decide +kernel
theorem dX4_readStatement_49 : decode cX4_readStatement 49 = .ok (.istore 5, 2) := by decide +kernel
theorem dX4_readStatement_51 : decode cX4_readStatement 51 = .ok (.iload_n 3, 1) := by decide +kernel
theorem dX4_readStatement_52 : decode cX4_readStatement 52 = .ok (.sipush 263, 3) := by decide +kernel
theorem dX4_readStatement_55 : decode cX4_readStatement 55 = .ok (.if_icmp .eq 21, 3) := by decide +kernel
theorem dX4_readStatement_58 : decode cX4_readStatement 58 = .ok (.aload_n 0, 1) := by decide +kernel
theorem dX4_readStatement_59 : decode cX4_readStatement 59 = .ok (.iload_n 3, 1) := by decide +kernel
theorem dX4_readStatement_60 : decode cX4_readStatement 60 = .ok (.invokevirtual 46, 3) := by decide +kernel
theorem dX4_readStatement_63 : decode cX4_readStatement 63 = .ok (.ifCond .eq 10, 3) := by decide +kernel
theorem dX4_readStatement_66 : decode cX4_readStatement 66 = .ok (.aload_n 0, 1) := by decide +kernel
theorem dX4_readStatement_67 : decode cX4_readStatement 67 = .ok (.invokevirtual 89, 3) := by decide +kernel
theorem dX4_readStatement_70 : decode cX4_readStatement 70 = .ok (.goto 4, 3) := by decide +kernel
theorem dX4_readStatement_73 : decode cX4_readStatement 73 = .ok (.iconst (-1), 1) := by decide +kernel
theorem dX4_readStatement_74 : decode cX4_readStatement 74 = .ok (.istore 5, 2) := by decide +kernel
theorem dX4_readStatement_76 : decode cX4_readStatement 76 = .ok (.iload 5, 2) := by decide +kernel
theorem dX4_readStatement_78 : decode cX4_readStatement 78 = .ok (.ifCond .ge 5, 3) := by decide +kernel
theorem dX4_readStatement_81 : decode cX4_readStatement 81 = .ok (.iconst 0, 1) := by decide +kernel
theorem dX4_readStatement_82 : decode cX4_readStatement 82 = .ok (.ireturn, 1) := by decide +kernel
theorem dX4_readStatement_83 : decode cX4_readStatement 83 = .ok (.aload_n 0, 1) := by decide +kernel
theorem dX4_readStatement_84 : decode cX4_readStatement 84 = .ok (.getfield 22, 3) := by decide +kernel
theorem dX4_readStatement_87 : decode cX4_readStatement 87 = .ok (.iload_n 1, 1) := by decide +kernel
theorem dX4_readStatement_88 : decode cX4_readStatement 88 = .ok (.iload 4, 2) := by decide +kernel
theorem dX4_readStatement_90 : decode cX4_readStatement 90 = .ok (.iload 5, 2) := by decide +kernel
theorem dX4_readStatement_92 : decode cX4_readStatement 92 = .ok (.invokevirtual 93, 3) := by decide +kernel
theorem dX4_readStatement_95 : decode cX4_readStatement 95 = .ok (.iconst 1, 1) := by decide +kernel
theorem dX4_readStatement_96 : decode cX4_readStatement 96 = .ok (.ireturn, 1) := by decide +kernel
theorem dX4_readStatementName_0 : decode cX4_readStatementName 0 = .ok (.aload_n 0, 1) := by decide +kernel
theorem dX4_readStatementName_1 : decode cX4_readStatementName 1 = .ok (.sipush 258, 3) := by decide +kernel
theorem dX4_readStatementName_4 : decode cX4_readStatementName 4 = .ok (.invokevirtual 38, 3) := by decide +kernel
theorem dX4_readStatementName_7 : decode cX4_readStatementName 7 = .ok (.ifCond .ne 5, 3) := by decide +kernel
theorem dX4_readStatementName_10 : decode cX4_readStatementName 10 = .ok (.iconst 0, 1) := by decide +kernel
theorem dX4_readStatementName_11 : decode cX4_readStatementName 11 = .ok (.ireturn, 1) := by decide +kernel
theorem dX4_readStatementName_12 : decode cX4_readStatementName 12 = .ok (.aload_n 0, 1) := by decide +kernel
theorem dX4_readStatementName_13 : decode cX4_readStatementName 13 = .ok (.getfield 18, 3) := by decide +kernel
theorem dX4_readStatementName_16 : decode cX4_readStatementName 16 = .ok (.aload_n 0, 1) := by decide +kernel
theorem dX4_readStatementName_17 : decode cX4_readStatementName 17 = .ok (.getfield 26, 3) := by decide +kernel
theorem dX4_readStatementName_20 : decode cX4_readStatementName 20 = .ok (.invokevirtual 71, 3) := by decide +kernel
theorem dX4_readStatementName_23 : decode cX4_readStatementName 23 = .ok (.lstore_n 1, 1) := by decide +kernel
theorem dX4_readStatementName_24 : decode cX4_readStatementName 24 = .ok (.aload_n 0, 1) := by decide +kernel
theorem dX4_readStatementName_25 : decode cX4_readStatementName 25 = .ok (.getfield 22, 3) := by decide +kernel
theorem dX4_readStatementName_28 : decode cX4_readStatementName 28 = .ok (.getfield 97, 3) := by decide +kernel
theorem dX4_readStatementName_31 : decode cX4_readStatementName 31 = .ok (.istore_n 3, 1) := by decide +kernel
theorem dX4_readStatementName_32 : decode cX4_readStatementName 32 = .ok (.aload_n 0, 1) := by decide +kernel
theorem dX4_readStatementName_33 : decode cX4_readStatementName 33 = .ok (.getfield 15, 3) := by decide +kernel
theorem dX4_readStatementName_36 : decode cX4_readStatementName 36 = .ok (.iload_n 3, 1) := by decide +kernel
theorem dX4_readStatementName_37 : decode cX4_readStatementName 37 = .ok (.lload_n 1, 1) := by decide +kernel
theorem dX4_readStatementName_38 : decode cX4_readStatementName 38 = .ok (.invokestatic 78, 3) := by decide +kernel
theorem dX4_readStatementName_41 : decode cX4_readStatementName 41 = .ok (.ifCond .lt 11, 3) := by decide +kernel
theorem dX4_readStatementName_44 : decode cX4_readStatementName 44 = .ok (.aload_n 0, 1) := by decide +kernel
theorem dX4_readStatementName_45 : decode cX4_readStatementName 45 = .ok (.iconst 2, 1) := by decide +kernel
theorem dX4_readStatementName_46 : decode cX4_readStatementName 46 = .ok (.invokevirtual 82, 3) := by decide +kernel
theorem dX4_readStatementName_49 : decode cX4_readStatementName 49 = .ok (.goto 31, 3) := by decide +kernel
theorem dX4_readStatementName_52 : decode cX4_readStatementName 52 = .ok (.iload_n 3, 1) := by decide +kernel
theorem dX4_readStatementName_53 : decode cX4_readStatementName 53 = .ok (.ifCond .lt 22, 3) := by decide +kernel
theorem dX4_readStatementName_56 : decode cX4_readStatementName 56 = .ok (.iload_n 3, 1) := by decide +kernel
theorem dX4_readStatementName_57 : decode cX4_readStatementName 57 = .ok (.aload_n 0, 1) := by decide +kernel
theorem dX4_readStatementName_58 : decode cX4_readStatementName 58 = .ok (.getfield 15, 3) := by decide +kernel
theorem dX4_readStatementName_61 : decode cX4_readStatementName 61 = .ok (.arraylength, 1) := by decide +kernel
theorem dX4_readStatementName_62 : decode cX4_readStatementName 62 = .ok (.if_icmp .ge 13, 3) := by decide +kernel
theorem dX4_readStatementName_65 : decode cX4_readStatementName 65 = .ok (.aload_n 0, 1) := by decide +kernel
theorem dX4_readStatementName_66 : decode cX4_readStatementName 66 = .ok (.getfield 15, 3) := by decide +kernel
theorem dX4_readStatementName_69 : decode cX4_readStatementName 69 = .ok (.iload_n 3, 1) := by decide +kernel
theorem dX4_readStatementName_70 : decode cX4_readStatementName 70 = .ok (.lload_n 1, 1) := by decide +kernel
theorem dX4_readStatementName_71 : decode cX4_readStatementName 71 = .ok (.lastore, 1) := by decide +kernel
theorem dX4_readStatementName_72 : decode cX4_readStatementName 72 = .ok (.goto 8, 3) := by decide +kernel
theorem dX4_readStatementName_75 : decode cX4_readStatementName 75 = .ok (.aload_n 0, 1) := by decide +kernel
theorem dX4_readStatementName_76 : decode cX4_readStatementName 76 = .ok (.iconst 4, 1) := by decide +kernel
theorem dX4_readStatementName_77 : decode cX4_readStatementName 77 = .ok (.invokevirtual 82, 3) := by decide +kernel
theorem dX4_readStatementName_80 : decode cX4_readStatementName 80 = .ok (.aload_n 0, 1) := by decide +kernel
theorem dX4_readStatementName_81 : decode cX4_readStatementName 81 = .ok (.dup, 1) := by decide +kernel
theorem dX4_readStatementName_82 : decode cX4_readStatementName 82 = .ok (.getfield 26, 3) := by decide +kernel
theorem dX4_readStatementName_85 : decode cX4_readStatementName 85 = .ok (.iconst 1, 1) := by decide +kernel
theorem dX4_readStatementName_86 : decode cX4_readStatementName 86 = .ok (.iadd, 1) := by decide +kernel
theorem dX4_readStatementName_87 : decode cX4_readStatementName 87 = .ok (.putfield 26, 3) := by decide +kernel
theorem dX4_readStatementName_90 : decode cX4_readStatementName 90 = .ok (.iconst 1, 1) := by decide +kernel
theorem dX4_readStatementName_91 : decode cX4_readStatementName 91 = .ok (.ireturn, 1) := by decide +kernel
theorem dX4_readKnownName_0 : decode cX4_readKnownName 0 = .ok (.aload_n 0, 1) := by decide +kernel
theorem dX4_readKnownName_1 : decode cX4_readKnownName 1 = .ok (.getfield 18, 3) := by decide +kernel
theorem dX4_readKnownName_4 : decode cX4_readKnownName 4 = .ok (.aload_n 0, 1) := by decide +kernel
theorem dX4_readKnownName_5 : decode cX4_readKnownName 5 = .ok (.getfield 26, 3) := by decide +kernel
theorem dX4_readKnownName_8 : decode cX4_readKnownName 8 = .ok (.invokevirtual 58, 3) := by decide +kernel
theorem dX4_readKnownName_11 : decode cX4_readKnownName 11 = .ok (.sipush 258, 3) := by decide +kernel
theorem dX4_readKnownName_14 : decode cX4_readKnownName 14 = .ok (.if_icmp .eq 5, 3) := by decide +kernel
theorem dX4_readKnownName_17 : decode cX4_readKnownName 17 = .ok (.iconst (-1), 1) := by decide +kernel
theorem dX4_readKnownName_18 : decode cX4_readKnownName 18 = .ok (.ireturn, 1) := by decide +kernel
theorem dX4_readKnownName_19 : decode cX4_readKnownName 19 = .ok (.aload_n 1, 1) := by decide +kernel
theorem dX4_readKnownName_20 : decode cX4_readKnownName 20 = .ok (.iload_n 2, 1) := by decide +kernel
theorem dX4_readKnownName_21 : decode cX4_readKnownName 21 = .ok (.aload_n 0, 1) := by decide +kernel
theorem dX4_readKnownName_22 : decode cX4_readKnownName 22 = .ok (.getfield 18, 3) := by decide +kernel
theorem dX4_readKnownName_25 : decode cX4_readKnownName 25 = .ok (.aload_n 0, 1) := by decide +kernel
theorem dX4_readKnownName_26 : decode cX4_readKnownName 26 = .ok (.getfield 26, 3) := by decide +kernel
theorem dX4_readKnownName_29 : decode cX4_readKnownName 29 = .ok (.invokevirtual 71, 3) := by decide +kernel
theorem dX4_readKnownName_32 : decode cX4_readKnownName 32 = .ok (.invokestatic 78, 3) := by decide +kernel
theorem dX4_readKnownName_35 : decode cX4_readKnownName 35 = .ok (.istore_n 3, 1) := by decide +kernel
theorem dX4_readKnownName_36 : decode cX4_readKnownName 36 = .ok (.iload_n 3, 1) := by decide +kernel
theorem dX4_readKnownName_37 : decode cX4_readKnownName 37 = .ok (.ifCond .ge 8, 3) := by decide +kernel
theorem dX4_readKnownName_40 : decode cX4_readKnownName 40 = .ok (.aload_n 0, 1) := by decide +kernel
theorem dX4_readKnownName_41 : decode cX4_readKnownName 41 = .ok (.iconst 3, 1) := by decide +kernel
theorem dX4_readKnownName_42 : decode cX4_readKnownName 42 = .ok (.invokevirtual 82, 3) := by decide +kernel
theorem dX4_readKnownName_45 : decode cX4_readKnownName 45 = .ok (.aload_n 0, 1) := by decide +kernel
theorem dX4_readKnownName_46 : decode cX4_readKnownName 46 = .ok (.dup, 1) := by decide +kernel
theorem dX4_readKnownName_47 : decode cX4_readKnownName 47 = .ok (.getfield 26, 3) := by decide +kernel
theorem dX4_readKnownName_50 : decode cX4_readKnownName 50 = .ok (.iconst 1, 1) := by decide +kernel
theorem dX4_readKnownName_51 : decode cX4_readKnownName 51 = .ok (.iadd, 1) := by decide +kernel
theorem dX4_readKnownName_52 : decode cX4_readKnownName 52 = .ok (.putfield 26, 3) := by decide +kernel
theorem dX4_readKnownName_55 : decode cX4_readKnownName 55 = .ok (.iload_n 3, 1) := by decide +kernel
theorem dX4_readKnownName_56 : decode cX4_readKnownName 56 = .ok (.iconst 0, 1) := by decide +kernel
theorem dX4_readKnownName_57 : decode cX4_readKnownName 57 = .ok (.invokestatic 100, 3) := by decide +kernel
theorem dX4_readKnownName_60 : decode cX4_readKnownName 60 = .ok (.ireturn, 1) := by decide +kernel
theorem dX4_readClaim_0 : decode cX4_readClaim 0 = .ok (.aload_n 0, 1) := by decide +kernel
theorem dX4_readClaim_1 : decode cX4_readClaim 1 = .ok (.aload_n 0, 1) := by decide +kernel
theorem dX4_readClaim_2 : decode cX4_readClaim 2 = .ok (.getfield 9, 3) := by decide +kernel
theorem dX4_readClaim_5 : decode cX4_readClaim 5 = .ok (.aload_n 0, 1) := by decide +kernel
theorem dX4_readClaim_6 : decode cX4_readClaim 6 = .ok (.getfield 22, 3) := by decide +kernel
theorem dX4_readClaim_9 : decode cX4_readClaim 9 = .ok (.getfield 75, 3) := by decide +kernel
theorem dX4_readClaim_12 : decode cX4_readClaim 12 = .ok (.invokevirtual 106, 3) := by decide +kernel
theorem dX4_readClaim_15 : decode cX4_readClaim 15 = .ok (.istore_n 1, 1) := by decide +kernel
theorem dX4_readClaim_16 : decode cX4_readClaim 16 = .ok (.iload_n 1, 1) := by decide +kernel
theorem dX4_readClaim_17 : decode cX4_readClaim 17 = .ok (.ifCond .ge 5, 3) := by decide +kernel
theorem dX4_readClaim_20 : decode cX4_readClaim 20 = .ok (.iconst (-1), 1) := by decide +kernel
theorem dX4_readClaim_21 : decode cX4_readClaim 21 = .ok (.ireturn, 1) := by decide +kernel
theorem dX4_readClaim_22 : decode cX4_readClaim 22 = .ok (.aload_n 0, 1) := by decide +kernel
theorem dX4_readClaim_23 : decode cX4_readClaim 23 = .ok (.sipush 310, 3) := by decide +kernel
theorem dX4_readClaim_26 : decode cX4_readClaim 26 = .ok (.invokevirtual 46, 3) := by decide +kernel
theorem dX4_readClaim_29 : decode cX4_readClaim 29 = .ok (.ifCond .eq 7, 3) := by decide +kernel
theorem dX4_readClaim_32 : decode cX4_readClaim 32 = .ok (.iconst 2, 1) := by decide +kernel
theorem dX4_readClaim_33 : decode cX4_readClaim 33 = .ok (.iload_n 1, 1) := by decide +kernel
theorem dX4_readClaim_34 : decode cX4_readClaim 34 = .ok (.imul, 1) := by decide +kernel
theorem dX4_readClaim_35 : decode cX4_readClaim 35 = .ok (.ireturn, 1) := by decide +kernel
theorem dX4_readClaim_36 : decode cX4_readClaim 36 = .ok (.aload_n 0, 1) := by decide +kernel
theorem dX4_readClaim_37 : decode cX4_readClaim 37 = .ok (.sipush 311, 3) := by decide +kernel
theorem dX4_readClaim_40 : decode cX4_readClaim 40 = .ok (.invokevirtual 46, 3) := by decide +kernel
theorem dX4_readClaim_43 : decode cX4_readClaim 43 = .ok (.ifCond .eq 11, 3) := by decide +kernel
theorem dX4_readClaim_46 : decode cX4_readClaim 46 = .ok (.iconst 2, 1) := by decide +kernel
theorem dX4_readClaim_47 : decode cX4_readClaim 47 = .ok (.iload_n 1, 1) := by decide +kernel
theorem dX4_readClaim_48 : decode cX4_readClaim 48 = .ok (.imul, 1) := by decide +kernel
theorem dX4_readClaim_49 : decode cX4_readClaim 49 = .ok (.iconst 1, 1) := by decide +kernel
theorem dX4_readClaim_50 : decode cX4_readClaim 50 = .ok (.iadd, 1) := by decide +kernel
theorem dX4_readClaim_51 : decode cX4_readClaim 51 = .ok (.goto 4, 3) := by decide +kernel
theorem dX4_readClaim_54 : decode cX4_readClaim 54 = .ok (.iconst (-1), 1) := by decide +kernel
theorem dX4_readClaim_55 : decode cX4_readClaim 55 = .ok (.ireturn, 1) := by decide +kernel
theorem dX4_readOrder_0 : decode cX4_readOrder 0 = .ok (.aload_n 0, 1) := by decide +kernel
theorem dX4_readOrder_1 : decode cX4_readOrder 1 = .ok (.sipush 313, 3) := by decide +kernel
theorem dX4_readOrder_4 : decode cX4_readOrder 4 = .ok (.invokevirtual 38, 3) := by decide +kernel
theorem dX4_readOrder_7 : decode cX4_readOrder 7 = .ok (.istore_n 1, 1) := by decide +kernel
theorem dX4_readOrder_8 : decode cX4_readOrder 8 = .ok (.aload_n 0, 1) := by decide +kernel
theorem dX4_readOrder_9 : decode cX4_readOrder 9 = .ok (.getfield 22, 3) := by decide +kernel
theorem dX4_readOrder_12 : decode cX4_readOrder 12 = .ok (.getfield 110, 3) := by decide +kernel
theorem dX4_readOrder_15 : decode cX4_readOrder 15 = .ok (.bipush 16, 2) := by decide +kernel
theorem dX4_readOrder_17 : decode cX4_readOrder 17 = .ok (.if_icmp .lt 8, 3) := by decide +kernel
theorem dX4_readOrder_20 : decode cX4_readOrder 20 = .ok (.aload_n 0, 1) := by decide +kernel
theorem dX4_readOrder_21 : decode cX4_readOrder 21 = .ok (.iconst 4, 1) := by decide +kernel
theorem dX4_readOrder_22 : decode cX4_readOrder 22 = .ok (.invokevirtual 82, 3) := by decide +kernel
theorem dX4_readOrder_25 : decode cX4_readOrder 25 = .ok (.aload_n 0, 1) := by decide +kernel
theorem dX4_readOrder_26 : decode cX4_readOrder 26 = .ok (.dup, 1) := by decide +kernel
theorem dX4_readOrder_27 : decode cX4_readOrder 27 = .ok (.getfield 26, 3) := by decide +kernel
theorem dX4_readOrder_30 : decode cX4_readOrder 30 = .ok (.iconst 1, 1) := by decide +kernel
theorem dX4_readOrder_31 : decode cX4_readOrder 31 = .ok (.iadd, 1) := by decide +kernel
theorem dX4_readOrder_32 : decode cX4_readOrder 32 = .ok (.putfield 26, 3) := by decide +kernel
theorem dX4_readOrder_35 : decode cX4_readOrder 35 = .ok (.aload_n 0, 1) := by decide +kernel
theorem dX4_readOrder_36 : decode cX4_readOrder 36 = .ok (.aload_n 0, 1) := by decide +kernel
theorem dX4_readOrder_37 : decode cX4_readOrder 37 = .ok (.getfield 15, 3) := by decide +kernel
theorem dX4_readOrder_40 : decode cX4_readOrder 40 = .ok (.aload_n 0, 1) := by decide +kernel
theorem dX4_readOrder_41 : decode cX4_readOrder 41 = .ok (.getfield 22, 3) := by decide +kernel
theorem dX4_readOrder_44 : decode cX4_readOrder 44 = .ok (.getfield 97, 3) := by decide +kernel
theorem dX4_readOrder_47 : decode cX4_readOrder 47 = .ok (.invokevirtual 106, 3) := by decide +kernel
theorem dX4_readOrder_50 : decode cX4_readOrder 50 = .ok (.istore_n 2, 1) := by decide +kernel
theorem dX4_readOrder_51 : decode cX4_readOrder 51 = .ok (.iload_n 2, 1) := by decide +kernel
theorem dX4_readOrder_52 : decode cX4_readOrder 52 = .ok (.ifCond .ge 5, 3) := by decide +kernel
theorem dX4_readOrder_55 : decode cX4_readOrder 55 = .ok (.iconst 0, 1) := by decide +kernel
theorem dX4_readOrder_56 : decode cX4_readOrder 56 = .ok (.ireturn, 1) := by decide +kernel
theorem dX4_readOrder_57 : decode cX4_readOrder 57 = .ok (.aload_n 0, 1) := by decide +kernel
theorem dX4_readOrder_58 : decode cX4_readOrder 58 = .ok (.getfield 22, 3) := by decide +kernel
theorem dX4_readOrder_61 : decode cX4_readOrder 61 = .ok (.getfield 113, 3) := by decide +kernel
theorem dX4_readOrder_64 : decode cX4_readOrder 64 = .ok (.istore_n 3, 1) := by decide +kernel
theorem dX4_readOrder_65 : decode cX4_readOrder 65 = .ok (.aload_n 0, 1) := by decide +kernel
theorem dX4_readOrder_66 : decode cX4_readOrder 66 = .ok (.sipush 314, 3) := by decide +kernel
theorem dX4_readOrder_69 : decode cX4_readOrder 69 = .ok (.invokevirtual 46, 3) := by decide +kernel
theorem dX4_readOrder_72 : decode cX4_readOrder 72 = .ok (.ifCond .eq 13, 3) := by decide +kernel
theorem dX4_readOrder_75 : decode cX4_readOrder 75 = .ok (.aload_n 0, 1) := by decide +kernel
theorem dX4_readOrder_76 : decode cX4_readOrder 76 = .ok (.iconst 0, 1) := by decide +kernel
theorem dX4_readOrder_77 : decode cX4_readOrder 77 = .ok (.invokevirtual 116, 3) := by decide +kernel
theorem dX4_readOrder_80 : decode cX4_readOrder 80 = .ok (.ifCond .ne 5, 3) := by decide +kernel
theorem dX4_readOrder_83 : decode cX4_readOrder 83 = .ok (.iconst 0, 1) := by decide +kernel
theorem dX4_readOrder_84 : decode cX4_readOrder 84 = .ok (.ireturn, 1) := by decide +kernel
theorem dX4_readOrder_85 : decode cX4_readOrder 85 = .ok (.aload_n 0, 1) := by decide +kernel
theorem dX4_readOrder_86 : decode cX4_readOrder 86 = .ok (.getfield 22, 3) := by decide +kernel
theorem dX4_readOrder_89 : decode cX4_readOrder 89 = .ok (.iload_n 1, 1) := by decide +kernel
theorem dX4_readOrder_90 : decode cX4_readOrder 90 = .ok (.iload_n 2, 1) := by decide +kernel
theorem dX4_readOrder_91 : decode cX4_readOrder 91 = .ok (.iload_n 3, 1) := by decide +kernel
theorem dX4_readOrder_92 : decode cX4_readOrder 92 = .ok (.invokevirtual 119, 3) := by decide +kernel
theorem dX4_readOrder_95 : decode cX4_readOrder 95 = .ok (.iconst 1, 1) := by decide +kernel
theorem dX4_readOrder_96 : decode cX4_readOrder 96 = .ok (.ireturn, 1) := by decide +kernel
theorem dX4_readTest_0 : decode cX4_readTest 0 = .ok (.aload_n 0, 1) := by decide +kernel
theorem dX4_readTest_1 : decode cX4_readTest 1 = .ok (.iload_n 1, 1) := by decide +kernel
theorem dX4_readTest_2 : decode cX4_readTest 2 = .ok (.invokevirtual 123, 3) := by decide +kernel
theorem dX4_readTest_5 : decode cX4_readTest 5 = .ok (.ifCond .ne 5, 3) := by decide +kernel
theorem dX4_readTest_8 : decode cX4_readTest 8 = .ok (.iconst 0, 1) := by decide +kernel
theorem dX4_readTest_9 : decode cX4_readTest 9 = .ok (.ireturn, 1) := by decide +kernel
theorem dX4_readTest_10 : decode cX4_readTest 10 = .ok (.iconst 0, 1) := by decide +kernel
theorem dX4_readTest_11 : decode cX4_readTest 11 = .ok (.istore_n 2, 1) := by decide +kernel
theorem dX4_readTest_12 : decode cX4_readTest 12 = .ok (.iload_n 2, 1) := by decide +kernel
theorem dX4_readTest_13 : decode cX4_readTest 13 = .ok (.sipush 400, 3) := by decide +kernel
theorem dX4_readTest_16 : decode cX4_readTest 16 = .ok (.if_icmp .ge 41, 3) := by decide +kernel
theorem dX4_readTest_19 : decode cX4_readTest 19 = .ok (.aload_n 0, 1) := by decide +kernel
theorem dX4_readTest_20 : decode cX4_readTest 20 = .ok (.sipush 306, 3) := by decide +kernel
theorem dX4_readTest_23 : decode cX4_readTest 23 = .ok (.invokevirtual 46, 3) := by decide +kernel
theorem dX4_readTest_26 : decode cX4_readTest 26 = .ok (.ifCond .eq 31, 3) := by decide +kernel
theorem dX4_readTest_29 : decode cX4_readTest 29 = .ok (.aload_n 0, 1) := by decide +kernel
theorem dX4_readTest_30 : decode cX4_readTest 30 = .ok (.iload_n 1, 1) := by decide +kernel
theorem dX4_readTest_31 : decode cX4_readTest 31 = .ok (.invokevirtual 123, 3) := by decide +kernel
theorem dX4_readTest_34 : decode cX4_readTest 34 = .ok (.ifCond .ne 5, 3) := by decide +kernel
theorem dX4_readTest_37 : decode cX4_readTest 37 = .ok (.iconst 0, 1) := by decide +kernel
theorem dX4_readTest_38 : decode cX4_readTest 38 = .ok (.ireturn, 1) := by decide +kernel
theorem dX4_readTest_39 : decode cX4_readTest 39 = .ok (.aload_n 0, 1) := by decide +kernel
theorem dX4_readTest_40 : decode cX4_readTest 40 = .ok (.getfield 22, 3) := by decide +kernel
theorem dX4_readTest_43 : decode cX4_readTest 43 = .ok (.sipush 306, 3) := by decide +kernel
theorem dX4_readTest_46 : decode cX4_readTest 46 = .ok (.iconst 0, 1) := by decide +kernel
theorem dX4_readTest_47 : decode cX4_readTest 47 = .ok (.iconst 0, 1) := by decide +kernel
theorem dX4_readTest_48 : decode cX4_readTest 48 = .ok (.invokevirtual 126, 3) := by decide +kernel
theorem dX4_readTest_51 : decode cX4_readTest 51 = .ok (.iinc 2 1, 3) := by decide +kernel
theorem dX4_readTest_54 : decode cX4_readTest 54 = .ok (.goto (-42), 3) := by decide +kernel
theorem dX4_readTest_57 : decode cX4_readTest 57 = .ok (.iconst 1, 1) := by decide +kernel
theorem dX4_readTest_58 : decode cX4_readTest 58 = .ok (.ireturn, 1) := by decide +kernel
theorem dX4_readBoth_0 : decode cX4_readBoth 0 = .ok (.aload_n 0, 1) := by decide +kernel
theorem dX4_readBoth_1 : decode cX4_readBoth 1 = .ok (.iload_n 1, 1) := by decide +kernel
theorem dX4_readBoth_2 : decode cX4_readBoth 2 = .ok (.invokevirtual 129, 3) := by decide +kernel
theorem dX4_readBoth_5 : decode cX4_readBoth 5 = .ok (.ifCond .ne 5, 3) := by decide +kernel
theorem dX4_readBoth_8 : decode cX4_readBoth 8 = .ok (.iconst 0, 1) := by decide +kernel
theorem dX4_readBoth_9 : decode cX4_readBoth 9 = .ok (.ireturn, 1) := by decide +kernel
theorem dX4_readBoth_10 : decode cX4_readBoth 10 = .ok (.iconst 0, 1) := by decide +kernel
theorem dX4_readBoth_11 : decode cX4_readBoth 11 = .ok (.istore_n 2, 1) := by decide +kernel
theorem dX4_readBoth_12 : decode cX4_readBoth 12 = .ok (.iload_n 2, 1) := by decide +kernel
theorem dX4_readBoth_13 : decode cX4_readBoth 13 = .ok (.sipush 400, 3) := by decide +kernel
theorem dX4_readBoth_16 : decode cX4_readBoth 16 = .ok (.if_icmp .ge 41, 3) := by decide +kernel
theorem dX4_readBoth_19 : decode cX4_readBoth 19 = .ok (.aload_n 0, 1) := by decide +kernel
theorem dX4_readBoth_20 : decode cX4_readBoth 20 = .ok (.sipush 324, 3) := by decide +kernel
theorem dX4_readBoth_23 : decode cX4_readBoth 23 = .ok (.invokevirtual 46, 3) := by decide +kernel
theorem dX4_readBoth_26 : decode cX4_readBoth 26 = .ok (.ifCond .eq 31, 3) := by decide +kernel
theorem dX4_readBoth_29 : decode cX4_readBoth 29 = .ok (.aload_n 0, 1) := by decide +kernel
theorem dX4_readBoth_30 : decode cX4_readBoth 30 = .ok (.iload_n 1, 1) := by decide +kernel
theorem dX4_readBoth_31 : decode cX4_readBoth 31 = .ok (.invokevirtual 129, 3) := by decide +kernel
theorem dX4_readBoth_34 : decode cX4_readBoth 34 = .ok (.ifCond .ne 5, 3) := by decide +kernel
theorem dX4_readBoth_37 : decode cX4_readBoth 37 = .ok (.iconst 0, 1) := by decide +kernel
theorem dX4_readBoth_38 : decode cX4_readBoth 38 = .ok (.ireturn, 1) := by decide +kernel
theorem dX4_readBoth_39 : decode cX4_readBoth 39 = .ok (.aload_n 0, 1) := by decide +kernel
theorem dX4_readBoth_40 : decode cX4_readBoth 40 = .ok (.getfield 22, 3) := by decide +kernel
theorem dX4_readBoth_43 : decode cX4_readBoth 43 = .ok (.sipush 324, 3) := by decide +kernel
theorem dX4_readBoth_46 : decode cX4_readBoth 46 = .ok (.iconst 0, 1) := by decide +kernel
theorem dX4_readBoth_47 : decode cX4_readBoth 47 = .ok (.iconst 0, 1) := by decide +kernel
theorem dX4_readBoth_48 : decode cX4_readBoth 48 = .ok (.invokevirtual 126, 3) := by decide +kernel
theorem dX4_readBoth_51 : decode cX4_readBoth 51 = .ok (.iinc 2 1, 3) := by decide +kernel
theorem dX4_readBoth_54 : decode cX4_readBoth 54 = .ok (.goto (-42), 3) := by decide +kernel
theorem dX4_readBoth_57 : decode cX4_readBoth 57 = .ok (.iconst 1, 1) := by decide +kernel
theorem dX4_readBoth_58 : decode cX4_readBoth 58 = .ok (.ireturn, 1) := by decide +kernel
theorem dX4_readSingle_0 : decode cX4_readSingle 0 = .ok (.aload_n 0, 1) := by decide +kernel
theorem dX4_readSingle_1 : decode cX4_readSingle 1 = .ok (.getfield 18, 3) := by decide +kernel
theorem dX4_readSingle_4 : decode cX4_readSingle 4 = .ok (.aload_n 0, 1) := by decide +kernel
theorem dX4_readSingle_5 : decode cX4_readSingle 5 = .ok (.getfield 26, 3) := by decide +kernel
theorem dX4_readSingle_8 : decode cX4_readSingle 8 = .ok (.invokevirtual 58, 3) := by decide +kernel
theorem dX4_readSingle_11 : decode cX4_readSingle 11 = .ok (.lookupswitch 272 #[(91, 86), (319, 121), (320, 158), (321, 206), (323, 49)], 49) := by decide +kernel
theorem dX4_readSingle_60 : decode cX4_readSingle 60 = .ok (.aload_n 0, 1) := by decide +kernel
theorem dX4_readSingle_61 : decode cX4_readSingle 61 = .ok (.sipush 323, 3) := by decide +kernel
theorem dX4_readSingle_64 : decode cX4_readSingle 64 = .ok (.iload_n 1, 1) := by decide +kernel
theorem dX4_readSingle_65 : decode cX4_readSingle 65 = .ok (.invokevirtual 132, 3) := by decide +kernel
theorem dX4_readSingle_68 : decode cX4_readSingle 68 = .ok (.ifCond .eq 13, 3) := by decide +kernel
theorem dX4_readSingle_71 : decode cX4_readSingle 71 = .ok (.aload_n 0, 1) := by decide +kernel
theorem dX4_readSingle_72 : decode cX4_readSingle 72 = .ok (.iload_n 1, 1) := by decide +kernel
theorem dX4_readSingle_73 : decode cX4_readSingle 73 = .ok (.iconst 1, 1) := by decide +kernel
theorem dX4_readSingle_74 : decode cX4_readSingle 74 = .ok (.iadd, 1) := by decide +kernel
theorem dX4_readSingle_75 : decode cX4_readSingle 75 = .ok (.invokevirtual 129, 3) := by decide +kernel
theorem dX4_readSingle_78 : decode cX4_readSingle 78 = .ok (.ifCond .ne 5, 3) := by decide +kernel
theorem dX4_readSingle_81 : decode cX4_readSingle 81 = .ok (.iconst 0, 1) := by decide +kernel
theorem dX4_readSingle_82 : decode cX4_readSingle 82 = .ok (.ireturn, 1) := by decide +kernel
theorem dX4_readSingle_83 : decode cX4_readSingle 83 = .ok (.aload_n 0, 1) := by decide +kernel
theorem dX4_readSingle_84 : decode cX4_readSingle 84 = .ok (.getfield 22, 3) := by decide +kernel
theorem dX4_readSingle_87 : decode cX4_readSingle 87 = .ok (.sipush 323, 3) := by decide +kernel
theorem dX4_readSingle_90 : decode cX4_readSingle 90 = .ok (.iconst 0, 1) := by decide +kernel
theorem dX4_readSingle_91 : decode cX4_readSingle 91 = .ok (.iconst 0, 1) := by decide +kernel
theorem dX4_readSingle_92 : decode cX4_readSingle 92 = .ok (.invokevirtual 126, 3) := by decide +kernel
theorem dX4_readSingle_95 : decode cX4_readSingle 95 = .ok (.iconst 1, 1) := by decide +kernel
theorem dX4_readSingle_96 : decode cX4_readSingle 96 = .ok (.ireturn, 1) := by decide +kernel
theorem dX4_readSingle_97 : decode cX4_readSingle 97 = .ok (.aload_n 0, 1) := by decide +kernel
theorem dX4_readSingle_98 : decode cX4_readSingle 98 = .ok (.bipush 91, 2) := by decide +kernel
theorem dX4_readSingle_100 : decode cX4_readSingle 100 = .ok (.iload_n 1, 1) := by decide +kernel
theorem dX4_readSingle_101 : decode cX4_readSingle 101 = .ok (.invokevirtual 132, 3) := by decide +kernel
theorem dX4_readSingle_104 : decode cX4_readSingle 104 = .ok (.ifCond .eq 26, 3) := by decide +kernel
theorem dX4_readSingle_107 : decode cX4_readSingle 107 = .ok (.aload_n 0, 1) := by decide +kernel
theorem dX4_readSingle_108 : decode cX4_readSingle 108 = .ok (.iload_n 1, 1) := by decide +kernel
theorem dX4_readSingle_109 : decode cX4_readSingle 109 = .ok (.iconst 1, 1) := by decide +kernel
theorem dX4_readSingle_110 : decode cX4_readSingle 110 = .ok (.iadd, 1) := by decide +kernel
theorem dX4_readSingle_111 : decode cX4_readSingle 111 = .ok (.invokevirtual 116, 3) := by decide +kernel
theorem dX4_readSingle_114 : decode cX4_readSingle 114 = .ok (.ifCond .eq 16, 3) := by decide +kernel
theorem dX4_readSingle_117 : decode cX4_readSingle 117 = .ok (.aload_n 0, 1) := by decide +kernel
theorem dX4_readSingle_118 : decode cX4_readSingle 118 = .ok (.bipush 93, 2) := by decide +kernel
theorem dX4_readSingle_120 : decode cX4_readSingle 120 = .ok (.invokevirtual 46, 3) := by decide +kernel
theorem dX4_readSingle_123 : decode cX4_readSingle 123 = .ok (.ifCond .eq 7, 3) := by decide +kernel
theorem dX4_readSingle_126 : decode cX4_readSingle 126 = .ok (.iconst 1, 1) := by decide +kernel
theorem dX4_readSingle_127 : decode cX4_readSingle 127 = .ok (.goto 4, 3) := by decide +kernel
theorem dX4_readSingle_130 : decode cX4_readSingle 130 = .ok (.iconst 0, 1) := by decide +kernel
theorem dX4_readSingle_131 : decode cX4_readSingle 131 = .ok (.ireturn, 1) := by decide +kernel
theorem dX4_readSingle_132 : decode cX4_readSingle 132 = .ok (.aload_n 0, 1) := by decide +kernel
theorem dX4_readSingle_133 : decode cX4_readSingle 133 = .ok (.dup, 1) := by decide +kernel
theorem dX4_readSingle_134 : decode cX4_readSingle 134 = .ok (.getfield 26, 3) := by decide +kernel
theorem dX4_readSingle_137 : decode cX4_readSingle 137 = .ok (.iconst 1, 1) := by decide +kernel
theorem dX4_readSingle_138 : decode cX4_readSingle 138 = .ok (.iadd, 1) := by decide +kernel
theorem dX4_readSingle_139 : decode cX4_readSingle 139 = .ok (.putfield 26, 3) := by decide +kernel
theorem dX4_readSingle_142 : decode cX4_readSingle 142 = .ok (.aload_n 0, 1) := by decide +kernel
theorem dX4_readSingle_143 : decode cX4_readSingle 143 = .ok (.invokevirtual 89, 3) := by decide +kernel
theorem dX4_readSingle_146 : decode cX4_readSingle 146 = .ok (.istore_n 2, 1) := by decide +kernel
theorem dX4_readSingle_147 : decode cX4_readSingle 147 = .ok (.aload_n 0, 1) := by decide +kernel
theorem dX4_readSingle_148 : decode cX4_readSingle 148 = .ok (.getfield 22, 3) := by decide +kernel
theorem dX4_readSingle_151 : decode cX4_readSingle 151 = .ok (.sipush 319, 3) := by decide +kernel
theorem dX4_readSingle_154 : decode cX4_readSingle 154 = .ok (.iload_n 2, 1) := by decide +kernel
theorem dX4_readSingle_155 : decode cX4_readSingle 155 = .ok (.iconst 0, 1) := by decide +kernel
theorem dX4_readSingle_156 : decode cX4_readSingle 156 = .ok (.invokevirtual 126, 3) := by decide +kernel
theorem dX4_readSingle_159 : decode cX4_readSingle 159 = .ok (.iload_n 2, 1) := by decide +kernel
theorem dX4_readSingle_160 : decode cX4_readSingle 160 = .ok (.ifCond .lt 7, 3) := by decide +kernel
theorem dX4_readSingle_163 : decode cX4_readSingle 163 = .ok (.iconst 1, 1) := by decide +kernel
theorem dX4_readSingle_164 : decode cX4_readSingle 164 = .ok (.goto 4, 3) := by decide +kernel
theorem dX4_readSingle_167 : decode cX4_readSingle 167 = .ok (.iconst 0, 1) := by decide +kernel
theorem dX4_readSingle_168 : decode cX4_readSingle 168 = .ok (.ireturn, 1) := by decide +kernel
theorem dX4_readSingle_169 : decode cX4_readSingle 169 = .ok (.aload_n 0, 1) := by decide +kernel
theorem dX4_readSingle_170 : decode cX4_readSingle 170 = .ok (.dup, 1) := by decide +kernel
theorem dX4_readSingle_171 : decode cX4_readSingle 171 = .ok (.getfield 26, 3) := by decide +kernel
theorem dX4_readSingle_174 : decode cX4_readSingle 174 = .ok (.iconst 1, 1) := by decide +kernel
theorem dX4_readSingle_175 : decode cX4_readSingle 175 = .ok (.iadd, 1) := by decide +kernel
theorem dX4_readSingle_176 : decode cX4_readSingle 176 = .ok (.putfield 26, 3) := by decide +kernel
theorem dX4_readSingle_179 : decode cX4_readSingle 179 = .ok (.aload_n 0, 1) := by decide +kernel
theorem dX4_readSingle_180 : decode cX4_readSingle 180 = .ok (.aload_n 0, 1) := by decide +kernel
theorem dX4_readSingle_181 : decode cX4_readSingle 181 = .ok (.getfield 15, 3) := by decide +kernel
theorem dX4_readSingle_184 : decode cX4_readSingle 184 = .ok (.aload_n 0, 1) := by decide +kernel
theorem dX4_readSingle_185 : decode cX4_readSingle 185 = .ok (.getfield 22, 3) := by decide +kernel
theorem dX4_readSingle_188 : decode cX4_readSingle 188 = .ok (.getfield 97, 3) := by decide +kernel
theorem dX4_readSingle_191 : decode cX4_readSingle 191 = .ok (.invokevirtual 106, 3) := by decide +kernel
theorem dX4_readSingle_194 : decode cX4_readSingle 194 = .ok (.istore_n 3, 1) := by decide +kernel
theorem dX4_readSingle_195 : decode cX4_readSingle 195 = .ok (.aload_n 0, 1) := by decide +kernel
theorem dX4_readSingle_196 : decode cX4_readSingle 196 = .ok (.getfield 22, 3) := by decide +kernel
theorem dX4_readSingle_199 : decode cX4_readSingle 199 = .ok (.sipush 320, 3) := by decide +kernel
theorem dX4_readSingle_202 : decode cX4_readSingle 202 = .ok (.iload_n 3, 1) := by decide +kernel
theorem dX4_readSingle_203 : decode cX4_readSingle 203 = .ok (.iconst 0, 1) := by decide +kernel
theorem dX4_readSingle_204 : decode cX4_readSingle 204 = .ok (.invokevirtual 126, 3) := by decide +kernel
theorem dX4_readSingle_207 : decode cX4_readSingle 207 = .ok (.iload_n 3, 1) := by decide +kernel
theorem dX4_readSingle_208 : decode cX4_readSingle 208 = .ok (.ifCond .lt 7, 3) := by decide +kernel
theorem dX4_readSingle_211 : decode cX4_readSingle 211 = .ok (.iconst 1, 1) := by decide +kernel
theorem dX4_readSingle_212 : decode cX4_readSingle 212 = .ok (.goto 4, 3) := by decide +kernel
theorem dX4_readSingle_215 : decode cX4_readSingle 215 = .ok (.iconst 0, 1) := by decide +kernel
theorem dX4_readSingle_216 : decode cX4_readSingle 216 = .ok (.ireturn, 1) := by decide +kernel
theorem dX4_readSingle_217 : decode cX4_readSingle 217 = .ok (.aload_n 0, 1) := by decide +kernel
theorem dX4_readSingle_218 : decode cX4_readSingle 218 = .ok (.dup, 1) := by decide +kernel
theorem dX4_readSingle_219 : decode cX4_readSingle 219 = .ok (.getfield 26, 3) := by decide +kernel
theorem dX4_readSingle_222 : decode cX4_readSingle 222 = .ok (.iconst 1, 1) := by decide +kernel
theorem dX4_readSingle_223 : decode cX4_readSingle 223 = .ok (.iadd, 1) := by decide +kernel
theorem dX4_readSingle_224 : decode cX4_readSingle 224 = .ok (.putfield 26, 3) := by decide +kernel
theorem dX4_readSingle_227 : decode cX4_readSingle 227 = .ok (.aload_n 0, 1) := by decide +kernel
theorem dX4_readSingle_228 : decode cX4_readSingle 228 = .ok (.invokevirtual 89, 3) := by decide +kernel
theorem dX4_readSingle_231 : decode cX4_readSingle 231 = .ok (.istore 4, 2) := by decide +kernel
theorem dX4_readSingle_233 : decode cX4_readSingle 233 = .ok (.iload 4, 2) := by decide +kernel
theorem dX4_readSingle_235 : decode cX4_readSingle 235 = .ok (.ifCond .lt 20, 3) := by decide +kernel
theorem dX4_readSingle_238 : decode cX4_readSingle 238 = .ok (.aload_n 0, 1) := by decide +kernel
theorem dX4_readSingle_239 : decode cX4_readSingle 239 = .ok (.sipush 322, 3) := by decide +kernel
theorem dX4_readSingle_242 : decode cX4_readSingle 242 = .ok (.invokevirtual 46, 3) := by decide +kernel
theorem dX4_readSingle_245 : decode cX4_readSingle 245 = .ok (.ifCond .eq 10, 3) := by decide +kernel
theorem dX4_readSingle_248 : decode cX4_readSingle 248 = .ok (.aload_n 0, 1) := by decide +kernel
end
section
theorem dX4_readSingle_249 : decode cX4_readSingle 249 = .ok (.invokevirtual 89, 3) := by decide +kernel
theorem dX4_readSingle_252 : decode cX4_readSingle 252 = .ok (.goto 4, 3) := by decide +kernel
theorem dX4_readSingle_255 : decode cX4_readSingle 255 = .ok (.iconst (-1), 1) := by decide +kernel
theorem dX4_readSingle_256 : decode cX4_readSingle 256 = .ok (.istore 5, 2) := by decide +kernel
theorem dX4_readSingle_258 : decode cX4_readSingle 258 = .ok (.aload_n 0, 1) := by decide +kernel
theorem dX4_readSingle_259 : decode cX4_readSingle 259 = .ok (.getfield 22, 3) := by decide +kernel
theorem dX4_readSingle_262 : decode cX4_readSingle 262 = .ok (.sipush 321, 3) := by decide +kernel
theorem dX4_readSingle_265 : decode cX4_readSingle 265 = .ok (.iload 4, 2) := by decide +kernel
theorem dX4_readSingle_267 : decode cX4_readSingle 267 = .ok (.iload 5, 2) := by decide +kernel
theorem dX4_readSingle_269 : decode cX4_readSingle 269 = .ok (.invokevirtual 126, 3) := by decide +kernel
theorem dX4_readSingle_272 : decode cX4_readSingle 272 = .ok (.iload 5, 2) := by decide +kernel
theorem dX4_readSingle_274 : decode cX4_readSingle 274 = .ok (.ifCond .lt 7, 3) := by decide +kernel
theorem dX4_readSingle_277 : decode cX4_readSingle 277 = .ok (.iconst 1, 1) := by decide +kernel
theorem dX4_readSingle_278 : decode cX4_readSingle 278 = .ok (.goto 4, 3) := by decide +kernel
theorem dX4_readSingle_281 : decode cX4_readSingle 281 = .ok (.iconst 0, 1) := by decide +kernel
theorem dX4_readSingle_282 : decode cX4_readSingle 282 = .ok (.ireturn, 1) := by decide +kernel
theorem dX4_readSingle_283 : decode cX4_readSingle 283 = .ok (.aload_n 0, 1) := by decide +kernel
theorem dX4_readSingle_284 : decode cX4_readSingle 284 = .ok (.iload_n 1, 1) := by decide +kernel
theorem dX4_readSingle_285 : decode cX4_readSingle 285 = .ok (.invokevirtual 136, 3) := by decide +kernel
theorem dX4_readSingle_288 : decode cX4_readSingle 288 = .ok (.ifCond .ne 5, 3) := by decide +kernel
theorem dX4_readSingle_291 : decode cX4_readSingle 291 = .ok (.iconst 0, 1) := by decide +kernel
theorem dX4_readSingle_292 : decode cX4_readSingle 292 = .ok (.ireturn, 1) := by decide +kernel
theorem dX4_readSingle_293 : decode cX4_readSingle 293 = .ok (.aload_n 0, 1) := by decide +kernel
theorem dX4_readSingle_294 : decode cX4_readSingle 294 = .ok (.getfield 18, 3) := by decide +kernel
theorem dX4_readSingle_297 : decode cX4_readSingle 297 = .ok (.aload_n 0, 1) := by decide +kernel
theorem dX4_readSingle_298 : decode cX4_readSingle 298 = .ok (.getfield 26, 3) := by decide +kernel
theorem dX4_readSingle_301 : decode cX4_readSingle 301 = .ok (.invokevirtual 58, 3) := by decide +kernel
theorem dX4_readSingle_304 : decode cX4_readSingle 304 = .ok (.istore 6, 2) := by decide +kernel
theorem dX4_readSingle_306 : decode cX4_readSingle 306 = .ok (.iload 6, 2) := by decide +kernel
theorem dX4_readSingle_308 : decode cX4_readSingle 308 = .ok (.invokestatic 139, 3) := by decide +kernel
theorem dX4_readSingle_311 : decode cX4_readSingle 311 = .ok (.ifCond .ne 5, 3) := by decide +kernel
theorem dX4_readSingle_314 : decode cX4_readSingle 314 = .ok (.iconst 0, 1) := by decide +kernel
theorem dX4_readSingle_315 : decode cX4_readSingle 315 = .ok (.ireturn, 1) := by decide +kernel
theorem dX4_readSingle_316 : decode cX4_readSingle 316 = .ok (.aload_n 0, 1) := by decide +kernel
theorem dX4_readSingle_317 : decode cX4_readSingle 317 = .ok (.dup, 1) := by decide +kernel
theorem dX4_readSingle_318 : decode cX4_readSingle 318 = .ok (.getfield 26, 3) := by decide +kernel
theorem dX4_readSingle_321 : decode cX4_readSingle 321 = .ok (.iconst 1, 1) := by decide +kernel
theorem dX4_readSingle_322 : decode cX4_readSingle 322 = .ok (.iadd, 1) := by decide +kernel
theorem dX4_readSingle_323 : decode cX4_readSingle 323 = .ok (.putfield 26, 3) := by decide +kernel
theorem dX4_readSingle_326 : decode cX4_readSingle 326 = .ok (.aload_n 0, 1) := by decide +kernel
theorem dX4_readSingle_327 : decode cX4_readSingle 327 = .ok (.iload_n 1, 1) := by decide +kernel
theorem dX4_readSingle_328 : decode cX4_readSingle 328 = .ok (.invokevirtual 136, 3) := by decide +kernel
theorem dX4_readSingle_331 : decode cX4_readSingle 331 = .ok (.ifCond .ne 5, 3) := by decide +kernel
theorem dX4_readSingle_334 : decode cX4_readSingle 334 = .ok (.iconst 0, 1) := by decide +kernel
theorem dX4_readSingle_335 : decode cX4_readSingle 335 = .ok (.ireturn, 1) := by decide +kernel
theorem dX4_readSingle_336 : decode cX4_readSingle 336 = .ok (.aload_n 0, 1) := by decide +kernel
theorem dX4_readSingle_337 : decode cX4_readSingle 337 = .ok (.getfield 22, 3) := by decide +kernel
theorem dX4_readSingle_340 : decode cX4_readSingle 340 = .ok (.iload 6, 2) := by decide +kernel
theorem dX4_readSingle_342 : decode cX4_readSingle 342 = .ok (.iconst 0, 1) := by decide +kernel
theorem dX4_readSingle_343 : decode cX4_readSingle 343 = .ok (.iconst 0, 1) := by decide +kernel
theorem dX4_readSingle_344 : decode cX4_readSingle 344 = .ok (.invokevirtual 126, 3) := by decide +kernel
theorem dX4_readSingle_347 : decode cX4_readSingle 347 = .ok (.iconst 1, 1) := by decide +kernel
theorem dX4_readSingle_348 : decode cX4_readSingle 348 = .ok (.ireturn, 1) := by decide +kernel
theorem dX4_isComparison_0 : decode cX4_isComparison 0 = .ok (.iload_n 0, 1) := by decide +kernel
theorem dX4_isComparison_1 : decode cX4_isComparison 1 = .ok (.bipush 60, 2) := by decide +kernel
theorem dX4_isComparison_3 : decode cX4_isComparison 3 = .ok (.if_icmp .eq 29, 3) := by decide +kernel
theorem dX4_isComparison_6 : decode cX4_isComparison 6 = .ok (.iload_n 0, 1) := by decide +kernel
theorem dX4_isComparison_7 : decode cX4_isComparison 7 = .ok (.bipush 62, 2) := by decide +kernel
theorem dX4_isComparison_9 : decode cX4_isComparison 9 = .ok (.if_icmp .eq 23, 3) := by decide +kernel
theorem dX4_isComparison_12 : decode cX4_isComparison 12 = .ok (.iload_n 0, 1) := by decide +kernel
theorem dX4_isComparison_13 : decode cX4_isComparison 13 = .ok (.bipush 61, 2) := by decide +kernel
theorem dX4_isComparison_15 : decode cX4_isComparison 15 = .ok (.if_icmp .eq 17, 3) := by decide +kernel
theorem dX4_isComparison_18 : decode cX4_isComparison 18 = .ok (.iload_n 0, 1) := by decide +kernel
theorem dX4_isComparison_19 : decode cX4_isComparison 19 = .ok (.sipush 256, 3) := by decide +kernel
theorem dX4_isComparison_22 : decode cX4_isComparison 22 = .ok (.if_icmp .eq 10, 3) := by decide +kernel
theorem dX4_isComparison_25 : decode cX4_isComparison 25 = .ok (.iload_n 0, 1) := by decide +kernel
theorem dX4_isComparison_26 : decode cX4_isComparison 26 = .ok (.sipush 257, 3) := by decide +kernel
theorem dX4_isComparison_29 : decode cX4_isComparison 29 = .ok (.if_icmp .ne 7, 3) := by decide +kernel
theorem dX4_isComparison_32 : decode cX4_isComparison 32 = .ok (.iconst 1, 1) := by decide +kernel
theorem dX4_isComparison_33 : decode cX4_isComparison 33 = .ok (.goto 4, 3) := by decide +kernel
theorem dX4_isComparison_36 : decode cX4_isComparison 36 = .ok (.iconst 0, 1) := by decide +kernel
theorem dX4_isComparison_37 : decode cX4_isComparison 37 = .ok (.ireturn, 1) := by decide +kernel
theorem dX4_readSum_0 : decode cX4_readSum 0 = .ok (.aload_n 0, 1) := by decide +kernel
theorem dX4_readSum_1 : decode cX4_readSum 1 = .ok (.iload_n 1, 1) := by decide +kernel
theorem dX4_readSum_2 : decode cX4_readSum 2 = .ok (.invokevirtual 142, 3) := by decide +kernel
theorem dX4_readSum_5 : decode cX4_readSum 5 = .ok (.ifCond .ne 5, 3) := by decide +kernel
theorem dX4_readSum_8 : decode cX4_readSum 8 = .ok (.iconst 0, 1) := by decide +kernel
theorem dX4_readSum_9 : decode cX4_readSum 9 = .ok (.ireturn, 1) := by decide +kernel
theorem dX4_readSum_10 : decode cX4_readSum 10 = .ok (.iconst 0, 1) := by decide +kernel
theorem dX4_readSum_11 : decode cX4_readSum 11 = .ok (.istore_n 2, 1) := by decide +kernel
theorem dX4_readSum_12 : decode cX4_readSum 12 = .ok (.iload_n 2, 1) := by decide +kernel
theorem dX4_readSum_13 : decode cX4_readSum 13 = .ok (.sipush 400, 3) := by decide +kernel
theorem dX4_readSum_16 : decode cX4_readSum 16 = .ok (.if_icmp .ge 69, 3) := by decide +kernel
theorem dX4_readSum_19 : decode cX4_readSum 19 = .ok (.aload_n 0, 1) := by decide +kernel
theorem dX4_readSum_20 : decode cX4_readSum 20 = .ok (.bipush 43, 2) := by decide +kernel
theorem dX4_readSum_22 : decode cX4_readSum 22 = .ok (.invokevirtual 38, 3) := by decide +kernel
theorem dX4_readSum_25 : decode cX4_readSum 25 = .ok (.ifCond .ne 12, 3) := by decide +kernel
theorem dX4_readSum_28 : decode cX4_readSum 28 = .ok (.aload_n 0, 1) := by decide +kernel
theorem dX4_readSum_29 : decode cX4_readSum 29 = .ok (.bipush 45, 2) := by decide +kernel
theorem dX4_readSum_31 : decode cX4_readSum 31 = .ok (.invokevirtual 38, 3) := by decide +kernel
theorem dX4_readSum_34 : decode cX4_readSum 34 = .ok (.ifCond .eq 51, 3) := by decide +kernel
theorem dX4_readSum_37 : decode cX4_readSum 37 = .ok (.aload_n 0, 1) := by decide +kernel
theorem dX4_readSum_38 : decode cX4_readSum 38 = .ok (.getfield 18, 3) := by decide +kernel
theorem dX4_readSum_41 : decode cX4_readSum 41 = .ok (.aload_n 0, 1) := by decide +kernel
theorem dX4_readSum_42 : decode cX4_readSum 42 = .ok (.getfield 26, 3) := by decide +kernel
theorem dX4_readSum_45 : decode cX4_readSum 45 = .ok (.invokevirtual 58, 3) := by decide +kernel
theorem dX4_readSum_48 : decode cX4_readSum 48 = .ok (.istore_n 3, 1) := by decide +kernel
theorem dX4_readSum_49 : decode cX4_readSum 49 = .ok (.aload_n 0, 1) := by decide +kernel
theorem dX4_readSum_50 : decode cX4_readSum 50 = .ok (.dup, 1) := by decide +kernel
theorem dX4_readSum_51 : decode cX4_readSum 51 = .ok (.getfield 26, 3) := by decide +kernel
theorem dX4_readSum_54 : decode cX4_readSum 54 = .ok (.iconst 1, 1) := by decide +kernel
theorem dX4_readSum_55 : decode cX4_readSum 55 = .ok (.iadd, 1) := by decide +kernel
theorem dX4_readSum_56 : decode cX4_readSum 56 = .ok (.putfield 26, 3) := by decide +kernel
theorem dX4_readSum_59 : decode cX4_readSum 59 = .ok (.aload_n 0, 1) := by decide +kernel
theorem dX4_readSum_60 : decode cX4_readSum 60 = .ok (.iload_n 1, 1) := by decide +kernel
theorem dX4_readSum_61 : decode cX4_readSum 61 = .ok (.invokevirtual 142, 3) := by decide +kernel
theorem dX4_readSum_64 : decode cX4_readSum 64 = .ok (.ifCond .ne 5, 3) := by decide +kernel
theorem dX4_readSum_67 : decode cX4_readSum 67 = .ok (.iconst 0, 1) := by decide +kernel
theorem dX4_readSum_68 : decode cX4_readSum 68 = .ok (.ireturn, 1) := by decide +kernel
theorem dX4_readSum_69 : decode cX4_readSum 69 = .ok (.aload_n 0, 1) := by decide +kernel
theorem dX4_readSum_70 : decode cX4_readSum 70 = .ok (.getfield 22, 3) := by decide +kernel
theorem dX4_readSum_73 : decode cX4_readSum 73 = .ok (.iload_n 3, 1) := by decide +kernel
theorem dX4_readSum_74 : decode cX4_readSum 74 = .ok (.iconst 0, 1) := by decide +kernel
theorem dX4_readSum_75 : decode cX4_readSum 75 = .ok (.iconst 0, 1) := by decide +kernel
theorem dX4_readSum_76 : decode cX4_readSum 76 = .ok (.invokevirtual 126, 3) := by decide +kernel
theorem dX4_readSum_79 : decode cX4_readSum 79 = .ok (.iinc 2 1, 3) := by decide +kernel
theorem dX4_readSum_82 : decode cX4_readSum 82 = .ok (.goto (-70), 3) := by decide +kernel
theorem dX4_readSum_85 : decode cX4_readSum 85 = .ok (.iconst 1, 1) := by decide +kernel
theorem dX4_readSum_86 : decode cX4_readSum 86 = .ok (.ireturn, 1) := by decide +kernel
theorem dX4_readProduct_0 : decode cX4_readProduct 0 = .ok (.aload_n 0, 1) := by decide +kernel
theorem dX4_readProduct_1 : decode cX4_readProduct 1 = .ok (.iload_n 1, 1) := by decide +kernel
theorem dX4_readProduct_2 : decode cX4_readProduct 2 = .ok (.invokevirtual 145, 3) := by decide +kernel
theorem dX4_readProduct_5 : decode cX4_readProduct 5 = .ok (.ifCond .ne 5, 3) := by decide +kernel
theorem dX4_readProduct_8 : decode cX4_readProduct 8 = .ok (.iconst 0, 1) := by decide +kernel
theorem dX4_readProduct_9 : decode cX4_readProduct 9 = .ok (.ireturn, 1) := by decide +kernel
theorem dX4_readProduct_10 : decode cX4_readProduct 10 = .ok (.iconst 0, 1) := by decide +kernel
theorem dX4_readProduct_11 : decode cX4_readProduct 11 = .ok (.istore_n 2, 1) := by decide +kernel
theorem dX4_readProduct_12 : decode cX4_readProduct 12 = .ok (.iload_n 2, 1) := by decide +kernel
theorem dX4_readProduct_13 : decode cX4_readProduct 13 = .ok (.sipush 400, 3) := by decide +kernel
theorem dX4_readProduct_16 : decode cX4_readProduct 16 = .ok (.if_icmp .ge 69, 3) := by decide +kernel
theorem dX4_readProduct_19 : decode cX4_readProduct 19 = .ok (.aload_n 0, 1) := by decide +kernel
theorem dX4_readProduct_20 : decode cX4_readProduct 20 = .ok (.bipush 42, 2) := by decide +kernel
theorem dX4_readProduct_22 : decode cX4_readProduct 22 = .ok (.invokevirtual 38, 3) := by decide +kernel
theorem dX4_readProduct_25 : decode cX4_readProduct 25 = .ok (.ifCond .ne 12, 3) := by decide +kernel
theorem dX4_readProduct_28 : decode cX4_readProduct 28 = .ok (.aload_n 0, 1) := by decide +kernel
theorem dX4_readProduct_29 : decode cX4_readProduct 29 = .ok (.bipush 47, 2) := by decide +kernel
theorem dX4_readProduct_31 : decode cX4_readProduct 31 = .ok (.invokevirtual 38, 3) := by decide +kernel
theorem dX4_readProduct_34 : decode cX4_readProduct 34 = .ok (.ifCond .eq 51, 3) := by decide +kernel
theorem dX4_readProduct_37 : decode cX4_readProduct 37 = .ok (.aload_n 0, 1) := by decide +kernel
theorem dX4_readProduct_38 : decode cX4_readProduct 38 = .ok (.getfield 18, 3) := by decide +kernel
theorem dX4_readProduct_41 : decode cX4_readProduct 41 = .ok (.aload_n 0, 1) := by decide +kernel
theorem dX4_readProduct_42 : decode cX4_readProduct 42 = .ok (.getfield 26, 3) := by decide +kernel
theorem dX4_readProduct_45 : decode cX4_readProduct 45 = .ok (.invokevirtual 58, 3) := by decide +kernel
theorem dX4_readProduct_48 : decode cX4_readProduct 48 = .ok (.istore_n 3, 1) := by decide +kernel
theorem dX4_readProduct_49 : decode cX4_readProduct 49 = .ok (.aload_n 0, 1) := by decide +kernel
theorem dX4_readProduct_50 : decode cX4_readProduct 50 = .ok (.dup, 1) := by decide +kernel
theorem dX4_readProduct_51 : decode cX4_readProduct 51 = .ok (.getfield 26, 3) := by decide +kernel
theorem dX4_readProduct_54 : decode cX4_readProduct 54 = .ok (.iconst 1, 1) := by decide +kernel
theorem dX4_readProduct_55 : decode cX4_readProduct 55 = .ok (.iadd, 1) := by decide +kernel
theorem dX4_readProduct_56 : decode cX4_readProduct 56 = .ok (.putfield 26, 3) := by decide +kernel
theorem dX4_readProduct_59 : decode cX4_readProduct 59 = .ok (.aload_n 0, 1) := by decide +kernel
theorem dX4_readProduct_60 : decode cX4_readProduct 60 = .ok (.iload_n 1, 1) := by decide +kernel
theorem dX4_readProduct_61 : decode cX4_readProduct 61 = .ok (.invokevirtual 145, 3) := by decide +kernel
theorem dX4_readProduct_64 : decode cX4_readProduct 64 = .ok (.ifCond .ne 5, 3) := by decide +kernel
theorem dX4_readProduct_67 : decode cX4_readProduct 67 = .ok (.iconst 0, 1) := by decide +kernel
theorem dX4_readProduct_68 : decode cX4_readProduct 68 = .ok (.ireturn, 1) := by decide +kernel
theorem dX4_readProduct_69 : decode cX4_readProduct 69 = .ok (.aload_n 0, 1) := by decide +kernel
theorem dX4_readProduct_70 : decode cX4_readProduct 70 = .ok (.getfield 22, 3) := by decide +kernel
theorem dX4_readProduct_73 : decode cX4_readProduct 73 = .ok (.iload_n 3, 1) := by decide +kernel
theorem dX4_readProduct_74 : decode cX4_readProduct 74 = .ok (.iconst 0, 1) := by decide +kernel
theorem dX4_readProduct_75 : decode cX4_readProduct 75 = .ok (.iconst 0, 1) := by decide +kernel
theorem dX4_readProduct_76 : decode cX4_readProduct 76 = .ok (.invokevirtual 126, 3) := by decide +kernel
theorem dX4_readProduct_79 : decode cX4_readProduct 79 = .ok (.iinc 2 1, 3) := by decide +kernel
theorem dX4_readProduct_82 : decode cX4_readProduct 82 = .ok (.goto (-70), 3) := by decide +kernel
theorem dX4_readProduct_85 : decode cX4_readProduct 85 = .ok (.iconst 1, 1) := by decide +kernel
theorem dX4_readProduct_86 : decode cX4_readProduct 86 = .ok (.ireturn, 1) := by decide +kernel
theorem dX4_readValue_0 : decode cX4_readValue 0 = .ok (.aload_n 0, 1) := by decide +kernel
theorem dX4_readValue_1 : decode cX4_readValue 1 = .ok (.getfield 18, 3) := by decide +kernel
theorem dX4_readValue_4 : decode cX4_readValue 4 = .ok (.aload_n 0, 1) := by decide +kernel
theorem dX4_readValue_5 : decode cX4_readValue 5 = .ok (.getfield 26, 3) := by decide +kernel
theorem dX4_readValue_8 : decode cX4_readValue 8 = .ok (.invokevirtual 58, 3) := by decide +kernel
theorem dX4_readValue_11 : decode cX4_readValue 11 = .ok (.istore_n 2, 1) := by decide +kernel
theorem dX4_readValue_12 : decode cX4_readValue 12 = .ok (.iload_n 2, 1) := by decide +kernel
theorem dX4_readValue_13 : decode cX4_readValue 13 = .ok (.lookupswitch 259 #[(40, 152), (45, 116), (259, 83), (315, 83), (316, 83), (317, 83), (318, 83), (325, 187), (326, 187)], 83) := by decide +kernel
theorem dX4_readValue_96 : decode cX4_readValue 96 = .ok (.aload_n 0, 1) := by decide +kernel
theorem dX4_readValue_97 : decode cX4_readValue 97 = .ok (.getfield 22, 3) := by decide +kernel
theorem dX4_readValue_100 : decode cX4_readValue 100 = .ok (.iload_n 2, 1) := by decide +kernel
theorem dX4_readValue_101 : decode cX4_readValue 101 = .ok (.aload_n 0, 1) := by decide +kernel
theorem dX4_readValue_102 : decode cX4_readValue 102 = .ok (.getfield 18, 3) := by decide +kernel
theorem dX4_readValue_105 : decode cX4_readValue 105 = .ok (.aload_n 0, 1) := by decide +kernel
theorem dX4_readValue_106 : decode cX4_readValue 106 = .ok (.getfield 26, 3) := by decide +kernel
theorem dX4_readValue_109 : decode cX4_readValue 109 = .ok (.invokevirtual 71, 3) := by decide +kernel
theorem dX4_readValue_112 : decode cX4_readValue 112 = .ok (.l2i, 1) := by decide +kernel
theorem dX4_readValue_113 : decode cX4_readValue 113 = .ok (.iconst 0, 1) := by decide +kernel
theorem dX4_readValue_114 : decode cX4_readValue 114 = .ok (.invokevirtual 126, 3) := by decide +kernel
theorem dX4_readValue_117 : decode cX4_readValue 117 = .ok (.aload_n 0, 1) := by decide +kernel
theorem dX4_readValue_118 : decode cX4_readValue 118 = .ok (.dup, 1) := by decide +kernel
theorem dX4_readValue_119 : decode cX4_readValue 119 = .ok (.getfield 26, 3) := by decide +kernel
theorem dX4_readValue_122 : decode cX4_readValue 122 = .ok (.iconst 1, 1) := by decide +kernel
theorem dX4_readValue_123 : decode cX4_readValue 123 = .ok (.iadd, 1) := by decide +kernel
theorem dX4_readValue_124 : decode cX4_readValue 124 = .ok (.putfield 26, 3) := by decide +kernel
theorem dX4_readValue_127 : decode cX4_readValue 127 = .ok (.iconst 1, 1) := by decide +kernel
theorem dX4_readValue_128 : decode cX4_readValue 128 = .ok (.ireturn, 1) := by decide +kernel
theorem dX4_readValue_129 : decode cX4_readValue 129 = .ok (.aload_n 0, 1) := by decide +kernel
theorem dX4_readValue_130 : decode cX4_readValue 130 = .ok (.bipush 45, 2) := by decide +kernel
theorem dX4_readValue_132 : decode cX4_readValue 132 = .ok (.iload_n 1, 1) := by decide +kernel
theorem dX4_readValue_133 : decode cX4_readValue 133 = .ok (.invokevirtual 132, 3) := by decide +kernel
theorem dX4_readValue_136 : decode cX4_readValue 136 = .ok (.ifCond .eq 13, 3) := by decide +kernel
theorem dX4_readValue_139 : decode cX4_readValue 139 = .ok (.aload_n 0, 1) := by decide +kernel
theorem dX4_readValue_140 : decode cX4_readValue 140 = .ok (.iload_n 1, 1) := by decide +kernel
theorem dX4_readValue_141 : decode cX4_readValue 141 = .ok (.iconst 1, 1) := by decide +kernel
theorem dX4_readValue_142 : decode cX4_readValue 142 = .ok (.iadd, 1) := by decide +kernel
theorem dX4_readValue_143 : decode cX4_readValue 143 = .ok (.invokevirtual 145, 3) := by decide +kernel
theorem dX4_readValue_146 : decode cX4_readValue 146 = .ok (.ifCond .ne 5, 3) := by decide +kernel
theorem dX4_readValue_149 : decode cX4_readValue 149 = .ok (.iconst 0, 1) := by decide +kernel
theorem dX4_readValue_150 : decode cX4_readValue 150 = .ok (.ireturn, 1) := by decide +kernel
theorem dX4_readValue_151 : decode cX4_readValue 151 = .ok (.aload_n 0, 1) := by decide +kernel
theorem dX4_readValue_152 : decode cX4_readValue 152 = .ok (.getfield 22, 3) := by decide +kernel
theorem dX4_readValue_155 : decode cX4_readValue 155 = .ok (.sipush 262, 3) := by decide +kernel
theorem dX4_readValue_158 : decode cX4_readValue 158 = .ok (.iconst 0, 1) := by decide +kernel
theorem dX4_readValue_159 : decode cX4_readValue 159 = .ok (.iconst 0, 1) := by decide +kernel
theorem dX4_readValue_160 : decode cX4_readValue 160 = .ok (.invokevirtual 126, 3) := by decide +kernel
theorem dX4_readValue_163 : decode cX4_readValue 163 = .ok (.iconst 1, 1) := by decide +kernel
theorem dX4_readValue_164 : decode cX4_readValue 164 = .ok (.ireturn, 1) := by decide +kernel
theorem dX4_readValue_165 : decode cX4_readValue 165 = .ok (.aload_n 0, 1) := by decide +kernel
theorem dX4_readValue_166 : decode cX4_readValue 166 = .ok (.bipush 40, 2) := by decide +kernel
theorem dX4_readValue_168 : decode cX4_readValue 168 = .ok (.iload_n 1, 1) := by decide +kernel
theorem dX4_readValue_169 : decode cX4_readValue 169 = .ok (.invokevirtual 132, 3) := by decide +kernel
theorem dX4_readValue_172 : decode cX4_readValue 172 = .ok (.ifCond .eq 26, 3) := by decide +kernel
theorem dX4_readValue_175 : decode cX4_readValue 175 = .ok (.aload_n 0, 1) := by decide +kernel
theorem dX4_readValue_176 : decode cX4_readValue 176 = .ok (.iload_n 1, 1) := by decide +kernel
theorem dX4_readValue_177 : decode cX4_readValue 177 = .ok (.iconst 1, 1) := by decide +kernel
theorem dX4_readValue_178 : decode cX4_readValue 178 = .ok (.iadd, 1) := by decide +kernel
theorem dX4_readValue_179 : decode cX4_readValue 179 = .ok (.invokevirtual 136, 3) := by decide +kernel
theorem dX4_readValue_182 : decode cX4_readValue 182 = .ok (.ifCond .eq 16, 3) := by decide +kernel
theorem dX4_readValue_185 : decode cX4_readValue 185 = .ok (.aload_n 0, 1) := by decide +kernel
theorem dX4_readValue_186 : decode cX4_readValue 186 = .ok (.bipush 41, 2) := by decide +kernel
theorem dX4_readValue_188 : decode cX4_readValue 188 = .ok (.invokevirtual 46, 3) := by decide +kernel
theorem dX4_readValue_191 : decode cX4_readValue 191 = .ok (.ifCond .eq 7, 3) := by decide +kernel
theorem dX4_readValue_194 : decode cX4_readValue 194 = .ok (.iconst 1, 1) := by decide +kernel
theorem dX4_readValue_195 : decode cX4_readValue 195 = .ok (.goto 4, 3) := by decide +kernel
theorem dX4_readValue_198 : decode cX4_readValue 198 = .ok (.iconst 0, 1) := by decide +kernel
theorem dX4_readValue_199 : decode cX4_readValue 199 = .ok (.ireturn, 1) := by decide +kernel
theorem dX4_readValue_200 : decode cX4_readValue 200 = .ok (.aload_n 0, 1) := by decide +kernel
theorem dX4_readValue_201 : decode cX4_readValue 201 = .ok (.dup, 1) := by decide +kernel
theorem dX4_readValue_202 : decode cX4_readValue 202 = .ok (.getfield 26, 3) := by decide +kernel
theorem dX4_readValue_205 : decode cX4_readValue 205 = .ok (.iconst 1, 1) := by decide +kernel
theorem dX4_readValue_206 : decode cX4_readValue 206 = .ok (.iadd, 1) := by decide +kernel
theorem dX4_readValue_207 : decode cX4_readValue 207 = .ok (.putfield 26, 3) := by decide +kernel
theorem dX4_readValue_210 : decode cX4_readValue 210 = .ok (.aload_n 0, 1) := by decide +kernel
theorem dX4_readValue_211 : decode cX4_readValue 211 = .ok (.bipush 40, 2) := by decide +kernel
theorem dX4_readValue_213 : decode cX4_readValue 213 = .ok (.iload_n 1, 1) := by decide +kernel
theorem dX4_readValue_214 : decode cX4_readValue 214 = .ok (.invokevirtual 132, 3) := by decide +kernel
theorem dX4_readValue_217 : decode cX4_readValue 217 = .ok (.ifCond .eq 41, 3) := by decide +kernel
theorem dX4_readValue_220 : decode cX4_readValue 220 = .ok (.aload_n 0, 1) := by decide +kernel
theorem dX4_readValue_221 : decode cX4_readValue 221 = .ok (.iload_n 1, 1) := by decide +kernel
theorem dX4_readValue_222 : decode cX4_readValue 222 = .ok (.iconst 1, 1) := by decide +kernel
theorem dX4_readValue_223 : decode cX4_readValue 223 = .ok (.iadd, 1) := by decide +kernel
theorem dX4_readValue_224 : decode cX4_readValue 224 = .ok (.invokevirtual 136, 3) := by decide +kernel
theorem dX4_readValue_227 : decode cX4_readValue 227 = .ok (.ifCond .eq 31, 3) := by decide +kernel
theorem dX4_readValue_230 : decode cX4_readValue 230 = .ok (.aload_n 0, 1) := by decide +kernel
theorem dX4_readValue_231 : decode cX4_readValue 231 = .ok (.bipush 44, 2) := by decide +kernel
theorem dX4_readValue_233 : decode cX4_readValue 233 = .ok (.invokevirtual 46, 3) := by decide +kernel
theorem dX4_readValue_236 : decode cX4_readValue 236 = .ok (.ifCond .eq 22, 3) := by decide +kernel
theorem dX4_readValue_239 : decode cX4_readValue 239 = .ok (.aload_n 0, 1) := by decide +kernel
theorem dX4_readValue_240 : decode cX4_readValue 240 = .ok (.iload_n 1, 1) := by decide +kernel
theorem dX4_readValue_241 : decode cX4_readValue 241 = .ok (.iconst 1, 1) := by decide +kernel
theorem dX4_readValue_242 : decode cX4_readValue 242 = .ok (.iadd, 1) := by decide +kernel
theorem dX4_readValue_243 : decode cX4_readValue 243 = .ok (.invokevirtual 136, 3) := by decide +kernel
theorem dX4_readValue_246 : decode cX4_readValue 246 = .ok (.ifCond .eq 12, 3) := by decide +kernel
theorem dX4_readValue_249 : decode cX4_readValue 249 = .ok (.aload_n 0, 1) := by decide +kernel
theorem dX4_readValue_250 : decode cX4_readValue 250 = .ok (.bipush 41, 2) := by decide +kernel
theorem dX4_readValue_252 : decode cX4_readValue 252 = .ok (.invokevirtual 46, 3) := by decide +kernel
theorem dX4_readValue_255 : decode cX4_readValue 255 = .ok (.ifCond .ne 5, 3) := by decide +kernel
theorem dX4_readValue_258 : decode cX4_readValue 258 = .ok (.iconst 0, 1) := by decide +kernel
theorem dX4_readValue_259 : decode cX4_readValue 259 = .ok (.ireturn, 1) := by decide +kernel
theorem dX4_readValue_260 : decode cX4_readValue 260 = .ok (.aload_n 0, 1) := by decide +kernel
theorem dX4_readValue_261 : decode cX4_readValue 261 = .ok (.getfield 22, 3) := by decide +kernel
theorem dX4_readValue_264 : decode cX4_readValue 264 = .ok (.iload_n 2, 1) := by decide +kernel
theorem dX4_readValue_265 : decode cX4_readValue 265 = .ok (.iconst 0, 1) := by decide +kernel
theorem dX4_readValue_266 : decode cX4_readValue 266 = .ok (.iconst 0, 1) := by decide +kernel
theorem dX4_readValue_267 : decode cX4_readValue 267 = .ok (.invokevirtual 126, 3) := by decide +kernel
theorem dX4_readValue_270 : decode cX4_readValue 270 = .ok (.iconst 1, 1) := by decide +kernel
theorem dX4_readValue_271 : decode cX4_readValue 271 = .ok (.ireturn, 1) := by decide +kernel
theorem dX4_readValue_272 : decode cX4_readValue 272 = .ok (.iconst 0, 1) := by decide +kernel
theorem dX4_readValue_273 : decode cX4_readValue 273 = .ok (.ireturn, 1) := by decide +kernel
theorem dX5_init_0 : decode cX5_init 0 = .ok (.aload_n 0, 1) := by decide +kernel
theorem dX5_init_1 : decode cX5_init 1 = .ok (.invokespecial 3, 3) := by decide +kernel
theorem dX5_init_4 : decode cX5_init 4 = .ok (.aload_n 0, 1) := by decide +kernel
theorem dX5_init_5 : decode cX5_init 5 = .ok (.sipush 2000, 3) := by decide +kernel
theorem dX5_init_8 : decode cX5_init 8 = .ok (.newarray .byte, 2) := by decide +kernel
theorem dX5_init_10 : decode cX5_init 10 = .ok (.putfield 9, 3) := by decide +kernel
theorem dX5_init_13 : decode cX5_init 13 = .ok (.return_, 1) := by decide +kernel
theorem dX5_append_0 : decode cX5_append 0 = .ok (.bipush 24, 2) := by decide +kernel
theorem dX5_append_2 : decode cX5_append 2 = .ok (.istore_n 2, 1) := by decide +kernel
theorem dX5_append_3 : decode cX5_append 3 = .ok (.iload_n 2, 1) := by decide +kernel
theorem dX5_append_4 : decode cX5_append 4 = .ok (.ifCond .lt 51, 3) := by decide +kernel
theorem dX5_append_7 : decode cX5_append 7 = .ok (.aload_n 0, 1) := by decide +kernel
theorem dX5_append_8 : decode cX5_append 8 = .ok (.getfield 15, 3) := by decide +kernel
theorem dX5_append_11 : decode cX5_append 11 = .ok (.ifCond .lt 38, 3) := by decide +kernel
theorem dX5_append_14 : decode cX5_append 14 = .ok (.aload_n 0, 1) := by decide +kernel
theorem dX5_append_15 : decode cX5_append 15 = .ok (.getfield 15, 3) := by decide +kernel
theorem dX5_append_18 : decode cX5_append 18 = .ok (.aload_n 0, 1) := by decide +kernel
theorem dX5_append_19 : decode cX5_append 19 = .ok (.getfield 9, 3) := by decide +kernel
theorem dX5_append_22 : decode cX5_append 22 = .ok (.arraylength, 1) := by decide +kernel
theorem dX5_append_23 : decode cX5_append 23 = .ok (.if_icmp .ge 26, 3) := by decide +kernel
theorem dX5_append_26 : decode cX5_append 26 = .ok (.aload_n 0, 1) := by decide +kernel
theorem dX5_append_27 : decode cX5_append 27 = .ok (.getfield 9, 3) := by decide +kernel
theorem dX5_append_30 : decode cX5_append 30 = .ok (.aload_n 0, 1) := by decide +kernel
theorem dX5_append_31 : decode cX5_append 31 = .ok (.getfield 15, 3) := by decide +kernel
theorem dX5_append_34 : decode cX5_append 34 = .ok (.iload_n 1, 1) := by decide +kernel
theorem dX5_append_35 : decode cX5_append 35 = .ok (.iload_n 2, 1) := by decide +kernel
theorem dX5_append_36 : decode cX5_append 36 = .ok (.ishr, 1) := by decide +kernel
theorem dX5_append_37 : decode cX5_append 37 = .ok (.i2b, 1) := by decide +kernel
theorem dX5_append_38 : decode cX5_append 38 = .ok (.bastore, 1) := by decide +kernel
theorem dX5_append_39 : decode cX5_append 39 = .ok (.aload_n 0, 1) := by decide +kernel
theorem dX5_append_40 : decode cX5_append 40 = .ok (.dup, 1) := by decide +kernel
theorem dX5_append_41 : decode cX5_append 41 = .ok (.getfield 15, 3) := by decide +kernel
theorem dX5_append_44 : decode cX5_append 44 = .ok (.iconst 1, 1) := by decide +kernel
theorem dX5_append_45 : decode cX5_append 45 = .ok (.iadd, 1) := by decide +kernel
theorem dX5_append_46 : decode cX5_append 46 = .ok (.putfield 15, 3) := by decide +kernel
theorem dX5_append_49 : decode cX5_append 49 = .ok (.iinc 2 (-8), 3) := by decide +kernel
theorem dX5_append_52 : decode cX5_append 52 = .ok (.goto (-49), 3) := by decide +kernel
theorem dX5_append_55 : decode cX5_append 55 = .ok (.return_, 1) := by decide +kernel
theorem dX5_at_0 : decode cX5_at 0 = .ok (.iload_n 1, 1) := by decide +kernel
theorem dX5_at_1 : decode cX5_at 1 = .ok (.ifCond .lt 20, 3) := by decide +kernel
theorem dX5_at_4 : decode cX5_at 4 = .ok (.iload_n 1, 1) := by decide +kernel
theorem dX5_at_5 : decode cX5_at 5 = .ok (.aload_n 0, 1) := by decide +kernel
theorem dX5_at_6 : decode cX5_at 6 = .ok (.getfield 15, 3) := by decide +kernel
theorem dX5_at_9 : decode cX5_at 9 = .ok (.if_icmp .ge 12, 3) := by decide +kernel
theorem dX5_at_12 : decode cX5_at 12 = .ok (.iload_n 1, 1) := by decide +kernel
theorem dX5_at_13 : decode cX5_at 13 = .ok (.aload_n 0, 1) := by decide +kernel
theorem dX5_at_14 : decode cX5_at 14 = .ok (.getfield 9, 3) := by decide +kernel
theorem dX5_at_17 : decode cX5_at 17 = .ok (.arraylength, 1) := by decide +kernel
theorem dX5_at_18 : decode cX5_at 18 = .ok (.if_icmp .lt 5, 3) := by decide +kernel
theorem dX5_at_21 : decode cX5_at 21 = .ok (.iconst (-1), 1) := by decide +kernel
theorem dX5_at_22 : decode cX5_at 22 = .ok (.ireturn, 1) := by decide +kernel
theorem dX5_at_23 : decode cX5_at 23 = .ok (.aload_n 0, 1) := by decide +kernel
theorem dX5_at_24 : decode cX5_at 24 = .ok (.getfield 9, 3) := by decide +kernel
theorem dX5_at_27 : decode cX5_at 27 = .ok (.iload_n 1, 1) := by decide +kernel
theorem dX5_at_28 : decode cX5_at 28 = .ok (.baload, 1) := by decide +kernel
theorem dX5_at_29 : decode cX5_at 29 = .ok (.sipush 255, 3) := by decide +kernel
theorem dX5_at_32 : decode cX5_at 32 = .ok (.iand, 1) := by decide +kernel
theorem dX5_at_33 : decode cX5_at 33 = .ok (.ireturn, 1) := by decide +kernel
theorem dX6_init_0 : decode cX6_init 0 = .ok (.aload_n 0, 1) := by decide +kernel
theorem dX6_init_1 : decode cX6_init 1 = .ok (.invokespecial 3, 3) := by decide +kernel
theorem dX6_init_4 : decode cX6_init 4 = .ok (.aload_n 0, 1) := by decide +kernel
theorem dX6_init_5 : decode cX6_init 5 = .ok (.invokestatic 9, 3) := by decide +kernel
theorem dX6_init_8 : decode cX6_init 8 = .ok (.putfield 15, 3) := by decide +kernel
theorem dX6_init_11 : decode cX6_init 11 = .ok (.aload_n 0, 1) := by decide +kernel
theorem dX6_init_12 : decode cX6_init 12 = .ok (.sipush 401, 3) := by decide +kernel
theorem dX6_init_15 : decode cX6_init 15 = .ok (.newarray .int, 2) := by decide +kernel
theorem dX6_init_17 : decode cX6_init 17 = .ok (.putfield 19, 3) := by decide +kernel
theorem dX6_init_20 : decode cX6_init 20 = .ok (.aload_n 0, 1) := by decide +kernel
theorem dX6_init_21 : decode cX6_init 21 = .ok (.sipush 401, 3) := by decide +kernel
theorem dX6_init_24 : decode cX6_init 24 = .ok (.newarray .int, 2) := by decide +kernel
theorem dX6_init_26 : decode cX6_init 26 = .ok (.putfield 23, 3) := by decide +kernel
theorem dX6_init_29 : decode cX6_init 29 = .ok (.aload_n 0, 1) := by decide +kernel
theorem dX6_init_30 : decode cX6_init 30 = .ok (.sipush 401, 3) := by decide +kernel
theorem dX6_init_33 : decode cX6_init 33 = .ok (.newarray .long, 2) := by decide +kernel
theorem dX6_init_35 : decode cX6_init 35 = .ok (.putfield 26, 3) := by decide +kernel
theorem dX6_init_38 : decode cX6_init 38 = .ok (.return_, 1) := by decide +kernel
theorem dX6_packKeywords_0 : decode cX6_packKeywords 0 = .ok (.bipush 27, 2) := by decide +kernel
theorem dX6_packKeywords_2 : decode cX6_packKeywords 2 = .ok (.newarray .long, 2) := by decide +kernel
theorem dX6_packKeywords_4 : decode cX6_packKeywords 4 = .ok (.astore_n 0, 1) := by decide +kernel
theorem dX6_packKeywords_5 : decode cX6_packKeywords 5 = .ok (.iconst 0, 1) := by decide +kernel
theorem dX6_packKeywords_6 : decode cX6_packKeywords 6 = .ok (.istore_n 1, 1) := by decide +kernel
theorem dX6_packKeywords_7 : decode cX6_packKeywords 7 = .ok (.iconst 0, 1) := by decide +kernel
theorem dX6_packKeywords_8 : decode cX6_packKeywords 8 = .ok (.istore_n 2, 1) := by decide +kernel
theorem dX6_packKeywords_9 : decode cX6_packKeywords 9 = .ok (.iload_n 2, 1) := by decide +kernel
theorem dX6_packKeywords_10 : decode cX6_packKeywords 10 = .ok (.ldc 29, 2) := by decide +kernel
theorem dX6_packKeywords_12 : decode cX6_packKeywords 12 = .ok (.invokevirtual 31, 3) := by decide +kernel
theorem dX6_packKeywords_15 : decode cX6_packKeywords 15 = .ok (.if_icmp .ge 44, 3) := by decide +kernel
theorem dX6_packKeywords_18 : decode cX6_packKeywords 18 = .ok (.ldc 29, 2) := by decide +kernel
theorem dX6_packKeywords_20 : decode cX6_packKeywords 20 = .ok (.iload_n 2, 1) := by decide +kernel
theorem dX6_packKeywords_21 : decode cX6_packKeywords 21 = .ok (.invokevirtual 37, 3) := by decide +kernel
theorem dX6_packKeywords_24 : decode cX6_packKeywords 24 = .ok (.istore_n 3, 1) := by decide +kernel
theorem dX6_packKeywords_25 : decode cX6_packKeywords 25 = .ok (.iload_n 3, 1) := by decide +kernel
theorem dX6_packKeywords_26 : decode cX6_packKeywords 26 = .ok (.bipush 32, 2) := by decide +kernel
theorem dX6_packKeywords_28 : decode cX6_packKeywords 28 = .ok (.if_icmp .ne 9, 3) := by decide +kernel
theorem dX6_packKeywords_31 : decode cX6_packKeywords 31 = .ok (.iinc 1 1, 3) := by decide +kernel
theorem dX6_packKeywords_34 : decode cX6_packKeywords 34 = .ok (.goto 19, 3) := by decide +kernel
theorem dX6_packKeywords_37 : decode cX6_packKeywords 37 = .ok (.iload_n 1, 1) := by decide +kernel
theorem dX6_packKeywords_38 : decode cX6_packKeywords 38 = .ok (.aload_n 0, 1) := by decide +kernel
theorem dX6_packKeywords_39 : decode cX6_packKeywords 39 = .ok (.arraylength, 1) := by decide +kernel
theorem dX6_packKeywords_40 : decode cX6_packKeywords 40 = .ok (.if_icmp .ge 13, 3) := by decide +kernel
theorem dX6_packKeywords_43 : decode cX6_packKeywords 43 = .ok (.aload_n 0, 1) := by decide +kernel
theorem dX6_packKeywords_44 : decode cX6_packKeywords 44 = .ok (.iload_n 1, 1) := by decide +kernel
theorem dX6_packKeywords_45 : decode cX6_packKeywords 45 = .ok (.aload_n 0, 1) := by decide +kernel
theorem dX6_packKeywords_46 : decode cX6_packKeywords 46 = .ok (.iload_n 1, 1) := by decide +kernel
theorem dX6_packKeywords_47 : decode cX6_packKeywords 47 = .ok (.laload, 1) := by decide +kernel
theorem dX6_packKeywords_48 : decode cX6_packKeywords 48 = .ok (.iload_n 3, 1) := by decide +kernel
theorem dX6_packKeywords_49 : decode cX6_packKeywords 49 = .ok (.invokestatic 41, 3) := by decide +kernel
theorem dX6_packKeywords_52 : decode cX6_packKeywords 52 = .ok (.lastore, 1) := by decide +kernel
theorem dX6_packKeywords_53 : decode cX6_packKeywords 53 = .ok (.iinc 2 1, 3) := by decide +kernel
theorem dX6_packKeywords_56 : decode cX6_packKeywords 56 = .ok (.goto (-47), 3) := by decide +kernel
theorem dX6_packKeywords_59 : decode cX6_packKeywords 59 = .ok (.aload_n 0, 1) := by decide +kernel
theorem dX6_packKeywords_60 : decode cX6_packKeywords 60 = .ok (.areturn, 1) := by decide +kernel
theorem dX6_pack_0 : decode cX6_pack 0 = .ok (.iload_n 2, 1) := by decide +kernel
theorem dX6_pack_1 : decode cX6_pack 1 = .ok (.invokestatic 45, 3) := by decide +kernel
theorem dX6_pack_4 : decode cX6_pack 4 = .ok (.ifCond .eq 13, 3) := by decide +kernel
theorem dX6_pack_7 : decode cX6_pack 7 = .ok (.iload_n 2, 1) := by decide +kernel
theorem dX6_pack_8 : decode cX6_pack 8 = .ok (.bipush 48, 2) := by decide +kernel
theorem dX6_pack_10 : decode cX6_pack 10 = .ok (.isub, 1) := by decide +kernel
theorem dX6_pack_11 : decode cX6_pack 11 = .ok (.bipush 27, 2) := by decide +kernel
theorem dX6_pack_13 : decode cX6_pack 13 = .ok (.iadd, 1) := by decide +kernel
theorem dX6_pack_14 : decode cX6_pack 14 = .ok (.goto 9, 3) := by decide +kernel
theorem dX6_pack_17 : decode cX6_pack 17 = .ok (.iload_n 2, 1) := by decide +kernel
theorem dX6_pack_18 : decode cX6_pack 18 = .ok (.bipush 97, 2) := by decide +kernel
theorem dX6_pack_20 : decode cX6_pack 20 = .ok (.isub, 1) := by decide +kernel
theorem dX6_pack_21 : decode cX6_pack 21 = .ok (.iconst 1, 1) := by decide +kernel
theorem dX6_pack_22 : decode cX6_pack 22 = .ok (.iadd, 1) := by decide +kernel
theorem dX6_pack_23 : decode cX6_pack 23 = .ok (.istore_n 3, 1) := by decide +kernel
theorem dX6_pack_24 : decode cX6_pack 24 = .ok (.lload_n 0, 1) := by decide +kernel
theorem dX6_pack_25 : decode cX6_pack 25 = .ok (.bipush 6, 2) := by decide +kernel
theorem dX6_pack_27 : decode cX6_pack 27 = .ok (.lshl, 1) := by decide +kernel
theorem dX6_pack_28 : decode cX6_pack 28 = .ok (.iload_n 3, 1) := by decide +kernel
theorem dX6_pack_29 : decode cX6_pack 29 = .ok (.i2l, 1) := by decide +kernel
theorem dX6_pack_30 : decode cX6_pack 30 = .ok (.lor, 1) := by decide +kernel
theorem dX6_pack_31 : decode cX6_pack 31 = .ok (.lreturn, 1) := by decide +kernel
theorem dX6_isLetter_0 : decode cX6_isLetter 0 = .ok (.iload_n 0, 1) := by decide +kernel
theorem dX6_isLetter_1 : decode cX6_isLetter 1 = .ok (.bipush 97, 2) := by decide +kernel
theorem dX6_isLetter_3 : decode cX6_isLetter 3 = .ok (.if_icmp .lt 13, 3) := by decide +kernel
theorem dX6_isLetter_6 : decode cX6_isLetter 6 = .ok (.iload_n 0, 1) := by decide +kernel
theorem dX6_isLetter_7 : decode cX6_isLetter 7 = .ok (.bipush 122, 2) := by decide +kernel
theorem dX6_isLetter_9 : decode cX6_isLetter 9 = .ok (.if_icmp .gt 7, 3) := by decide +kernel
theorem dX6_isLetter_12 : decode cX6_isLetter 12 = .ok (.iconst 1, 1) := by decide +kernel
theorem dX6_isLetter_13 : decode cX6_isLetter 13 = .ok (.goto 4, 3) := by decide +kernel
theorem dX6_isLetter_16 : decode cX6_isLetter 16 = .ok (.iconst 0, 1) := by decide +kernel
theorem dX6_isLetter_17 : decode cX6_isLetter 17 = .ok (.ireturn, 1) := by decide +kernel
theorem dX6_isDigit_0 : decode cX6_isDigit 0 = .ok (.iload_n 0, 1) := by decide +kernel
theorem dX6_isDigit_1 : decode cX6_isDigit 1 = .ok (.bipush 48, 2) := by decide +kernel
theorem dX6_isDigit_3 : decode cX6_isDigit 3 = .ok (.if_icmp .lt 13, 3) := by decide +kernel
theorem dX6_isDigit_6 : decode cX6_isDigit 6 = .ok (.iload_n 0, 1) := by decide +kernel
theorem dX6_isDigit_7 : decode cX6_isDigit 7 = .ok (.bipush 57, 2) := by decide +kernel
theorem dX6_isDigit_9 : decode cX6_isDigit 9 = .ok (.if_icmp .gt 7, 3) := by decide +kernel
theorem dX6_isDigit_12 : decode cX6_isDigit 12 = .ok (.iconst 1, 1) := by decide +kernel
theorem dX6_isDigit_13 : decode cX6_isDigit 13 = .ok (.goto 4, 3) := by decide +kernel
theorem dX6_isDigit_16 : decode cX6_isDigit 16 = .ok (.iconst 0, 1) := by decide +kernel
theorem dX6_isDigit_17 : decode cX6_isDigit 17 = .ok (.ireturn, 1) := by decide +kernel
theorem dX6_scan_0 : decode cX6_scan 0 = .ok (.aload_n 0, 1) := by decide +kernel
theorem dX6_scan_1 : decode cX6_scan 1 = .ok (.iconst 0, 1) := by decide +kernel
theorem dX6_scan_2 : decode cX6_scan 2 = .ok (.putfield 49, 3) := by decide +kernel
theorem dX6_scan_5 : decode cX6_scan 5 = .ok (.aload_n 0, 1) := by decide +kernel
theorem dX6_scan_6 : decode cX6_scan 6 = .ok (.iconst 0, 1) := by decide +kernel
theorem dX6_scan_7 : decode cX6_scan 7 = .ok (.putfield 53, 3) := by decide +kernel
theorem dX6_scan_10 : decode cX6_scan 10 = .ok (.sipush 263, 3) := by decide +kernel
theorem dX6_scan_13 : decode cX6_scan 13 = .ok (.istore_n 2, 1) := by decide +kernel
theorem dX6_scan_14 : decode cX6_scan 14 = .ok (.aload_n 0, 1) := by decide +kernel
theorem dX6_scan_15 : decode cX6_scan 15 = .ok (.getfield 49, 3) := by decide +kernel
theorem dX6_scan_18 : decode cX6_scan 18 = .ok (.aload_n 0, 1) := by decide +kernel
theorem dX6_scan_19 : decode cX6_scan 19 = .ok (.getfield 19, 3) := by decide +kernel
theorem dX6_scan_22 : decode cX6_scan 22 = .ok (.arraylength, 1) := by decide +kernel
theorem dX6_scan_23 : decode cX6_scan 23 = .ok (.if_icmp .ge 82, 3) := by decide +kernel
theorem dX6_scan_26 : decode cX6_scan 26 = .ok (.iload_n 2, 1) := by decide +kernel
theorem dX6_scan_27 : decode cX6_scan 27 = .ok (.sipush 260, 3) := by decide +kernel
theorem dX6_scan_30 : decode cX6_scan 30 = .ok (.if_icmp .eq 75, 3) := by decide +kernel
theorem dX6_scan_33 : decode cX6_scan 33 = .ok (.iload_n 2, 1) := by decide +kernel
theorem dX6_scan_34 : decode cX6_scan 34 = .ok (.sipush 261, 3) := by decide +kernel
theorem dX6_scan_37 : decode cX6_scan 37 = .ok (.if_icmp .eq 68, 3) := by decide +kernel
theorem dX6_scan_40 : decode cX6_scan 40 = .ok (.aload_n 0, 1) := by decide +kernel
theorem dX6_scan_41 : decode cX6_scan 41 = .ok (.aload_n 1, 1) := by decide +kernel
theorem dX6_scan_42 : decode cX6_scan 42 = .ok (.invokevirtual 56, 3) := by decide +kernel
theorem dX6_scan_45 : decode cX6_scan 45 = .ok (.aload_n 0, 1) := by decide +kernel
theorem dX6_scan_46 : decode cX6_scan 46 = .ok (.getfield 23, 3) := by decide +kernel
theorem dX6_scan_49 : decode cX6_scan 49 = .ok (.aload_n 0, 1) := by decide +kernel
theorem dX6_scan_50 : decode cX6_scan 50 = .ok (.getfield 49, 3) := by decide +kernel
theorem dX6_scan_53 : decode cX6_scan 53 = .ok (.aload_n 0, 1) := by decide +kernel
theorem dX6_scan_54 : decode cX6_scan 54 = .ok (.getfield 53, 3) := by decide +kernel
theorem dX6_scan_57 : decode cX6_scan 57 = .ok (.iastore, 1) := by decide +kernel
theorem dX6_scan_58 : decode cX6_scan 58 = .ok (.aload_n 0, 1) := by decide +kernel
theorem dX6_scan_59 : decode cX6_scan 59 = .ok (.lconst 0, 1) := by decide +kernel
theorem dX6_scan_60 : decode cX6_scan 60 = .ok (.putfield 60, 3) := by decide +kernel
theorem dX6_scan_63 : decode cX6_scan 63 = .ok (.aload_n 0, 1) := by decide +kernel
theorem dX6_scan_64 : decode cX6_scan 64 = .ok (.aload_n 1, 1) := by decide +kernel
theorem dX6_scan_65 : decode cX6_scan 65 = .ok (.invokevirtual 64, 3) := by decide +kernel
theorem dX6_scan_68 : decode cX6_scan 68 = .ok (.istore_n 2, 1) := by decide +kernel
theorem dX6_scan_69 : decode cX6_scan 69 = .ok (.aload_n 0, 1) := by decide +kernel
theorem dX6_scan_70 : decode cX6_scan 70 = .ok (.getfield 19, 3) := by decide +kernel
theorem dX6_scan_73 : decode cX6_scan 73 = .ok (.aload_n 0, 1) := by decide +kernel
theorem dX6_scan_74 : decode cX6_scan 74 = .ok (.getfield 49, 3) := by decide +kernel
theorem dX6_scan_77 : decode cX6_scan 77 = .ok (.iload_n 2, 1) := by decide +kernel
theorem dX6_scan_78 : decode cX6_scan 78 = .ok (.iastore, 1) := by decide +kernel
theorem dX6_scan_79 : decode cX6_scan 79 = .ok (.aload_n 0, 1) := by decide +kernel
theorem dX6_scan_80 : decode cX6_scan 80 = .ok (.getfield 26, 3) := by decide +kernel
theorem dX6_scan_83 : decode cX6_scan 83 = .ok (.aload_n 0, 1) := by decide +kernel
theorem dX6_scan_84 : decode cX6_scan 84 = .ok (.getfield 49, 3) := by decide +kernel
theorem dX6_scan_87 : decode cX6_scan 87 = .ok (.aload_n 0, 1) := by decide +kernel
theorem dX6_scan_88 : decode cX6_scan 88 = .ok (.getfield 60, 3) := by decide +kernel
theorem dX6_scan_91 : decode cX6_scan 91 = .ok (.lastore, 1) := by decide +kernel
theorem dX6_scan_92 : decode cX6_scan 92 = .ok (.aload_n 0, 1) := by decide +kernel
theorem dX6_scan_93 : decode cX6_scan 93 = .ok (.dup, 1) := by decide +kernel
theorem dX6_scan_94 : decode cX6_scan 94 = .ok (.getfield 49, 3) := by decide +kernel
theorem dX6_scan_97 : decode cX6_scan 97 = .ok (.iconst 1, 1) := by decide +kernel
theorem dX6_scan_98 : decode cX6_scan 98 = .ok (.iadd, 1) := by decide +kernel
theorem dX6_scan_99 : decode cX6_scan 99 = .ok (.putfield 49, 3) := by decide +kernel
theorem dX6_scan_102 : decode cX6_scan 102 = .ok (.goto (-88), 3) := by decide +kernel
theorem dX6_scan_105 : decode cX6_scan 105 = .ok (.return_, 1) := by decide +kernel
theorem dX6_kindAt_0 : decode cX6_kindAt 0 = .ok (.iload_n 1, 1) := by decide +kernel
theorem dX6_kindAt_1 : decode cX6_kindAt 1 = .ok (.ifCond .lt 29, 3) := by decide +kernel
theorem dX6_kindAt_4 : decode cX6_kindAt 4 = .ok (.iload_n 1, 1) := by decide +kernel
theorem dX6_kindAt_5 : decode cX6_kindAt 5 = .ok (.aload_n 0, 1) := by decide +kernel
theorem dX6_kindAt_6 : decode cX6_kindAt 6 = .ok (.getfield 49, 3) := by decide +kernel
theorem dX6_kindAt_9 : decode cX6_kindAt 9 = .ok (.if_icmp .ge 21, 3) := by decide +kernel
theorem dX6_kindAt_12 : decode cX6_kindAt 12 = .ok (.iload_n 1, 1) := by decide +kernel
theorem dX6_kindAt_13 : decode cX6_kindAt 13 = .ok (.aload_n 0, 1) := by decide +kernel
theorem dX6_kindAt_14 : decode cX6_kindAt 14 = .ok (.getfield 19, 3) := by decide +kernel
theorem dX6_kindAt_17 : decode cX6_kindAt 17 = .ok (.arraylength, 1) := by decide +kernel
theorem dX6_kindAt_18 : decode cX6_kindAt 18 = .ok (.if_icmp .ge 12, 3) := by decide +kernel
theorem dX6_kindAt_21 : decode cX6_kindAt 21 = .ok (.aload_n 0, 1) := by decide +kernel
theorem dX6_kindAt_22 : decode cX6_kindAt 22 = .ok (.getfield 19, 3) := by decide +kernel
theorem dX6_kindAt_25 : decode cX6_kindAt 25 = .ok (.iload_n 1, 1) := by decide +kernel
theorem dX6_kindAt_26 : decode cX6_kindAt 26 = .ok (.iaload, 1) := by decide +kernel
theorem dX6_kindAt_27 : decode cX6_kindAt 27 = .ok (.goto 6, 3) := by decide +kernel
theorem dX6_kindAt_30 : decode cX6_kindAt 30 = .ok (.sipush 261, 3) := by decide +kernel
theorem dX6_kindAt_33 : decode cX6_kindAt 33 = .ok (.ireturn, 1) := by decide +kernel
theorem dX6_startAt_0 : decode cX6_startAt 0 = .ok (.iload_n 1, 1) := by decide +kernel
theorem dX6_startAt_1 : decode cX6_startAt 1 = .ok (.ifCond .lt 29, 3) := by decide +kernel
theorem dX6_startAt_4 : decode cX6_startAt 4 = .ok (.iload_n 1, 1) := by decide +kernel
theorem dX6_startAt_5 : decode cX6_startAt 5 = .ok (.aload_n 0, 1) := by decide +kernel
theorem dX6_startAt_6 : decode cX6_startAt 6 = .ok (.getfield 49, 3) := by decide +kernel
theorem dX6_startAt_9 : decode cX6_startAt 9 = .ok (.if_icmp .ge 21, 3) := by decide +kernel
theorem dX6_startAt_12 : decode cX6_startAt 12 = .ok (.iload_n 1, 1) := by decide +kernel
theorem dX6_startAt_13 : decode cX6_startAt 13 = .ok (.aload_n 0, 1) := by decide +kernel
theorem dX6_startAt_14 : decode cX6_startAt 14 = .ok (.getfield 23, 3) := by decide +kernel
theorem dX6_startAt_17 : decode cX6_startAt 17 = .ok (.arraylength, 1) := by decide +kernel
theorem dX6_startAt_18 : decode cX6_startAt 18 = .ok (.if_icmp .ge 12, 3) := by decide +kernel
theorem dX6_startAt_21 : decode cX6_startAt 21 = .ok (.aload_n 0, 1) := by decide +kernel
theorem dX6_startAt_22 : decode cX6_startAt 22 = .ok (.getfield 23, 3) := by decide +kernel
theorem dX6_startAt_25 : decode cX6_startAt 25 = .ok (.iload_n 1, 1) := by decide +kernel
theorem dX6_startAt_26 : decode cX6_startAt 26 = .ok (.iaload, 1) := by decide +kernel
theorem dX6_startAt_27 : decode cX6_startAt 27 = .ok (.goto 4, 3) := by decide +kernel
theorem dX6_startAt_30 : decode cX6_startAt 30 = .ok (.iconst 0, 1) := by decide +kernel
theorem dX6_startAt_31 : decode cX6_startAt 31 = .ok (.ireturn, 1) := by decide +kernel
theorem dX6_valueAt_0 : decode cX6_valueAt 0 = .ok (.iload_n 1, 1) := by decide +kernel
theorem dX6_valueAt_1 : decode cX6_valueAt 1 = .ok (.ifCond .lt 29, 3) := by decide +kernel
theorem dX6_valueAt_4 : decode cX6_valueAt 4 = .ok (.iload_n 1, 1) := by decide +kernel
theorem dX6_valueAt_5 : decode cX6_valueAt 5 = .ok (.aload_n 0, 1) := by decide +kernel
theorem dX6_valueAt_6 : decode cX6_valueAt 6 = .ok (.getfield 49, 3) := by decide +kernel
theorem dX6_valueAt_9 : decode cX6_valueAt 9 = .ok (.if_icmp .ge 21, 3) := by decide +kernel
theorem dX6_valueAt_12 : decode cX6_valueAt 12 = .ok (.iload_n 1, 1) := by decide +kernel
theorem dX6_valueAt_13 : decode cX6_valueAt 13 = .ok (.aload_n 0, 1) := by decide +kernel
theorem dX6_valueAt_14 : decode cX6_valueAt 14 = .ok (.getfield 26, 3) := by decide +kernel
theorem dX6_valueAt_17 : decode cX6_valueAt 17 = .ok (.arraylength, 1) := by decide +kernel
theorem dX6_valueAt_18 : decode cX6_valueAt 18 = .ok (.if_icmp .ge 12, 3) := by decide +kernel
theorem dX6_valueAt_21 : decode cX6_valueAt 21 = .ok (.aload_n 0, 1) := by decide +kernel
theorem dX6_valueAt_22 : decode cX6_valueAt 22 = .ok (.getfield 26, 3) := by decide +kernel
theorem dX6_valueAt_25 : decode cX6_valueAt 25 = .ok (.iload_n 1, 1) := by decide +kernel
theorem dX6_valueAt_26 : decode cX6_valueAt 26 = .ok (.laload, 1) := by decide +kernel
theorem dX6_valueAt_27 : decode cX6_valueAt 27 = .ok (.goto 4, 3) := by decide +kernel
theorem dX6_valueAt_30 : decode cX6_valueAt 30 = .ok (.lconst 0, 1) := by decide +kernel
theorem dX6_valueAt_31 : decode cX6_valueAt 31 = .ok (.lreturn, 1) := by decide +kernel
theorem dX6_skipBlanks_0 : decode cX6_skipBlanks 0 = .ok (.aload_n 0, 1) := by decide +kernel
theorem dX6_skipBlanks_1 : decode cX6_skipBlanks 1 = .ok (.getfield 53, 3) := by decide +kernel
theorem dX6_skipBlanks_4 : decode cX6_skipBlanks 4 = .ok (.aload_n 1, 1) := by decide +kernel
theorem dX6_skipBlanks_5 : decode cX6_skipBlanks 5 = .ok (.getfield 68, 3) := by decide +kernel
theorem dX6_skipBlanks_8 : decode cX6_skipBlanks 8 = .ok (.if_icmp .ge 42, 3) := by decide +kernel
theorem dX6_skipBlanks_11 : decode cX6_skipBlanks 11 = .ok (.aload_n 1, 1) := by decide +kernel
theorem dX6_skipBlanks_12 : decode cX6_skipBlanks 12 = .ok (.aload_n 0, 1) := by decide +kernel
theorem dX6_skipBlanks_13 : decode cX6_skipBlanks 13 = .ok (.getfield 53, 3) := by decide +kernel
theorem dX6_skipBlanks_16 : decode cX6_skipBlanks 16 = .ok (.invokevirtual 72, 3) := by decide +kernel
theorem dX6_skipBlanks_19 : decode cX6_skipBlanks 19 = .ok (.bipush 32, 2) := by decide +kernel
theorem dX6_skipBlanks_21 : decode cX6_skipBlanks 21 = .ok (.if_icmp .eq 16, 3) := by decide +kernel
theorem dX6_skipBlanks_24 : decode cX6_skipBlanks 24 = .ok (.aload_n 1, 1) := by decide +kernel
theorem dX6_skipBlanks_25 : decode cX6_skipBlanks 25 = .ok (.aload_n 0, 1) := by decide +kernel
theorem dX6_skipBlanks_26 : decode cX6_skipBlanks 26 = .ok (.getfield 53, 3) := by decide +kernel
theorem dX6_skipBlanks_29 : decode cX6_skipBlanks 29 = .ok (.invokevirtual 72, 3) := by decide +kernel
theorem dX6_skipBlanks_32 : decode cX6_skipBlanks 32 = .ok (.bipush 10, 2) := by decide +kernel
theorem dX6_skipBlanks_34 : decode cX6_skipBlanks 34 = .ok (.if_icmp .ne 16, 3) := by decide +kernel
theorem dX6_skipBlanks_37 : decode cX6_skipBlanks 37 = .ok (.aload_n 0, 1) := by decide +kernel
theorem dX6_skipBlanks_38 : decode cX6_skipBlanks 38 = .ok (.dup, 1) := by decide +kernel
theorem dX6_skipBlanks_39 : decode cX6_skipBlanks 39 = .ok (.getfield 53, 3) := by decide +kernel
theorem dX6_skipBlanks_42 : decode cX6_skipBlanks 42 = .ok (.iconst 1, 1) := by decide +kernel
theorem dX6_skipBlanks_43 : decode cX6_skipBlanks 43 = .ok (.iadd, 1) := by decide +kernel
theorem dX6_skipBlanks_44 : decode cX6_skipBlanks 44 = .ok (.putfield 53, 3) := by decide +kernel
theorem dX6_skipBlanks_47 : decode cX6_skipBlanks 47 = .ok (.goto (-47), 3) := by decide +kernel
theorem dX6_skipBlanks_50 : decode cX6_skipBlanks 50 = .ok (.return_, 1) := by decide +kernel
theorem dX6_readToken_0 : decode cX6_readToken 0 = .ok (.aload_n 1, 1) := by decide +kernel
theorem dX6_readToken_1 : decode cX6_readToken 1 = .ok (.aload_n 0, 1) := by decide +kernel
theorem dX6_readToken_2 : decode cX6_readToken 2 = .ok (.getfield 53, 3) := by decide +kernel
theorem dX6_readToken_5 : decode cX6_readToken 5 = .ok (.invokevirtual 72, 3) := by decide +kernel
theorem dX6_readToken_8 : decode cX6_readToken 8 = .ok (.istore_n 2, 1) := by decide +kernel
theorem dX6_readToken_9 : decode cX6_readToken 9 = .ok (.iload_n 2, 1) := by decide +kernel
theorem dX6_readToken_10 : decode cX6_readToken 10 = .ok (.ifCond .ge 7, 3) := by decide +kernel
theorem dX6_readToken_13 : decode cX6_readToken 13 = .ok (.sipush 260, 3) := by decide +kernel
theorem dX6_readToken_16 : decode cX6_readToken 16 = .ok (.ireturn, 1) := by decide +kernel
theorem dX6_readToken_17 : decode cX6_readToken 17 = .ok (.aload_n 0, 1) := by decide +kernel
theorem dX6_readToken_18 : decode cX6_readToken 18 = .ok (.getfield 49, 3) := by decide +kernel
theorem dX6_readToken_21 : decode cX6_readToken 21 = .ok (.sipush 400, 3) := by decide +kernel
theorem dX6_readToken_24 : decode cX6_readToken 24 = .ok (.if_icmp .lt 7, 3) := by decide +kernel
theorem dX6_readToken_27 : decode cX6_readToken 27 = .ok (.sipush 261, 3) := by decide +kernel
theorem dX6_readToken_30 : decode cX6_readToken 30 = .ok (.ireturn, 1) := by decide +kernel
theorem dX6_readToken_31 : decode cX6_readToken 31 = .ok (.iload_n 2, 1) := by decide +kernel
theorem dX6_readToken_32 : decode cX6_readToken 32 = .ok (.invokestatic 76, 3) := by decide +kernel
theorem dX6_readToken_35 : decode cX6_readToken 35 = .ok (.ifCond .eq 9, 3) := by decide +kernel
theorem dX6_readToken_38 : decode cX6_readToken 38 = .ok (.aload_n 0, 1) := by decide +kernel
theorem dX6_readToken_39 : decode cX6_readToken 39 = .ok (.aload_n 1, 1) := by decide +kernel
theorem dX6_readToken_40 : decode cX6_readToken 40 = .ok (.invokevirtual 79, 3) := by decide +kernel
theorem dX6_readToken_43 : decode cX6_readToken 43 = .ok (.ireturn, 1) := by decide +kernel
theorem dX6_readToken_44 : decode cX6_readToken 44 = .ok (.iload_n 2, 1) := by decide +kernel
theorem dX6_readToken_45 : decode cX6_readToken 45 = .ok (.invokestatic 45, 3) := by decide +kernel
theorem dX6_readToken_48 : decode cX6_readToken 48 = .ok (.ifCond .eq 9, 3) := by decide +kernel
theorem dX6_readToken_51 : decode cX6_readToken 51 = .ok (.aload_n 0, 1) := by decide +kernel
theorem dX6_readToken_52 : decode cX6_readToken 52 = .ok (.aload_n 1, 1) := by decide +kernel
theorem dX6_readToken_53 : decode cX6_readToken 53 = .ok (.invokevirtual 82, 3) := by decide +kernel
theorem dX6_readToken_56 : decode cX6_readToken 56 = .ok (.ireturn, 1) := by decide +kernel
theorem dX6_readToken_57 : decode cX6_readToken 57 = .ok (.aload_n 0, 1) := by decide +kernel
theorem dX6_readToken_58 : decode cX6_readToken 58 = .ok (.aload_n 1, 1) := by decide +kernel
theorem dX6_readToken_59 : decode cX6_readToken 59 = .ok (.iload_n 2, 1) := by decide +kernel
theorem dX6_readToken_60 : decode cX6_readToken 60 = .ok (.invokevirtual 85, 3) := by decide +kernel
theorem dX6_readToken_63 : decode cX6_readToken 63 = .ok (.ireturn, 1) := by decide +kernel
theorem dX6_readWord_0 : decode cX6_readWord 0 = .ok (.aload_n 0, 1) := by decide +kernel
theorem dX6_readWord_1 : decode cX6_readWord 1 = .ok (.getfield 53, 3) := by decide +kernel
theorem dX6_readWord_4 : decode cX6_readWord 4 = .ok (.istore_n 2, 1) := by decide +kernel
theorem dX6_readWord_5 : decode cX6_readWord 5 = .ok (.aload_n 0, 1) := by decide +kernel
theorem dX6_readWord_6 : decode cX6_readWord 6 = .ok (.getfield 53, 3) := by decide +kernel
theorem dX6_readWord_9 : decode cX6_readWord 9 = .ok (.aload_n 1, 1) := by decide +kernel
theorem dX6_readWord_10 : decode cX6_readWord 10 = .ok (.getfield 68, 3) := by decide +kernel
theorem dX6_readWord_13 : decode cX6_readWord 13 = .ok (.if_icmp .ge 63, 3) := by decide +kernel
theorem dX6_readWord_16 : decode cX6_readWord 16 = .ok (.aload_n 1, 1) := by decide +kernel
theorem dX6_readWord_17 : decode cX6_readWord 17 = .ok (.aload_n 0, 1) := by decide +kernel
theorem dX6_readWord_18 : decode cX6_readWord 18 = .ok (.getfield 53, 3) := by decide +kernel
theorem dX6_readWord_21 : decode cX6_readWord 21 = .ok (.invokevirtual 72, 3) := by decide +kernel
theorem dX6_readWord_24 : decode cX6_readWord 24 = .ok (.invokestatic 76, 3) := by decide +kernel
theorem dX6_readWord_27 : decode cX6_readWord 27 = .ok (.ifCond .ne 17, 3) := by decide +kernel
theorem dX6_readWord_30 : decode cX6_readWord 30 = .ok (.aload_n 1, 1) := by decide +kernel
theorem dX6_readWord_31 : decode cX6_readWord 31 = .ok (.aload_n 0, 1) := by decide +kernel
theorem dX6_readWord_32 : decode cX6_readWord 32 = .ok (.getfield 53, 3) := by decide +kernel
theorem dX6_readWord_35 : decode cX6_readWord 35 = .ok (.invokevirtual 72, 3) := by decide +kernel
theorem dX6_readWord_38 : decode cX6_readWord 38 = .ok (.invokestatic 45, 3) := by decide +kernel
theorem dX6_readWord_41 : decode cX6_readWord 41 = .ok (.ifCond .eq 35, 3) := by decide +kernel
theorem dX6_readWord_44 : decode cX6_readWord 44 = .ok (.aload_n 0, 1) := by decide +kernel
theorem dX6_readWord_45 : decode cX6_readWord 45 = .ok (.aload_n 0, 1) := by decide +kernel
theorem dX6_readWord_46 : decode cX6_readWord 46 = .ok (.getfield 60, 3) := by decide +kernel
theorem dX6_readWord_49 : decode cX6_readWord 49 = .ok (.aload_n 1, 1) := by decide +kernel
theorem dX6_readWord_50 : decode cX6_readWord 50 = .ok (.aload_n 0, 1) := by decide +kernel
theorem dX6_readWord_51 : decode cX6_readWord 51 = .ok (.getfield 53, 3) := by decide +kernel
theorem dX6_readWord_54 : decode cX6_readWord 54 = .ok (.invokevirtual 72, 3) := by decide +kernel
theorem dX6_readWord_57 : decode cX6_readWord 57 = .ok (.invokestatic 41, 3) := by decide +kernel
theorem dX6_readWord_60 : decode cX6_readWord 60 = .ok (.putfield 60, 3) := by decide +kernel
theorem dX6_readWord_63 : decode cX6_readWord 63 = .ok (.aload_n 0, 1) := by decide +kernel
theorem dX6_readWord_64 : decode cX6_readWord 64 = .ok (.dup, 1) := by decide +kernel
theorem dX6_readWord_65 : decode cX6_readWord 65 = .ok (.getfield 53, 3) := by decide +kernel
theorem dX6_readWord_68 : decode cX6_readWord 68 = .ok (.iconst 1, 1) := by decide +kernel
theorem dX6_readWord_69 : decode cX6_readWord 69 = .ok (.iadd, 1) := by decide +kernel
theorem dX6_readWord_70 : decode cX6_readWord 70 = .ok (.putfield 53, 3) := by decide +kernel
theorem dX6_readWord_73 : decode cX6_readWord 73 = .ok (.goto (-68), 3) := by decide +kernel
theorem dX6_readWord_76 : decode cX6_readWord 76 = .ok (.aload_n 0, 1) := by decide +kernel
theorem dX6_readWord_77 : decode cX6_readWord 77 = .ok (.getfield 53, 3) := by decide +kernel
theorem dX6_readWord_80 : decode cX6_readWord 80 = .ok (.iload_n 2, 1) := by decide +kernel
theorem dX6_readWord_81 : decode cX6_readWord 81 = .ok (.isub, 1) := by decide +kernel
theorem dX6_readWord_82 : decode cX6_readWord 82 = .ok (.bipush 10, 2) := by decide +kernel
theorem dX6_readWord_84 : decode cX6_readWord 84 = .ok (.if_icmp .le 7, 3) := by decide +kernel
theorem dX6_readWord_87 : decode cX6_readWord 87 = .ok (.sipush 261, 3) := by decide +kernel
theorem dX6_readWord_90 : decode cX6_readWord 90 = .ok (.ireturn, 1) := by decide +kernel
theorem dX6_readWord_91 : decode cX6_readWord 91 = .ok (.iconst 0, 1) := by decide +kernel
theorem dX6_readWord_92 : decode cX6_readWord 92 = .ok (.istore_n 3, 1) := by decide +kernel
theorem dX6_readWord_93 : decode cX6_readWord 93 = .ok (.iload_n 3, 1) := by decide +kernel
theorem dX6_readWord_94 : decode cX6_readWord 94 = .ok (.aload_n 0, 1) := by decide +kernel
theorem dX6_readWord_95 : decode cX6_readWord 95 = .ok (.getfield 15, 3) := by decide +kernel
theorem dX6_readWord_98 : decode cX6_readWord 98 = .ok (.arraylength, 1) := by decide +kernel
theorem dX6_readWord_99 : decode cX6_readWord 99 = .ok (.if_icmp .ge 29, 3) := by decide +kernel
theorem dX6_readWord_102 : decode cX6_readWord 102 = .ok (.aload_n 0, 1) := by decide +kernel
theorem dX6_readWord_103 : decode cX6_readWord 103 = .ok (.getfield 15, 3) := by decide +kernel
theorem dX6_readWord_106 : decode cX6_readWord 106 = .ok (.iload_n 3, 1) := by decide +kernel
theorem dX6_readWord_107 : decode cX6_readWord 107 = .ok (.laload, 1) := by decide +kernel
theorem dX6_readWord_108 : decode cX6_readWord 108 = .ok (.aload_n 0, 1) := by decide +kernel
theorem dX6_readWord_109 : decode cX6_readWord 109 = .ok (.getfield 60, 3) := by decide +kernel
theorem dX6_readWord_112 : decode cX6_readWord 112 = .ok (.lcmp, 1) := by decide +kernel
theorem dX6_readWord_113 : decode cX6_readWord 113 = .ok (.ifCond .ne 9, 3) := by decide +kernel
theorem dX6_readWord_116 : decode cX6_readWord 116 = .ok (.sipush 300, 3) := by decide +kernel
theorem dX6_readWord_119 : decode cX6_readWord 119 = .ok (.iload_n 3, 1) := by decide +kernel
theorem dX6_readWord_120 : decode cX6_readWord 120 = .ok (.iadd, 1) := by decide +kernel
theorem dX6_readWord_121 : decode cX6_readWord 121 = .ok (.ireturn, 1) := by decide +kernel
theorem dX6_readWord_122 : decode cX6_readWord 122 = .ok (.iinc 3 1, 3) := by decide +kernel
theorem dX6_readWord_125 : decode cX6_readWord 125 = .ok (.goto (-32), 3) := by decide +kernel
theorem dX6_readWord_128 : decode cX6_readWord 128 = .ok (.sipush 258, 3) := by decide +kernel
theorem dX6_readWord_131 : decode cX6_readWord 131 = .ok (.ireturn, 1) := by decide +kernel
theorem dX6_readNumber_0 : decode cX6_readNumber 0 = .ok (.aload_n 0, 1) := by decide +kernel
theorem dX6_readNumber_1 : decode cX6_readNumber 1 = .ok (.getfield 53, 3) := by decide +kernel
theorem dX6_readNumber_4 : decode cX6_readNumber 4 = .ok (.istore_n 2, 1) := by decide +kernel
theorem dX6_readNumber_5 : decode cX6_readNumber 5 = .ok (.aload_n 0, 1) := by decide +kernel
theorem dX6_readNumber_6 : decode cX6_readNumber 6 = .ok (.getfield 53, 3) := by decide +kernel
theorem dX6_readNumber_9 : decode cX6_readNumber 9 = .ok (.aload_n 1, 1) := by decide +kernel
theorem dX6_readNumber_10 : decode cX6_readNumber 10 = .ok (.getfield 68, 3) := by decide +kernel
theorem dX6_readNumber_13 : decode cX6_readNumber 13 = .ok (.if_icmp .ge 55, 3) := by decide +kernel
theorem dX6_readNumber_16 : decode cX6_readNumber 16 = .ok (.aload_n 1, 1) := by decide +kernel
theorem dX6_readNumber_17 : decode cX6_readNumber 17 = .ok (.aload_n 0, 1) := by decide +kernel
theorem dX6_readNumber_18 : decode cX6_readNumber 18 = .ok (.getfield 53, 3) := by decide +kernel
theorem dX6_readNumber_21 : decode cX6_readNumber 21 = .ok (.invokevirtual 72, 3) := by decide +kernel
theorem dX6_readNumber_24 : decode cX6_readNumber 24 = .ok (.invokestatic 45, 3) := by decide +kernel
theorem dX6_readNumber_27 : decode cX6_readNumber 27 = .ok (.ifCond .eq 41, 3) := by decide +kernel
theorem dX6_readNumber_30 : decode cX6_readNumber 30 = .ok (.aload_n 0, 1) := by decide +kernel
theorem dX6_readNumber_31 : decode cX6_readNumber 31 = .ok (.aload_n 0, 1) := by decide +kernel
theorem dX6_readNumber_32 : decode cX6_readNumber 32 = .ok (.getfield 60, 3) := by decide +kernel
theorem dX6_readNumber_35 : decode cX6_readNumber 35 = .ok (.ldc2_w 89, 3) := by decide +kernel
theorem dX6_readNumber_38 : decode cX6_readNumber 38 = .ok (.lmul, 1) := by decide +kernel
theorem dX6_readNumber_39 : decode cX6_readNumber 39 = .ok (.aload_n 1, 1) := by decide +kernel
theorem dX6_readNumber_40 : decode cX6_readNumber 40 = .ok (.aload_n 0, 1) := by decide +kernel
theorem dX6_readNumber_41 : decode cX6_readNumber 41 = .ok (.getfield 53, 3) := by decide +kernel
theorem dX6_readNumber_44 : decode cX6_readNumber 44 = .ok (.invokevirtual 72, 3) := by decide +kernel
theorem dX6_readNumber_47 : decode cX6_readNumber 47 = .ok (.bipush 48, 2) := by decide +kernel
theorem dX6_readNumber_49 : decode cX6_readNumber 49 = .ok (.isub, 1) := by decide +kernel
theorem dX6_readNumber_50 : decode cX6_readNumber 50 = .ok (.i2l, 1) := by decide +kernel
theorem dX6_readNumber_51 : decode cX6_readNumber 51 = .ok (.ladd, 1) := by decide +kernel
theorem dX6_readNumber_52 : decode cX6_readNumber 52 = .ok (.putfield 60, 3) := by decide +kernel
theorem dX6_readNumber_55 : decode cX6_readNumber 55 = .ok (.aload_n 0, 1) := by decide +kernel
theorem dX6_readNumber_56 : decode cX6_readNumber 56 = .ok (.dup, 1) := by decide +kernel
theorem dX6_readNumber_57 : decode cX6_readNumber 57 = .ok (.getfield 53, 3) := by decide +kernel
theorem dX6_readNumber_60 : decode cX6_readNumber 60 = .ok (.iconst 1, 1) := by decide +kernel
theorem dX6_readNumber_61 : decode cX6_readNumber 61 = .ok (.iadd, 1) := by decide +kernel
theorem dX6_readNumber_62 : decode cX6_readNumber 62 = .ok (.putfield 53, 3) := by decide +kernel
theorem dX6_readNumber_65 : decode cX6_readNumber 65 = .ok (.goto (-60), 3) := by decide +kernel
theorem dX6_readNumber_68 : decode cX6_readNumber 68 = .ok (.aload_n 0, 1) := by decide +kernel
theorem dX6_readNumber_69 : decode cX6_readNumber 69 = .ok (.getfield 53, 3) := by decide +kernel
theorem dX6_readNumber_72 : decode cX6_readNumber 72 = .ok (.iload_n 2, 1) := by decide +kernel
theorem dX6_readNumber_73 : decode cX6_readNumber 73 = .ok (.isub, 1) := by decide +kernel
theorem dX6_readNumber_74 : decode cX6_readNumber 74 = .ok (.bipush 6, 2) := by decide +kernel
theorem dX6_readNumber_76 : decode cX6_readNumber 76 = .ok (.if_icmp .le 9, 3) := by decide +kernel
theorem dX6_readNumber_79 : decode cX6_readNumber 79 = .ok (.sipush 261, 3) := by decide +kernel
theorem dX6_readNumber_82 : decode cX6_readNumber 82 = .ok (.goto 6, 3) := by decide +kernel
theorem dX6_readNumber_85 : decode cX6_readNumber 85 = .ok (.sipush 259, 3) := by decide +kernel
theorem dX6_readNumber_88 : decode cX6_readNumber 88 = .ok (.ireturn, 1) := by decide +kernel
theorem dX6_readSymbol_0 : decode cX6_readSymbol 0 = .ok (.aload_n 0, 1) := by decide +kernel
theorem dX6_readSymbol_1 : decode cX6_readSymbol 1 = .ok (.dup, 1) := by decide +kernel
theorem dX6_readSymbol_2 : decode cX6_readSymbol 2 = .ok (.getfield 53, 3) := by decide +kernel
theorem dX6_readSymbol_5 : decode cX6_readSymbol 5 = .ok (.iconst 1, 1) := by decide +kernel
theorem dX6_readSymbol_6 : decode cX6_readSymbol 6 = .ok (.iadd, 1) := by decide +kernel
theorem dX6_readSymbol_7 : decode cX6_readSymbol 7 = .ok (.putfield 53, 3) := by decide +kernel
theorem dX6_readSymbol_10 : decode cX6_readSymbol 10 = .ok (.iload_n 2, 1) := by decide +kernel
theorem dX6_readSymbol_11 : decode cX6_readSymbol 11 = .ok (.tableswitch 272 40 93 #[270, 270, 270, 270, 270, 270, 272, 270, 272, 272, 272, 272, 272, 272, 272, 272, 272, 272, 272, 270, 229, 270, 229, 272, 272, 272, 272, 272, 272, 272, 272, 272, 272, 272, 272, 272, 272, 272, 272, 272, 272, 272, 272, 272, 272, 272, 272, 272, 272, 272, 272, 270, 272, 270], 229) := by decide +kernel
theorem dX6_readSymbol_240 : decode cX6_readSymbol 240 = .ok (.aload_n 1, 1) := by decide +kernel
theorem dX6_readSymbol_241 : decode cX6_readSymbol 241 = .ok (.aload_n 0, 1) := by decide +kernel
theorem dX6_readSymbol_242 : decode cX6_readSymbol 242 = .ok (.getfield 53, 3) := by decide +kernel
theorem dX6_readSymbol_245 : decode cX6_readSymbol 245 = .ok (.invokevirtual 72, 3) := by decide +kernel
theorem dX6_readSymbol_248 : decode cX6_readSymbol 248 = .ok (.bipush 61, 2) := by decide +kernel
theorem dX6_readSymbol_250 : decode cX6_readSymbol 250 = .ok (.if_icmp .eq 5, 3) := by decide +kernel
theorem dX6_readSymbol_253 : decode cX6_readSymbol 253 = .ok (.iload_n 2, 1) := by decide +kernel
theorem dX6_readSymbol_254 : decode cX6_readSymbol 254 = .ok (.ireturn, 1) := by decide +kernel
theorem dX6_readSymbol_255 : decode cX6_readSymbol 255 = .ok (.aload_n 0, 1) := by decide +kernel
theorem dX6_readSymbol_256 : decode cX6_readSymbol 256 = .ok (.dup, 1) := by decide +kernel
theorem dX6_readSymbol_257 : decode cX6_readSymbol 257 = .ok (.getfield 53, 3) := by decide +kernel
theorem dX6_readSymbol_260 : decode cX6_readSymbol 260 = .ok (.iconst 1, 1) := by decide +kernel
theorem dX6_readSymbol_261 : decode cX6_readSymbol 261 = .ok (.iadd, 1) := by decide +kernel
theorem dX6_readSymbol_262 : decode cX6_readSymbol 262 = .ok (.putfield 53, 3) := by decide +kernel
theorem dX6_readSymbol_265 : decode cX6_readSymbol 265 = .ok (.iload_n 2, 1) := by decide +kernel
theorem dX6_readSymbol_266 : decode cX6_readSymbol 266 = .ok (.bipush 60, 2) := by decide +kernel
theorem dX6_readSymbol_268 : decode cX6_readSymbol 268 = .ok (.if_icmp .ne 9, 3) := by decide +kernel
theorem dX6_readSymbol_271 : decode cX6_readSymbol 271 = .ok (.sipush 256, 3) := by decide +kernel
theorem dX6_readSymbol_274 : decode cX6_readSymbol 274 = .ok (.goto 6, 3) := by decide +kernel
theorem dX6_readSymbol_277 : decode cX6_readSymbol 277 = .ok (.sipush 257, 3) := by decide +kernel
theorem dX6_readSymbol_280 : decode cX6_readSymbol 280 = .ok (.ireturn, 1) := by decide +kernel
theorem dX6_readSymbol_281 : decode cX6_readSymbol 281 = .ok (.iload_n 2, 1) := by decide +kernel
theorem dX6_readSymbol_282 : decode cX6_readSymbol 282 = .ok (.ireturn, 1) := by decide +kernel
theorem dX6_readSymbol_283 : decode cX6_readSymbol 283 = .ok (.sipush 261, 3) := by decide +kernel
theorem dX6_readSymbol_286 : decode cX6_readSymbol 286 = .ok (.ireturn, 1) := by decide +kernel
theorem dX7_init_0 : decode cX7_init 0 = .ok (.aload_n 0, 1) := by decide +kernel
theorem dX7_init_1 : decode cX7_init 1 = .ok (.invokespecial 3, 3) := by decide +kernel
theorem dX7_init_4 : decode cX7_init 4 = .ok (.aload_n 0, 1) := by decide +kernel
theorem dX7_init_5 : decode cX7_init 5 = .ok (.bipush 20, 2) := by decide +kernel
theorem dX7_init_7 : decode cX7_init 7 = .ok (.newarray .int, 2) := by decide +kernel
theorem dX7_init_9 : decode cX7_init 9 = .ok (.putfield 9, 3) := by decide +kernel
theorem dX7_init_12 : decode cX7_init 12 = .ok (.aload_n 0, 1) := by decide +kernel
theorem dX7_init_13 : decode cX7_init 13 = .ok (.bipush 20, 2) := by decide +kernel
theorem dX7_init_15 : decode cX7_init 15 = .ok (.newarray .int, 2) := by decide +kernel
theorem dX7_init_17 : decode cX7_init 17 = .ok (.putfield 15, 3) := by decide +kernel
theorem dX7_init_20 : decode cX7_init 20 = .ok (.aload_n 0, 1) := by decide +kernel
theorem dX7_init_21 : decode cX7_init 21 = .ok (.iconst (-1), 1) := by decide +kernel
theorem dX7_init_22 : decode cX7_init 22 = .ok (.putfield 18, 3) := by decide +kernel
theorem dX7_init_25 : decode cX7_init 25 = .ok (.aload_n 0, 1) := by decide +kernel
theorem dX7_init_26 : decode cX7_init 26 = .ok (.aload_n 1, 1) := by decide +kernel
theorem dX7_init_27 : decode cX7_init 27 = .ok (.putfield 22, 3) := by decide +kernel
theorem dX7_init_30 : decode cX7_init 30 = .ok (.return_, 1) := by decide +kernel
theorem dX7_forget_0 : decode cX7_forget 0 = .ok (.aload_n 0, 1) := by decide +kernel
theorem dX7_forget_1 : decode cX7_forget 1 = .ok (.iconst (-1), 1) := by decide +kernel
theorem dX7_forget_2 : decode cX7_forget 2 = .ok (.putfield 18, 3) := by decide +kernel
theorem dX7_forget_5 : decode cX7_forget 5 = .ok (.return_, 1) := by decide +kernel
theorem dX7_reach_0 : decode cX7_reach 0 = .ok (.aload_n 0, 1) := by decide +kernel
theorem dX7_reach_1 : decode cX7_reach 1 = .ok (.iload_n 1, 1) := by decide +kernel
theorem dX7_reach_2 : decode cX7_reach 2 = .ok (.invokevirtual 26, 3) := by decide +kernel
theorem dX7_reach_5 : decode cX7_reach 5 = .ok (.iload_n 2, 1) := by decide +kernel
theorem dX7_reach_6 : decode cX7_reach 6 = .ok (.ifCond .lt 21, 3) := by decide +kernel
theorem dX7_reach_9 : decode cX7_reach 9 = .ok (.iload_n 2, 1) := by decide +kernel
theorem dX7_reach_10 : decode cX7_reach 10 = .ok (.aload_n 0, 1) := by decide +kernel
theorem dX7_reach_11 : decode cX7_reach 11 = .ok (.getfield 15, 3) := by decide +kernel
theorem dX7_reach_14 : decode cX7_reach 14 = .ok (.arraylength, 1) := by decide +kernel
theorem dX7_reach_15 : decode cX7_reach 15 = .ok (.if_icmp .ge 12, 3) := by decide +kernel
theorem dX7_reach_18 : decode cX7_reach 18 = .ok (.aload_n 0, 1) := by decide +kernel
theorem dX7_reach_19 : decode cX7_reach 19 = .ok (.getfield 15, 3) := by decide +kernel
theorem dX7_reach_22 : decode cX7_reach 22 = .ok (.iload_n 2, 1) := by decide +kernel
theorem dX7_reach_23 : decode cX7_reach 23 = .ok (.iaload, 1) := by decide +kernel
theorem dX7_reach_24 : decode cX7_reach 24 = .ok (.goto 4, 3) := by decide +kernel
theorem dX7_reach_27 : decode cX7_reach 27 = .ok (.iconst 0, 1) := by decide +kernel
theorem dX7_reach_28 : decode cX7_reach 28 = .ok (.ireturn, 1) := by decide +kernel
theorem dX7_part_0 : decode cX7_part 0 = .ok (.aload_n 0, 1) := by decide +kernel
theorem dX7_part_1 : decode cX7_part 1 = .ok (.iload_n 1, 1) := by decide +kernel
theorem dX7_part_2 : decode cX7_part 2 = .ok (.invokevirtual 26, 3) := by decide +kernel
theorem dX7_part_5 : decode cX7_part 5 = .ok (.aload_n 0, 1) := by decide +kernel
theorem dX7_part_6 : decode cX7_part 6 = .ok (.iload_n 2, 1) := by decide +kernel
theorem dX7_part_7 : decode cX7_part 7 = .ok (.invokevirtual 30, 3) := by decide +kernel
theorem dX7_part_10 : decode cX7_part 10 = .ok (.ireturn, 1) := by decide +kernel
theorem dX7_countParts_0 : decode cX7_countParts 0 = .ok (.aload_n 0, 1) := by decide +kernel
theorem dX7_countParts_1 : decode cX7_countParts 1 = .ok (.iload_n 1, 1) := by decide +kernel
theorem dX7_countParts_2 : decode cX7_countParts 2 = .ok (.invokevirtual 26, 3) := by decide +kernel
theorem dX7_countParts_5 : decode cX7_countParts 5 = .ok (.aload_n 0, 1) := by decide +kernel
theorem dX7_countParts_6 : decode cX7_countParts 6 = .ok (.getfield 34, 3) := by decide +kernel
theorem dX7_countParts_9 : decode cX7_countParts 9 = .ok (.ireturn, 1) := by decide +kernel
theorem dX7_distance_0 : decode cX7_distance 0 = .ok (.aload_n 0, 1) := by decide +kernel
theorem dX7_distance_1 : decode cX7_distance 1 = .ok (.iload_n 1, 1) := by decide +kernel
theorem dX7_distance_2 : decode cX7_distance 2 = .ok (.invokevirtual 26, 3) := by decide +kernel
theorem dX7_distance_5 : decode cX7_distance 5 = .ok (.iconst 0, 1) := by decide +kernel
theorem dX7_distance_6 : decode cX7_distance 6 = .ok (.iload_n 3, 1) := by decide +kernel
theorem dX7_distance_7 : decode cX7_distance 7 = .ok (.invokestatic 37, 3) := by decide +kernel
theorem dX7_distance_10 : decode cX7_distance 10 = .ok (.istore 4, 2) := by decide +kernel
theorem dX7_distance_12 : decode cX7_distance 12 = .ok (.iconst 0, 1) := by decide +kernel
theorem dX7_distance_13 : decode cX7_distance 13 = .ok (.istore 5, 2) := by decide +kernel
theorem dX7_distance_15 : decode cX7_distance 15 = .ok (.iload 5, 2) := by decide +kernel
theorem dX7_distance_17 : decode cX7_distance 17 = .ok (.bipush 20, 2) := by decide +kernel
theorem dX7_distance_19 : decode cX7_distance 19 = .ok (.if_icmp .gt 32, 3) := by decide +kernel
theorem dX7_distance_22 : decode cX7_distance 22 = .ok (.iload 4, 2) := by decide +kernel
theorem dX7_distance_24 : decode cX7_distance 24 = .ok (.iload_n 2, 1) := by decide +kernel
theorem dX7_distance_25 : decode cX7_distance 25 = .ok (.invokestatic 41, 3) := by decide +kernel
theorem dX7_distance_28 : decode cX7_distance 28 = .ok (.ifCond .eq 6, 3) := by decide +kernel
theorem dX7_distance_31 : decode cX7_distance 31 = .ok (.iload 5, 2) := by decide +kernel
theorem dX7_distance_33 : decode cX7_distance 33 = .ok (.ireturn, 1) := by decide +kernel
theorem dX7_distance_34 : decode cX7_distance 34 = .ok (.iload 4, 2) := by decide +kernel
theorem dX7_distance_36 : decode cX7_distance 36 = .ok (.aload_n 0, 1) := by decide +kernel
theorem dX7_distance_37 : decode cX7_distance 37 = .ok (.iload 4, 2) := by decide +kernel
theorem dX7_distance_39 : decode cX7_distance 39 = .ok (.invokevirtual 45, 3) := by decide +kernel
theorem dX7_distance_42 : decode cX7_distance 42 = .ok (.ior, 1) := by decide +kernel
theorem dX7_distance_43 : decode cX7_distance 43 = .ok (.istore 4, 2) := by decide +kernel
theorem dX7_distance_45 : decode cX7_distance 45 = .ok (.iinc 5 1, 3) := by decide +kernel
theorem dX7_distance_48 : decode cX7_distance 48 = .ok (.goto (-33), 3) := by decide +kernel
theorem dX7_distance_51 : decode cX7_distance 51 = .ok (.iconst (-1), 1) := by decide +kernel
theorem dX7_distance_52 : decode cX7_distance 52 = .ok (.ireturn, 1) := by decide +kernel
theorem dX7_afterOneStep_0 : decode cX7_afterOneStep 0 = .ok (.iconst 0, 1) := by decide +kernel
theorem dX7_afterOneStep_1 : decode cX7_afterOneStep 1 = .ok (.istore_n 2, 1) := by decide +kernel
theorem dX7_afterOneStep_2 : decode cX7_afterOneStep 2 = .ok (.iconst 0, 1) := by decide +kernel
theorem dX7_afterOneStep_3 : decode cX7_afterOneStep 3 = .ok (.istore_n 3, 1) := by decide +kernel
theorem dX7_afterOneStep_4 : decode cX7_afterOneStep 4 = .ok (.iload_n 3, 1) := by decide +kernel
theorem dX7_afterOneStep_5 : decode cX7_afterOneStep 5 = .ok (.aload_n 0, 1) := by decide +kernel
theorem dX7_afterOneStep_6 : decode cX7_afterOneStep 6 = .ok (.getfield 48, 3) := by decide +kernel
theorem dX7_afterOneStep_9 : decode cX7_afterOneStep 9 = .ok (.if_icmp .ge 35, 3) := by decide +kernel
theorem dX7_afterOneStep_12 : decode cX7_afterOneStep 12 = .ok (.iload_n 3, 1) := by decide +kernel
theorem dX7_afterOneStep_13 : decode cX7_afterOneStep 13 = .ok (.aload_n 0, 1) := by decide +kernel
theorem dX7_afterOneStep_14 : decode cX7_afterOneStep 14 = .ok (.getfield 9, 3) := by decide +kernel
theorem dX7_afterOneStep_17 : decode cX7_afterOneStep 17 = .ok (.arraylength, 1) := by decide +kernel
theorem dX7_afterOneStep_18 : decode cX7_afterOneStep 18 = .ok (.if_icmp .ge 26, 3) := by decide +kernel
theorem dX7_afterOneStep_21 : decode cX7_afterOneStep 21 = .ok (.iload_n 1, 1) := by decide +kernel
theorem dX7_afterOneStep_22 : decode cX7_afterOneStep 22 = .ok (.iload_n 3, 1) := by decide +kernel
theorem dX7_afterOneStep_23 : decode cX7_afterOneStep 23 = .ok (.invokestatic 41, 3) := by decide +kernel
theorem dX7_afterOneStep_26 : decode cX7_afterOneStep 26 = .ok (.ifCond .eq 12, 3) := by decide +kernel
theorem dX7_afterOneStep_29 : decode cX7_afterOneStep 29 = .ok (.iload_n 2, 1) := by decide +kernel
theorem dX7_afterOneStep_30 : decode cX7_afterOneStep 30 = .ok (.aload_n 0, 1) := by decide +kernel
theorem dX7_afterOneStep_31 : decode cX7_afterOneStep 31 = .ok (.getfield 9, 3) := by decide +kernel
theorem dX7_afterOneStep_34 : decode cX7_afterOneStep 34 = .ok (.iload_n 3, 1) := by decide +kernel
theorem dX7_afterOneStep_35 : decode cX7_afterOneStep 35 = .ok (.iaload, 1) := by decide +kernel
theorem dX7_afterOneStep_36 : decode cX7_afterOneStep 36 = .ok (.ior, 1) := by decide +kernel
theorem dX7_afterOneStep_37 : decode cX7_afterOneStep 37 = .ok (.istore_n 2, 1) := by decide +kernel
theorem dX7_afterOneStep_38 : decode cX7_afterOneStep 38 = .ok (.iinc 3 1, 3) := by decide +kernel
theorem dX7_afterOneStep_41 : decode cX7_afterOneStep 41 = .ok (.goto (-37), 3) := by decide +kernel
theorem dX7_afterOneStep_44 : decode cX7_afterOneStep 44 = .ok (.iload_n 2, 1) := by decide +kernel
theorem dX7_afterOneStep_45 : decode cX7_afterOneStep 45 = .ok (.ireturn, 1) := by decide +kernel
theorem dX7_look_0 : decode cX7_look 0 = .ok (.iload_n 1, 1) := by decide +kernel
theorem dX7_look_1 : decode cX7_look 1 = .ok (.aload_n 0, 1) := by decide +kernel
theorem dX7_look_2 : decode cX7_look 2 = .ok (.getfield 18, 3) := by decide +kernel
theorem dX7_look_5 : decode cX7_look 5 = .ok (.if_icmp .ne 4, 3) := by decide +kernel
theorem dX7_look_8 : decode cX7_look 8 = .ok (.return_, 1) := by decide +kernel
theorem dX7_look_9 : decode cX7_look 9 = .ok (.aload_n 0, 1) := by decide +kernel
theorem dX7_look_10 : decode cX7_look 10 = .ok (.iload_n 1, 1) := by decide +kernel
theorem dX7_look_11 : decode cX7_look 11 = .ok (.putfield 18, 3) := by decide +kernel
theorem dX7_look_14 : decode cX7_look 14 = .ok (.aload_n 0, 1) := by decide +kernel
theorem dX7_look_15 : decode cX7_look 15 = .ok (.iconst 2, 1) := by decide +kernel
theorem dX7_look_16 : decode cX7_look 16 = .ok (.aload_n 0, 1) := by decide +kernel
theorem dX7_look_17 : decode cX7_look 17 = .ok (.getfield 22, 3) := by decide +kernel
theorem dX7_look_20 : decode cX7_look 20 = .ok (.getfield 51, 3) := by decide +kernel
theorem dX7_look_23 : decode cX7_look 23 = .ok (.imul, 1) := by decide +kernel
theorem dX7_look_24 : decode cX7_look 24 = .ok (.putfield 48, 3) := by decide +kernel
theorem dX7_look_27 : decode cX7_look 27 = .ok (.iconst 0, 1) := by decide +kernel
theorem dX7_look_28 : decode cX7_look 28 = .ok (.istore_n 2, 1) := by decide +kernel
theorem dX7_look_29 : decode cX7_look 29 = .ok (.iload_n 2, 1) := by decide +kernel
theorem dX7_look_30 : decode cX7_look 30 = .ok (.aload_n 0, 1) := by decide +kernel
theorem dX7_look_31 : decode cX7_look 31 = .ok (.getfield 48, 3) := by decide +kernel
theorem dX7_look_34 : decode cX7_look 34 = .ok (.if_icmp .ge 25, 3) := by decide +kernel
theorem dX7_look_37 : decode cX7_look 37 = .ok (.iload_n 2, 1) := by decide +kernel
theorem dX7_look_38 : decode cX7_look 38 = .ok (.aload_n 0, 1) := by decide +kernel
theorem dX7_look_39 : decode cX7_look 39 = .ok (.getfield 9, 3) := by decide +kernel
theorem dX7_look_42 : decode cX7_look 42 = .ok (.arraylength, 1) := by decide +kernel
theorem dX7_look_43 : decode cX7_look 43 = .ok (.if_icmp .ge 16, 3) := by decide +kernel
theorem dX7_look_46 : decode cX7_look 46 = .ok (.aload_n 0, 1) := by decide +kernel
theorem dX7_look_47 : decode cX7_look 47 = .ok (.getfield 9, 3) := by decide +kernel
theorem dX7_look_50 : decode cX7_look 50 = .ok (.iload_n 2, 1) := by decide +kernel
theorem dX7_look_51 : decode cX7_look 51 = .ok (.iconst 0, 1) := by decide +kernel
theorem dX7_look_52 : decode cX7_look 52 = .ok (.iastore, 1) := by decide +kernel
theorem dX7_look_53 : decode cX7_look 53 = .ok (.iinc 2 1, 3) := by decide +kernel
theorem dX7_look_56 : decode cX7_look 56 = .ok (.goto (-27), 3) := by decide +kernel
theorem dX7_look_59 : decode cX7_look 59 = .ok (.iconst 0, 1) := by decide +kernel
theorem dX7_look_60 : decode cX7_look 60 = .ok (.istore_n 2, 1) := by decide +kernel
theorem dX7_look_61 : decode cX7_look 61 = .ok (.iload_n 2, 1) := by decide +kernel
theorem dX7_look_62 : decode cX7_look 62 = .ok (.aload_n 0, 1) := by decide +kernel
theorem dX7_look_63 : decode cX7_look 63 = .ok (.getfield 22, 3) := by decide +kernel
theorem dX7_look_66 : decode cX7_look 66 = .ok (.getfield 56, 3) := by decide +kernel
theorem dX7_look_69 : decode cX7_look 69 = .ok (.if_icmp .ge 61, 3) := by decide +kernel
theorem dX7_look_72 : decode cX7_look 72 = .ok (.iload_n 1, 1) := by decide +kernel
theorem dX7_look_73 : decode cX7_look 73 = .ok (.iload_n 2, 1) := by decide +kernel
theorem dX7_look_74 : decode cX7_look 74 = .ok (.invokestatic 41, 3) := by decide +kernel
theorem dX7_look_77 : decode cX7_look 77 = .ok (.ifCond .eq 47, 3) := by decide +kernel
theorem dX7_look_80 : decode cX7_look 80 = .ok (.aload_n 0, 1) := by decide +kernel
theorem dX7_look_81 : decode cX7_look 81 = .ok (.aload_n 0, 1) := by decide +kernel
theorem dX7_look_82 : decode cX7_look 82 = .ok (.getfield 22, 3) := by decide +kernel
theorem dX7_look_85 : decode cX7_look 85 = .ok (.iload_n 2, 1) := by decide +kernel
theorem dX7_look_86 : decode cX7_look 86 = .ok (.invokevirtual 59, 3) := by decide +kernel
theorem dX7_look_89 : decode cX7_look 89 = .ok (.iconst 1, 1) := by decide +kernel
theorem dX7_look_90 : decode cX7_look 90 = .ok (.ixor, 1) := by decide +kernel
theorem dX7_look_91 : decode cX7_look 91 = .ok (.aload_n 0, 1) := by decide +kernel
theorem dX7_look_92 : decode cX7_look 92 = .ok (.getfield 22, 3) := by decide +kernel
theorem dX7_look_95 : decode cX7_look 95 = .ok (.iload_n 2, 1) := by decide +kernel
theorem dX7_look_96 : decode cX7_look 96 = .ok (.invokevirtual 62, 3) := by decide +kernel
theorem dX7_look_99 : decode cX7_look 99 = .ok (.invokevirtual 65, 3) := by decide +kernel
theorem dX7_look_102 : decode cX7_look 102 = .ok (.aload_n 0, 1) := by decide +kernel
theorem dX7_look_103 : decode cX7_look 103 = .ok (.aload_n 0, 1) := by decide +kernel
theorem dX7_look_104 : decode cX7_look 104 = .ok (.getfield 22, 3) := by decide +kernel
theorem dX7_look_107 : decode cX7_look 107 = .ok (.iload_n 2, 1) := by decide +kernel
theorem dX7_look_108 : decode cX7_look 108 = .ok (.invokevirtual 62, 3) := by decide +kernel
theorem dX7_look_111 : decode cX7_look 111 = .ok (.iconst 1, 1) := by decide +kernel
theorem dX7_look_112 : decode cX7_look 112 = .ok (.ixor, 1) := by decide +kernel
theorem dX7_look_113 : decode cX7_look 113 = .ok (.aload_n 0, 1) := by decide +kernel
theorem dX7_look_114 : decode cX7_look 114 = .ok (.getfield 22, 3) := by decide +kernel
theorem dX7_look_117 : decode cX7_look 117 = .ok (.iload_n 2, 1) := by decide +kernel
theorem dX7_look_118 : decode cX7_look 118 = .ok (.invokevirtual 59, 3) := by decide +kernel
theorem dX7_look_121 : decode cX7_look 121 = .ok (.invokevirtual 65, 3) := by decide +kernel
theorem dX7_look_124 : decode cX7_look 124 = .ok (.iinc 2 1, 3) := by decide +kernel
theorem dX7_look_127 : decode cX7_look 127 = .ok (.goto (-66), 3) := by decide +kernel
theorem dX7_look_130 : decode cX7_look 130 = .ok (.aload_n 0, 1) := by decide +kernel
theorem dX7_look_131 : decode cX7_look 131 = .ok (.invokevirtual 69, 3) := by decide +kernel
theorem dX7_look_134 : decode cX7_look 134 = .ok (.aload_n 0, 1) := by decide +kernel
theorem dX7_look_135 : decode cX7_look 135 = .ok (.iconst 0, 1) := by decide +kernel
theorem dX7_look_136 : decode cX7_look 136 = .ok (.putfield 34, 3) := by decide +kernel
theorem dX7_look_139 : decode cX7_look 139 = .ok (.iconst 0, 1) := by decide +kernel
theorem dX7_look_140 : decode cX7_look 140 = .ok (.istore_n 2, 1) := by decide +kernel
theorem dX7_look_141 : decode cX7_look 141 = .ok (.iload_n 2, 1) := by decide +kernel
theorem dX7_look_142 : decode cX7_look 142 = .ok (.aload_n 0, 1) := by decide +kernel
theorem dX7_look_143 : decode cX7_look 143 = .ok (.getfield 48, 3) := by decide +kernel
theorem dX7_look_146 : decode cX7_look 146 = .ok (.if_icmp .ge 31, 3) := by decide +kernel
theorem dX7_look_149 : decode cX7_look 149 = .ok (.aload_n 0, 1) := by decide +kernel
theorem dX7_look_150 : decode cX7_look 150 = .ok (.iload_n 2, 1) := by decide +kernel
theorem dX7_look_151 : decode cX7_look 151 = .ok (.invokevirtual 30, 3) := by decide +kernel
theorem dX7_look_154 : decode cX7_look 154 = .ok (.invokestatic 72, 3) := by decide +kernel
theorem dX7_look_157 : decode cX7_look 157 = .ok (.iload_n 2, 1) := by decide +kernel
theorem dX7_look_158 : decode cX7_look 158 = .ok (.if_icmp .ne 13, 3) := by decide +kernel
theorem dX7_look_161 : decode cX7_look 161 = .ok (.aload_n 0, 1) := by decide +kernel
theorem dX7_look_162 : decode cX7_look 162 = .ok (.dup, 1) := by decide +kernel
theorem dX7_look_163 : decode cX7_look 163 = .ok (.getfield 34, 3) := by decide +kernel
theorem dX7_look_166 : decode cX7_look 166 = .ok (.iconst 1, 1) := by decide +kernel
theorem dX7_look_167 : decode cX7_look 167 = .ok (.iadd, 1) := by decide +kernel
theorem dX7_look_168 : decode cX7_look 168 = .ok (.putfield 34, 3) := by decide +kernel
theorem dX7_look_171 : decode cX7_look 171 = .ok (.iinc 2 1, 3) := by decide +kernel
theorem dX7_look_174 : decode cX7_look 174 = .ok (.goto (-33), 3) := by decide +kernel
theorem dX7_look_177 : decode cX7_look 177 = .ok (.return_, 1) := by decide +kernel
theorem dX7_together_0 : decode cX7_together 0 = .ok (.iconst 0, 1) := by decide +kernel
theorem dX7_together_1 : decode cX7_together 1 = .ok (.istore_n 2, 1) := by decide +kernel
theorem dX7_together_2 : decode cX7_together 2 = .ok (.iconst 0, 1) := by decide +kernel
theorem dX7_together_3 : decode cX7_together 3 = .ok (.istore_n 3, 1) := by decide +kernel
theorem dX7_together_4 : decode cX7_together 4 = .ok (.iload_n 3, 1) := by decide +kernel
theorem dX7_together_5 : decode cX7_together 5 = .ok (.aload_n 0, 1) := by decide +kernel
theorem dX7_together_6 : decode cX7_together 6 = .ok (.getfield 48, 3) := by decide +kernel
theorem dX7_together_9 : decode cX7_together 9 = .ok (.if_icmp .ge 63, 3) := by decide +kernel
theorem dX7_together_12 : decode cX7_together 12 = .ok (.iload_n 3, 1) := by decide +kernel
theorem dX7_together_13 : decode cX7_together 13 = .ok (.aload_n 0, 1) := by decide +kernel
theorem dX7_together_14 : decode cX7_together 14 = .ok (.getfield 15, 3) := by decide +kernel
theorem dX7_together_17 : decode cX7_together 17 = .ok (.arraylength, 1) := by decide +kernel
theorem dX7_together_18 : decode cX7_together 18 = .ok (.if_icmp .ge 54, 3) := by decide +kernel
theorem dX7_together_21 : decode cX7_together 21 = .ok (.aload_n 0, 1) := by decide +kernel
theorem dX7_together_22 : decode cX7_together 22 = .ok (.getfield 15, 3) := by decide +kernel
theorem dX7_together_25 : decode cX7_together 25 = .ok (.iload_n 3, 1) := by decide +kernel
theorem dX7_together_26 : decode cX7_together 26 = .ok (.iaload, 1) := by decide +kernel
theorem dX7_together_27 : decode cX7_together 27 = .ok (.iload_n 1, 1) := by decide +kernel
theorem dX7_together_28 : decode cX7_together 28 = .ok (.invokestatic 41, 3) := by decide +kernel
theorem dX7_together_31 : decode cX7_together 31 = .ok (.ifCond .eq 35, 3) := by decide +kernel
theorem dX7_together_34 : decode cX7_together 34 = .ok (.iload_n 1, 1) := by decide +kernel
theorem dX7_together_35 : decode cX7_together 35 = .ok (.ifCond .lt 31, 3) := by decide +kernel
theorem dX7_together_38 : decode cX7_together 38 = .ok (.iload_n 1, 1) := by decide +kernel
theorem dX7_together_39 : decode cX7_together 39 = .ok (.aload_n 0, 1) := by decide +kernel
theorem dX7_together_40 : decode cX7_together 40 = .ok (.getfield 15, 3) := by decide +kernel
theorem dX7_together_43 : decode cX7_together 43 = .ok (.arraylength, 1) := by decide +kernel
theorem dX7_together_44 : decode cX7_together 44 = .ok (.if_icmp .ge 22, 3) := by decide +kernel
theorem dX7_together_47 : decode cX7_together 47 = .ok (.aload_n 0, 1) := by decide +kernel
theorem dX7_together_48 : decode cX7_together 48 = .ok (.getfield 15, 3) := by decide +kernel
theorem dX7_together_51 : decode cX7_together 51 = .ok (.iload_n 1, 1) := by decide +kernel
theorem dX7_together_52 : decode cX7_together 52 = .ok (.iaload, 1) := by decide +kernel
theorem dX7_together_53 : decode cX7_together 53 = .ok (.iload_n 3, 1) := by decide +kernel
theorem dX7_together_54 : decode cX7_together 54 = .ok (.invokestatic 41, 3) := by decide +kernel
theorem dX7_together_57 : decode cX7_together 57 = .ok (.ifCond .eq 9, 3) := by decide +kernel
theorem dX7_together_60 : decode cX7_together 60 = .ok (.iload_n 2, 1) := by decide +kernel
theorem dX7_together_61 : decode cX7_together 61 = .ok (.iload_n 3, 1) := by decide +kernel
theorem dX7_together_62 : decode cX7_together 62 = .ok (.invokestatic 37, 3) := by decide +kernel
theorem dX7_together_65 : decode cX7_together 65 = .ok (.istore_n 2, 1) := by decide +kernel
theorem dX7_together_66 : decode cX7_together 66 = .ok (.iinc 3 1, 3) := by decide +kernel
theorem dX7_together_69 : decode cX7_together 69 = .ok (.goto (-65), 3) := by decide +kernel
theorem dX7_together_72 : decode cX7_together 72 = .ok (.iload_n 2, 1) := by decide +kernel
theorem dX7_together_73 : decode cX7_together 73 = .ok (.ireturn, 1) := by decide +kernel
theorem dX7_addStep_0 : decode cX7_addStep 0 = .ok (.iload_n 1, 1) := by decide +kernel
theorem dX7_addStep_1 : decode cX7_addStep 1 = .ok (.ifCond .lt 28, 3) := by decide +kernel
theorem dX7_addStep_4 : decode cX7_addStep 4 = .ok (.iload_n 1, 1) := by decide +kernel
theorem dX7_addStep_5 : decode cX7_addStep 5 = .ok (.aload_n 0, 1) := by decide +kernel
theorem dX7_addStep_6 : decode cX7_addStep 6 = .ok (.getfield 9, 3) := by decide +kernel
theorem dX7_addStep_9 : decode cX7_addStep 9 = .ok (.arraylength, 1) := by decide +kernel
theorem dX7_addStep_10 : decode cX7_addStep 10 = .ok (.if_icmp .ge 19, 3) := by decide +kernel
theorem dX7_addStep_13 : decode cX7_addStep 13 = .ok (.aload_n 0, 1) := by decide +kernel
theorem dX7_addStep_14 : decode cX7_addStep 14 = .ok (.getfield 9, 3) := by decide +kernel
theorem dX7_addStep_17 : decode cX7_addStep 17 = .ok (.iload_n 1, 1) := by decide +kernel
theorem dX7_addStep_18 : decode cX7_addStep 18 = .ok (.aload_n 0, 1) := by decide +kernel
theorem dX7_addStep_19 : decode cX7_addStep 19 = .ok (.getfield 9, 3) := by decide +kernel
theorem dX7_addStep_22 : decode cX7_addStep 22 = .ok (.iload_n 1, 1) := by decide +kernel
theorem dX7_addStep_23 : decode cX7_addStep 23 = .ok (.iaload, 1) := by decide +kernel
theorem dX7_addStep_24 : decode cX7_addStep 24 = .ok (.iload_n 2, 1) := by decide +kernel
theorem dX7_addStep_25 : decode cX7_addStep 25 = .ok (.invokestatic 37, 3) := by decide +kernel
theorem dX7_addStep_28 : decode cX7_addStep 28 = .ok (.iastore, 1) := by decide +kernel
theorem dX7_addStep_29 : decode cX7_addStep 29 = .ok (.return_, 1) := by decide +kernel
theorem dX7_close_0 : decode cX7_close 0 = .ok (.aload_n 0, 1) := by decide +kernel
theorem dX7_close_1 : decode cX7_close 1 = .ok (.getfield 48, 3) := by decide +kernel
theorem dX7_close_4 : decode cX7_close 4 = .ok (.aload_n 0, 1) := by decide +kernel
theorem dX7_close_5 : decode cX7_close 5 = .ok (.getfield 9, 3) := by decide +kernel
theorem dX7_close_8 : decode cX7_close 8 = .ok (.arraylength, 1) := by decide +kernel
theorem dX7_close_9 : decode cX7_close 9 = .ok (.aload_n 0, 1) := by decide +kernel
theorem dX7_close_10 : decode cX7_close 10 = .ok (.getfield 15, 3) := by decide +kernel
theorem dX7_close_13 : decode cX7_close 13 = .ok (.arraylength, 1) := by decide +kernel
theorem dX7_close_14 : decode cX7_close 14 = .ok (.invokestatic 75, 3) := by decide +kernel
theorem dX7_close_17 : decode cX7_close 17 = .ok (.invokestatic 75, 3) := by decide +kernel
theorem dX7_close_20 : decode cX7_close 20 = .ok (.istore_n 1, 1) := by decide +kernel
theorem dX7_close_21 : decode cX7_close 21 = .ok (.iconst 0, 1) := by decide +kernel
theorem dX7_close_22 : decode cX7_close 22 = .ok (.istore_n 2, 1) := by decide +kernel
theorem dX7_close_23 : decode cX7_close 23 = .ok (.iload_n 2, 1) := by decide +kernel
theorem dX7_close_24 : decode cX7_close 24 = .ok (.iload_n 1, 1) := by decide +kernel
theorem dX7_close_25 : decode cX7_close 25 = .ok (.if_icmp .ge 25, 3) := by decide +kernel
theorem dX7_close_28 : decode cX7_close 28 = .ok (.aload_n 0, 1) := by decide +kernel
theorem dX7_close_29 : decode cX7_close 29 = .ok (.getfield 15, 3) := by decide +kernel
theorem dX7_close_32 : decode cX7_close 32 = .ok (.iload_n 2, 1) := by decide +kernel
theorem dX7_close_33 : decode cX7_close 33 = .ok (.aload_n 0, 1) := by decide +kernel
theorem dX7_close_34 : decode cX7_close 34 = .ok (.getfield 9, 3) := by decide +kernel
theorem dX7_close_37 : decode cX7_close 37 = .ok (.iload_n 2, 1) := by decide +kernel
theorem dX7_close_38 : decode cX7_close 38 = .ok (.iaload, 1) := by decide +kernel
theorem dX7_close_39 : decode cX7_close 39 = .ok (.iload_n 2, 1) := by decide +kernel
theorem dX7_close_40 : decode cX7_close 40 = .ok (.invokestatic 37, 3) := by decide +kernel
theorem dX7_close_43 : decode cX7_close 43 = .ok (.iastore, 1) := by decide +kernel
theorem dX7_close_44 : decode cX7_close 44 = .ok (.iinc 2 1, 3) := by decide +kernel
theorem dX7_close_47 : decode cX7_close 47 = .ok (.goto (-24), 3) := by decide +kernel
theorem dX7_close_50 : decode cX7_close 50 = .ok (.iconst 0, 1) := by decide +kernel
theorem dX7_close_51 : decode cX7_close 51 = .ok (.istore_n 2, 1) := by decide +kernel
theorem dX7_close_52 : decode cX7_close 52 = .ok (.iload_n 2, 1) := by decide +kernel
theorem dX7_close_53 : decode cX7_close 53 = .ok (.iload_n 1, 1) := by decide +kernel
theorem dX7_close_54 : decode cX7_close 54 = .ok (.if_icmp .ge 50, 3) := by decide +kernel
theorem dX7_close_57 : decode cX7_close 57 = .ok (.iconst 0, 1) := by decide +kernel
theorem dX7_close_58 : decode cX7_close 58 = .ok (.istore_n 3, 1) := by decide +kernel
theorem dX7_close_59 : decode cX7_close 59 = .ok (.iload_n 3, 1) := by decide +kernel
theorem dX7_close_60 : decode cX7_close 60 = .ok (.iload_n 1, 1) := by decide +kernel
theorem dX7_close_61 : decode cX7_close 61 = .ok (.if_icmp .ge 37, 3) := by decide +kernel
theorem dX7_close_64 : decode cX7_close 64 = .ok (.aload_n 0, 1) := by decide +kernel
theorem dX7_close_65 : decode cX7_close 65 = .ok (.getfield 15, 3) := by decide +kernel
theorem dX7_close_68 : decode cX7_close 68 = .ok (.iload_n 3, 1) := by decide +kernel
theorem dX7_close_69 : decode cX7_close 69 = .ok (.iaload, 1) := by decide +kernel
theorem dX7_close_70 : decode cX7_close 70 = .ok (.iload_n 2, 1) := by decide +kernel
theorem dX7_close_71 : decode cX7_close 71 = .ok (.invokestatic 41, 3) := by decide +kernel
theorem dX7_close_74 : decode cX7_close 74 = .ok (.ifCond .eq 18, 3) := by decide +kernel
theorem dX7_close_77 : decode cX7_close 77 = .ok (.aload_n 0, 1) := by decide +kernel
theorem dX7_close_78 : decode cX7_close 78 = .ok (.getfield 15, 3) := by decide +kernel
theorem dX7_close_81 : decode cX7_close 81 = .ok (.iload_n 3, 1) := by decide +kernel
theorem dX7_close_82 : decode cX7_close 82 = .ok (.dup2, 1) := by decide +kernel
theorem dX7_close_83 : decode cX7_close 83 = .ok (.iaload, 1) := by decide +kernel
theorem dX7_close_84 : decode cX7_close 84 = .ok (.aload_n 0, 1) := by decide +kernel
theorem dX7_close_85 : decode cX7_close 85 = .ok (.getfield 15, 3) := by decide +kernel
theorem dX7_close_88 : decode cX7_close 88 = .ok (.iload_n 2, 1) := by decide +kernel
theorem dX7_close_89 : decode cX7_close 89 = .ok (.iaload, 1) := by decide +kernel
theorem dX7_close_90 : decode cX7_close 90 = .ok (.ior, 1) := by decide +kernel
theorem dX7_close_91 : decode cX7_close 91 = .ok (.iastore, 1) := by decide +kernel
theorem dX7_close_92 : decode cX7_close 92 = .ok (.iinc 3 1, 3) := by decide +kernel
theorem dX7_close_95 : decode cX7_close 95 = .ok (.goto (-36), 3) := by decide +kernel
theorem dX7_close_98 : decode cX7_close 98 = .ok (.iinc 2 1, 3) := by decide +kernel
theorem dX7_close_101 : decode cX7_close 101 = .ok (.goto (-49), 3) := by decide +kernel
theorem dX7_close_104 : decode cX7_close 104 = .ok (.return_, 1) := by decide +kernel
theorem dX8_init_0 : decode cX8_init 0 = .ok (.aload_n 0, 1) := by decide +kernel
theorem dX8_init_1 : decode cX8_init 1 = .ok (.invokespecial 3, 3) := by decide +kernel
theorem dX8_init_4 : decode cX8_init 4 = .ok (.aload_n 0, 1) := by decide +kernel
theorem dX8_init_5 : decode cX8_init 5 = .ok (.new 9, 3) := by decide +kernel
theorem dX8_init_8 : decode cX8_init 8 = .ok (.dup, 1) := by decide +kernel
theorem dX8_init_9 : decode cX8_init 9 = .ok (.invokespecial 11, 3) := by decide +kernel
theorem dX8_init_12 : decode cX8_init 12 = .ok (.putfield 12, 3) := by decide +kernel
theorem dX8_init_15 : decode cX8_init 15 = .ok (.aload_n 0, 1) := by decide +kernel
theorem dX8_init_16 : decode cX8_init 16 = .ok (.new 16, 3) := by decide +kernel
theorem dX8_init_19 : decode cX8_init 19 = .ok (.dup, 1) := by decide +kernel
theorem dX8_init_20 : decode cX8_init 20 = .ok (.invokespecial 18, 3) := by decide +kernel
theorem dX8_init_23 : decode cX8_init 23 = .ok (.putfield 19, 3) := by decide +kernel
theorem dX8_init_26 : decode cX8_init 26 = .ok (.aload_n 0, 1) := by decide +kernel
theorem dX8_init_27 : decode cX8_init 27 = .ok (.new 23, 3) := by decide +kernel
theorem dX8_init_30 : decode cX8_init 30 = .ok (.dup, 1) := by decide +kernel
theorem dX8_init_31 : decode cX8_init 31 = .ok (.invokespecial 25, 3) := by decide +kernel
theorem dX8_init_34 : decode cX8_init 34 = .ok (.putfield 26, 3) := by decide +kernel
theorem dX8_init_37 : decode cX8_init 37 = .ok (.aload_n 0, 1) := by decide +kernel
theorem dX8_init_38 : decode cX8_init 38 = .ok (.new 23, 3) := by decide +kernel
theorem dX8_init_41 : decode cX8_init 41 = .ok (.dup, 1) := by decide +kernel
theorem dX8_init_42 : decode cX8_init 42 = .ok (.invokespecial 25, 3) := by decide +kernel
theorem dX8_init_45 : decode cX8_init 45 = .ok (.putfield 30, 3) := by decide +kernel
theorem dX8_init_48 : decode cX8_init 48 = .ok (.aload_n 0, 1) := by decide +kernel
theorem dX8_init_49 : decode cX8_init 49 = .ok (.new 33, 3) := by decide +kernel
theorem dX8_init_52 : decode cX8_init 52 = .ok (.dup, 1) := by decide +kernel
theorem dX8_init_53 : decode cX8_init 53 = .ok (.aload_n 0, 1) := by decide +kernel
theorem dX8_init_54 : decode cX8_init 54 = .ok (.getfield 19, 3) := by decide +kernel
theorem dX8_init_57 : decode cX8_init 57 = .ok (.aload_n 0, 1) := by decide +kernel
theorem dX8_init_58 : decode cX8_init 58 = .ok (.getfield 26, 3) := by decide +kernel
theorem dX8_init_61 : decode cX8_init 61 = .ok (.invokespecial 35, 3) := by decide +kernel
theorem dX8_init_64 : decode cX8_init 64 = .ok (.putfield 38, 3) := by decide +kernel
theorem dX8_init_67 : decode cX8_init 67 = .ok (.aload_n 0, 1) := by decide +kernel
theorem dX8_init_68 : decode cX8_init 68 = .ok (.new 42, 3) := by decide +kernel
theorem dX8_init_71 : decode cX8_init 71 = .ok (.dup, 1) := by decide +kernel
theorem dX8_init_72 : decode cX8_init 72 = .ok (.aload_n 0, 1) := by decide +kernel
theorem dX8_init_73 : decode cX8_init 73 = .ok (.getfield 30, 3) := by decide +kernel
theorem dX8_init_76 : decode cX8_init 76 = .ok (.invokespecial 44, 3) := by decide +kernel
theorem dX8_init_79 : decode cX8_init 79 = .ok (.putfield 47, 3) := by decide +kernel
theorem dX8_init_82 : decode cX8_init 82 = .ok (.aload_n 0, 1) := by decide +kernel
theorem dX8_init_83 : decode cX8_init 83 = .ok (.new 51, 3) := by decide +kernel
theorem dX8_init_86 : decode cX8_init 86 = .ok (.dup, 1) := by decide +kernel
theorem dX8_init_87 : decode cX8_init 87 = .ok (.aload_n 0, 1) := by decide +kernel
theorem dX8_init_88 : decode cX8_init 88 = .ok (.getfield 30, 3) := by decide +kernel
theorem dX8_init_91 : decode cX8_init 91 = .ok (.invokespecial 53, 3) := by decide +kernel
theorem dX8_init_94 : decode cX8_init 94 = .ok (.putfield 54, 3) := by decide +kernel
theorem dX8_init_97 : decode cX8_init 97 = .ok (.aload_n 0, 1) := by decide +kernel
theorem dX8_init_98 : decode cX8_init 98 = .ok (.new 58, 3) := by decide +kernel
theorem dX8_init_101 : decode cX8_init 101 = .ok (.dup, 1) := by decide +kernel
theorem dX8_init_102 : decode cX8_init 102 = .ok (.aload_n 0, 1) := by decide +kernel
theorem dX8_init_103 : decode cX8_init 103 = .ok (.getfield 30, 3) := by decide +kernel
theorem dX8_init_106 : decode cX8_init 106 = .ok (.aload_n 0, 1) := by decide +kernel
theorem dX8_init_107 : decode cX8_init 107 = .ok (.getfield 47, 3) := by decide +kernel
theorem dX8_init_110 : decode cX8_init 110 = .ok (.aload_n 0, 1) := by decide +kernel
theorem dX8_init_111 : decode cX8_init 111 = .ok (.getfield 54, 3) := by decide +kernel
theorem dX8_init_114 : decode cX8_init 114 = .ok (.invokespecial 60, 3) := by decide +kernel
theorem dX8_init_117 : decode cX8_init 117 = .ok (.putfield 63, 3) := by decide +kernel
theorem dX8_init_120 : decode cX8_init 120 = .ok (.aload_n 0, 1) := by decide +kernel
theorem dX8_init_121 : decode cX8_init 121 = .ok (.new 67, 3) := by decide +kernel
theorem dX8_init_124 : decode cX8_init 124 = .ok (.dup, 1) := by decide +kernel
theorem dX8_init_125 : decode cX8_init 125 = .ok (.invokespecial 69, 3) := by decide +kernel
theorem dX8_init_128 : decode cX8_init 128 = .ok (.putfield 70, 3) := by decide +kernel
theorem dX8_init_131 : decode cX8_init 131 = .ok (.aload_n 0, 1) := by decide +kernel
theorem dX8_init_132 : decode cX8_init 132 = .ok (.new 67, 3) := by decide +kernel
theorem dX8_init_135 : decode cX8_init 135 = .ok (.dup, 1) := by decide +kernel
theorem dX8_init_136 : decode cX8_init 136 = .ok (.invokespecial 69, 3) := by decide +kernel
theorem dX8_init_139 : decode cX8_init 139 = .ok (.putfield 74, 3) := by decide +kernel
theorem dX8_init_142 : decode cX8_init 142 = .ok (.aload_n 0, 1) := by decide +kernel
theorem dX8_init_143 : decode cX8_init 143 = .ok (.iconst (-1), 1) := by decide +kernel
theorem dX8_init_144 : decode cX8_init 144 = .ok (.putfield 77, 3) := by decide +kernel
theorem dX8_init_147 : decode cX8_init 147 = .ok (.return_, 1) := by decide +kernel
theorem dX8_feed_0 : decode cX8_feed 0 = .ok (.aload_n 0, 1) := by decide +kernel
theorem dX8_feed_1 : decode cX8_feed 1 = .ok (.getfield 12, 3) := by decide +kernel
theorem dX8_feed_4 : decode cX8_feed 4 = .ok (.getfield 81, 3) := by decide +kernel
theorem dX8_feed_7 : decode cX8_feed 7 = .ok (.sipush 1980, 3) := by decide +kernel
theorem dX8_feed_10 : decode cX8_feed 10 = .ok (.if_icmp .le 13, 3) := by decide +kernel
theorem dX8_feed_13 : decode cX8_feed 13 = .ok (.new 84, 3) := by decide +kernel
theorem dX8_feed_16 : decode cX8_feed 16 = .ok (.dup, 1) := by decide +kernel
theorem dX8_feed_17 : decode cX8_feed 17 = .ok (.ldc 86, 2) := by decide +kernel
theorem dX8_feed_19 : decode cX8_feed 19 = .ok (.invokespecial 88, 3) := by decide +kernel
theorem dX8_feed_22 : decode cX8_feed 22 = .ok (.athrow, 1) := by decide +kernel
theorem dX8_feed_23 : decode cX8_feed 23 = .ok (.aload_n 0, 1) := by decide +kernel
theorem dX8_feed_24 : decode cX8_feed 24 = .ok (.getfield 12, 3) := by decide +kernel
theorem dX8_feed_27 : decode cX8_feed 27 = .ok (.iload_n 1, 1) := by decide +kernel
theorem dX8_feed_28 : decode cX8_feed 28 = .ok (.invokevirtual 91, 3) := by decide +kernel
theorem dX8_feed_31 : decode cX8_feed 31 = .ok (.aload_n 0, 1) := by decide +kernel
theorem dX8_feed_32 : decode cX8_feed 32 = .ok (.getfield 12, 3) := by decide +kernel
theorem dX8_feed_35 : decode cX8_feed 35 = .ok (.iload_n 2, 1) := by decide +kernel
theorem dX8_feed_36 : decode cX8_feed 36 = .ok (.invokevirtual 91, 3) := by decide +kernel
theorem dX8_feed_39 : decode cX8_feed 39 = .ok (.aload_n 0, 1) := by decide +kernel
theorem dX8_feed_40 : decode cX8_feed 40 = .ok (.getfield 12, 3) := by decide +kernel
theorem dX8_feed_43 : decode cX8_feed 43 = .ok (.iload_n 3, 1) := by decide +kernel
theorem dX8_feed_44 : decode cX8_feed 44 = .ok (.invokevirtual 91, 3) := by decide +kernel
theorem dX8_feed_47 : decode cX8_feed 47 = .ok (.aload_n 0, 1) := by decide +kernel
theorem dX8_feed_48 : decode cX8_feed 48 = .ok (.getfield 12, 3) := by decide +kernel
theorem dX8_feed_51 : decode cX8_feed 51 = .ok (.iload 4, 2) := by decide +kernel
theorem dX8_feed_53 : decode cX8_feed 53 = .ok (.invokevirtual 91, 3) := by decide +kernel
theorem dX8_feed_56 : decode cX8_feed 56 = .ok (.aload_n 0, 1) := by decide +kernel
theorem dX8_feed_57 : decode cX8_feed 57 = .ok (.getfield 12, 3) := by decide +kernel
theorem dX8_feed_60 : decode cX8_feed 60 = .ok (.iload 5, 2) := by decide +kernel
theorem dX8_feed_62 : decode cX8_feed 62 = .ok (.invokevirtual 91, 3) := by decide +kernel
theorem dX8_feed_65 : decode cX8_feed 65 = .ok (.aload_n 0, 1) := by decide +kernel
theorem dX8_feed_66 : decode cX8_feed 66 = .ok (.getfield 12, 3) := by decide +kernel
theorem dX8_feed_69 : decode cX8_feed 69 = .ok (.getfield 81, 3) := by decide +kernel
theorem dX8_feed_72 : decode cX8_feed 72 = .ok (.ireturn, 1) := by decide +kernel
theorem dX8_trim_0 : decode cX8_trim 0 = .ok (.iload_n 1, 1) := by decide +kernel
theorem dX8_trim_1 : decode cX8_trim 1 = .ok (.ifCond .lt 14, 3) := by decide +kernel
theorem dX8_trim_4 : decode cX8_trim 4 = .ok (.iload_n 1, 1) := by decide +kernel
theorem dX8_trim_5 : decode cX8_trim 5 = .ok (.aload_n 0, 1) := by decide +kernel
theorem dX8_trim_6 : decode cX8_trim 6 = .ok (.getfield 12, 3) := by decide +kernel
theorem dX8_trim_9 : decode cX8_trim 9 = .ok (.getfield 81, 3) := by decide +kernel
theorem dX8_trim_12 : decode cX8_trim 12 = .ok (.if_icmp .le 13, 3) := by decide +kernel
theorem dX8_trim_15 : decode cX8_trim 15 = .ok (.new 95, 3) := by decide +kernel
theorem dX8_trim_18 : decode cX8_trim 18 = .ok (.dup, 1) := by decide +kernel
theorem dX8_trim_19 : decode cX8_trim 19 = .ok (.ldc 97, 2) := by decide +kernel
theorem dX8_trim_21 : decode cX8_trim 21 = .ok (.invokespecial 99, 3) := by decide +kernel
theorem dX8_trim_24 : decode cX8_trim 24 = .ok (.athrow, 1) := by decide +kernel
theorem dX8_trim_25 : decode cX8_trim 25 = .ok (.aload_n 0, 1) := by decide +kernel
theorem dX8_trim_26 : decode cX8_trim 26 = .ok (.getfield 12, 3) := by decide +kernel
theorem dX8_trim_29 : decode cX8_trim 29 = .ok (.iload_n 1, 1) := by decide +kernel
theorem dX8_trim_30 : decode cX8_trim 30 = .ok (.putfield 81, 3) := by decide +kernel
theorem dX8_trim_33 : decode cX8_trim 33 = .ok (.iload_n 1, 1) := by decide +kernel
theorem dX8_trim_34 : decode cX8_trim 34 = .ok (.ireturn, 1) := by decide +kernel
theorem dX8_teach_0 : decode cX8_teach 0 = .ok (.aload_n 0, 1) := by decide +kernel
theorem dX8_teach_1 : decode cX8_teach 1 = .ok (.getfield 19, 3) := by decide +kernel
theorem dX8_teach_4 : decode cX8_teach 4 = .ok (.aload_n 0, 1) := by decide +kernel
theorem dX8_teach_5 : decode cX8_teach 5 = .ok (.getfield 12, 3) := by decide +kernel
theorem dX8_teach_8 : decode cX8_teach 8 = .ok (.invokevirtual 100, 3) := by decide +kernel
theorem dX8_teach_11 : decode cX8_teach 11 = .ok (.aload_n 0, 1) := by decide +kernel
theorem dX8_teach_12 : decode cX8_teach 12 = .ok (.getfield 12, 3) := by decide +kernel
theorem dX8_teach_15 : decode cX8_teach 15 = .ok (.iconst 0, 1) := by decide +kernel
theorem dX8_teach_16 : decode cX8_teach 16 = .ok (.putfield 81, 3) := by decide +kernel
theorem dX8_teach_19 : decode cX8_teach 19 = .ok (.aload_n 0, 1) := by decide +kernel
theorem dX8_teach_20 : decode cX8_teach 20 = .ok (.getfield 38, 3) := by decide +kernel
theorem dX8_teach_23 : decode cX8_teach 23 = .ok (.invokevirtual 104, 3) := by decide +kernel
theorem dX8_teach_26 : decode cX8_teach 26 = .ok (.istore_n 1, 1) := by decide +kernel
theorem dX8_teach_27 : decode cX8_teach 27 = .ok (.aload_n 0, 1) := by decide +kernel
theorem dX8_teach_28 : decode cX8_teach 28 = .ok (.aload_n 0, 1) := by decide +kernel
theorem dX8_teach_29 : decode cX8_teach 29 = .ok (.getfield 38, 3) := by decide +kernel
theorem dX8_teach_32 : decode cX8_teach 32 = .ok (.invokevirtual 108, 3) := by decide +kernel
theorem dX8_teach_35 : decode cX8_teach 35 = .ok (.putfield 77, 3) := by decide +kernel
theorem dX8_teach_38 : decode cX8_teach 38 = .ok (.iload_n 1, 1) := by decide +kernel
theorem dX8_teach_39 : decode cX8_teach 39 = .ok (.ifCond .ne 7, 3) := by decide +kernel
theorem dX8_teach_42 : decode cX8_teach 42 = .ok (.aload_n 0, 1) := by decide +kernel
theorem dX8_teach_43 : decode cX8_teach 43 = .ok (.invokevirtual 110, 3) := by decide +kernel
theorem dX8_teach_46 : decode cX8_teach 46 = .ok (.iload_n 1, 1) := by decide +kernel
theorem dX8_teach_47 : decode cX8_teach 47 = .ok (.ireturn, 1) := by decide +kernel
theorem dX8_families_0 : decode cX8_families 0 = .ok (.aload_n 0, 1) := by decide +kernel
theorem dX8_families_1 : decode cX8_families 1 = .ok (.getfield 30, 3) := by decide +kernel
theorem dX8_families_4 : decode cX8_families 4 = .ok (.getfield 113, 3) := by decide +kernel
theorem dX8_families_7 : decode cX8_families 7 = .ok (.ireturn, 1) := by decide +kernel
theorem dX8_statements_0 : decode cX8_statements 0 = .ok (.aload_n 0, 1) := by decide +kernel
theorem dX8_statements_1 : decode cX8_statements 1 = .ok (.getfield 30, 3) := by decide +kernel
theorem dX8_statements_4 : decode cX8_statements 4 = .ok (.getfield 116, 3) := by decide +kernel
theorem dX8_statements_7 : decode cX8_statements 7 = .ok (.ireturn, 1) := by decide +kernel
theorem dX8_orders_0 : decode cX8_orders 0 = .ok (.aload_n 0, 1) := by decide +kernel
theorem dX8_orders_1 : decode cX8_orders 1 = .ok (.getfield 30, 3) := by decide +kernel
theorem dX8_orders_4 : decode cX8_orders 4 = .ok (.getfield 119, 3) := by decide +kernel
theorem dX8_orders_7 : decode cX8_orders 7 = .ok (.ireturn, 1) := by decide +kernel
theorem dX8_days_0 : decode cX8_days 0 = .ok (.aload_n 0, 1) := by decide +kernel
theorem dX8_days_1 : decode cX8_days 1 = .ok (.getfield 70, 3) := by decide +kernel
theorem dX8_days_4 : decode cX8_days 4 = .ok (.getfield 122, 3) := by decide +kernel
theorem dX8_days_7 : decode cX8_days 7 = .ok (.ireturn, 1) := by decide +kernel
theorem dX8_ordersCarriedOut_0 : decode cX8_ordersCarriedOut 0 = .ok (.aload_n 0, 1) := by decide +kernel
theorem dX8_ordersCarriedOut_1 : decode cX8_ordersCarriedOut 1 = .ok (.getfield 70, 3) := by decide +kernel
theorem dX8_ordersCarriedOut_4 : decode cX8_ordersCarriedOut 4 = .ok (.getfield 125, 3) := by decide +kernel
theorem dX8_ordersCarriedOut_7 : decode cX8_ordersCarriedOut 7 = .ok (.ireturn, 1) := by decide +kernel
theorem dX8_standing_0 : decode cX8_standing 0 = .ok (.aload_n 0, 1) := by decide +kernel
theorem dX8_standing_1 : decode cX8_standing 1 = .ok (.getfield 70, 3) := by decide +kernel
theorem dX8_standing_4 : decode cX8_standing 4 = .ok (.getfield 128, 3) := by decide +kernel
theorem dX8_standing_7 : decode cX8_standing 7 = .ok (.invokestatic 131, 3) := by decide +kernel
theorem dX8_standing_10 : decode cX8_standing 10 = .ok (.ireturn, 1) := by decide +kernel
theorem dX8_kindOf_0 : decode cX8_kindOf 0 = .ok (.aload_n 0, 1) := by decide +kernel
theorem dX8_kindOf_1 : decode cX8_kindOf 1 = .ok (.iload_n 1, 1) := by decide +kernel
theorem dX8_kindOf_2 : decode cX8_kindOf 2 = .ok (.invokevirtual 137, 3) := by decide +kernel
theorem dX8_kindOf_5 : decode cX8_kindOf 5 = .ok (.aload_n 0, 1) := by decide +kernel
theorem dX8_kindOf_6 : decode cX8_kindOf 6 = .ok (.getfield 30, 3) := by decide +kernel
theorem dX8_kindOf_9 : decode cX8_kindOf 9 = .ok (.iload_n 1, 1) := by decide +kernel
theorem dX8_kindOf_10 : decode cX8_kindOf 10 = .ok (.invokevirtual 140, 3) := by decide +kernel
theorem dX8_kindOf_13 : decode cX8_kindOf 13 = .ok (.ireturn, 1) := by decide +kernel
theorem dX8_firstClaimOf_0 : decode cX8_firstClaimOf 0 = .ok (.aload_n 0, 1) := by decide +kernel
theorem dX8_firstClaimOf_1 : decode cX8_firstClaimOf 1 = .ok (.iload_n 1, 1) := by decide +kernel
theorem dX8_firstClaimOf_2 : decode cX8_firstClaimOf 2 = .ok (.invokevirtual 137, 3) := by decide +kernel
theorem dX8_firstClaimOf_5 : decode cX8_firstClaimOf 5 = .ok (.aload_n 0, 1) := by decide +kernel
theorem dX8_firstClaimOf_6 : decode cX8_firstClaimOf 6 = .ok (.getfield 30, 3) := by decide +kernel
theorem dX8_firstClaimOf_9 : decode cX8_firstClaimOf 9 = .ok (.iload_n 1, 1) := by decide +kernel
theorem dX8_firstClaimOf_10 : decode cX8_firstClaimOf 10 = .ok (.invokevirtual 143, 3) := by decide +kernel
theorem dX8_firstClaimOf_13 : decode cX8_firstClaimOf 13 = .ok (.ireturn, 1) := by decide +kernel
theorem dX8_secondClaimOf_0 : decode cX8_secondClaimOf 0 = .ok (.aload_n 0, 1) := by decide +kernel
theorem dX8_secondClaimOf_1 : decode cX8_secondClaimOf 1 = .ok (.iload_n 1, 1) := by decide +kernel
theorem dX8_secondClaimOf_2 : decode cX8_secondClaimOf 2 = .ok (.invokevirtual 137, 3) := by decide +kernel
theorem dX8_secondClaimOf_5 : decode cX8_secondClaimOf 5 = .ok (.aload_n 0, 1) := by decide +kernel
theorem dX8_secondClaimOf_6 : decode cX8_secondClaimOf 6 = .ok (.getfield 30, 3) := by decide +kernel
theorem dX8_secondClaimOf_9 : decode cX8_secondClaimOf 9 = .ok (.iload_n 1, 1) := by decide +kernel
theorem dX8_secondClaimOf_10 : decode cX8_secondClaimOf 10 = .ok (.invokevirtual 146, 3) := by decide +kernel
theorem dX8_secondClaimOf_13 : decode cX8_secondClaimOf 13 = .ok (.ireturn, 1) := by decide +kernel
theorem dX8_stands_0 : decode cX8_stands 0 = .ok (.aload_n 0, 1) := by decide +kernel
theorem dX8_stands_1 : decode cX8_stands 1 = .ok (.iload_n 1, 1) := by decide +kernel
theorem dX8_stands_2 : decode cX8_stands 2 = .ok (.invokevirtual 137, 3) := by decide +kernel
theorem dX8_stands_5 : decode cX8_stands 5 = .ok (.aload_n 0, 1) := by decide +kernel
theorem dX8_stands_6 : decode cX8_stands 6 = .ok (.getfield 70, 3) := by decide +kernel
theorem dX8_stands_9 : decode cX8_stands 9 = .ok (.getfield 128, 3) := by decide +kernel
theorem dX8_stands_12 : decode cX8_stands 12 = .ok (.iload_n 1, 1) := by decide +kernel
theorem dX8_stands_13 : decode cX8_stands 13 = .ok (.invokestatic 149, 3) := by decide +kernel
theorem dX8_stands_16 : decode cX8_stands 16 = .ok (.ireturn, 1) := by decide +kernel
theorem dX8_isNeedless_0 : decode cX8_isNeedless 0 = .ok (.aload_n 0, 1) := by decide +kernel
theorem dX8_isNeedless_1 : decode cX8_isNeedless 1 = .ok (.iload_n 1, 1) := by decide +kernel
theorem dX8_isNeedless_2 : decode cX8_isNeedless 2 = .ok (.invokevirtual 137, 3) := by decide +kernel
theorem dX8_isNeedless_5 : decode cX8_isNeedless 5 = .ok (.aload_n 0, 1) := by decide +kernel
theorem dX8_isNeedless_6 : decode cX8_isNeedless 6 = .ok (.iload_n 1, 1) := by decide +kernel
theorem dX8_isNeedless_7 : decode cX8_isNeedless 7 = .ok (.invokevirtual 153, 3) := by decide +kernel
theorem dX8_isNeedless_10 : decode cX8_isNeedless 10 = .ok (.aload_n 0, 1) := by decide +kernel
theorem dX8_isNeedless_11 : decode cX8_isNeedless 11 = .ok (.getfield 54, 3) := by decide +kernel
theorem dX8_isNeedless_14 : decode cX8_isNeedless 14 = .ok (.aload_n 0, 1) := by decide +kernel
theorem dX8_isNeedless_15 : decode cX8_isNeedless 15 = .ok (.getfield 70, 3) := by decide +kernel
theorem dX8_isNeedless_18 : decode cX8_isNeedless 18 = .ok (.getfield 128, 3) := by decide +kernel
theorem dX8_isNeedless_21 : decode cX8_isNeedless 21 = .ok (.invokevirtual 156, 3) := by decide +kernel
theorem dX8_isNeedless_24 : decode cX8_isNeedless 24 = .ok (.istore_n 2, 1) := by decide +kernel
theorem dX8_isNeedless_25 : decode cX8_isNeedless 25 = .ok (.aload_n 0, 1) := by decide +kernel
theorem dX8_isNeedless_26 : decode cX8_isNeedless 26 = .ok (.getfield 54, 3) := by decide +kernel
theorem dX8_isNeedless_29 : decode cX8_isNeedless 29 = .ok (.aload_n 0, 1) := by decide +kernel
theorem dX8_isNeedless_30 : decode cX8_isNeedless 30 = .ok (.getfield 70, 3) := by decide +kernel
theorem dX8_isNeedless_33 : decode cX8_isNeedless 33 = .ok (.getfield 128, 3) := by decide +kernel
theorem dX8_isNeedless_36 : decode cX8_isNeedless 36 = .ok (.iload_n 1, 1) := by decide +kernel
theorem dX8_isNeedless_37 : decode cX8_isNeedless 37 = .ok (.invokestatic 159, 3) := by decide +kernel
theorem dX8_isNeedless_40 : decode cX8_isNeedless 40 = .ok (.invokevirtual 156, 3) := by decide +kernel
theorem dX8_isNeedless_43 : decode cX8_isNeedless 43 = .ok (.iload_n 2, 1) := by decide +kernel
theorem dX8_isNeedless_44 : decode cX8_isNeedless 44 = .ok (.if_icmp .ne 7, 3) := by decide +kernel
theorem dX8_isNeedless_47 : decode cX8_isNeedless 47 = .ok (.iconst 1, 1) := by decide +kernel
theorem dX8_isNeedless_48 : decode cX8_isNeedless 48 = .ok (.goto 4, 3) := by decide +kernel
theorem dX8_isNeedless_51 : decode cX8_isNeedless 51 = .ok (.iconst 0, 1) := by decide +kernel
theorem dX8_isNeedless_52 : decode cX8_isNeedless 52 = .ok (.ireturn, 1) := by decide +kernel
theorem dX8_follows_0 : decode cX8_follows 0 = .ok (.aload_n 0, 1) := by decide +kernel
theorem dX8_follows_1 : decode cX8_follows 1 = .ok (.iload_n 1, 1) := by decide +kernel
theorem dX8_follows_2 : decode cX8_follows 2 = .ok (.invokevirtual 163, 3) := by decide +kernel
theorem dX8_follows_5 : decode cX8_follows 5 = .ok (.aload_n 0, 1) := by decide +kernel
theorem dX8_follows_6 : decode cX8_follows 6 = .ok (.iload_n 2, 1) := by decide +kernel
theorem dX8_follows_7 : decode cX8_follows 7 = .ok (.invokevirtual 163, 3) := by decide +kernel
theorem dX8_follows_10 : decode cX8_follows 10 = .ok (.aload_n 0, 1) := by decide +kernel
theorem dX8_follows_11 : decode cX8_follows 11 = .ok (.getfield 47, 3) := by decide +kernel
theorem dX8_follows_14 : decode cX8_follows 14 = .ok (.aload_n 0, 1) := by decide +kernel
theorem dX8_follows_15 : decode cX8_follows 15 = .ok (.getfield 70, 3) := by decide +kernel
theorem dX8_follows_18 : decode cX8_follows 18 = .ok (.getfield 128, 3) := by decide +kernel
theorem dX8_follows_21 : decode cX8_follows 21 = .ok (.iload_n 2, 1) := by decide +kernel
theorem dX8_follows_22 : decode cX8_follows 22 = .ok (.invokevirtual 166, 3) := by decide +kernel
theorem dX8_follows_25 : decode cX8_follows 25 = .ok (.iload_n 1, 1) := by decide +kernel
theorem dX8_follows_26 : decode cX8_follows 26 = .ok (.invokestatic 149, 3) := by decide +kernel
theorem dX8_follows_29 : decode cX8_follows 29 = .ok (.ireturn, 1) := by decide +kernel
theorem dX8_whatFollowsFrom_0 : decode cX8_whatFollowsFrom 0 = .ok (.aload_n 0, 1) := by decide +kernel
theorem dX8_whatFollowsFrom_1 : decode cX8_whatFollowsFrom 1 = .ok (.iload_n 1, 1) := by decide +kernel
theorem dX8_whatFollowsFrom_2 : decode cX8_whatFollowsFrom 2 = .ok (.invokevirtual 163, 3) := by decide +kernel
theorem dX8_whatFollowsFrom_5 : decode cX8_whatFollowsFrom 5 = .ok (.aload_n 0, 1) := by decide +kernel
theorem dX8_whatFollowsFrom_6 : decode cX8_whatFollowsFrom 6 = .ok (.getfield 47, 3) := by decide +kernel
theorem dX8_whatFollowsFrom_9 : decode cX8_whatFollowsFrom 9 = .ok (.aload_n 0, 1) := by decide +kernel
theorem dX8_whatFollowsFrom_10 : decode cX8_whatFollowsFrom 10 = .ok (.getfield 70, 3) := by decide +kernel
theorem dX8_whatFollowsFrom_13 : decode cX8_whatFollowsFrom 13 = .ok (.getfield 128, 3) := by decide +kernel
theorem dX8_whatFollowsFrom_16 : decode cX8_whatFollowsFrom 16 = .ok (.iload_n 1, 1) := by decide +kernel
theorem dX8_whatFollowsFrom_17 : decode cX8_whatFollowsFrom 17 = .ok (.invokevirtual 166, 3) := by decide +kernel
theorem dX8_whatFollowsFrom_20 : decode cX8_whatFollowsFrom 20 = .ok (.invokestatic 131, 3) := by decide +kernel
theorem dX8_whatFollowsFrom_23 : decode cX8_whatFollowsFrom 23 = .ok (.ireturn, 1) := by decide +kernel
theorem dX8_fewestStatementsBetween_0 : decode cX8_fewestStatementsBetween 0 = .ok (.aload_n 0, 1) := by decide +kernel
theorem dX8_fewestStatementsBetween_1 : decode cX8_fewestStatementsBetween 1 = .ok (.iload_n 1, 1) := by decide +kernel
theorem dX8_fewestStatementsBetween_2 : decode cX8_fewestStatementsBetween 2 = .ok (.invokevirtual 163, 3) := by decide +kernel
theorem dX8_fewestStatementsBetween_5 : decode cX8_fewestStatementsBetween 5 = .ok (.aload_n 0, 1) := by decide +kernel
theorem dX8_fewestStatementsBetween_6 : decode cX8_fewestStatementsBetween 6 = .ok (.iload_n 2, 1) := by decide +kernel
theorem dX8_fewestStatementsBetween_7 : decode cX8_fewestStatementsBetween 7 = .ok (.invokevirtual 163, 3) := by decide +kernel
theorem dX8_fewestStatementsBetween_10 : decode cX8_fewestStatementsBetween 10 = .ok (.aload_n 0, 1) := by decide +kernel
theorem dX8_fewestStatementsBetween_11 : decode cX8_fewestStatementsBetween 11 = .ok (.getfield 47, 3) := by decide +kernel
theorem dX8_fewestStatementsBetween_14 : decode cX8_fewestStatementsBetween 14 = .ok (.aload_n 0, 1) := by decide +kernel
theorem dX8_fewestStatementsBetween_15 : decode cX8_fewestStatementsBetween 15 = .ok (.getfield 70, 3) := by decide +kernel
theorem dX8_fewestStatementsBetween_18 : decode cX8_fewestStatementsBetween 18 = .ok (.getfield 128, 3) := by decide +kernel
theorem dX8_fewestStatementsBetween_21 : decode cX8_fewestStatementsBetween 21 = .ok (.iload_n 1, 1) := by decide +kernel
theorem dX8_fewestStatementsBetween_22 : decode cX8_fewestStatementsBetween 22 = .ok (.iload_n 2, 1) := by decide +kernel
theorem dX8_fewestStatementsBetween_23 : decode cX8_fewestStatementsBetween 23 = .ok (.invokevirtual 169, 3) := by decide +kernel
theorem dX8_fewestStatementsBetween_26 : decode cX8_fewestStatementsBetween 26 = .ok (.istore_n 3, 1) := by decide +kernel
theorem dX8_fewestStatementsBetween_27 : decode cX8_fewestStatementsBetween 27 = .ok (.iload_n 3, 1) := by decide +kernel
theorem dX8_fewestStatementsBetween_28 : decode cX8_fewestStatementsBetween 28 = .ok (.ifCond .ge 13, 3) := by decide +kernel
theorem dX8_fewestStatementsBetween_31 : decode cX8_fewestStatementsBetween 31 = .ok (.new 84, 3) := by decide +kernel
theorem dX8_fewestStatementsBetween_34 : decode cX8_fewestStatementsBetween 34 = .ok (.dup, 1) := by decide +kernel
theorem dX8_fewestStatementsBetween_35 : decode cX8_fewestStatementsBetween 35 = .ok (.ldc 173, 2) := by decide +kernel
theorem dX8_fewestStatementsBetween_37 : decode cX8_fewestStatementsBetween 37 = .ok (.invokespecial 88, 3) := by decide +kernel
theorem dX8_fewestStatementsBetween_40 : decode cX8_fewestStatementsBetween 40 = .ok (.athrow, 1) := by decide +kernel
theorem dX8_fewestStatementsBetween_41 : decode cX8_fewestStatementsBetween 41 = .ok (.iload_n 3, 1) := by decide +kernel
theorem dX8_fewestStatementsBetween_42 : decode cX8_fewestStatementsBetween 42 = .ok (.ireturn, 1) := by decide +kernel
theorem dX8_parts_0 : decode cX8_parts 0 = .ok (.aload_n 0, 1) := by decide +kernel
theorem dX8_parts_1 : decode cX8_parts 1 = .ok (.getfield 47, 3) := by decide +kernel
theorem dX8_parts_4 : decode cX8_parts 4 = .ok (.aload_n 0, 1) := by decide +kernel
theorem dX8_parts_5 : decode cX8_parts 5 = .ok (.getfield 70, 3) := by decide +kernel
theorem dX8_parts_8 : decode cX8_parts 8 = .ok (.getfield 128, 3) := by decide +kernel
theorem dX8_parts_11 : decode cX8_parts 11 = .ok (.invokevirtual 175, 3) := by decide +kernel
theorem dX8_parts_14 : decode cX8_parts 14 = .ok (.ireturn, 1) := by decide +kernel
theorem dX8_partOf_0 : decode cX8_partOf 0 = .ok (.aload_n 0, 1) := by decide +kernel
theorem dX8_partOf_1 : decode cX8_partOf 1 = .ok (.iload_n 1, 1) := by decide +kernel
theorem dX8_partOf_2 : decode cX8_partOf 2 = .ok (.invokevirtual 163, 3) := by decide +kernel
theorem dX8_partOf_5 : decode cX8_partOf 5 = .ok (.aload_n 0, 1) := by decide +kernel
theorem dX8_partOf_6 : decode cX8_partOf 6 = .ok (.getfield 47, 3) := by decide +kernel
theorem dX8_partOf_9 : decode cX8_partOf 9 = .ok (.aload_n 0, 1) := by decide +kernel
theorem dX8_partOf_10 : decode cX8_partOf 10 = .ok (.getfield 70, 3) := by decide +kernel
theorem dX8_partOf_13 : decode cX8_partOf 13 = .ok (.getfield 128, 3) := by decide +kernel
theorem dX8_partOf_16 : decode cX8_partOf 16 = .ok (.iload_n 1, 1) := by decide +kernel
theorem dX8_partOf_17 : decode cX8_partOf 17 = .ok (.invokevirtual 178, 3) := by decide +kernel
theorem dX8_partOf_20 : decode cX8_partOf 20 = .ok (.invokestatic 181, 3) := by decide +kernel
theorem dX8_partOf_23 : decode cX8_partOf 23 = .ok (.ireturn, 1) := by decide +kernel
theorem dX8_partSize_0 : decode cX8_partSize 0 = .ok (.aload_n 0, 1) := by decide +kernel
theorem dX8_partSize_1 : decode cX8_partSize 1 = .ok (.iload_n 1, 1) := by decide +kernel
theorem dX8_partSize_2 : decode cX8_partSize 2 = .ok (.invokevirtual 163, 3) := by decide +kernel
theorem dX8_partSize_5 : decode cX8_partSize 5 = .ok (.aload_n 0, 1) := by decide +kernel
theorem dX8_partSize_6 : decode cX8_partSize 6 = .ok (.getfield 47, 3) := by decide +kernel
theorem dX8_partSize_9 : decode cX8_partSize 9 = .ok (.aload_n 0, 1) := by decide +kernel
theorem dX8_partSize_10 : decode cX8_partSize 10 = .ok (.getfield 70, 3) := by decide +kernel
theorem dX8_partSize_13 : decode cX8_partSize 13 = .ok (.getfield 128, 3) := by decide +kernel
theorem dX8_partSize_16 : decode cX8_partSize 16 = .ok (.iload_n 1, 1) := by decide +kernel
theorem dX8_partSize_17 : decode cX8_partSize 17 = .ok (.invokevirtual 178, 3) := by decide +kernel
theorem dX8_partSize_20 : decode cX8_partSize 20 = .ok (.invokestatic 131, 3) := by decide +kernel
theorem dX8_partSize_23 : decode cX8_partSize 23 = .ok (.ireturn, 1) := by decide +kernel
theorem dX8_isPeacePossible_0 : decode cX8_isPeacePossible 0 = .ok (.aload_n 0, 1) := by decide +kernel
theorem dX8_isPeacePossible_1 : decode cX8_isPeacePossible 1 = .ok (.getfield 54, 3) := by decide +kernel
theorem dX8_isPeacePossible_4 : decode cX8_isPeacePossible 4 = .ok (.aload_n 0, 1) := by decide +kernel
theorem dX8_isPeacePossible_5 : decode cX8_isPeacePossible 5 = .ok (.getfield 70, 3) := by decide +kernel
theorem dX8_isPeacePossible_8 : decode cX8_isPeacePossible 8 = .ok (.getfield 128, 3) := by decide +kernel
theorem dX8_isPeacePossible_11 : decode cX8_isPeacePossible 11 = .ok (.invokevirtual 156, 3) := by decide +kernel
theorem dX8_isPeacePossible_14 : decode cX8_isPeacePossible 14 = .ok (.ifCond .le 7, 3) := by decide +kernel
theorem dX8_isPeacePossible_17 : decode cX8_isPeacePossible 17 = .ok (.iconst 1, 1) := by decide +kernel
theorem dX8_isPeacePossible_18 : decode cX8_isPeacePossible 18 = .ok (.goto 4, 3) := by decide +kernel
theorem dX8_isPeacePossible_21 : decode cX8_isPeacePossible 21 = .ok (.iconst 0, 1) := by decide +kernel
theorem dX8_isPeacePossible_22 : decode cX8_isPeacePossible 22 = .ok (.ireturn, 1) := by decide +kernel
theorem dX8_peaces_0 : decode cX8_peaces 0 = .ok (.aload_n 0, 1) := by decide +kernel
theorem dX8_peaces_1 : decode cX8_peaces 1 = .ok (.getfield 54, 3) := by decide +kernel
theorem dX8_peaces_4 : decode cX8_peaces 4 = .ok (.aload_n 0, 1) := by decide +kernel
theorem dX8_peaces_5 : decode cX8_peaces 5 = .ok (.getfield 70, 3) := by decide +kernel
theorem dX8_peaces_8 : decode cX8_peaces 8 = .ok (.getfield 128, 3) := by decide +kernel
theorem dX8_peaces_11 : decode cX8_peaces 11 = .ok (.invokevirtual 156, 3) := by decide +kernel
theorem dX8_peaces_14 : decode cX8_peaces 14 = .ok (.ireturn, 1) := by decide +kernel
theorem dX8_peacesWith_0 : decode cX8_peacesWith 0 = .ok (.aload_n 0, 1) := by decide +kernel
theorem dX8_peacesWith_1 : decode cX8_peacesWith 1 = .ok (.iload_n 1, 1) := by decide +kernel
theorem dX8_peacesWith_2 : decode cX8_peacesWith 2 = .ok (.invokevirtual 163, 3) := by decide +kernel
theorem dX8_peacesWith_5 : decode cX8_peacesWith 5 = .ok (.aload_n 0, 1) := by decide +kernel
theorem dX8_peacesWith_6 : decode cX8_peacesWith 6 = .ok (.getfield 54, 3) := by decide +kernel
theorem dX8_peacesWith_9 : decode cX8_peacesWith 9 = .ok (.aload_n 0, 1) := by decide +kernel
theorem dX8_peacesWith_10 : decode cX8_peacesWith 10 = .ok (.getfield 70, 3) := by decide +kernel
theorem dX8_peacesWith_13 : decode cX8_peacesWith 13 = .ok (.getfield 128, 3) := by decide +kernel
theorem dX8_peacesWith_16 : decode cX8_peacesWith 16 = .ok (.iload_n 1, 1) := by decide +kernel
theorem dX8_peacesWith_17 : decode cX8_peacesWith 17 = .ok (.invokevirtual 184, 3) := by decide +kernel
theorem dX8_peacesWith_20 : decode cX8_peacesWith 20 = .ok (.ireturn, 1) := by decide +kernel
theorem dX8_isPossible_0 : decode cX8_isPossible 0 = .ok (.aload_n 0, 1) := by decide +kernel
theorem dX8_isPossible_1 : decode cX8_isPossible 1 = .ok (.iload_n 1, 1) := by decide +kernel
theorem dX8_isPossible_2 : decode cX8_isPossible 2 = .ok (.invokevirtual 163, 3) := by decide +kernel
theorem dX8_isPossible_5 : decode cX8_isPossible 5 = .ok (.aload_n 0, 1) := by decide +kernel
theorem dX8_isPossible_6 : decode cX8_isPossible 6 = .ok (.getfield 54, 3) := by decide +kernel
theorem dX8_isPossible_9 : decode cX8_isPossible 9 = .ok (.aload_n 0, 1) := by decide +kernel
theorem dX8_isPossible_10 : decode cX8_isPossible 10 = .ok (.getfield 70, 3) := by decide +kernel
theorem dX8_isPossible_13 : decode cX8_isPossible 13 = .ok (.getfield 128, 3) := by decide +kernel
theorem dX8_isPossible_16 : decode cX8_isPossible 16 = .ok (.iload_n 1, 1) := by decide +kernel
theorem dX8_isPossible_17 : decode cX8_isPossible 17 = .ok (.invokevirtual 184, 3) := by decide +kernel
theorem dX8_isPossible_20 : decode cX8_isPossible 20 = .ok (.ifCond .le 7, 3) := by decide +kernel
theorem dX8_isPossible_23 : decode cX8_isPossible 23 = .ok (.iconst 1, 1) := by decide +kernel
theorem dX8_isPossible_24 : decode cX8_isPossible 24 = .ok (.goto 4, 3) := by decide +kernel
theorem dX8_isPossible_27 : decode cX8_isPossible 27 = .ok (.iconst 0, 1) := by decide +kernel
theorem dX8_isPossible_28 : decode cX8_isPossible 28 = .ok (.ireturn, 1) := by decide +kernel
theorem dX8_isSettled_0 : decode cX8_isSettled 0 = .ok (.aload_n 0, 1) := by decide +kernel
theorem dX8_isSettled_1 : decode cX8_isSettled 1 = .ok (.iload_n 1, 1) := by decide +kernel
theorem dX8_isSettled_2 : decode cX8_isSettled 2 = .ok (.invokevirtual 163, 3) := by decide +kernel
theorem dX8_isSettled_5 : decode cX8_isSettled 5 = .ok (.aload_n 0, 1) := by decide +kernel
theorem dX8_isSettled_6 : decode cX8_isSettled 6 = .ok (.invokevirtual 187, 3) := by decide +kernel
theorem dX8_isSettled_9 : decode cX8_isSettled 9 = .ok (.aload_n 0, 1) := by decide +kernel
theorem dX8_isSettled_10 : decode cX8_isSettled 10 = .ok (.getfield 54, 3) := by decide +kernel
theorem dX8_isSettled_13 : decode cX8_isSettled 13 = .ok (.aload_n 0, 1) := by decide +kernel
theorem dX8_isSettled_14 : decode cX8_isSettled 14 = .ok (.getfield 70, 3) := by decide +kernel
theorem dX8_isSettled_17 : decode cX8_isSettled 17 = .ok (.getfield 128, 3) := by decide +kernel
theorem dX8_isSettled_20 : decode cX8_isSettled 20 = .ok (.iload_n 1, 1) := by decide +kernel
theorem dX8_isSettled_21 : decode cX8_isSettled 21 = .ok (.invokevirtual 184, 3) := by decide +kernel
theorem dX8_isSettled_24 : decode cX8_isSettled 24 = .ok (.aload_n 0, 1) := by decide +kernel
theorem dX8_isSettled_25 : decode cX8_isSettled 25 = .ok (.getfield 54, 3) := by decide +kernel
theorem dX8_isSettled_28 : decode cX8_isSettled 28 = .ok (.aload_n 0, 1) := by decide +kernel
theorem dX8_isSettled_29 : decode cX8_isSettled 29 = .ok (.getfield 70, 3) := by decide +kernel
theorem dX8_isSettled_32 : decode cX8_isSettled 32 = .ok (.getfield 128, 3) := by decide +kernel
theorem dX8_isSettled_35 : decode cX8_isSettled 35 = .ok (.invokevirtual 156, 3) := by decide +kernel
theorem dX8_isSettled_38 : decode cX8_isSettled 38 = .ok (.if_icmp .ne 7, 3) := by decide +kernel
theorem dX8_isSettled_41 : decode cX8_isSettled 41 = .ok (.iconst 1, 1) := by decide +kernel
theorem dX8_isSettled_42 : decode cX8_isSettled 42 = .ok (.goto 4, 3) := by decide +kernel
theorem dX8_isSettled_45 : decode cX8_isSettled 45 = .ok (.iconst 0, 1) := by decide +kernel
theorem dX8_isSettled_46 : decode cX8_isSettled 46 = .ok (.ireturn, 1) := by decide +kernel
theorem dX8_ridesInPeace_0 : decode cX8_ridesInPeace 0 = .ok (.iload_n 1, 1) := by decide +kernel
theorem dX8_ridesInPeace_1 : decode cX8_ridesInPeace 1 = .ok (.ifCond .lt 14, 3) := by decide +kernel
theorem dX8_ridesInPeace_4 : decode cX8_ridesInPeace 4 = .ok (.iload_n 1, 1) := by decide +kernel
theorem dX8_ridesInPeace_5 : decode cX8_ridesInPeace 5 = .ok (.aload_n 0, 1) := by decide +kernel
theorem dX8_ridesInPeace_6 : decode cX8_ridesInPeace 6 = .ok (.getfield 30, 3) := by decide +kernel
theorem dX8_ridesInPeace_9 : decode cX8_ridesInPeace 9 = .ok (.getfield 113, 3) := by decide +kernel
theorem dX8_ridesInPeace_12 : decode cX8_ridesInPeace 12 = .ok (.if_icmp .lt 13, 3) := by decide +kernel
theorem dX8_ridesInPeace_15 : decode cX8_ridesInPeace 15 = .ok (.new 190, 3) := by decide +kernel
theorem dX8_ridesInPeace_18 : decode cX8_ridesInPeace 18 = .ok (.dup, 1) := by decide +kernel
theorem dX8_ridesInPeace_19 : decode cX8_ridesInPeace 19 = .ok (.ldc 192, 2) := by decide +kernel
theorem dX8_ridesInPeace_21 : decode cX8_ridesInPeace 21 = .ok (.invokespecial 194, 3) := by decide +kernel
theorem dX8_ridesInPeace_24 : decode cX8_ridesInPeace 24 = .ok (.athrow, 1) := by decide +kernel
theorem dX8_ridesInPeace_25 : decode cX8_ridesInPeace 25 = .ok (.aload_n 0, 1) := by decide +kernel
theorem dX8_ridesInPeace_26 : decode cX8_ridesInPeace 26 = .ok (.invokevirtual 187, 3) := by decide +kernel
theorem dX8_ridesInPeace_29 : decode cX8_ridesInPeace 29 = .ok (.aload_n 0, 1) := by decide +kernel
theorem dX8_ridesInPeace_30 : decode cX8_ridesInPeace 30 = .ok (.getfield 54, 3) := by decide +kernel
theorem dX8_ridesInPeace_33 : decode cX8_ridesInPeace 33 = .ok (.aload_n 0, 1) := by decide +kernel
theorem dX8_ridesInPeace_34 : decode cX8_ridesInPeace 34 = .ok (.getfield 70, 3) := by decide +kernel
theorem dX8_ridesInPeace_37 : decode cX8_ridesInPeace 37 = .ok (.getfield 128, 3) := by decide +kernel
theorem dX8_ridesInPeace_40 : decode cX8_ridesInPeace 40 = .ok (.invokevirtual 195, 3) := by decide +kernel
theorem dX8_ridesInPeace_43 : decode cX8_ridesInPeace 43 = .ok (.iload_n 1, 1) := by decide +kernel
theorem dX8_ridesInPeace_44 : decode cX8_ridesInPeace 44 = .ok (.invokestatic 149, 3) := by decide +kernel
theorem dX8_ridesInPeace_47 : decode cX8_ridesInPeace 47 = .ok (.ireturn, 1) := by decide +kernel
theorem dX8_ridersInPeace_0 : decode cX8_ridersInPeace 0 = .ok (.aload_n 0, 1) := by decide +kernel
theorem dX8_ridersInPeace_1 : decode cX8_ridersInPeace 1 = .ok (.invokevirtual 187, 3) := by decide +kernel
theorem dX8_ridersInPeace_4 : decode cX8_ridersInPeace 4 = .ok (.aload_n 0, 1) := by decide +kernel
theorem dX8_ridersInPeace_5 : decode cX8_ridersInPeace 5 = .ok (.getfield 54, 3) := by decide +kernel
theorem dX8_ridersInPeace_8 : decode cX8_ridersInPeace 8 = .ok (.aload_n 0, 1) := by decide +kernel
theorem dX8_ridersInPeace_9 : decode cX8_ridersInPeace 9 = .ok (.getfield 70, 3) := by decide +kernel
theorem dX8_ridersInPeace_12 : decode cX8_ridersInPeace 12 = .ok (.getfield 128, 3) := by decide +kernel
theorem dX8_ridersInPeace_15 : decode cX8_ridersInPeace 15 = .ok (.invokevirtual 195, 3) := by decide +kernel
theorem dX8_ridersInPeace_18 : decode cX8_ridersInPeace 18 = .ok (.invokestatic 131, 3) := by decide +kernel
theorem dX8_ridersInPeace_21 : decode cX8_ridersInPeace 21 = .ok (.ireturn, 1) := by decide +kernel
theorem dX8_blamedFamily_0 : decode cX8_blamedFamily 0 = .ok (.aload_n 0, 1) := by decide +kernel
theorem dX8_blamedFamily_1 : decode cX8_blamedFamily 1 = .ok (.getfield 54, 3) := by decide +kernel
theorem dX8_blamedFamily_4 : decode cX8_blamedFamily 4 = .ok (.aload_n 0, 1) := by decide +kernel
theorem dX8_blamedFamily_5 : decode cX8_blamedFamily 5 = .ok (.getfield 70, 3) := by decide +kernel
theorem dX8_blamedFamily_8 : decode cX8_blamedFamily 8 = .ok (.getfield 128, 3) := by decide +kernel
theorem dX8_blamedFamily_11 : decode cX8_blamedFamily 11 = .ok (.invokevirtual 156, 3) := by decide +kernel
theorem dX8_blamedFamily_14 : decode cX8_blamedFamily 14 = .ok (.ifCond .le 13, 3) := by decide +kernel
theorem dX8_blamedFamily_17 : decode cX8_blamedFamily 17 = .ok (.new 84, 3) := by decide +kernel
theorem dX8_blamedFamily_20 : decode cX8_blamedFamily 20 = .ok (.dup, 1) := by decide +kernel
theorem dX8_blamedFamily_21 : decode cX8_blamedFamily 21 = .ok (.ldc 198, 2) := by decide +kernel
theorem dX8_blamedFamily_23 : decode cX8_blamedFamily 23 = .ok (.invokespecial 88, 3) := by decide +kernel
theorem dX8_blamedFamily_26 : decode cX8_blamedFamily 26 = .ok (.athrow, 1) := by decide +kernel
theorem dX8_blamedFamily_27 : decode cX8_blamedFamily 27 = .ok (.iconst 0, 1) := by decide +kernel
theorem dX8_blamedFamily_28 : decode cX8_blamedFamily 28 = .ok (.istore_n 1, 1) := by decide +kernel
theorem dX8_blamedFamily_29 : decode cX8_blamedFamily 29 = .ok (.iload_n 1, 1) := by decide +kernel
theorem dX8_blamedFamily_30 : decode cX8_blamedFamily 30 = .ok (.aload_n 0, 1) := by decide +kernel
theorem dX8_blamedFamily_31 : decode cX8_blamedFamily 31 = .ok (.getfield 30, 3) := by decide +kernel
theorem dX8_blamedFamily_34 : decode cX8_blamedFamily 34 = .ok (.getfield 113, 3) := by decide +kernel
theorem dX8_blamedFamily_37 : decode cX8_blamedFamily 37 = .ok (.if_icmp .ge 39, 3) := by decide +kernel
theorem dX8_blamedFamily_40 : decode cX8_blamedFamily 40 = .ok (.aload_n 0, 1) := by decide +kernel
theorem dX8_blamedFamily_41 : decode cX8_blamedFamily 41 = .ok (.getfield 47, 3) := by decide +kernel
theorem dX8_blamedFamily_44 : decode cX8_blamedFamily 44 = .ok (.aload_n 0, 1) := by decide +kernel
theorem dX8_blamedFamily_45 : decode cX8_blamedFamily 45 = .ok (.getfield 70, 3) := by decide +kernel
theorem dX8_blamedFamily_48 : decode cX8_blamedFamily 48 = .ok (.getfield 128, 3) := by decide +kernel
theorem dX8_blamedFamily_51 : decode cX8_blamedFamily 51 = .ok (.iconst 2, 1) := by decide +kernel
theorem dX8_blamedFamily_52 : decode cX8_blamedFamily 52 = .ok (.iload_n 1, 1) := by decide +kernel
theorem dX8_blamedFamily_53 : decode cX8_blamedFamily 53 = .ok (.imul, 1) := by decide +kernel
theorem dX8_blamedFamily_54 : decode cX8_blamedFamily 54 = .ok (.invokevirtual 178, 3) := by decide +kernel
theorem dX8_blamedFamily_57 : decode cX8_blamedFamily 57 = .ok (.iconst 2, 1) := by decide +kernel
theorem dX8_blamedFamily_58 : decode cX8_blamedFamily 58 = .ok (.iload_n 1, 1) := by decide +kernel
theorem dX8_blamedFamily_59 : decode cX8_blamedFamily 59 = .ok (.imul, 1) := by decide +kernel
theorem dX8_blamedFamily_60 : decode cX8_blamedFamily 60 = .ok (.iconst 1, 1) := by decide +kernel
theorem dX8_blamedFamily_61 : decode cX8_blamedFamily 61 = .ok (.iadd, 1) := by decide +kernel
theorem dX8_blamedFamily_62 : decode cX8_blamedFamily 62 = .ok (.invokestatic 149, 3) := by decide +kernel
theorem dX8_blamedFamily_65 : decode cX8_blamedFamily 65 = .ok (.ifCond .eq 5, 3) := by decide +kernel
theorem dX8_blamedFamily_68 : decode cX8_blamedFamily 68 = .ok (.iload_n 1, 1) := by decide +kernel
theorem dX8_blamedFamily_69 : decode cX8_blamedFamily 69 = .ok (.ireturn, 1) := by decide +kernel
theorem dX8_blamedFamily_70 : decode cX8_blamedFamily 70 = .ok (.iinc 1 1, 3) := by decide +kernel
theorem dX8_blamedFamily_73 : decode cX8_blamedFamily 73 = .ok (.goto (-44), 3) := by decide +kernel
theorem dX8_blamedFamily_76 : decode cX8_blamedFamily 76 = .ok (.iconst (-1), 1) := by decide +kernel
theorem dX8_blamedFamily_77 : decode cX8_blamedFamily 77 = .ok (.ireturn, 1) := by decide +kernel
theorem dX8_breakStatement_0 : decode cX8_breakStatement 0 = .ok (.aload_n 0, 1) := by decide +kernel
theorem dX8_breakStatement_1 : decode cX8_breakStatement 1 = .ok (.iload_n 1, 1) := by decide +kernel
theorem dX8_breakStatement_2 : decode cX8_breakStatement 2 = .ok (.invokevirtual 137, 3) := by decide +kernel
theorem dX8_breakStatement_5 : decode cX8_breakStatement 5 = .ok (.aload_n 0, 1) := by decide +kernel
theorem dX8_breakStatement_6 : decode cX8_breakStatement 6 = .ok (.iload_n 1, 1) := by decide +kernel
theorem dX8_breakStatement_7 : decode cX8_breakStatement 7 = .ok (.invokevirtual 153, 3) := by decide +kernel
theorem dX8_breakStatement_10 : decode cX8_breakStatement 10 = .ok (.aload_n 0, 1) := by decide +kernel
theorem dX8_breakStatement_11 : decode cX8_breakStatement 11 = .ok (.getfield 70, 3) := by decide +kernel
theorem dX8_breakStatement_14 : decode cX8_breakStatement 14 = .ok (.aload_n 0, 1) := by decide +kernel
theorem dX8_breakStatement_15 : decode cX8_breakStatement 15 = .ok (.getfield 70, 3) := by decide +kernel
theorem dX8_breakStatement_18 : decode cX8_breakStatement 18 = .ok (.getfield 128, 3) := by decide +kernel
theorem dX8_breakStatement_21 : decode cX8_breakStatement 21 = .ok (.iload_n 1, 1) := by decide +kernel
theorem dX8_breakStatement_22 : decode cX8_breakStatement 22 = .ok (.invokestatic 159, 3) := by decide +kernel
theorem dX8_breakStatement_25 : decode cX8_breakStatement 25 = .ok (.putfield 128, 3) := by decide +kernel
theorem dX8_breakStatement_28 : decode cX8_breakStatement 28 = .ok (.aload_n 0, 1) := by decide +kernel
theorem dX8_breakStatement_29 : decode cX8_breakStatement 29 = .ok (.getfield 70, 3) := by decide +kernel
theorem dX8_breakStatement_32 : decode cX8_breakStatement 32 = .ok (.getfield 128, 3) := by decide +kernel
theorem dX8_breakStatement_35 : decode cX8_breakStatement 35 = .ok (.invokestatic 131, 3) := by decide +kernel
theorem dX8_breakStatement_38 : decode cX8_breakStatement 38 = .ok (.ireturn, 1) := by decide +kernel
theorem dX8_renewStatement_0 : decode cX8_renewStatement 0 = .ok (.aload_n 0, 1) := by decide +kernel
theorem dX8_renewStatement_1 : decode cX8_renewStatement 1 = .ok (.iload_n 1, 1) := by decide +kernel
theorem dX8_renewStatement_2 : decode cX8_renewStatement 2 = .ok (.invokevirtual 137, 3) := by decide +kernel
theorem dX8_renewStatement_5 : decode cX8_renewStatement 5 = .ok (.aload_n 0, 1) := by decide +kernel
theorem dX8_renewStatement_6 : decode cX8_renewStatement 6 = .ok (.getfield 70, 3) := by decide +kernel
theorem dX8_renewStatement_9 : decode cX8_renewStatement 9 = .ok (.getfield 128, 3) := by decide +kernel
theorem dX8_renewStatement_12 : decode cX8_renewStatement 12 = .ok (.iload_n 1, 1) := by decide +kernel
theorem dX8_renewStatement_13 : decode cX8_renewStatement 13 = .ok (.invokestatic 149, 3) := by decide +kernel
theorem dX8_renewStatement_16 : decode cX8_renewStatement 16 = .ok (.ifCond .eq 13, 3) := by decide +kernel
theorem dX8_renewStatement_19 : decode cX8_renewStatement 19 = .ok (.new 84, 3) := by decide +kernel
theorem dX8_renewStatement_22 : decode cX8_renewStatement 22 = .ok (.dup, 1) := by decide +kernel
theorem dX8_renewStatement_23 : decode cX8_renewStatement 23 = .ok (.ldc 200, 2) := by decide +kernel
theorem dX8_renewStatement_25 : decode cX8_renewStatement 25 = .ok (.invokespecial 88, 3) := by decide +kernel
theorem dX8_renewStatement_28 : decode cX8_renewStatement 28 = .ok (.athrow, 1) := by decide +kernel
theorem dX8_renewStatement_29 : decode cX8_renewStatement 29 = .ok (.aload_n 0, 1) := by decide +kernel
theorem dX8_renewStatement_30 : decode cX8_renewStatement 30 = .ok (.getfield 70, 3) := by decide +kernel
theorem dX8_renewStatement_33 : decode cX8_renewStatement 33 = .ok (.aload_n 0, 1) := by decide +kernel
theorem dX8_renewStatement_34 : decode cX8_renewStatement 34 = .ok (.getfield 70, 3) := by decide +kernel
theorem dX8_renewStatement_37 : decode cX8_renewStatement 37 = .ok (.getfield 128, 3) := by decide +kernel
theorem dX8_renewStatement_40 : decode cX8_renewStatement 40 = .ok (.iload_n 1, 1) := by decide +kernel
theorem dX8_renewStatement_41 : decode cX8_renewStatement 41 = .ok (.invokestatic 202, 3) := by decide +kernel
theorem dX8_renewStatement_44 : decode cX8_renewStatement 44 = .ok (.putfield 128, 3) := by decide +kernel
theorem dX8_renewStatement_47 : decode cX8_renewStatement 47 = .ok (.aload_n 0, 1) := by decide +kernel
theorem dX8_renewStatement_48 : decode cX8_renewStatement 48 = .ok (.getfield 70, 3) := by decide +kernel
theorem dX8_renewStatement_51 : decode cX8_renewStatement 51 = .ok (.getfield 128, 3) := by decide +kernel
theorem dX8_renewStatement_54 : decode cX8_renewStatement 54 = .ok (.invokestatic 131, 3) := by decide +kernel
theorem dX8_renewStatement_57 : decode cX8_renewStatement 57 = .ok (.ireturn, 1) := by decide +kernel
theorem dX8_passDays_0 : decode cX8_passDays 0 = .ok (.aload_n 0, 1) := by decide +kernel
theorem dX8_passDays_1 : decode cX8_passDays 1 = .ok (.iload_n 1, 1) := by decide +kernel
theorem dX8_passDays_2 : decode cX8_passDays 2 = .ok (.invokevirtual 205, 3) := by decide +kernel
theorem dX8_passDays_5 : decode cX8_passDays 5 = .ok (.aload_n 0, 1) := by decide +kernel
theorem dX8_passDays_6 : decode cX8_passDays 6 = .ok (.getfield 70, 3) := by decide +kernel
theorem dX8_passDays_9 : decode cX8_passDays 9 = .ok (.getfield 125, 3) := by decide +kernel
theorem dX8_passDays_12 : decode cX8_passDays 12 = .ok (.istore_n 2, 1) := by decide +kernel
theorem dX8_passDays_13 : decode cX8_passDays 13 = .ok (.aload_n 0, 1) := by decide +kernel
theorem dX8_passDays_14 : decode cX8_passDays 14 = .ok (.getfield 63, 3) := by decide +kernel
theorem dX8_passDays_17 : decode cX8_passDays 17 = .ok (.aload_n 0, 1) := by decide +kernel
theorem dX8_passDays_18 : decode cX8_passDays 18 = .ok (.getfield 70, 3) := by decide +kernel
theorem dX8_passDays_21 : decode cX8_passDays 21 = .ok (.iload_n 1, 1) := by decide +kernel
theorem dX8_passDays_22 : decode cX8_passDays 22 = .ok (.invokevirtual 208, 3) := by decide +kernel
theorem dX8_passDays_25 : decode cX8_passDays 25 = .ok (.aload_n 0, 1) := by decide +kernel
theorem dX8_passDays_26 : decode cX8_passDays 26 = .ok (.getfield 70, 3) := by decide +kernel
theorem dX8_passDays_29 : decode cX8_passDays 29 = .ok (.getfield 125, 3) := by decide +kernel
theorem dX8_passDays_32 : decode cX8_passDays 32 = .ok (.iload_n 2, 1) := by decide +kernel
theorem dX8_passDays_33 : decode cX8_passDays 33 = .ok (.isub, 1) := by decide +kernel
theorem dX8_passDays_34 : decode cX8_passDays 34 = .ok (.ireturn, 1) := by decide +kernel
theorem dX8_standingAfter_0 : decode cX8_standingAfter 0 = .ok (.aload_n 0, 1) := by decide +kernel
theorem dX8_standingAfter_1 : decode cX8_standingAfter 1 = .ok (.iload_n 1, 1) := by decide +kernel
theorem dX8_standingAfter_2 : decode cX8_standingAfter 2 = .ok (.invokevirtual 205, 3) := by decide +kernel
theorem dX8_standingAfter_5 : decode cX8_standingAfter 5 = .ok (.aload_n 0, 1) := by decide +kernel
theorem dX8_standingAfter_6 : decode cX8_standingAfter 6 = .ok (.getfield 74, 3) := by decide +kernel
theorem dX8_standingAfter_9 : decode cX8_standingAfter 9 = .ok (.aload_n 0, 1) := by decide +kernel
theorem dX8_standingAfter_10 : decode cX8_standingAfter 10 = .ok (.getfield 70, 3) := by decide +kernel
theorem dX8_standingAfter_13 : decode cX8_standingAfter 13 = .ok (.invokevirtual 212, 3) := by decide +kernel
theorem dX8_standingAfter_16 : decode cX8_standingAfter 16 = .ok (.aload_n 0, 1) := by decide +kernel
theorem dX8_standingAfter_17 : decode cX8_standingAfter 17 = .ok (.getfield 63, 3) := by decide +kernel
theorem dX8_standingAfter_20 : decode cX8_standingAfter 20 = .ok (.aload_n 0, 1) := by decide +kernel
theorem dX8_standingAfter_21 : decode cX8_standingAfter 21 = .ok (.getfield 74, 3) := by decide +kernel
theorem dX8_standingAfter_24 : decode cX8_standingAfter 24 = .ok (.iload_n 1, 1) := by decide +kernel
theorem dX8_standingAfter_25 : decode cX8_standingAfter 25 = .ok (.invokevirtual 208, 3) := by decide +kernel
theorem dX8_standingAfter_28 : decode cX8_standingAfter 28 = .ok (.aload_n 0, 1) := by decide +kernel
theorem dX8_standingAfter_29 : decode cX8_standingAfter 29 = .ok (.getfield 74, 3) := by decide +kernel
theorem dX8_standingAfter_32 : decode cX8_standingAfter 32 = .ok (.getfield 128, 3) := by decide +kernel
theorem dX8_standingAfter_35 : decode cX8_standingAfter 35 = .ok (.invokestatic 131, 3) := by decide +kernel
theorem dX8_standingAfter_38 : decode cX8_standingAfter 38 = .ok (.ireturn, 1) := by decide +kernel
theorem dX8_peacesAfter_0 : decode cX8_peacesAfter 0 = .ok (.aload_n 0, 1) := by decide +kernel
theorem dX8_peacesAfter_1 : decode cX8_peacesAfter 1 = .ok (.iload_n 1, 1) := by decide +kernel
theorem dX8_peacesAfter_2 : decode cX8_peacesAfter 2 = .ok (.invokevirtual 205, 3) := by decide +kernel
theorem dX8_peacesAfter_5 : decode cX8_peacesAfter 5 = .ok (.aload_n 0, 1) := by decide +kernel
theorem dX8_peacesAfter_6 : decode cX8_peacesAfter 6 = .ok (.getfield 74, 3) := by decide +kernel
theorem dX8_peacesAfter_9 : decode cX8_peacesAfter 9 = .ok (.aload_n 0, 1) := by decide +kernel
theorem dX8_peacesAfter_10 : decode cX8_peacesAfter 10 = .ok (.getfield 70, 3) := by decide +kernel
theorem dX8_peacesAfter_13 : decode cX8_peacesAfter 13 = .ok (.invokevirtual 212, 3) := by decide +kernel
theorem dX8_peacesAfter_16 : decode cX8_peacesAfter 16 = .ok (.aload_n 0, 1) := by decide +kernel
theorem dX8_peacesAfter_17 : decode cX8_peacesAfter 17 = .ok (.getfield 63, 3) := by decide +kernel
theorem dX8_peacesAfter_20 : decode cX8_peacesAfter 20 = .ok (.aload_n 0, 1) := by decide +kernel
theorem dX8_peacesAfter_21 : decode cX8_peacesAfter 21 = .ok (.getfield 74, 3) := by decide +kernel
theorem dX8_peacesAfter_24 : decode cX8_peacesAfter 24 = .ok (.iload_n 1, 1) := by decide +kernel
theorem dX8_peacesAfter_25 : decode cX8_peacesAfter 25 = .ok (.invokevirtual 208, 3) := by decide +kernel
theorem dX8_peacesAfter_28 : decode cX8_peacesAfter 28 = .ok (.aload_n 0, 1) := by decide +kernel
theorem dX8_peacesAfter_29 : decode cX8_peacesAfter 29 = .ok (.getfield 54, 3) := by decide +kernel
theorem dX8_peacesAfter_32 : decode cX8_peacesAfter 32 = .ok (.aload_n 0, 1) := by decide +kernel
theorem dX8_peacesAfter_33 : decode cX8_peacesAfter 33 = .ok (.getfield 74, 3) := by decide +kernel
theorem dX8_peacesAfter_36 : decode cX8_peacesAfter 36 = .ok (.getfield 128, 3) := by decide +kernel
theorem dX8_peacesAfter_39 : decode cX8_peacesAfter 39 = .ok (.invokevirtual 156, 3) := by decide +kernel
theorem dX8_peacesAfter_42 : decode cX8_peacesAfter 42 = .ok (.ireturn, 1) := by decide +kernel
theorem dX8_daysUntilPeace_0 : decode cX8_daysUntilPeace 0 = .ok (.aload_n 0, 1) := by decide +kernel
theorem dX8_daysUntilPeace_1 : decode cX8_daysUntilPeace 1 = .ok (.getfield 74, 3) := by decide +kernel
theorem dX8_daysUntilPeace_4 : decode cX8_daysUntilPeace 4 = .ok (.aload_n 0, 1) := by decide +kernel
theorem dX8_daysUntilPeace_5 : decode cX8_daysUntilPeace 5 = .ok (.getfield 70, 3) := by decide +kernel
theorem dX8_daysUntilPeace_8 : decode cX8_daysUntilPeace 8 = .ok (.invokevirtual 212, 3) := by decide +kernel
theorem dX8_daysUntilPeace_11 : decode cX8_daysUntilPeace 11 = .ok (.iconst 0, 1) := by decide +kernel
theorem dX8_daysUntilPeace_12 : decode cX8_daysUntilPeace 12 = .ok (.istore_n 1, 1) := by decide +kernel
theorem dX8_daysUntilPeace_13 : decode cX8_daysUntilPeace 13 = .ok (.iload_n 1, 1) := by decide +kernel
theorem dX8_daysUntilPeace_14 : decode cX8_daysUntilPeace 14 = .ok (.bipush 30, 2) := by decide +kernel
theorem dX8_daysUntilPeace_16 : decode cX8_daysUntilPeace 16 = .ok (.if_icmp .ge 40, 3) := by decide +kernel
theorem dX8_daysUntilPeace_19 : decode cX8_daysUntilPeace 19 = .ok (.aload_n 0, 1) := by decide +kernel
theorem dX8_daysUntilPeace_20 : decode cX8_daysUntilPeace 20 = .ok (.getfield 54, 3) := by decide +kernel
theorem dX8_daysUntilPeace_23 : decode cX8_daysUntilPeace 23 = .ok (.aload_n 0, 1) := by decide +kernel
theorem dX8_daysUntilPeace_24 : decode cX8_daysUntilPeace 24 = .ok (.getfield 74, 3) := by decide +kernel
theorem dX8_daysUntilPeace_27 : decode cX8_daysUntilPeace 27 = .ok (.getfield 128, 3) := by decide +kernel
theorem dX8_daysUntilPeace_30 : decode cX8_daysUntilPeace 30 = .ok (.invokevirtual 156, 3) := by decide +kernel
theorem dX8_daysUntilPeace_33 : decode cX8_daysUntilPeace 33 = .ok (.ifCond .le 5, 3) := by decide +kernel
theorem dX8_daysUntilPeace_36 : decode cX8_daysUntilPeace 36 = .ok (.iload_n 1, 1) := by decide +kernel
theorem dX8_daysUntilPeace_37 : decode cX8_daysUntilPeace 37 = .ok (.ireturn, 1) := by decide +kernel
theorem dX8_daysUntilPeace_38 : decode cX8_daysUntilPeace 38 = .ok (.aload_n 0, 1) := by decide +kernel
theorem dX8_daysUntilPeace_39 : decode cX8_daysUntilPeace 39 = .ok (.getfield 63, 3) := by decide +kernel
theorem dX8_daysUntilPeace_42 : decode cX8_daysUntilPeace 42 = .ok (.aload_n 0, 1) := by decide +kernel
theorem dX8_daysUntilPeace_43 : decode cX8_daysUntilPeace 43 = .ok (.getfield 74, 3) := by decide +kernel
theorem dX8_daysUntilPeace_46 : decode cX8_daysUntilPeace 46 = .ok (.iconst 1, 1) := by decide +kernel
theorem dX8_daysUntilPeace_47 : decode cX8_daysUntilPeace 47 = .ok (.invokevirtual 208, 3) := by decide +kernel
theorem dX8_daysUntilPeace_50 : decode cX8_daysUntilPeace 50 = .ok (.iinc 1 1, 3) := by decide +kernel
theorem dX8_daysUntilPeace_53 : decode cX8_daysUntilPeace 53 = .ok (.goto (-40), 3) := by decide +kernel
theorem dX8_daysUntilPeace_56 : decode cX8_daysUntilPeace 56 = .ok (.aload_n 0, 1) := by decide +kernel
theorem dX8_daysUntilPeace_57 : decode cX8_daysUntilPeace 57 = .ok (.getfield 54, 3) := by decide +kernel
theorem dX8_daysUntilPeace_60 : decode cX8_daysUntilPeace 60 = .ok (.aload_n 0, 1) := by decide +kernel
theorem dX8_daysUntilPeace_61 : decode cX8_daysUntilPeace 61 = .ok (.getfield 74, 3) := by decide +kernel
theorem dX8_daysUntilPeace_64 : decode cX8_daysUntilPeace 64 = .ok (.getfield 128, 3) := by decide +kernel
theorem dX8_daysUntilPeace_67 : decode cX8_daysUntilPeace 67 = .ok (.invokevirtual 156, 3) := by decide +kernel
theorem dX8_daysUntilPeace_70 : decode cX8_daysUntilPeace 70 = .ok (.ifCond .le 8, 3) := by decide +kernel
theorem dX8_daysUntilPeace_73 : decode cX8_daysUntilPeace 73 = .ok (.bipush 30, 2) := by decide +kernel
theorem dX8_daysUntilPeace_75 : decode cX8_daysUntilPeace 75 = .ok (.goto 4, 3) := by decide +kernel
theorem dX8_daysUntilPeace_78 : decode cX8_daysUntilPeace 78 = .ok (.iconst (-1), 1) := by decide +kernel
theorem dX8_daysUntilPeace_79 : decode cX8_daysUntilPeace 79 = .ok (.ireturn, 1) := by decide +kernel
theorem dX8_fewestToBreak_0 : decode cX8_fewestToBreak 0 = .ok (.aload_n 0, 1) := by decide +kernel
theorem dX8_fewestToBreak_1 : decode cX8_fewestToBreak 1 = .ok (.getfield 54, 3) := by decide +kernel
theorem dX8_fewestToBreak_4 : decode cX8_fewestToBreak 4 = .ok (.aload_n 0, 1) := by decide +kernel
theorem dX8_fewestToBreak_5 : decode cX8_fewestToBreak 5 = .ok (.getfield 70, 3) := by decide +kernel
theorem dX8_fewestToBreak_8 : decode cX8_fewestToBreak 8 = .ok (.getfield 128, 3) := by decide +kernel
theorem dX8_fewestToBreak_11 : decode cX8_fewestToBreak 11 = .ok (.invokevirtual 216, 3) := by decide +kernel
theorem dX8_fewestToBreak_14 : decode cX8_fewestToBreak 14 = .ok (.ireturn, 1) := by decide +kernel
theorem dX8_mostTellingOath_0 : decode cX8_mostTellingOath 0 = .ok (.aload_n 0, 1) := by decide +kernel
theorem dX8_mostTellingOath_1 : decode cX8_mostTellingOath 1 = .ok (.invokevirtual 187, 3) := by decide +kernel
theorem dX8_mostTellingOath_4 : decode cX8_mostTellingOath 4 = .ok (.aload_n 0, 1) := by decide +kernel
theorem dX8_mostTellingOath_5 : decode cX8_mostTellingOath 5 = .ok (.getfield 30, 3) := by decide +kernel
theorem dX8_mostTellingOath_8 : decode cX8_mostTellingOath 8 = .ok (.getfield 113, 3) := by decide +kernel
theorem dX8_mostTellingOath_11 : decode cX8_mostTellingOath 11 = .ok (.ifCond .ne 13, 3) := by decide +kernel
theorem dX8_mostTellingOath_14 : decode cX8_mostTellingOath 14 = .ok (.new 84, 3) := by decide +kernel
theorem dX8_mostTellingOath_17 : decode cX8_mostTellingOath 17 = .ok (.dup, 1) := by decide +kernel
theorem dX8_mostTellingOath_18 : decode cX8_mostTellingOath 18 = .ok (.ldc 219, 2) := by decide +kernel
theorem dX8_mostTellingOath_20 : decode cX8_mostTellingOath 20 = .ok (.invokespecial 88, 3) := by decide +kernel
theorem dX8_mostTellingOath_23 : decode cX8_mostTellingOath 23 = .ok (.athrow, 1) := by decide +kernel
theorem dX8_mostTellingOath_24 : decode cX8_mostTellingOath 24 = .ok (.iconst 0, 1) := by decide +kernel
theorem dX8_mostTellingOath_25 : decode cX8_mostTellingOath 25 = .ok (.istore_n 1, 1) := by decide +kernel
theorem dX8_mostTellingOath_26 : decode cX8_mostTellingOath 26 = .ok (.iconst 0, 1) := by decide +kernel
theorem dX8_mostTellingOath_27 : decode cX8_mostTellingOath 27 = .ok (.istore_n 2, 1) := by decide +kernel
theorem dX8_mostTellingOath_28 : decode cX8_mostTellingOath 28 = .ok (.iconst 0, 1) := by decide +kernel
theorem dX8_mostTellingOath_29 : decode cX8_mostTellingOath 29 = .ok (.istore_n 3, 1) := by decide +kernel
theorem dX8_mostTellingOath_30 : decode cX8_mostTellingOath 30 = .ok (.iload_n 3, 1) := by decide +kernel
theorem dX8_mostTellingOath_31 : decode cX8_mostTellingOath 31 = .ok (.iconst 2, 1) := by decide +kernel
theorem dX8_mostTellingOath_32 : decode cX8_mostTellingOath 32 = .ok (.aload_n 0, 1) := by decide +kernel
theorem dX8_mostTellingOath_33 : decode cX8_mostTellingOath 33 = .ok (.getfield 30, 3) := by decide +kernel
theorem dX8_mostTellingOath_36 : decode cX8_mostTellingOath 36 = .ok (.getfield 113, 3) := by decide +kernel
theorem dX8_mostTellingOath_39 : decode cX8_mostTellingOath 39 = .ok (.imul, 1) := by decide +kernel
theorem dX8_mostTellingOath_40 : decode cX8_mostTellingOath 40 = .ok (.if_icmp .ge 46, 3) := by decide +kernel
theorem dX8_mostTellingOath_43 : decode cX8_mostTellingOath 43 = .ok (.aload_n 0, 1) := by decide +kernel
theorem dX8_mostTellingOath_44 : decode cX8_mostTellingOath 44 = .ok (.getfield 54, 3) := by decide +kernel
theorem dX8_mostTellingOath_47 : decode cX8_mostTellingOath 47 = .ok (.aload_n 0, 1) := by decide +kernel
theorem dX8_mostTellingOath_48 : decode cX8_mostTellingOath 48 = .ok (.getfield 70, 3) := by decide +kernel
theorem dX8_mostTellingOath_51 : decode cX8_mostTellingOath 51 = .ok (.getfield 128, 3) := by decide +kernel
theorem dX8_mostTellingOath_54 : decode cX8_mostTellingOath 54 = .ok (.iload_n 3, 1) := by decide +kernel
theorem dX8_mostTellingOath_55 : decode cX8_mostTellingOath 55 = .ok (.invokevirtual 184, 3) := by decide +kernel
theorem dX8_mostTellingOath_58 : decode cX8_mostTellingOath 58 = .ok (.istore 4, 2) := by decide +kernel
theorem dX8_mostTellingOath_60 : decode cX8_mostTellingOath 60 = .ok (.iload 4, 2) := by decide +kernel
theorem dX8_mostTellingOath_62 : decode cX8_mostTellingOath 62 = .ok (.ifCond .le 18, 3) := by decide +kernel
theorem dX8_mostTellingOath_65 : decode cX8_mostTellingOath 65 = .ok (.iload_n 2, 1) := by decide +kernel
theorem dX8_mostTellingOath_66 : decode cX8_mostTellingOath 66 = .ok (.ifCond .eq 9, 3) := by decide +kernel
theorem dX8_mostTellingOath_69 : decode cX8_mostTellingOath 69 = .ok (.iload 4, 2) := by decide +kernel
theorem dX8_mostTellingOath_71 : decode cX8_mostTellingOath 71 = .ok (.iload_n 2, 1) := by decide +kernel
theorem dX8_mostTellingOath_72 : decode cX8_mostTellingOath 72 = .ok (.if_icmp .ge 8, 3) := by decide +kernel
theorem dX8_mostTellingOath_75 : decode cX8_mostTellingOath 75 = .ok (.iload_n 3, 1) := by decide +kernel
theorem dX8_mostTellingOath_76 : decode cX8_mostTellingOath 76 = .ok (.istore_n 1, 1) := by decide +kernel
theorem dX8_mostTellingOath_77 : decode cX8_mostTellingOath 77 = .ok (.iload 4, 2) := by decide +kernel
theorem dX8_mostTellingOath_79 : decode cX8_mostTellingOath 79 = .ok (.istore_n 2, 1) := by decide +kernel
theorem dX8_mostTellingOath_80 : decode cX8_mostTellingOath 80 = .ok (.iinc 3 1, 3) := by decide +kernel
theorem dX8_mostTellingOath_83 : decode cX8_mostTellingOath 83 = .ok (.goto (-53), 3) := by decide +kernel
theorem dX8_mostTellingOath_86 : decode cX8_mostTellingOath 86 = .ok (.iload_n 1, 1) := by decide +kernel
theorem dX8_mostTellingOath_87 : decode cX8_mostTellingOath 87 = .ok (.ireturn, 1) := by decide +kernel
theorem dX8_meanRiders_0 : decode cX8_meanRiders 0 = .ok (.aload_n 0, 1) := by decide +kernel
theorem dX8_meanRiders_1 : decode cX8_meanRiders 1 = .ok (.getfield 54, 3) := by decide +kernel
theorem dX8_meanRiders_4 : decode cX8_meanRiders 4 = .ok (.aload_n 0, 1) := by decide +kernel
theorem dX8_meanRiders_5 : decode cX8_meanRiders 5 = .ok (.getfield 70, 3) := by decide +kernel
theorem dX8_meanRiders_8 : decode cX8_meanRiders 8 = .ok (.getfield 128, 3) := by decide +kernel
theorem dX8_meanRiders_11 : decode cX8_meanRiders 11 = .ok (.invokevirtual 156, 3) := by decide +kernel
theorem dX8_meanRiders_14 : decode cX8_meanRiders 14 = .ok (.istore_n 1, 1) := by decide +kernel
theorem dX8_meanRiders_15 : decode cX8_meanRiders 15 = .ok (.iload_n 1, 1) := by decide +kernel
theorem dX8_meanRiders_16 : decode cX8_meanRiders 16 = .ok (.ifCond .ne 5, 3) := by decide +kernel
theorem dX8_meanRiders_19 : decode cX8_meanRiders 19 = .ok (.dconst 0, 1) := by decide +kernel
theorem dX8_meanRiders_20 : decode cX8_meanRiders 20 = .ok (.dreturn, 1) := by decide +kernel
theorem dX8_meanRiders_21 : decode cX8_meanRiders 21 = .ok (.iconst 0, 1) := by decide +kernel
theorem dX8_meanRiders_22 : decode cX8_meanRiders 22 = .ok (.istore_n 2, 1) := by decide +kernel
theorem dX8_meanRiders_23 : decode cX8_meanRiders 23 = .ok (.iconst 0, 1) := by decide +kernel
theorem dX8_meanRiders_24 : decode cX8_meanRiders 24 = .ok (.istore_n 3, 1) := by decide +kernel
theorem dX8_meanRiders_25 : decode cX8_meanRiders 25 = .ok (.iload_n 3, 1) := by decide +kernel
theorem dX8_meanRiders_26 : decode cX8_meanRiders 26 = .ok (.aload_n 0, 1) := by decide +kernel
theorem dX8_meanRiders_27 : decode cX8_meanRiders 27 = .ok (.getfield 30, 3) := by decide +kernel
theorem dX8_meanRiders_30 : decode cX8_meanRiders 30 = .ok (.getfield 113, 3) := by decide +kernel
theorem dX8_meanRiders_33 : decode cX8_meanRiders 33 = .ok (.if_icmp .ge 29, 3) := by decide +kernel
theorem dX8_meanRiders_36 : decode cX8_meanRiders 36 = .ok (.iload_n 2, 1) := by decide +kernel
theorem dX8_meanRiders_37 : decode cX8_meanRiders 37 = .ok (.aload_n 0, 1) := by decide +kernel
theorem dX8_meanRiders_38 : decode cX8_meanRiders 38 = .ok (.getfield 54, 3) := by decide +kernel
theorem dX8_meanRiders_41 : decode cX8_meanRiders 41 = .ok (.aload_n 0, 1) := by decide +kernel
theorem dX8_meanRiders_42 : decode cX8_meanRiders 42 = .ok (.getfield 70, 3) := by decide +kernel
theorem dX8_meanRiders_45 : decode cX8_meanRiders 45 = .ok (.getfield 128, 3) := by decide +kernel
theorem dX8_meanRiders_48 : decode cX8_meanRiders 48 = .ok (.iconst 2, 1) := by decide +kernel
theorem dX8_meanRiders_49 : decode cX8_meanRiders 49 = .ok (.iload_n 3, 1) := by decide +kernel
theorem dX8_meanRiders_50 : decode cX8_meanRiders 50 = .ok (.imul, 1) := by decide +kernel
theorem dX8_meanRiders_51 : decode cX8_meanRiders 51 = .ok (.invokevirtual 184, 3) := by decide +kernel
theorem dX8_meanRiders_54 : decode cX8_meanRiders 54 = .ok (.iadd, 1) := by decide +kernel
theorem dX8_meanRiders_55 : decode cX8_meanRiders 55 = .ok (.istore_n 2, 1) := by decide +kernel
theorem dX8_meanRiders_56 : decode cX8_meanRiders 56 = .ok (.iinc 3 1, 3) := by decide +kernel
theorem dX8_meanRiders_59 : decode cX8_meanRiders 59 = .ok (.goto (-34), 3) := by decide +kernel
theorem dX8_meanRiders_62 : decode cX8_meanRiders 62 = .ok (.iload_n 2, 1) := by decide +kernel
theorem dX8_meanRiders_63 : decode cX8_meanRiders 63 = .ok (.i2d, 1) := by decide +kernel
theorem dX8_meanRiders_64 : decode cX8_meanRiders 64 = .ok (.iload_n 1, 1) := by decide +kernel
theorem dX8_meanRiders_65 : decode cX8_meanRiders 65 = .ok (.i2d, 1) := by decide +kernel
theorem dX8_meanRiders_66 : decode cX8_meanRiders 66 = .ok (.ddiv, 1) := by decide +kernel
theorem dX8_meanRiders_67 : decode cX8_meanRiders 67 = .ok (.dreturn, 1) := by decide +kernel
theorem dX8_digest_0 : decode cX8_digest 0 = .ok (.ldc2_w 221, 3) := by decide +kernel
theorem dX8_digest_3 : decode cX8_digest 3 = .ok (.lstore_n 1, 1) := by decide +kernel
theorem dX8_digest_4 : decode cX8_digest 4 = .ok (.lload_n 1, 1) := by decide +kernel
theorem dX8_digest_5 : decode cX8_digest 5 = .ok (.ldc2_w 223, 3) := by decide +kernel
theorem dX8_digest_8 : decode cX8_digest 8 = .ok (.lmul, 1) := by decide +kernel
theorem dX8_digest_9 : decode cX8_digest 9 = .ok (.aload_n 0, 1) := by decide +kernel
theorem dX8_digest_10 : decode cX8_digest 10 = .ok (.getfield 30, 3) := by decide +kernel
theorem dX8_digest_13 : decode cX8_digest 13 = .ok (.getfield 113, 3) := by decide +kernel
theorem dX8_digest_16 : decode cX8_digest 16 = .ok (.i2l, 1) := by decide +kernel
theorem dX8_digest_17 : decode cX8_digest 17 = .ok (.ladd, 1) := by decide +kernel
theorem dX8_digest_18 : decode cX8_digest 18 = .ok (.lstore_n 1, 1) := by decide +kernel
theorem dX8_digest_19 : decode cX8_digest 19 = .ok (.lload_n 1, 1) := by decide +kernel
theorem dX8_digest_20 : decode cX8_digest 20 = .ok (.ldc2_w 223, 3) := by decide +kernel
theorem dX8_digest_23 : decode cX8_digest 23 = .ok (.lmul, 1) := by decide +kernel
theorem dX8_digest_24 : decode cX8_digest 24 = .ok (.aload_n 0, 1) := by decide +kernel
theorem dX8_digest_25 : decode cX8_digest 25 = .ok (.getfield 30, 3) := by decide +kernel
theorem dX8_digest_28 : decode cX8_digest 28 = .ok (.getfield 116, 3) := by decide +kernel
theorem dX8_digest_31 : decode cX8_digest 31 = .ok (.i2l, 1) := by decide +kernel
theorem dX8_digest_32 : decode cX8_digest 32 = .ok (.ladd, 1) := by decide +kernel
theorem dX8_digest_33 : decode cX8_digest 33 = .ok (.lstore_n 1, 1) := by decide +kernel
theorem dX8_digest_34 : decode cX8_digest 34 = .ok (.lload_n 1, 1) := by decide +kernel
theorem dX8_digest_35 : decode cX8_digest 35 = .ok (.ldc2_w 223, 3) := by decide +kernel
theorem dX8_digest_38 : decode cX8_digest 38 = .ok (.lmul, 1) := by decide +kernel
theorem dX8_digest_39 : decode cX8_digest 39 = .ok (.aload_n 0, 1) := by decide +kernel
theorem dX8_digest_40 : decode cX8_digest 40 = .ok (.getfield 30, 3) := by decide +kernel
theorem dX8_digest_43 : decode cX8_digest 43 = .ok (.getfield 119, 3) := by decide +kernel
theorem dX8_digest_46 : decode cX8_digest 46 = .ok (.i2l, 1) := by decide +kernel
theorem dX8_digest_47 : decode cX8_digest 47 = .ok (.ladd, 1) := by decide +kernel
theorem dX8_digest_48 : decode cX8_digest 48 = .ok (.lstore_n 1, 1) := by decide +kernel
theorem dX8_digest_49 : decode cX8_digest 49 = .ok (.lload_n 1, 1) := by decide +kernel
theorem dX8_digest_50 : decode cX8_digest 50 = .ok (.ldc2_w 223, 3) := by decide +kernel
theorem dX8_digest_53 : decode cX8_digest 53 = .ok (.lmul, 1) := by decide +kernel
theorem dX8_digest_54 : decode cX8_digest 54 = .ok (.aload_n 0, 1) := by decide +kernel
theorem dX8_digest_55 : decode cX8_digest 55 = .ok (.getfield 70, 3) := by decide +kernel
theorem dX8_digest_58 : decode cX8_digest 58 = .ok (.getfield 122, 3) := by decide +kernel
theorem dX8_digest_61 : decode cX8_digest 61 = .ok (.i2l, 1) := by decide +kernel
theorem dX8_digest_62 : decode cX8_digest 62 = .ok (.ladd, 1) := by decide +kernel
theorem dX8_digest_63 : decode cX8_digest 63 = .ok (.lstore_n 1, 1) := by decide +kernel
theorem dX8_digest_64 : decode cX8_digest 64 = .ok (.lload_n 1, 1) := by decide +kernel
theorem dX8_digest_65 : decode cX8_digest 65 = .ok (.ldc2_w 223, 3) := by decide +kernel
theorem dX8_digest_68 : decode cX8_digest 68 = .ok (.lmul, 1) := by decide +kernel
theorem dX8_digest_69 : decode cX8_digest 69 = .ok (.aload_n 0, 1) := by decide +kernel
theorem dX8_digest_70 : decode cX8_digest 70 = .ok (.getfield 70, 3) := by decide +kernel
theorem dX8_digest_73 : decode cX8_digest 73 = .ok (.getfield 125, 3) := by decide +kernel
theorem dX8_digest_76 : decode cX8_digest 76 = .ok (.i2l, 1) := by decide +kernel
theorem dX8_digest_77 : decode cX8_digest 77 = .ok (.ladd, 1) := by decide +kernel
theorem dX8_digest_78 : decode cX8_digest 78 = .ok (.lstore_n 1, 1) := by decide +kernel
theorem dX8_digest_79 : decode cX8_digest 79 = .ok (.lload_n 1, 1) := by decide +kernel
theorem dX8_digest_80 : decode cX8_digest 80 = .ok (.ldc2_w 223, 3) := by decide +kernel
theorem dX8_digest_83 : decode cX8_digest 83 = .ok (.lmul, 1) := by decide +kernel
theorem dX8_digest_84 : decode cX8_digest 84 = .ok (.aload_n 0, 1) := by decide +kernel
theorem dX8_digest_85 : decode cX8_digest 85 = .ok (.getfield 12, 3) := by decide +kernel
theorem dX8_digest_88 : decode cX8_digest 88 = .ok (.getfield 81, 3) := by decide +kernel
theorem dX8_digest_91 : decode cX8_digest 91 = .ok (.i2l, 1) := by decide +kernel
theorem dX8_digest_92 : decode cX8_digest 92 = .ok (.ladd, 1) := by decide +kernel
theorem dX8_digest_93 : decode cX8_digest 93 = .ok (.lstore_n 1, 1) := by decide +kernel
theorem dX8_digest_94 : decode cX8_digest 94 = .ok (.lload_n 1, 1) := by decide +kernel
theorem dX8_digest_95 : decode cX8_digest 95 = .ok (.ldc2_w 223, 3) := by decide +kernel
theorem dX8_digest_98 : decode cX8_digest 98 = .ok (.lmul, 1) := by decide +kernel
theorem dX8_digest_99 : decode cX8_digest 99 = .ok (.aload_n 0, 1) := by decide +kernel
theorem dX8_digest_100 : decode cX8_digest 100 = .ok (.getfield 70, 3) := by decide +kernel
theorem dX8_digest_103 : decode cX8_digest 103 = .ok (.getfield 128, 3) := by decide +kernel
theorem dX8_digest_106 : decode cX8_digest 106 = .ok (.invokestatic 131, 3) := by decide +kernel
theorem dX8_digest_109 : decode cX8_digest 109 = .ok (.i2l, 1) := by decide +kernel
theorem dX8_digest_110 : decode cX8_digest 110 = .ok (.ladd, 1) := by decide +kernel
theorem dX8_digest_111 : decode cX8_digest 111 = .ok (.lstore_n 1, 1) := by decide +kernel
theorem dX8_digest_112 : decode cX8_digest 112 = .ok (.lload_n 1, 1) := by decide +kernel
theorem dX8_digest_113 : decode cX8_digest 113 = .ok (.ldc2_w 223, 3) := by decide +kernel
theorem dX8_digest_116 : decode cX8_digest 116 = .ok (.lmul, 1) := by decide +kernel
theorem dX8_digest_117 : decode cX8_digest 117 = .ok (.aload_n 0, 1) := by decide +kernel
theorem dX8_digest_118 : decode cX8_digest 118 = .ok (.getfield 47, 3) := by decide +kernel
theorem dX8_digest_121 : decode cX8_digest 121 = .ok (.aload_n 0, 1) := by decide +kernel
theorem dX8_digest_122 : decode cX8_digest 122 = .ok (.getfield 70, 3) := by decide +kernel
theorem dX8_digest_125 : decode cX8_digest 125 = .ok (.getfield 128, 3) := by decide +kernel
theorem dX8_digest_128 : decode cX8_digest 128 = .ok (.invokevirtual 175, 3) := by decide +kernel
theorem dX8_digest_131 : decode cX8_digest 131 = .ok (.i2l, 1) := by decide +kernel
theorem dX8_digest_132 : decode cX8_digest 132 = .ok (.ladd, 1) := by decide +kernel
theorem dX8_digest_133 : decode cX8_digest 133 = .ok (.lstore_n 1, 1) := by decide +kernel
theorem dX8_digest_134 : decode cX8_digest 134 = .ok (.lload_n 1, 1) := by decide +kernel
theorem dX8_digest_135 : decode cX8_digest 135 = .ok (.ldc2_w 223, 3) := by decide +kernel
theorem dX8_digest_138 : decode cX8_digest 138 = .ok (.lmul, 1) := by decide +kernel
theorem dX8_digest_139 : decode cX8_digest 139 = .ok (.aload_n 0, 1) := by decide +kernel
theorem dX8_digest_140 : decode cX8_digest 140 = .ok (.getfield 54, 3) := by decide +kernel
theorem dX8_digest_143 : decode cX8_digest 143 = .ok (.aload_n 0, 1) := by decide +kernel
theorem dX8_digest_144 : decode cX8_digest 144 = .ok (.getfield 70, 3) := by decide +kernel
theorem dX8_digest_147 : decode cX8_digest 147 = .ok (.getfield 128, 3) := by decide +kernel
theorem dX8_digest_150 : decode cX8_digest 150 = .ok (.invokevirtual 156, 3) := by decide +kernel
theorem dX8_digest_153 : decode cX8_digest 153 = .ok (.i2l, 1) := by decide +kernel
theorem dX8_digest_154 : decode cX8_digest 154 = .ok (.ladd, 1) := by decide +kernel
theorem dX8_digest_155 : decode cX8_digest 155 = .ok (.lstore_n 1, 1) := by decide +kernel
theorem dX8_digest_156 : decode cX8_digest 156 = .ok (.aload_n 0, 1) := by decide +kernel
theorem dX8_digest_157 : decode cX8_digest 157 = .ok (.lload_n 1, 1) := by decide +kernel
theorem dX8_digest_158 : decode cX8_digest 158 = .ok (.invokevirtual 225, 3) := by decide +kernel
theorem dX8_digest_161 : decode cX8_digest 161 = .ok (.lstore_n 1, 1) := by decide +kernel
theorem dX8_digest_162 : decode cX8_digest 162 = .ok (.aload_n 0, 1) := by decide +kernel
theorem dX8_digest_163 : decode cX8_digest 163 = .ok (.lload_n 1, 1) := by decide +kernel
theorem dX8_digest_164 : decode cX8_digest 164 = .ok (.invokevirtual 229, 3) := by decide +kernel
theorem dX8_digest_167 : decode cX8_digest 167 = .ok (.lstore_n 1, 1) := by decide +kernel
theorem dX8_digest_168 : decode cX8_digest 168 = .ok (.aload_n 0, 1) := by decide +kernel
theorem dX8_digest_169 : decode cX8_digest 169 = .ok (.lload_n 1, 1) := by decide +kernel
theorem dX8_digest_170 : decode cX8_digest 170 = .ok (.invokevirtual 232, 3) := by decide +kernel
theorem dX8_digest_173 : decode cX8_digest 173 = .ok (.lreturn, 1) := by decide +kernel
theorem dX8_digestStatements_0 : decode cX8_digestStatements 0 = .ok (.lload_n 1, 1) := by decide +kernel
theorem dX8_digestStatements_1 : decode cX8_digestStatements 1 = .ok (.lstore_n 3, 1) := by decide +kernel
theorem dX8_digestStatements_2 : decode cX8_digestStatements 2 = .ok (.iconst 0, 1) := by decide +kernel
theorem dX8_digestStatements_3 : decode cX8_digestStatements 3 = .ok (.istore 5, 2) := by decide +kernel
theorem dX8_digestStatements_5 : decode cX8_digestStatements 5 = .ok (.iload 5, 2) := by decide +kernel
theorem dX8_digestStatements_7 : decode cX8_digestStatements 7 = .ok (.aload_n 0, 1) := by decide +kernel
theorem dX8_digestStatements_8 : decode cX8_digestStatements 8 = .ok (.getfield 30, 3) := by decide +kernel
theorem dX8_digestStatements_11 : decode cX8_digestStatements 11 = .ok (.getfield 116, 3) := by decide +kernel
theorem dX8_digestStatements_14 : decode cX8_digestStatements 14 = .ok (.if_icmp .ge 88, 3) := by decide +kernel
theorem dX8_digestStatements_17 : decode cX8_digestStatements 17 = .ok (.lload_n 3, 1) := by decide +kernel
theorem dX8_digestStatements_18 : decode cX8_digestStatements 18 = .ok (.ldc2_w 223, 3) := by decide +kernel
theorem dX8_digestStatements_21 : decode cX8_digestStatements 21 = .ok (.lmul, 1) := by decide +kernel
theorem dX8_digestStatements_22 : decode cX8_digestStatements 22 = .ok (.aload_n 0, 1) := by decide +kernel
theorem dX8_digestStatements_23 : decode cX8_digestStatements 23 = .ok (.getfield 30, 3) := by decide +kernel
theorem dX8_digestStatements_26 : decode cX8_digestStatements 26 = .ok (.iload 5, 2) := by decide +kernel
theorem dX8_digestStatements_28 : decode cX8_digestStatements 28 = .ok (.invokevirtual 140, 3) := by decide +kernel
theorem dX8_digestStatements_31 : decode cX8_digestStatements 31 = .ok (.i2l, 1) := by decide +kernel
theorem dX8_digestStatements_32 : decode cX8_digestStatements 32 = .ok (.ladd, 1) := by decide +kernel
theorem dX8_digestStatements_33 : decode cX8_digestStatements 33 = .ok (.lstore_n 3, 1) := by decide +kernel
theorem dX8_digestStatements_34 : decode cX8_digestStatements 34 = .ok (.lload_n 3, 1) := by decide +kernel
theorem dX8_digestStatements_35 : decode cX8_digestStatements 35 = .ok (.ldc2_w 223, 3) := by decide +kernel
theorem dX8_digestStatements_38 : decode cX8_digestStatements 38 = .ok (.lmul, 1) := by decide +kernel
theorem dX8_digestStatements_39 : decode cX8_digestStatements 39 = .ok (.aload_n 0, 1) := by decide +kernel
theorem dX8_digestStatements_40 : decode cX8_digestStatements 40 = .ok (.getfield 30, 3) := by decide +kernel
theorem dX8_digestStatements_43 : decode cX8_digestStatements 43 = .ok (.iload 5, 2) := by decide +kernel
theorem dX8_digestStatements_45 : decode cX8_digestStatements 45 = .ok (.invokevirtual 143, 3) := by decide +kernel
theorem dX8_digestStatements_48 : decode cX8_digestStatements 48 = .ok (.i2l, 1) := by decide +kernel
theorem dX8_digestStatements_49 : decode cX8_digestStatements 49 = .ok (.ladd, 1) := by decide +kernel
theorem dX8_digestStatements_50 : decode cX8_digestStatements 50 = .ok (.lstore_n 3, 1) := by decide +kernel
end
section
theorem dX8_digestStatements_51 : decode cX8_digestStatements 51 = .ok (.lload_n 3, 1) := by decide +kernel
theorem dX8_digestStatements_52 : decode cX8_digestStatements 52 = .ok (.ldc2_w 223, 3) := by decide +kernel
theorem dX8_digestStatements_55 : decode cX8_digestStatements 55 = .ok (.lmul, 1) := by decide +kernel
theorem dX8_digestStatements_56 : decode cX8_digestStatements 56 = .ok (.aload_n 0, 1) := by decide +kernel
theorem dX8_digestStatements_57 : decode cX8_digestStatements 57 = .ok (.getfield 30, 3) := by decide +kernel
theorem dX8_digestStatements_60 : decode cX8_digestStatements 60 = .ok (.iload 5, 2) := by decide +kernel
theorem dX8_digestStatements_62 : decode cX8_digestStatements 62 = .ok (.invokevirtual 146, 3) := by decide +kernel
theorem dX8_digestStatements_65 : decode cX8_digestStatements 65 = .ok (.i2l, 1) := by decide +kernel
theorem dX8_digestStatements_66 : decode cX8_digestStatements 66 = .ok (.ladd, 1) := by decide +kernel
theorem dX8_digestStatements_67 : decode cX8_digestStatements 67 = .ok (.lstore_n 3, 1) := by decide +kernel
theorem dX8_digestStatements_68 : decode cX8_digestStatements 68 = .ok (.lload_n 3, 1) := by decide +kernel
theorem dX8_digestStatements_69 : decode cX8_digestStatements 69 = .ok (.ldc2_w 223, 3) := by decide +kernel
theorem dX8_digestStatements_72 : decode cX8_digestStatements 72 = .ok (.lmul, 1) := by decide +kernel
theorem dX8_digestStatements_73 : decode cX8_digestStatements 73 = .ok (.aload_n 0, 1) := by decide +kernel
theorem dX8_digestStatements_74 : decode cX8_digestStatements 74 = .ok (.getfield 70, 3) := by decide +kernel
theorem dX8_digestStatements_77 : decode cX8_digestStatements 77 = .ok (.getfield 128, 3) := by decide +kernel
theorem dX8_digestStatements_80 : decode cX8_digestStatements 80 = .ok (.iload 5, 2) := by decide +kernel
theorem dX8_digestStatements_82 : decode cX8_digestStatements 82 = .ok (.invokestatic 149, 3) := by decide +kernel
theorem dX8_digestStatements_85 : decode cX8_digestStatements 85 = .ok (.ifCond .eq 7, 3) := by decide +kernel
theorem dX8_digestStatements_88 : decode cX8_digestStatements 88 = .ok (.iconst 1, 1) := by decide +kernel
theorem dX8_digestStatements_89 : decode cX8_digestStatements 89 = .ok (.goto 4, 3) := by decide +kernel
theorem dX8_digestStatements_92 : decode cX8_digestStatements 92 = .ok (.iconst 0, 1) := by decide +kernel
theorem dX8_digestStatements_93 : decode cX8_digestStatements 93 = .ok (.i2l, 1) := by decide +kernel
theorem dX8_digestStatements_94 : decode cX8_digestStatements 94 = .ok (.ladd, 1) := by decide +kernel
theorem dX8_digestStatements_95 : decode cX8_digestStatements 95 = .ok (.lstore_n 3, 1) := by decide +kernel
theorem dX8_digestStatements_96 : decode cX8_digestStatements 96 = .ok (.iinc 5 1, 3) := by decide +kernel
theorem dX8_digestStatements_99 : decode cX8_digestStatements 99 = .ok (.goto (-94), 3) := by decide +kernel
theorem dX8_digestStatements_102 : decode cX8_digestStatements 102 = .ok (.lload_n 3, 1) := by decide +kernel
theorem dX8_digestStatements_103 : decode cX8_digestStatements 103 = .ok (.lreturn, 1) := by decide +kernel
theorem dX8_digestClaims_0 : decode cX8_digestClaims 0 = .ok (.lload_n 1, 1) := by decide +kernel
theorem dX8_digestClaims_1 : decode cX8_digestClaims 1 = .ok (.lstore_n 3, 1) := by decide +kernel
theorem dX8_digestClaims_2 : decode cX8_digestClaims 2 = .ok (.iconst 0, 1) := by decide +kernel
theorem dX8_digestClaims_3 : decode cX8_digestClaims 3 = .ok (.istore 5, 2) := by decide +kernel
theorem dX8_digestClaims_5 : decode cX8_digestClaims 5 = .ok (.iload 5, 2) := by decide +kernel
theorem dX8_digestClaims_7 : decode cX8_digestClaims 7 = .ok (.iconst 2, 1) := by decide +kernel
theorem dX8_digestClaims_8 : decode cX8_digestClaims 8 = .ok (.aload_n 0, 1) := by decide +kernel
theorem dX8_digestClaims_9 : decode cX8_digestClaims 9 = .ok (.getfield 30, 3) := by decide +kernel
theorem dX8_digestClaims_12 : decode cX8_digestClaims 12 = .ok (.getfield 113, 3) := by decide +kernel
theorem dX8_digestClaims_15 : decode cX8_digestClaims 15 = .ok (.imul, 1) := by decide +kernel
theorem dX8_digestClaims_16 : decode cX8_digestClaims 16 = .ok (.if_icmp .ge 87, 3) := by decide +kernel
theorem dX8_digestClaims_19 : decode cX8_digestClaims 19 = .ok (.lload_n 3, 1) := by decide +kernel
theorem dX8_digestClaims_20 : decode cX8_digestClaims 20 = .ok (.ldc2_w 223, 3) := by decide +kernel
theorem dX8_digestClaims_23 : decode cX8_digestClaims 23 = .ok (.lmul, 1) := by decide +kernel
theorem dX8_digestClaims_24 : decode cX8_digestClaims 24 = .ok (.aload_n 0, 1) := by decide +kernel
theorem dX8_digestClaims_25 : decode cX8_digestClaims 25 = .ok (.getfield 47, 3) := by decide +kernel
theorem dX8_digestClaims_28 : decode cX8_digestClaims 28 = .ok (.aload_n 0, 1) := by decide +kernel
theorem dX8_digestClaims_29 : decode cX8_digestClaims 29 = .ok (.getfield 70, 3) := by decide +kernel
theorem dX8_digestClaims_32 : decode cX8_digestClaims 32 = .ok (.getfield 128, 3) := by decide +kernel
theorem dX8_digestClaims_35 : decode cX8_digestClaims 35 = .ok (.iload 5, 2) := by decide +kernel
theorem dX8_digestClaims_37 : decode cX8_digestClaims 37 = .ok (.invokevirtual 166, 3) := by decide +kernel
theorem dX8_digestClaims_40 : decode cX8_digestClaims 40 = .ok (.invokestatic 131, 3) := by decide +kernel
theorem dX8_digestClaims_43 : decode cX8_digestClaims 43 = .ok (.i2l, 1) := by decide +kernel
theorem dX8_digestClaims_44 : decode cX8_digestClaims 44 = .ok (.ladd, 1) := by decide +kernel
theorem dX8_digestClaims_45 : decode cX8_digestClaims 45 = .ok (.lstore_n 3, 1) := by decide +kernel
theorem dX8_digestClaims_46 : decode cX8_digestClaims 46 = .ok (.lload_n 3, 1) := by decide +kernel
theorem dX8_digestClaims_47 : decode cX8_digestClaims 47 = .ok (.ldc2_w 223, 3) := by decide +kernel
theorem dX8_digestClaims_50 : decode cX8_digestClaims 50 = .ok (.lmul, 1) := by decide +kernel
theorem dX8_digestClaims_51 : decode cX8_digestClaims 51 = .ok (.aload_n 0, 1) := by decide +kernel
theorem dX8_digestClaims_52 : decode cX8_digestClaims 52 = .ok (.getfield 47, 3) := by decide +kernel
theorem dX8_digestClaims_55 : decode cX8_digestClaims 55 = .ok (.aload_n 0, 1) := by decide +kernel
theorem dX8_digestClaims_56 : decode cX8_digestClaims 56 = .ok (.getfield 70, 3) := by decide +kernel
theorem dX8_digestClaims_59 : decode cX8_digestClaims 59 = .ok (.getfield 128, 3) := by decide +kernel
theorem dX8_digestClaims_62 : decode cX8_digestClaims 62 = .ok (.iload 5, 2) := by decide +kernel
theorem dX8_digestClaims_64 : decode cX8_digestClaims 64 = .ok (.invokevirtual 178, 3) := by decide +kernel
theorem dX8_digestClaims_67 : decode cX8_digestClaims 67 = .ok (.invokestatic 181, 3) := by decide +kernel
theorem dX8_digestClaims_70 : decode cX8_digestClaims 70 = .ok (.i2l, 1) := by decide +kernel
theorem dX8_digestClaims_71 : decode cX8_digestClaims 71 = .ok (.ladd, 1) := by decide +kernel
theorem dX8_digestClaims_72 : decode cX8_digestClaims 72 = .ok (.lstore_n 3, 1) := by decide +kernel
theorem dX8_digestClaims_73 : decode cX8_digestClaims 73 = .ok (.lload_n 3, 1) := by decide +kernel
theorem dX8_digestClaims_74 : decode cX8_digestClaims 74 = .ok (.ldc2_w 223, 3) := by decide +kernel
theorem dX8_digestClaims_77 : decode cX8_digestClaims 77 = .ok (.lmul, 1) := by decide +kernel
theorem dX8_digestClaims_78 : decode cX8_digestClaims 78 = .ok (.aload_n 0, 1) := by decide +kernel
theorem dX8_digestClaims_79 : decode cX8_digestClaims 79 = .ok (.getfield 54, 3) := by decide +kernel
theorem dX8_digestClaims_82 : decode cX8_digestClaims 82 = .ok (.aload_n 0, 1) := by decide +kernel
theorem dX8_digestClaims_83 : decode cX8_digestClaims 83 = .ok (.getfield 70, 3) := by decide +kernel
theorem dX8_digestClaims_86 : decode cX8_digestClaims 86 = .ok (.getfield 128, 3) := by decide +kernel
theorem dX8_digestClaims_89 : decode cX8_digestClaims 89 = .ok (.iload 5, 2) := by decide +kernel
theorem dX8_digestClaims_91 : decode cX8_digestClaims 91 = .ok (.invokevirtual 184, 3) := by decide +kernel
theorem dX8_digestClaims_94 : decode cX8_digestClaims 94 = .ok (.i2l, 1) := by decide +kernel
theorem dX8_digestClaims_95 : decode cX8_digestClaims 95 = .ok (.ladd, 1) := by decide +kernel
theorem dX8_digestClaims_96 : decode cX8_digestClaims 96 = .ok (.lstore_n 3, 1) := by decide +kernel
theorem dX8_digestClaims_97 : decode cX8_digestClaims 97 = .ok (.iinc 5 1, 3) := by decide +kernel
theorem dX8_digestClaims_100 : decode cX8_digestClaims 100 = .ok (.goto (-95), 3) := by decide +kernel
theorem dX8_digestClaims_103 : decode cX8_digestClaims 103 = .ok (.lload_n 3, 1) := by decide +kernel
theorem dX8_digestClaims_104 : decode cX8_digestClaims 104 = .ok (.lreturn, 1) := by decide +kernel
theorem dX8_digestPeace_0 : decode cX8_digestPeace 0 = .ok (.lload_n 1, 1) := by decide +kernel
theorem dX8_digestPeace_1 : decode cX8_digestPeace 1 = .ok (.lstore_n 3, 1) := by decide +kernel
theorem dX8_digestPeace_2 : decode cX8_digestPeace 2 = .ok (.aload_n 0, 1) := by decide +kernel
theorem dX8_digestPeace_3 : decode cX8_digestPeace 3 = .ok (.getfield 54, 3) := by decide +kernel
theorem dX8_digestPeace_6 : decode cX8_digestPeace 6 = .ok (.aload_n 0, 1) := by decide +kernel
theorem dX8_digestPeace_7 : decode cX8_digestPeace 7 = .ok (.getfield 70, 3) := by decide +kernel
theorem dX8_digestPeace_10 : decode cX8_digestPeace 10 = .ok (.getfield 128, 3) := by decide +kernel
theorem dX8_digestPeace_13 : decode cX8_digestPeace 13 = .ok (.invokevirtual 156, 3) := by decide +kernel
theorem dX8_digestPeace_16 : decode cX8_digestPeace 16 = .ok (.ifCond .ne 5, 3) := by decide +kernel
theorem dX8_digestPeace_19 : decode cX8_digestPeace 19 = .ok (.lload_n 3, 1) := by decide +kernel
theorem dX8_digestPeace_20 : decode cX8_digestPeace 20 = .ok (.lreturn, 1) := by decide +kernel
theorem dX8_digestPeace_21 : decode cX8_digestPeace 21 = .ok (.aload_n 0, 1) := by decide +kernel
theorem dX8_digestPeace_22 : decode cX8_digestPeace 22 = .ok (.getfield 54, 3) := by decide +kernel
theorem dX8_digestPeace_25 : decode cX8_digestPeace 25 = .ok (.aload_n 0, 1) := by decide +kernel
theorem dX8_digestPeace_26 : decode cX8_digestPeace 26 = .ok (.getfield 70, 3) := by decide +kernel
theorem dX8_digestPeace_29 : decode cX8_digestPeace 29 = .ok (.getfield 128, 3) := by decide +kernel
theorem dX8_digestPeace_32 : decode cX8_digestPeace 32 = .ok (.invokevirtual 195, 3) := by decide +kernel
theorem dX8_digestPeace_35 : decode cX8_digestPeace 35 = .ok (.istore 5, 2) := by decide +kernel
theorem dX8_digestPeace_37 : decode cX8_digestPeace 37 = .ok (.iconst 0, 1) := by decide +kernel
theorem dX8_digestPeace_38 : decode cX8_digestPeace 38 = .ok (.istore 6, 2) := by decide +kernel
theorem dX8_digestPeace_40 : decode cX8_digestPeace 40 = .ok (.iload 6, 2) := by decide +kernel
theorem dX8_digestPeace_42 : decode cX8_digestPeace 42 = .ok (.aload_n 0, 1) := by decide +kernel
theorem dX8_digestPeace_43 : decode cX8_digestPeace 43 = .ok (.getfield 30, 3) := by decide +kernel
theorem dX8_digestPeace_46 : decode cX8_digestPeace 46 = .ok (.getfield 113, 3) := by decide +kernel
theorem dX8_digestPeace_49 : decode cX8_digestPeace 49 = .ok (.if_icmp .ge 32, 3) := by decide +kernel
theorem dX8_digestPeace_52 : decode cX8_digestPeace 52 = .ok (.lload_n 3, 1) := by decide +kernel
theorem dX8_digestPeace_53 : decode cX8_digestPeace 53 = .ok (.ldc2_w 223, 3) := by decide +kernel
theorem dX8_digestPeace_56 : decode cX8_digestPeace 56 = .ok (.lmul, 1) := by decide +kernel
theorem dX8_digestPeace_57 : decode cX8_digestPeace 57 = .ok (.iload 5, 2) := by decide +kernel
theorem dX8_digestPeace_59 : decode cX8_digestPeace 59 = .ok (.iload 6, 2) := by decide +kernel
theorem dX8_digestPeace_61 : decode cX8_digestPeace 61 = .ok (.invokestatic 149, 3) := by decide +kernel
theorem dX8_digestPeace_64 : decode cX8_digestPeace 64 = .ok (.ifCond .eq 7, 3) := by decide +kernel
theorem dX8_digestPeace_67 : decode cX8_digestPeace 67 = .ok (.iconst 1, 1) := by decide +kernel
theorem dX8_digestPeace_68 : decode cX8_digestPeace 68 = .ok (.goto 4, 3) := by decide +kernel
theorem dX8_digestPeace_71 : decode cX8_digestPeace 71 = .ok (.iconst 0, 1) := by decide +kernel
theorem dX8_digestPeace_72 : decode cX8_digestPeace 72 = .ok (.i2l, 1) := by decide +kernel
theorem dX8_digestPeace_73 : decode cX8_digestPeace 73 = .ok (.ladd, 1) := by decide +kernel
theorem dX8_digestPeace_74 : decode cX8_digestPeace 74 = .ok (.lstore_n 3, 1) := by decide +kernel
theorem dX8_digestPeace_75 : decode cX8_digestPeace 75 = .ok (.iinc 6 1, 3) := by decide +kernel
theorem dX8_digestPeace_78 : decode cX8_digestPeace 78 = .ok (.goto (-38), 3) := by decide +kernel
theorem dX8_digestPeace_81 : decode cX8_digestPeace 81 = .ok (.lload_n 3, 1) := by decide +kernel
theorem dX8_digestPeace_82 : decode cX8_digestPeace 82 = .ok (.lreturn, 1) := by decide +kernel
theorem dX8_begin_0 : decode cX8_begin 0 = .ok (.aload_n 0, 1) := by decide +kernel
theorem dX8_begin_1 : decode cX8_begin 1 = .ok (.getfield 30, 3) := by decide +kernel
theorem dX8_begin_4 : decode cX8_begin 4 = .ok (.aload_n 0, 1) := by decide +kernel
theorem dX8_begin_5 : decode cX8_begin 5 = .ok (.getfield 26, 3) := by decide +kernel
theorem dX8_begin_8 : decode cX8_begin 8 = .ok (.invokevirtual 235, 3) := by decide +kernel
theorem dX8_begin_11 : decode cX8_begin 11 = .ok (.aload_n 0, 1) := by decide +kernel
theorem dX8_begin_12 : decode cX8_begin 12 = .ok (.getfield 47, 3) := by decide +kernel
theorem dX8_begin_15 : decode cX8_begin 15 = .ok (.invokevirtual 237, 3) := by decide +kernel
theorem dX8_begin_18 : decode cX8_begin 18 = .ok (.aload_n 0, 1) := by decide +kernel
theorem dX8_begin_19 : decode cX8_begin 19 = .ok (.getfield 54, 3) := by decide +kernel
theorem dX8_begin_22 : decode cX8_begin 22 = .ok (.invokevirtual 240, 3) := by decide +kernel
theorem dX8_begin_25 : decode cX8_begin 25 = .ok (.aload_n 0, 1) := by decide +kernel
theorem dX8_begin_26 : decode cX8_begin 26 = .ok (.getfield 70, 3) := by decide +kernel
theorem dX8_begin_29 : decode cX8_begin 29 = .ok (.aload_n 0, 1) := by decide +kernel
theorem dX8_begin_30 : decode cX8_begin 30 = .ok (.getfield 30, 3) := by decide +kernel
theorem dX8_begin_33 : decode cX8_begin 33 = .ok (.getfield 116, 3) := by decide +kernel
theorem dX8_begin_36 : decode cX8_begin 36 = .ok (.invokevirtual 243, 3) := by decide +kernel
theorem dX8_begin_39 : decode cX8_begin 39 = .ok (.return_, 1) := by decide +kernel
theorem dX8_needStatement_0 : decode cX8_needStatement 0 = .ok (.iload_n 1, 1) := by decide +kernel
theorem dX8_needStatement_1 : decode cX8_needStatement 1 = .ok (.ifCond .lt 14, 3) := by decide +kernel
theorem dX8_needStatement_4 : decode cX8_needStatement 4 = .ok (.iload_n 1, 1) := by decide +kernel
theorem dX8_needStatement_5 : decode cX8_needStatement 5 = .ok (.aload_n 0, 1) := by decide +kernel
theorem dX8_needStatement_6 : decode cX8_needStatement 6 = .ok (.getfield 30, 3) := by decide +kernel
theorem dX8_needStatement_9 : decode cX8_needStatement 9 = .ok (.getfield 116, 3) := by decide +kernel
theorem dX8_needStatement_12 : decode cX8_needStatement 12 = .ok (.if_icmp .lt 13, 3) := by decide +kernel
theorem dX8_needStatement_15 : decode cX8_needStatement 15 = .ok (.new 190, 3) := by decide +kernel
theorem dX8_needStatement_18 : decode cX8_needStatement 18 = .ok (.dup, 1) := by decide +kernel
theorem dX8_needStatement_19 : decode cX8_needStatement 19 = .ok (.ldc 245, 2) := by decide +kernel
theorem dX8_needStatement_21 : decode cX8_needStatement 21 = .ok (.invokespecial 194, 3) := by decide +kernel
theorem dX8_needStatement_24 : decode cX8_needStatement 24 = .ok (.athrow, 1) := by decide +kernel
theorem dX8_needStatement_25 : decode cX8_needStatement 25 = .ok (.return_, 1) := by decide +kernel
theorem dX8_needStanding_0 : decode cX8_needStanding 0 = .ok (.aload_n 0, 1) := by decide +kernel
theorem dX8_needStanding_1 : decode cX8_needStanding 1 = .ok (.getfield 70, 3) := by decide +kernel
theorem dX8_needStanding_4 : decode cX8_needStanding 4 = .ok (.getfield 128, 3) := by decide +kernel
theorem dX8_needStanding_7 : decode cX8_needStanding 7 = .ok (.iload_n 1, 1) := by decide +kernel
theorem dX8_needStanding_8 : decode cX8_needStanding 8 = .ok (.invokestatic 149, 3) := by decide +kernel
theorem dX8_needStanding_11 : decode cX8_needStanding 11 = .ok (.ifCond .ne 13, 3) := by decide +kernel
theorem dX8_needStanding_14 : decode cX8_needStanding 14 = .ok (.new 84, 3) := by decide +kernel
theorem dX8_needStanding_17 : decode cX8_needStanding 17 = .ok (.dup, 1) := by decide +kernel
theorem dX8_needStanding_18 : decode cX8_needStanding 18 = .ok (.ldc 247, 2) := by decide +kernel
theorem dX8_needStanding_20 : decode cX8_needStanding 20 = .ok (.invokespecial 88, 3) := by decide +kernel
theorem dX8_needStanding_23 : decode cX8_needStanding 23 = .ok (.athrow, 1) := by decide +kernel
theorem dX8_needStanding_24 : decode cX8_needStanding 24 = .ok (.return_, 1) := by decide +kernel
theorem dX8_needClaim_0 : decode cX8_needClaim 0 = .ok (.iload_n 1, 1) := by decide +kernel
theorem dX8_needClaim_1 : decode cX8_needClaim 1 = .ok (.ifCond .lt 16, 3) := by decide +kernel
theorem dX8_needClaim_4 : decode cX8_needClaim 4 = .ok (.iload_n 1, 1) := by decide +kernel
theorem dX8_needClaim_5 : decode cX8_needClaim 5 = .ok (.iconst 2, 1) := by decide +kernel
theorem dX8_needClaim_6 : decode cX8_needClaim 6 = .ok (.aload_n 0, 1) := by decide +kernel
theorem dX8_needClaim_7 : decode cX8_needClaim 7 = .ok (.getfield 30, 3) := by decide +kernel
theorem dX8_needClaim_10 : decode cX8_needClaim 10 = .ok (.getfield 113, 3) := by decide +kernel
theorem dX8_needClaim_13 : decode cX8_needClaim 13 = .ok (.imul, 1) := by decide +kernel
theorem dX8_needClaim_14 : decode cX8_needClaim 14 = .ok (.if_icmp .lt 13, 3) := by decide +kernel
theorem dX8_needClaim_17 : decode cX8_needClaim 17 = .ok (.new 190, 3) := by decide +kernel
theorem dX8_needClaim_20 : decode cX8_needClaim 20 = .ok (.dup, 1) := by decide +kernel
theorem dX8_needClaim_21 : decode cX8_needClaim 21 = .ok (.ldc 249, 2) := by decide +kernel
theorem dX8_needClaim_23 : decode cX8_needClaim 23 = .ok (.invokespecial 194, 3) := by decide +kernel
theorem dX8_needClaim_26 : decode cX8_needClaim 26 = .ok (.athrow, 1) := by decide +kernel
theorem dX8_needClaim_27 : decode cX8_needClaim 27 = .ok (.return_, 1) := by decide +kernel
theorem dX8_needPeace_0 : decode cX8_needPeace 0 = .ok (.aload_n 0, 1) := by decide +kernel
theorem dX8_needPeace_1 : decode cX8_needPeace 1 = .ok (.getfield 54, 3) := by decide +kernel
theorem dX8_needPeace_4 : decode cX8_needPeace 4 = .ok (.aload_n 0, 1) := by decide +kernel
theorem dX8_needPeace_5 : decode cX8_needPeace 5 = .ok (.getfield 70, 3) := by decide +kernel
theorem dX8_needPeace_8 : decode cX8_needPeace 8 = .ok (.getfield 128, 3) := by decide +kernel
theorem dX8_needPeace_11 : decode cX8_needPeace 11 = .ok (.invokevirtual 156, 3) := by decide +kernel
theorem dX8_needPeace_14 : decode cX8_needPeace 14 = .ok (.ifCond .ne 13, 3) := by decide +kernel
theorem dX8_needPeace_17 : decode cX8_needPeace 17 = .ok (.new 84, 3) := by decide +kernel
theorem dX8_needPeace_20 : decode cX8_needPeace 20 = .ok (.dup, 1) := by decide +kernel
theorem dX8_needPeace_21 : decode cX8_needPeace 21 = .ok (.ldc 251, 2) := by decide +kernel
theorem dX8_needPeace_23 : decode cX8_needPeace 23 = .ok (.invokespecial 88, 3) := by decide +kernel
theorem dX8_needPeace_26 : decode cX8_needPeace 26 = .ok (.athrow, 1) := by decide +kernel
theorem dX8_needPeace_27 : decode cX8_needPeace 27 = .ok (.return_, 1) := by decide +kernel
theorem dX8_needDays_0 : decode cX8_needDays 0 = .ok (.iload_n 1, 1) := by decide +kernel
theorem dX8_needDays_1 : decode cX8_needDays 1 = .ok (.iconst 1, 1) := by decide +kernel
theorem dX8_needDays_2 : decode cX8_needDays 2 = .ok (.if_icmp .lt 9, 3) := by decide +kernel
theorem dX8_needDays_5 : decode cX8_needDays 5 = .ok (.iload_n 1, 1) := by decide +kernel
theorem dX8_needDays_6 : decode cX8_needDays 6 = .ok (.bipush 30, 2) := by decide +kernel
theorem dX8_needDays_8 : decode cX8_needDays 8 = .ok (.if_icmp .le 13, 3) := by decide +kernel
theorem dX8_needDays_11 : decode cX8_needDays 11 = .ok (.new 95, 3) := by decide +kernel
theorem dX8_needDays_14 : decode cX8_needDays 14 = .ok (.dup, 1) := by decide +kernel
theorem dX8_needDays_15 : decode cX8_needDays 15 = .ok (.ldc 253, 2) := by decide +kernel
theorem dX8_needDays_17 : decode cX8_needDays 17 = .ok (.invokespecial 99, 3) := by decide +kernel
theorem dX8_needDays_20 : decode cX8_needDays 20 = .ok (.athrow, 1) := by decide +kernel
theorem dX8_needDays_21 : decode cX8_needDays 21 = .ok (.return_, 1) := by decide +kernel
theorem dX8_has_0 : decode cX8_has 0 = .ok (.iload_n 0, 1) := by decide +kernel
theorem dX8_has_1 : decode cX8_has 1 = .ok (.iload_n 1, 1) := by decide +kernel
theorem dX8_has_2 : decode cX8_has 2 = .ok (.ishr, 1) := by decide +kernel
theorem dX8_has_3 : decode cX8_has 3 = .ok (.iconst 1, 1) := by decide +kernel
theorem dX8_has_4 : decode cX8_has 4 = .ok (.iand, 1) := by decide +kernel
theorem dX8_has_5 : decode cX8_has 5 = .ok (.ifCond .eq 7, 3) := by decide +kernel
theorem dX8_has_8 : decode cX8_has 8 = .ok (.iconst 1, 1) := by decide +kernel
theorem dX8_has_9 : decode cX8_has 9 = .ok (.goto 4, 3) := by decide +kernel
theorem dX8_has_12 : decode cX8_has 12 = .ok (.iconst 0, 1) := by decide +kernel
theorem dX8_has_13 : decode cX8_has 13 = .ok (.ireturn, 1) := by decide +kernel
theorem dX8_with_0 : decode cX8_with 0 = .ok (.iload_n 0, 1) := by decide +kernel
theorem dX8_with_1 : decode cX8_with 1 = .ok (.iconst 1, 1) := by decide +kernel
theorem dX8_with_2 : decode cX8_with 2 = .ok (.iload_n 1, 1) := by decide +kernel
theorem dX8_with_3 : decode cX8_with 3 = .ok (.ishl, 1) := by decide +kernel
theorem dX8_with_4 : decode cX8_with 4 = .ok (.ior, 1) := by decide +kernel
theorem dX8_with_5 : decode cX8_with 5 = .ok (.ireturn, 1) := by decide +kernel
theorem dX8_without_0 : decode cX8_without 0 = .ok (.iload_n 0, 1) := by decide +kernel
theorem dX8_without_1 : decode cX8_without 1 = .ok (.iconst 1, 1) := by decide +kernel
theorem dX8_without_2 : decode cX8_without 2 = .ok (.iload_n 1, 1) := by decide +kernel
theorem dX8_without_3 : decode cX8_without 3 = .ok (.ishl, 1) := by decide +kernel
theorem dX8_without_4 : decode cX8_without 4 = .ok (.iconst (-1), 1) := by decide +kernel
theorem dX8_without_5 : decode cX8_without 5 = .ok (.ixor, 1) := by decide +kernel
theorem dX8_without_6 : decode cX8_without 6 = .ok (.iand, 1) := by decide +kernel
theorem dX8_without_7 : decode cX8_without 7 = .ok (.ireturn, 1) := by decide +kernel
theorem dX8_lowest_0 : decode cX8_lowest 0 = .ok (.iconst 0, 1) := by decide +kernel
theorem dX8_lowest_1 : decode cX8_lowest 1 = .ok (.istore_n 1, 1) := by decide +kernel
theorem dX8_lowest_2 : decode cX8_lowest 2 = .ok (.iload_n 1, 1) := by decide +kernel
theorem dX8_lowest_3 : decode cX8_lowest 3 = .ok (.bipush 32, 2) := by decide +kernel
theorem dX8_lowest_5 : decode cX8_lowest 5 = .ok (.if_icmp .ge 19, 3) := by decide +kernel
theorem dX8_lowest_8 : decode cX8_lowest 8 = .ok (.iload_n 0, 1) := by decide +kernel
theorem dX8_lowest_9 : decode cX8_lowest 9 = .ok (.iload_n 1, 1) := by decide +kernel
theorem dX8_lowest_10 : decode cX8_lowest 10 = .ok (.invokestatic 149, 3) := by decide +kernel
theorem dX8_lowest_13 : decode cX8_lowest 13 = .ok (.ifCond .eq 5, 3) := by decide +kernel
theorem dX8_lowest_16 : decode cX8_lowest 16 = .ok (.iload_n 1, 1) := by decide +kernel
theorem dX8_lowest_17 : decode cX8_lowest 17 = .ok (.ireturn, 1) := by decide +kernel
theorem dX8_lowest_18 : decode cX8_lowest 18 = .ok (.iinc 1 1, 3) := by decide +kernel
theorem dX8_lowest_21 : decode cX8_lowest 21 = .ok (.goto (-19), 3) := by decide +kernel
theorem dX8_lowest_24 : decode cX8_lowest 24 = .ok (.iconst (-1), 1) := by decide +kernel
theorem dX8_lowest_25 : decode cX8_lowest 25 = .ok (.ireturn, 1) := by decide +kernel
theorem dX9_init_0 : decode cX9_init 0 = .ok (.aload_n 0, 1) := by decide +kernel
theorem dX9_init_1 : decode cX9_init 1 = .ok (.invokespecial 1, 3) := by decide +kernel
theorem dX9_init_4 : decode cX9_init 4 = .ok (.aload_n 0, 1) := by decide +kernel
theorem dX9_init_5 : decode cX9_init 5 = .ok (.iconst 0, 1) := by decide +kernel
theorem dX9_init_6 : decode cX9_init 6 = .ok (.anewarray 7, 3) := by decide +kernel
theorem dX9_init_9 : decode cX9_init 9 = .ok (.putfield 9, 3) := by decide +kernel
theorem dX9_init_12 : decode cX9_init 12 = .ok (.aload_n 0, 1) := by decide +kernel
theorem dX9_init_13 : decode cX9_init 13 = .ok (.iconst 0, 1) := by decide +kernel
theorem dX9_init_14 : decode cX9_init 14 = .ok (.anewarray 7, 3) := by decide +kernel
theorem dX9_init_17 : decode cX9_init 17 = .ok (.putfield 15, 3) := by decide +kernel
theorem dX9_init_20 : decode cX9_init 20 = .ok (.return_, 1) := by decide +kernel
theorem dX9_with_0 : decode cX9_with 0 = .ok (.aload_n 0, 1) := by decide +kernel
theorem dX9_with_1 : decode cX9_with 1 = .ok (.arraylength, 1) := by decide +kernel
theorem dX9_with_2 : decode cX9_with 2 = .ok (.iconst 1, 1) := by decide +kernel
theorem dX9_with_3 : decode cX9_with 3 = .ok (.iadd, 1) := by decide +kernel
theorem dX9_with_4 : decode cX9_with 4 = .ok (.anewarray 7, 3) := by decide +kernel
theorem dX9_with_7 : decode cX9_with 7 = .ok (.astore_n 2, 1) := by decide +kernel
theorem dX9_with_8 : decode cX9_with 8 = .ok (.iconst 0, 1) := by decide +kernel
theorem dX9_with_9 : decode cX9_with 9 = .ok (.istore_n 3, 1) := by decide +kernel
theorem dX9_with_10 : decode cX9_with 10 = .ok (.iload_n 3, 1) := by decide +kernel
theorem dX9_with_11 : decode cX9_with 11 = .ok (.aload_n 0, 1) := by decide +kernel
theorem dX9_with_12 : decode cX9_with 12 = .ok (.arraylength, 1) := by decide +kernel
theorem dX9_with_13 : decode cX9_with 13 = .ok (.if_icmp .ge 15, 3) := by decide +kernel
theorem dX9_with_16 : decode cX9_with 16 = .ok (.aload_n 2, 1) := by decide +kernel
theorem dX9_with_17 : decode cX9_with 17 = .ok (.iload_n 3, 1) := by decide +kernel
theorem dX9_with_18 : decode cX9_with 18 = .ok (.aload_n 0, 1) := by decide +kernel
theorem dX9_with_19 : decode cX9_with 19 = .ok (.iload_n 3, 1) := by decide +kernel
theorem dX9_with_20 : decode cX9_with 20 = .ok (.aaload, 1) := by decide +kernel
theorem dX9_with_21 : decode cX9_with 21 = .ok (.aastore, 1) := by decide +kernel
theorem dX9_with_22 : decode cX9_with 22 = .ok (.iinc 3 1, 3) := by decide +kernel
theorem dX9_with_25 : decode cX9_with 25 = .ok (.goto (-15), 3) := by decide +kernel
theorem dX9_with_28 : decode cX9_with 28 = .ok (.aload_n 2, 1) := by decide +kernel
theorem dX9_with_29 : decode cX9_with 29 = .ok (.aload_n 0, 1) := by decide +kernel
theorem dX9_with_30 : decode cX9_with 30 = .ok (.arraylength, 1) := by decide +kernel
theorem dX9_with_31 : decode cX9_with 31 = .ok (.aload_n 1, 1) := by decide +kernel
theorem dX9_with_32 : decode cX9_with 32 = .ok (.aastore, 1) := by decide +kernel
theorem dX9_with_33 : decode cX9_with 33 = .ok (.aload_n 2, 1) := by decide +kernel
theorem dX9_with_34 : decode cX9_with 34 = .ok (.areturn, 1) := by decide +kernel
theorem dX9_standing_0 : decode cX9_standing 0 = .ok (.iconst 0, 1) := by decide +kernel
theorem dX9_standing_1 : decode cX9_standing 1 = .ok (.istore_n 1, 1) := by decide +kernel
theorem dX9_standing_2 : decode cX9_standing 2 = .ok (.aload_n 0, 1) := by decide +kernel
theorem dX9_standing_3 : decode cX9_standing 3 = .ok (.getfield 9, 3) := by decide +kernel
theorem dX9_standing_6 : decode cX9_standing 6 = .ok (.astore_n 2, 1) := by decide +kernel
theorem dX9_standing_7 : decode cX9_standing 7 = .ok (.aload_n 2, 1) := by decide +kernel
theorem dX9_standing_8 : decode cX9_standing 8 = .ok (.arraylength, 1) := by decide +kernel
theorem dX9_standing_9 : decode cX9_standing 9 = .ok (.istore_n 3, 1) := by decide +kernel
theorem dX9_standing_10 : decode cX9_standing 10 = .ok (.iconst 0, 1) := by decide +kernel
theorem dX9_standing_11 : decode cX9_standing 11 = .ok (.istore 4, 2) := by decide +kernel
theorem dX9_standing_13 : decode cX9_standing 13 = .ok (.iload 4, 2) := by decide +kernel
theorem dX9_standing_15 : decode cX9_standing 15 = .ok (.iload_n 3, 1) := by decide +kernel
theorem dX9_standing_16 : decode cX9_standing 16 = .ok (.if_icmp .ge 22, 3) := by decide +kernel
theorem dX9_standing_19 : decode cX9_standing 19 = .ok (.aload_n 2, 1) := by decide +kernel
theorem dX9_standing_20 : decode cX9_standing 20 = .ok (.iload 4, 2) := by decide +kernel
theorem dX9_standing_22 : decode cX9_standing 22 = .ok (.aaload, 1) := by decide +kernel
theorem dX9_standing_23 : decode cX9_standing 23 = .ok (.astore 5, 2) := by decide +kernel
theorem dX9_standing_25 : decode cX9_standing 25 = .ok (.iload_n 1, 1) := by decide +kernel
theorem dX9_standing_26 : decode cX9_standing 26 = .ok (.aload 5, 2) := by decide +kernel
theorem dX9_standing_28 : decode cX9_standing 28 = .ok (.iconst 3, 1) := by decide +kernel
theorem dX9_standing_29 : decode cX9_standing 29 = .ok (.iaload, 1) := by decide +kernel
theorem dX9_standing_30 : decode cX9_standing 30 = .ok (.iadd, 1) := by decide +kernel
theorem dX9_standing_31 : decode cX9_standing 31 = .ok (.istore_n 1, 1) := by decide +kernel
theorem dX9_standing_32 : decode cX9_standing 32 = .ok (.iinc 4 1, 3) := by decide +kernel
theorem dX9_standing_35 : decode cX9_standing 35 = .ok (.goto (-22), 3) := by decide +kernel
theorem dX9_standing_38 : decode cX9_standing 38 = .ok (.iload_n 1, 1) := by decide +kernel
theorem dX9_standing_39 : decode cX9_standing 39 = .ok (.ireturn, 1) := by decide +kernel
theorem dX9_holds_0 : decode cX9_holds 0 = .ok (.aload_n 0, 1) := by decide +kernel
theorem dX9_holds_1 : decode cX9_holds 1 = .ok (.iload_n 1, 1) := by decide +kernel
theorem dX9_holds_2 : decode cX9_holds 2 = .ok (.iconst 2, 1) := by decide +kernel
theorem dX9_holds_3 : decode cX9_holds 3 = .ok (.idiv, 1) := by decide +kernel
theorem dX9_holds_4 : decode cX9_holds 4 = .ok (.iaload, 1) := by decide +kernel
theorem dX9_holds_5 : decode cX9_holds 5 = .ok (.iload_n 1, 1) := by decide +kernel
theorem dX9_holds_6 : decode cX9_holds 6 = .ok (.iconst 2, 1) := by decide +kernel
theorem dX9_holds_7 : decode cX9_holds 7 = .ok (.irem, 1) := by decide +kernel
theorem dX9_holds_8 : decode cX9_holds 8 = .ok (.if_icmp .ne 7, 3) := by decide +kernel
theorem dX9_holds_11 : decode cX9_holds 11 = .ok (.iconst 1, 1) := by decide +kernel
theorem dX9_holds_12 : decode cX9_holds 12 = .ok (.goto 4, 3) := by decide +kernel
theorem dX9_holds_15 : decode cX9_holds 15 = .ok (.iconst 0, 1) := by decide +kernel
theorem dX9_holds_16 : decode cX9_holds 16 = .ok (.ireturn, 1) := by decide +kernel
theorem dX9_isKept_0 : decode cX9_isKept 0 = .ok (.aload_n 1, 1) := by decide +kernel
theorem dX9_isKept_1 : decode cX9_isKept 1 = .ok (.iconst 3, 1) := by decide +kernel
theorem dX9_isKept_2 : decode cX9_isKept 2 = .ok (.iaload, 1) := by decide +kernel
theorem dX9_isKept_3 : decode cX9_isKept 3 = .ok (.ifCond .ne 5, 3) := by decide +kernel
theorem dX9_isKept_6 : decode cX9_isKept 6 = .ok (.iconst 1, 1) := by decide +kernel
theorem dX9_isKept_7 : decode cX9_isKept 7 = .ok (.ireturn, 1) := by decide +kernel
theorem dX9_isKept_8 : decode cX9_isKept 8 = .ok (.aload_n 2, 1) := by decide +kernel
theorem dX9_isKept_9 : decode cX9_isKept 9 = .ok (.aload_n 1, 1) := by decide +kernel
theorem dX9_isKept_10 : decode cX9_isKept 10 = .ok (.iconst 1, 1) := by decide +kernel
theorem dX9_isKept_11 : decode cX9_isKept 11 = .ok (.iaload, 1) := by decide +kernel
theorem dX9_isKept_12 : decode cX9_isKept 12 = .ok (.invokestatic 37, 3) := by decide +kernel
theorem dX9_isKept_15 : decode cX9_isKept 15 = .ok (.istore_n 3, 1) := by decide +kernel
theorem dX9_isKept_16 : decode cX9_isKept 16 = .ok (.aload_n 2, 1) := by decide +kernel
theorem dX9_isKept_17 : decode cX9_isKept 17 = .ok (.aload_n 1, 1) := by decide +kernel
theorem dX9_isKept_18 : decode cX9_isKept 18 = .ok (.iconst 2, 1) := by decide +kernel
theorem dX9_isKept_19 : decode cX9_isKept 19 = .ok (.iaload, 1) := by decide +kernel
theorem dX9_isKept_20 : decode cX9_isKept 20 = .ok (.invokestatic 37, 3) := by decide +kernel
theorem dX9_isKept_23 : decode cX9_isKept 23 = .ok (.istore 4, 2) := by decide +kernel
theorem dX9_isKept_25 : decode cX9_isKept 25 = .ok (.aload_n 1, 1) := by decide +kernel
theorem dX9_isKept_26 : decode cX9_isKept 26 = .ok (.iconst 0, 1) := by decide +kernel
theorem dX9_isKept_27 : decode cX9_isKept 27 = .ok (.iaload, 1) := by decide +kernel
theorem dX9_isKept_28 : decode cX9_isKept 28 = .ok (.ifCond .ne 20, 3) := by decide +kernel
theorem dX9_isKept_31 : decode cX9_isKept 31 = .ok (.iload_n 3, 1) := by decide +kernel
theorem dX9_isKept_32 : decode cX9_isKept 32 = .ok (.ifCond .eq 8, 3) := by decide +kernel
theorem dX9_isKept_35 : decode cX9_isKept 35 = .ok (.iload 4, 2) := by decide +kernel
theorem dX9_isKept_37 : decode cX9_isKept 37 = .ok (.ifCond .eq 7, 3) := by decide +kernel
theorem dX9_isKept_40 : decode cX9_isKept 40 = .ok (.iconst 1, 1) := by decide +kernel
theorem dX9_isKept_41 : decode cX9_isKept 41 = .ok (.goto 56, 3) := by decide +kernel
theorem dX9_isKept_44 : decode cX9_isKept 44 = .ok (.iconst 0, 1) := by decide +kernel
theorem dX9_isKept_45 : decode cX9_isKept 45 = .ok (.goto 52, 3) := by decide +kernel
theorem dX9_isKept_48 : decode cX9_isKept 48 = .ok (.aload_n 1, 1) := by decide +kernel
theorem dX9_isKept_49 : decode cX9_isKept 49 = .ok (.iconst 0, 1) := by decide +kernel
theorem dX9_isKept_50 : decode cX9_isKept 50 = .ok (.iaload, 1) := by decide +kernel
theorem dX9_isKept_51 : decode cX9_isKept 51 = .ok (.iconst 1, 1) := by decide +kernel
theorem dX9_isKept_52 : decode cX9_isKept 52 = .ok (.if_icmp .ne 20, 3) := by decide +kernel
theorem dX9_isKept_55 : decode cX9_isKept 55 = .ok (.iload_n 3, 1) := by decide +kernel
theorem dX9_isKept_56 : decode cX9_isKept 56 = .ok (.ifCond .ne 8, 3) := by decide +kernel
theorem dX9_isKept_59 : decode cX9_isKept 59 = .ok (.iload 4, 2) := by decide +kernel
theorem dX9_isKept_61 : decode cX9_isKept 61 = .ok (.ifCond .eq 7, 3) := by decide +kernel
theorem dX9_isKept_64 : decode cX9_isKept 64 = .ok (.iconst 1, 1) := by decide +kernel
theorem dX9_isKept_65 : decode cX9_isKept 65 = .ok (.goto 32, 3) := by decide +kernel
theorem dX9_isKept_68 : decode cX9_isKept 68 = .ok (.iconst 0, 1) := by decide +kernel
theorem dX9_isKept_69 : decode cX9_isKept 69 = .ok (.goto 28, 3) := by decide +kernel
theorem dX9_isKept_72 : decode cX9_isKept 72 = .ok (.aload_n 1, 1) := by decide +kernel
theorem dX9_isKept_73 : decode cX9_isKept 73 = .ok (.iconst 0, 1) := by decide +kernel
theorem dX9_isKept_74 : decode cX9_isKept 74 = .ok (.iaload, 1) := by decide +kernel
theorem dX9_isKept_75 : decode cX9_isKept 75 = .ok (.iconst 2, 1) := by decide +kernel
theorem dX9_isKept_76 : decode cX9_isKept 76 = .ok (.if_icmp .ne 20, 3) := by decide +kernel
theorem dX9_isKept_79 : decode cX9_isKept 79 = .ok (.iload_n 3, 1) := by decide +kernel
theorem dX9_isKept_80 : decode cX9_isKept 80 = .ok (.ifCond .eq 8, 3) := by decide +kernel
theorem dX9_isKept_83 : decode cX9_isKept 83 = .ok (.iload 4, 2) := by decide +kernel
theorem dX9_isKept_85 : decode cX9_isKept 85 = .ok (.ifCond .ne 7, 3) := by decide +kernel
theorem dX9_isKept_88 : decode cX9_isKept 88 = .ok (.iconst 1, 1) := by decide +kernel
theorem dX9_isKept_89 : decode cX9_isKept 89 = .ok (.goto 8, 3) := by decide +kernel
theorem dX9_isKept_92 : decode cX9_isKept 92 = .ok (.iconst 0, 1) := by decide +kernel
theorem dX9_isKept_93 : decode cX9_isKept 93 = .ok (.goto 4, 3) := by decide +kernel
theorem dX9_isKept_96 : decode cX9_isKept 96 = .ok (.iload_n 3, 1) := by decide +kernel
theorem dX9_isKept_97 : decode cX9_isKept 97 = .ok (.ireturn, 1) := by decide +kernel
theorem dX9_count_0 : decode cX9_count 0 = .ok (.aload_n 0, 1) := by decide +kernel
theorem dX9_count_1 : decode cX9_count 1 = .ok (.getfield 9, 3) := by decide +kernel
theorem dX9_count_4 : decode cX9_count 4 = .ok (.astore 5, 2) := by decide +kernel
theorem dX9_count_6 : decode cX9_count 6 = .ok (.aload 5, 2) := by decide +kernel
theorem dX9_count_8 : decode cX9_count 8 = .ok (.arraylength, 1) := by decide +kernel
theorem dX9_count_9 : decode cX9_count 9 = .ok (.istore 6, 2) := by decide +kernel
theorem dX9_count_11 : decode cX9_count 11 = .ok (.iconst 0, 1) := by decide +kernel
theorem dX9_count_12 : decode cX9_count 12 = .ok (.istore 7, 2) := by decide +kernel
theorem dX9_count_14 : decode cX9_count 14 = .ok (.iload 7, 2) := by decide +kernel
theorem dX9_count_16 : decode cX9_count 16 = .ok (.iload 6, 2) := by decide +kernel
theorem dX9_count_18 : decode cX9_count 18 = .ok (.if_icmp .ge 47, 3) := by decide +kernel
theorem dX9_count_21 : decode cX9_count 21 = .ok (.aload 5, 2) := by decide +kernel
theorem dX9_count_23 : decode cX9_count 23 = .ok (.iload 7, 2) := by decide +kernel
theorem dX9_count_25 : decode cX9_count 25 = .ok (.aaload, 1) := by decide +kernel
theorem dX9_count_26 : decode cX9_count 26 = .ok (.astore 8, 2) := by decide +kernel
theorem dX9_count_28 : decode cX9_count 28 = .ok (.aload 8, 2) := by decide +kernel
theorem dX9_count_30 : decode cX9_count 30 = .ok (.iconst 1, 1) := by decide +kernel
theorem dX9_count_31 : decode cX9_count 31 = .ok (.iaload, 1) := by decide +kernel
theorem dX9_count_32 : decode cX9_count 32 = .ok (.iconst 2, 1) := by decide +kernel
theorem dX9_count_33 : decode cX9_count 33 = .ok (.idiv, 1) := by decide +kernel
theorem dX9_count_34 : decode cX9_count 34 = .ok (.iload_n 2, 1) := by decide +kernel
theorem dX9_count_35 : decode cX9_count 35 = .ok (.if_icmp .ge 24, 3) := by decide +kernel
theorem dX9_count_38 : decode cX9_count 38 = .ok (.aload 8, 2) := by decide +kernel
theorem dX9_count_40 : decode cX9_count 40 = .ok (.iconst 2, 1) := by decide +kernel
theorem dX9_count_41 : decode cX9_count 41 = .ok (.iaload, 1) := by decide +kernel
theorem dX9_count_42 : decode cX9_count 42 = .ok (.iconst 2, 1) := by decide +kernel
theorem dX9_count_43 : decode cX9_count 43 = .ok (.idiv, 1) := by decide +kernel
theorem dX9_count_44 : decode cX9_count 44 = .ok (.iload_n 2, 1) := by decide +kernel
theorem dX9_count_45 : decode cX9_count 45 = .ok (.if_icmp .ge 14, 3) := by decide +kernel
theorem dX9_count_48 : decode cX9_count 48 = .ok (.aload_n 0, 1) := by decide +kernel
theorem dX9_count_49 : decode cX9_count 49 = .ok (.aload 8, 2) := by decide +kernel
theorem dX9_count_51 : decode cX9_count 51 = .ok (.aload_n 1, 1) := by decide +kernel
theorem dX9_count_52 : decode cX9_count 52 = .ok (.invokevirtual 41, 3) := by decide +kernel
theorem dX9_count_55 : decode cX9_count 55 = .ok (.ifCond .ne 4, 3) := by decide +kernel
theorem dX9_count_58 : decode cX9_count 58 = .ok (.return_, 1) := by decide +kernel
theorem dX9_count_59 : decode cX9_count 59 = .ok (.iinc 7 1, 3) := by decide +kernel
theorem dX9_count_62 : decode cX9_count 62 = .ok (.goto (-48), 3) := by decide +kernel
theorem dX9_count_65 : decode cX9_count 65 = .ok (.iload_n 2, 1) := by decide +kernel
theorem dX9_count_66 : decode cX9_count 66 = .ok (.aload_n 0, 1) := by decide +kernel
theorem dX9_count_67 : decode cX9_count 67 = .ok (.getfield 19, 3) := by decide +kernel
theorem dX9_count_70 : decode cX9_count 70 = .ok (.if_icmp .ge 35, 3) := by decide +kernel
theorem dX9_count_73 : decode cX9_count 73 = .ok (.iconst 0, 1) := by decide +kernel
theorem dX9_count_74 : decode cX9_count 74 = .ok (.istore 5, 2) := by decide +kernel
theorem dX9_count_76 : decode cX9_count 76 = .ok (.iload 5, 2) := by decide +kernel
theorem dX9_count_78 : decode cX9_count 78 = .ok (.iconst 2, 1) := by decide +kernel
theorem dX9_count_79 : decode cX9_count 79 = .ok (.if_icmp .ge 25, 3) := by decide +kernel
theorem dX9_count_82 : decode cX9_count 82 = .ok (.aload_n 1, 1) := by decide +kernel
theorem dX9_count_83 : decode cX9_count 83 = .ok (.iload_n 2, 1) := by decide +kernel
theorem dX9_count_84 : decode cX9_count 84 = .ok (.iload 5, 2) := by decide +kernel
theorem dX9_count_86 : decode cX9_count 86 = .ok (.iastore, 1) := by decide +kernel
theorem dX9_count_87 : decode cX9_count 87 = .ok (.aload_n 0, 1) := by decide +kernel
theorem dX9_count_88 : decode cX9_count 88 = .ok (.aload_n 1, 1) := by decide +kernel
theorem dX9_count_89 : decode cX9_count 89 = .ok (.iload_n 2, 1) := by decide +kernel
theorem dX9_count_90 : decode cX9_count 90 = .ok (.iconst 1, 1) := by decide +kernel
theorem dX9_count_91 : decode cX9_count 91 = .ok (.iadd, 1) := by decide +kernel
theorem dX9_count_92 : decode cX9_count 92 = .ok (.aload_n 3, 1) := by decide +kernel
theorem dX9_count_93 : decode cX9_count 93 = .ok (.aload 4, 2) := by decide +kernel
theorem dX9_count_95 : decode cX9_count 95 = .ok (.invokevirtual 45, 3) := by decide +kernel
theorem dX9_count_98 : decode cX9_count 98 = .ok (.iinc 5 1, 3) := by decide +kernel
theorem dX9_count_101 : decode cX9_count 101 = .ok (.goto (-25), 3) := by decide +kernel
theorem dX9_count_104 : decode cX9_count 104 = .ok (.return_, 1) := by decide +kernel
theorem dX9_count_105 : decode cX9_count 105 = .ok (.aload_n 3, 1) := by decide +kernel
theorem dX9_count_106 : decode cX9_count 106 = .ok (.iconst 0, 1) := by decide +kernel
theorem dX9_count_107 : decode cX9_count 107 = .ok (.iaload, 1) := by decide +kernel
theorem dX9_count_108 : decode cX9_count 108 = .ok (.ifCond .ne 30, 3) := by decide +kernel
theorem dX9_count_111 : decode cX9_count 111 = .ok (.iconst 0, 1) := by decide +kernel
theorem dX9_count_112 : decode cX9_count 112 = .ok (.istore 5, 2) := by decide +kernel
theorem dX9_count_114 : decode cX9_count 114 = .ok (.iload 5, 2) := by decide +kernel
theorem dX9_count_116 : decode cX9_count 116 = .ok (.aload_n 0, 1) := by decide +kernel
theorem dX9_count_117 : decode cX9_count 117 = .ok (.getfield 19, 3) := by decide +kernel
theorem dX9_count_120 : decode cX9_count 120 = .ok (.if_icmp .ge 18, 3) := by decide +kernel
theorem dX9_count_123 : decode cX9_count 123 = .ok (.aload 4, 2) := by decide +kernel
theorem dX9_count_125 : decode cX9_count 125 = .ok (.iload 5, 2) := by decide +kernel
theorem dX9_count_127 : decode cX9_count 127 = .ok (.aload_n 1, 1) := by decide +kernel
theorem dX9_count_128 : decode cX9_count 128 = .ok (.iload 5, 2) := by decide +kernel
theorem dX9_count_130 : decode cX9_count 130 = .ok (.iaload, 1) := by decide +kernel
theorem dX9_count_131 : decode cX9_count 131 = .ok (.iastore, 1) := by decide +kernel
theorem dX9_count_132 : decode cX9_count 132 = .ok (.iinc 5 1, 3) := by decide +kernel
theorem dX9_count_135 : decode cX9_count 135 = .ok (.goto (-21), 3) := by decide +kernel
theorem dX9_count_138 : decode cX9_count 138 = .ok (.aload_n 3, 1) := by decide +kernel
theorem dX9_count_139 : decode cX9_count 139 = .ok (.iconst 0, 1) := by decide +kernel
theorem dX9_count_140 : decode cX9_count 140 = .ok (.dup2, 1) := by decide +kernel
theorem dX9_count_141 : decode cX9_count 141 = .ok (.iaload, 1) := by decide +kernel
theorem dX9_count_142 : decode cX9_count 142 = .ok (.iconst 1, 1) := by decide +kernel
theorem dX9_count_143 : decode cX9_count 143 = .ok (.iadd, 1) := by decide +kernel
theorem dX9_count_144 : decode cX9_count 144 = .ok (.iastore, 1) := by decide +kernel
theorem dX9_count_145 : decode cX9_count 145 = .ok (.iconst 0, 1) := by decide +kernel
theorem dX9_count_146 : decode cX9_count 146 = .ok (.istore 5, 2) := by decide +kernel
theorem dX9_count_148 : decode cX9_count 148 = .ok (.iload 5, 2) := by decide +kernel
theorem dX9_count_150 : decode cX9_count 150 = .ok (.aload_n 0, 1) := by decide +kernel
theorem dX9_count_151 : decode cX9_count 151 = .ok (.getfield 19, 3) := by decide +kernel
theorem dX9_count_154 : decode cX9_count 154 = .ok (.if_icmp .ge 38, 3) := by decide +kernel
theorem dX9_count_157 : decode cX9_count 157 = .ok (.aload_n 3, 1) := by decide +kernel
theorem dX9_count_158 : decode cX9_count 158 = .ok (.iconst 1, 1) := by decide +kernel
theorem dX9_count_159 : decode cX9_count 159 = .ok (.dup2, 1) := by decide +kernel
theorem dX9_count_160 : decode cX9_count 160 = .ok (.iaload, 1) := by decide +kernel
theorem dX9_count_161 : decode cX9_count 161 = .ok (.iconst 1, 1) := by decide +kernel
theorem dX9_count_162 : decode cX9_count 162 = .ok (.aload_n 1, 1) := by decide +kernel
theorem dX9_count_163 : decode cX9_count 163 = .ok (.iload 5, 2) := by decide +kernel
theorem dX9_count_165 : decode cX9_count 165 = .ok (.iaload, 1) := by decide +kernel
theorem dX9_count_166 : decode cX9_count 166 = .ok (.isub, 1) := by decide +kernel
theorem dX9_count_167 : decode cX9_count 167 = .ok (.iadd, 1) := by decide +kernel
theorem dX9_count_168 : decode cX9_count 168 = .ok (.iastore, 1) := by decide +kernel
theorem dX9_count_169 : decode cX9_count 169 = .ok (.aload_n 3, 1) := by decide +kernel
theorem dX9_count_170 : decode cX9_count 170 = .ok (.iconst 2, 1) := by decide +kernel
theorem dX9_count_171 : decode cX9_count 171 = .ok (.iconst 2, 1) := by decide +kernel
theorem dX9_count_172 : decode cX9_count 172 = .ok (.iload 5, 2) := by decide +kernel
theorem dX9_count_174 : decode cX9_count 174 = .ok (.imul, 1) := by decide +kernel
theorem dX9_count_175 : decode cX9_count 175 = .ok (.iadd, 1) := by decide +kernel
theorem dX9_count_176 : decode cX9_count 176 = .ok (.aload_n 1, 1) := by decide +kernel
theorem dX9_count_177 : decode cX9_count 177 = .ok (.iload 5, 2) := by decide +kernel
theorem dX9_count_179 : decode cX9_count 179 = .ok (.iaload, 1) := by decide +kernel
theorem dX9_count_180 : decode cX9_count 180 = .ok (.iadd, 1) := by decide +kernel
theorem dX9_count_181 : decode cX9_count 181 = .ok (.dup2, 1) := by decide +kernel
theorem dX9_count_182 : decode cX9_count 182 = .ok (.iaload, 1) := by decide +kernel
theorem dX9_count_183 : decode cX9_count 183 = .ok (.iconst 1, 1) := by decide +kernel
theorem dX9_count_184 : decode cX9_count 184 = .ok (.iadd, 1) := by decide +kernel
theorem dX9_count_185 : decode cX9_count 185 = .ok (.iastore, 1) := by decide +kernel
theorem dX9_count_186 : decode cX9_count 186 = .ok (.iinc 5 1, 3) := by decide +kernel
theorem dX9_count_189 : decode cX9_count 189 = .ok (.goto (-41), 3) := by decide +kernel
theorem dX9_count_192 : decode cX9_count 192 = .ok (.return_, 1) := by decide +kernel
theorem dX9_peaces_0 : decode cX9_peaces 0 = .ok (.iconst 2, 1) := by decide +kernel
theorem dX9_peaces_1 : decode cX9_peaces 1 = .ok (.iconst 2, 1) := by decide +kernel
theorem dX9_peaces_2 : decode cX9_peaces 2 = .ok (.aload_n 0, 1) := by decide +kernel
theorem dX9_peaces_3 : decode cX9_peaces 3 = .ok (.getfield 19, 3) := by decide +kernel
theorem dX9_peaces_6 : decode cX9_peaces 6 = .ok (.imul, 1) := by decide +kernel
theorem dX9_peaces_7 : decode cX9_peaces 7 = .ok (.iadd, 1) := by decide +kernel
theorem dX9_peaces_8 : decode cX9_peaces 8 = .ok (.newarray .int, 2) := by decide +kernel
theorem dX9_peaces_10 : decode cX9_peaces 10 = .ok (.astore_n 2, 1) := by decide +kernel
theorem dX9_peaces_11 : decode cX9_peaces 11 = .ok (.aload_n 0, 1) := by decide +kernel
theorem dX9_peaces_12 : decode cX9_peaces 12 = .ok (.aload_n 0, 1) := by decide +kernel
theorem dX9_peaces_13 : decode cX9_peaces 13 = .ok (.getfield 19, 3) := by decide +kernel
theorem dX9_peaces_16 : decode cX9_peaces 16 = .ok (.newarray .int, 2) := by decide +kernel
theorem dX9_peaces_18 : decode cX9_peaces 18 = .ok (.iconst 0, 1) := by decide +kernel
theorem dX9_peaces_19 : decode cX9_peaces 19 = .ok (.aload_n 2, 1) := by decide +kernel
theorem dX9_peaces_20 : decode cX9_peaces 20 = .ok (.aload_n 1, 1) := by decide +kernel
theorem dX9_peaces_21 : decode cX9_peaces 21 = .ok (.invokevirtual 45, 3) := by decide +kernel
theorem dX9_peaces_24 : decode cX9_peaces 24 = .ok (.aload_n 2, 1) := by decide +kernel
theorem dX9_peaces_25 : decode cX9_peaces 25 = .ok (.areturn, 1) := by decide +kernel
theorem dX9_peaces__0 : decode cX9_peaces_ 0 = .ok (.aload_n 0, 1) := by decide +kernel
theorem dX9_peaces__1 : decode cX9_peaces_ 1 = .ok (.aload_n 0, 1) := by decide +kernel
theorem dX9_peaces__2 : decode cX9_peaces_ 2 = .ok (.getfield 19, 3) := by decide +kernel
theorem dX9_peaces__5 : decode cX9_peaces_ 5 = .ok (.newarray .int, 2) := by decide +kernel
theorem dX9_peaces__7 : decode cX9_peaces_ 7 = .ok (.invokevirtual 49, 3) := by decide +kernel
theorem dX9_peaces__10 : decode cX9_peaces_ 10 = .ok (.iconst 0, 1) := by decide +kernel
theorem dX9_peaces__11 : decode cX9_peaces_ 11 = .ok (.iaload, 1) := by decide +kernel
theorem dX9_peaces__12 : decode cX9_peaces_ 12 = .ok (.ireturn, 1) := by decide +kernel
theorem dX9_from_0 : decode cX9_from 0 = .ok (.iconst 2, 1) := by decide +kernel
theorem dX9_from_1 : decode cX9_from 1 = .ok (.aload_n 0, 1) := by decide +kernel
theorem dX9_from_2 : decode cX9_from 2 = .ok (.getfield 19, 3) := by decide +kernel
theorem dX9_from_5 : decode cX9_from 5 = .ok (.imul, 1) := by decide +kernel
theorem dX9_from_6 : decode cX9_from 6 = .ok (.newarray .int, 2) := by decide +kernel
theorem dX9_from_8 : decode cX9_from 8 = .ok (.astore_n 2, 1) := by decide +kernel
theorem dX9_from_9 : decode cX9_from 9 = .ok (.iconst 0, 1) := by decide +kernel
theorem dX9_from_10 : decode cX9_from 10 = .ok (.istore_n 3, 1) := by decide +kernel
theorem dX9_from_11 : decode cX9_from 11 = .ok (.iload_n 3, 1) := by decide +kernel
theorem dX9_from_12 : decode cX9_from 12 = .ok (.aload_n 2, 1) := by decide +kernel
theorem dX9_from_13 : decode cX9_from 13 = .ok (.arraylength, 1) := by decide +kernel
theorem dX9_from_14 : decode cX9_from 14 = .ok (.if_icmp .ge 24, 3) := by decide +kernel
theorem dX9_from_17 : decode cX9_from 17 = .ok (.aload_n 2, 1) := by decide +kernel
theorem dX9_from_18 : decode cX9_from 18 = .ok (.iload_n 3, 1) := by decide +kernel
theorem dX9_from_19 : decode cX9_from 19 = .ok (.iload_n 3, 1) := by decide +kernel
theorem dX9_from_20 : decode cX9_from 20 = .ok (.iload_n 1, 1) := by decide +kernel
theorem dX9_from_21 : decode cX9_from 21 = .ok (.if_icmp .ne 7, 3) := by decide +kernel
theorem dX9_from_24 : decode cX9_from 24 = .ok (.iconst 0, 1) := by decide +kernel
theorem dX9_from_25 : decode cX9_from 25 = .ok (.goto 6, 3) := by decide +kernel
theorem dX9_from_28 : decode cX9_from 28 = .ok (.sipush 999, 3) := by decide +kernel
theorem dX9_from_31 : decode cX9_from 31 = .ok (.iastore, 1) := by decide +kernel
theorem dX9_from_32 : decode cX9_from 32 = .ok (.iinc 3 1, 3) := by decide +kernel
theorem dX9_from_35 : decode cX9_from 35 = .ok (.goto (-24), 3) := by decide +kernel
theorem dX9_from_38 : decode cX9_from 38 = .ok (.iconst 0, 1) := by decide +kernel
theorem dX9_from_39 : decode cX9_from 39 = .ok (.istore_n 3, 1) := by decide +kernel
theorem dX9_from_40 : decode cX9_from 40 = .ok (.iload_n 3, 1) := by decide +kernel
theorem dX9_from_41 : decode cX9_from 41 = .ok (.aload_n 2, 1) := by decide +kernel
theorem dX9_from_42 : decode cX9_from 42 = .ok (.arraylength, 1) := by decide +kernel
theorem dX9_from_43 : decode cX9_from 43 = .ok (.if_icmp .ge 151, 3) := by decide +kernel
theorem dX9_from_46 : decode cX9_from 46 = .ok (.aload_n 0, 1) := by decide +kernel
theorem dX9_from_47 : decode cX9_from 47 = .ok (.getfield 9, 3) := by decide +kernel
theorem dX9_from_50 : decode cX9_from 50 = .ok (.astore 4, 2) := by decide +kernel
theorem dX9_from_52 : decode cX9_from 52 = .ok (.aload 4, 2) := by decide +kernel
theorem dX9_from_54 : decode cX9_from 54 = .ok (.arraylength, 1) := by decide +kernel
theorem dX9_from_55 : decode cX9_from 55 = .ok (.istore 5, 2) := by decide +kernel
theorem dX9_from_57 : decode cX9_from 57 = .ok (.iconst 0, 1) := by decide +kernel
theorem dX9_from_58 : decode cX9_from 58 = .ok (.istore 6, 2) := by decide +kernel
theorem dX9_from_60 : decode cX9_from 60 = .ok (.iload 6, 2) := by decide +kernel
theorem dX9_from_62 : decode cX9_from 62 = .ok (.iload 5, 2) := by decide +kernel
theorem dX9_from_64 : decode cX9_from 64 = .ok (.if_icmp .ge 124, 3) := by decide +kernel
theorem dX9_from_67 : decode cX9_from 67 = .ok (.aload 4, 2) := by decide +kernel
theorem dX9_from_69 : decode cX9_from 69 = .ok (.iload 6, 2) := by decide +kernel
theorem dX9_from_71 : decode cX9_from 71 = .ok (.aaload, 1) := by decide +kernel
theorem dX9_from_72 : decode cX9_from 72 = .ok (.astore 7, 2) := by decide +kernel
theorem dX9_from_74 : decode cX9_from 74 = .ok (.aload 7, 2) := by decide +kernel
theorem dX9_from_76 : decode cX9_from 76 = .ok (.iconst 3, 1) := by decide +kernel
theorem dX9_from_77 : decode cX9_from 77 = .ok (.iaload, 1) := by decide +kernel
theorem dX9_from_78 : decode cX9_from 78 = .ok (.ifCond .ne 6, 3) := by decide +kernel
theorem dX9_from_81 : decode cX9_from 81 = .ok (.goto 101, 3) := by decide +kernel
theorem dX9_from_84 : decode cX9_from 84 = .ok (.aload 7, 2) := by decide +kernel
theorem dX9_from_86 : decode cX9_from 86 = .ok (.iconst 0, 1) := by decide +kernel
theorem dX9_from_87 : decode cX9_from 87 = .ok (.iaload, 1) := by decide +kernel
theorem dX9_from_88 : decode cX9_from 88 = .ok (.ifCond .eq 11, 3) := by decide +kernel
theorem dX9_from_91 : decode cX9_from 91 = .ok (.aload 7, 2) := by decide +kernel
theorem dX9_from_93 : decode cX9_from 93 = .ok (.iconst 0, 1) := by decide +kernel
theorem dX9_from_94 : decode cX9_from 94 = .ok (.iaload, 1) := by decide +kernel
theorem dX9_from_95 : decode cX9_from 95 = .ok (.iconst 2, 1) := by decide +kernel
theorem dX9_from_96 : decode cX9_from 96 = .ok (.if_icmp .ne 10, 3) := by decide +kernel
theorem dX9_from_99 : decode cX9_from 99 = .ok (.aload 7, 2) := by decide +kernel
theorem dX9_from_101 : decode cX9_from 101 = .ok (.iconst 1, 1) := by decide +kernel
theorem dX9_from_102 : decode cX9_from 102 = .ok (.iaload, 1) := by decide +kernel
theorem dX9_from_103 : decode cX9_from 103 = .ok (.goto 10, 3) := by decide +kernel
theorem dX9_from_106 : decode cX9_from 106 = .ok (.aload 7, 2) := by decide +kernel
theorem dX9_from_108 : decode cX9_from 108 = .ok (.iconst 1, 1) := by decide +kernel
theorem dX9_from_109 : decode cX9_from 109 = .ok (.iaload, 1) := by decide +kernel
theorem dX9_from_110 : decode cX9_from 110 = .ok (.invokestatic 53, 3) := by decide +kernel
theorem dX9_from_113 : decode cX9_from 113 = .ok (.istore 8, 2) := by decide +kernel
theorem dX9_from_115 : decode cX9_from 115 = .ok (.aload 7, 2) := by decide +kernel
theorem dX9_from_117 : decode cX9_from 117 = .ok (.iconst 0, 1) := by decide +kernel
theorem dX9_from_118 : decode cX9_from 118 = .ok (.iaload, 1) := by decide +kernel
theorem dX9_from_119 : decode cX9_from 119 = .ok (.iconst 2, 1) := by decide +kernel
theorem dX9_from_120 : decode cX9_from 120 = .ok (.if_icmp .ne 13, 3) := by decide +kernel
theorem dX9_from_123 : decode cX9_from 123 = .ok (.aload 7, 2) := by decide +kernel
theorem dX9_from_125 : decode cX9_from 125 = .ok (.iconst 2, 1) := by decide +kernel
theorem dX9_from_126 : decode cX9_from 126 = .ok (.iaload, 1) := by decide +kernel
theorem dX9_from_127 : decode cX9_from 127 = .ok (.invokestatic 53, 3) := by decide +kernel
theorem dX9_from_130 : decode cX9_from 130 = .ok (.goto 7, 3) := by decide +kernel
theorem dX9_from_133 : decode cX9_from 133 = .ok (.aload 7, 2) := by decide +kernel
theorem dX9_from_135 : decode cX9_from 135 = .ok (.iconst 2, 1) := by decide +kernel
theorem dX9_from_136 : decode cX9_from 136 = .ok (.iaload, 1) := by decide +kernel
theorem dX9_from_137 : decode cX9_from 137 = .ok (.istore 9, 2) := by decide +kernel
theorem dX9_from_139 : decode cX9_from 139 = .ok (.aload_n 2, 1) := by decide +kernel
theorem dX9_from_140 : decode cX9_from 140 = .ok (.iload 9, 2) := by decide +kernel
theorem dX9_from_142 : decode cX9_from 142 = .ok (.aload_n 2, 1) := by decide +kernel
theorem dX9_from_143 : decode cX9_from 143 = .ok (.iload 9, 2) := by decide +kernel
theorem dX9_from_145 : decode cX9_from 145 = .ok (.iaload, 1) := by decide +kernel
theorem dX9_from_146 : decode cX9_from 146 = .ok (.aload_n 2, 1) := by decide +kernel
theorem dX9_from_147 : decode cX9_from 147 = .ok (.iload 8, 2) := by decide +kernel
theorem dX9_from_149 : decode cX9_from 149 = .ok (.iaload, 1) := by decide +kernel
theorem dX9_from_150 : decode cX9_from 150 = .ok (.iconst 1, 1) := by decide +kernel
theorem dX9_from_151 : decode cX9_from 151 = .ok (.iadd, 1) := by decide +kernel
theorem dX9_from_152 : decode cX9_from 152 = .ok (.invokestatic 57, 3) := by decide +kernel
theorem dX9_from_155 : decode cX9_from 155 = .ok (.iastore, 1) := by decide +kernel
theorem dX9_from_156 : decode cX9_from 156 = .ok (.aload_n 2, 1) := by decide +kernel
theorem dX9_from_157 : decode cX9_from 157 = .ok (.iload 8, 2) := by decide +kernel
theorem dX9_from_159 : decode cX9_from 159 = .ok (.invokestatic 53, 3) := by decide +kernel
theorem dX9_from_162 : decode cX9_from 162 = .ok (.aload_n 2, 1) := by decide +kernel
theorem dX9_from_163 : decode cX9_from 163 = .ok (.iload 8, 2) := by decide +kernel
theorem dX9_from_165 : decode cX9_from 165 = .ok (.invokestatic 53, 3) := by decide +kernel
theorem dX9_from_168 : decode cX9_from 168 = .ok (.iaload, 1) := by decide +kernel
theorem dX9_from_169 : decode cX9_from 169 = .ok (.aload_n 2, 1) := by decide +kernel
theorem dX9_from_170 : decode cX9_from 170 = .ok (.iload 9, 2) := by decide +kernel
theorem dX9_from_172 : decode cX9_from 172 = .ok (.invokestatic 53, 3) := by decide +kernel
theorem dX9_from_175 : decode cX9_from 175 = .ok (.iaload, 1) := by decide +kernel
theorem dX9_from_176 : decode cX9_from 176 = .ok (.iconst 1, 1) := by decide +kernel
theorem dX9_from_177 : decode cX9_from 177 = .ok (.iadd, 1) := by decide +kernel
theorem dX9_from_178 : decode cX9_from 178 = .ok (.invokestatic 57, 3) := by decide +kernel
theorem dX9_from_181 : decode cX9_from 181 = .ok (.iastore, 1) := by decide +kernel
theorem dX9_from_182 : decode cX9_from 182 = .ok (.iinc 6 1, 3) := by decide +kernel
theorem dX9_from_185 : decode cX9_from 185 = .ok (.goto (-125), 3) := by decide +kernel
theorem dX9_from_188 : decode cX9_from 188 = .ok (.iinc 3 1, 3) := by decide +kernel
theorem dX9_from_191 : decode cX9_from 191 = .ok (.goto (-151), 3) := by decide +kernel
theorem dX9_from_194 : decode cX9_from 194 = .ok (.iconst 0, 1) := by decide +kernel
theorem dX9_from_195 : decode cX9_from 195 = .ok (.istore_n 3, 1) := by decide +kernel
theorem dX9_from_196 : decode cX9_from 196 = .ok (.iload_n 3, 1) := by decide +kernel
theorem dX9_from_197 : decode cX9_from 197 = .ok (.aload_n 2, 1) := by decide +kernel
theorem dX9_from_198 : decode cX9_from 198 = .ok (.arraylength, 1) := by decide +kernel
theorem dX9_from_199 : decode cX9_from 199 = .ok (.if_icmp .ge 23, 3) := by decide +kernel
theorem dX9_from_202 : decode cX9_from 202 = .ok (.aload_n 2, 1) := by decide +kernel
theorem dX9_from_203 : decode cX9_from 203 = .ok (.iload_n 3, 1) := by decide +kernel
theorem dX9_from_204 : decode cX9_from 204 = .ok (.iaload, 1) := by decide +kernel
theorem dX9_from_205 : decode cX9_from 205 = .ok (.bipush 99, 2) := by decide +kernel
theorem dX9_from_207 : decode cX9_from 207 = .ok (.if_icmp .le 9, 3) := by decide +kernel
theorem dX9_from_210 : decode cX9_from 210 = .ok (.aload_n 2, 1) := by decide +kernel
theorem dX9_from_211 : decode cX9_from 211 = .ok (.iload_n 3, 1) := by decide +kernel
theorem dX9_from_212 : decode cX9_from 212 = .ok (.sipush 999, 3) := by decide +kernel
theorem dX9_from_215 : decode cX9_from 215 = .ok (.iastore, 1) := by decide +kernel
theorem dX9_from_216 : decode cX9_from 216 = .ok (.iinc 3 1, 3) := by decide +kernel
theorem dX9_from_219 : decode cX9_from 219 = .ok (.goto (-23), 3) := by decide +kernel
theorem dX9_from_222 : decode cX9_from 222 = .ok (.aload_n 2, 1) := by decide +kernel
theorem dX9_from_223 : decode cX9_from 223 = .ok (.areturn, 1) := by decide +kernel
theorem dX9_opposite_0 : decode cX9_opposite 0 = .ok (.iload_n 0, 1) := by decide +kernel
theorem dX9_opposite_1 : decode cX9_opposite 1 = .ok (.iconst 2, 1) := by decide +kernel
theorem dX9_opposite_2 : decode cX9_opposite 2 = .ok (.irem, 1) := by decide +kernel
theorem dX9_opposite_3 : decode cX9_opposite 3 = .ok (.ifCond .ne 9, 3) := by decide +kernel
theorem dX9_opposite_6 : decode cX9_opposite 6 = .ok (.iload_n 0, 1) := by decide +kernel
theorem dX9_opposite_7 : decode cX9_opposite 7 = .ok (.iconst 1, 1) := by decide +kernel
theorem dX9_opposite_8 : decode cX9_opposite 8 = .ok (.iadd, 1) := by decide +kernel
theorem dX9_opposite_9 : decode cX9_opposite 9 = .ok (.goto 6, 3) := by decide +kernel
theorem dX9_opposite_12 : decode cX9_opposite 12 = .ok (.iload_n 0, 1) := by decide +kernel
theorem dX9_opposite_13 : decode cX9_opposite 13 = .ok (.iconst 1, 1) := by decide +kernel
theorem dX9_opposite_14 : decode cX9_opposite 14 = .ok (.isub, 1) := by decide +kernel
theorem dX9_opposite_15 : decode cX9_opposite 15 = .ok (.ireturn, 1) := by decide +kernel
theorem dX9_following_0 : decode cX9_following 0 = .ok (.iconst 2, 1) := by decide +kernel
theorem dX9_following_1 : decode cX9_following 1 = .ok (.aload_n 0, 1) := by decide +kernel
theorem dX9_following_2 : decode cX9_following 2 = .ok (.getfield 19, 3) := by decide +kernel
theorem dX9_following_5 : decode cX9_following 5 = .ok (.imul, 1) := by decide +kernel
theorem dX9_following_6 : decode cX9_following 6 = .ok (.anewarray 7, 3) := by decide +kernel
theorem dX9_following_9 : decode cX9_following 9 = .ok (.astore_n 1, 1) := by decide +kernel
theorem dX9_following_10 : decode cX9_following 10 = .ok (.iconst 0, 1) := by decide +kernel
theorem dX9_following_11 : decode cX9_following 11 = .ok (.istore_n 2, 1) := by decide +kernel
theorem dX9_following_12 : decode cX9_following 12 = .ok (.iload_n 2, 1) := by decide +kernel
theorem dX9_following_13 : decode cX9_following 13 = .ok (.aload_n 1, 1) := by decide +kernel
theorem dX9_following_14 : decode cX9_following 14 = .ok (.arraylength, 1) := by decide +kernel
theorem dX9_following_15 : decode cX9_following 15 = .ok (.if_icmp .ge 17, 3) := by decide +kernel
theorem dX9_following_18 : decode cX9_following 18 = .ok (.aload_n 1, 1) := by decide +kernel
theorem dX9_following_19 : decode cX9_following 19 = .ok (.iload_n 2, 1) := by decide +kernel
theorem dX9_following_20 : decode cX9_following 20 = .ok (.aload_n 0, 1) := by decide +kernel
theorem dX9_following_21 : decode cX9_following 21 = .ok (.iload_n 2, 1) := by decide +kernel
theorem dX9_following_22 : decode cX9_following 22 = .ok (.invokevirtual 63, 3) := by decide +kernel
theorem dX9_following_25 : decode cX9_following 25 = .ok (.aastore, 1) := by decide +kernel
theorem dX9_following_26 : decode cX9_following 26 = .ok (.iinc 2 1, 3) := by decide +kernel
theorem dX9_following_29 : decode cX9_following 29 = .ok (.goto (-17), 3) := by decide +kernel
theorem dX9_following_32 : decode cX9_following 32 = .ok (.aload_n 1, 1) := by decide +kernel
theorem dX9_following_33 : decode cX9_following 33 = .ok (.areturn, 1) := by decide +kernel
theorem dX9_parts_0 : decode cX9_parts 0 = .ok (.aload_n 0, 1) := by decide +kernel
theorem dX9_parts_1 : decode cX9_parts 1 = .ok (.arraylength, 1) := by decide +kernel
theorem dX9_parts_2 : decode cX9_parts 2 = .ok (.newarray .int, 2) := by decide +kernel
theorem dX9_parts_4 : decode cX9_parts 4 = .ok (.astore_n 1, 1) := by decide +kernel
theorem dX9_parts_5 : decode cX9_parts 5 = .ok (.iconst 0, 1) := by decide +kernel
theorem dX9_parts_6 : decode cX9_parts 6 = .ok (.istore_n 2, 1) := by decide +kernel
theorem dX9_parts_7 : decode cX9_parts 7 = .ok (.iload_n 2, 1) := by decide +kernel
theorem dX9_parts_8 : decode cX9_parts 8 = .ok (.aload_n 1, 1) := by decide +kernel
theorem dX9_parts_9 : decode cX9_parts 9 = .ok (.arraylength, 1) := by decide +kernel
theorem dX9_parts_10 : decode cX9_parts 10 = .ok (.if_icmp .ge 50, 3) := by decide +kernel
theorem dX9_parts_13 : decode cX9_parts 13 = .ok (.aload_n 1, 1) := by decide +kernel
theorem dX9_parts_14 : decode cX9_parts 14 = .ok (.arraylength, 1) := by decide +kernel
theorem dX9_parts_15 : decode cX9_parts 15 = .ok (.iconst 1, 1) := by decide +kernel
theorem dX9_parts_16 : decode cX9_parts 16 = .ok (.isub, 1) := by decide +kernel
theorem dX9_parts_17 : decode cX9_parts 17 = .ok (.istore_n 3, 1) := by decide +kernel
theorem dX9_parts_18 : decode cX9_parts 18 = .ok (.iload_n 3, 1) := by decide +kernel
theorem dX9_parts_19 : decode cX9_parts 19 = .ok (.ifCond .lt 35, 3) := by decide +kernel
theorem dX9_parts_22 : decode cX9_parts 22 = .ok (.aload_n 0, 1) := by decide +kernel
theorem dX9_parts_23 : decode cX9_parts 23 = .ok (.iload_n 2, 1) := by decide +kernel
theorem dX9_parts_24 : decode cX9_parts 24 = .ok (.aaload, 1) := by decide +kernel
theorem dX9_parts_25 : decode cX9_parts 25 = .ok (.iload_n 3, 1) := by decide +kernel
theorem dX9_parts_26 : decode cX9_parts 26 = .ok (.iaload, 1) := by decide +kernel
theorem dX9_parts_27 : decode cX9_parts 27 = .ok (.sipush 999, 3) := by decide +kernel
theorem dX9_parts_30 : decode cX9_parts 30 = .ok (.if_icmp .ge 18, 3) := by decide +kernel
theorem dX9_parts_33 : decode cX9_parts 33 = .ok (.aload_n 0, 1) := by decide +kernel
theorem dX9_parts_34 : decode cX9_parts 34 = .ok (.iload_n 3, 1) := by decide +kernel
theorem dX9_parts_35 : decode cX9_parts 35 = .ok (.aaload, 1) := by decide +kernel
theorem dX9_parts_36 : decode cX9_parts 36 = .ok (.iload_n 2, 1) := by decide +kernel
theorem dX9_parts_37 : decode cX9_parts 37 = .ok (.iaload, 1) := by decide +kernel
theorem dX9_parts_38 : decode cX9_parts 38 = .ok (.sipush 999, 3) := by decide +kernel
theorem dX9_parts_41 : decode cX9_parts 41 = .ok (.if_icmp .ge 7, 3) := by decide +kernel
theorem dX9_parts_44 : decode cX9_parts 44 = .ok (.aload_n 1, 1) := by decide +kernel
theorem dX9_parts_45 : decode cX9_parts 45 = .ok (.iload_n 2, 1) := by decide +kernel
theorem dX9_parts_46 : decode cX9_parts 46 = .ok (.iload_n 3, 1) := by decide +kernel
theorem dX9_parts_47 : decode cX9_parts 47 = .ok (.iastore, 1) := by decide +kernel
theorem dX9_parts_48 : decode cX9_parts 48 = .ok (.iinc 3 (-1), 3) := by decide +kernel
theorem dX9_parts_51 : decode cX9_parts 51 = .ok (.goto (-33), 3) := by decide +kernel
theorem dX9_parts_54 : decode cX9_parts 54 = .ok (.iinc 2 1, 3) := by decide +kernel
theorem dX9_parts_57 : decode cX9_parts 57 = .ok (.goto (-50), 3) := by decide +kernel
theorem dX9_parts_60 : decode cX9_parts 60 = .ok (.aload_n 1, 1) := by decide +kernel
theorem dX9_parts_61 : decode cX9_parts 61 = .ok (.areturn, 1) := by decide +kernel
theorem dX9_many_0 : decode cX9_many 0 = .ok (.iconst 0, 1) := by decide +kernel
theorem dX9_many_1 : decode cX9_many 1 = .ok (.istore_n 1, 1) := by decide +kernel
theorem dX9_many_2 : decode cX9_many 2 = .ok (.iconst 0, 1) := by decide +kernel
theorem dX9_many_3 : decode cX9_many 3 = .ok (.istore_n 2, 1) := by decide +kernel
theorem dX9_many_4 : decode cX9_many 4 = .ok (.iload_n 2, 1) := by decide +kernel
theorem dX9_many_5 : decode cX9_many 5 = .ok (.aload_n 0, 1) := by decide +kernel
theorem dX9_many_6 : decode cX9_many 6 = .ok (.arraylength, 1) := by decide +kernel
theorem dX9_many_7 : decode cX9_many 7 = .ok (.if_icmp .ge 24, 3) := by decide +kernel
theorem dX9_many_10 : decode cX9_many 10 = .ok (.iload_n 1, 1) := by decide +kernel
theorem dX9_many_11 : decode cX9_many 11 = .ok (.aload_n 0, 1) := by decide +kernel
theorem dX9_many_12 : decode cX9_many 12 = .ok (.iload_n 2, 1) := by decide +kernel
theorem dX9_many_13 : decode cX9_many 13 = .ok (.iaload, 1) := by decide +kernel
theorem dX9_many_14 : decode cX9_many 14 = .ok (.iload_n 2, 1) := by decide +kernel
theorem dX9_many_15 : decode cX9_many 15 = .ok (.if_icmp .ne 7, 3) := by decide +kernel
theorem dX9_many_18 : decode cX9_many 18 = .ok (.iconst 1, 1) := by decide +kernel
theorem dX9_many_19 : decode cX9_many 19 = .ok (.goto 4, 3) := by decide +kernel
theorem dX9_many_22 : decode cX9_many 22 = .ok (.iconst 0, 1) := by decide +kernel
theorem dX9_many_23 : decode cX9_many 23 = .ok (.iadd, 1) := by decide +kernel
theorem dX9_many_24 : decode cX9_many 24 = .ok (.istore_n 1, 1) := by decide +kernel
theorem dX9_many_25 : decode cX9_many 25 = .ok (.iinc 2 1, 3) := by decide +kernel
theorem dX9_many_28 : decode cX9_many 28 = .ok (.goto (-24), 3) := by decide +kernel
theorem dX9_many_31 : decode cX9_many 31 = .ok (.iload_n 1, 1) := by decide +kernel
theorem dX9_many_32 : decode cX9_many 32 = .ok (.ireturn, 1) := by decide +kernel
theorem dX9_isDue_0 : decode cX9_isDue 0 = .ok (.aload_n 1, 1) := by decide +kernel
theorem dX9_isDue_1 : decode cX9_isDue 1 = .ok (.iconst 3, 1) := by decide +kernel
theorem dX9_isDue_2 : decode cX9_isDue 2 = .ok (.iaload, 1) := by decide +kernel
theorem dX9_isDue_3 : decode cX9_isDue 3 = .ok (.istore_n 2, 1) := by decide +kernel
theorem dX9_isDue_4 : decode cX9_isDue 4 = .ok (.aload_n 1, 1) := by decide +kernel
theorem dX9_isDue_5 : decode cX9_isDue 5 = .ok (.iconst 2, 1) := by decide +kernel
theorem dX9_isDue_6 : decode cX9_isDue 6 = .ok (.iaload, 1) := by decide +kernel
theorem dX9_isDue_7 : decode cX9_isDue 7 = .ok (.tableswitch 161 0 4 #[33, 35, 53, 83, 110], 33) := by decide +kernel
theorem dX9_isDue_40 : decode cX9_isDue 40 = .ok (.iconst 1, 1) := by decide +kernel
theorem dX9_isDue_41 : decode cX9_isDue 41 = .ok (.ireturn, 1) := by decide +kernel
theorem dX9_isDue_42 : decode cX9_isDue 42 = .ok (.aload_n 0, 1) := by decide +kernel
theorem dX9_isDue_43 : decode cX9_isDue 43 = .ok (.getfield 23, 3) := by decide +kernel
theorem dX9_isDue_46 : decode cX9_isDue 46 = .ok (.iconst 3, 1) := by decide +kernel
theorem dX9_isDue_47 : decode cX9_isDue 47 = .ok (.irem, 1) := by decide +kernel
theorem dX9_isDue_48 : decode cX9_isDue 48 = .ok (.iload_n 2, 1) := by decide +kernel
theorem dX9_isDue_49 : decode cX9_isDue 49 = .ok (.iconst 3, 1) := by decide +kernel
theorem dX9_isDue_50 : decode cX9_isDue 50 = .ok (.irem, 1) := by decide +kernel
theorem dX9_isDue_51 : decode cX9_isDue 51 = .ok (.if_icmp .ne 7, 3) := by decide +kernel
theorem dX9_isDue_54 : decode cX9_isDue 54 = .ok (.iconst 1, 1) := by decide +kernel
theorem dX9_isDue_55 : decode cX9_isDue 55 = .ok (.goto 4, 3) := by decide +kernel
theorem dX9_isDue_58 : decode cX9_isDue 58 = .ok (.iconst 0, 1) := by decide +kernel
theorem dX9_isDue_59 : decode cX9_isDue 59 = .ok (.ireturn, 1) := by decide +kernel
theorem dX9_isDue_60 : decode cX9_isDue 60 = .ok (.aload_n 0, 1) := by decide +kernel
theorem dX9_isDue_61 : decode cX9_isDue 61 = .ok (.aload_n 0, 1) := by decide +kernel
theorem dX9_isDue_62 : decode cX9_isDue 62 = .ok (.getfield 19, 3) := by decide +kernel
theorem dX9_isDue_65 : decode cX9_isDue 65 = .ok (.newarray .int, 2) := by decide +kernel
theorem dX9_isDue_67 : decode cX9_isDue 67 = .ok (.invokevirtual 49, 3) := by decide +kernel
theorem dX9_isDue_70 : decode cX9_isDue 70 = .ok (.iconst 2, 1) := by decide +kernel
theorem dX9_isDue_71 : decode cX9_isDue 71 = .ok (.iload_n 2, 1) := by decide +kernel
theorem dX9_isDue_72 : decode cX9_isDue 72 = .ok (.iconst 2, 1) := by decide +kernel
theorem dX9_isDue_73 : decode cX9_isDue 73 = .ok (.aload_n 0, 1) := by decide +kernel
theorem dX9_isDue_74 : decode cX9_isDue 74 = .ok (.getfield 19, 3) := by decide +kernel
theorem dX9_isDue_77 : decode cX9_isDue 77 = .ok (.imul, 1) := by decide +kernel
theorem dX9_isDue_78 : decode cX9_isDue 78 = .ok (.irem, 1) := by decide +kernel
theorem dX9_isDue_79 : decode cX9_isDue 79 = .ok (.iadd, 1) := by decide +kernel
theorem dX9_isDue_80 : decode cX9_isDue 80 = .ok (.iaload, 1) := by decide +kernel
theorem dX9_isDue_81 : decode cX9_isDue 81 = .ok (.ifCond .le 7, 3) := by decide +kernel
theorem dX9_isDue_84 : decode cX9_isDue 84 = .ok (.iconst 1, 1) := by decide +kernel
theorem dX9_isDue_85 : decode cX9_isDue 85 = .ok (.goto 4, 3) := by decide +kernel
theorem dX9_isDue_88 : decode cX9_isDue 88 = .ok (.iconst 0, 1) := by decide +kernel
theorem dX9_isDue_89 : decode cX9_isDue 89 = .ok (.ireturn, 1) := by decide +kernel
theorem dX9_isDue_90 : decode cX9_isDue 90 = .ok (.aload_n 0, 1) := by decide +kernel
theorem dX9_isDue_91 : decode cX9_isDue 91 = .ok (.getfield 9, 3) := by decide +kernel
theorem dX9_isDue_94 : decode cX9_isDue 94 = .ok (.aload_n 1, 1) := by decide +kernel
theorem dX9_isDue_95 : decode cX9_isDue 95 = .ok (.iconst 4, 1) := by decide +kernel
theorem dX9_isDue_96 : decode cX9_isDue 96 = .ok (.iaload, 1) := by decide +kernel
theorem dX9_isDue_97 : decode cX9_isDue 97 = .ok (.aaload, 1) := by decide +kernel
theorem dX9_isDue_98 : decode cX9_isDue 98 = .ok (.iconst 3, 1) := by decide +kernel
theorem dX9_isDue_99 : decode cX9_isDue 99 = .ok (.iaload, 1) := by decide +kernel
theorem dX9_isDue_100 : decode cX9_isDue 100 = .ok (.ifCond .eq 11, 3) := by decide +kernel
theorem dX9_isDue_103 : decode cX9_isDue 103 = .ok (.aload_n 0, 1) := by decide +kernel
theorem dX9_isDue_104 : decode cX9_isDue 104 = .ok (.invokevirtual 67, 3) := by decide +kernel
theorem dX9_isDue_107 : decode cX9_isDue 107 = .ok (.iload_n 2, 1) := by decide +kernel
theorem dX9_isDue_108 : decode cX9_isDue 108 = .ok (.if_icmp .ge 7, 3) := by decide +kernel
theorem dX9_isDue_111 : decode cX9_isDue 111 = .ok (.iconst 1, 1) := by decide +kernel
theorem dX9_isDue_112 : decode cX9_isDue 112 = .ok (.goto 4, 3) := by decide +kernel
theorem dX9_isDue_115 : decode cX9_isDue 115 = .ok (.iconst 0, 1) := by decide +kernel
theorem dX9_isDue_116 : decode cX9_isDue 116 = .ok (.ireturn, 1) := by decide +kernel
theorem dX9_isDue_117 : decode cX9_isDue 117 = .ok (.aload_n 0, 1) := by decide +kernel
theorem dX9_isDue_118 : decode cX9_isDue 118 = .ok (.aload_n 1, 1) := by decide +kernel
theorem dX9_isDue_119 : decode cX9_isDue 119 = .ok (.iconst 4, 1) := by decide +kernel
theorem dX9_isDue_120 : decode cX9_isDue 120 = .ok (.iaload, 1) := by decide +kernel
theorem dX9_isDue_121 : decode cX9_isDue 121 = .ok (.iconst 2, 1) := by decide +kernel
theorem dX9_isDue_122 : decode cX9_isDue 122 = .ok (.aload_n 0, 1) := by decide +kernel
theorem dX9_isDue_123 : decode cX9_isDue 123 = .ok (.getfield 19, 3) := by decide +kernel
theorem dX9_isDue_126 : decode cX9_isDue 126 = .ok (.imul, 1) := by decide +kernel
theorem dX9_isDue_127 : decode cX9_isDue 127 = .ok (.irem, 1) := by decide +kernel
theorem dX9_isDue_128 : decode cX9_isDue 128 = .ok (.invokevirtual 63, 3) := by decide +kernel
theorem dX9_isDue_131 : decode cX9_isDue 131 = .ok (.iload_n 2, 1) := by decide +kernel
theorem dX9_isDue_132 : decode cX9_isDue 132 = .ok (.iconst 2, 1) := by decide +kernel
theorem dX9_isDue_133 : decode cX9_isDue 133 = .ok (.aload_n 0, 1) := by decide +kernel
theorem dX9_isDue_134 : decode cX9_isDue 134 = .ok (.getfield 19, 3) := by decide +kernel
theorem dX9_isDue_137 : decode cX9_isDue 137 = .ok (.imul, 1) := by decide +kernel
theorem dX9_isDue_138 : decode cX9_isDue 138 = .ok (.irem, 1) := by decide +kernel
theorem dX9_isDue_139 : decode cX9_isDue 139 = .ok (.iaload, 1) := by decide +kernel
theorem dX9_isDue_140 : decode cX9_isDue 140 = .ok (.sipush 999, 3) := by decide +kernel
theorem dX9_isDue_143 : decode cX9_isDue 143 = .ok (.if_icmp .ge 23, 3) := by decide +kernel
theorem dX9_isDue_146 : decode cX9_isDue 146 = .ok (.aload_n 0, 1) := by decide +kernel
theorem dX9_isDue_147 : decode cX9_isDue 147 = .ok (.invokevirtual 71, 3) := by decide +kernel
theorem dX9_isDue_150 : decode cX9_isDue 150 = .ok (.invokestatic 75, 3) := by decide +kernel
theorem dX9_isDue_153 : decode cX9_isDue 153 = .ok (.invokestatic 79, 3) := by decide +kernel
theorem dX9_isDue_156 : decode cX9_isDue 156 = .ok (.aload_n 1, 1) := by decide +kernel
theorem dX9_isDue_157 : decode cX9_isDue 157 = .ok (.iconst 5, 1) := by decide +kernel
theorem dX9_isDue_158 : decode cX9_isDue 158 = .ok (.iaload, 1) := by decide +kernel
theorem dX9_isDue_159 : decode cX9_isDue 159 = .ok (.if_icmp .le 7, 3) := by decide +kernel
theorem dX9_isDue_162 : decode cX9_isDue 162 = .ok (.iconst 1, 1) := by decide +kernel
theorem dX9_isDue_163 : decode cX9_isDue 163 = .ok (.goto 4, 3) := by decide +kernel
theorem dX9_isDue_166 : decode cX9_isDue 166 = .ok (.iconst 0, 1) := by decide +kernel
theorem dX9_isDue_167 : decode cX9_isDue 167 = .ok (.ireturn, 1) := by decide +kernel
theorem dX9_isDue_168 : decode cX9_isDue 168 = .ok (.aload_n 0, 1) := by decide +kernel
theorem dX9_isDue_169 : decode cX9_isDue 169 = .ok (.invokevirtual 83, 3) := by decide +kernel
theorem dX9_isDue_172 : decode cX9_isDue 172 = .ok (.iconst 4, 1) := by decide +kernel
theorem dX9_isDue_173 : decode cX9_isDue 173 = .ok (.iload_n 2, 1) := by decide +kernel
theorem dX9_isDue_174 : decode cX9_isDue 174 = .ok (.imul, 1) := by decide +kernel
theorem dX9_isDue_175 : decode cX9_isDue 175 = .ok (.if_icmp .gt 7, 3) := by decide +kernel
theorem dX9_isDue_178 : decode cX9_isDue 178 = .ok (.iconst 1, 1) := by decide +kernel
theorem dX9_isDue_179 : decode cX9_isDue 179 = .ok (.goto 4, 3) := by decide +kernel
theorem dX9_isDue_182 : decode cX9_isDue 182 = .ok (.iconst 0, 1) := by decide +kernel
theorem dX9_isDue_183 : decode cX9_isDue 183 = .ok (.ireturn, 1) := by decide +kernel
theorem dX9_pass_0 : decode cX9_pass 0 = .ok (.aload_n 0, 1) := by decide +kernel
theorem dX9_pass_1 : decode cX9_pass 1 = .ok (.getfield 15, 3) := by decide +kernel
theorem dX9_pass_4 : decode cX9_pass 4 = .ok (.astore_n 1, 1) := by decide +kernel
theorem dX9_pass_5 : decode cX9_pass 5 = .ok (.aload_n 1, 1) := by decide +kernel
theorem dX9_pass_6 : decode cX9_pass 6 = .ok (.arraylength, 1) := by decide +kernel
theorem dX9_pass_7 : decode cX9_pass 7 = .ok (.istore_n 2, 1) := by decide +kernel
theorem dX9_pass_8 : decode cX9_pass 8 = .ok (.iconst 0, 1) := by decide +kernel
theorem dX9_pass_9 : decode cX9_pass 9 = .ok (.istore_n 3, 1) := by decide +kernel
theorem dX9_pass_10 : decode cX9_pass 10 = .ok (.iload_n 3, 1) := by decide +kernel
theorem dX9_pass_11 : decode cX9_pass 11 = .ok (.iload_n 2, 1) := by decide +kernel
theorem dX9_pass_12 : decode cX9_pass 12 = .ok (.if_icmp .ge 81, 3) := by decide +kernel
theorem dX9_pass_15 : decode cX9_pass 15 = .ok (.aload_n 1, 1) := by decide +kernel
theorem dX9_pass_16 : decode cX9_pass 16 = .ok (.iload_n 3, 1) := by decide +kernel
theorem dX9_pass_17 : decode cX9_pass 17 = .ok (.aaload, 1) := by decide +kernel
theorem dX9_pass_18 : decode cX9_pass 18 = .ok (.astore 4, 2) := by decide +kernel
theorem dX9_pass_20 : decode cX9_pass 20 = .ok (.aload_n 0, 1) := by decide +kernel
theorem dX9_pass_21 : decode cX9_pass 21 = .ok (.aload 4, 2) := by decide +kernel
theorem dX9_pass_23 : decode cX9_pass 23 = .ok (.invokevirtual 85, 3) := by decide +kernel
theorem dX9_pass_26 : decode cX9_pass 26 = .ok (.ifCond .ne 6, 3) := by decide +kernel
theorem dX9_pass_29 : decode cX9_pass 29 = .ok (.goto 58, 3) := by decide +kernel
theorem dX9_pass_32 : decode cX9_pass 32 = .ok (.aload_n 0, 1) := by decide +kernel
theorem dX9_pass_33 : decode cX9_pass 33 = .ok (.getfield 9, 3) := by decide +kernel
theorem dX9_pass_36 : decode cX9_pass 36 = .ok (.aload 4, 2) := by decide +kernel
theorem dX9_pass_38 : decode cX9_pass 38 = .ok (.iconst 1, 1) := by decide +kernel
theorem dX9_pass_39 : decode cX9_pass 39 = .ok (.iaload, 1) := by decide +kernel
theorem dX9_pass_40 : decode cX9_pass 40 = .ok (.aaload, 1) := by decide +kernel
theorem dX9_pass_41 : decode cX9_pass 41 = .ok (.iconst 3, 1) := by decide +kernel
theorem dX9_pass_42 : decode cX9_pass 42 = .ok (.iaload, 1) := by decide +kernel
theorem dX9_pass_43 : decode cX9_pass 43 = .ok (.istore 5, 2) := by decide +kernel
theorem dX9_pass_45 : decode cX9_pass 45 = .ok (.aload_n 0, 1) := by decide +kernel
theorem dX9_pass_46 : decode cX9_pass 46 = .ok (.getfield 9, 3) := by decide +kernel
theorem dX9_pass_49 : decode cX9_pass 49 = .ok (.aload 4, 2) := by decide +kernel
theorem dX9_pass_51 : decode cX9_pass 51 = .ok (.iconst 1, 1) := by decide +kernel
theorem dX9_pass_52 : decode cX9_pass 52 = .ok (.iaload, 1) := by decide +kernel
theorem dX9_pass_53 : decode cX9_pass 53 = .ok (.aaload, 1) := by decide +kernel
theorem dX9_pass_54 : decode cX9_pass 54 = .ok (.iconst 3, 1) := by decide +kernel
theorem dX9_pass_55 : decode cX9_pass 55 = .ok (.aload 4, 2) := by decide +kernel
theorem dX9_pass_57 : decode cX9_pass 57 = .ok (.iconst 0, 1) := by decide +kernel
theorem dX9_pass_58 : decode cX9_pass 58 = .ok (.iaload, 1) := by decide +kernel
theorem dX9_pass_59 : decode cX9_pass 59 = .ok (.iconst 1, 1) := by decide +kernel
theorem dX9_pass_60 : decode cX9_pass 60 = .ok (.isub, 1) := by decide +kernel
theorem dX9_pass_61 : decode cX9_pass 61 = .ok (.iastore, 1) := by decide +kernel
theorem dX9_pass_62 : decode cX9_pass 62 = .ok (.aload_n 0, 1) := by decide +kernel
theorem dX9_pass_63 : decode cX9_pass 63 = .ok (.dup, 1) := by decide +kernel
theorem dX9_pass_64 : decode cX9_pass 64 = .ok (.getfield 26, 3) := by decide +kernel
theorem dX9_pass_67 : decode cX9_pass 67 = .ok (.iload 5, 2) := by decide +kernel
theorem dX9_pass_69 : decode cX9_pass 69 = .ok (.aload 4, 2) := by decide +kernel
theorem dX9_pass_71 : decode cX9_pass 71 = .ok (.iconst 0, 1) := by decide +kernel
theorem dX9_pass_72 : decode cX9_pass 72 = .ok (.iaload, 1) := by decide +kernel
theorem dX9_pass_73 : decode cX9_pass 73 = .ok (.iconst 1, 1) := by decide +kernel
theorem dX9_pass_74 : decode cX9_pass 74 = .ok (.isub, 1) := by decide +kernel
theorem dX9_pass_75 : decode cX9_pass 75 = .ok (.if_icmp .ne 7, 3) := by decide +kernel
theorem dX9_pass_78 : decode cX9_pass 78 = .ok (.iconst 0, 1) := by decide +kernel
theorem dX9_pass_79 : decode cX9_pass 79 = .ok (.goto 4, 3) := by decide +kernel
theorem dX9_pass_82 : decode cX9_pass 82 = .ok (.iconst 1, 1) := by decide +kernel
theorem dX9_pass_83 : decode cX9_pass 83 = .ok (.iadd, 1) := by decide +kernel
theorem dX9_pass_84 : decode cX9_pass 84 = .ok (.putfield 26, 3) := by decide +kernel
theorem dX9_pass_87 : decode cX9_pass 87 = .ok (.iinc 3 1, 3) := by decide +kernel
theorem dX9_pass_90 : decode cX9_pass 90 = .ok (.goto (-80), 3) := by decide +kernel
theorem dX9_pass_93 : decode cX9_pass 93 = .ok (.aload_n 0, 1) := by decide +kernel
theorem dX9_pass_94 : decode cX9_pass 94 = .ok (.dup, 1) := by decide +kernel
theorem dX9_pass_95 : decode cX9_pass 95 = .ok (.getfield 23, 3) := by decide +kernel
theorem dX9_pass_98 : decode cX9_pass 98 = .ok (.iconst 1, 1) := by decide +kernel
theorem dX9_pass_99 : decode cX9_pass 99 = .ok (.iadd, 1) := by decide +kernel
theorem dX9_pass_100 : decode cX9_pass 100 = .ok (.putfield 23, 3) := by decide +kernel
theorem dX9_pass_103 : decode cX9_pass 103 = .ok (.return_, 1) := by decide +kernel
theorem dX9_isSame_0 : decode cX9_isSame 0 = .ok (.iconst 2, 1) := by decide +kernel
theorem dX9_isSame_1 : decode cX9_isSame 1 = .ok (.aload_n 0, 1) := by decide +kernel
theorem dX9_isSame_2 : decode cX9_isSame 2 = .ok (.getfield 19, 3) := by decide +kernel
theorem dX9_isSame_5 : decode cX9_isSame 5 = .ok (.imul, 1) := by decide +kernel
theorem dX9_isSame_6 : decode cX9_isSame 6 = .ok (.istore_n 2, 1) := by decide +kernel
theorem dX9_isSame_7 : decode cX9_isSame 7 = .ok (.aload_n 1, 1) := by decide +kernel
theorem dX9_isSame_8 : decode cX9_isSame 8 = .ok (.invokevirtual 89, 3) := by decide +kernel
theorem dX9_isSame_11 : decode cX9_isSame 11 = .ok (.aload_n 0, 1) := by decide +kernel
theorem dX9_isSame_12 : decode cX9_isSame 12 = .ok (.getfield 19, 3) := by decide +kernel
theorem dX9_isSame_15 : decode cX9_isSame 15 = .ok (.if_icmp .ne 60, 3) := by decide +kernel
theorem dX9_isSame_18 : decode cX9_isSame 18 = .ok (.aload_n 1, 1) := by decide +kernel
theorem dX9_isSame_19 : decode cX9_isSame 19 = .ok (.invokevirtual 93, 3) := by decide +kernel
theorem dX9_isSame_22 : decode cX9_isSame 22 = .ok (.aload_n 0, 1) := by decide +kernel
theorem dX9_isSame_23 : decode cX9_isSame 23 = .ok (.getfield 9, 3) := by decide +kernel
theorem dX9_isSame_26 : decode cX9_isSame 26 = .ok (.arraylength, 1) := by decide +kernel
theorem dX9_isSame_27 : decode cX9_isSame 27 = .ok (.if_icmp .ne 48, 3) := by decide +kernel
theorem dX9_isSame_30 : decode cX9_isSame 30 = .ok (.aload_n 1, 1) := by decide +kernel
theorem dX9_isSame_31 : decode cX9_isSame 31 = .ok (.invokevirtual 95, 3) := by decide +kernel
theorem dX9_isSame_34 : decode cX9_isSame 34 = .ok (.aload_n 0, 1) := by decide +kernel
theorem dX9_isSame_35 : decode cX9_isSame 35 = .ok (.getfield 15, 3) := by decide +kernel
theorem dX9_isSame_38 : decode cX9_isSame 38 = .ok (.arraylength, 1) := by decide +kernel
theorem dX9_isSame_39 : decode cX9_isSame 39 = .ok (.if_icmp .ne 36, 3) := by decide +kernel
theorem dX9_isSame_42 : decode cX9_isSame 42 = .ok (.aload_n 1, 1) := by decide +kernel
theorem dX9_isSame_43 : decode cX9_isSame 43 = .ok (.invokevirtual 97, 3) := by decide +kernel
theorem dX9_isSame_46 : decode cX9_isSame 46 = .ok (.aload_n 0, 1) := by decide +kernel
theorem dX9_isSame_47 : decode cX9_isSame 47 = .ok (.getfield 23, 3) := by decide +kernel
theorem dX9_isSame_50 : decode cX9_isSame 50 = .ok (.if_icmp .ne 25, 3) := by decide +kernel
theorem dX9_isSame_53 : decode cX9_isSame 53 = .ok (.aload_n 1, 1) := by decide +kernel
theorem dX9_isSame_54 : decode cX9_isSame 54 = .ok (.invokevirtual 99, 3) := by decide +kernel
theorem dX9_isSame_57 : decode cX9_isSame 57 = .ok (.aload_n 0, 1) := by decide +kernel
theorem dX9_isSame_58 : decode cX9_isSame 58 = .ok (.getfield 26, 3) := by decide +kernel
theorem dX9_isSame_61 : decode cX9_isSame 61 = .ok (.if_icmp .ne 14, 3) := by decide +kernel
theorem dX9_isSame_64 : decode cX9_isSame 64 = .ok (.aload_n 1, 1) := by decide +kernel
theorem dX9_isSame_65 : decode cX9_isSame 65 = .ok (.invokevirtual 102, 3) := by decide +kernel
theorem dX9_isSame_68 : decode cX9_isSame 68 = .ok (.aload_n 0, 1) := by decide +kernel
theorem dX9_isSame_69 : decode cX9_isSame 69 = .ok (.invokevirtual 67, 3) := by decide +kernel
theorem dX9_isSame_72 : decode cX9_isSame 72 = .ok (.if_icmp .eq 5, 3) := by decide +kernel
theorem dX9_isSame_75 : decode cX9_isSame 75 = .ok (.iconst 0, 1) := by decide +kernel
theorem dX9_isSame_76 : decode cX9_isSame 76 = .ok (.ireturn, 1) := by decide +kernel
theorem dX9_isSame_77 : decode cX9_isSame 77 = .ok (.iconst 0, 1) := by decide +kernel
theorem dX9_isSame_78 : decode cX9_isSame 78 = .ok (.istore_n 3, 1) := by decide +kernel
theorem dX9_isSame_79 : decode cX9_isSame 79 = .ok (.iload_n 3, 1) := by decide +kernel
theorem dX9_isSame_80 : decode cX9_isSame 80 = .ok (.aload_n 0, 1) := by decide +kernel
theorem dX9_isSame_81 : decode cX9_isSame 81 = .ok (.getfield 9, 3) := by decide +kernel
theorem dX9_isSame_84 : decode cX9_isSame 84 = .ok (.arraylength, 1) := by decide +kernel
theorem dX9_isSame_85 : decode cX9_isSame 85 = .ok (.if_icmp .ge 76, 3) := by decide +kernel
theorem dX9_isSame_88 : decode cX9_isSame 88 = .ok (.aload_n 0, 1) := by decide +kernel
theorem dX9_isSame_89 : decode cX9_isSame 89 = .ok (.getfield 9, 3) := by decide +kernel
theorem dX9_isSame_92 : decode cX9_isSame 92 = .ok (.iload_n 3, 1) := by decide +kernel
theorem dX9_isSame_93 : decode cX9_isSame 93 = .ok (.aaload, 1) := by decide +kernel
theorem dX9_isSame_94 : decode cX9_isSame 94 = .ok (.astore 4, 2) := by decide +kernel
theorem dX9_isSame_96 : decode cX9_isSame 96 = .ok (.aload_n 1, 1) := by decide +kernel
theorem dX9_isSame_97 : decode cX9_isSame 97 = .ok (.iload_n 3, 1) := by decide +kernel
theorem dX9_isSame_98 : decode cX9_isSame 98 = .ok (.invokevirtual 103, 3) := by decide +kernel
theorem dX9_isSame_101 : decode cX9_isSame 101 = .ok (.aload 4, 2) := by decide +kernel
theorem dX9_isSame_103 : decode cX9_isSame 103 = .ok (.iconst 0, 1) := by decide +kernel
theorem dX9_isSame_104 : decode cX9_isSame 104 = .ok (.iaload, 1) := by decide +kernel
theorem dX9_isSame_105 : decode cX9_isSame 105 = .ok (.if_icmp .ne 48, 3) := by decide +kernel
theorem dX9_isSame_108 : decode cX9_isSame 108 = .ok (.aload_n 1, 1) := by decide +kernel
theorem dX9_isSame_109 : decode cX9_isSame 109 = .ok (.iload_n 3, 1) := by decide +kernel
theorem dX9_isSame_110 : decode cX9_isSame 110 = .ok (.invokevirtual 106, 3) := by decide +kernel
theorem dX9_isSame_113 : decode cX9_isSame 113 = .ok (.aload 4, 2) := by decide +kernel
theorem dX9_isSame_115 : decode cX9_isSame 115 = .ok (.iconst 1, 1) := by decide +kernel
theorem dX9_isSame_116 : decode cX9_isSame 116 = .ok (.iaload, 1) := by decide +kernel
theorem dX9_isSame_117 : decode cX9_isSame 117 = .ok (.if_icmp .ne 36, 3) := by decide +kernel
theorem dX9_isSame_120 : decode cX9_isSame 120 = .ok (.aload_n 1, 1) := by decide +kernel
theorem dX9_isSame_121 : decode cX9_isSame 121 = .ok (.iload_n 3, 1) := by decide +kernel
theorem dX9_isSame_122 : decode cX9_isSame 122 = .ok (.invokevirtual 109, 3) := by decide +kernel
theorem dX9_isSame_125 : decode cX9_isSame 125 = .ok (.aload 4, 2) := by decide +kernel
theorem dX9_isSame_127 : decode cX9_isSame 127 = .ok (.iconst 2, 1) := by decide +kernel
theorem dX9_isSame_128 : decode cX9_isSame 128 = .ok (.iaload, 1) := by decide +kernel
theorem dX9_isSame_129 : decode cX9_isSame 129 = .ok (.if_icmp .ne 24, 3) := by decide +kernel
theorem dX9_isSame_132 : decode cX9_isSame 132 = .ok (.aload_n 1, 1) := by decide +kernel
theorem dX9_isSame_133 : decode cX9_isSame 133 = .ok (.iload_n 3, 1) := by decide +kernel
theorem dX9_isSame_134 : decode cX9_isSame 134 = .ok (.invokevirtual 112, 3) := by decide +kernel
theorem dX9_isSame_137 : decode cX9_isSame 137 = .ok (.aload 4, 2) := by decide +kernel
theorem dX9_isSame_139 : decode cX9_isSame 139 = .ok (.iconst 3, 1) := by decide +kernel
theorem dX9_isSame_140 : decode cX9_isSame 140 = .ok (.iaload, 1) := by decide +kernel
theorem dX9_isSame_141 : decode cX9_isSame 141 = .ok (.iconst 1, 1) := by decide +kernel
theorem dX9_isSame_142 : decode cX9_isSame 142 = .ok (.if_icmp .ne 7, 3) := by decide +kernel
theorem dX9_isSame_145 : decode cX9_isSame 145 = .ok (.iconst 1, 1) := by decide +kernel
theorem dX9_isSame_146 : decode cX9_isSame 146 = .ok (.goto 4, 3) := by decide +kernel
theorem dX9_isSame_149 : decode cX9_isSame 149 = .ok (.iconst 0, 1) := by decide +kernel
theorem dX9_isSame_150 : decode cX9_isSame 150 = .ok (.if_icmp .eq 5, 3) := by decide +kernel
theorem dX9_isSame_153 : decode cX9_isSame 153 = .ok (.iconst 0, 1) := by decide +kernel
theorem dX9_isSame_154 : decode cX9_isSame 154 = .ok (.ireturn, 1) := by decide +kernel
theorem dX9_isSame_155 : decode cX9_isSame 155 = .ok (.iinc 3 1, 3) := by decide +kernel
theorem dX9_isSame_158 : decode cX9_isSame 158 = .ok (.goto (-79), 3) := by decide +kernel
theorem dX9_isSame_161 : decode cX9_isSame 161 = .ok (.aload_n 0, 1) := by decide +kernel
theorem dX9_isSame_162 : decode cX9_isSame 162 = .ok (.invokevirtual 71, 3) := by decide +kernel
theorem dX9_isSame_165 : decode cX9_isSame 165 = .ok (.astore_n 3, 1) := by decide +kernel
theorem dX9_isSame_166 : decode cX9_isSame 166 = .ok (.aload_n 3, 1) := by decide +kernel
theorem dX9_isSame_167 : decode cX9_isSame 167 = .ok (.invokestatic 75, 3) := by decide +kernel
theorem dX9_isSame_170 : decode cX9_isSame 170 = .ok (.astore 4, 2) := by decide +kernel
theorem dX9_isSame_172 : decode cX9_isSame 172 = .ok (.aload_n 0, 1) := by decide +kernel
theorem dX9_isSame_173 : decode cX9_isSame 173 = .ok (.getfield 19, 3) := by decide +kernel
theorem dX9_isSame_176 : decode cX9_isSame 176 = .ok (.newarray .int, 2) := by decide +kernel
theorem dX9_isSame_178 : decode cX9_isSame 178 = .ok (.astore 5, 2) := by decide +kernel
theorem dX9_isSame_180 : decode cX9_isSame 180 = .ok (.aload_n 0, 1) := by decide +kernel
theorem dX9_isSame_181 : decode cX9_isSame 181 = .ok (.aload 5, 2) := by decide +kernel
theorem dX9_isSame_183 : decode cX9_isSame 183 = .ok (.invokevirtual 49, 3) := by decide +kernel
theorem dX9_isSame_186 : decode cX9_isSame 186 = .ok (.astore 6, 2) := by decide +kernel
theorem dX9_isSame_188 : decode cX9_isSame 188 = .ok (.aload_n 1, 1) := by decide +kernel
theorem dX9_isSame_189 : decode cX9_isSame 189 = .ok (.invokevirtual 116, 3) := by decide +kernel
theorem dX9_isSame_192 : decode cX9_isSame 192 = .ok (.aload 4, 2) := by decide +kernel
theorem dX9_isSame_194 : decode cX9_isSame 194 = .ok (.invokestatic 79, 3) := by decide +kernel
theorem dX9_isSame_197 : decode cX9_isSame 197 = .ok (.if_icmp .ne 63, 3) := by decide +kernel
theorem dX9_isSame_200 : decode cX9_isSame 200 = .ok (.aload_n 1, 1) := by decide +kernel
theorem dX9_isSame_201 : decode cX9_isSame 201 = .ok (.invokevirtual 118, 3) := by decide +kernel
theorem dX9_isSame_204 : decode cX9_isSame 204 = .ok (.aload 6, 2) := by decide +kernel
theorem dX9_isSame_206 : decode cX9_isSame 206 = .ok (.iconst 0, 1) := by decide +kernel
theorem dX9_isSame_207 : decode cX9_isSame 207 = .ok (.iaload, 1) := by decide +kernel
theorem dX9_isSame_208 : decode cX9_isSame 208 = .ok (.if_icmp .ne 52, 3) := by decide +kernel
theorem dX9_isSame_211 : decode cX9_isSame 211 = .ok (.aload_n 1, 1) := by decide +kernel
theorem dX9_isSame_212 : decode cX9_isSame 212 = .ok (.invokevirtual 119, 3) := by decide +kernel
theorem dX9_isSame_215 : decode cX9_isSame 215 = .ok (.aload 6, 2) := by decide +kernel
theorem dX9_isSame_217 : decode cX9_isSame 217 = .ok (.iconst 0, 1) := by decide +kernel
theorem dX9_isSame_218 : decode cX9_isSame 218 = .ok (.iaload, 1) := by decide +kernel
theorem dX9_isSame_219 : decode cX9_isSame 219 = .ok (.ifCond .le 7, 3) := by decide +kernel
theorem dX9_isSame_222 : decode cX9_isSame 222 = .ok (.iconst 1, 1) := by decide +kernel
theorem dX9_isSame_223 : decode cX9_isSame 223 = .ok (.goto 4, 3) := by decide +kernel
theorem dX9_isSame_226 : decode cX9_isSame 226 = .ok (.iconst 0, 1) := by decide +kernel
theorem dX9_isSame_227 : decode cX9_isSame 227 = .ok (.if_icmp .ne 33, 3) := by decide +kernel
theorem dX9_isSame_230 : decode cX9_isSame 230 = .ok (.aload_n 1, 1) := by decide +kernel
theorem dX9_isSame_231 : decode cX9_isSame 231 = .ok (.invokevirtual 123, 3) := by decide +kernel
theorem dX9_isSame_234 : decode cX9_isSame 234 = .ok (.aload 6, 2) := by decide +kernel
theorem dX9_isSame_236 : decode cX9_isSame 236 = .ok (.iconst 0, 1) := by decide +kernel
theorem dX9_isSame_237 : decode cX9_isSame 237 = .ok (.iaload, 1) := by decide +kernel
theorem dX9_isSame_238 : decode cX9_isSame 238 = .ok (.ifCond .ne 7, 3) := by decide +kernel
theorem dX9_isSame_241 : decode cX9_isSame 241 = .ok (.dconst 0, 1) := by decide +kernel
theorem dX9_isSame_242 : decode cX9_isSame 242 = .ok (.goto 14, 3) := by decide +kernel
theorem dX9_isSame_245 : decode cX9_isSame 245 = .ok (.aload 6, 2) := by decide +kernel
theorem dX9_isSame_247 : decode cX9_isSame 247 = .ok (.iconst 1, 1) := by decide +kernel
theorem dX9_isSame_248 : decode cX9_isSame 248 = .ok (.iaload, 1) := by decide +kernel
theorem dX9_isSame_249 : decode cX9_isSame 249 = .ok (.i2d, 1) := by decide +kernel
theorem dX9_isSame_250 : decode cX9_isSame 250 = .ok (.aload 6, 2) := by decide +kernel
theorem dX9_isSame_252 : decode cX9_isSame 252 = .ok (.iconst 0, 1) := by decide +kernel
theorem dX9_isSame_253 : decode cX9_isSame 253 = .ok (.iaload, 1) := by decide +kernel
theorem dX9_isSame_254 : decode cX9_isSame 254 = .ok (.i2d, 1) := by decide +kernel
theorem dX9_isSame_255 : decode cX9_isSame 255 = .ok (.ddiv, 1) := by decide +kernel
theorem dX9_isSame_256 : decode cX9_isSame 256 = .ok (.dcmp .l, 1) := by decide +kernel
theorem dX9_isSame_257 : decode cX9_isSame 257 = .ok (.ifCond .eq 5, 3) := by decide +kernel
theorem dX9_isSame_260 : decode cX9_isSame 260 = .ok (.iconst 0, 1) := by decide +kernel
theorem dX9_isSame_261 : decode cX9_isSame 261 = .ok (.ireturn, 1) := by decide +kernel
theorem dX9_isSame_262 : decode cX9_isSame 262 = .ok (.iconst (-1), 1) := by decide +kernel
theorem dX9_isSame_263 : decode cX9_isSame 263 = .ok (.istore 7, 2) := by decide +kernel
theorem dX9_isSame_265 : decode cX9_isSame 265 = .ok (.iload_n 2, 1) := by decide +kernel
theorem dX9_isSame_266 : decode cX9_isSame 266 = .ok (.iconst 1, 1) := by decide +kernel
theorem dX9_isSame_267 : decode cX9_isSame 267 = .ok (.isub, 1) := by decide +kernel
theorem dX9_isSame_268 : decode cX9_isSame 268 = .ok (.istore 8, 2) := by decide +kernel
theorem dX9_isSame_270 : decode cX9_isSame 270 = .ok (.iload 8, 2) := by decide +kernel
theorem dX9_isSame_272 : decode cX9_isSame 272 = .ok (.ifCond .lt 259, 3) := by decide +kernel
theorem dX9_isSame_275 : decode cX9_isSame 275 = .ok (.iconst 0, 1) := by decide +kernel
theorem dX9_isSame_276 : decode cX9_isSame 276 = .ok (.istore 9, 2) := by decide +kernel
theorem dX9_isSame_278 : decode cX9_isSame 278 = .ok (.iconst 0, 1) := by decide +kernel
theorem dX9_isSame_279 : decode cX9_isSame 279 = .ok (.istore 10, 2) := by decide +kernel
theorem dX9_isSame_281 : decode cX9_isSame 281 = .ok (.iconst 0, 1) := by decide +kernel
theorem dX9_isSame_282 : decode cX9_isSame 282 = .ok (.istore 11, 2) := by decide +kernel
theorem dX9_isSame_284 : decode cX9_isSame 284 = .ok (.iload 11, 2) := by decide +kernel
theorem dX9_isSame_286 : decode cX9_isSame 286 = .ok (.iload_n 2, 1) := by decide +kernel
theorem dX9_isSame_287 : decode cX9_isSame 287 = .ok (.if_icmp .ge 101, 3) := by decide +kernel
theorem dX9_isSame_290 : decode cX9_isSame 290 = .ok (.iload 9, 2) := by decide +kernel
theorem dX9_isSame_292 : decode cX9_isSame 292 = .ok (.aload_n 3, 1) := by decide +kernel
theorem dX9_isSame_293 : decode cX9_isSame 293 = .ok (.iload 8, 2) := by decide +kernel
theorem dX9_isSame_295 : decode cX9_isSame 295 = .ok (.aaload, 1) := by decide +kernel
theorem dX9_isSame_296 : decode cX9_isSame 296 = .ok (.iload 11, 2) := by decide +kernel
theorem dX9_isSame_298 : decode cX9_isSame 298 = .ok (.iaload, 1) := by decide +kernel
theorem dX9_isSame_299 : decode cX9_isSame 299 = .ok (.sipush 999, 3) := by decide +kernel
theorem dX9_isSame_302 : decode cX9_isSame 302 = .ok (.if_icmp .ge 7, 3) := by decide +kernel
theorem dX9_isSame_305 : decode cX9_isSame 305 = .ok (.iconst 1, 1) := by decide +kernel
theorem dX9_isSame_306 : decode cX9_isSame 306 = .ok (.goto 4, 3) := by decide +kernel
theorem dX9_isSame_309 : decode cX9_isSame 309 = .ok (.iconst 0, 1) := by decide +kernel
theorem dX9_isSame_310 : decode cX9_isSame 310 = .ok (.iadd, 1) := by decide +kernel
theorem dX9_isSame_311 : decode cX9_isSame 311 = .ok (.istore 9, 2) := by decide +kernel
theorem dX9_isSame_313 : decode cX9_isSame 313 = .ok (.iload 10, 2) := by decide +kernel
theorem dX9_isSame_315 : decode cX9_isSame 315 = .ok (.aload 4, 2) := by decide +kernel
theorem dX9_isSame_317 : decode cX9_isSame 317 = .ok (.iload 11, 2) := by decide +kernel
theorem dX9_isSame_319 : decode cX9_isSame 319 = .ok (.iaload, 1) := by decide +kernel
theorem dX9_isSame_320 : decode cX9_isSame 320 = .ok (.aload 4, 2) := by decide +kernel
theorem dX9_isSame_322 : decode cX9_isSame 322 = .ok (.iload 8, 2) := by decide +kernel
theorem dX9_isSame_324 : decode cX9_isSame 324 = .ok (.iaload, 1) := by decide +kernel
theorem dX9_isSame_325 : decode cX9_isSame 325 = .ok (.if_icmp .ne 7, 3) := by decide +kernel
theorem dX9_isSame_328 : decode cX9_isSame 328 = .ok (.iconst 1, 1) := by decide +kernel
theorem dX9_isSame_329 : decode cX9_isSame 329 = .ok (.goto 4, 3) := by decide +kernel
theorem dX9_isSame_332 : decode cX9_isSame 332 = .ok (.iconst 0, 1) := by decide +kernel
theorem dX9_isSame_333 : decode cX9_isSame 333 = .ok (.iadd, 1) := by decide +kernel
theorem dX9_isSame_334 : decode cX9_isSame 334 = .ok (.istore 10, 2) := by decide +kernel
theorem dX9_isSame_336 : decode cX9_isSame 336 = .ok (.iload 8, 2) := by decide +kernel
theorem dX9_isSame_338 : decode cX9_isSame 338 = .ok (.iload 11, 2) := by decide +kernel
theorem dX9_isSame_340 : decode cX9_isSame 340 = .ok (.iadd, 1) := by decide +kernel
theorem dX9_isSame_341 : decode cX9_isSame 341 = .ok (.aload_n 0, 1) := by decide +kernel
theorem dX9_isSame_342 : decode cX9_isSame 342 = .ok (.getfield 23, 3) := by decide +kernel
theorem dX9_isSame_345 : decode cX9_isSame 345 = .ok (.iadd, 1) := by decide +kernel
theorem dX9_isSame_346 : decode cX9_isSame 346 = .ok (.iconst 3, 1) := by decide +kernel
theorem dX9_isSame_347 : decode cX9_isSame 347 = .ok (.irem, 1) := by decide +kernel
theorem dX9_isSame_348 : decode cX9_isSame 348 = .ok (.ifCond .ne 34, 3) := by decide +kernel
theorem dX9_isSame_351 : decode cX9_isSame 351 = .ok (.aload_n 1, 1) := by decide +kernel
theorem dX9_isSame_352 : decode cX9_isSame 352 = .ok (.iload 11, 2) := by decide +kernel
theorem dX9_isSame_354 : decode cX9_isSame 354 = .ok (.iload 8, 2) := by decide +kernel
theorem dX9_isSame_356 : decode cX9_isSame 356 = .ok (.invokevirtual 127, 3) := by decide +kernel
theorem dX9_isSame_359 : decode cX9_isSame 359 = .ok (.aload_n 3, 1) := by decide +kernel
theorem dX9_isSame_360 : decode cX9_isSame 360 = .ok (.iload 8, 2) := by decide +kernel
theorem dX9_isSame_362 : decode cX9_isSame 362 = .ok (.aaload, 1) := by decide +kernel
theorem dX9_isSame_363 : decode cX9_isSame 363 = .ok (.iload 11, 2) := by decide +kernel
theorem dX9_isSame_365 : decode cX9_isSame 365 = .ok (.iaload, 1) := by decide +kernel
theorem dX9_isSame_366 : decode cX9_isSame 366 = .ok (.sipush 999, 3) := by decide +kernel
theorem dX9_isSame_369 : decode cX9_isSame 369 = .ok (.if_icmp .ge 7, 3) := by decide +kernel
theorem dX9_isSame_372 : decode cX9_isSame 372 = .ok (.iconst 1, 1) := by decide +kernel
theorem dX9_isSame_373 : decode cX9_isSame 373 = .ok (.goto 4, 3) := by decide +kernel
theorem dX9_isSame_376 : decode cX9_isSame 376 = .ok (.iconst 0, 1) := by decide +kernel
theorem dX9_isSame_377 : decode cX9_isSame 377 = .ok (.if_icmp .eq 5, 3) := by decide +kernel
theorem dX9_isSame_380 : decode cX9_isSame 380 = .ok (.iconst 0, 1) := by decide +kernel
theorem dX9_isSame_381 : decode cX9_isSame 381 = .ok (.ireturn, 1) := by decide +kernel
theorem dX9_isSame_382 : decode cX9_isSame 382 = .ok (.iinc 11 1, 3) := by decide +kernel
theorem dX9_isSame_385 : decode cX9_isSame 385 = .ok (.goto (-101), 3) := by decide +kernel
theorem dX9_isSame_388 : decode cX9_isSame 388 = .ok (.aload_n 1, 1) := by decide +kernel
theorem dX9_isSame_389 : decode cX9_isSame 389 = .ok (.iload 8, 2) := by decide +kernel
theorem dX9_isSame_391 : decode cX9_isSame 391 = .ok (.invokevirtual 131, 3) := by decide +kernel
theorem dX9_isSame_394 : decode cX9_isSame 394 = .ok (.iload 9, 2) := by decide +kernel
theorem dX9_isSame_396 : decode cX9_isSame 396 = .ok (.if_icmp .ne 68, 3) := by decide +kernel
theorem dX9_isSame_399 : decode cX9_isSame 399 = .ok (.aload_n 1, 1) := by decide +kernel
theorem dX9_isSame_400 : decode cX9_isSame 400 = .ok (.iload 8, 2) := by decide +kernel
theorem dX9_isSame_402 : decode cX9_isSame 402 = .ok (.invokevirtual 134, 3) := by decide +kernel
theorem dX9_isSame_405 : decode cX9_isSame 405 = .ok (.aload 4, 2) := by decide +kernel
theorem dX9_isSame_407 : decode cX9_isSame 407 = .ok (.iload 8, 2) := by decide +kernel
theorem dX9_isSame_409 : decode cX9_isSame 409 = .ok (.iaload, 1) := by decide +kernel
theorem dX9_isSame_410 : decode cX9_isSame 410 = .ok (.if_icmp .ne 54, 3) := by decide +kernel
theorem dX9_isSame_413 : decode cX9_isSame 413 = .ok (.aload_n 1, 1) := by decide +kernel
theorem dX9_isSame_414 : decode cX9_isSame 414 = .ok (.iload 8, 2) := by decide +kernel
theorem dX9_isSame_416 : decode cX9_isSame 416 = .ok (.invokevirtual 137, 3) := by decide +kernel
theorem dX9_isSame_419 : decode cX9_isSame 419 = .ok (.iload 10, 2) := by decide +kernel
theorem dX9_isSame_421 : decode cX9_isSame 421 = .ok (.if_icmp .ne 43, 3) := by decide +kernel
theorem dX9_isSame_424 : decode cX9_isSame 424 = .ok (.aload_n 1, 1) := by decide +kernel
theorem dX9_isSame_425 : decode cX9_isSame 425 = .ok (.iload 8, 2) := by decide +kernel
theorem dX9_isSame_427 : decode cX9_isSame 427 = .ok (.invokevirtual 140, 3) := by decide +kernel
theorem dX9_isSame_430 : decode cX9_isSame 430 = .ok (.aload 6, 2) := by decide +kernel
theorem dX9_isSame_432 : decode cX9_isSame 432 = .ok (.iconst 2, 1) := by decide +kernel
theorem dX9_isSame_433 : decode cX9_isSame 433 = .ok (.iload 8, 2) := by decide +kernel
theorem dX9_isSame_435 : decode cX9_isSame 435 = .ok (.iadd, 1) := by decide +kernel
theorem dX9_isSame_436 : decode cX9_isSame 436 = .ok (.iaload, 1) := by decide +kernel
theorem dX9_isSame_437 : decode cX9_isSame 437 = .ok (.if_icmp .ne 27, 3) := by decide +kernel
theorem dX9_isSame_440 : decode cX9_isSame 440 = .ok (.aload_n 1, 1) := by decide +kernel
theorem dX9_isSame_441 : decode cX9_isSame 441 = .ok (.iload 8, 2) := by decide +kernel
theorem dX9_isSame_443 : decode cX9_isSame 443 = .ok (.invokevirtual 143, 3) := by decide +kernel
theorem dX9_isSame_446 : decode cX9_isSame 446 = .ok (.aload 6, 2) := by decide +kernel
theorem dX9_isSame_448 : decode cX9_isSame 448 = .ok (.iconst 2, 1) := by decide +kernel
theorem dX9_isSame_449 : decode cX9_isSame 449 = .ok (.iload 8, 2) := by decide +kernel
theorem dX9_isSame_451 : decode cX9_isSame 451 = .ok (.iadd, 1) := by decide +kernel
theorem dX9_isSame_452 : decode cX9_isSame 452 = .ok (.iaload, 1) := by decide +kernel
theorem dX9_isSame_453 : decode cX9_isSame 453 = .ok (.ifCond .le 7, 3) := by decide +kernel
theorem dX9_isSame_456 : decode cX9_isSame 456 = .ok (.iconst 1, 1) := by decide +kernel
theorem dX9_isSame_457 : decode cX9_isSame 457 = .ok (.goto 4, 3) := by decide +kernel
theorem dX9_isSame_460 : decode cX9_isSame 460 = .ok (.iconst 0, 1) := by decide +kernel
theorem dX9_isSame_461 : decode cX9_isSame 461 = .ok (.if_icmp .eq 5, 3) := by decide +kernel
theorem dX9_isSame_464 : decode cX9_isSame 464 = .ok (.iconst 0, 1) := by decide +kernel
theorem dX9_isSame_465 : decode cX9_isSame 465 = .ok (.ireturn, 1) := by decide +kernel
theorem dX9_isSame_466 : decode cX9_isSame 466 = .ok (.aload 6, 2) := by decide +kernel
theorem dX9_isSame_468 : decode cX9_isSame 468 = .ok (.iconst 0, 1) := by decide +kernel
theorem dX9_isSame_469 : decode cX9_isSame 469 = .ok (.iaload, 1) := by decide +kernel
theorem dX9_isSame_470 : decode cX9_isSame 470 = .ok (.ifCond .le 33, 3) := by decide +kernel
theorem dX9_isSame_473 : decode cX9_isSame 473 = .ok (.aload_n 1, 1) := by decide +kernel
theorem dX9_isSame_474 : decode cX9_isSame 474 = .ok (.iload 8, 2) := by decide +kernel
theorem dX9_isSame_476 : decode cX9_isSame 476 = .ok (.invokevirtual 146, 3) := by decide +kernel
theorem dX9_isSame_479 : decode cX9_isSame 479 = .ok (.aload 6, 2) := by decide +kernel
theorem dX9_isSame_481 : decode cX9_isSame 481 = .ok (.iconst 2, 1) := by decide +kernel
theorem dX9_isSame_482 : decode cX9_isSame 482 = .ok (.iload 8, 2) := by decide +kernel
theorem dX9_isSame_484 : decode cX9_isSame 484 = .ok (.iadd, 1) := by decide +kernel
theorem dX9_isSame_485 : decode cX9_isSame 485 = .ok (.iaload, 1) := by decide +kernel
theorem dX9_isSame_486 : decode cX9_isSame 486 = .ok (.aload 6, 2) := by decide +kernel
theorem dX9_isSame_488 : decode cX9_isSame 488 = .ok (.iconst 0, 1) := by decide +kernel
theorem dX9_isSame_489 : decode cX9_isSame 489 = .ok (.iaload, 1) := by decide +kernel
theorem dX9_isSame_490 : decode cX9_isSame 490 = .ok (.if_icmp .ne 7, 3) := by decide +kernel
theorem dX9_isSame_493 : decode cX9_isSame 493 = .ok (.iconst 1, 1) := by decide +kernel
theorem dX9_isSame_494 : decode cX9_isSame 494 = .ok (.goto 4, 3) := by decide +kernel
theorem dX9_isSame_497 : decode cX9_isSame 497 = .ok (.iconst 0, 1) := by decide +kernel
theorem dX9_isSame_498 : decode cX9_isSame 498 = .ok (.if_icmp .eq 5, 3) := by decide +kernel
theorem dX9_isSame_501 : decode cX9_isSame 501 = .ok (.iconst 0, 1) := by decide +kernel
theorem dX9_isSame_502 : decode cX9_isSame 502 = .ok (.ireturn, 1) := by decide +kernel
theorem dX9_isSame_503 : decode cX9_isSame 503 = .ok (.aload 4, 2) := by decide +kernel
theorem dX9_isSame_505 : decode cX9_isSame 505 = .ok (.iload 8, 2) := by decide +kernel
theorem dX9_isSame_507 : decode cX9_isSame 507 = .ok (.iaload, 1) := by decide +kernel
theorem dX9_isSame_508 : decode cX9_isSame 508 = .ok (.aload 4, 2) := by decide +kernel
theorem dX9_isSame_510 : decode cX9_isSame 510 = .ok (.iload 8, 2) := by decide +kernel
theorem dX9_isSame_512 : decode cX9_isSame 512 = .ok (.invokestatic 53, 3) := by decide +kernel
theorem dX9_isSame_515 : decode cX9_isSame 515 = .ok (.iaload, 1) := by decide +kernel
theorem dX9_isSame_516 : decode cX9_isSame 516 = .ok (.if_icmp .ne 9, 3) := by decide +kernel
theorem dX9_isSame_519 : decode cX9_isSame 519 = .ok (.iload 8, 2) := by decide +kernel
theorem dX9_isSame_521 : decode cX9_isSame 521 = .ok (.iconst 2, 1) := by decide +kernel
theorem dX9_isSame_522 : decode cX9_isSame 522 = .ok (.idiv, 1) := by decide +kernel
theorem dX9_isSame_523 : decode cX9_isSame 523 = .ok (.istore 7, 2) := by decide +kernel
theorem dX9_isSame_525 : decode cX9_isSame 525 = .ok (.iinc 8 (-1), 3) := by decide +kernel
theorem dX9_isSame_528 : decode cX9_isSame 528 = .ok (.goto (-258), 3) := by decide +kernel
theorem dX9_isSame_531 : decode cX9_isSame 531 = .ok (.iload 7, 2) := by decide +kernel
theorem dX9_isSame_533 : decode cX9_isSame 533 = .ok (.ifCond .lt 7, 3) := by decide +kernel
theorem dX9_isSame_536 : decode cX9_isSame 536 = .ok (.iconst 1, 1) := by decide +kernel
theorem dX9_isSame_537 : decode cX9_isSame 537 = .ok (.goto 4, 3) := by decide +kernel
theorem dX9_isSame_540 : decode cX9_isSame 540 = .ok (.iconst 0, 1) := by decide +kernel
theorem dX9_isSame_541 : decode cX9_isSame 541 = .ok (.aload 6, 2) := by decide +kernel
theorem dX9_isSame_543 : decode cX9_isSame 543 = .ok (.iconst 0, 1) := by decide +kernel
theorem dX9_isSame_544 : decode cX9_isSame 544 = .ok (.iaload, 1) := by decide +kernel
theorem dX9_isSame_545 : decode cX9_isSame 545 = .ok (.ifCond .ne 7, 3) := by decide +kernel
theorem dX9_isSame_548 : decode cX9_isSame 548 = .ok (.iconst 1, 1) := by decide +kernel
theorem dX9_isSame_549 : decode cX9_isSame 549 = .ok (.goto 4, 3) := by decide +kernel
theorem dX9_isSame_552 : decode cX9_isSame 552 = .ok (.iconst 0, 1) := by decide +kernel
theorem dX9_isSame_553 : decode cX9_isSame 553 = .ok (.if_icmp .eq 5, 3) := by decide +kernel
theorem dX9_isSame_556 : decode cX9_isSame 556 = .ok (.iconst 0, 1) := by decide +kernel
theorem dX9_isSame_557 : decode cX9_isSame 557 = .ok (.ireturn, 1) := by decide +kernel
theorem dX9_isSame_558 : decode cX9_isSame 558 = .ok (.iload 7, 2) := by decide +kernel
theorem dX9_isSame_560 : decode cX9_isSame 560 = .ok (.ifCond .lt 18, 3) := by decide +kernel
theorem dX9_isSame_563 : decode cX9_isSame 563 = .ok (.aload_n 1, 1) := by decide +kernel
theorem dX9_isSame_564 : decode cX9_isSame 564 = .ok (.invokevirtual 149, 3) := by decide +kernel
theorem dX9_isSame_567 : decode cX9_isSame 567 = .ok (.iload 7, 2) := by decide +kernel
theorem dX9_isSame_569 : decode cX9_isSame 569 = .ok (.if_icmp .ne 7, 3) := by decide +kernel
theorem dX9_isSame_572 : decode cX9_isSame 572 = .ok (.iconst 1, 1) := by decide +kernel
theorem dX9_isSame_573 : decode cX9_isSame 573 = .ok (.goto 4, 3) := by decide +kernel
theorem dX9_isSame_576 : decode cX9_isSame 576 = .ok (.iconst 0, 1) := by decide +kernel
theorem dX9_isSame_577 : decode cX9_isSame 577 = .ok (.ireturn, 1) := by decide +kernel
theorem dX9_isSame_578 : decode cX9_isSame 578 = .ok (.iconst 0, 1) := by decide +kernel
theorem dX9_isSame_579 : decode cX9_isSame 579 = .ok (.istore 8, 2) := by decide +kernel
theorem dX9_isSame_581 : decode cX9_isSame 581 = .ok (.iconst 0, 1) := by decide +kernel
theorem dX9_isSame_582 : decode cX9_isSame 582 = .ok (.istore 9, 2) := by decide +kernel
theorem dX9_isSame_584 : decode cX9_isSame 584 = .ok (.iload 9, 2) := by decide +kernel
theorem dX9_isSame_586 : decode cX9_isSame 586 = .ok (.aload_n 0, 1) := by decide +kernel
theorem dX9_isSame_587 : decode cX9_isSame 587 = .ok (.getfield 19, 3) := by decide +kernel
theorem dX9_isSame_590 : decode cX9_isSame 590 = .ok (.if_icmp .ge 45, 3) := by decide +kernel
theorem dX9_isSame_593 : decode cX9_isSame 593 = .ok (.aload_n 1, 1) := by decide +kernel
theorem dX9_isSame_594 : decode cX9_isSame 594 = .ok (.iload 9, 2) := by decide +kernel
theorem dX9_isSame_596 : decode cX9_isSame 596 = .ok (.invokevirtual 152, 3) := by decide +kernel
theorem dX9_isSame_599 : decode cX9_isSame 599 = .ok (.aload 5, 2) := by decide +kernel
theorem dX9_isSame_601 : decode cX9_isSame 601 = .ok (.iload 9, 2) := by decide +kernel
theorem dX9_isSame_603 : decode cX9_isSame 603 = .ok (.iaload, 1) := by decide +kernel
theorem dX9_isSame_604 : decode cX9_isSame 604 = .ok (.ifCond .ne 7, 3) := by decide +kernel
theorem dX9_isSame_607 : decode cX9_isSame 607 = .ok (.iconst 1, 1) := by decide +kernel
theorem dX9_isSame_608 : decode cX9_isSame 608 = .ok (.goto 4, 3) := by decide +kernel
theorem dX9_isSame_611 : decode cX9_isSame 611 = .ok (.iconst 0, 1) := by decide +kernel
theorem dX9_isSame_612 : decode cX9_isSame 612 = .ok (.if_icmp .eq 5, 3) := by decide +kernel
theorem dX9_isSame_615 : decode cX9_isSame 615 = .ok (.iconst 0, 1) := by decide +kernel
theorem dX9_isSame_616 : decode cX9_isSame 616 = .ok (.ireturn, 1) := by decide +kernel
theorem dX9_isSame_617 : decode cX9_isSame 617 = .ok (.iload 8, 2) := by decide +kernel
theorem dX9_isSame_619 : decode cX9_isSame 619 = .ok (.iconst 1, 1) := by decide +kernel
theorem dX9_isSame_620 : decode cX9_isSame 620 = .ok (.aload 5, 2) := by decide +kernel
theorem dX9_isSame_622 : decode cX9_isSame 622 = .ok (.iload 9, 2) := by decide +kernel
theorem dX9_isSame_624 : decode cX9_isSame 624 = .ok (.iaload, 1) := by decide +kernel
theorem dX9_isSame_625 : decode cX9_isSame 625 = .ok (.isub, 1) := by decide +kernel
theorem dX9_isSame_626 : decode cX9_isSame 626 = .ok (.iadd, 1) := by decide +kernel
theorem dX9_isSame_627 : decode cX9_isSame 627 = .ok (.istore 8, 2) := by decide +kernel
theorem dX9_isSame_629 : decode cX9_isSame 629 = .ok (.iinc 9 1, 3) := by decide +kernel
theorem dX9_isSame_632 : decode cX9_isSame 632 = .ok (.goto (-48), 3) := by decide +kernel
theorem dX9_isSame_635 : decode cX9_isSame 635 = .ok (.aload_n 1, 1) := by decide +kernel
theorem dX9_isSame_636 : decode cX9_isSame 636 = .ok (.invokevirtual 155, 3) := by decide +kernel
theorem dX9_isSame_639 : decode cX9_isSame 639 = .ok (.iload 8, 2) := by decide +kernel
theorem dX9_isSame_641 : decode cX9_isSame 641 = .ok (.if_icmp .ne 7, 3) := by decide +kernel
theorem dX9_isSame_644 : decode cX9_isSame 644 = .ok (.iconst 1, 1) := by decide +kernel
theorem dX9_isSame_645 : decode cX9_isSame 645 = .ok (.goto 4, 3) := by decide +kernel
theorem dX9_isSame_648 : decode cX9_isSame 648 = .ok (.iconst 0, 1) := by decide +kernel
theorem dX9_isSame_649 : decode cX9_isSame 649 = .ok (.ireturn, 1) := by decide +kernel
theorem dJ5_init_d00df_0 : decode cJ5_init_d00df 0 = .ok (.aload_n 0, 1) := by decide +kernel
theorem dJ5_init_d00df_1 : decode cJ5_init_d00df 1 = .ok (.invokespecial 3, 3) := by decide +kernel
theorem dJ5_init_d00df_4 : decode cJ5_init_d00df 4 = .ok (.getstatic 18, 3) := by decide +kernel
theorem dJ5_init_d00df_7 : decode cJ5_init_d00df 7 = .ok (.ifCond .eq 18, 3) := by decide +kernel
theorem dJ5_init_d00df_10 : decode cJ5_init_d00df 10 = .ok (.aload_n 0, 1) := by decide +kernel
theorem dJ5_init_d00df_11 : decode cJ5_init_d00df 11 = .ok (.iload_n 1, 1) := by decide +kernel
theorem dJ5_init_d00df_12 : decode cJ5_init_d00df 12 = .ok (.newarray .byte, 2) := by decide +kernel
theorem dJ5_init_d00df_14 : decode cJ5_init_d00df 14 = .ok (.putfield 15, 3) := by decide +kernel
theorem dJ5_init_d00df_17 : decode cJ5_init_d00df 17 = .ok (.aload_n 0, 1) := by decide +kernel
theorem dJ5_init_d00df_18 : decode cJ5_init_d00df 18 = .ok (.iconst 0, 1) := by decide +kernel
theorem dJ5_init_d00df_19 : decode cJ5_init_d00df 19 = .ok (.putfield 22, 3) := by decide +kernel
theorem dJ5_init_d00df_22 : decode cJ5_init_d00df 22 = .ok (.goto 16, 3) := by decide +kernel
theorem dJ5_init_d00df_25 : decode cJ5_init_d00df 25 = .ok (.aload_n 0, 1) := by decide +kernel
theorem dJ5_init_d00df_26 : decode cJ5_init_d00df 26 = .ok (.iload_n 1, 1) := by decide +kernel
theorem dJ5_init_d00df_27 : decode cJ5_init_d00df 27 = .ok (.invokestatic 26, 3) := by decide +kernel
theorem dJ5_init_d00df_30 : decode cJ5_init_d00df 30 = .ok (.putfield 15, 3) := by decide +kernel
theorem dJ5_init_d00df_33 : decode cJ5_init_d00df 33 = .ok (.aload_n 0, 1) := by decide +kernel
theorem dJ5_init_d00df_34 : decode cJ5_init_d00df 34 = .ok (.iconst 1, 1) := by decide +kernel
theorem dJ5_init_d00df_35 : decode cJ5_init_d00df 35 = .ok (.putfield 22, 3) := by decide +kernel
theorem dJ5_init_d00df_38 : decode cJ5_init_d00df 38 = .ok (.return_, 1) := by decide +kernel
theorem dJ5_length_8abf5_0 : decode cJ5_length_8abf5 0 = .ok (.aload_n 0, 1) := by decide +kernel
theorem dJ5_length_8abf5_1 : decode cJ5_length_8abf5 1 = .ok (.getfield 79, 3) := by decide +kernel
theorem dJ5_length_8abf5_4 : decode cJ5_length_8abf5 4 = .ok (.ireturn, 1) := by decide +kernel
theorem dJ5_ensureCapacityInternal_d00df_0 : decode cJ5_ensureCapacityInternal_d00df 0 = .ok (.aload_n 0, 1) := by decide +kernel
theorem dJ5_ensureCapacityInternal_d00df_1 : decode cJ5_ensureCapacityInternal_d00df 1 = .ok (.getfield 15, 3) := by decide +kernel
theorem dJ5_ensureCapacityInternal_d00df_4 : decode cJ5_ensureCapacityInternal_d00df 4 = .ok (.arraylength, 1) := by decide +kernel
theorem dJ5_ensureCapacityInternal_d00df_5 : decode cJ5_ensureCapacityInternal_d00df 5 = .ok (.aload_n 0, 1) := by decide +kernel
theorem dJ5_ensureCapacityInternal_d00df_6 : decode cJ5_ensureCapacityInternal_d00df 6 = .ok (.getfield 22, 3) := by decide +kernel
theorem dJ5_ensureCapacityInternal_d00df_9 : decode cJ5_ensureCapacityInternal_d00df 9 = .ok (.ishr, 1) := by decide +kernel
theorem dJ5_ensureCapacityInternal_d00df_10 : decode cJ5_ensureCapacityInternal_d00df 10 = .ok (.istore_n 2, 1) := by decide +kernel
theorem dJ5_ensureCapacityInternal_d00df_11 : decode cJ5_ensureCapacityInternal_d00df 11 = .ok (.iload_n 1, 1) := by decide +kernel
theorem dJ5_ensureCapacityInternal_d00df_12 : decode cJ5_ensureCapacityInternal_d00df 12 = .ok (.iload_n 2, 1) := by decide +kernel
theorem dJ5_ensureCapacityInternal_d00df_13 : decode cJ5_ensureCapacityInternal_d00df 13 = .ok (.isub, 1) := by decide +kernel
theorem dJ5_ensureCapacityInternal_d00df_14 : decode cJ5_ensureCapacityInternal_d00df 14 = .ok (.ifCond .le 24, 3) := by decide +kernel
theorem dJ5_ensureCapacityInternal_d00df_17 : decode cJ5_ensureCapacityInternal_d00df 17 = .ok (.aload_n 0, 1) := by decide +kernel
theorem dJ5_ensureCapacityInternal_d00df_18 : decode cJ5_ensureCapacityInternal_d00df 18 = .ok (.aload_n 0, 1) := by decide +kernel
theorem dJ5_ensureCapacityInternal_d00df_19 : decode cJ5_ensureCapacityInternal_d00df 19 = .ok (.getfield 15, 3) := by decide +kernel
theorem dJ5_ensureCapacityInternal_d00df_22 : decode cJ5_ensureCapacityInternal_d00df 22 = .ok (.aload_n 0, 1) := by decide +kernel
theorem dJ5_ensureCapacityInternal_d00df_23 : decode cJ5_ensureCapacityInternal_d00df 23 = .ok (.iload_n 1, 1) := by decide +kernel
theorem dJ5_ensureCapacityInternal_d00df_24 : decode cJ5_ensureCapacityInternal_d00df 24 = .ok (.invokevirtual 104, 3) := by decide +kernel
theorem dJ5_ensureCapacityInternal_d00df_27 : decode cJ5_ensureCapacityInternal_d00df 27 = .ok (.aload_n 0, 1) := by decide +kernel
theorem dJ5_ensureCapacityInternal_d00df_28 : decode cJ5_ensureCapacityInternal_d00df 28 = .ok (.getfield 22, 3) := by decide +kernel
theorem dJ5_ensureCapacityInternal_d00df_31 : decode cJ5_ensureCapacityInternal_d00df 31 = .ok (.ishl, 1) := by decide +kernel
theorem dJ5_ensureCapacityInternal_d00df_32 : decode cJ5_ensureCapacityInternal_d00df 32 = .ok (.invokestatic 108, 3) := by decide +kernel
theorem dJ5_ensureCapacityInternal_d00df_35 : decode cJ5_ensureCapacityInternal_d00df 35 = .ok (.putfield 15, 3) := by decide +kernel
theorem dJ5_ensureCapacityInternal_d00df_38 : decode cJ5_ensureCapacityInternal_d00df 38 = .ok (.return_, 1) := by decide +kernel
theorem dJ5_newCapacity_0f7a4_0 : decode cJ5_newCapacity_0f7a4 0 = .ok (.aload_n 0, 1) := by decide +kernel
theorem dJ5_newCapacity_0f7a4_1 : decode cJ5_newCapacity_0f7a4 1 = .ok (.getfield 15, 3) := by decide +kernel
theorem dJ5_newCapacity_0f7a4_4 : decode cJ5_newCapacity_0f7a4 4 = .ok (.arraylength, 1) := by decide +kernel
theorem dJ5_newCapacity_0f7a4_5 : decode cJ5_newCapacity_0f7a4 5 = .ok (.istore_n 2, 1) := by decide +kernel
theorem dJ5_newCapacity_0f7a4_6 : decode cJ5_newCapacity_0f7a4 6 = .ok (.iload_n 1, 1) := by decide +kernel
theorem dJ5_newCapacity_0f7a4_7 : decode cJ5_newCapacity_0f7a4 7 = .ok (.aload_n 0, 1) := by decide +kernel
theorem dJ5_newCapacity_0f7a4_8 : decode cJ5_newCapacity_0f7a4 8 = .ok (.getfield 22, 3) := by decide +kernel
theorem dJ5_newCapacity_0f7a4_11 : decode cJ5_newCapacity_0f7a4 11 = .ok (.ishl, 1) := by decide +kernel
theorem dJ5_newCapacity_0f7a4_12 : decode cJ5_newCapacity_0f7a4 12 = .ok (.istore_n 3, 1) := by decide +kernel
theorem dJ5_newCapacity_0f7a4_13 : decode cJ5_newCapacity_0f7a4 13 = .ok (.iload_n 3, 1) := by decide +kernel
theorem dJ5_newCapacity_0f7a4_14 : decode cJ5_newCapacity_0f7a4 14 = .ok (.iload_n 2, 1) := by decide +kernel
theorem dJ5_newCapacity_0f7a4_15 : decode cJ5_newCapacity_0f7a4 15 = .ok (.isub, 1) := by decide +kernel
theorem dJ5_newCapacity_0f7a4_16 : decode cJ5_newCapacity_0f7a4 16 = .ok (.istore 4, 2) := by decide +kernel
theorem dJ5_newCapacity_0f7a4_18 : decode cJ5_newCapacity_0f7a4 18 = .ok (.iload_n 2, 1) := by decide +kernel
theorem dJ5_newCapacity_0f7a4_19 : decode cJ5_newCapacity_0f7a4 19 = .ok (.iload 4, 2) := by decide +kernel
theorem dJ5_newCapacity_0f7a4_21 : decode cJ5_newCapacity_0f7a4 21 = .ok (.iload_n 2, 1) := by decide +kernel
theorem dJ5_newCapacity_0f7a4_22 : decode cJ5_newCapacity_0f7a4 22 = .ok (.iconst 2, 1) := by decide +kernel
theorem dJ5_newCapacity_0f7a4_23 : decode cJ5_newCapacity_0f7a4 23 = .ok (.aload_n 0, 1) := by decide +kernel
theorem dJ5_newCapacity_0f7a4_24 : decode cJ5_newCapacity_0f7a4 24 = .ok (.getfield 22, 3) := by decide +kernel
theorem dJ5_newCapacity_0f7a4_27 : decode cJ5_newCapacity_0f7a4 27 = .ok (.ishl, 1) := by decide +kernel
theorem dJ5_newCapacity_0f7a4_28 : decode cJ5_newCapacity_0f7a4 28 = .ok (.iadd, 1) := by decide +kernel
theorem dJ5_newCapacity_0f7a4_29 : decode cJ5_newCapacity_0f7a4 29 = .ok (.invokestatic 114, 3) := by decide +kernel
theorem dJ5_newCapacity_0f7a4_32 : decode cJ5_newCapacity_0f7a4 32 = .ok (.istore 5, 2) := by decide +kernel
theorem dJ5_newCapacity_0f7a4_34 : decode cJ5_newCapacity_0f7a4 34 = .ok (.iload 5, 2) := by decide +kernel
theorem dJ5_newCapacity_0f7a4_36 : decode cJ5_newCapacity_0f7a4 36 = .ok (.ldc 39, 2) := by decide +kernel
theorem dJ5_newCapacity_0f7a4_38 : decode cJ5_newCapacity_0f7a4 38 = .ok (.if_icmp .ne 13, 3) := by decide +kernel
theorem dJ5_newCapacity_0f7a4_41 : decode cJ5_newCapacity_0f7a4 41 = .ok (.new 120, 3) := by decide +kernel
theorem dJ5_newCapacity_0f7a4_44 : decode cJ5_newCapacity_0f7a4 44 = .ok (.dup, 1) := by decide +kernel
theorem dJ5_newCapacity_0f7a4_45 : decode cJ5_newCapacity_0f7a4 45 = .ok (.ldc 122, 2) := by decide +kernel
theorem dJ5_newCapacity_0f7a4_47 : decode cJ5_newCapacity_0f7a4 47 = .ok (.invokespecial 124, 3) := by decide +kernel
theorem dJ5_newCapacity_0f7a4_50 : decode cJ5_newCapacity_0f7a4 50 = .ok (.athrow, 1) := by decide +kernel
theorem dJ5_newCapacity_0f7a4_51 : decode cJ5_newCapacity_0f7a4 51 = .ok (.iload 5, 2) := by decide +kernel
theorem dJ5_newCapacity_0f7a4_53 : decode cJ5_newCapacity_0f7a4 53 = .ok (.aload_n 0, 1) := by decide +kernel
theorem dJ5_newCapacity_0f7a4_54 : decode cJ5_newCapacity_0f7a4 54 = .ok (.getfield 22, 3) := by decide +kernel
theorem dJ5_newCapacity_0f7a4_57 : decode cJ5_newCapacity_0f7a4 57 = .ok (.ishr, 1) := by decide +kernel
theorem dJ5_newCapacity_0f7a4_58 : decode cJ5_newCapacity_0f7a4 58 = .ok (.ireturn, 1) := by decide +kernel
theorem dJ5_inflate_da8c8_0 : decode cJ5_inflate_da8c8 0 = .ok (.aload_n 0, 1) := by decide +kernel
theorem dJ5_inflate_da8c8_1 : decode cJ5_inflate_da8c8 1 = .ok (.invokevirtual 83, 3) := by decide +kernel
theorem dJ5_inflate_da8c8_4 : decode cJ5_inflate_da8c8 4 = .ok (.ifCond .ne 4, 3) := by decide +kernel
theorem dJ5_inflate_da8c8_7 : decode cJ5_inflate_da8c8 7 = .ok (.return_, 1) := by decide +kernel
theorem dJ5_inflate_da8c8_8 : decode cJ5_inflate_da8c8 8 = .ok (.aload_n 0, 1) := by decide +kernel
theorem dJ5_inflate_da8c8_9 : decode cJ5_inflate_da8c8 9 = .ok (.getfield 15, 3) := by decide +kernel
theorem dJ5_inflate_da8c8_12 : decode cJ5_inflate_da8c8 12 = .ok (.arraylength, 1) := by decide +kernel
theorem dJ5_inflate_da8c8_13 : decode cJ5_inflate_da8c8 13 = .ok (.invokestatic 26, 3) := by decide +kernel
theorem dJ5_inflate_da8c8_16 : decode cJ5_inflate_da8c8 16 = .ok (.astore_n 1, 1) := by decide +kernel
theorem dJ5_inflate_da8c8_17 : decode cJ5_inflate_da8c8 17 = .ok (.aload_n 0, 1) := by decide +kernel
theorem dJ5_inflate_da8c8_18 : decode cJ5_inflate_da8c8 18 = .ok (.getfield 15, 3) := by decide +kernel
theorem dJ5_inflate_da8c8_21 : decode cJ5_inflate_da8c8 21 = .ok (.iconst 0, 1) := by decide +kernel
theorem dJ5_inflate_da8c8_22 : decode cJ5_inflate_da8c8 22 = .ok (.aload_n 1, 1) := by decide +kernel
theorem dJ5_inflate_da8c8_23 : decode cJ5_inflate_da8c8 23 = .ok (.iconst 0, 1) := by decide +kernel
theorem dJ5_inflate_da8c8_24 : decode cJ5_inflate_da8c8 24 = .ok (.aload_n 0, 1) := by decide +kernel
theorem dJ5_inflate_da8c8_25 : decode cJ5_inflate_da8c8 25 = .ok (.getfield 79, 3) := by decide +kernel
theorem dJ5_inflate_da8c8_28 : decode cJ5_inflate_da8c8 28 = .ok (.invokestatic 125, 3) := by decide +kernel
theorem dJ5_inflate_da8c8_31 : decode cJ5_inflate_da8c8 31 = .ok (.aload_n 0, 1) := by decide +kernel
theorem dJ5_inflate_da8c8_32 : decode cJ5_inflate_da8c8 32 = .ok (.aload_n 1, 1) := by decide +kernel
theorem dJ5_inflate_da8c8_33 : decode cJ5_inflate_da8c8 33 = .ok (.putfield 15, 3) := by decide +kernel
theorem dJ5_inflate_da8c8_36 : decode cJ5_inflate_da8c8 36 = .ok (.aload_n 0, 1) := by decide +kernel
theorem dJ5_inflate_da8c8_37 : decode cJ5_inflate_da8c8 37 = .ok (.iconst 1, 1) := by decide +kernel
theorem dJ5_inflate_da8c8_38 : decode cJ5_inflate_da8c8 38 = .ok (.putfield 22, 3) := by decide +kernel
theorem dJ5_inflate_da8c8_41 : decode cJ5_inflate_da8c8 41 = .ok (.return_, 1) := by decide +kernel
theorem dJ5_append_cf1ce_0 : decode cJ5_append_cf1ce 0 = .ok (.aload_n 1, 1) := by decide +kernel
theorem dJ5_append_cf1ce_1 : decode cJ5_append_cf1ce 1 = .ok (.ifnonnull 8, 3) := by decide +kernel
theorem dJ5_append_cf1ce_4 : decode cJ5_append_cf1ce 4 = .ok (.aload_n 0, 1) := by decide +kernel
theorem dJ5_append_cf1ce_5 : decode cJ5_append_cf1ce 5 = .ok (.invokevirtual 204, 3) := by decide +kernel
theorem dJ5_append_cf1ce_8 : decode cJ5_append_cf1ce 8 = .ok (.areturn, 1) := by decide +kernel
theorem dJ5_append_cf1ce_9 : decode cJ5_append_cf1ce 9 = .ok (.aload_n 1, 1) := by decide +kernel
theorem dJ5_append_cf1ce_10 : decode cJ5_append_cf1ce 10 = .ok (.invokevirtual 32, 3) := by decide +kernel
theorem dJ5_append_cf1ce_13 : decode cJ5_append_cf1ce 13 = .ok (.istore_n 2, 1) := by decide +kernel
theorem dJ5_append_cf1ce_14 : decode cJ5_append_cf1ce 14 = .ok (.aload_n 0, 1) := by decide +kernel
theorem dJ5_append_cf1ce_15 : decode cJ5_append_cf1ce 15 = .ok (.aload_n 0, 1) := by decide +kernel
theorem dJ5_append_cf1ce_16 : decode cJ5_append_cf1ce 16 = .ok (.getfield 79, 3) := by decide +kernel
theorem dJ5_append_cf1ce_19 : decode cJ5_append_cf1ce 19 = .ok (.iload_n 2, 1) := by decide +kernel
theorem dJ5_append_cf1ce_20 : decode cJ5_append_cf1ce 20 = .ok (.iadd, 1) := by decide +kernel
theorem dJ5_append_cf1ce_21 : decode cJ5_append_cf1ce 21 = .ok (.invokevirtual 100, 3) := by decide +kernel
theorem dJ5_append_cf1ce_24 : decode cJ5_append_cf1ce 24 = .ok (.aload_n 0, 1) := by decide +kernel
theorem dJ5_append_cf1ce_25 : decode cJ5_append_cf1ce 25 = .ok (.aload_n 0, 1) := by decide +kernel
theorem dJ5_append_cf1ce_26 : decode cJ5_append_cf1ce 26 = .ok (.getfield 79, 3) := by decide +kernel
theorem dJ5_append_cf1ce_29 : decode cJ5_append_cf1ce 29 = .ok (.aload_n 1, 1) := by decide +kernel
theorem dJ5_append_cf1ce_30 : decode cJ5_append_cf1ce 30 = .ok (.invokevirtual 208, 3) := by decide +kernel
theorem dJ5_append_cf1ce_33 : decode cJ5_append_cf1ce 33 = .ok (.aload_n 0, 1) := by decide +kernel
theorem dJ5_append_cf1ce_34 : decode cJ5_append_cf1ce 34 = .ok (.dup, 1) := by decide +kernel
theorem dJ5_append_cf1ce_35 : decode cJ5_append_cf1ce 35 = .ok (.getfield 79, 3) := by decide +kernel
theorem dJ5_append_cf1ce_38 : decode cJ5_append_cf1ce 38 = .ok (.iload_n 2, 1) := by decide +kernel
theorem dJ5_append_cf1ce_39 : decode cJ5_append_cf1ce 39 = .ok (.iadd, 1) := by decide +kernel
theorem dJ5_append_cf1ce_40 : decode cJ5_append_cf1ce 40 = .ok (.putfield 79, 3) := by decide +kernel
theorem dJ5_append_cf1ce_43 : decode cJ5_append_cf1ce 43 = .ok (.aload_n 0, 1) := by decide +kernel
theorem dJ5_append_cf1ce_44 : decode cJ5_append_cf1ce 44 = .ok (.areturn, 1) := by decide +kernel
theorem dJ5_appendNull_278bc_0 : decode cJ5_appendNull_278bc 0 = .ok (.aload_n 0, 1) := by decide +kernel
theorem dJ5_appendNull_278bc_1 : decode cJ5_appendNull_278bc 1 = .ok (.aload_n 0, 1) := by decide +kernel
theorem dJ5_appendNull_278bc_2 : decode cJ5_appendNull_278bc 2 = .ok (.getfield 79, 3) := by decide +kernel
theorem dJ5_appendNull_278bc_5 : decode cJ5_appendNull_278bc 5 = .ok (.iconst 4, 1) := by decide +kernel
theorem dJ5_appendNull_278bc_6 : decode cJ5_appendNull_278bc 6 = .ok (.iadd, 1) := by decide +kernel
theorem dJ5_appendNull_278bc_7 : decode cJ5_appendNull_278bc 7 = .ok (.invokevirtual 100, 3) := by decide +kernel
theorem dJ5_appendNull_278bc_10 : decode cJ5_appendNull_278bc 10 = .ok (.aload_n 0, 1) := by decide +kernel
theorem dJ5_appendNull_278bc_11 : decode cJ5_appendNull_278bc 11 = .ok (.getfield 79, 3) := by decide +kernel
theorem dJ5_appendNull_278bc_14 : decode cJ5_appendNull_278bc 14 = .ok (.istore_n 1, 1) := by decide +kernel
theorem dJ5_appendNull_278bc_15 : decode cJ5_appendNull_278bc 15 = .ok (.aload_n 0, 1) := by decide +kernel
theorem dJ5_appendNull_278bc_16 : decode cJ5_appendNull_278bc 16 = .ok (.getfield 15, 3) := by decide +kernel
theorem dJ5_appendNull_278bc_19 : decode cJ5_appendNull_278bc 19 = .ok (.astore_n 2, 1) := by decide +kernel
theorem dJ5_appendNull_278bc_20 : decode cJ5_appendNull_278bc 20 = .ok (.aload_n 0, 1) := by decide +kernel
theorem dJ5_appendNull_278bc_21 : decode cJ5_appendNull_278bc 21 = .ok (.invokevirtual 83, 3) := by decide +kernel
theorem dJ5_appendNull_278bc_24 : decode cJ5_appendNull_278bc 24 = .ok (.ifCond .eq 38, 3) := by decide +kernel
theorem dJ5_appendNull_278bc_27 : decode cJ5_appendNull_278bc 27 = .ok (.aload_n 2, 1) := by decide +kernel
theorem dJ5_appendNull_278bc_28 : decode cJ5_appendNull_278bc 28 = .ok (.iload_n 1, 1) := by decide +kernel
theorem dJ5_appendNull_278bc_29 : decode cJ5_appendNull_278bc 29 = .ok (.iinc 1 1, 3) := by decide +kernel
theorem dJ5_appendNull_278bc_32 : decode cJ5_appendNull_278bc 32 = .ok (.bipush 110, 2) := by decide +kernel
theorem dJ5_appendNull_278bc_34 : decode cJ5_appendNull_278bc 34 = .ok (.bastore, 1) := by decide +kernel
theorem dJ5_appendNull_278bc_35 : decode cJ5_appendNull_278bc 35 = .ok (.aload_n 2, 1) := by decide +kernel
theorem dJ5_appendNull_278bc_36 : decode cJ5_appendNull_278bc 36 = .ok (.iload_n 1, 1) := by decide +kernel
theorem dJ5_appendNull_278bc_37 : decode cJ5_appendNull_278bc 37 = .ok (.iinc 1 1, 3) := by decide +kernel
theorem dJ5_appendNull_278bc_40 : decode cJ5_appendNull_278bc 40 = .ok (.bipush 117, 2) := by decide +kernel
theorem dJ5_appendNull_278bc_42 : decode cJ5_appendNull_278bc 42 = .ok (.bastore, 1) := by decide +kernel
theorem dJ5_appendNull_278bc_43 : decode cJ5_appendNull_278bc 43 = .ok (.aload_n 2, 1) := by decide +kernel
theorem dJ5_appendNull_278bc_44 : decode cJ5_appendNull_278bc 44 = .ok (.iload_n 1, 1) := by decide +kernel
theorem dJ5_appendNull_278bc_45 : decode cJ5_appendNull_278bc 45 = .ok (.iinc 1 1, 3) := by decide +kernel
theorem dJ5_appendNull_278bc_48 : decode cJ5_appendNull_278bc 48 = .ok (.bipush 108, 2) := by decide +kernel
theorem dJ5_appendNull_278bc_50 : decode cJ5_appendNull_278bc 50 = .ok (.bastore, 1) := by decide +kernel
theorem dJ5_appendNull_278bc_51 : decode cJ5_appendNull_278bc 51 = .ok (.aload_n 2, 1) := by decide +kernel
theorem dJ5_appendNull_278bc_52 : decode cJ5_appendNull_278bc 52 = .ok (.iload_n 1, 1) := by decide +kernel
theorem dJ5_appendNull_278bc_53 : decode cJ5_appendNull_278bc 53 = .ok (.iinc 1 1, 3) := by decide +kernel
theorem dJ5_appendNull_278bc_56 : decode cJ5_appendNull_278bc 56 = .ok (.bipush 108, 2) := by decide +kernel
theorem dJ5_appendNull_278bc_58 : decode cJ5_appendNull_278bc 58 = .ok (.bastore, 1) := by decide +kernel
theorem dJ5_appendNull_278bc_59 : decode cJ5_appendNull_278bc 59 = .ok (.goto 17, 3) := by decide +kernel
theorem dJ5_appendNull_278bc_62 : decode cJ5_appendNull_278bc 62 = .ok (.aload_n 2, 1) := by decide +kernel
theorem dJ5_appendNull_278bc_63 : decode cJ5_appendNull_278bc 63 = .ok (.iload_n 1, 1) := by decide +kernel
theorem dJ5_appendNull_278bc_64 : decode cJ5_appendNull_278bc 64 = .ok (.bipush 110, 2) := by decide +kernel
theorem dJ5_appendNull_278bc_66 : decode cJ5_appendNull_278bc 66 = .ok (.bipush 117, 2) := by decide +kernel
theorem dJ5_appendNull_278bc_68 : decode cJ5_appendNull_278bc 68 = .ok (.bipush 108, 2) := by decide +kernel
theorem dJ5_appendNull_278bc_70 : decode cJ5_appendNull_278bc 70 = .ok (.bipush 108, 2) := by decide +kernel
theorem dJ5_appendNull_278bc_72 : decode cJ5_appendNull_278bc 72 = .ok (.invokestatic 226, 3) := by decide +kernel
theorem dJ5_appendNull_278bc_75 : decode cJ5_appendNull_278bc 75 = .ok (.istore_n 1, 1) := by decide +kernel
theorem dJ5_appendNull_278bc_76 : decode cJ5_appendNull_278bc 76 = .ok (.aload_n 0, 1) := by decide +kernel
theorem dJ5_appendNull_278bc_77 : decode cJ5_appendNull_278bc 77 = .ok (.iload_n 1, 1) := by decide +kernel
theorem dJ5_appendNull_278bc_78 : decode cJ5_appendNull_278bc 78 = .ok (.putfield 79, 3) := by decide +kernel
theorem dJ5_appendNull_278bc_81 : decode cJ5_appendNull_278bc 81 = .ok (.aload_n 0, 1) := by decide +kernel
theorem dJ5_appendNull_278bc_82 : decode cJ5_appendNull_278bc 82 = .ok (.areturn, 1) := by decide +kernel
theorem dJ5_append_c97b9_0 : decode cJ5_append_c97b9 0 = .ok (.aload_n 0, 1) := by decide +kernel
theorem dJ5_append_c97b9_1 : decode cJ5_append_c97b9 1 = .ok (.getfield 79, 3) := by decide +kernel
theorem dJ5_append_c97b9_4 : decode cJ5_append_c97b9 4 = .ok (.istore_n 2, 1) := by decide +kernel
theorem dJ5_append_c97b9_5 : decode cJ5_append_c97b9 5 = .ok (.iload_n 2, 1) := by decide +kernel
theorem dJ5_append_c97b9_6 : decode cJ5_append_c97b9 6 = .ok (.iload_n 1, 1) := by decide +kernel
theorem dJ5_append_c97b9_7 : decode cJ5_append_c97b9 7 = .ok (.invokestatic 245, 3) := by decide +kernel
theorem dJ5_append_c97b9_10 : decode cJ5_append_c97b9 10 = .ok (.iadd, 1) := by decide +kernel
theorem dJ5_append_c97b9_11 : decode cJ5_append_c97b9 11 = .ok (.istore_n 3, 1) := by decide +kernel
theorem dJ5_append_c97b9_12 : decode cJ5_append_c97b9 12 = .ok (.aload_n 0, 1) := by decide +kernel
theorem dJ5_append_c97b9_13 : decode cJ5_append_c97b9 13 = .ok (.iload_n 3, 1) := by decide +kernel
theorem dJ5_append_c97b9_14 : decode cJ5_append_c97b9 14 = .ok (.invokevirtual 100, 3) := by decide +kernel
theorem dJ5_append_c97b9_17 : decode cJ5_append_c97b9 17 = .ok (.aload_n 0, 1) := by decide +kernel
theorem dJ5_append_c97b9_18 : decode cJ5_append_c97b9 18 = .ok (.invokevirtual 83, 3) := by decide +kernel
theorem dJ5_append_c97b9_21 : decode cJ5_append_c97b9 21 = .ok (.ifCond .eq 16, 3) := by decide +kernel
theorem dJ5_append_c97b9_24 : decode cJ5_append_c97b9 24 = .ok (.iload_n 1, 1) := by decide +kernel
theorem dJ5_append_c97b9_25 : decode cJ5_append_c97b9 25 = .ok (.iload_n 3, 1) := by decide +kernel
theorem dJ5_append_c97b9_26 : decode cJ5_append_c97b9 26 = .ok (.aload_n 0, 1) := by decide +kernel
theorem dJ5_append_c97b9_27 : decode cJ5_append_c97b9 27 = .ok (.getfield 15, 3) := by decide +kernel
theorem dJ5_append_c97b9_30 : decode cJ5_append_c97b9 30 = .ok (.invokestatic 248, 3) := by decide +kernel
theorem dJ5_append_c97b9_33 : decode cJ5_append_c97b9 33 = .ok (.pop, 1) := by decide +kernel
theorem dJ5_append_c97b9_34 : decode cJ5_append_c97b9 34 = .ok (.goto 14, 3) := by decide +kernel
theorem dJ5_append_c97b9_37 : decode cJ5_append_c97b9 37 = .ok (.iload_n 1, 1) := by decide +kernel
theorem dJ5_append_c97b9_38 : decode cJ5_append_c97b9 38 = .ok (.iload_n 2, 1) := by decide +kernel
theorem dJ5_append_c97b9_39 : decode cJ5_append_c97b9 39 = .ok (.iload_n 3, 1) := by decide +kernel
theorem dJ5_append_c97b9_40 : decode cJ5_append_c97b9 40 = .ok (.aload_n 0, 1) := by decide +kernel
theorem dJ5_append_c97b9_41 : decode cJ5_append_c97b9 41 = .ok (.getfield 15, 3) := by decide +kernel
theorem dJ5_append_c97b9_44 : decode cJ5_append_c97b9 44 = .ok (.invokestatic 251, 3) := by decide +kernel
theorem dJ5_append_c97b9_47 : decode cJ5_append_c97b9 47 = .ok (.pop, 1) := by decide +kernel
theorem dJ5_append_c97b9_48 : decode cJ5_append_c97b9 48 = .ok (.aload_n 0, 1) := by decide +kernel
theorem dJ5_append_c97b9_49 : decode cJ5_append_c97b9 49 = .ok (.iload_n 3, 1) := by decide +kernel
theorem dJ5_append_c97b9_50 : decode cJ5_append_c97b9 50 = .ok (.putfield 79, 3) := by decide +kernel
theorem dJ5_append_c97b9_53 : decode cJ5_append_c97b9 53 = .ok (.aload_n 0, 1) := by decide +kernel
theorem dJ5_append_c97b9_54 : decode cJ5_append_c97b9 54 = .ok (.areturn, 1) := by decide +kernel
theorem dJ5_getValue_6d5f1_0 : decode cJ5_getValue_6d5f1 0 = .ok (.aload_n 0, 1) := by decide +kernel
theorem dJ5_getValue_6d5f1_1 : decode cJ5_getValue_6d5f1 1 = .ok (.getfield 15, 3) := by decide +kernel
theorem dJ5_getValue_6d5f1_4 : decode cJ5_getValue_6d5f1 4 = .ok (.areturn, 1) := by decide +kernel
theorem dJ5_isLatin1_aae02_0 : decode cJ5_isLatin1_aae02 0 = .ok (.getstatic 18, 3) := by decide +kernel
theorem dJ5_isLatin1_aae02_3 : decode cJ5_isLatin1_aae02 3 = .ok (.ifCond .eq 14, 3) := by decide +kernel
theorem dJ5_isLatin1_aae02_6 : decode cJ5_isLatin1_aae02 6 = .ok (.aload_n 0, 1) := by decide +kernel
theorem dJ5_isLatin1_aae02_7 : decode cJ5_isLatin1_aae02 7 = .ok (.getfield 22, 3) := by decide +kernel
theorem dJ5_isLatin1_aae02_10 : decode cJ5_isLatin1_aae02 10 = .ok (.ifCond .ne 7, 3) := by decide +kernel
theorem dJ5_isLatin1_aae02_13 : decode cJ5_isLatin1_aae02 13 = .ok (.iconst 1, 1) := by decide +kernel
theorem dJ5_isLatin1_aae02_14 : decode cJ5_isLatin1_aae02 14 = .ok (.goto 4, 3) := by decide +kernel
theorem dJ5_isLatin1_aae02_17 : decode cJ5_isLatin1_aae02 17 = .ok (.iconst 0, 1) := by decide +kernel
theorem dJ5_isLatin1_aae02_18 : decode cJ5_isLatin1_aae02 18 = .ok (.ireturn, 1) := by decide +kernel
theorem dJ5_inflateIfNeededFor_a7421_0 : decode cJ5_inflateIfNeededFor_a7421 0 = .ok (.getstatic 18, 3) := by decide +kernel
theorem dJ5_inflateIfNeededFor_a7421_3 : decode cJ5_inflateIfNeededFor_a7421 3 = .ok (.ifCond .eq 18, 3) := by decide +kernel
theorem dJ5_inflateIfNeededFor_a7421_6 : decode cJ5_inflateIfNeededFor_a7421 6 = .ok (.aload_n 0, 1) := by decide +kernel
theorem dJ5_inflateIfNeededFor_a7421_7 : decode cJ5_inflateIfNeededFor_a7421 7 = .ok (.getfield 22, 3) := by decide +kernel
theorem dJ5_inflateIfNeededFor_a7421_10 : decode cJ5_inflateIfNeededFor_a7421 10 = .ok (.aload_n 1, 1) := by decide +kernel
theorem dJ5_inflateIfNeededFor_a7421_11 : decode cJ5_inflateIfNeededFor_a7421 11 = .ok (.invokevirtual 40, 3) := by decide +kernel
theorem dJ5_inflateIfNeededFor_a7421_14 : decode cJ5_inflateIfNeededFor_a7421 14 = .ok (.if_icmp .eq 7, 3) := by decide +kernel
theorem dJ5_inflateIfNeededFor_a7421_17 : decode cJ5_inflateIfNeededFor_a7421 17 = .ok (.aload_n 0, 1) := by decide +kernel
theorem dJ5_inflateIfNeededFor_a7421_18 : decode cJ5_inflateIfNeededFor_a7421 18 = .ok (.invokevirtual 195, 3) := by decide +kernel
theorem dJ5_inflateIfNeededFor_a7421_21 : decode cJ5_inflateIfNeededFor_a7421 21 = .ok (.return_, 1) := by decide +kernel
theorem dJ5_putStringAt_47b60_0 : decode cJ5_putStringAt_47b60 0 = .ok (.aload_n 0, 1) := by decide +kernel
theorem dJ5_putStringAt_47b60_1 : decode cJ5_putStringAt_47b60 1 = .ok (.aload_n 2, 1) := by decide +kernel
theorem dJ5_putStringAt_47b60_2 : decode cJ5_putStringAt_47b60 2 = .ok (.invokevirtual 397, 3) := by decide +kernel
theorem dJ5_putStringAt_47b60_5 : decode cJ5_putStringAt_47b60 5 = .ok (.aload_n 2, 1) := by decide +kernel
theorem dJ5_putStringAt_47b60_6 : decode cJ5_putStringAt_47b60 6 = .ok (.aload_n 0, 1) := by decide +kernel
theorem dJ5_putStringAt_47b60_7 : decode cJ5_putStringAt_47b60 7 = .ok (.getfield 15, 3) := by decide +kernel
theorem dJ5_putStringAt_47b60_10 : decode cJ5_putStringAt_47b60 10 = .ok (.iload_n 1, 1) := by decide +kernel
theorem dJ5_putStringAt_47b60_11 : decode cJ5_putStringAt_47b60 11 = .ok (.aload_n 0, 1) := by decide +kernel
theorem dJ5_putStringAt_47b60_12 : decode cJ5_putStringAt_47b60 12 = .ok (.getfield 22, 3) := by decide +kernel
theorem dJ5_putStringAt_47b60_15 : decode cJ5_putStringAt_47b60 15 = .ok (.invokevirtual 399, 3) := by decide +kernel
theorem dJ5_putStringAt_47b60_18 : decode cJ5_putStringAt_47b60 18 = .ok (.return_, 1) := by decide +kernel
theorem dJ6_getChars_ba4f3_0 : decode cJ6_getChars_ba4f3 0 = .ok (.iload_n 1, 1) := by decide +kernel
theorem dJ6_getChars_ba4f3_1 : decode cJ6_getChars_ba4f3 1 = .ok (.istore 5, 2) := by decide +kernel
theorem dJ6_getChars_ba4f3_3 : decode cJ6_getChars_ba4f3 3 = .ok (.iload_n 0, 1) := by decide +kernel
theorem dJ6_getChars_ba4f3_4 : decode cJ6_getChars_ba4f3 4 = .ok (.ifCond .ge 7, 3) := by decide +kernel
theorem dJ6_getChars_ba4f3_7 : decode cJ6_getChars_ba4f3 7 = .ok (.iconst 1, 1) := by decide +kernel
theorem dJ6_getChars_ba4f3_8 : decode cJ6_getChars_ba4f3 8 = .ok (.goto 4, 3) := by decide +kernel
theorem dJ6_getChars_ba4f3_11 : decode cJ6_getChars_ba4f3 11 = .ok (.iconst 0, 1) := by decide +kernel
theorem dJ6_getChars_ba4f3_12 : decode cJ6_getChars_ba4f3 12 = .ok (.istore 6, 2) := by decide +kernel
theorem dJ6_getChars_ba4f3_14 : decode cJ6_getChars_ba4f3 14 = .ok (.iload 6, 2) := by decide +kernel
theorem dJ6_getChars_ba4f3_16 : decode cJ6_getChars_ba4f3 16 = .ok (.ifCond .ne 6, 3) := by decide +kernel
theorem dJ6_getChars_ba4f3_19 : decode cJ6_getChars_ba4f3 19 = .ok (.iload_n 0, 1) := by decide +kernel
theorem dJ6_getChars_ba4f3_20 : decode cJ6_getChars_ba4f3 20 = .ok (.ineg, 1) := by decide +kernel
theorem dJ6_getChars_ba4f3_21 : decode cJ6_getChars_ba4f3 21 = .ok (.istore_n 0, 1) := by decide +kernel
theorem dJ6_getChars_ba4f3_22 : decode cJ6_getChars_ba4f3 22 = .ok (.iload_n 0, 1) := by decide +kernel
theorem dJ6_getChars_ba4f3_23 : decode cJ6_getChars_ba4f3 23 = .ok (.bipush (-100), 2) := by decide +kernel
theorem dJ6_getChars_ba4f3_25 : decode cJ6_getChars_ba4f3 25 = .ok (.if_icmp .gt 47, 3) := by decide +kernel
theorem dJ6_getChars_ba4f3_28 : decode cJ6_getChars_ba4f3 28 = .ok (.iload_n 0, 1) := by decide +kernel
theorem dJ6_getChars_ba4f3_29 : decode cJ6_getChars_ba4f3 29 = .ok (.bipush 100, 2) := by decide +kernel
theorem dJ6_getChars_ba4f3_31 : decode cJ6_getChars_ba4f3 31 = .ok (.idiv, 1) := by decide +kernel
theorem dJ6_getChars_ba4f3_32 : decode cJ6_getChars_ba4f3 32 = .ok (.istore_n 3, 1) := by decide +kernel
theorem dJ6_getChars_ba4f3_33 : decode cJ6_getChars_ba4f3 33 = .ok (.iload_n 3, 1) := by decide +kernel
theorem dJ6_getChars_ba4f3_34 : decode cJ6_getChars_ba4f3 34 = .ok (.bipush 100, 2) := by decide +kernel
theorem dJ6_getChars_ba4f3_36 : decode cJ6_getChars_ba4f3 36 = .ok (.imul, 1) := by decide +kernel
theorem dJ6_getChars_ba4f3_37 : decode cJ6_getChars_ba4f3 37 = .ok (.iload_n 0, 1) := by decide +kernel
theorem dJ6_getChars_ba4f3_38 : decode cJ6_getChars_ba4f3 38 = .ok (.isub, 1) := by decide +kernel
theorem dJ6_getChars_ba4f3_39 : decode cJ6_getChars_ba4f3 39 = .ok (.istore 4, 2) := by decide +kernel
theorem dJ6_getChars_ba4f3_41 : decode cJ6_getChars_ba4f3 41 = .ok (.iload_n 3, 1) := by decide +kernel
theorem dJ6_getChars_ba4f3_42 : decode cJ6_getChars_ba4f3 42 = .ok (.istore_n 0, 1) := by decide +kernel
theorem dJ6_getChars_ba4f3_43 : decode cJ6_getChars_ba4f3 43 = .ok (.aload_n 2, 1) := by decide +kernel
theorem dJ6_getChars_ba4f3_44 : decode cJ6_getChars_ba4f3 44 = .ok (.iinc 5 (-1), 3) := by decide +kernel
theorem dJ6_getChars_ba4f3_47 : decode cJ6_getChars_ba4f3 47 = .ok (.iload 5, 2) := by decide +kernel
theorem dJ6_getChars_ba4f3_49 : decode cJ6_getChars_ba4f3 49 = .ok (.getstatic 83, 3) := by decide +kernel
theorem dJ6_getChars_ba4f3_52 : decode cJ6_getChars_ba4f3 52 = .ok (.iload 4, 2) := by decide +kernel
theorem dJ6_getChars_ba4f3_54 : decode cJ6_getChars_ba4f3 54 = .ok (.baload, 1) := by decide +kernel
theorem dJ6_getChars_ba4f3_55 : decode cJ6_getChars_ba4f3 55 = .ok (.bastore, 1) := by decide +kernel
theorem dJ6_getChars_ba4f3_56 : decode cJ6_getChars_ba4f3 56 = .ok (.aload_n 2, 1) := by decide +kernel
theorem dJ6_getChars_ba4f3_57 : decode cJ6_getChars_ba4f3 57 = .ok (.iinc 5 (-1), 3) := by decide +kernel
theorem dJ6_getChars_ba4f3_60 : decode cJ6_getChars_ba4f3 60 = .ok (.iload 5, 2) := by decide +kernel
theorem dJ6_getChars_ba4f3_62 : decode cJ6_getChars_ba4f3 62 = .ok (.getstatic 87, 3) := by decide +kernel
theorem dJ6_getChars_ba4f3_65 : decode cJ6_getChars_ba4f3 65 = .ok (.iload 4, 2) := by decide +kernel
theorem dJ6_getChars_ba4f3_67 : decode cJ6_getChars_ba4f3 67 = .ok (.baload, 1) := by decide +kernel
theorem dJ6_getChars_ba4f3_68 : decode cJ6_getChars_ba4f3 68 = .ok (.bastore, 1) := by decide +kernel
theorem dJ6_getChars_ba4f3_69 : decode cJ6_getChars_ba4f3 69 = .ok (.goto (-47), 3) := by decide +kernel
theorem dJ6_getChars_ba4f3_72 : decode cJ6_getChars_ba4f3 72 = .ok (.aload_n 2, 1) := by decide +kernel
theorem dJ6_getChars_ba4f3_73 : decode cJ6_getChars_ba4f3 73 = .ok (.iinc 5 (-1), 3) := by decide +kernel
theorem dJ6_getChars_ba4f3_76 : decode cJ6_getChars_ba4f3 76 = .ok (.iload 5, 2) := by decide +kernel
theorem dJ6_getChars_ba4f3_78 : decode cJ6_getChars_ba4f3 78 = .ok (.getstatic 83, 3) := by decide +kernel
theorem dJ6_getChars_ba4f3_81 : decode cJ6_getChars_ba4f3 81 = .ok (.iload_n 0, 1) := by decide +kernel
theorem dJ6_getChars_ba4f3_82 : decode cJ6_getChars_ba4f3 82 = .ok (.ineg, 1) := by decide +kernel
theorem dJ6_getChars_ba4f3_83 : decode cJ6_getChars_ba4f3 83 = .ok (.baload, 1) := by decide +kernel
theorem dJ6_getChars_ba4f3_84 : decode cJ6_getChars_ba4f3 84 = .ok (.bastore, 1) := by decide +kernel
theorem dJ6_getChars_ba4f3_85 : decode cJ6_getChars_ba4f3 85 = .ok (.iload_n 0, 1) := by decide +kernel
theorem dJ6_getChars_ba4f3_86 : decode cJ6_getChars_ba4f3 86 = .ok (.bipush (-9), 2) := by decide +kernel
theorem dJ6_getChars_ba4f3_88 : decode cJ6_getChars_ba4f3 88 = .ok (.if_icmp .ge 16, 3) := by decide +kernel
theorem dJ6_getChars_ba4f3_91 : decode cJ6_getChars_ba4f3 91 = .ok (.aload_n 2, 1) := by decide +kernel
theorem dJ6_getChars_ba4f3_92 : decode cJ6_getChars_ba4f3 92 = .ok (.iinc 5 (-1), 3) := by decide +kernel
theorem dJ6_getChars_ba4f3_95 : decode cJ6_getChars_ba4f3 95 = .ok (.iload 5, 2) := by decide +kernel
theorem dJ6_getChars_ba4f3_97 : decode cJ6_getChars_ba4f3 97 = .ok (.getstatic 87, 3) := by decide +kernel
theorem dJ6_getChars_ba4f3_100 : decode cJ6_getChars_ba4f3 100 = .ok (.iload_n 0, 1) := by decide +kernel
theorem dJ6_getChars_ba4f3_101 : decode cJ6_getChars_ba4f3 101 = .ok (.ineg, 1) := by decide +kernel
theorem dJ6_getChars_ba4f3_102 : decode cJ6_getChars_ba4f3 102 = .ok (.baload, 1) := by decide +kernel
theorem dJ6_getChars_ba4f3_103 : decode cJ6_getChars_ba4f3 103 = .ok (.bastore, 1) := by decide +kernel
theorem dJ6_getChars_ba4f3_104 : decode cJ6_getChars_ba4f3 104 = .ok (.iload 6, 2) := by decide +kernel
theorem dJ6_getChars_ba4f3_106 : decode cJ6_getChars_ba4f3 106 = .ok (.ifCond .eq 12, 3) := by decide +kernel
theorem dJ6_getChars_ba4f3_109 : decode cJ6_getChars_ba4f3 109 = .ok (.aload_n 2, 1) := by decide +kernel
theorem dJ6_getChars_ba4f3_110 : decode cJ6_getChars_ba4f3 110 = .ok (.iinc 5 (-1), 3) := by decide +kernel
theorem dJ6_getChars_ba4f3_113 : decode cJ6_getChars_ba4f3 113 = .ok (.iload 5, 2) := by decide +kernel
theorem dJ6_getChars_ba4f3_115 : decode cJ6_getChars_ba4f3 115 = .ok (.bipush 45, 2) := by decide +kernel
theorem dJ6_getChars_ba4f3_117 : decode cJ6_getChars_ba4f3 117 = .ok (.bastore, 1) := by decide +kernel
theorem dJ6_getChars_ba4f3_118 : decode cJ6_getChars_ba4f3 118 = .ok (.iload 5, 2) := by decide +kernel
theorem dJ6_getChars_ba4f3_120 : decode cJ6_getChars_ba4f3 120 = .ok (.ireturn, 1) := by decide +kernel
theorem dJ6_stringSize_0f7a4_0 : decode cJ6_stringSize_0f7a4 0 = .ok (.iconst 1, 1) := by decide +kernel
theorem dJ6_stringSize_0f7a4_1 : decode cJ6_stringSize_0f7a4 1 = .ok (.istore_n 1, 1) := by decide +kernel
theorem dJ6_stringSize_0f7a4_2 : decode cJ6_stringSize_0f7a4 2 = .ok (.iload_n 0, 1) := by decide +kernel
theorem dJ6_stringSize_0f7a4_3 : decode cJ6_stringSize_0f7a4 3 = .ok (.ifCond .lt 8, 3) := by decide +kernel
theorem dJ6_stringSize_0f7a4_6 : decode cJ6_stringSize_0f7a4 6 = .ok (.iconst 0, 1) := by decide +kernel
theorem dJ6_stringSize_0f7a4_7 : decode cJ6_stringSize_0f7a4 7 = .ok (.istore_n 1, 1) := by decide +kernel
theorem dJ6_stringSize_0f7a4_8 : decode cJ6_stringSize_0f7a4 8 = .ok (.iload_n 0, 1) := by decide +kernel
theorem dJ6_stringSize_0f7a4_9 : decode cJ6_stringSize_0f7a4 9 = .ok (.ineg, 1) := by decide +kernel
theorem dJ6_stringSize_0f7a4_10 : decode cJ6_stringSize_0f7a4 10 = .ok (.istore_n 0, 1) := by decide +kernel
theorem dJ6_stringSize_0f7a4_11 : decode cJ6_stringSize_0f7a4 11 = .ok (.bipush (-10), 2) := by decide +kernel
theorem dJ6_stringSize_0f7a4_13 : decode cJ6_stringSize_0f7a4 13 = .ok (.istore_n 2, 1) := by decide +kernel
theorem dJ6_stringSize_0f7a4_14 : decode cJ6_stringSize_0f7a4 14 = .ok (.iconst 1, 1) := by decide +kernel
theorem dJ6_stringSize_0f7a4_15 : decode cJ6_stringSize_0f7a4 15 = .ok (.istore_n 3, 1) := by decide +kernel
theorem dJ6_stringSize_0f7a4_16 : decode cJ6_stringSize_0f7a4 16 = .ok (.iload_n 3, 1) := by decide +kernel
theorem dJ6_stringSize_0f7a4_17 : decode cJ6_stringSize_0f7a4 17 = .ok (.bipush 10, 2) := by decide +kernel
theorem dJ6_stringSize_0f7a4_19 : decode cJ6_stringSize_0f7a4 19 = .ok (.if_icmp .ge 23, 3) := by decide +kernel
theorem dJ6_stringSize_0f7a4_22 : decode cJ6_stringSize_0f7a4 22 = .ok (.iload_n 0, 1) := by decide +kernel
theorem dJ6_stringSize_0f7a4_23 : decode cJ6_stringSize_0f7a4 23 = .ok (.iload_n 2, 1) := by decide +kernel
theorem dJ6_stringSize_0f7a4_24 : decode cJ6_stringSize_0f7a4 24 = .ok (.if_icmp .le 7, 3) := by decide +kernel
theorem dJ6_stringSize_0f7a4_27 : decode cJ6_stringSize_0f7a4 27 = .ok (.iload_n 3, 1) := by decide +kernel
theorem dJ6_stringSize_0f7a4_28 : decode cJ6_stringSize_0f7a4 28 = .ok (.iload_n 1, 1) := by decide +kernel
theorem dJ6_stringSize_0f7a4_29 : decode cJ6_stringSize_0f7a4 29 = .ok (.iadd, 1) := by decide +kernel
theorem dJ6_stringSize_0f7a4_30 : decode cJ6_stringSize_0f7a4 30 = .ok (.ireturn, 1) := by decide +kernel
theorem dJ6_stringSize_0f7a4_31 : decode cJ6_stringSize_0f7a4 31 = .ok (.bipush 10, 2) := by decide +kernel
theorem dJ6_stringSize_0f7a4_33 : decode cJ6_stringSize_0f7a4 33 = .ok (.iload_n 2, 1) := by decide +kernel
theorem dJ6_stringSize_0f7a4_34 : decode cJ6_stringSize_0f7a4 34 = .ok (.imul, 1) := by decide +kernel
theorem dJ6_stringSize_0f7a4_35 : decode cJ6_stringSize_0f7a4 35 = .ok (.istore_n 2, 1) := by decide +kernel
theorem dJ6_stringSize_0f7a4_36 : decode cJ6_stringSize_0f7a4 36 = .ok (.iinc 3 1, 3) := by decide +kernel
theorem dJ6_stringSize_0f7a4_39 : decode cJ6_stringSize_0f7a4 39 = .ok (.goto (-23), 3) := by decide +kernel
theorem dJ6_stringSize_0f7a4_42 : decode cJ6_stringSize_0f7a4 42 = .ok (.bipush 10, 2) := by decide +kernel
theorem dJ6_stringSize_0f7a4_44 : decode cJ6_stringSize_0f7a4 44 = .ok (.iload_n 1, 1) := by decide +kernel
theorem dJ6_stringSize_0f7a4_45 : decode cJ6_stringSize_0f7a4 45 = .ok (.iadd, 1) := by decide +kernel
theorem dJ6_stringSize_0f7a4_46 : decode cJ6_stringSize_0f7a4 46 = .ok (.ireturn, 1) := by decide +kernel
theorem dJ6_bitCount_0f7a4_0 : decode cJ6_bitCount_0f7a4 0 = .ok (.iload_n 0, 1) := by decide +kernel
theorem dJ6_bitCount_0f7a4_1 : decode cJ6_bitCount_0f7a4 1 = .ok (.iload_n 0, 1) := by decide +kernel
theorem dJ6_bitCount_0f7a4_2 : decode cJ6_bitCount_0f7a4 2 = .ok (.iconst 1, 1) := by decide +kernel
theorem dJ6_bitCount_0f7a4_3 : decode cJ6_bitCount_0f7a4 3 = .ok (.iushr, 1) := by decide +kernel
theorem dJ6_bitCount_0f7a4_4 : decode cJ6_bitCount_0f7a4 4 = .ok (.ldc_w 265, 3) := by decide +kernel
theorem dJ6_bitCount_0f7a4_7 : decode cJ6_bitCount_0f7a4 7 = .ok (.iand, 1) := by decide +kernel
theorem dJ6_bitCount_0f7a4_8 : decode cJ6_bitCount_0f7a4 8 = .ok (.isub, 1) := by decide +kernel
theorem dJ6_bitCount_0f7a4_9 : decode cJ6_bitCount_0f7a4 9 = .ok (.istore_n 0, 1) := by decide +kernel
theorem dJ6_bitCount_0f7a4_10 : decode cJ6_bitCount_0f7a4 10 = .ok (.iload_n 0, 1) := by decide +kernel
theorem dJ6_bitCount_0f7a4_11 : decode cJ6_bitCount_0f7a4 11 = .ok (.ldc_w 266, 3) := by decide +kernel
theorem dJ6_bitCount_0f7a4_14 : decode cJ6_bitCount_0f7a4 14 = .ok (.iand, 1) := by decide +kernel
theorem dJ6_bitCount_0f7a4_15 : decode cJ6_bitCount_0f7a4 15 = .ok (.iload_n 0, 1) := by decide +kernel
theorem dJ6_bitCount_0f7a4_16 : decode cJ6_bitCount_0f7a4 16 = .ok (.iconst 2, 1) := by decide +kernel
theorem dJ6_bitCount_0f7a4_17 : decode cJ6_bitCount_0f7a4 17 = .ok (.iushr, 1) := by decide +kernel
theorem dJ6_bitCount_0f7a4_18 : decode cJ6_bitCount_0f7a4 18 = .ok (.ldc_w 266, 3) := by decide +kernel
theorem dJ6_bitCount_0f7a4_21 : decode cJ6_bitCount_0f7a4 21 = .ok (.iand, 1) := by decide +kernel
theorem dJ6_bitCount_0f7a4_22 : decode cJ6_bitCount_0f7a4 22 = .ok (.iadd, 1) := by decide +kernel
theorem dJ6_bitCount_0f7a4_23 : decode cJ6_bitCount_0f7a4 23 = .ok (.istore_n 0, 1) := by decide +kernel
theorem dJ6_bitCount_0f7a4_24 : decode cJ6_bitCount_0f7a4 24 = .ok (.iload_n 0, 1) := by decide +kernel
theorem dJ6_bitCount_0f7a4_25 : decode cJ6_bitCount_0f7a4 25 = .ok (.iload_n 0, 1) := by decide +kernel
theorem dJ6_bitCount_0f7a4_26 : decode cJ6_bitCount_0f7a4 26 = .ok (.iconst 4, 1) := by decide +kernel
theorem dJ6_bitCount_0f7a4_27 : decode cJ6_bitCount_0f7a4 27 = .ok (.iushr, 1) := by decide +kernel
theorem dJ6_bitCount_0f7a4_28 : decode cJ6_bitCount_0f7a4 28 = .ok (.iadd, 1) := by decide +kernel
theorem dJ6_bitCount_0f7a4_29 : decode cJ6_bitCount_0f7a4 29 = .ok (.ldc_w 267, 3) := by decide +kernel
theorem dJ6_bitCount_0f7a4_32 : decode cJ6_bitCount_0f7a4 32 = .ok (.iand, 1) := by decide +kernel
theorem dJ6_bitCount_0f7a4_33 : decode cJ6_bitCount_0f7a4 33 = .ok (.istore_n 0, 1) := by decide +kernel
theorem dJ6_bitCount_0f7a4_34 : decode cJ6_bitCount_0f7a4 34 = .ok (.iload_n 0, 1) := by decide +kernel
theorem dJ6_bitCount_0f7a4_35 : decode cJ6_bitCount_0f7a4 35 = .ok (.iload_n 0, 1) := by decide +kernel
theorem dJ6_bitCount_0f7a4_36 : decode cJ6_bitCount_0f7a4 36 = .ok (.bipush 8, 2) := by decide +kernel
theorem dJ6_bitCount_0f7a4_38 : decode cJ6_bitCount_0f7a4 38 = .ok (.iushr, 1) := by decide +kernel
theorem dJ6_bitCount_0f7a4_39 : decode cJ6_bitCount_0f7a4 39 = .ok (.iadd, 1) := by decide +kernel
theorem dJ6_bitCount_0f7a4_40 : decode cJ6_bitCount_0f7a4 40 = .ok (.istore_n 0, 1) := by decide +kernel
theorem dJ6_bitCount_0f7a4_41 : decode cJ6_bitCount_0f7a4 41 = .ok (.iload_n 0, 1) := by decide +kernel
theorem dJ6_bitCount_0f7a4_42 : decode cJ6_bitCount_0f7a4 42 = .ok (.iload_n 0, 1) := by decide +kernel
theorem dJ6_bitCount_0f7a4_43 : decode cJ6_bitCount_0f7a4 43 = .ok (.bipush 16, 2) := by decide +kernel
theorem dJ6_bitCount_0f7a4_45 : decode cJ6_bitCount_0f7a4 45 = .ok (.iushr, 1) := by decide +kernel
theorem dJ6_bitCount_0f7a4_46 : decode cJ6_bitCount_0f7a4 46 = .ok (.iadd, 1) := by decide +kernel
theorem dJ6_bitCount_0f7a4_47 : decode cJ6_bitCount_0f7a4 47 = .ok (.istore_n 0, 1) := by decide +kernel
theorem dJ6_bitCount_0f7a4_48 : decode cJ6_bitCount_0f7a4 48 = .ok (.iload_n 0, 1) := by decide +kernel
theorem dJ6_bitCount_0f7a4_49 : decode cJ6_bitCount_0f7a4 49 = .ok (.bipush 63, 2) := by decide +kernel
theorem dJ6_bitCount_0f7a4_51 : decode cJ6_bitCount_0f7a4 51 = .ok (.iand, 1) := by decide +kernel
theorem dJ6_bitCount_0f7a4_52 : decode cJ6_bitCount_0f7a4 52 = .ok (.ireturn, 1) := by decide +kernel
theorem dJ13_bitCount_95d88_0 : decode cJ13_bitCount_95d88 0 = .ok (.lload_n 0, 1) := by decide +kernel
theorem dJ13_bitCount_95d88_1 : decode cJ13_bitCount_95d88 1 = .ok (.lload_n 0, 1) := by decide +kernel
theorem dJ13_bitCount_95d88_2 : decode cJ13_bitCount_95d88 2 = .ok (.iconst 1, 1) := by decide +kernel
theorem dJ13_bitCount_95d88_3 : decode cJ13_bitCount_95d88 3 = .ok (.lushr, 1) := by decide +kernel
theorem dJ13_bitCount_95d88_4 : decode cJ13_bitCount_95d88 4 = .ok (.ldc2_w 314, 3) := by decide +kernel
theorem dJ13_bitCount_95d88_7 : decode cJ13_bitCount_95d88 7 = .ok (.land, 1) := by decide +kernel
theorem dJ13_bitCount_95d88_8 : decode cJ13_bitCount_95d88 8 = .ok (.lsub, 1) := by decide +kernel
theorem dJ13_bitCount_95d88_9 : decode cJ13_bitCount_95d88 9 = .ok (.lstore_n 0, 1) := by decide +kernel
theorem dJ13_bitCount_95d88_10 : decode cJ13_bitCount_95d88 10 = .ok (.lload_n 0, 1) := by decide +kernel
theorem dJ13_bitCount_95d88_11 : decode cJ13_bitCount_95d88 11 = .ok (.ldc2_w 316, 3) := by decide +kernel
theorem dJ13_bitCount_95d88_14 : decode cJ13_bitCount_95d88 14 = .ok (.land, 1) := by decide +kernel
theorem dJ13_bitCount_95d88_15 : decode cJ13_bitCount_95d88 15 = .ok (.lload_n 0, 1) := by decide +kernel
theorem dJ13_bitCount_95d88_16 : decode cJ13_bitCount_95d88 16 = .ok (.iconst 2, 1) := by decide +kernel
theorem dJ13_bitCount_95d88_17 : decode cJ13_bitCount_95d88 17 = .ok (.lushr, 1) := by decide +kernel
theorem dJ13_bitCount_95d88_18 : decode cJ13_bitCount_95d88 18 = .ok (.ldc2_w 316, 3) := by decide +kernel
theorem dJ13_bitCount_95d88_21 : decode cJ13_bitCount_95d88 21 = .ok (.land, 1) := by decide +kernel
theorem dJ13_bitCount_95d88_22 : decode cJ13_bitCount_95d88 22 = .ok (.ladd, 1) := by decide +kernel
theorem dJ13_bitCount_95d88_23 : decode cJ13_bitCount_95d88 23 = .ok (.lstore_n 0, 1) := by decide +kernel
theorem dJ13_bitCount_95d88_24 : decode cJ13_bitCount_95d88 24 = .ok (.lload_n 0, 1) := by decide +kernel
theorem dJ13_bitCount_95d88_25 : decode cJ13_bitCount_95d88 25 = .ok (.lload_n 0, 1) := by decide +kernel
theorem dJ13_bitCount_95d88_26 : decode cJ13_bitCount_95d88 26 = .ok (.iconst 4, 1) := by decide +kernel
theorem dJ13_bitCount_95d88_27 : decode cJ13_bitCount_95d88 27 = .ok (.lushr, 1) := by decide +kernel
theorem dJ13_bitCount_95d88_28 : decode cJ13_bitCount_95d88 28 = .ok (.ladd, 1) := by decide +kernel
theorem dJ13_bitCount_95d88_29 : decode cJ13_bitCount_95d88 29 = .ok (.ldc2_w 318, 3) := by decide +kernel
theorem dJ13_bitCount_95d88_32 : decode cJ13_bitCount_95d88 32 = .ok (.land, 1) := by decide +kernel
theorem dJ13_bitCount_95d88_33 : decode cJ13_bitCount_95d88 33 = .ok (.lstore_n 0, 1) := by decide +kernel
theorem dJ13_bitCount_95d88_34 : decode cJ13_bitCount_95d88 34 = .ok (.lload_n 0, 1) := by decide +kernel
theorem dJ13_bitCount_95d88_35 : decode cJ13_bitCount_95d88 35 = .ok (.lload_n 0, 1) := by decide +kernel
theorem dJ13_bitCount_95d88_36 : decode cJ13_bitCount_95d88 36 = .ok (.bipush 8, 2) := by decide +kernel
theorem dJ13_bitCount_95d88_38 : decode cJ13_bitCount_95d88 38 = .ok (.lushr, 1) := by decide +kernel
theorem dJ13_bitCount_95d88_39 : decode cJ13_bitCount_95d88 39 = .ok (.ladd, 1) := by decide +kernel
theorem dJ13_bitCount_95d88_40 : decode cJ13_bitCount_95d88 40 = .ok (.lstore_n 0, 1) := by decide +kernel
theorem dJ13_bitCount_95d88_41 : decode cJ13_bitCount_95d88 41 = .ok (.lload_n 0, 1) := by decide +kernel
theorem dJ13_bitCount_95d88_42 : decode cJ13_bitCount_95d88 42 = .ok (.lload_n 0, 1) := by decide +kernel
theorem dJ13_bitCount_95d88_43 : decode cJ13_bitCount_95d88 43 = .ok (.bipush 16, 2) := by decide +kernel
theorem dJ13_bitCount_95d88_45 : decode cJ13_bitCount_95d88 45 = .ok (.lushr, 1) := by decide +kernel
theorem dJ13_bitCount_95d88_46 : decode cJ13_bitCount_95d88 46 = .ok (.ladd, 1) := by decide +kernel
theorem dJ13_bitCount_95d88_47 : decode cJ13_bitCount_95d88 47 = .ok (.lstore_n 0, 1) := by decide +kernel
theorem dJ13_bitCount_95d88_48 : decode cJ13_bitCount_95d88 48 = .ok (.lload_n 0, 1) := by decide +kernel
theorem dJ13_bitCount_95d88_49 : decode cJ13_bitCount_95d88 49 = .ok (.lload_n 0, 1) := by decide +kernel
theorem dJ13_bitCount_95d88_50 : decode cJ13_bitCount_95d88 50 = .ok (.bipush 32, 2) := by decide +kernel
theorem dJ13_bitCount_95d88_52 : decode cJ13_bitCount_95d88 52 = .ok (.lushr, 1) := by decide +kernel
theorem dJ13_bitCount_95d88_53 : decode cJ13_bitCount_95d88 53 = .ok (.ladd, 1) := by decide +kernel
theorem dJ13_bitCount_95d88_54 : decode cJ13_bitCount_95d88 54 = .ok (.lstore_n 0, 1) := by decide +kernel
theorem dJ13_bitCount_95d88_55 : decode cJ13_bitCount_95d88 55 = .ok (.lload_n 0, 1) := by decide +kernel
theorem dJ13_bitCount_95d88_56 : decode cJ13_bitCount_95d88 56 = .ok (.l2i, 1) := by decide +kernel
theorem dJ13_bitCount_95d88_57 : decode cJ13_bitCount_95d88 57 = .ok (.bipush 127, 2) := by decide +kernel
theorem dJ13_bitCount_95d88_59 : decode cJ13_bitCount_95d88 59 = .ok (.iand, 1) := by decide +kernel
theorem dJ13_bitCount_95d88_60 : decode cJ13_bitCount_95d88 60 = .ok (.ireturn, 1) := by decide +kernel
theorem dJ9_max_7cf53_0 : decode cJ9_max_7cf53 0 = .ok (.iload_n 0, 1) := by decide +kernel
theorem dJ9_max_7cf53_1 : decode cJ9_max_7cf53 1 = .ok (.iload_n 1, 1) := by decide +kernel
theorem dJ9_max_7cf53_2 : decode cJ9_max_7cf53 2 = .ok (.if_icmp .lt 7, 3) := by decide +kernel
theorem dJ9_max_7cf53_5 : decode cJ9_max_7cf53 5 = .ok (.iload_n 0, 1) := by decide +kernel
theorem dJ9_max_7cf53_6 : decode cJ9_max_7cf53 6 = .ok (.goto 4, 3) := by decide +kernel
theorem dJ9_max_7cf53_9 : decode cJ9_max_7cf53 9 = .ok (.iload_n 1, 1) := by decide +kernel
theorem dJ9_max_7cf53_10 : decode cJ9_max_7cf53 10 = .ok (.ireturn, 1) := by decide +kernel
theorem dJ9_min_7cf53_0 : decode cJ9_min_7cf53 0 = .ok (.iload_n 0, 1) := by decide +kernel
theorem dJ9_min_7cf53_1 : decode cJ9_min_7cf53 1 = .ok (.iload_n 1, 1) := by decide +kernel
theorem dJ9_min_7cf53_2 : decode cJ9_min_7cf53 2 = .ok (.if_icmp .gt 7, 3) := by decide +kernel
theorem dJ9_min_7cf53_5 : decode cJ9_min_7cf53 5 = .ok (.iload_n 0, 1) := by decide +kernel
theorem dJ9_min_7cf53_6 : decode cJ9_min_7cf53 6 = .ok (.goto 4, 3) := by decide +kernel
theorem dJ9_min_7cf53_9 : decode cJ9_min_7cf53 9 = .ok (.iload_n 1, 1) := by decide +kernel
theorem dJ9_min_7cf53_10 : decode cJ9_min_7cf53 10 = .ok (.ireturn, 1) := by decide +kernel
theorem dJ0_init_81219_0 : decode cJ0_init_81219 0 = .ok (.aload_n 0, 1) := by decide +kernel
theorem dJ0_init_81219_1 : decode cJ0_init_81219 1 = .ok (.aload_n 1, 1) := by decide +kernel
theorem dJ0_init_81219_2 : decode cJ0_init_81219 2 = .ok (.aconst_null, 1) := by decide +kernel
theorem dJ0_init_81219_3 : decode cJ0_init_81219 3 = .ok (.invokespecial 489, 3) := by decide +kernel
theorem dJ0_init_81219_6 : decode cJ0_init_81219 6 = .ok (.return_, 1) := by decide +kernel
theorem dJ0_length_8abf5_0 : decode cJ0_length_8abf5 0 = .ok (.aload_n 0, 1) := by decide +kernel
theorem dJ0_length_8abf5_1 : decode cJ0_length_8abf5 1 = .ok (.getfield 9, 3) := by decide +kernel
theorem dJ0_length_8abf5_4 : decode cJ0_length_8abf5 4 = .ok (.arraylength, 1) := by decide +kernel
theorem dJ0_length_8abf5_5 : decode cJ0_length_8abf5 5 = .ok (.aload_n 0, 1) := by decide +kernel
theorem dJ0_length_8abf5_6 : decode cJ0_length_8abf5 6 = .ok (.invokevirtual 335, 3) := by decide +kernel
theorem dJ0_length_8abf5_9 : decode cJ0_length_8abf5 9 = .ok (.ishr, 1) := by decide +kernel
theorem dJ0_length_8abf5_10 : decode cJ0_length_8abf5 10 = .ok (.ireturn, 1) := by decide +kernel
theorem dJ0_charAt_5068e_0 : decode cJ0_charAt_5068e 0 = .ok (.aload_n 0, 1) := by decide +kernel
theorem dJ0_charAt_5068e_1 : decode cJ0_charAt_5068e 1 = .ok (.invokevirtual 492, 3) := by decide +kernel
theorem dJ0_charAt_5068e_4 : decode cJ0_charAt_5068e 4 = .ok (.ifCond .eq 12, 3) := by decide +kernel
theorem dJ0_charAt_5068e_7 : decode cJ0_charAt_5068e 7 = .ok (.aload_n 0, 1) := by decide +kernel
theorem dJ0_charAt_5068e_8 : decode cJ0_charAt_5068e 8 = .ok (.getfield 9, 3) := by decide +kernel
theorem dJ0_charAt_5068e_11 : decode cJ0_charAt_5068e 11 = .ok (.iload_n 1, 1) := by decide +kernel
theorem dJ0_charAt_5068e_12 : decode cJ0_charAt_5068e 12 = .ok (.invokestatic 495, 3) := by decide +kernel
theorem dJ0_charAt_5068e_15 : decode cJ0_charAt_5068e 15 = .ok (.ireturn, 1) := by decide +kernel
theorem dJ0_charAt_5068e_16 : decode cJ0_charAt_5068e 16 = .ok (.aload_n 0, 1) := by decide +kernel
theorem dJ0_charAt_5068e_17 : decode cJ0_charAt_5068e 17 = .ok (.getfield 9, 3) := by decide +kernel
theorem dJ0_charAt_5068e_20 : decode cJ0_charAt_5068e 20 = .ok (.iload_n 1, 1) := by decide +kernel
theorem dJ0_charAt_5068e_21 : decode cJ0_charAt_5068e 21 = .ok (.invokestatic 498, 3) := by decide +kernel
theorem dJ0_charAt_5068e_24 : decode cJ0_charAt_5068e 24 = .ok (.ireturn, 1) := by decide +kernel
theorem dJ0_getBytes_840e7_0 : decode cJ0_getBytes_840e7 0 = .ok (.aload_n 0, 1) := by decide +kernel
theorem dJ0_getBytes_840e7_1 : decode cJ0_getBytes_840e7 1 = .ok (.invokevirtual 335, 3) := by decide +kernel
theorem dJ0_getBytes_840e7_4 : decode cJ0_getBytes_840e7 4 = .ok (.iload_n 3, 1) := by decide +kernel
theorem dJ0_getBytes_840e7_5 : decode cJ0_getBytes_840e7 5 = .ok (.if_icmp .ne 23, 3) := by decide +kernel
theorem dJ0_getBytes_840e7_8 : decode cJ0_getBytes_840e7 8 = .ok (.aload_n 0, 1) := by decide +kernel
theorem dJ0_getBytes_840e7_9 : decode cJ0_getBytes_840e7 9 = .ok (.getfield 9, 3) := by decide +kernel
theorem dJ0_getBytes_840e7_12 : decode cJ0_getBytes_840e7 12 = .ok (.iconst 0, 1) := by decide +kernel
theorem dJ0_getBytes_840e7_13 : decode cJ0_getBytes_840e7 13 = .ok (.aload_n 1, 1) := by decide +kernel
theorem dJ0_getBytes_840e7_14 : decode cJ0_getBytes_840e7 14 = .ok (.iload_n 2, 1) := by decide +kernel
theorem dJ0_getBytes_840e7_15 : decode cJ0_getBytes_840e7 15 = .ok (.iload_n 3, 1) := by decide +kernel
theorem dJ0_getBytes_840e7_16 : decode cJ0_getBytes_840e7 16 = .ok (.ishl, 1) := by decide +kernel
theorem dJ0_getBytes_840e7_17 : decode cJ0_getBytes_840e7 17 = .ok (.aload_n 0, 1) := by decide +kernel
theorem dJ0_getBytes_840e7_18 : decode cJ0_getBytes_840e7 18 = .ok (.getfield 9, 3) := by decide +kernel
theorem dJ0_getBytes_840e7_21 : decode cJ0_getBytes_840e7 21 = .ok (.arraylength, 1) := by decide +kernel
theorem dJ0_getBytes_840e7_22 : decode cJ0_getBytes_840e7 22 = .ok (.invokestatic 212, 3) := by decide +kernel
theorem dJ0_getBytes_840e7_25 : decode cJ0_getBytes_840e7 25 = .ok (.goto 18, 3) := by decide +kernel
theorem dJ0_getBytes_840e7_28 : decode cJ0_getBytes_840e7 28 = .ok (.aload_n 0, 1) := by decide +kernel
theorem dJ0_getBytes_840e7_29 : decode cJ0_getBytes_840e7 29 = .ok (.getfield 9, 3) := by decide +kernel
theorem dJ0_getBytes_840e7_32 : decode cJ0_getBytes_840e7 32 = .ok (.iconst 0, 1) := by decide +kernel
theorem dJ0_getBytes_840e7_33 : decode cJ0_getBytes_840e7 33 = .ok (.aload_n 1, 1) := by decide +kernel
theorem dJ0_getBytes_840e7_34 : decode cJ0_getBytes_840e7 34 = .ok (.iload_n 2, 1) := by decide +kernel
theorem dJ0_getBytes_840e7_35 : decode cJ0_getBytes_840e7 35 = .ok (.aload_n 0, 1) := by decide +kernel
theorem dJ0_getBytes_840e7_36 : decode cJ0_getBytes_840e7 36 = .ok (.getfield 9, 3) := by decide +kernel
theorem dJ0_getBytes_840e7_39 : decode cJ0_getBytes_840e7 39 = .ok (.arraylength, 1) := by decide +kernel
theorem dJ0_getBytes_840e7_40 : decode cJ0_getBytes_840e7 40 = .ok (.invokestatic 106, 3) := by decide +kernel
theorem dJ0_getBytes_840e7_43 : decode cJ0_getBytes_840e7 43 = .ok (.return_, 1) := by decide +kernel
theorem dJ0_init_db425_0 : decode cJ0_init_db425 0 = .ok (.aload_n 0, 1) := by decide +kernel
theorem dJ0_init_db425_1 : decode cJ0_init_db425 1 = .ok (.invokespecial 1, 3) := by decide +kernel
theorem dJ0_init_db425_4 : decode cJ0_init_db425 4 = .ok (.aload_n 1, 1) := by decide +kernel
theorem dJ0_init_db425_5 : decode cJ0_init_db425 5 = .ok (.invokevirtual 552, 3) := by decide +kernel
theorem dJ0_init_db425_8 : decode cJ0_init_db425 8 = .ok (.astore_n 3, 1) := by decide +kernel
theorem dJ0_init_db425_9 : decode cJ0_init_db425 9 = .ok (.aload_n 1, 1) := by decide +kernel
theorem dJ0_init_db425_10 : decode cJ0_init_db425 10 = .ok (.invokevirtual 549, 3) := by decide +kernel
theorem dJ0_init_db425_13 : decode cJ0_init_db425 13 = .ok (.istore 4, 2) := by decide +kernel
theorem dJ0_init_db425_15 : decode cJ0_init_db425 15 = .ok (.aload_n 1, 1) := by decide +kernel
theorem dJ0_init_db425_16 : decode cJ0_init_db425 16 = .ok (.invokevirtual 1047, 3) := by decide +kernel
theorem dJ0_init_db425_19 : decode cJ0_init_db425 19 = .ok (.ifCond .eq 22, 3) := by decide +kernel
theorem dJ0_init_db425_22 : decode cJ0_init_db425 22 = .ok (.aload_n 0, 1) := by decide +kernel
theorem dJ0_init_db425_23 : decode cJ0_init_db425 23 = .ok (.iconst 0, 1) := by decide +kernel
theorem dJ0_init_db425_24 : decode cJ0_init_db425 24 = .ok (.putfield 15, 3) := by decide +kernel
theorem dJ0_init_db425_27 : decode cJ0_init_db425 27 = .ok (.aload_n 0, 1) := by decide +kernel
theorem dJ0_init_db425_28 : decode cJ0_init_db425 28 = .ok (.aload_n 3, 1) := by decide +kernel
theorem dJ0_init_db425_29 : decode cJ0_init_db425 29 = .ok (.iconst 0, 1) := by decide +kernel
theorem dJ0_init_db425_30 : decode cJ0_init_db425 30 = .ok (.iload 4, 2) := by decide +kernel
theorem dJ0_init_db425_32 : decode cJ0_init_db425 32 = .ok (.invokestatic 54, 3) := by decide +kernel
theorem dJ0_init_db425_35 : decode cJ0_init_db425 35 = .ok (.putfield 9, 3) := by decide +kernel
theorem dJ0_init_db425_38 : decode cJ0_init_db425 38 = .ok (.goto 59, 3) := by decide +kernel
theorem dJ0_init_db425_41 : decode cJ0_init_db425 41 = .ok (.getstatic 38, 3) := by decide +kernel
theorem dJ0_init_db425_44 : decode cJ0_init_db425 44 = .ok (.ifCond .eq 35, 3) := by decide +kernel
theorem dJ0_init_db425_47 : decode cJ0_init_db425 47 = .ok (.aload_n 1, 1) := by decide +kernel
theorem dJ0_init_db425_48 : decode cJ0_init_db425 48 = .ok (.getfield 1048, 3) := by decide +kernel
theorem dJ0_init_db425_51 : decode cJ0_init_db425 51 = .ok (.ifCond .eq 28, 3) := by decide +kernel
theorem dJ0_init_db425_54 : decode cJ0_init_db425 54 = .ok (.aload_n 0, 1) := by decide +kernel
theorem dJ0_init_db425_55 : decode cJ0_init_db425 55 = .ok (.aload_n 3, 1) := by decide +kernel
theorem dJ0_init_db425_56 : decode cJ0_init_db425 56 = .ok (.iconst 0, 1) := by decide +kernel
theorem dJ0_init_db425_57 : decode cJ0_init_db425 57 = .ok (.iload 4, 2) := by decide +kernel
theorem dJ0_init_db425_59 : decode cJ0_init_db425 59 = .ok (.invokestatic 1051, 3) := by decide +kernel
theorem dJ0_init_db425_62 : decode cJ0_init_db425 62 = .ok (.putfield 9, 3) := by decide +kernel
theorem dJ0_init_db425_65 : decode cJ0_init_db425 65 = .ok (.aload_n 0, 1) := by decide +kernel
theorem dJ0_init_db425_66 : decode cJ0_init_db425 66 = .ok (.aload_n 0, 1) := by decide +kernel
theorem dJ0_init_db425_67 : decode cJ0_init_db425 67 = .ok (.getfield 9, 3) := by decide +kernel
theorem dJ0_init_db425_70 : decode cJ0_init_db425 70 = .ok (.iload 4, 2) := by decide +kernel
theorem dJ0_init_db425_72 : decode cJ0_init_db425 72 = .ok (.invokestatic 47, 3) := by decide +kernel
theorem dJ0_init_db425_75 : decode cJ0_init_db425 75 = .ok (.putfield 15, 3) := by decide +kernel
theorem dJ0_init_db425_78 : decode cJ0_init_db425 78 = .ok (.return_, 1) := by decide +kernel
theorem dJ0_init_db425_79 : decode cJ0_init_db425 79 = .ok (.aload_n 0, 1) := by decide +kernel
theorem dJ0_init_db425_80 : decode cJ0_init_db425 80 = .ok (.iconst 1, 1) := by decide +kernel
theorem dJ0_init_db425_81 : decode cJ0_init_db425 81 = .ok (.putfield 15, 3) := by decide +kernel
theorem dJ0_init_db425_84 : decode cJ0_init_db425 84 = .ok (.aload_n 0, 1) := by decide +kernel
theorem dJ0_init_db425_85 : decode cJ0_init_db425 85 = .ok (.aload_n 3, 1) := by decide +kernel
theorem dJ0_init_db425_86 : decode cJ0_init_db425 86 = .ok (.iconst 0, 1) := by decide +kernel
theorem dJ0_init_db425_87 : decode cJ0_init_db425 87 = .ok (.iload 4, 2) := by decide +kernel
theorem dJ0_init_db425_89 : decode cJ0_init_db425 89 = .ok (.iconst 1, 1) := by decide +kernel
theorem dJ0_init_db425_90 : decode cJ0_init_db425 90 = .ok (.ishl, 1) := by decide +kernel
theorem dJ0_init_db425_91 : decode cJ0_init_db425 91 = .ok (.invokestatic 54, 3) := by decide +kernel
theorem dJ0_init_db425_94 : decode cJ0_init_db425 94 = .ok (.putfield 9, 3) := by decide +kernel
theorem dJ0_init_db425_97 : decode cJ0_init_db425 97 = .ok (.return_, 1) := by decide +kernel
theorem dJ0_coder_7d493_0 : decode cJ0_coder_7d493 0 = .ok (.getstatic 38, 3) := by decide +kernel
theorem dJ0_coder_7d493_3 : decode cJ0_coder_7d493 3 = .ok (.ifCond .eq 10, 3) := by decide +kernel
theorem dJ0_coder_7d493_6 : decode cJ0_coder_7d493 6 = .ok (.aload_n 0, 1) := by decide +kernel
theorem dJ0_coder_7d493_7 : decode cJ0_coder_7d493 7 = .ok (.getfield 15, 3) := by decide +kernel
theorem dJ0_coder_7d493_10 : decode cJ0_coder_7d493 10 = .ok (.goto 4, 3) := by decide +kernel
theorem dJ0_coder_7d493_13 : decode cJ0_coder_7d493 13 = .ok (.iconst 1, 1) := by decide +kernel
theorem dJ0_coder_7d493_14 : decode cJ0_coder_7d493 14 = .ok (.ireturn, 1) := by decide +kernel
theorem dJ0_isLatin1_aae02_0 : decode cJ0_isLatin1_aae02 0 = .ok (.getstatic 38, 3) := by decide +kernel
theorem dJ0_isLatin1_aae02_3 : decode cJ0_isLatin1_aae02 3 = .ok (.ifCond .eq 14, 3) := by decide +kernel
theorem dJ0_isLatin1_aae02_6 : decode cJ0_isLatin1_aae02 6 = .ok (.aload_n 0, 1) := by decide +kernel
theorem dJ0_isLatin1_aae02_7 : decode cJ0_isLatin1_aae02 7 = .ok (.getfield 15, 3) := by decide +kernel
theorem dJ0_isLatin1_aae02_10 : decode cJ0_isLatin1_aae02 10 = .ok (.ifCond .ne 7, 3) := by decide +kernel
theorem dJ0_isLatin1_aae02_13 : decode cJ0_isLatin1_aae02 13 = .ok (.iconst 1, 1) := by decide +kernel
theorem dJ0_isLatin1_aae02_14 : decode cJ0_isLatin1_aae02 14 = .ok (.goto 4, 3) := by decide +kernel
theorem dJ0_isLatin1_aae02_17 : decode cJ0_isLatin1_aae02 17 = .ok (.iconst 0, 1) := by decide +kernel
theorem dJ0_isLatin1_aae02_18 : decode cJ0_isLatin1_aae02 18 = .ok (.ireturn, 1) := by decide +kernel
theorem dJ0_checkIndex_df160_0 : decode cJ0_checkIndex_df160 0 = .ok (.iload_n 0, 1) := by decide +kernel
theorem dJ0_checkIndex_df160_1 : decode cJ0_checkIndex_df160 1 = .ok (.iload_n 1, 1) := by decide +kernel
theorem dJ0_checkIndex_df160_2 : decode cJ0_checkIndex_df160 2 = .ok (.getstatic 1053, 3) := by decide +kernel
theorem dJ0_checkIndex_df160_5 : decode cJ0_checkIndex_df160 5 = .ok (.invokestatic 1059, 3) := by decide +kernel
theorem dJ0_checkIndex_df160_8 : decode cJ0_checkIndex_df160 8 = .ok (.pop, 1) := by decide +kernel
theorem dJ0_checkIndex_df160_9 : decode cJ0_checkIndex_df160 9 = .ok (.return_, 1) := by decide +kernel
theorem dJ0_checkBoundsOffCount_cabcc_0 : decode cJ0_checkBoundsOffCount_cabcc 0 = .ok (.iload_n 0, 1) := by decide +kernel
theorem dJ0_checkBoundsOffCount_cabcc_1 : decode cJ0_checkBoundsOffCount_cabcc 1 = .ok (.iload_n 1, 1) := by decide +kernel
theorem dJ0_checkBoundsOffCount_cabcc_2 : decode cJ0_checkBoundsOffCount_cabcc 2 = .ok (.iload_n 2, 1) := by decide +kernel
theorem dJ0_checkBoundsOffCount_cabcc_3 : decode cJ0_checkBoundsOffCount_cabcc 3 = .ok (.getstatic 1053, 3) := by decide +kernel
theorem dJ0_checkBoundsOffCount_cabcc_6 : decode cJ0_checkBoundsOffCount_cabcc 6 = .ok (.invokestatic 1065, 3) := by decide +kernel
theorem dJ0_checkBoundsOffCount_cabcc_9 : decode cJ0_checkBoundsOffCount_cabcc 9 = .ok (.ireturn, 1) := by decide +kernel
theorem dJ0_checkBoundsBeginEnd_23922_0 : decode cJ0_checkBoundsBeginEnd_23922 0 = .ok (.iload_n 0, 1) := by decide +kernel
theorem dJ0_checkBoundsBeginEnd_23922_1 : decode cJ0_checkBoundsBeginEnd_23922 1 = .ok (.iload_n 1, 1) := by decide +kernel
theorem dJ0_checkBoundsBeginEnd_23922_2 : decode cJ0_checkBoundsBeginEnd_23922 2 = .ok (.iload_n 2, 1) := by decide +kernel
theorem dJ0_checkBoundsBeginEnd_23922_3 : decode cJ0_checkBoundsBeginEnd_23922 3 = .ok (.getstatic 1053, 3) := by decide +kernel
theorem dJ0_checkBoundsBeginEnd_23922_6 : decode cJ0_checkBoundsBeginEnd_23922 6 = .ok (.invokestatic 1062, 3) := by decide +kernel
theorem dJ0_checkBoundsBeginEnd_23922_9 : decode cJ0_checkBoundsBeginEnd_23922 9 = .ok (.pop, 1) := by decide +kernel
theorem dJ0_checkBoundsBeginEnd_23922_10 : decode cJ0_checkBoundsBeginEnd_23922 10 = .ok (.return_, 1) := by decide +kernel
theorem dJ4_init_da8c8_0 : decode cJ4_init_da8c8 0 = .ok (.aload_n 0, 1) := by decide +kernel
theorem dJ4_init_da8c8_1 : decode cJ4_init_da8c8 1 = .ok (.bipush 16, 2) := by decide +kernel
theorem dJ4_init_da8c8_3 : decode cJ4_init_da8c8 3 = .ok (.invokespecial 1, 3) := by decide +kernel
theorem dJ4_init_da8c8_6 : decode cJ4_init_da8c8 6 = .ok (.return_, 1) := by decide +kernel
theorem dJ4_append_15ec4_0 : decode cJ4_append_15ec4 0 = .ok (.aload_n 0, 1) := by decide +kernel
theorem dJ4_append_15ec4_1 : decode cJ4_append_15ec4 1 = .ok (.aload_n 1, 1) := by decide +kernel
theorem dJ4_append_15ec4_2 : decode cJ4_append_15ec4 2 = .ok (.invokespecial 29, 3) := by decide +kernel
theorem dJ4_append_15ec4_5 : decode cJ4_append_15ec4 5 = .ok (.pop, 1) := by decide +kernel
theorem dJ4_append_15ec4_6 : decode cJ4_append_15ec4 6 = .ok (.aload_n 0, 1) := by decide +kernel
theorem dJ4_append_15ec4_7 : decode cJ4_append_15ec4 7 = .ok (.areturn, 1) := by decide +kernel
theorem dJ4_append_bf812_0 : decode cJ4_append_bf812 0 = .ok (.aload_n 0, 1) := by decide +kernel
theorem dJ4_append_bf812_1 : decode cJ4_append_bf812 1 = .ok (.iload_n 1, 1) := by decide +kernel
theorem dJ4_append_bf812_2 : decode cJ4_append_bf812 2 = .ok (.invokespecial 53, 3) := by decide +kernel
theorem dJ4_append_bf812_5 : decode cJ4_append_bf812 5 = .ok (.pop, 1) := by decide +kernel
theorem dJ4_append_bf812_6 : decode cJ4_append_bf812 6 = .ok (.aload_n 0, 1) := by decide +kernel
theorem dJ4_append_bf812_7 : decode cJ4_append_bf812 7 = .ok (.areturn, 1) := by decide +kernel
end
section
theorem dJ4_toString_0e30d_0 : decode cJ4_toString_0e30d 0 = .ok (.new 18, 3) := by decide +kernel
theorem dJ4_toString_0e30d_3 : decode cJ4_toString_0e30d 3 = .ok (.dup, 1) := by decide +kernel
theorem dJ4_toString_0e30d_4 : decode cJ4_toString_0e30d 4 = .ok (.aload_n 0, 1) := by decide +kernel
theorem dJ4_toString_0e30d_5 : decode cJ4_toString_0e30d 5 = .ok (.invokespecial 137, 3) := by decide +kernel
theorem dJ4_toString_0e30d_8 : decode cJ4_toString_0e30d 8 = .ok (.areturn, 1) := by decide +kernel
theorem dJ4_length_8abf5_0 : decode cJ4_length_8abf5 0 = .ok (.aload_n 0, 1) := by decide +kernel
theorem dJ4_length_8abf5_1 : decode cJ4_length_8abf5 1 = .ok (.invokespecial 343, 3) := by decide +kernel
theorem dJ4_length_8abf5_4 : decode cJ4_length_8abf5 4 = .ok (.ireturn, 1) := by decide +kernel
theorem dJ1_charAt_3b067_0 : decode cJ1_charAt_3b067 0 = .ok (.iload_n 1, 1) := by decide +kernel
theorem dJ1_charAt_3b067_1 : decode cJ1_charAt_3b067 1 = .ok (.aload_n 0, 1) := by decide +kernel
theorem dJ1_charAt_3b067_2 : decode cJ1_charAt_3b067 2 = .ok (.arraylength, 1) := by decide +kernel
theorem dJ1_charAt_3b067_3 : decode cJ1_charAt_3b067 3 = .ok (.invokestatic 9, 3) := by decide +kernel
theorem dJ1_charAt_3b067_6 : decode cJ1_charAt_3b067 6 = .ok (.aload_n 0, 1) := by decide +kernel
theorem dJ1_charAt_3b067_7 : decode cJ1_charAt_3b067 7 = .ok (.iload_n 1, 1) := by decide +kernel
theorem dJ1_charAt_3b067_8 : decode cJ1_charAt_3b067 8 = .ok (.baload, 1) := by decide +kernel
theorem dJ1_charAt_3b067_9 : decode cJ1_charAt_3b067 9 = .ok (.sipush 255, 3) := by decide +kernel
theorem dJ1_charAt_3b067_12 : decode cJ1_charAt_3b067 12 = .ok (.iand, 1) := by decide +kernel
theorem dJ1_charAt_3b067_13 : decode cJ1_charAt_3b067 13 = .ok (.i2c, 1) := by decide +kernel
theorem dJ1_charAt_3b067_14 : decode cJ1_charAt_3b067 14 = .ok (.ireturn, 1) := by decide +kernel
theorem dJ1_inflate_0e8fd_0 : decode cJ1_inflate_0e8fd 0 = .ok (.aload_n 0, 1) := by decide +kernel
theorem dJ1_inflate_0e8fd_1 : decode cJ1_inflate_0e8fd 1 = .ok (.iload_n 1, 1) := by decide +kernel
theorem dJ1_inflate_0e8fd_2 : decode cJ1_inflate_0e8fd 2 = .ok (.aload_n 2, 1) := by decide +kernel
theorem dJ1_inflate_0e8fd_3 : decode cJ1_inflate_0e8fd 3 = .ok (.iload_n 3, 1) := by decide +kernel
theorem dJ1_inflate_0e8fd_4 : decode cJ1_inflate_0e8fd 4 = .ok (.iload 4, 2) := by decide +kernel
theorem dJ1_inflate_0e8fd_6 : decode cJ1_inflate_0e8fd 6 = .ok (.invokestatic 240, 3) := by decide +kernel
theorem dJ1_inflate_0e8fd_9 : decode cJ1_inflate_0e8fd 9 = .ok (.return_, 1) := by decide +kernel
theorem dJ2_newBytesFor_77867_0 : decode cJ2_newBytesFor_77867 0 = .ok (.iload_n 0, 1) := by decide +kernel
theorem dJ2_newBytesFor_77867_1 : decode cJ2_newBytesFor_77867 1 = .ok (.invokestatic 11, 3) := by decide +kernel
theorem dJ2_newBytesFor_77867_4 : decode cJ2_newBytesFor_77867 4 = .ok (.newarray .byte, 2) := by decide +kernel
theorem dJ2_newBytesFor_77867_6 : decode cJ2_newBytesFor_77867 6 = .ok (.areturn, 1) := by decide +kernel
theorem dJ2_newBytesLength_0f7a4_0 : decode cJ2_newBytesLength_0f7a4 0 = .ok (.iload_n 0, 1) := by decide +kernel
theorem dJ2_newBytesLength_0f7a4_1 : decode cJ2_newBytesLength_0f7a4 1 = .ok (.ifCond .ge 11, 3) := by decide +kernel
theorem dJ2_newBytesLength_0f7a4_4 : decode cJ2_newBytesLength_0f7a4 4 = .ok (.new 17, 3) := by decide +kernel
theorem dJ2_newBytesLength_0f7a4_7 : decode cJ2_newBytesLength_0f7a4 7 = .ok (.dup, 1) := by decide +kernel
theorem dJ2_newBytesLength_0f7a4_8 : decode cJ2_newBytesLength_0f7a4 8 = .ok (.invokespecial 19, 3) := by decide +kernel
theorem dJ2_newBytesLength_0f7a4_11 : decode cJ2_newBytesLength_0f7a4 11 = .ok (.athrow, 1) := by decide +kernel
theorem dJ2_newBytesLength_0f7a4_12 : decode cJ2_newBytesLength_0f7a4 12 = .ok (.iload_n 0, 1) := by decide +kernel
theorem dJ2_newBytesLength_0f7a4_13 : decode cJ2_newBytesLength_0f7a4 13 = .ok (.ldc 20, 2) := by decide +kernel
theorem dJ2_newBytesLength_0f7a4_15 : decode cJ2_newBytesLength_0f7a4 15 = .ok (.if_icmp .lt 40, 3) := by decide +kernel
theorem dJ2_newBytesLength_0f7a4_18 : decode cJ2_newBytesLength_0f7a4 18 = .ok (.new 21, 3) := by decide +kernel
theorem dJ2_newBytesLength_0f7a4_21 : decode cJ2_newBytesLength_0f7a4 21 = .ok (.dup, 1) := by decide +kernel
theorem dJ2_newBytesLength_0f7a4_22 : decode cJ2_newBytesLength_0f7a4 22 = .ok (.new 23, 3) := by decide +kernel
theorem dJ2_newBytesLength_0f7a4_25 : decode cJ2_newBytesLength_0f7a4 25 = .ok (.dup, 1) := by decide +kernel
theorem dJ2_newBytesLength_0f7a4_26 : decode cJ2_newBytesLength_0f7a4 26 = .ok (.invokespecial 25, 3) := by decide +kernel
theorem dJ2_newBytesLength_0f7a4_29 : decode cJ2_newBytesLength_0f7a4 29 = .ok (.ldc 26, 2) := by decide +kernel
theorem dJ2_newBytesLength_0f7a4_31 : decode cJ2_newBytesLength_0f7a4 31 = .ok (.invokevirtual 28, 3) := by decide +kernel
theorem dJ2_newBytesLength_0f7a4_34 : decode cJ2_newBytesLength_0f7a4 34 = .ok (.iload_n 0, 1) := by decide +kernel
theorem dJ2_newBytesLength_0f7a4_35 : decode cJ2_newBytesLength_0f7a4 35 = .ok (.invokevirtual 32, 3) := by decide +kernel
theorem dJ2_newBytesLength_0f7a4_38 : decode cJ2_newBytesLength_0f7a4 38 = .ok (.ldc 35, 2) := by decide +kernel
theorem dJ2_newBytesLength_0f7a4_40 : decode cJ2_newBytesLength_0f7a4 40 = .ok (.invokevirtual 28, 3) := by decide +kernel
theorem dJ2_newBytesLength_0f7a4_43 : decode cJ2_newBytesLength_0f7a4 43 = .ok (.ldc 20, 2) := by decide +kernel
theorem dJ2_newBytesLength_0f7a4_45 : decode cJ2_newBytesLength_0f7a4 45 = .ok (.invokevirtual 32, 3) := by decide +kernel
theorem dJ2_newBytesLength_0f7a4_48 : decode cJ2_newBytesLength_0f7a4 48 = .ok (.invokevirtual 37, 3) := by decide +kernel
theorem dJ2_newBytesLength_0f7a4_51 : decode cJ2_newBytesLength_0f7a4 51 = .ok (.invokespecial 41, 3) := by decide +kernel
theorem dJ2_newBytesLength_0f7a4_54 : decode cJ2_newBytesLength_0f7a4 54 = .ok (.athrow, 1) := by decide +kernel
theorem dJ2_newBytesLength_0f7a4_55 : decode cJ2_newBytesLength_0f7a4 55 = .ok (.iload_n 0, 1) := by decide +kernel
theorem dJ2_newBytesLength_0f7a4_56 : decode cJ2_newBytesLength_0f7a4 56 = .ok (.iconst 1, 1) := by decide +kernel
theorem dJ2_newBytesLength_0f7a4_57 : decode cJ2_newBytesLength_0f7a4 57 = .ok (.ishl, 1) := by decide +kernel
theorem dJ2_newBytesLength_0f7a4_58 : decode cJ2_newBytesLength_0f7a4 58 = .ok (.ireturn, 1) := by decide +kernel
theorem dJ2_putChar_b72d1_0 : decode cJ2_putChar_b72d1 0 = .ok (.getstatic 44, 3) := by decide +kernel
theorem dJ2_putChar_b72d1_3 : decode cJ2_putChar_b72d1 3 = .ok (.ifCond .ne 25, 3) := by decide +kernel
theorem dJ2_putChar_b72d1_6 : decode cJ2_putChar_b72d1 6 = .ok (.iload_n 1, 1) := by decide +kernel
theorem dJ2_putChar_b72d1_7 : decode cJ2_putChar_b72d1 7 = .ok (.ifCond .lt 11, 3) := by decide +kernel
theorem dJ2_putChar_b72d1_10 : decode cJ2_putChar_b72d1 10 = .ok (.iload_n 1, 1) := by decide +kernel
theorem dJ2_putChar_b72d1_11 : decode cJ2_putChar_b72d1 11 = .ok (.aload_n 0, 1) := by decide +kernel
theorem dJ2_putChar_b72d1_12 : decode cJ2_putChar_b72d1 12 = .ok (.invokestatic 48, 3) := by decide +kernel
theorem dJ2_putChar_b72d1_15 : decode cJ2_putChar_b72d1 15 = .ok (.if_icmp .lt 13, 3) := by decide +kernel
theorem dJ2_putChar_b72d1_18 : decode cJ2_putChar_b72d1 18 = .ok (.new 52, 3) := by decide +kernel
theorem dJ2_putChar_b72d1_21 : decode cJ2_putChar_b72d1 21 = .ok (.dup, 1) := by decide +kernel
theorem dJ2_putChar_b72d1_22 : decode cJ2_putChar_b72d1 22 = .ok (.ldc 54, 2) := by decide +kernel
theorem dJ2_putChar_b72d1_24 : decode cJ2_putChar_b72d1 24 = .ok (.invokespecial 56, 3) := by decide +kernel
theorem dJ2_putChar_b72d1_27 : decode cJ2_putChar_b72d1 27 = .ok (.athrow, 1) := by decide +kernel
theorem dJ2_putChar_b72d1_28 : decode cJ2_putChar_b72d1 28 = .ok (.iload_n 1, 1) := by decide +kernel
theorem dJ2_putChar_b72d1_29 : decode cJ2_putChar_b72d1 29 = .ok (.iconst 1, 1) := by decide +kernel
theorem dJ2_putChar_b72d1_30 : decode cJ2_putChar_b72d1 30 = .ok (.ishl, 1) := by decide +kernel
theorem dJ2_putChar_b72d1_31 : decode cJ2_putChar_b72d1 31 = .ok (.istore_n 1, 1) := by decide +kernel
theorem dJ2_putChar_b72d1_32 : decode cJ2_putChar_b72d1 32 = .ok (.aload_n 0, 1) := by decide +kernel
theorem dJ2_putChar_b72d1_33 : decode cJ2_putChar_b72d1 33 = .ok (.iload_n 1, 1) := by decide +kernel
theorem dJ2_putChar_b72d1_34 : decode cJ2_putChar_b72d1 34 = .ok (.iinc 1 1, 3) := by decide +kernel
theorem dJ2_putChar_b72d1_37 : decode cJ2_putChar_b72d1 37 = .ok (.iload_n 2, 1) := by decide +kernel
theorem dJ2_putChar_b72d1_38 : decode cJ2_putChar_b72d1 38 = .ok (.getstatic 59, 3) := by decide +kernel
theorem dJ2_putChar_b72d1_41 : decode cJ2_putChar_b72d1 41 = .ok (.ishr, 1) := by decide +kernel
theorem dJ2_putChar_b72d1_42 : decode cJ2_putChar_b72d1 42 = .ok (.i2b, 1) := by decide +kernel
theorem dJ2_putChar_b72d1_43 : decode cJ2_putChar_b72d1 43 = .ok (.bastore, 1) := by decide +kernel
theorem dJ2_putChar_b72d1_44 : decode cJ2_putChar_b72d1 44 = .ok (.aload_n 0, 1) := by decide +kernel
theorem dJ2_putChar_b72d1_45 : decode cJ2_putChar_b72d1 45 = .ok (.iload_n 1, 1) := by decide +kernel
theorem dJ2_putChar_b72d1_46 : decode cJ2_putChar_b72d1 46 = .ok (.iload_n 2, 1) := by decide +kernel
theorem dJ2_putChar_b72d1_47 : decode cJ2_putChar_b72d1 47 = .ok (.getstatic 63, 3) := by decide +kernel
theorem dJ2_putChar_b72d1_50 : decode cJ2_putChar_b72d1 50 = .ok (.ishr, 1) := by decide +kernel
theorem dJ2_putChar_b72d1_51 : decode cJ2_putChar_b72d1 51 = .ok (.i2b, 1) := by decide +kernel
theorem dJ2_putChar_b72d1_52 : decode cJ2_putChar_b72d1 52 = .ok (.bastore, 1) := by decide +kernel
theorem dJ2_putChar_b72d1_53 : decode cJ2_putChar_b72d1 53 = .ok (.return_, 1) := by decide +kernel
theorem dJ2_getChar_3b067_0 : decode cJ2_getChar_3b067 0 = .ok (.getstatic 44, 3) := by decide +kernel
theorem dJ2_getChar_3b067_3 : decode cJ2_getChar_3b067 3 = .ok (.ifCond .ne 25, 3) := by decide +kernel
theorem dJ2_getChar_3b067_6 : decode cJ2_getChar_3b067 6 = .ok (.iload_n 1, 1) := by decide +kernel
theorem dJ2_getChar_3b067_7 : decode cJ2_getChar_3b067 7 = .ok (.ifCond .lt 11, 3) := by decide +kernel
theorem dJ2_getChar_3b067_10 : decode cJ2_getChar_3b067 10 = .ok (.iload_n 1, 1) := by decide +kernel
theorem dJ2_getChar_3b067_11 : decode cJ2_getChar_3b067 11 = .ok (.aload_n 0, 1) := by decide +kernel
theorem dJ2_getChar_3b067_12 : decode cJ2_getChar_3b067 12 = .ok (.invokestatic 48, 3) := by decide +kernel
theorem dJ2_getChar_3b067_15 : decode cJ2_getChar_3b067 15 = .ok (.if_icmp .lt 13, 3) := by decide +kernel
theorem dJ2_getChar_3b067_18 : decode cJ2_getChar_3b067 18 = .ok (.new 52, 3) := by decide +kernel
theorem dJ2_getChar_3b067_21 : decode cJ2_getChar_3b067 21 = .ok (.dup, 1) := by decide +kernel
theorem dJ2_getChar_3b067_22 : decode cJ2_getChar_3b067 22 = .ok (.ldc 54, 2) := by decide +kernel
theorem dJ2_getChar_3b067_24 : decode cJ2_getChar_3b067 24 = .ok (.invokespecial 56, 3) := by decide +kernel
theorem dJ2_getChar_3b067_27 : decode cJ2_getChar_3b067 27 = .ok (.athrow, 1) := by decide +kernel
theorem dJ2_getChar_3b067_28 : decode cJ2_getChar_3b067 28 = .ok (.iload_n 1, 1) := by decide +kernel
theorem dJ2_getChar_3b067_29 : decode cJ2_getChar_3b067 29 = .ok (.iconst 1, 1) := by decide +kernel
theorem dJ2_getChar_3b067_30 : decode cJ2_getChar_3b067 30 = .ok (.ishl, 1) := by decide +kernel
theorem dJ2_getChar_3b067_31 : decode cJ2_getChar_3b067 31 = .ok (.istore_n 1, 1) := by decide +kernel
theorem dJ2_getChar_3b067_32 : decode cJ2_getChar_3b067 32 = .ok (.aload_n 0, 1) := by decide +kernel
theorem dJ2_getChar_3b067_33 : decode cJ2_getChar_3b067 33 = .ok (.iload_n 1, 1) := by decide +kernel
theorem dJ2_getChar_3b067_34 : decode cJ2_getChar_3b067 34 = .ok (.iinc 1 1, 3) := by decide +kernel
theorem dJ2_getChar_3b067_37 : decode cJ2_getChar_3b067 37 = .ok (.baload, 1) := by decide +kernel
theorem dJ2_getChar_3b067_38 : decode cJ2_getChar_3b067 38 = .ok (.sipush 255, 3) := by decide +kernel
theorem dJ2_getChar_3b067_41 : decode cJ2_getChar_3b067 41 = .ok (.iand, 1) := by decide +kernel
theorem dJ2_getChar_3b067_42 : decode cJ2_getChar_3b067 42 = .ok (.getstatic 59, 3) := by decide +kernel
theorem dJ2_getChar_3b067_45 : decode cJ2_getChar_3b067 45 = .ok (.ishl, 1) := by decide +kernel
theorem dJ2_getChar_3b067_46 : decode cJ2_getChar_3b067 46 = .ok (.aload_n 0, 1) := by decide +kernel
theorem dJ2_getChar_3b067_47 : decode cJ2_getChar_3b067 47 = .ok (.iload_n 1, 1) := by decide +kernel
theorem dJ2_getChar_3b067_48 : decode cJ2_getChar_3b067 48 = .ok (.baload, 1) := by decide +kernel
theorem dJ2_getChar_3b067_49 : decode cJ2_getChar_3b067 49 = .ok (.sipush 255, 3) := by decide +kernel
theorem dJ2_getChar_3b067_52 : decode cJ2_getChar_3b067 52 = .ok (.iand, 1) := by decide +kernel
theorem dJ2_getChar_3b067_53 : decode cJ2_getChar_3b067 53 = .ok (.getstatic 63, 3) := by decide +kernel
theorem dJ2_getChar_3b067_56 : decode cJ2_getChar_3b067 56 = .ok (.ishl, 1) := by decide +kernel
theorem dJ2_getChar_3b067_57 : decode cJ2_getChar_3b067 57 = .ok (.ior, 1) := by decide +kernel
theorem dJ2_getChar_3b067_58 : decode cJ2_getChar_3b067 58 = .ok (.i2c, 1) := by decide +kernel
theorem dJ2_getChar_3b067_59 : decode cJ2_getChar_3b067 59 = .ok (.ireturn, 1) := by decide +kernel
theorem dJ2_length_9d52b_0 : decode cJ2_length_9d52b 0 = .ok (.aload_n 0, 1) := by decide +kernel
theorem dJ2_length_9d52b_1 : decode cJ2_length_9d52b 1 = .ok (.arraylength, 1) := by decide +kernel
theorem dJ2_length_9d52b_2 : decode cJ2_length_9d52b 2 = .ok (.iconst 1, 1) := by decide +kernel
theorem dJ2_length_9d52b_3 : decode cJ2_length_9d52b 3 = .ok (.ishr, 1) := by decide +kernel
theorem dJ2_length_9d52b_4 : decode cJ2_length_9d52b 4 = .ok (.ireturn, 1) := by decide +kernel
theorem dJ2_coderFromArrayLen_85cad_0 : decode cJ2_coderFromArrayLen_85cad 0 = .ok (.iload_n 1, 1) := by decide +kernel
theorem dJ2_coderFromArrayLen_85cad_1 : decode cJ2_coderFromArrayLen_85cad 1 = .ok (.aload_n 0, 1) := by decide +kernel
theorem dJ2_coderFromArrayLen_85cad_2 : decode cJ2_coderFromArrayLen_85cad 2 = .ok (.arraylength, 1) := by decide +kernel
theorem dJ2_coderFromArrayLen_85cad_3 : decode cJ2_coderFromArrayLen_85cad 3 = .ok (.isub, 1) := by decide +kernel
theorem dJ2_coderFromArrayLen_85cad_4 : decode cJ2_coderFromArrayLen_85cad 4 = .ok (.bipush 31, 2) := by decide +kernel
theorem dJ2_coderFromArrayLen_85cad_6 : decode cJ2_coderFromArrayLen_85cad 6 = .ok (.iushr, 1) := by decide +kernel
theorem dJ2_coderFromArrayLen_85cad_7 : decode cJ2_coderFromArrayLen_85cad 7 = .ok (.i2b, 1) := by decide +kernel
theorem dJ2_coderFromArrayLen_85cad_8 : decode cJ2_coderFromArrayLen_85cad 8 = .ok (.ireturn, 1) := by decide +kernel
theorem dJ2_compress_39247_0 : decode cJ2_compress_39247 0 = .ok (.iload_n 2, 1) := by decide +kernel
theorem dJ2_compress_39247_1 : decode cJ2_compress_39247 1 = .ok (.newarray .byte, 2) := by decide +kernel
theorem dJ2_compress_39247_3 : decode cJ2_compress_39247 3 = .ok (.astore_n 3, 1) := by decide +kernel
theorem dJ2_compress_39247_4 : decode cJ2_compress_39247 4 = .ok (.aload_n 0, 1) := by decide +kernel
theorem dJ2_compress_39247_5 : decode cJ2_compress_39247 5 = .ok (.iload_n 1, 1) := by decide +kernel
theorem dJ2_compress_39247_6 : decode cJ2_compress_39247 6 = .ok (.aload_n 3, 1) := by decide +kernel
theorem dJ2_compress_39247_7 : decode cJ2_compress_39247 7 = .ok (.iconst 0, 1) := by decide +kernel
theorem dJ2_compress_39247_8 : decode cJ2_compress_39247 8 = .ok (.iload_n 2, 1) := by decide +kernel
theorem dJ2_compress_39247_9 : decode cJ2_compress_39247 9 = .ok (.invokestatic 123, 3) := by decide +kernel
theorem dJ2_compress_39247_12 : decode cJ2_compress_39247 12 = .ok (.istore 4, 2) := by decide +kernel
theorem dJ2_compress_39247_14 : decode cJ2_compress_39247 14 = .ok (.iload 4, 2) := by decide +kernel
theorem dJ2_compress_39247_16 : decode cJ2_compress_39247 16 = .ok (.iload_n 2, 1) := by decide +kernel
theorem dJ2_compress_39247_17 : decode cJ2_compress_39247 17 = .ok (.if_icmp .eq 47, 3) := by decide +kernel
theorem dJ2_compress_39247_20 : decode cJ2_compress_39247 20 = .ok (.aload_n 0, 1) := by decide +kernel
theorem dJ2_compress_39247_21 : decode cJ2_compress_39247 21 = .ok (.iload_n 1, 1) := by decide +kernel
theorem dJ2_compress_39247_22 : decode cJ2_compress_39247 22 = .ok (.iconst 1, 1) := by decide +kernel
theorem dJ2_compress_39247_23 : decode cJ2_compress_39247 23 = .ok (.ishl, 1) := by decide +kernel
theorem dJ2_compress_39247_24 : decode cJ2_compress_39247 24 = .ok (.iload_n 1, 1) := by decide +kernel
theorem dJ2_compress_39247_25 : decode cJ2_compress_39247 25 = .ok (.iload_n 2, 1) := by decide +kernel
theorem dJ2_compress_39247_26 : decode cJ2_compress_39247 26 = .ok (.iadd, 1) := by decide +kernel
theorem dJ2_compress_39247_27 : decode cJ2_compress_39247 27 = .ok (.invokestatic 11, 3) := by decide +kernel
theorem dJ2_compress_39247_30 : decode cJ2_compress_39247 30 = .ok (.invokestatic 126, 3) := by decide +kernel
theorem dJ2_compress_39247_33 : decode cJ2_compress_39247 33 = .ok (.astore 5, 2) := by decide +kernel
theorem dJ2_compress_39247_35 : decode cJ2_compress_39247 35 = .ok (.aload 5, 2) := by decide +kernel
theorem dJ2_compress_39247_37 : decode cJ2_compress_39247 37 = .ok (.iload 4, 2) := by decide +kernel
theorem dJ2_compress_39247_39 : decode cJ2_compress_39247 39 = .ok (.invokestatic 71, 3) := by decide +kernel
theorem dJ2_compress_39247_42 : decode cJ2_compress_39247 42 = .ok (.sipush 255, 3) := by decide +kernel
theorem dJ2_compress_39247_45 : decode cJ2_compress_39247 45 = .ok (.if_icmp .gt 16, 3) := by decide +kernel
theorem dJ2_compress_39247_48 : decode cJ2_compress_39247 48 = .ok (.aload 5, 2) := by decide +kernel
theorem dJ2_compress_39247_50 : decode cJ2_compress_39247 50 = .ok (.iconst 0, 1) := by decide +kernel
theorem dJ2_compress_39247_51 : decode cJ2_compress_39247 51 = .ok (.aload_n 3, 1) := by decide +kernel
theorem dJ2_compress_39247_52 : decode cJ2_compress_39247 52 = .ok (.iconst 0, 1) := by decide +kernel
theorem dJ2_compress_39247_53 : decode cJ2_compress_39247 53 = .ok (.iload_n 2, 1) := by decide +kernel
theorem dJ2_compress_39247_54 : decode cJ2_compress_39247 54 = .ok (.invokestatic 123, 3) := by decide +kernel
theorem dJ2_compress_39247_57 : decode cJ2_compress_39247 57 = .ok (.iload_n 2, 1) := by decide +kernel
theorem dJ2_compress_39247_58 : decode cJ2_compress_39247 58 = .ok (.if_icmp .eq 6, 3) := by decide +kernel
theorem dJ2_compress_39247_61 : decode cJ2_compress_39247 61 = .ok (.aload 5, 2) := by decide +kernel
theorem dJ2_compress_39247_63 : decode cJ2_compress_39247 63 = .ok (.areturn, 1) := by decide +kernel
theorem dJ2_compress_39247_64 : decode cJ2_compress_39247 64 = .ok (.aload_n 3, 1) := by decide +kernel
theorem dJ2_compress_39247_65 : decode cJ2_compress_39247 65 = .ok (.areturn, 1) := by decide +kernel
theorem dJ2_compress_5af95_0 : decode cJ2_compress_5af95 0 = .ok (.iload_n 1, 1) := by decide +kernel
theorem dJ2_compress_5af95_1 : decode cJ2_compress_5af95 1 = .ok (.iload 4, 2) := by decide +kernel
theorem dJ2_compress_5af95_3 : decode cJ2_compress_5af95 3 = .ok (.aload_n 0, 1) := by decide +kernel
theorem dJ2_compress_5af95_4 : decode cJ2_compress_5af95 4 = .ok (.invokestatic 173, 3) := by decide +kernel
theorem dJ2_compress_5af95_7 : decode cJ2_compress_5af95 7 = .ok (.iconst 0, 1) := by decide +kernel
theorem dJ2_compress_5af95_8 : decode cJ2_compress_5af95 8 = .ok (.istore 5, 2) := by decide +kernel
theorem dJ2_compress_5af95_10 : decode cJ2_compress_5af95 10 = .ok (.iload 5, 2) := by decide +kernel
theorem dJ2_compress_5af95_12 : decode cJ2_compress_5af95 12 = .ok (.iload 4, 2) := by decide +kernel
theorem dJ2_compress_5af95_14 : decode cJ2_compress_5af95 14 = .ok (.if_icmp .ge 39, 3) := by decide +kernel
theorem dJ2_compress_5af95_17 : decode cJ2_compress_5af95 17 = .ok (.aload_n 0, 1) := by decide +kernel
theorem dJ2_compress_5af95_18 : decode cJ2_compress_5af95 18 = .ok (.iload_n 1, 1) := by decide +kernel
theorem dJ2_compress_5af95_19 : decode cJ2_compress_5af95 19 = .ok (.invokestatic 71, 3) := by decide +kernel
theorem dJ2_compress_5af95_22 : decode cJ2_compress_5af95 22 = .ok (.istore 6, 2) := by decide +kernel
theorem dJ2_compress_5af95_24 : decode cJ2_compress_5af95 24 = .ok (.iload 6, 2) := by decide +kernel
theorem dJ2_compress_5af95_26 : decode cJ2_compress_5af95 26 = .ok (.sipush 255, 3) := by decide +kernel
theorem dJ2_compress_5af95_29 : decode cJ2_compress_5af95 29 = .ok (.if_icmp .le 6, 3) := by decide +kernel
theorem dJ2_compress_5af95_32 : decode cJ2_compress_5af95 32 = .ok (.iload 5, 2) := by decide +kernel
theorem dJ2_compress_5af95_34 : decode cJ2_compress_5af95 34 = .ok (.ireturn, 1) := by decide +kernel
theorem dJ2_compress_5af95_35 : decode cJ2_compress_5af95 35 = .ok (.aload_n 2, 1) := by decide +kernel
theorem dJ2_compress_5af95_36 : decode cJ2_compress_5af95 36 = .ok (.iload_n 3, 1) := by decide +kernel
theorem dJ2_compress_5af95_37 : decode cJ2_compress_5af95 37 = .ok (.iload 6, 2) := by decide +kernel
theorem dJ2_compress_5af95_39 : decode cJ2_compress_5af95 39 = .ok (.i2b, 1) := by decide +kernel
theorem dJ2_compress_5af95_40 : decode cJ2_compress_5af95 40 = .ok (.bastore, 1) := by decide +kernel
theorem dJ2_compress_5af95_41 : decode cJ2_compress_5af95 41 = .ok (.iinc 1 1, 3) := by decide +kernel
theorem dJ2_compress_5af95_44 : decode cJ2_compress_5af95 44 = .ok (.iinc 3 1, 3) := by decide +kernel
theorem dJ2_compress_5af95_47 : decode cJ2_compress_5af95 47 = .ok (.iinc 5 1, 3) := by decide +kernel
theorem dJ2_compress_5af95_50 : decode cJ2_compress_5af95 50 = .ok (.goto (-40), 3) := by decide +kernel
theorem dJ2_compress_5af95_53 : decode cJ2_compress_5af95 53 = .ok (.iload 4, 2) := by decide +kernel
theorem dJ2_compress_5af95_55 : decode cJ2_compress_5af95 55 = .ok (.ireturn, 1) := by decide +kernel
theorem dJ2_getChars_46870_0 : decode cJ2_getChars_46870 0 = .ok (.iload_n 1, 1) := by decide +kernel
theorem dJ2_getChars_46870_1 : decode cJ2_getChars_46870 1 = .ok (.iload_n 2, 1) := by decide +kernel
theorem dJ2_getChars_46870_2 : decode cJ2_getChars_46870 2 = .ok (.aload_n 3, 1) := by decide +kernel
theorem dJ2_getChars_46870_3 : decode cJ2_getChars_46870 3 = .ok (.invokestatic 96, 3) := by decide +kernel
theorem dJ2_getChars_46870_6 : decode cJ2_getChars_46870 6 = .ok (.iload_n 0, 1) := by decide +kernel
theorem dJ2_getChars_46870_7 : decode cJ2_getChars_46870 7 = .ok (.iload_n 2, 1) := by decide +kernel
theorem dJ2_getChars_46870_8 : decode cJ2_getChars_46870 8 = .ok (.aload_n 3, 1) := by decide +kernel
theorem dJ2_getChars_46870_9 : decode cJ2_getChars_46870 9 = .ok (.invokestatic 393, 3) := by decide +kernel
theorem dJ2_getChars_46870_12 : decode cJ2_getChars_46870 12 = .ok (.istore 4, 2) := by decide +kernel
theorem dJ2_getChars_46870_14 : decode cJ2_getChars_46870 14 = .ok (.getstatic 44, 3) := by decide +kernel
theorem dJ2_getChars_46870_17 : decode cJ2_getChars_46870 17 = .ok (.ifCond .ne 17, 3) := by decide +kernel
theorem dJ2_getChars_46870_20 : decode cJ2_getChars_46870 20 = .ok (.iload_n 1, 1) := by decide +kernel
theorem dJ2_getChars_46870_21 : decode cJ2_getChars_46870 21 = .ok (.iload 4, 2) := by decide +kernel
theorem dJ2_getChars_46870_23 : decode cJ2_getChars_46870 23 = .ok (.if_icmp .eq 11, 3) := by decide +kernel
theorem dJ2_getChars_46870_26 : decode cJ2_getChars_46870 26 = .ok (.new 52, 3) := by decide +kernel
theorem dJ2_getChars_46870_29 : decode cJ2_getChars_46870 29 = .ok (.dup, 1) := by decide +kernel
theorem dJ2_getChars_46870_30 : decode cJ2_getChars_46870 30 = .ok (.invokespecial 66, 3) := by decide +kernel
theorem dJ2_getChars_46870_33 : decode cJ2_getChars_46870 33 = .ok (.athrow, 1) := by decide +kernel
theorem dJ2_getChars_46870_34 : decode cJ2_getChars_46870 34 = .ok (.iload 4, 2) := by decide +kernel
theorem dJ2_getChars_46870_36 : decode cJ2_getChars_46870 36 = .ok (.ireturn, 1) := by decide +kernel
theorem dJ2_putCharsAt_cd4e5_0 : decode cJ2_putCharsAt_cd4e5 0 = .ok (.iload_n 1, 1) := by decide +kernel
theorem dJ2_putCharsAt_cd4e5_1 : decode cJ2_putCharsAt_cd4e5 1 = .ok (.iconst 4, 1) := by decide +kernel
theorem dJ2_putCharsAt_cd4e5_2 : decode cJ2_putCharsAt_cd4e5 2 = .ok (.iadd, 1) := by decide +kernel
theorem dJ2_putCharsAt_cd4e5_3 : decode cJ2_putCharsAt_cd4e5 3 = .ok (.istore 6, 2) := by decide +kernel
theorem dJ2_putCharsAt_cd4e5_5 : decode cJ2_putCharsAt_cd4e5 5 = .ok (.iload_n 1, 1) := by decide +kernel
theorem dJ2_putCharsAt_cd4e5_6 : decode cJ2_putCharsAt_cd4e5 6 = .ok (.iload 6, 2) := by decide +kernel
theorem dJ2_putCharsAt_cd4e5_8 : decode cJ2_putCharsAt_cd4e5 8 = .ok (.aload_n 0, 1) := by decide +kernel
theorem dJ2_putCharsAt_cd4e5_9 : decode cJ2_putCharsAt_cd4e5 9 = .ok (.invokestatic 96, 3) := by decide +kernel
theorem dJ2_putCharsAt_cd4e5_12 : decode cJ2_putCharsAt_cd4e5 12 = .ok (.aload_n 0, 1) := by decide +kernel
theorem dJ2_putCharsAt_cd4e5_13 : decode cJ2_putCharsAt_cd4e5 13 = .ok (.iload_n 1, 1) := by decide +kernel
theorem dJ2_putCharsAt_cd4e5_14 : decode cJ2_putCharsAt_cd4e5 14 = .ok (.iinc 1 1, 3) := by decide +kernel
theorem dJ2_putCharsAt_cd4e5_17 : decode cJ2_putCharsAt_cd4e5 17 = .ok (.iload_n 2, 1) := by decide +kernel
theorem dJ2_putCharsAt_cd4e5_18 : decode cJ2_putCharsAt_cd4e5 18 = .ok (.invokestatic 111, 3) := by decide +kernel
theorem dJ2_putCharsAt_cd4e5_21 : decode cJ2_putCharsAt_cd4e5 21 = .ok (.aload_n 0, 1) := by decide +kernel
theorem dJ2_putCharsAt_cd4e5_22 : decode cJ2_putCharsAt_cd4e5 22 = .ok (.iload_n 1, 1) := by decide +kernel
theorem dJ2_putCharsAt_cd4e5_23 : decode cJ2_putCharsAt_cd4e5 23 = .ok (.iinc 1 1, 3) := by decide +kernel
theorem dJ2_putCharsAt_cd4e5_26 : decode cJ2_putCharsAt_cd4e5 26 = .ok (.iload_n 3, 1) := by decide +kernel
theorem dJ2_putCharsAt_cd4e5_27 : decode cJ2_putCharsAt_cd4e5 27 = .ok (.invokestatic 111, 3) := by decide +kernel
theorem dJ2_putCharsAt_cd4e5_30 : decode cJ2_putCharsAt_cd4e5 30 = .ok (.aload_n 0, 1) := by decide +kernel
theorem dJ2_putCharsAt_cd4e5_31 : decode cJ2_putCharsAt_cd4e5 31 = .ok (.iload_n 1, 1) := by decide +kernel
theorem dJ2_putCharsAt_cd4e5_32 : decode cJ2_putCharsAt_cd4e5 32 = .ok (.iinc 1 1, 3) := by decide +kernel
theorem dJ2_putCharsAt_cd4e5_35 : decode cJ2_putCharsAt_cd4e5 35 = .ok (.iload 4, 2) := by decide +kernel
theorem dJ2_putCharsAt_cd4e5_37 : decode cJ2_putCharsAt_cd4e5 37 = .ok (.invokestatic 111, 3) := by decide +kernel
theorem dJ2_putCharsAt_cd4e5_40 : decode cJ2_putCharsAt_cd4e5 40 = .ok (.aload_n 0, 1) := by decide +kernel
theorem dJ2_putCharsAt_cd4e5_41 : decode cJ2_putCharsAt_cd4e5 41 = .ok (.iload_n 1, 1) := by decide +kernel
theorem dJ2_putCharsAt_cd4e5_42 : decode cJ2_putCharsAt_cd4e5 42 = .ok (.iinc 1 1, 3) := by decide +kernel
theorem dJ2_putCharsAt_cd4e5_45 : decode cJ2_putCharsAt_cd4e5 45 = .ok (.iload 5, 2) := by decide +kernel
theorem dJ2_putCharsAt_cd4e5_47 : decode cJ2_putCharsAt_cd4e5 47 = .ok (.invokestatic 111, 3) := by decide +kernel
theorem dJ2_putCharsAt_cd4e5_50 : decode cJ2_putCharsAt_cd4e5 50 = .ok (.getstatic 44, 3) := by decide +kernel
theorem dJ2_putCharsAt_cd4e5_53 : decode cJ2_putCharsAt_cd4e5 53 = .ok (.ifCond .ne 17, 3) := by decide +kernel
theorem dJ2_putCharsAt_cd4e5_56 : decode cJ2_putCharsAt_cd4e5 56 = .ok (.iload_n 1, 1) := by decide +kernel
theorem dJ2_putCharsAt_cd4e5_57 : decode cJ2_putCharsAt_cd4e5 57 = .ok (.iload 6, 2) := by decide +kernel
theorem dJ2_putCharsAt_cd4e5_59 : decode cJ2_putCharsAt_cd4e5 59 = .ok (.if_icmp .eq 11, 3) := by decide +kernel
theorem dJ2_putCharsAt_cd4e5_62 : decode cJ2_putCharsAt_cd4e5 62 = .ok (.new 52, 3) := by decide +kernel
theorem dJ2_putCharsAt_cd4e5_65 : decode cJ2_putCharsAt_cd4e5 65 = .ok (.dup, 1) := by decide +kernel
theorem dJ2_putCharsAt_cd4e5_66 : decode cJ2_putCharsAt_cd4e5 66 = .ok (.invokespecial 66, 3) := by decide +kernel
theorem dJ2_putCharsAt_cd4e5_69 : decode cJ2_putCharsAt_cd4e5 69 = .ok (.athrow, 1) := by decide +kernel
theorem dJ2_putCharsAt_cd4e5_70 : decode cJ2_putCharsAt_cd4e5 70 = .ok (.iload 6, 2) := by decide +kernel
theorem dJ2_putCharsAt_cd4e5_72 : decode cJ2_putCharsAt_cd4e5 72 = .ok (.ireturn, 1) := by decide +kernel
theorem dJ2_charAt_3b067_0 : decode cJ2_charAt_3b067 0 = .ok (.iload_n 1, 1) := by decide +kernel
theorem dJ2_charAt_3b067_1 : decode cJ2_charAt_3b067 1 = .ok (.aload_n 0, 1) := by decide +kernel
theorem dJ2_charAt_3b067_2 : decode cJ2_charAt_3b067 2 = .ok (.invokestatic 67, 3) := by decide +kernel
theorem dJ2_charAt_3b067_5 : decode cJ2_charAt_3b067 5 = .ok (.aload_n 0, 1) := by decide +kernel
theorem dJ2_charAt_3b067_6 : decode cJ2_charAt_3b067 6 = .ok (.iload_n 1, 1) := by decide +kernel
theorem dJ2_charAt_3b067_7 : decode cJ2_charAt_3b067 7 = .ok (.invokestatic 71, 3) := by decide +kernel
theorem dJ2_charAt_3b067_10 : decode cJ2_charAt_3b067 10 = .ok (.ireturn, 1) := by decide +kernel
theorem dJ2_inflate_0e8fd_0 : decode cJ2_inflate_0e8fd 0 = .ok (.iload_n 3, 1) := by decide +kernel
theorem dJ2_inflate_0e8fd_1 : decode cJ2_inflate_0e8fd 1 = .ok (.iload 4, 2) := by decide +kernel
theorem dJ2_inflate_0e8fd_3 : decode cJ2_inflate_0e8fd 3 = .ok (.aload_n 2, 1) := by decide +kernel
theorem dJ2_inflate_0e8fd_4 : decode cJ2_inflate_0e8fd 4 = .ok (.invokestatic 173, 3) := by decide +kernel
theorem dJ2_inflate_0e8fd_7 : decode cJ2_inflate_0e8fd 7 = .ok (.iconst 0, 1) := by decide +kernel
theorem dJ2_inflate_0e8fd_8 : decode cJ2_inflate_0e8fd 8 = .ok (.istore 5, 2) := by decide +kernel
theorem dJ2_inflate_0e8fd_10 : decode cJ2_inflate_0e8fd 10 = .ok (.iload 5, 2) := by decide +kernel
theorem dJ2_inflate_0e8fd_12 : decode cJ2_inflate_0e8fd 12 = .ok (.iload 4, 2) := by decide +kernel
theorem dJ2_inflate_0e8fd_14 : decode cJ2_inflate_0e8fd 14 = .ok (.if_icmp .ge 27, 3) := by decide +kernel
theorem dJ2_inflate_0e8fd_17 : decode cJ2_inflate_0e8fd 17 = .ok (.aload_n 2, 1) := by decide +kernel
theorem dJ2_inflate_0e8fd_18 : decode cJ2_inflate_0e8fd 18 = .ok (.iload_n 3, 1) := by decide +kernel
theorem dJ2_inflate_0e8fd_19 : decode cJ2_inflate_0e8fd 19 = .ok (.iinc 3 1, 3) := by decide +kernel
theorem dJ2_inflate_0e8fd_22 : decode cJ2_inflate_0e8fd 22 = .ok (.aload_n 0, 1) := by decide +kernel
theorem dJ2_inflate_0e8fd_23 : decode cJ2_inflate_0e8fd 23 = .ok (.iload_n 1, 1) := by decide +kernel
theorem dJ2_inflate_0e8fd_24 : decode cJ2_inflate_0e8fd 24 = .ok (.iinc 1 1, 3) := by decide +kernel
theorem dJ2_inflate_0e8fd_27 : decode cJ2_inflate_0e8fd 27 = .ok (.baload, 1) := by decide +kernel
theorem dJ2_inflate_0e8fd_28 : decode cJ2_inflate_0e8fd 28 = .ok (.sipush 255, 3) := by decide +kernel
theorem dJ2_inflate_0e8fd_31 : decode cJ2_inflate_0e8fd 31 = .ok (.iand, 1) := by decide +kernel
theorem dJ2_inflate_0e8fd_32 : decode cJ2_inflate_0e8fd 32 = .ok (.invokestatic 111, 3) := by decide +kernel
theorem dJ2_inflate_0e8fd_35 : decode cJ2_inflate_0e8fd 35 = .ok (.iinc 5 1, 3) := by decide +kernel
theorem dJ2_inflate_0e8fd_38 : decode cJ2_inflate_0e8fd 38 = .ok (.goto (-28), 3) := by decide +kernel
theorem dJ2_inflate_0e8fd_41 : decode cJ2_inflate_0e8fd 41 = .ok (.return_, 1) := by decide +kernel
theorem dJ2_getChars_ba4f3_0 : decode cJ2_getChars_ba4f3 0 = .ok (.iload_n 1, 1) := by decide +kernel
theorem dJ2_getChars_ba4f3_1 : decode cJ2_getChars_ba4f3 1 = .ok (.istore 5, 2) := by decide +kernel
theorem dJ2_getChars_ba4f3_3 : decode cJ2_getChars_ba4f3 3 = .ok (.iload_n 0, 1) := by decide +kernel
theorem dJ2_getChars_ba4f3_4 : decode cJ2_getChars_ba4f3 4 = .ok (.ifCond .ge 7, 3) := by decide +kernel
theorem dJ2_getChars_ba4f3_7 : decode cJ2_getChars_ba4f3 7 = .ok (.iconst 1, 1) := by decide +kernel
theorem dJ2_getChars_ba4f3_8 : decode cJ2_getChars_ba4f3 8 = .ok (.goto 4, 3) := by decide +kernel
theorem dJ2_getChars_ba4f3_11 : decode cJ2_getChars_ba4f3 11 = .ok (.iconst 0, 1) := by decide +kernel
theorem dJ2_getChars_ba4f3_12 : decode cJ2_getChars_ba4f3 12 = .ok (.istore 6, 2) := by decide +kernel
theorem dJ2_getChars_ba4f3_14 : decode cJ2_getChars_ba4f3 14 = .ok (.iload 6, 2) := by decide +kernel
theorem dJ2_getChars_ba4f3_16 : decode cJ2_getChars_ba4f3 16 = .ok (.ifCond .ne 6, 3) := by decide +kernel
theorem dJ2_getChars_ba4f3_19 : decode cJ2_getChars_ba4f3 19 = .ok (.iload_n 0, 1) := by decide +kernel
theorem dJ2_getChars_ba4f3_20 : decode cJ2_getChars_ba4f3 20 = .ok (.ineg, 1) := by decide +kernel
theorem dJ2_getChars_ba4f3_21 : decode cJ2_getChars_ba4f3 21 = .ok (.istore_n 0, 1) := by decide +kernel
theorem dJ2_getChars_ba4f3_22 : decode cJ2_getChars_ba4f3 22 = .ok (.iload_n 0, 1) := by decide +kernel
theorem dJ2_getChars_ba4f3_23 : decode cJ2_getChars_ba4f3 23 = .ok (.bipush (-100), 2) := by decide +kernel
theorem dJ2_getChars_ba4f3_25 : decode cJ2_getChars_ba4f3 25 = .ok (.if_icmp .gt 51, 3) := by decide +kernel
theorem dJ2_getChars_ba4f3_28 : decode cJ2_getChars_ba4f3 28 = .ok (.iload_n 0, 1) := by decide +kernel
theorem dJ2_getChars_ba4f3_29 : decode cJ2_getChars_ba4f3 29 = .ok (.bipush 100, 2) := by decide +kernel
theorem dJ2_getChars_ba4f3_31 : decode cJ2_getChars_ba4f3 31 = .ok (.idiv, 1) := by decide +kernel
theorem dJ2_getChars_ba4f3_32 : decode cJ2_getChars_ba4f3 32 = .ok (.istore_n 3, 1) := by decide +kernel
theorem dJ2_getChars_ba4f3_33 : decode cJ2_getChars_ba4f3 33 = .ok (.iload_n 3, 1) := by decide +kernel
theorem dJ2_getChars_ba4f3_34 : decode cJ2_getChars_ba4f3 34 = .ok (.bipush 100, 2) := by decide +kernel
theorem dJ2_getChars_ba4f3_36 : decode cJ2_getChars_ba4f3 36 = .ok (.imul, 1) := by decide +kernel
theorem dJ2_getChars_ba4f3_37 : decode cJ2_getChars_ba4f3 37 = .ok (.iload_n 0, 1) := by decide +kernel
theorem dJ2_getChars_ba4f3_38 : decode cJ2_getChars_ba4f3 38 = .ok (.isub, 1) := by decide +kernel
theorem dJ2_getChars_ba4f3_39 : decode cJ2_getChars_ba4f3 39 = .ok (.istore 4, 2) := by decide +kernel
theorem dJ2_getChars_ba4f3_41 : decode cJ2_getChars_ba4f3 41 = .ok (.iload_n 3, 1) := by decide +kernel
theorem dJ2_getChars_ba4f3_42 : decode cJ2_getChars_ba4f3 42 = .ok (.istore_n 0, 1) := by decide +kernel
theorem dJ2_getChars_ba4f3_43 : decode cJ2_getChars_ba4f3 43 = .ok (.aload_n 2, 1) := by decide +kernel
theorem dJ2_getChars_ba4f3_44 : decode cJ2_getChars_ba4f3 44 = .ok (.iinc 5 (-1), 3) := by decide +kernel
theorem dJ2_getChars_ba4f3_47 : decode cJ2_getChars_ba4f3 47 = .ok (.iload 5, 2) := by decide +kernel
theorem dJ2_getChars_ba4f3_49 : decode cJ2_getChars_ba4f3 49 = .ok (.getstatic 403, 3) := by decide +kernel
theorem dJ2_getChars_ba4f3_52 : decode cJ2_getChars_ba4f3 52 = .ok (.iload 4, 2) := by decide +kernel
theorem dJ2_getChars_ba4f3_54 : decode cJ2_getChars_ba4f3 54 = .ok (.baload, 1) := by decide +kernel
theorem dJ2_getChars_ba4f3_55 : decode cJ2_getChars_ba4f3 55 = .ok (.invokestatic 111, 3) := by decide +kernel
theorem dJ2_getChars_ba4f3_58 : decode cJ2_getChars_ba4f3 58 = .ok (.aload_n 2, 1) := by decide +kernel
theorem dJ2_getChars_ba4f3_59 : decode cJ2_getChars_ba4f3 59 = .ok (.iinc 5 (-1), 3) := by decide +kernel
theorem dJ2_getChars_ba4f3_62 : decode cJ2_getChars_ba4f3 62 = .ok (.iload 5, 2) := by decide +kernel
theorem dJ2_getChars_ba4f3_64 : decode cJ2_getChars_ba4f3 64 = .ok (.getstatic 407, 3) := by decide +kernel
theorem dJ2_getChars_ba4f3_67 : decode cJ2_getChars_ba4f3 67 = .ok (.iload 4, 2) := by decide +kernel
theorem dJ2_getChars_ba4f3_69 : decode cJ2_getChars_ba4f3 69 = .ok (.baload, 1) := by decide +kernel
theorem dJ2_getChars_ba4f3_70 : decode cJ2_getChars_ba4f3 70 = .ok (.invokestatic 111, 3) := by decide +kernel
theorem dJ2_getChars_ba4f3_73 : decode cJ2_getChars_ba4f3 73 = .ok (.goto (-51), 3) := by decide +kernel
theorem dJ2_getChars_ba4f3_76 : decode cJ2_getChars_ba4f3 76 = .ok (.aload_n 2, 1) := by decide +kernel
theorem dJ2_getChars_ba4f3_77 : decode cJ2_getChars_ba4f3 77 = .ok (.iinc 5 (-1), 3) := by decide +kernel
theorem dJ2_getChars_ba4f3_80 : decode cJ2_getChars_ba4f3 80 = .ok (.iload 5, 2) := by decide +kernel
theorem dJ2_getChars_ba4f3_82 : decode cJ2_getChars_ba4f3 82 = .ok (.getstatic 403, 3) := by decide +kernel
theorem dJ2_getChars_ba4f3_85 : decode cJ2_getChars_ba4f3 85 = .ok (.iload_n 0, 1) := by decide +kernel
theorem dJ2_getChars_ba4f3_86 : decode cJ2_getChars_ba4f3 86 = .ok (.ineg, 1) := by decide +kernel
theorem dJ2_getChars_ba4f3_87 : decode cJ2_getChars_ba4f3 87 = .ok (.baload, 1) := by decide +kernel
theorem dJ2_getChars_ba4f3_88 : decode cJ2_getChars_ba4f3 88 = .ok (.invokestatic 111, 3) := by decide +kernel
theorem dJ2_getChars_ba4f3_91 : decode cJ2_getChars_ba4f3 91 = .ok (.iload_n 0, 1) := by decide +kernel
theorem dJ2_getChars_ba4f3_92 : decode cJ2_getChars_ba4f3 92 = .ok (.bipush (-9), 2) := by decide +kernel
theorem dJ2_getChars_ba4f3_94 : decode cJ2_getChars_ba4f3 94 = .ok (.if_icmp .ge 18, 3) := by decide +kernel
theorem dJ2_getChars_ba4f3_97 : decode cJ2_getChars_ba4f3 97 = .ok (.aload_n 2, 1) := by decide +kernel
theorem dJ2_getChars_ba4f3_98 : decode cJ2_getChars_ba4f3 98 = .ok (.iinc 5 (-1), 3) := by decide +kernel
theorem dJ2_getChars_ba4f3_101 : decode cJ2_getChars_ba4f3 101 = .ok (.iload 5, 2) := by decide +kernel
theorem dJ2_getChars_ba4f3_103 : decode cJ2_getChars_ba4f3 103 = .ok (.getstatic 407, 3) := by decide +kernel
theorem dJ2_getChars_ba4f3_106 : decode cJ2_getChars_ba4f3 106 = .ok (.iload_n 0, 1) := by decide +kernel
theorem dJ2_getChars_ba4f3_107 : decode cJ2_getChars_ba4f3 107 = .ok (.ineg, 1) := by decide +kernel
theorem dJ2_getChars_ba4f3_108 : decode cJ2_getChars_ba4f3 108 = .ok (.baload, 1) := by decide +kernel
theorem dJ2_getChars_ba4f3_109 : decode cJ2_getChars_ba4f3 109 = .ok (.invokestatic 111, 3) := by decide +kernel
theorem dJ2_getChars_ba4f3_112 : decode cJ2_getChars_ba4f3 112 = .ok (.iload 6, 2) := by decide +kernel
theorem dJ2_getChars_ba4f3_114 : decode cJ2_getChars_ba4f3 114 = .ok (.ifCond .eq 14, 3) := by decide +kernel
theorem dJ2_getChars_ba4f3_117 : decode cJ2_getChars_ba4f3 117 = .ok (.aload_n 2, 1) := by decide +kernel
theorem dJ2_getChars_ba4f3_118 : decode cJ2_getChars_ba4f3 118 = .ok (.iinc 5 (-1), 3) := by decide +kernel
theorem dJ2_getChars_ba4f3_121 : decode cJ2_getChars_ba4f3 121 = .ok (.iload 5, 2) := by decide +kernel
theorem dJ2_getChars_ba4f3_123 : decode cJ2_getChars_ba4f3 123 = .ok (.bipush 45, 2) := by decide +kernel
theorem dJ2_getChars_ba4f3_125 : decode cJ2_getChars_ba4f3 125 = .ok (.invokestatic 111, 3) := by decide +kernel
theorem dJ2_getChars_ba4f3_128 : decode cJ2_getChars_ba4f3 128 = .ok (.iload 5, 2) := by decide +kernel
theorem dJ2_getChars_ba4f3_130 : decode cJ2_getChars_ba4f3 130 = .ok (.ireturn, 1) := by decide +kernel
theorem dJ2_checkIndex_2214a_0 : decode cJ2_checkIndex_2214a 0 = .ok (.iload_n 0, 1) := by decide +kernel
theorem dJ2_checkIndex_2214a_1 : decode cJ2_checkIndex_2214a 1 = .ok (.aload_n 1, 1) := by decide +kernel
theorem dJ2_checkIndex_2214a_2 : decode cJ2_checkIndex_2214a 2 = .ok (.invokestatic 48, 3) := by decide +kernel
theorem dJ2_checkIndex_2214a_5 : decode cJ2_checkIndex_2214a 5 = .ok (.invokestatic 414, 3) := by decide +kernel
theorem dJ2_checkIndex_2214a_8 : decode cJ2_checkIndex_2214a 8 = .ok (.return_, 1) := by decide +kernel
theorem dJ2_checkBoundsBeginEnd_d044e_0 : decode cJ2_checkBoundsBeginEnd_d044e 0 = .ok (.iload_n 0, 1) := by decide +kernel
theorem dJ2_checkBoundsBeginEnd_d044e_1 : decode cJ2_checkBoundsBeginEnd_d044e 1 = .ok (.iload_n 1, 1) := by decide +kernel
theorem dJ2_checkBoundsBeginEnd_d044e_2 : decode cJ2_checkBoundsBeginEnd_d044e 2 = .ok (.aload_n 2, 1) := by decide +kernel
theorem dJ2_checkBoundsBeginEnd_d044e_3 : decode cJ2_checkBoundsBeginEnd_d044e 3 = .ok (.invokestatic 48, 3) := by decide +kernel
theorem dJ2_checkBoundsBeginEnd_d044e_6 : decode cJ2_checkBoundsBeginEnd_d044e 6 = .ok (.invokestatic 241, 3) := by decide +kernel
theorem dJ2_checkBoundsBeginEnd_d044e_9 : decode cJ2_checkBoundsBeginEnd_d044e 9 = .ok (.return_, 1) := by decide +kernel
theorem dJ2_checkBoundsOffCount_d044e_0 : decode cJ2_checkBoundsOffCount_d044e 0 = .ok (.iload_n 0, 1) := by decide +kernel
theorem dJ2_checkBoundsOffCount_d044e_1 : decode cJ2_checkBoundsOffCount_d044e 1 = .ok (.iload_n 1, 1) := by decide +kernel
theorem dJ2_checkBoundsOffCount_d044e_2 : decode cJ2_checkBoundsOffCount_d044e 2 = .ok (.aload_n 2, 1) := by decide +kernel
theorem dJ2_checkBoundsOffCount_d044e_3 : decode cJ2_checkBoundsOffCount_d044e 3 = .ok (.invokestatic 48, 3) := by decide +kernel
theorem dJ2_checkBoundsOffCount_d044e_6 : decode cJ2_checkBoundsOffCount_d044e 6 = .ok (.invokestatic 419, 3) := by decide +kernel
theorem dJ2_checkBoundsOffCount_d044e_9 : decode cJ2_checkBoundsOffCount_d044e 9 = .ok (.pop, 1) := by decide +kernel
theorem dJ2_checkBoundsOffCount_d044e_10 : decode cJ2_checkBoundsOffCount_d044e 10 = .ok (.return_, 1) := by decide +kernel
theorem dJ7_copyOf_9075b_0 : decode cJ7_copyOf_9075b 0 = .ok (.iload_n 1, 1) := by decide +kernel
theorem dJ7_copyOf_9075b_1 : decode cJ7_copyOf_9075b 1 = .ok (.aload_n 0, 1) := by decide +kernel
theorem dJ7_copyOf_9075b_2 : decode cJ7_copyOf_9075b 2 = .ok (.arraylength, 1) := by decide +kernel
theorem dJ7_copyOf_9075b_3 : decode cJ7_copyOf_9075b 3 = .ok (.if_icmp .ne 11, 3) := by decide +kernel
theorem dJ7_copyOf_9075b_6 : decode cJ7_copyOf_9075b 6 = .ok (.aload_n 0, 1) := by decide +kernel
theorem dJ7_copyOf_9075b_7 : decode cJ7_copyOf_9075b 7 = .ok (.invokevirtual 310, 3) := by decide +kernel
theorem dJ7_copyOf_9075b_10 : decode cJ7_copyOf_9075b 10 = .ok (.checkcast 311, 3) := by decide +kernel
theorem dJ7_copyOf_9075b_13 : decode cJ7_copyOf_9075b 13 = .ok (.areturn, 1) := by decide +kernel
theorem dJ7_copyOf_9075b_14 : decode cJ7_copyOf_9075b 14 = .ok (.iload_n 1, 1) := by decide +kernel
theorem dJ7_copyOf_9075b_15 : decode cJ7_copyOf_9075b 15 = .ok (.newarray .byte, 2) := by decide +kernel
theorem dJ7_copyOf_9075b_17 : decode cJ7_copyOf_9075b 17 = .ok (.astore_n 2, 1) := by decide +kernel
theorem dJ7_copyOf_9075b_18 : decode cJ7_copyOf_9075b 18 = .ok (.aload_n 0, 1) := by decide +kernel
theorem dJ7_copyOf_9075b_19 : decode cJ7_copyOf_9075b 19 = .ok (.iconst 0, 1) := by decide +kernel
theorem dJ7_copyOf_9075b_20 : decode cJ7_copyOf_9075b 20 = .ok (.aload_n 2, 1) := by decide +kernel
theorem dJ7_copyOf_9075b_21 : decode cJ7_copyOf_9075b 21 = .ok (.iconst 0, 1) := by decide +kernel
theorem dJ7_copyOf_9075b_22 : decode cJ7_copyOf_9075b 22 = .ok (.aload_n 0, 1) := by decide +kernel
theorem dJ7_copyOf_9075b_23 : decode cJ7_copyOf_9075b 23 = .ok (.arraylength, 1) := by decide +kernel
theorem dJ7_copyOf_9075b_24 : decode cJ7_copyOf_9075b 24 = .ok (.iload_n 1, 1) := by decide +kernel
theorem dJ7_copyOf_9075b_25 : decode cJ7_copyOf_9075b 25 = .ok (.invokestatic 304, 3) := by decide +kernel
theorem dJ7_copyOf_9075b_28 : decode cJ7_copyOf_9075b 28 = .ok (.invokestatic 150, 3) := by decide +kernel
theorem dJ7_copyOf_9075b_31 : decode cJ7_copyOf_9075b 31 = .ok (.aload_n 2, 1) := by decide +kernel
theorem dJ7_copyOf_9075b_32 : decode cJ7_copyOf_9075b 32 = .ok (.areturn, 1) := by decide +kernel
theorem dJ7_checkLength_df160_0 : decode cJ7_checkLength_df160 0 = .ok (.iload_n 1, 1) := by decide +kernel
theorem dJ7_checkLength_df160_1 : decode cJ7_checkLength_df160 1 = .ok (.iload_n 0, 1) := by decide +kernel
theorem dJ7_checkLength_df160_2 : decode cJ7_checkLength_df160 2 = .ok (.if_icmp .ge 35, 3) := by decide +kernel
theorem dJ7_checkLength_df160_5 : decode cJ7_checkLength_df160 5 = .ok (.new 43, 3) := by decide +kernel
theorem dJ7_checkLength_df160_8 : decode cJ7_checkLength_df160 8 = .ok (.dup, 1) := by decide +kernel
theorem dJ7_checkLength_df160_9 : decode cJ7_checkLength_df160 9 = .ok (.new 45, 3) := by decide +kernel
theorem dJ7_checkLength_df160_12 : decode cJ7_checkLength_df160 12 = .ok (.dup, 1) := by decide +kernel
theorem dJ7_checkLength_df160_13 : decode cJ7_checkLength_df160 13 = .ok (.invokespecial 47, 3) := by decide +kernel
theorem dJ7_checkLength_df160_16 : decode cJ7_checkLength_df160 16 = .ok (.iload_n 0, 1) := by decide +kernel
theorem dJ7_checkLength_df160_17 : decode cJ7_checkLength_df160 17 = .ok (.invokevirtual 54, 3) := by decide +kernel
theorem dJ7_checkLength_df160_20 : decode cJ7_checkLength_df160 20 = .ok (.ldc_w 337, 3) := by decide +kernel
theorem dJ7_checkLength_df160_23 : decode cJ7_checkLength_df160 23 = .ok (.invokevirtual 50, 3) := by decide +kernel
theorem dJ7_checkLength_df160_26 : decode cJ7_checkLength_df160 26 = .ok (.iload_n 1, 1) := by decide +kernel
theorem dJ7_checkLength_df160_27 : decode cJ7_checkLength_df160 27 = .ok (.invokevirtual 54, 3) := by decide +kernel
theorem dJ7_checkLength_df160_30 : decode cJ7_checkLength_df160 30 = .ok (.invokevirtual 61, 3) := by decide +kernel
theorem dJ7_checkLength_df160_33 : decode cJ7_checkLength_df160 33 = .ok (.invokespecial 65, 3) := by decide +kernel
theorem dJ7_checkLength_df160_36 : decode cJ7_checkLength_df160 36 = .ok (.athrow, 1) := by decide +kernel
theorem dJ7_checkLength_df160_37 : decode cJ7_checkLength_df160 37 = .ok (.return_, 1) := by decide +kernel
theorem dJ7_copyOfRange_39247_0 : decode cJ7_copyOfRange_39247 0 = .ok (.iload_n 1, 1) := by decide +kernel
theorem dJ7_copyOfRange_39247_1 : decode cJ7_copyOfRange_39247 1 = .ok (.ifCond .ne 9, 3) := by decide +kernel
theorem dJ7_copyOfRange_39247_4 : decode cJ7_copyOfRange_39247 4 = .ok (.iload_n 2, 1) := by decide +kernel
theorem dJ7_copyOfRange_39247_5 : decode cJ7_copyOfRange_39247 5 = .ok (.aload_n 0, 1) := by decide +kernel
theorem dJ7_copyOfRange_39247_6 : decode cJ7_copyOfRange_39247 6 = .ok (.arraylength, 1) := by decide +kernel
theorem dJ7_copyOfRange_39247_7 : decode cJ7_copyOfRange_39247 7 = .ok (.if_icmp .eq 10, 3) := by decide +kernel
theorem dJ7_copyOfRange_39247_10 : decode cJ7_copyOfRange_39247 10 = .ok (.aload_n 0, 1) := by decide +kernel
theorem dJ7_copyOfRange_39247_11 : decode cJ7_copyOfRange_39247 11 = .ok (.iload_n 1, 1) := by decide +kernel
theorem dJ7_copyOfRange_39247_12 : decode cJ7_copyOfRange_39247 12 = .ok (.iload_n 2, 1) := by decide +kernel
theorem dJ7_copyOfRange_39247_13 : decode cJ7_copyOfRange_39247 13 = .ok (.invokestatic 339, 3) := by decide +kernel
theorem dJ7_copyOfRange_39247_16 : decode cJ7_copyOfRange_39247 16 = .ok (.areturn, 1) := by decide +kernel
theorem dJ7_copyOfRange_39247_17 : decode cJ7_copyOfRange_39247 17 = .ok (.aload_n 0, 1) := by decide +kernel
theorem dJ7_copyOfRange_39247_18 : decode cJ7_copyOfRange_39247 18 = .ok (.invokevirtual 310, 3) := by decide +kernel
theorem dJ7_copyOfRange_39247_21 : decode cJ7_copyOfRange_39247 21 = .ok (.checkcast 311, 3) := by decide +kernel
theorem dJ7_copyOfRange_39247_24 : decode cJ7_copyOfRange_39247 24 = .ok (.areturn, 1) := by decide +kernel
theorem dJ7_copyOfRangeByte_39247_0 : decode cJ7_copyOfRangeByte_39247 0 = .ok (.iload_n 1, 1) := by decide +kernel
theorem dJ7_copyOfRangeByte_39247_1 : decode cJ7_copyOfRangeByte_39247 1 = .ok (.iload_n 2, 1) := by decide +kernel
theorem dJ7_copyOfRangeByte_39247_2 : decode cJ7_copyOfRangeByte_39247 2 = .ok (.invokestatic 343, 3) := by decide +kernel
theorem dJ7_copyOfRangeByte_39247_5 : decode cJ7_copyOfRangeByte_39247 5 = .ok (.iload_n 2, 1) := by decide +kernel
theorem dJ7_copyOfRangeByte_39247_6 : decode cJ7_copyOfRangeByte_39247 6 = .ok (.iload_n 1, 1) := by decide +kernel
theorem dJ7_copyOfRangeByte_39247_7 : decode cJ7_copyOfRangeByte_39247 7 = .ok (.isub, 1) := by decide +kernel
theorem dJ7_copyOfRangeByte_39247_8 : decode cJ7_copyOfRangeByte_39247 8 = .ok (.istore_n 3, 1) := by decide +kernel
theorem dJ7_copyOfRangeByte_39247_9 : decode cJ7_copyOfRangeByte_39247 9 = .ok (.iload_n 3, 1) := by decide +kernel
theorem dJ7_copyOfRangeByte_39247_10 : decode cJ7_copyOfRangeByte_39247 10 = .ok (.newarray .byte, 2) := by decide +kernel
theorem dJ7_copyOfRangeByte_39247_12 : decode cJ7_copyOfRangeByte_39247 12 = .ok (.astore 4, 2) := by decide +kernel
theorem dJ7_copyOfRangeByte_39247_14 : decode cJ7_copyOfRangeByte_39247 14 = .ok (.aload_n 0, 1) := by decide +kernel
theorem dJ7_copyOfRangeByte_39247_15 : decode cJ7_copyOfRangeByte_39247 15 = .ok (.iload_n 1, 1) := by decide +kernel
theorem dJ7_copyOfRangeByte_39247_16 : decode cJ7_copyOfRangeByte_39247 16 = .ok (.aload 4, 2) := by decide +kernel
theorem dJ7_copyOfRangeByte_39247_18 : decode cJ7_copyOfRangeByte_39247 18 = .ok (.iconst 0, 1) := by decide +kernel
theorem dJ7_copyOfRangeByte_39247_19 : decode cJ7_copyOfRangeByte_39247 19 = .ok (.aload_n 0, 1) := by decide +kernel
theorem dJ7_copyOfRangeByte_39247_20 : decode cJ7_copyOfRangeByte_39247 20 = .ok (.arraylength, 1) := by decide +kernel
theorem dJ7_copyOfRangeByte_39247_21 : decode cJ7_copyOfRangeByte_39247 21 = .ok (.iload_n 1, 1) := by decide +kernel
theorem dJ7_copyOfRangeByte_39247_22 : decode cJ7_copyOfRangeByte_39247 22 = .ok (.isub, 1) := by decide +kernel
theorem dJ7_copyOfRangeByte_39247_23 : decode cJ7_copyOfRangeByte_39247 23 = .ok (.iload_n 3, 1) := by decide +kernel
theorem dJ7_copyOfRangeByte_39247_24 : decode cJ7_copyOfRangeByte_39247 24 = .ok (.invokestatic 304, 3) := by decide +kernel
theorem dJ7_copyOfRangeByte_39247_27 : decode cJ7_copyOfRangeByte_39247 27 = .ok (.invokestatic 150, 3) := by decide +kernel
theorem dJ7_copyOfRangeByte_39247_30 : decode cJ7_copyOfRangeByte_39247 30 = .ok (.aload 4, 2) := by decide +kernel
theorem dJ7_copyOfRangeByte_39247_32 : decode cJ7_copyOfRangeByte_39247 32 = .ok (.areturn, 1) := by decide +kernel
theorem dJ8_newLength_cabcc_0 : decode cJ8_newLength_cabcc 0 = .ok (.iload_n 0, 1) := by decide +kernel
theorem dJ8_newLength_cabcc_1 : decode cJ8_newLength_cabcc 1 = .ok (.iload_n 1, 1) := by decide +kernel
theorem dJ8_newLength_cabcc_2 : decode cJ8_newLength_cabcc 2 = .ok (.iload_n 2, 1) := by decide +kernel
theorem dJ8_newLength_cabcc_3 : decode cJ8_newLength_cabcc 3 = .ok (.invokestatic 194, 3) := by decide +kernel
theorem dJ8_newLength_cabcc_6 : decode cJ8_newLength_cabcc 6 = .ok (.iadd, 1) := by decide +kernel
theorem dJ8_newLength_cabcc_7 : decode cJ8_newLength_cabcc 7 = .ok (.istore_n 3, 1) := by decide +kernel
theorem dJ8_newLength_cabcc_8 : decode cJ8_newLength_cabcc 8 = .ok (.iconst 0, 1) := by decide +kernel
theorem dJ8_newLength_cabcc_9 : decode cJ8_newLength_cabcc 9 = .ok (.iload_n 3, 1) := by decide +kernel
theorem dJ8_newLength_cabcc_10 : decode cJ8_newLength_cabcc 10 = .ok (.if_icmp .ge 11, 3) := by decide +kernel
theorem dJ8_newLength_cabcc_13 : decode cJ8_newLength_cabcc 13 = .ok (.iload_n 3, 1) := by decide +kernel
theorem dJ8_newLength_cabcc_14 : decode cJ8_newLength_cabcc 14 = .ok (.ldc 200, 2) := by decide +kernel
theorem dJ8_newLength_cabcc_16 : decode cJ8_newLength_cabcc 16 = .ok (.if_icmp .gt 5, 3) := by decide +kernel
theorem dJ8_newLength_cabcc_19 : decode cJ8_newLength_cabcc 19 = .ok (.iload_n 3, 1) := by decide +kernel
theorem dJ8_newLength_cabcc_20 : decode cJ8_newLength_cabcc 20 = .ok (.ireturn, 1) := by decide +kernel
theorem dJ8_newLength_cabcc_21 : decode cJ8_newLength_cabcc 21 = .ok (.iload_n 0, 1) := by decide +kernel
theorem dJ8_newLength_cabcc_22 : decode cJ8_newLength_cabcc 22 = .ok (.iload_n 1, 1) := by decide +kernel
theorem dJ8_newLength_cabcc_23 : decode cJ8_newLength_cabcc 23 = .ok (.invokestatic 201, 3) := by decide +kernel
theorem dJ8_newLength_cabcc_26 : decode cJ8_newLength_cabcc 26 = .ok (.ireturn, 1) := by decide +kernel
theorem dJ8_hugeLength_7cf53_0 : decode cJ8_hugeLength_7cf53 0 = .ok (.iload_n 0, 1) := by decide +kernel
theorem dJ8_hugeLength_7cf53_1 : decode cJ8_hugeLength_7cf53 1 = .ok (.iload_n 1, 1) := by decide +kernel
theorem dJ8_hugeLength_7cf53_2 : decode cJ8_hugeLength_7cf53 2 = .ok (.iadd, 1) := by decide +kernel
theorem dJ8_hugeLength_7cf53_3 : decode cJ8_hugeLength_7cf53 3 = .ok (.istore_n 2, 1) := by decide +kernel
theorem dJ8_hugeLength_7cf53_4 : decode cJ8_hugeLength_7cf53 4 = .ok (.iload_n 2, 1) := by decide +kernel
theorem dJ8_hugeLength_7cf53_5 : decode cJ8_hugeLength_7cf53 5 = .ok (.ifCond .ge 44, 3) := by decide +kernel
theorem dJ8_hugeLength_7cf53_8 : decode cJ8_hugeLength_7cf53 8 = .ok (.new 204, 3) := by decide +kernel
theorem dJ8_hugeLength_7cf53_11 : decode cJ8_hugeLength_7cf53 11 = .ok (.dup, 1) := by decide +kernel
theorem dJ8_hugeLength_7cf53_12 : decode cJ8_hugeLength_7cf53 12 = .ok (.new 89, 3) := by decide +kernel
theorem dJ8_hugeLength_7cf53_15 : decode cJ8_hugeLength_7cf53 15 = .ok (.dup, 1) := by decide +kernel
theorem dJ8_hugeLength_7cf53_16 : decode cJ8_hugeLength_7cf53 16 = .ok (.invokespecial 91, 3) := by decide +kernel
theorem dJ8_hugeLength_7cf53_19 : decode cJ8_hugeLength_7cf53 19 = .ok (.ldc 206, 2) := by decide +kernel
theorem dJ8_hugeLength_7cf53_21 : decode cJ8_hugeLength_7cf53 21 = .ok (.invokevirtual 94, 3) := by decide +kernel
theorem dJ8_hugeLength_7cf53_24 : decode cJ8_hugeLength_7cf53 24 = .ok (.iload_n 0, 1) := by decide +kernel
theorem dJ8_hugeLength_7cf53_25 : decode cJ8_hugeLength_7cf53 25 = .ok (.invokevirtual 98, 3) := by decide +kernel
theorem dJ8_hugeLength_7cf53_28 : decode cJ8_hugeLength_7cf53 28 = .ok (.ldc 208, 2) := by decide +kernel
theorem dJ8_hugeLength_7cf53_30 : decode cJ8_hugeLength_7cf53 30 = .ok (.invokevirtual 94, 3) := by decide +kernel
theorem dJ8_hugeLength_7cf53_33 : decode cJ8_hugeLength_7cf53 33 = .ok (.iload_n 1, 1) := by decide +kernel
theorem dJ8_hugeLength_7cf53_34 : decode cJ8_hugeLength_7cf53 34 = .ok (.invokevirtual 98, 3) := by decide +kernel
theorem dJ8_hugeLength_7cf53_37 : decode cJ8_hugeLength_7cf53 37 = .ok (.ldc 210, 2) := by decide +kernel
theorem dJ8_hugeLength_7cf53_39 : decode cJ8_hugeLength_7cf53 39 = .ok (.invokevirtual 94, 3) := by decide +kernel
theorem dJ8_hugeLength_7cf53_42 : decode cJ8_hugeLength_7cf53 42 = .ok (.invokevirtual 101, 3) := by decide +kernel
theorem dJ8_hugeLength_7cf53_45 : decode cJ8_hugeLength_7cf53 45 = .ok (.invokespecial 212, 3) := by decide +kernel
theorem dJ8_hugeLength_7cf53_48 : decode cJ8_hugeLength_7cf53 48 = .ok (.athrow, 1) := by decide +kernel
theorem dJ8_hugeLength_7cf53_49 : decode cJ8_hugeLength_7cf53 49 = .ok (.iload_n 2, 1) := by decide +kernel
theorem dJ8_hugeLength_7cf53_50 : decode cJ8_hugeLength_7cf53 50 = .ok (.ldc 200, 2) := by decide +kernel
theorem dJ8_hugeLength_7cf53_52 : decode cJ8_hugeLength_7cf53 52 = .ok (.if_icmp .gt 6, 3) := by decide +kernel
theorem dJ8_hugeLength_7cf53_55 : decode cJ8_hugeLength_7cf53 55 = .ok (.ldc 200, 2) := by decide +kernel
theorem dJ8_hugeLength_7cf53_57 : decode cJ8_hugeLength_7cf53 57 = .ok (.ireturn, 1) := by decide +kernel
theorem dJ8_hugeLength_7cf53_58 : decode cJ8_hugeLength_7cf53 58 = .ok (.iload_n 2, 1) := by decide +kernel
theorem dJ8_hugeLength_7cf53_59 : decode cJ8_hugeLength_7cf53 59 = .ok (.ireturn, 1) := by decide +kernel
theorem dJ3_checkIndex_8e157_0 : decode cJ3_checkIndex_8e157 0 = .ok (.iload_n 0, 1) := by decide +kernel
theorem dJ3_checkIndex_8e157_1 : decode cJ3_checkIndex_8e157 1 = .ok (.ifCond .lt 8, 3) := by decide +kernel
theorem dJ3_checkIndex_8e157_4 : decode cJ3_checkIndex_8e157 4 = .ok (.iload_n 0, 1) := by decide +kernel
theorem dJ3_checkIndex_8e157_5 : decode cJ3_checkIndex_8e157 5 = .ok (.iload_n 1, 1) := by decide +kernel
theorem dJ3_checkIndex_8e157_6 : decode cJ3_checkIndex_8e157 6 = .ok (.if_icmp .lt 10, 3) := by decide +kernel
theorem dJ3_checkIndex_8e157_9 : decode cJ3_checkIndex_8e157 9 = .ok (.aload_n 2, 1) := by decide +kernel
theorem dJ3_checkIndex_8e157_10 : decode cJ3_checkIndex_8e157 10 = .ok (.iload_n 0, 1) := by decide +kernel
theorem dJ3_checkIndex_8e157_11 : decode cJ3_checkIndex_8e157 11 = .ok (.iload_n 1, 1) := by decide +kernel
theorem dJ3_checkIndex_8e157_12 : decode cJ3_checkIndex_8e157 12 = .ok (.invokestatic 95, 3) := by decide +kernel
theorem dJ3_checkIndex_8e157_15 : decode cJ3_checkIndex_8e157 15 = .ok (.athrow, 1) := by decide +kernel
theorem dJ3_checkIndex_8e157_16 : decode cJ3_checkIndex_8e157 16 = .ok (.iload_n 0, 1) := by decide +kernel
theorem dJ3_checkIndex_8e157_17 : decode cJ3_checkIndex_8e157 17 = .ok (.ireturn, 1) := by decide +kernel
theorem dJ3_checkFromToIndex_8c36e_0 : decode cJ3_checkFromToIndex_8c36e 0 = .ok (.iload_n 0, 1) := by decide +kernel
theorem dJ3_checkFromToIndex_8c36e_1 : decode cJ3_checkFromToIndex_8c36e 1 = .ok (.ifCond .lt 13, 3) := by decide +kernel
theorem dJ3_checkFromToIndex_8c36e_4 : decode cJ3_checkFromToIndex_8c36e 4 = .ok (.iload_n 0, 1) := by decide +kernel
theorem dJ3_checkFromToIndex_8c36e_5 : decode cJ3_checkFromToIndex_8c36e 5 = .ok (.iload_n 1, 1) := by decide +kernel
theorem dJ3_checkFromToIndex_8c36e_6 : decode cJ3_checkFromToIndex_8c36e 6 = .ok (.if_icmp .gt 8, 3) := by decide +kernel
theorem dJ3_checkFromToIndex_8c36e_9 : decode cJ3_checkFromToIndex_8c36e 9 = .ok (.iload_n 1, 1) := by decide +kernel
theorem dJ3_checkFromToIndex_8c36e_10 : decode cJ3_checkFromToIndex_8c36e 10 = .ok (.iload_n 2, 1) := by decide +kernel
theorem dJ3_checkFromToIndex_8c36e_11 : decode cJ3_checkFromToIndex_8c36e 11 = .ok (.if_icmp .le 11, 3) := by decide +kernel
theorem dJ3_checkFromToIndex_8c36e_14 : decode cJ3_checkFromToIndex_8c36e 14 = .ok (.aload_n 3, 1) := by decide +kernel
theorem dJ3_checkFromToIndex_8c36e_15 : decode cJ3_checkFromToIndex_8c36e 15 = .ok (.iload_n 0, 1) := by decide +kernel
theorem dJ3_checkFromToIndex_8c36e_16 : decode cJ3_checkFromToIndex_8c36e 16 = .ok (.iload_n 1, 1) := by decide +kernel
theorem dJ3_checkFromToIndex_8c36e_17 : decode cJ3_checkFromToIndex_8c36e 17 = .ok (.iload_n 2, 1) := by decide +kernel
theorem dJ3_checkFromToIndex_8c36e_18 : decode cJ3_checkFromToIndex_8c36e 18 = .ok (.invokestatic 99, 3) := by decide +kernel
theorem dJ3_checkFromToIndex_8c36e_21 : decode cJ3_checkFromToIndex_8c36e 21 = .ok (.athrow, 1) := by decide +kernel
theorem dJ3_checkFromToIndex_8c36e_22 : decode cJ3_checkFromToIndex_8c36e 22 = .ok (.iload_n 0, 1) := by decide +kernel
theorem dJ3_checkFromToIndex_8c36e_23 : decode cJ3_checkFromToIndex_8c36e 23 = .ok (.ireturn, 1) := by decide +kernel
theorem dJ3_checkFromIndexSize_8c36e_0 : decode cJ3_checkFromIndexSize_8c36e 0 = .ok (.iload_n 2, 1) := by decide +kernel
theorem dJ3_checkFromIndexSize_8c36e_1 : decode cJ3_checkFromIndexSize_8c36e 1 = .ok (.iload_n 0, 1) := by decide +kernel
theorem dJ3_checkFromIndexSize_8c36e_2 : decode cJ3_checkFromIndexSize_8c36e 2 = .ok (.ior, 1) := by decide +kernel
theorem dJ3_checkFromIndexSize_8c36e_3 : decode cJ3_checkFromIndexSize_8c36e 3 = .ok (.iload_n 1, 1) := by decide +kernel
theorem dJ3_checkFromIndexSize_8c36e_4 : decode cJ3_checkFromIndexSize_8c36e 4 = .ok (.ior, 1) := by decide +kernel
theorem dJ3_checkFromIndexSize_8c36e_5 : decode cJ3_checkFromIndexSize_8c36e 5 = .ok (.ifCond .lt 10, 3) := by decide +kernel
theorem dJ3_checkFromIndexSize_8c36e_8 : decode cJ3_checkFromIndexSize_8c36e 8 = .ok (.iload_n 1, 1) := by decide +kernel
theorem dJ3_checkFromIndexSize_8c36e_9 : decode cJ3_checkFromIndexSize_8c36e 9 = .ok (.iload_n 2, 1) := by decide +kernel
theorem dJ3_checkFromIndexSize_8c36e_10 : decode cJ3_checkFromIndexSize_8c36e 10 = .ok (.iload_n 0, 1) := by decide +kernel
theorem dJ3_checkFromIndexSize_8c36e_11 : decode cJ3_checkFromIndexSize_8c36e 11 = .ok (.isub, 1) := by decide +kernel
theorem dJ3_checkFromIndexSize_8c36e_12 : decode cJ3_checkFromIndexSize_8c36e 12 = .ok (.if_icmp .le 11, 3) := by decide +kernel
theorem dJ3_checkFromIndexSize_8c36e_15 : decode cJ3_checkFromIndexSize_8c36e 15 = .ok (.aload_n 3, 1) := by decide +kernel
theorem dJ3_checkFromIndexSize_8c36e_16 : decode cJ3_checkFromIndexSize_8c36e 16 = .ok (.iload_n 0, 1) := by decide +kernel
theorem dJ3_checkFromIndexSize_8c36e_17 : decode cJ3_checkFromIndexSize_8c36e 17 = .ok (.iload_n 1, 1) := by decide +kernel
theorem dJ3_checkFromIndexSize_8c36e_18 : decode cJ3_checkFromIndexSize_8c36e 18 = .ok (.iload_n 2, 1) := by decide +kernel
theorem dJ3_checkFromIndexSize_8c36e_19 : decode cJ3_checkFromIndexSize_8c36e 19 = .ok (.invokestatic 103, 3) := by decide +kernel
theorem dJ3_checkFromIndexSize_8c36e_22 : decode cJ3_checkFromIndexSize_8c36e 22 = .ok (.athrow, 1) := by decide +kernel
theorem dJ3_checkFromIndexSize_8c36e_23 : decode cJ3_checkFromIndexSize_8c36e 23 = .ok (.iload_n 0, 1) := by decide +kernel
theorem dJ3_checkFromIndexSize_8c36e_24 : decode cJ3_checkFromIndexSize_8c36e 24 = .ok (.ireturn, 1) := by decide +kernel
theorem dL_below_0 : decode cL_below 0 = .ok (.iload_n 0, 1) := by decide +kernel
theorem dL_below_1 : decode cL_below 1 = .ok (.ldc 7, 2) := by decide +kernel
theorem dL_below_3 : decode cL_below 3 = .ok (.iand, 1) := by decide +kernel
theorem dL_below_4 : decode cL_below 4 = .ok (.iload_n 1, 1) := by decide +kernel
theorem dL_below_5 : decode cL_below 5 = .ok (.irem, 1) := by decide +kernel
theorem dL_below_6 : decode cL_below 6 = .ok (.ireturn, 1) := by decide +kernel
theorem dL_cell_0 : decode cL_cell 0 = .ok (.iload_n 1, 1) := by decide +kernel
theorem dL_cell_1 : decode cL_cell 1 = .ok (.aload_n 0, 1) := by decide +kernel
theorem dL_cell_2 : decode cL_cell 2 = .ok (.arraylength, 1) := by decide +kernel
theorem dL_cell_3 : decode cL_cell 3 = .ok (.if_icmp .ge 9, 3) := by decide +kernel
theorem dL_cell_6 : decode cL_cell 6 = .ok (.aload_n 0, 1) := by decide +kernel
theorem dL_cell_7 : decode cL_cell 7 = .ok (.iload_n 1, 1) := by decide +kernel
theorem dL_cell_8 : decode cL_cell 8 = .ok (.iaload, 1) := by decide +kernel
theorem dL_cell_9 : decode cL_cell 9 = .ok (.goto 9, 3) := by decide +kernel
theorem dL_cell_12 : decode cL_cell 12 = .ok (.ldc 8, 2) := by decide +kernel
theorem dL_cell_14 : decode cL_cell 14 = .ok (.iload_n 1, 1) := by decide +kernel
theorem dL_cell_15 : decode cL_cell 15 = .ok (.iconst 3, 1) := by decide +kernel
theorem dL_cell_16 : decode cL_cell 16 = .ok (.iadd, 1) := by decide +kernel
theorem dL_cell_17 : decode cL_cell 17 = .ok (.imul, 1) := by decide +kernel
theorem dL_cell_18 : decode cL_cell 18 = .ok (.ireturn, 1) := by decide +kernel
theorem dL_taught_0 : decode cL_taught 0 = .ok (.iconst 5, 1) := by decide +kernel
theorem dL_taught_1 : decode cL_taught 1 = .ok (.newarray .int, 2) := by decide +kernel
theorem dL_taught_3 : decode cL_taught 3 = .ok (.astore_n 2, 1) := by decide +kernel
theorem dL_taught_4 : decode cL_taught 4 = .ok (.aload_n 0, 1) := by decide +kernel
theorem dL_taught_5 : decode cL_taught 5 = .ok (.iconst 0, 1) := by decide +kernel
theorem dL_taught_6 : decode cL_taught 6 = .ok (.invokevirtual 9, 3) := by decide +kernel
theorem dL_taught_9 : decode cL_taught 9 = .ok (.pop, 1) := by decide +kernel
theorem dL_taught_10 : decode cL_taught 10 = .ok (.iconst 0, 1) := by decide +kernel
theorem dL_taught_11 : decode cL_taught 11 = .ok (.istore_n 3, 1) := by decide +kernel
theorem dL_taught_12 : decode cL_taught 12 = .ok (.iload_n 3, 1) := by decide +kernel
theorem dL_taught_13 : decode cL_taught 13 = .ok (.aload_n 1, 1) := by decide +kernel
theorem dL_taught_14 : decode cL_taught 14 = .ok (.invokevirtual 15, 3) := by decide +kernel
theorem dL_taught_17 : decode cL_taught 17 = .ok (.if_icmp .ge 85, 3) := by decide +kernel
theorem dL_taught_20 : decode cL_taught 20 = .ok (.iconst 0, 1) := by decide +kernel
theorem dL_taught_21 : decode cL_taught 21 = .ok (.istore 4, 2) := by decide +kernel
theorem dL_taught_23 : decode cL_taught 23 = .ok (.iload 4, 2) := by decide +kernel
theorem dL_taught_25 : decode cL_taught 25 = .ok (.bipush 20, 2) := by decide +kernel
theorem dL_taught_27 : decode cL_taught 27 = .ok (.if_icmp .ge 49, 3) := by decide +kernel
theorem dL_taught_30 : decode cL_taught 30 = .ok (.aload_n 2, 1) := by decide +kernel
theorem dL_taught_31 : decode cL_taught 31 = .ok (.iload 4, 2) := by decide +kernel
theorem dL_taught_33 : decode cL_taught 33 = .ok (.iconst 4, 1) := by decide +kernel
theorem dL_taught_34 : decode cL_taught 34 = .ok (.idiv, 1) := by decide +kernel
theorem dL_taught_35 : decode cL_taught 35 = .ok (.aload_n 2, 1) := by decide +kernel
theorem dL_taught_36 : decode cL_taught 36 = .ok (.iload 4, 2) := by decide +kernel
theorem dL_taught_38 : decode cL_taught 38 = .ok (.iconst 4, 1) := by decide +kernel
theorem dL_taught_39 : decode cL_taught 39 = .ok (.idiv, 1) := by decide +kernel
theorem dL_taught_40 : decode cL_taught 40 = .ok (.iaload, 1) := by decide +kernel
theorem dL_taught_41 : decode cL_taught 41 = .ok (.bipush 8, 2) := by decide +kernel
theorem dL_taught_43 : decode cL_taught 43 = .ok (.ishl, 1) := by decide +kernel
theorem dL_taught_44 : decode cL_taught 44 = .ok (.iload_n 3, 1) := by decide +kernel
theorem dL_taught_45 : decode cL_taught 45 = .ok (.iload 4, 2) := by decide +kernel
theorem dL_taught_47 : decode cL_taught 47 = .ok (.iadd, 1) := by decide +kernel
theorem dL_taught_48 : decode cL_taught 48 = .ok (.aload_n 1, 1) := by decide +kernel
theorem dL_taught_49 : decode cL_taught 49 = .ok (.invokevirtual 15, 3) := by decide +kernel
theorem dL_taught_52 : decode cL_taught 52 = .ok (.if_icmp .ge 14, 3) := by decide +kernel
theorem dL_taught_55 : decode cL_taught 55 = .ok (.aload_n 1, 1) := by decide +kernel
theorem dL_taught_56 : decode cL_taught 56 = .ok (.iload_n 3, 1) := by decide +kernel
theorem dL_taught_57 : decode cL_taught 57 = .ok (.iload 4, 2) := by decide +kernel
theorem dL_taught_59 : decode cL_taught 59 = .ok (.iadd, 1) := by decide +kernel
theorem dL_taught_60 : decode cL_taught 60 = .ok (.invokevirtual 21, 3) := by decide +kernel
theorem dL_taught_63 : decode cL_taught 63 = .ok (.goto 5, 3) := by decide +kernel
theorem dL_taught_66 : decode cL_taught 66 = .ok (.bipush 32, 2) := by decide +kernel
theorem dL_taught_68 : decode cL_taught 68 = .ok (.ior, 1) := by decide +kernel
theorem dL_taught_69 : decode cL_taught 69 = .ok (.iastore, 1) := by decide +kernel
theorem dL_taught_70 : decode cL_taught 70 = .ok (.iinc 4 1, 3) := by decide +kernel
theorem dL_taught_73 : decode cL_taught 73 = .ok (.goto (-50), 3) := by decide +kernel
theorem dL_taught_76 : decode cL_taught 76 = .ok (.aload_n 0, 1) := by decide +kernel
theorem dL_taught_77 : decode cL_taught 77 = .ok (.aload_n 2, 1) := by decide +kernel
theorem dL_taught_78 : decode cL_taught 78 = .ok (.iconst 0, 1) := by decide +kernel
theorem dL_taught_79 : decode cL_taught 79 = .ok (.iaload, 1) := by decide +kernel
theorem dL_taught_80 : decode cL_taught 80 = .ok (.aload_n 2, 1) := by decide +kernel
theorem dL_taught_81 : decode cL_taught 81 = .ok (.iconst 1, 1) := by decide +kernel
theorem dL_taught_82 : decode cL_taught 82 = .ok (.iaload, 1) := by decide +kernel
theorem dL_taught_83 : decode cL_taught 83 = .ok (.aload_n 2, 1) := by decide +kernel
theorem dL_taught_84 : decode cL_taught 84 = .ok (.iconst 2, 1) := by decide +kernel
theorem dL_taught_85 : decode cL_taught 85 = .ok (.iaload, 1) := by decide +kernel
theorem dL_taught_86 : decode cL_taught 86 = .ok (.aload_n 2, 1) := by decide +kernel
theorem dL_taught_87 : decode cL_taught 87 = .ok (.iconst 3, 1) := by decide +kernel
theorem dL_taught_88 : decode cL_taught 88 = .ok (.iaload, 1) := by decide +kernel
theorem dL_taught_89 : decode cL_taught 89 = .ok (.aload_n 2, 1) := by decide +kernel
theorem dL_taught_90 : decode cL_taught 90 = .ok (.iconst 4, 1) := by decide +kernel
theorem dL_taught_91 : decode cL_taught 91 = .ok (.iaload, 1) := by decide +kernel
theorem dL_taught_92 : decode cL_taught 92 = .ok (.invokevirtual 25, 3) := by decide +kernel
theorem dL_taught_95 : decode cL_taught 95 = .ok (.pop, 1) := by decide +kernel
theorem dL_taught_96 : decode cL_taught 96 = .ok (.iinc 3 20, 3) := by decide +kernel
theorem dL_taught_99 : decode cL_taught 99 = .ok (.goto (-87), 3) := by decide +kernel
theorem dL_taught_102 : decode cL_taught 102 = .ok (.aload_n 0, 1) := by decide +kernel
theorem dL_taught_103 : decode cL_taught 103 = .ok (.aload_n 1, 1) := by decide +kernel
theorem dL_taught_104 : decode cL_taught 104 = .ok (.invokevirtual 15, 3) := by decide +kernel
theorem dL_taught_107 : decode cL_taught 107 = .ok (.invokevirtual 9, 3) := by decide +kernel
theorem dL_taught_110 : decode cL_taught 110 = .ok (.pop, 1) := by decide +kernel
theorem dL_taught_111 : decode cL_taught 111 = .ok (.aload_n 0, 1) := by decide +kernel
theorem dL_taught_112 : decode cL_taught 112 = .ok (.invokevirtual 29, 3) := by decide +kernel
theorem dL_taught_115 : decode cL_taught 115 = .ok (.ireturn, 1) := by decide +kernel
theorem dL_claim_0 : decode cL_claim 0 = .ok (.new 32, 3) := by decide +kernel
theorem dL_claim_3 : decode cL_claim 3 = .ok (.dup, 1) := by decide +kernel
theorem dL_claim_4 : decode cL_claim 4 = .ok (.invokespecial 34, 3) := by decide +kernel
theorem dL_claim_7 : decode cL_claim 7 = .ok (.ldc 35, 2) := by decide +kernel
theorem dL_claim_9 : decode cL_claim 9 = .ok (.invokevirtual 37, 3) := by decide +kernel
theorem dL_claim_12 : decode cL_claim 12 = .ok (.iload_n 0, 1) := by decide +kernel
theorem dL_claim_13 : decode cL_claim 13 = .ok (.iconst 2, 1) := by decide +kernel
theorem dL_claim_14 : decode cL_claim 14 = .ok (.idiv, 1) := by decide +kernel
theorem dL_claim_15 : decode cL_claim 15 = .ok (.invokevirtual 41, 3) := by decide +kernel
theorem dL_claim_18 : decode cL_claim 18 = .ok (.iload_n 0, 1) := by decide +kernel
theorem dL_claim_19 : decode cL_claim 19 = .ok (.iconst 2, 1) := by decide +kernel
theorem dL_claim_20 : decode cL_claim 20 = .ok (.irem, 1) := by decide +kernel
theorem dL_claim_21 : decode cL_claim 21 = .ok (.ifCond .ne 8, 3) := by decide +kernel
theorem dL_claim_24 : decode cL_claim 24 = .ok (.ldc 44, 2) := by decide +kernel
theorem dL_claim_26 : decode cL_claim 26 = .ok (.goto 5, 3) := by decide +kernel
theorem dL_claim_29 : decode cL_claim 29 = .ok (.ldc 46, 2) := by decide +kernel
theorem dL_claim_31 : decode cL_claim 31 = .ok (.invokevirtual 37, 3) := by decide +kernel
theorem dL_claim_34 : decode cL_claim 34 = .ok (.invokevirtual 48, 3) := by decide +kernel
theorem dL_claim_37 : decode cL_claim 37 = .ok (.areturn, 1) := by decide +kernel
theorem dL_told_0 : decode cL_told 0 = .ok (.new 32, 3) := by decide +kernel
theorem dL_told_3 : decode cL_told 3 = .ok (.dup, 1) := by decide +kernel
theorem dL_told_4 : decode cL_told 4 = .ok (.invokespecial 34, 3) := by decide +kernel
theorem dL_told_7 : decode cL_told 7 = .ok (.ldc 52, 2) := by decide +kernel
theorem dL_told_9 : decode cL_told 9 = .ok (.invokevirtual 37, 3) := by decide +kernel
theorem dL_told_12 : decode cL_told 12 = .ok (.iload_n 1, 1) := by decide +kernel
theorem dL_told_13 : decode cL_told 13 = .ok (.invokevirtual 41, 3) := by decide +kernel
theorem dL_told_16 : decode cL_told 16 = .ok (.ldc 54, 2) := by decide +kernel
theorem dL_told_18 : decode cL_told 18 = .ok (.invokevirtual 37, 3) := by decide +kernel
theorem dL_told_21 : decode cL_told 21 = .ok (.invokevirtual 48, 3) := by decide +kernel
theorem dL_told_24 : decode cL_told 24 = .ok (.astore_n 2, 1) := by decide +kernel
theorem dL_told_25 : decode cL_told 25 = .ok (.aload_n 0, 1) := by decide +kernel
theorem dL_told_26 : decode cL_told 26 = .ok (.iconst 0, 1) := by decide +kernel
theorem dL_told_27 : decode cL_told 27 = .ok (.iaload, 1) := by decide +kernel
theorem dL_told_28 : decode cL_told 28 = .ok (.ifCond .ne 53, 3) := by decide +kernel
theorem dL_told_31 : decode cL_told 31 = .ok (.new 32, 3) := by decide +kernel
theorem dL_told_34 : decode cL_told 34 = .ok (.dup, 1) := by decide +kernel
theorem dL_told_35 : decode cL_told 35 = .ok (.invokespecial 34, 3) := by decide +kernel
theorem dL_told_38 : decode cL_told 38 = .ok (.ldc 56, 2) := by decide +kernel
theorem dL_told_40 : decode cL_told 40 = .ok (.invokevirtual 37, 3) := by decide +kernel
theorem dL_told_43 : decode cL_told 43 = .ok (.aload_n 2, 1) := by decide +kernel
theorem dL_told_44 : decode cL_told 44 = .ok (.invokevirtual 37, 3) := by decide +kernel
theorem dL_told_47 : decode cL_told 47 = .ok (.ldc 58, 2) := by decide +kernel
theorem dL_told_49 : decode cL_told 49 = .ok (.invokevirtual 37, 3) := by decide +kernel
theorem dL_told_52 : decode cL_told 52 = .ok (.aload_n 0, 1) := by decide +kernel
theorem dL_told_53 : decode cL_told 53 = .ok (.iconst 1, 1) := by decide +kernel
theorem dL_told_54 : decode cL_told 54 = .ok (.iaload, 1) := by decide +kernel
theorem dL_told_55 : decode cL_told 55 = .ok (.invokestatic 60, 3) := by decide +kernel
theorem dL_told_58 : decode cL_told 58 = .ok (.invokevirtual 37, 3) := by decide +kernel
theorem dL_told_61 : decode cL_told 61 = .ok (.ldc 66, 2) := by decide +kernel
theorem dL_told_63 : decode cL_told 63 = .ok (.invokevirtual 37, 3) := by decide +kernel
theorem dL_told_66 : decode cL_told 66 = .ok (.aload_n 0, 1) := by decide +kernel
theorem dL_told_67 : decode cL_told 67 = .ok (.iconst 2, 1) := by decide +kernel
theorem dL_told_68 : decode cL_told 68 = .ok (.iaload, 1) := by decide +kernel
theorem dL_told_69 : decode cL_told 69 = .ok (.invokestatic 60, 3) := by decide +kernel
theorem dL_told_72 : decode cL_told 72 = .ok (.invokevirtual 37, 3) := by decide +kernel
theorem dL_told_75 : decode cL_told 75 = .ok (.invokevirtual 48, 3) := by decide +kernel
theorem dL_told_78 : decode cL_told 78 = .ok (.goto 140, 3) := by decide +kernel
theorem dL_told_81 : decode cL_told 81 = .ok (.aload_n 0, 1) := by decide +kernel
theorem dL_told_82 : decode cL_told 82 = .ok (.iconst 0, 1) := by decide +kernel
theorem dL_told_83 : decode cL_told 83 = .ok (.iaload, 1) := by decide +kernel
theorem dL_told_84 : decode cL_told 84 = .ok (.iconst 1, 1) := by decide +kernel
theorem dL_told_85 : decode cL_told 85 = .ok (.if_icmp .ne 53, 3) := by decide +kernel
theorem dL_told_88 : decode cL_told 88 = .ok (.new 32, 3) := by decide +kernel
theorem dL_told_91 : decode cL_told 91 = .ok (.dup, 1) := by decide +kernel
theorem dL_told_92 : decode cL_told 92 = .ok (.invokespecial 34, 3) := by decide +kernel
theorem dL_told_95 : decode cL_told 95 = .ok (.ldc 68, 2) := by decide +kernel
theorem dL_told_97 : decode cL_told 97 = .ok (.invokevirtual 37, 3) := by decide +kernel
theorem dL_told_100 : decode cL_told 100 = .ok (.aload_n 2, 1) := by decide +kernel
theorem dL_told_101 : decode cL_told 101 = .ok (.invokevirtual 37, 3) := by decide +kernel
theorem dL_told_104 : decode cL_told 104 = .ok (.ldc 70, 2) := by decide +kernel
theorem dL_told_106 : decode cL_told 106 = .ok (.invokevirtual 37, 3) := by decide +kernel
theorem dL_told_109 : decode cL_told 109 = .ok (.aload_n 0, 1) := by decide +kernel
theorem dL_told_110 : decode cL_told 110 = .ok (.iconst 1, 1) := by decide +kernel
theorem dL_told_111 : decode cL_told 111 = .ok (.iaload, 1) := by decide +kernel
theorem dL_told_112 : decode cL_told 112 = .ok (.invokestatic 60, 3) := by decide +kernel
theorem dL_told_115 : decode cL_told 115 = .ok (.invokevirtual 37, 3) := by decide +kernel
theorem dL_told_118 : decode cL_told 118 = .ok (.ldc 72, 2) := by decide +kernel
theorem dL_told_120 : decode cL_told 120 = .ok (.invokevirtual 37, 3) := by decide +kernel
theorem dL_told_123 : decode cL_told 123 = .ok (.aload_n 0, 1) := by decide +kernel
theorem dL_told_124 : decode cL_told 124 = .ok (.iconst 2, 1) := by decide +kernel
theorem dL_told_125 : decode cL_told 125 = .ok (.iaload, 1) := by decide +kernel
theorem dL_told_126 : decode cL_told 126 = .ok (.invokestatic 60, 3) := by decide +kernel
theorem dL_told_129 : decode cL_told 129 = .ok (.invokevirtual 37, 3) := by decide +kernel
theorem dL_told_132 : decode cL_told 132 = .ok (.invokevirtual 48, 3) := by decide +kernel
theorem dL_told_135 : decode cL_told 135 = .ok (.goto 83, 3) := by decide +kernel
theorem dL_told_138 : decode cL_told 138 = .ok (.aload_n 0, 1) := by decide +kernel
theorem dL_told_139 : decode cL_told 139 = .ok (.iconst 0, 1) := by decide +kernel
theorem dL_told_140 : decode cL_told 140 = .ok (.iaload, 1) := by decide +kernel
theorem dL_told_141 : decode cL_told 141 = .ok (.iconst 2, 1) := by decide +kernel
theorem dL_told_142 : decode cL_told 142 = .ok (.if_icmp .ne 48, 3) := by decide +kernel
theorem dL_told_145 : decode cL_told 145 = .ok (.new 32, 3) := by decide +kernel
theorem dL_told_148 : decode cL_told 148 = .ok (.dup, 1) := by decide +kernel
theorem dL_told_149 : decode cL_told 149 = .ok (.invokespecial 34, 3) := by decide +kernel
theorem dL_told_152 : decode cL_told 152 = .ok (.ldc 74, 2) := by decide +kernel
theorem dL_told_154 : decode cL_told 154 = .ok (.invokevirtual 37, 3) := by decide +kernel
theorem dL_told_157 : decode cL_told 157 = .ok (.aload_n 2, 1) := by decide +kernel
theorem dL_told_158 : decode cL_told 158 = .ok (.invokevirtual 37, 3) := by decide +kernel
theorem dL_told_161 : decode cL_told 161 = .ok (.aload_n 0, 1) := by decide +kernel
theorem dL_told_162 : decode cL_told 162 = .ok (.iconst 1, 1) := by decide +kernel
theorem dL_told_163 : decode cL_told 163 = .ok (.iaload, 1) := by decide +kernel
theorem dL_told_164 : decode cL_told 164 = .ok (.invokestatic 60, 3) := by decide +kernel
theorem dL_told_167 : decode cL_told 167 = .ok (.invokevirtual 37, 3) := by decide +kernel
theorem dL_told_170 : decode cL_told 170 = .ok (.ldc 76, 2) := by decide +kernel
theorem dL_told_172 : decode cL_told 172 = .ok (.invokevirtual 37, 3) := by decide +kernel
theorem dL_told_175 : decode cL_told 175 = .ok (.aload_n 0, 1) := by decide +kernel
theorem dL_told_176 : decode cL_told 176 = .ok (.iconst 2, 1) := by decide +kernel
theorem dL_told_177 : decode cL_told 177 = .ok (.iaload, 1) := by decide +kernel
theorem dL_told_178 : decode cL_told 178 = .ok (.invokestatic 60, 3) := by decide +kernel
theorem dL_told_181 : decode cL_told 181 = .ok (.invokevirtual 37, 3) := by decide +kernel
theorem dL_told_184 : decode cL_told 184 = .ok (.invokevirtual 48, 3) := by decide +kernel
theorem dL_told_187 : decode cL_told 187 = .ok (.goto 31, 3) := by decide +kernel
theorem dL_told_190 : decode cL_told 190 = .ok (.new 32, 3) := by decide +kernel
theorem dL_told_193 : decode cL_told 193 = .ok (.dup, 1) := by decide +kernel
theorem dL_told_194 : decode cL_told 194 = .ok (.invokespecial 34, 3) := by decide +kernel
theorem dL_told_197 : decode cL_told 197 = .ok (.ldc 78, 2) := by decide +kernel
theorem dL_told_199 : decode cL_told 199 = .ok (.invokevirtual 37, 3) := by decide +kernel
theorem dL_told_202 : decode cL_told 202 = .ok (.aload_n 2, 1) := by decide +kernel
theorem dL_told_203 : decode cL_told 203 = .ok (.invokevirtual 37, 3) := by decide +kernel
theorem dL_told_206 : decode cL_told 206 = .ok (.aload_n 0, 1) := by decide +kernel
theorem dL_told_207 : decode cL_told 207 = .ok (.iconst 1, 1) := by decide +kernel
theorem dL_told_208 : decode cL_told 208 = .ok (.iaload, 1) := by decide +kernel
theorem dL_told_209 : decode cL_told 209 = .ok (.invokestatic 60, 3) := by decide +kernel
theorem dL_told_212 : decode cL_told 212 = .ok (.invokevirtual 37, 3) := by decide +kernel
theorem dL_told_215 : decode cL_told 215 = .ok (.invokevirtual 48, 3) := by decide +kernel
theorem dL_told_218 : decode cL_told 218 = .ok (.areturn, 1) := by decide +kernel
theorem dL_test_0 : decode cL_test 0 = .ok (.aload_n 0, 1) := by decide +kernel
theorem dL_test_1 : decode cL_test 1 = .ok (.iconst 3, 1) := by decide +kernel
theorem dL_test_2 : decode cL_test 2 = .ok (.iaload, 1) := by decide +kernel
theorem dL_test_3 : decode cL_test 3 = .ok (.istore_n 2, 1) := by decide +kernel
theorem dL_test_4 : decode cL_test 4 = .ok (.aload_n 0, 1) := by decide +kernel
theorem dL_test_5 : decode cL_test 5 = .ok (.iconst 2, 1) := by decide +kernel
theorem dL_test_6 : decode cL_test 6 = .ok (.iaload, 1) := by decide +kernel
theorem dL_test_7 : decode cL_test 7 = .ok (.tableswitch 172 0 4 #[33, 36, 58, 85, 116], 33) := by decide +kernel
theorem dL_test_40 : decode cL_test 40 = .ok (.ldc 80, 2) := by decide +kernel
theorem dL_test_42 : decode cL_test 42 = .ok (.areturn, 1) := by decide +kernel
theorem dL_test_43 : decode cL_test 43 = .ok (.new 32, 3) := by decide +kernel
theorem dL_test_46 : decode cL_test 46 = .ok (.dup, 1) := by decide +kernel
theorem dL_test_47 : decode cL_test 47 = .ok (.invokespecial 34, 3) := by decide +kernel
theorem dL_test_50 : decode cL_test 50 = .ok (.ldc 82, 2) := by decide +kernel
theorem dL_test_52 : decode cL_test 52 = .ok (.invokevirtual 37, 3) := by decide +kernel
theorem dL_test_55 : decode cL_test 55 = .ok (.iload_n 2, 1) := by decide +kernel
theorem dL_test_56 : decode cL_test 56 = .ok (.iconst 3, 1) := by decide +kernel
theorem dL_test_57 : decode cL_test 57 = .ok (.irem, 1) := by decide +kernel
theorem dL_test_58 : decode cL_test 58 = .ok (.invokevirtual 41, 3) := by decide +kernel
theorem dL_test_61 : decode cL_test 61 = .ok (.invokevirtual 48, 3) := by decide +kernel
theorem dL_test_64 : decode cL_test 64 = .ok (.areturn, 1) := by decide +kernel
theorem dL_test_65 : decode cL_test 65 = .ok (.new 32, 3) := by decide +kernel
theorem dL_test_68 : decode cL_test 68 = .ok (.dup, 1) := by decide +kernel
theorem dL_test_69 : decode cL_test 69 = .ok (.invokespecial 34, 3) := by decide +kernel
theorem dL_test_72 : decode cL_test 72 = .ok (.ldc 84, 2) := by decide +kernel
theorem dL_test_74 : decode cL_test 74 = .ok (.invokevirtual 37, 3) := by decide +kernel
theorem dL_test_77 : decode cL_test 77 = .ok (.iload_n 2, 1) := by decide +kernel
theorem dL_test_78 : decode cL_test 78 = .ok (.iconst 2, 1) := by decide +kernel
theorem dL_test_79 : decode cL_test 79 = .ok (.iload_n 1, 1) := by decide +kernel
theorem dL_test_80 : decode cL_test 80 = .ok (.imul, 1) := by decide +kernel
theorem dL_test_81 : decode cL_test 81 = .ok (.irem, 1) := by decide +kernel
theorem dL_test_82 : decode cL_test 82 = .ok (.invokestatic 60, 3) := by decide +kernel
theorem dL_test_85 : decode cL_test 85 = .ok (.invokevirtual 37, 3) := by decide +kernel
theorem dL_test_88 : decode cL_test 88 = .ok (.invokevirtual 48, 3) := by decide +kernel
theorem dL_test_91 : decode cL_test 91 = .ok (.areturn, 1) := by decide +kernel
theorem dL_test_92 : decode cL_test 92 = .ok (.new 32, 3) := by decide +kernel
theorem dL_test_95 : decode cL_test 95 = .ok (.dup, 1) := by decide +kernel
theorem dL_test_96 : decode cL_test 96 = .ok (.invokespecial 34, 3) := by decide +kernel
theorem dL_test_99 : decode cL_test 99 = .ok (.ldc 86, 2) := by decide +kernel
theorem dL_test_101 : decode cL_test 101 = .ok (.invokevirtual 37, 3) := by decide +kernel
theorem dL_test_104 : decode cL_test 104 = .ok (.aload_n 0, 1) := by decide +kernel
theorem dL_test_105 : decode cL_test 105 = .ok (.iconst 4, 1) := by decide +kernel
theorem dL_test_106 : decode cL_test 106 = .ok (.iaload, 1) := by decide +kernel
theorem dL_test_107 : decode cL_test 107 = .ok (.invokevirtual 41, 3) := by decide +kernel
theorem dL_test_110 : decode cL_test 110 = .ok (.ldc 88, 2) := by decide +kernel
theorem dL_test_112 : decode cL_test 112 = .ok (.invokevirtual 37, 3) := by decide +kernel
theorem dL_test_115 : decode cL_test 115 = .ok (.iload_n 2, 1) := by decide +kernel
theorem dL_test_116 : decode cL_test 116 = .ok (.invokevirtual 41, 3) := by decide +kernel
theorem dL_test_119 : decode cL_test 119 = .ok (.invokevirtual 48, 3) := by decide +kernel
theorem dL_test_122 : decode cL_test 122 = .ok (.areturn, 1) := by decide +kernel
theorem dL_test_123 : decode cL_test 123 = .ok (.new 32, 3) := by decide +kernel
theorem dL_test_126 : decode cL_test 126 = .ok (.dup, 1) := by decide +kernel
theorem dL_test_127 : decode cL_test 127 = .ok (.invokespecial 34, 3) := by decide +kernel
theorem dL_test_130 : decode cL_test 130 = .ok (.ldc 90, 2) := by decide +kernel
theorem dL_test_132 : decode cL_test 132 = .ok (.invokevirtual 37, 3) := by decide +kernel
theorem dL_test_135 : decode cL_test 135 = .ok (.iload_n 2, 1) := by decide +kernel
theorem dL_test_136 : decode cL_test 136 = .ok (.iconst 2, 1) := by decide +kernel
theorem dL_test_137 : decode cL_test 137 = .ok (.iload_n 1, 1) := by decide +kernel
theorem dL_test_138 : decode cL_test 138 = .ok (.imul, 1) := by decide +kernel
theorem dL_test_139 : decode cL_test 139 = .ok (.irem, 1) := by decide +kernel
theorem dL_test_140 : decode cL_test 140 = .ok (.invokestatic 60, 3) := by decide +kernel
theorem dL_test_143 : decode cL_test 143 = .ok (.invokevirtual 37, 3) := by decide +kernel
theorem dL_test_146 : decode cL_test 146 = .ok (.ldc 92, 2) := by decide +kernel
theorem dL_test_148 : decode cL_test 148 = .ok (.invokevirtual 37, 3) := by decide +kernel
theorem dL_test_151 : decode cL_test 151 = .ok (.aload_n 0, 1) := by decide +kernel
theorem dL_test_152 : decode cL_test 152 = .ok (.iconst 4, 1) := by decide +kernel
theorem dL_test_153 : decode cL_test 153 = .ok (.iaload, 1) := by decide +kernel
theorem dL_test_154 : decode cL_test 154 = .ok (.iconst 2, 1) := by decide +kernel
theorem dL_test_155 : decode cL_test 155 = .ok (.iload_n 1, 1) := by decide +kernel
theorem dL_test_156 : decode cL_test 156 = .ok (.imul, 1) := by decide +kernel
theorem dL_test_157 : decode cL_test 157 = .ok (.irem, 1) := by decide +kernel
theorem dL_test_158 : decode cL_test 158 = .ok (.invokestatic 60, 3) := by decide +kernel
theorem dL_test_161 : decode cL_test 161 = .ok (.invokevirtual 37, 3) := by decide +kernel
theorem dL_test_164 : decode cL_test 164 = .ok (.ldc 94, 2) := by decide +kernel
theorem dL_test_166 : decode cL_test 166 = .ok (.invokevirtual 37, 3) := by decide +kernel
theorem dL_test_169 : decode cL_test 169 = .ok (.aload_n 0, 1) := by decide +kernel
theorem dL_test_170 : decode cL_test 170 = .ok (.iconst 5, 1) := by decide +kernel
theorem dL_test_171 : decode cL_test 171 = .ok (.iaload, 1) := by decide +kernel
theorem dL_test_172 : decode cL_test 172 = .ok (.invokevirtual 41, 3) := by decide +kernel
theorem dL_test_175 : decode cL_test 175 = .ok (.invokevirtual 48, 3) := by decide +kernel
theorem dL_test_178 : decode cL_test 178 = .ok (.areturn, 1) := by decide +kernel
theorem dL_test_179 : decode cL_test 179 = .ok (.new 32, 3) := by decide +kernel
theorem dL_test_182 : decode cL_test 182 = .ok (.dup, 1) := by decide +kernel
theorem dL_test_183 : decode cL_test 183 = .ok (.invokespecial 34, 3) := by decide +kernel
theorem dL_test_186 : decode cL_test 186 = .ok (.ldc 96, 2) := by decide +kernel
theorem dL_test_188 : decode cL_test 188 = .ok (.invokevirtual 37, 3) := by decide +kernel
theorem dL_test_191 : decode cL_test 191 = .ok (.iload_n 2, 1) := by decide +kernel
theorem dL_test_192 : decode cL_test 192 = .ok (.invokevirtual 41, 3) := by decide +kernel
theorem dL_test_195 : decode cL_test 195 = .ok (.ldc 98, 2) := by decide +kernel
theorem dL_test_197 : decode cL_test 197 = .ok (.invokevirtual 37, 3) := by decide +kernel
theorem dL_test_200 : decode cL_test 200 = .ok (.invokevirtual 48, 3) := by decide +kernel
theorem dL_test_203 : decode cL_test 203 = .ok (.areturn, 1) := by decide +kernel
theorem dL_book_0 : decode cL_book 0 = .ok (.new 100, 3) := by decide +kernel
theorem dL_book_3 : decode cL_book 3 = .ok (.dup, 1) := by decide +kernel
theorem dL_book_4 : decode cL_book 4 = .ok (.invokespecial 102, 3) := by decide +kernel
theorem dL_book_7 : decode cL_book 7 = .ok (.astore_n 3, 1) := by decide +kernel
theorem dL_book_8 : decode cL_book 8 = .ok (.aload_n 3, 1) := by decide +kernel
theorem dL_book_9 : decode cL_book 9 = .ok (.iconst 1, 1) := by decide +kernel
theorem dL_book_10 : decode cL_book 10 = .ok (.aload_n 0, 1) := by decide +kernel
theorem dL_book_11 : decode cL_book 11 = .ok (.iconst 0, 1) := by decide +kernel
theorem dL_book_12 : decode cL_book 12 = .ok (.invokestatic 103, 3) := by decide +kernel
theorem dL_book_15 : decode cL_book 15 = .ok (.iload_n 1, 1) := by decide +kernel
theorem dL_book_16 : decode cL_book 16 = .ok (.invokestatic 107, 3) := by decide +kernel
theorem dL_book_19 : decode cL_book 19 = .ok (.iadd, 1) := by decide +kernel
theorem dL_book_20 : decode cL_book 20 = .ok (.putfield 111, 3) := by decide +kernel
theorem dL_book_23 : decode cL_book 23 = .ok (.iconst 0, 1) := by decide +kernel
theorem dL_book_24 : decode cL_book 24 = .ok (.istore 4, 2) := by decide +kernel
theorem dL_book_26 : decode cL_book 26 = .ok (.iload 4, 2) := by decide +kernel
theorem dL_book_28 : decode cL_book 28 = .ok (.aload_n 3, 1) := by decide +kernel
theorem dL_book_29 : decode cL_book 29 = .ok (.getfield 111, 3) := by decide +kernel
theorem dL_book_32 : decode cL_book 32 = .ok (.if_icmp .ge 26, 3) := by decide +kernel
theorem dL_book_35 : decode cL_book 35 = .ok (.aload_n 2, 1) := by decide +kernel
theorem dL_book_36 : decode cL_book 36 = .ok (.ldc 115, 2) := by decide +kernel
theorem dL_book_38 : decode cL_book 38 = .ok (.invokevirtual 37, 3) := by decide +kernel
theorem dL_book_41 : decode cL_book 41 = .ok (.iload 4, 2) := by decide +kernel
theorem dL_book_43 : decode cL_book 43 = .ok (.invokevirtual 41, 3) := by decide +kernel
theorem dL_book_46 : decode cL_book 46 = .ok (.ldc 117, 2) := by decide +kernel
theorem dL_book_48 : decode cL_book 48 = .ok (.invokevirtual 37, 3) := by decide +kernel
theorem dL_book_51 : decode cL_book 51 = .ok (.pop, 1) := by decide +kernel
theorem dL_book_52 : decode cL_book 52 = .ok (.iinc 4 1, 3) := by decide +kernel
theorem dL_book_55 : decode cL_book 55 = .ok (.goto (-29), 3) := by decide +kernel
theorem dL_book_58 : decode cL_book 58 = .ok (.aload_n 0, 1) := by decide +kernel
theorem dL_book_59 : decode cL_book 59 = .ok (.iconst 1, 1) := by decide +kernel
theorem dL_book_60 : decode cL_book 60 = .ok (.invokestatic 103, 3) := by decide +kernel
theorem dL_book_63 : decode cL_book 63 = .ok (.iconst 2, 1) := by decide +kernel
theorem dL_book_64 : decode cL_book 64 = .ok (.aload_n 3, 1) := by decide +kernel
theorem dL_book_65 : decode cL_book 65 = .ok (.getfield 111, 3) := by decide +kernel
theorem dL_book_68 : decode cL_book 68 = .ok (.imul, 1) := by decide +kernel
theorem dL_book_69 : decode cL_book 69 = .ok (.iconst 3, 1) := by decide +kernel
theorem dL_book_70 : decode cL_book 70 = .ok (.iadd, 1) := by decide +kernel
theorem dL_book_71 : decode cL_book 71 = .ok (.invokestatic 107, 3) := by decide +kernel
theorem dL_book_74 : decode cL_book 74 = .ok (.istore 4, 2) := by decide +kernel
theorem dL_book_76 : decode cL_book 76 = .ok (.iconst 0, 1) := by decide +kernel
theorem dL_book_77 : decode cL_book 77 = .ok (.istore 5, 2) := by decide +kernel
theorem dL_book_79 : decode cL_book 79 = .ok (.iload 5, 2) := by decide +kernel
theorem dL_book_81 : decode cL_book 81 = .ok (.iload 4, 2) := by decide +kernel
theorem dL_book_83 : decode cL_book 83 = .ok (.if_icmp .ge 154, 3) := by decide +kernel
theorem dL_book_86 : decode cL_book 86 = .ok (.aload_n 0, 1) := by decide +kernel
theorem dL_book_87 : decode cL_book 87 = .ok (.iconst 2, 1) := by decide +kernel
theorem dL_book_88 : decode cL_book 88 = .ok (.iload 5, 2) := by decide +kernel
theorem dL_book_90 : decode cL_book 90 = .ok (.bipush 12, 2) := by decide +kernel
theorem dL_book_92 : decode cL_book 92 = .ok (.irem, 1) := by decide +kernel
theorem dL_book_93 : decode cL_book 93 = .ok (.iadd, 1) := by decide +kernel
theorem dL_book_94 : decode cL_book 94 = .ok (.invokestatic 103, 3) := by decide +kernel
theorem dL_book_97 : decode cL_book 97 = .ok (.iconst 1, 1) := by decide +kernel
theorem dL_book_98 : decode cL_book 98 = .ok (.iload 5, 2) := by decide +kernel
theorem dL_book_100 : decode cL_book 100 = .ok (.bipush 12, 2) := by decide +kernel
theorem dL_book_102 : decode cL_book 102 = .ok (.idiv, 1) := by decide +kernel
theorem dL_book_103 : decode cL_book 103 = .ok (.iconst 4, 1) := by decide +kernel
theorem dL_book_104 : decode cL_book 104 = .ok (.imul, 1) := by decide +kernel
theorem dL_book_105 : decode cL_book 105 = .ok (.iadd, 1) := by decide +kernel
theorem dL_book_106 : decode cL_book 106 = .ok (.ishr, 1) := by decide +kernel
theorem dL_book_107 : decode cL_book 107 = .ok (.bipush 37, 2) := by decide +kernel
theorem dL_book_109 : decode cL_book 109 = .ok (.iload 5, 2) := by decide +kernel
theorem dL_book_111 : decode cL_book 111 = .ok (.imul, 1) := by decide +kernel
theorem dL_book_112 : decode cL_book 112 = .ok (.iadd, 1) := by decide +kernel
theorem dL_book_113 : decode cL_book 113 = .ok (.istore 6, 2) := by decide +kernel
theorem dL_book_115 : decode cL_book 115 = .ok (.iload 6, 2) := by decide +kernel
theorem dL_book_117 : decode cL_book 117 = .ok (.bipush 9, 2) := by decide +kernel
theorem dL_book_119 : decode cL_book 119 = .ok (.invokestatic 107, 3) := by decide +kernel
theorem dL_book_122 : decode cL_book 122 = .ok (.ifCond .ne 7, 3) := by decide +kernel
theorem dL_book_125 : decode cL_book 125 = .ok (.iconst 3, 1) := by decide +kernel
theorem dL_book_126 : decode cL_book 126 = .ok (.goto 11, 3) := by decide +kernel
theorem dL_book_129 : decode cL_book 129 = .ok (.iload 6, 2) := by decide +kernel
theorem dL_book_131 : decode cL_book 131 = .ok (.iconst 2, 1) := by decide +kernel
theorem dL_book_132 : decode cL_book 132 = .ok (.ishr, 1) := by decide +kernel
theorem dL_book_133 : decode cL_book 133 = .ok (.iconst 3, 1) := by decide +kernel
theorem dL_book_134 : decode cL_book 134 = .ok (.invokestatic 107, 3) := by decide +kernel
theorem dL_book_137 : decode cL_book 137 = .ok (.istore 7, 2) := by decide +kernel
theorem dL_book_139 : decode cL_book 139 = .ok (.iload 6, 2) := by decide +kernel
theorem dL_book_141 : decode cL_book 141 = .ok (.iconst 3, 1) := by decide +kernel
theorem dL_book_142 : decode cL_book 142 = .ok (.ishr, 1) := by decide +kernel
theorem dL_book_143 : decode cL_book 143 = .ok (.iconst 2, 1) := by decide +kernel
theorem dL_book_144 : decode cL_book 144 = .ok (.aload_n 3, 1) := by decide +kernel
theorem dL_book_145 : decode cL_book 145 = .ok (.getfield 111, 3) := by decide +kernel
theorem dL_book_148 : decode cL_book 148 = .ok (.imul, 1) := by decide +kernel
theorem dL_book_149 : decode cL_book 149 = .ok (.invokestatic 107, 3) := by decide +kernel
theorem dL_book_152 : decode cL_book 152 = .ok (.istore 8, 2) := by decide +kernel
theorem dL_book_154 : decode cL_book 154 = .ok (.iconst 4, 1) := by decide +kernel
theorem dL_book_155 : decode cL_book 155 = .ok (.newarray .int, 2) := by decide +kernel
theorem dL_book_157 : decode cL_book 157 = .ok (.dup, 1) := by decide +kernel
theorem dL_book_158 : decode cL_book 158 = .ok (.iconst 0, 1) := by decide +kernel
theorem dL_book_159 : decode cL_book 159 = .ok (.iload 7, 2) := by decide +kernel
theorem dL_book_161 : decode cL_book 161 = .ok (.iastore, 1) := by decide +kernel
theorem dL_book_162 : decode cL_book 162 = .ok (.dup, 1) := by decide +kernel
theorem dL_book_163 : decode cL_book 163 = .ok (.iconst 1, 1) := by decide +kernel
theorem dL_book_164 : decode cL_book 164 = .ok (.iload 8, 2) := by decide +kernel
theorem dL_book_166 : decode cL_book 166 = .ok (.iastore, 1) := by decide +kernel
theorem dL_book_167 : decode cL_book 167 = .ok (.dup, 1) := by decide +kernel
theorem dL_book_168 : decode cL_book 168 = .ok (.iconst 2, 1) := by decide +kernel
theorem dL_book_169 : decode cL_book 169 = .ok (.iload 7, 2) := by decide +kernel
theorem dL_book_171 : decode cL_book 171 = .ok (.iconst 3, 1) := by decide +kernel
theorem dL_book_172 : decode cL_book 172 = .ok (.if_icmp .ne 8, 3) := by decide +kernel
theorem dL_book_175 : decode cL_book 175 = .ok (.iload 8, 2) := by decide +kernel
theorem dL_book_177 : decode cL_book 177 = .ok (.goto 17, 3) := by decide +kernel
theorem dL_book_180 : decode cL_book 180 = .ok (.iload 6, 2) := by decide +kernel
theorem dL_book_182 : decode cL_book 182 = .ok (.bipush 6, 2) := by decide +kernel
theorem dL_book_184 : decode cL_book 184 = .ok (.ishr, 1) := by decide +kernel
theorem dL_book_185 : decode cL_book 185 = .ok (.iconst 2, 1) := by decide +kernel
theorem dL_book_186 : decode cL_book 186 = .ok (.aload_n 3, 1) := by decide +kernel
theorem dL_book_187 : decode cL_book 187 = .ok (.getfield 111, 3) := by decide +kernel
theorem dL_book_190 : decode cL_book 190 = .ok (.imul, 1) := by decide +kernel
theorem dL_book_191 : decode cL_book 191 = .ok (.invokestatic 107, 3) := by decide +kernel
theorem dL_book_194 : decode cL_book 194 = .ok (.iastore, 1) := by decide +kernel
theorem dL_book_195 : decode cL_book 195 = .ok (.dup, 1) := by decide +kernel
theorem dL_book_196 : decode cL_book 196 = .ok (.iconst 3, 1) := by decide +kernel
theorem dL_book_197 : decode cL_book 197 = .ok (.iconst 1, 1) := by decide +kernel
theorem dL_book_198 : decode cL_book 198 = .ok (.iastore, 1) := by decide +kernel
theorem dL_book_199 : decode cL_book 199 = .ok (.astore 9, 2) := by decide +kernel
theorem dL_book_201 : decode cL_book 201 = .ok (.aload_n 2, 1) := by decide +kernel
theorem dL_book_202 : decode cL_book 202 = .ok (.aload 9, 2) := by decide +kernel
theorem dL_book_204 : decode cL_book 204 = .ok (.iload 5, 2) := by decide +kernel
theorem dL_book_206 : decode cL_book 206 = .ok (.invokestatic 119, 3) := by decide +kernel
theorem dL_book_209 : decode cL_book 209 = .ok (.invokevirtual 37, 3) := by decide +kernel
theorem dL_book_212 : decode cL_book 212 = .ok (.ldc 123, 2) := by decide +kernel
theorem dL_book_214 : decode cL_book 214 = .ok (.invokevirtual 37, 3) := by decide +kernel
theorem dL_book_217 : decode cL_book 217 = .ok (.pop, 1) := by decide +kernel
theorem dL_book_218 : decode cL_book 218 = .ok (.aload_n 3, 1) := by decide +kernel
theorem dL_book_219 : decode cL_book 219 = .ok (.aload_n 3, 1) := by decide +kernel
theorem dL_book_220 : decode cL_book 220 = .ok (.getfield 125, 3) := by decide +kernel
theorem dL_book_223 : decode cL_book 223 = .ok (.aload 9, 2) := by decide +kernel
theorem dL_book_225 : decode cL_book 225 = .ok (.invokestatic 129, 3) := by decide +kernel
theorem dL_book_228 : decode cL_book 228 = .ok (.putfield 125, 3) := by decide +kernel
theorem dL_book_231 : decode cL_book 231 = .ok (.iinc 5 1, 3) := by decide +kernel
theorem dL_book_234 : decode cL_book 234 = .ok (.goto (-155), 3) := by decide +kernel
theorem dL_book_237 : decode cL_book 237 = .ok (.iload 4, 2) := by decide +kernel
theorem dL_book_239 : decode cL_book 239 = .ok (.ifCond .ne 7, 3) := by decide +kernel
theorem dL_book_242 : decode cL_book 242 = .ok (.iconst 0, 1) := by decide +kernel
theorem dL_book_243 : decode cL_book 243 = .ok (.goto 14, 3) := by decide +kernel
theorem dL_book_246 : decode cL_book 246 = .ok (.aload_n 0, 1) := by decide +kernel
theorem dL_book_247 : decode cL_book 247 = .ok (.bipush 14, 2) := by decide +kernel
theorem dL_book_249 : decode cL_book 249 = .ok (.invokestatic 103, 3) := by decide +kernel
theorem dL_book_252 : decode cL_book 252 = .ok (.bipush 6, 2) := by decide +kernel
theorem dL_book_254 : decode cL_book 254 = .ok (.invokestatic 107, 3) := by decide +kernel
theorem dL_book_257 : decode cL_book 257 = .ok (.istore 5, 2) := by decide +kernel
theorem dL_book_259 : decode cL_book 259 = .ok (.iload 5, 2) := by decide +kernel
theorem dL_book_261 : decode cL_book 261 = .ok (.ifCond .le 161, 3) := by decide +kernel
theorem dL_book_264 : decode cL_book 264 = .ok (.aload_n 0, 1) := by decide +kernel
theorem dL_book_265 : decode cL_book 265 = .ok (.bipush 15, 2) := by decide +kernel
theorem dL_book_267 : decode cL_book 267 = .ok (.invokestatic 103, 3) := by decide +kernel
theorem dL_book_270 : decode cL_book 270 = .ok (.iload 5, 2) := by decide +kernel
theorem dL_book_272 : decode cL_book 272 = .ok (.ishr, 1) := by decide +kernel
theorem dL_book_273 : decode cL_book 273 = .ok (.bipush 61, 2) := by decide +kernel
theorem dL_book_275 : decode cL_book 275 = .ok (.iload 5, 2) := by decide +kernel
theorem dL_book_277 : decode cL_book 277 = .ok (.imul, 1) := by decide +kernel
theorem dL_book_278 : decode cL_book 278 = .ok (.iadd, 1) := by decide +kernel
theorem dL_book_279 : decode cL_book 279 = .ok (.istore 6, 2) := by decide +kernel
theorem dL_book_281 : decode cL_book 281 = .ok (.bipush 6, 2) := by decide +kernel
theorem dL_book_283 : decode cL_book 283 = .ok (.newarray .int, 2) := by decide +kernel
theorem dL_book_285 : decode cL_book 285 = .ok (.dup, 1) := by decide +kernel
theorem dL_book_286 : decode cL_book 286 = .ok (.iconst 0, 1) := by decide +kernel
theorem dL_book_287 : decode cL_book 287 = .ok (.iconst 1, 1) := by decide +kernel
theorem dL_book_288 : decode cL_book 288 = .ok (.iload 6, 2) := by decide +kernel
theorem dL_book_290 : decode cL_book 290 = .ok (.iconst 2, 1) := by decide +kernel
theorem dL_book_291 : decode cL_book 291 = .ok (.invokestatic 107, 3) := by decide +kernel
theorem dL_book_294 : decode cL_book 294 = .ok (.iadd, 1) := by decide +kernel
theorem dL_book_295 : decode cL_book 295 = .ok (.iastore, 1) := by decide +kernel
theorem dL_book_296 : decode cL_book 296 = .ok (.dup, 1) := by decide +kernel
theorem dL_book_297 : decode cL_book 297 = .ok (.iconst 1, 1) := by decide +kernel
theorem dL_book_298 : decode cL_book 298 = .ok (.iload 6, 2) := by decide +kernel
theorem dL_book_300 : decode cL_book 300 = .ok (.iconst 2, 1) := by decide +kernel
theorem dL_book_301 : decode cL_book 301 = .ok (.ishr, 1) := by decide +kernel
theorem dL_book_302 : decode cL_book 302 = .ok (.iload 4, 2) := by decide +kernel
theorem dL_book_304 : decode cL_book 304 = .ok (.invokestatic 107, 3) := by decide +kernel
theorem dL_book_307 : decode cL_book 307 = .ok (.iastore, 1) := by decide +kernel
theorem dL_book_308 : decode cL_book 308 = .ok (.dup, 1) := by decide +kernel
theorem dL_book_309 : decode cL_book 309 = .ok (.iconst 2, 1) := by decide +kernel
theorem dL_book_310 : decode cL_book 310 = .ok (.iload 6, 2) := by decide +kernel
theorem dL_book_312 : decode cL_book 312 = .ok (.iconst 4, 1) := by decide +kernel
theorem dL_book_313 : decode cL_book 313 = .ok (.ishr, 1) := by decide +kernel
theorem dL_book_314 : decode cL_book 314 = .ok (.bipush 6, 2) := by decide +kernel
theorem dL_book_316 : decode cL_book 316 = .ok (.invokestatic 107, 3) := by decide +kernel
theorem dL_book_319 : decode cL_book 319 = .ok (.iastore, 1) := by decide +kernel
theorem dL_book_320 : decode cL_book 320 = .ok (.dup, 1) := by decide +kernel
theorem dL_book_321 : decode cL_book 321 = .ok (.iconst 3, 1) := by decide +kernel
theorem dL_book_322 : decode cL_book 322 = .ok (.iload 6, 2) := by decide +kernel
theorem dL_book_324 : decode cL_book 324 = .ok (.iconst 3, 1) := by decide +kernel
theorem dL_book_325 : decode cL_book 325 = .ok (.ishr, 1) := by decide +kernel
theorem dL_book_326 : decode cL_book 326 = .ok (.bipush 21, 2) := by decide +kernel
theorem dL_book_328 : decode cL_book 328 = .ok (.invokestatic 107, 3) := by decide +kernel
theorem dL_book_331 : decode cL_book 331 = .ok (.iastore, 1) := by decide +kernel
theorem dL_book_332 : decode cL_book 332 = .ok (.dup, 1) := by decide +kernel
theorem dL_book_333 : decode cL_book 333 = .ok (.iconst 4, 1) := by decide +kernel
theorem dL_book_334 : decode cL_book 334 = .ok (.iload 6, 2) := by decide +kernel
theorem dL_book_336 : decode cL_book 336 = .ok (.iconst 5, 1) := by decide +kernel
theorem dL_book_337 : decode cL_book 337 = .ok (.ishr, 1) := by decide +kernel
theorem dL_book_338 : decode cL_book 338 = .ok (.iload 4, 2) := by decide +kernel
theorem dL_book_340 : decode cL_book 340 = .ok (.invokestatic 107, 3) := by decide +kernel
theorem dL_book_343 : decode cL_book 343 = .ok (.iastore, 1) := by decide +kernel
theorem dL_book_344 : decode cL_book 344 = .ok (.dup, 1) := by decide +kernel
theorem dL_book_345 : decode cL_book 345 = .ok (.iconst 5, 1) := by decide +kernel
theorem dL_book_346 : decode cL_book 346 = .ok (.iload 6, 2) := by decide +kernel
theorem dL_book_348 : decode cL_book 348 = .ok (.bipush 6, 2) := by decide +kernel
theorem dL_book_350 : decode cL_book 350 = .ok (.ishr, 1) := by decide +kernel
theorem dL_book_351 : decode cL_book 351 = .ok (.bipush 8, 2) := by decide +kernel
theorem dL_book_353 : decode cL_book 353 = .ok (.invokestatic 107, 3) := by decide +kernel
theorem dL_book_356 : decode cL_book 356 = .ok (.iastore, 1) := by decide +kernel
theorem dL_book_357 : decode cL_book 357 = .ok (.astore 7, 2) := by decide +kernel
theorem dL_book_359 : decode cL_book 359 = .ok (.aload_n 2, 1) := by decide +kernel
theorem dL_book_360 : decode cL_book 360 = .ok (.aload 7, 2) := by decide +kernel
theorem dL_book_362 : decode cL_book 362 = .ok (.iconst 0, 1) := by decide +kernel
theorem dL_book_363 : decode cL_book 363 = .ok (.iaload, 1) := by decide +kernel
theorem dL_book_364 : decode cL_book 364 = .ok (.iconst 1, 1) := by decide +kernel
theorem dL_book_365 : decode cL_book 365 = .ok (.if_icmp .ne 8, 3) := by decide +kernel
theorem dL_book_368 : decode cL_book 368 = .ok (.ldc 133, 2) := by decide +kernel
theorem dL_book_370 : decode cL_book 370 = .ok (.goto 5, 3) := by decide +kernel
theorem dL_book_373 : decode cL_book 373 = .ok (.ldc 135, 2) := by decide +kernel
theorem dL_book_375 : decode cL_book 375 = .ok (.invokevirtual 37, 3) := by decide +kernel
theorem dL_book_378 : decode cL_book 378 = .ok (.aload 7, 2) := by decide +kernel
theorem dL_book_380 : decode cL_book 380 = .ok (.iconst 1, 1) := by decide +kernel
theorem dL_book_381 : decode cL_book 381 = .ok (.iaload, 1) := by decide +kernel
theorem dL_book_382 : decode cL_book 382 = .ok (.invokevirtual 41, 3) := by decide +kernel
theorem dL_book_385 : decode cL_book 385 = .ok (.aload 7, 2) := by decide +kernel
theorem dL_book_387 : decode cL_book 387 = .ok (.aload_n 3, 1) := by decide +kernel
theorem dL_book_388 : decode cL_book 388 = .ok (.getfield 111, 3) := by decide +kernel
theorem dL_book_391 : decode cL_book 391 = .ok (.invokestatic 137, 3) := by decide +kernel
theorem dL_book_394 : decode cL_book 394 = .ok (.invokevirtual 37, 3) := by decide +kernel
theorem dL_book_397 : decode cL_book 397 = .ok (.ldc 123, 2) := by decide +kernel
theorem dL_book_399 : decode cL_book 399 = .ok (.invokevirtual 37, 3) := by decide +kernel
theorem dL_book_402 : decode cL_book 402 = .ok (.pop, 1) := by decide +kernel
theorem dL_book_403 : decode cL_book 403 = .ok (.aload_n 3, 1) := by decide +kernel
theorem dL_book_404 : decode cL_book 404 = .ok (.aload_n 3, 1) := by decide +kernel
theorem dL_book_405 : decode cL_book 405 = .ok (.getfield 140, 3) := by decide +kernel
theorem dL_book_408 : decode cL_book 408 = .ok (.aload 7, 2) := by decide +kernel
theorem dL_book_410 : decode cL_book 410 = .ok (.invokestatic 129, 3) := by decide +kernel
theorem dL_book_413 : decode cL_book 413 = .ok (.putfield 140, 3) := by decide +kernel
theorem dL_book_416 : decode cL_book 416 = .ok (.iinc 5 (-1), 3) := by decide +kernel
theorem dL_book_419 : decode cL_book 419 = .ok (.goto (-160), 3) := by decide +kernel
theorem dL_book_422 : decode cL_book 422 = .ok (.aload_n 3, 1) := by decide +kernel
theorem dL_book_423 : decode cL_book 423 = .ok (.areturn, 1) := by decide +kernel
theorem dL_act_0 : decode cL_act 0 = .ok (.aload_n 1, 1) := by decide +kernel
theorem dL_act_1 : decode cL_act 1 = .ok (.getfield 125, 3) := by decide +kernel
theorem dL_act_4 : decode cL_act 4 = .ok (.arraylength, 1) := by decide +kernel
theorem dL_act_5 : decode cL_act 5 = .ok (.ifCond .eq 11, 3) := by decide +kernel
theorem dL_act_8 : decode cL_act 8 = .ok (.iload_n 2, 1) := by decide +kernel
theorem dL_act_9 : decode cL_act 9 = .ok (.iconst 3, 1) := by decide +kernel
theorem dL_act_10 : decode cL_act 10 = .ok (.invokestatic 107, 3) := by decide +kernel
theorem dL_act_13 : decode cL_act 13 = .ok (.ifCond .ne 59, 3) := by decide +kernel
theorem dL_act_16 : decode cL_act 16 = .ok (.iconst 1, 1) := by decide +kernel
theorem dL_act_17 : decode cL_act 17 = .ok (.iload_n 2, 1) := by decide +kernel
theorem dL_act_18 : decode cL_act 18 = .ok (.iconst 4, 1) := by decide +kernel
theorem dL_act_19 : decode cL_act 19 = .ok (.ishr, 1) := by decide +kernel
theorem dL_act_20 : decode cL_act 20 = .ok (.iconst 3, 1) := by decide +kernel
theorem dL_act_21 : decode cL_act 21 = .ok (.invokestatic 107, 3) := by decide +kernel
theorem dL_act_24 : decode cL_act 24 = .ok (.iadd, 1) := by decide +kernel
theorem dL_act_25 : decode cL_act 25 = .ok (.istore_n 3, 1) := by decide +kernel
theorem dL_act_26 : decode cL_act 26 = .ok (.aload_n 1, 1) := by decide +kernel
theorem dL_act_27 : decode cL_act 27 = .ok (.getfield 143, 3) := by decide +kernel
theorem dL_act_30 : decode cL_act 30 = .ok (.istore 4, 2) := by decide +kernel
theorem dL_act_32 : decode cL_act 32 = .ok (.iconst 0, 1) := by decide +kernel
theorem dL_act_33 : decode cL_act 33 = .ok (.istore 5, 2) := by decide +kernel
theorem dL_act_35 : decode cL_act 35 = .ok (.iload 5, 2) := by decide +kernel
theorem dL_act_37 : decode cL_act 37 = .ok (.iload_n 3, 1) := by decide +kernel
theorem dL_act_38 : decode cL_act 38 = .ok (.if_icmp .ge 13, 3) := by decide +kernel
theorem dL_act_41 : decode cL_act 41 = .ok (.aload_n 1, 1) := by decide +kernel
theorem dL_act_42 : decode cL_act 42 = .ok (.invokevirtual 146, 3) := by decide +kernel
theorem dL_act_45 : decode cL_act 45 = .ok (.iinc 5 1, 3) := by decide +kernel
theorem dL_act_48 : decode cL_act 48 = .ok (.goto (-13), 3) := by decide +kernel
theorem dL_act_51 : decode cL_act 51 = .ok (.aload_n 0, 1) := by decide +kernel
theorem dL_act_52 : decode cL_act 52 = .ok (.iload_n 3, 1) := by decide +kernel
theorem dL_act_53 : decode cL_act 53 = .ok (.invokevirtual 149, 3) := by decide +kernel
theorem dL_act_56 : decode cL_act 56 = .ok (.aload_n 1, 1) := by decide +kernel
theorem dL_act_57 : decode cL_act 57 = .ok (.getfield 143, 3) := by decide +kernel
theorem dL_act_60 : decode cL_act 60 = .ok (.iload 4, 2) := by decide +kernel
theorem dL_act_62 : decode cL_act 62 = .ok (.isub, 1) := by decide +kernel
theorem dL_act_63 : decode cL_act 63 = .ok (.if_icmp .ne 7, 3) := by decide +kernel
theorem dL_act_66 : decode cL_act 66 = .ok (.iconst 1, 1) := by decide +kernel
theorem dL_act_67 : decode cL_act 67 = .ok (.goto 4, 3) := by decide +kernel
theorem dL_act_70 : decode cL_act 70 = .ok (.iconst 0, 1) := by decide +kernel
theorem dL_act_71 : decode cL_act 71 = .ok (.ireturn, 1) := by decide +kernel
theorem dL_act_72 : decode cL_act 72 = .ok (.iload_n 2, 1) := by decide +kernel
theorem dL_act_73 : decode cL_act 73 = .ok (.iconst 3, 1) := by decide +kernel
theorem dL_act_74 : decode cL_act 74 = .ok (.ishr, 1) := by decide +kernel
theorem dL_act_75 : decode cL_act 75 = .ok (.aload_n 1, 1) := by decide +kernel
theorem dL_act_76 : decode cL_act 76 = .ok (.getfield 125, 3) := by decide +kernel
theorem dL_act_79 : decode cL_act 79 = .ok (.arraylength, 1) := by decide +kernel
theorem dL_act_80 : decode cL_act 80 = .ok (.invokestatic 107, 3) := by decide +kernel
theorem dL_act_83 : decode cL_act 83 = .ok (.istore_n 3, 1) := by decide +kernel
theorem dL_act_84 : decode cL_act 84 = .ok (.iload_n 2, 1) := by decide +kernel
theorem dL_act_85 : decode cL_act 85 = .ok (.bipush 6, 2) := by decide +kernel
theorem dL_act_87 : decode cL_act 87 = .ok (.ishr, 1) := by decide +kernel
theorem dL_act_88 : decode cL_act 88 = .ok (.iconst 2, 1) := by decide +kernel
theorem dL_act_89 : decode cL_act 89 = .ok (.invokestatic 107, 3) := by decide +kernel
theorem dL_act_92 : decode cL_act 92 = .ok (.ifCond .ne 7, 3) := by decide +kernel
theorem dL_act_95 : decode cL_act 95 = .ok (.iconst 1, 1) := by decide +kernel
theorem dL_act_96 : decode cL_act 96 = .ok (.goto 4, 3) := by decide +kernel
theorem dL_act_99 : decode cL_act 99 = .ok (.iconst 0, 1) := by decide +kernel
theorem dL_act_100 : decode cL_act 100 = .ok (.istore 4, 2) := by decide +kernel
theorem dL_act_102 : decode cL_act 102 = .ok (.aload_n 1, 1) := by decide +kernel
theorem dL_act_103 : decode cL_act 103 = .ok (.getfield 125, 3) := by decide +kernel
theorem dL_act_106 : decode cL_act 106 = .ok (.iload_n 3, 1) := by decide +kernel
theorem dL_act_107 : decode cL_act 107 = .ok (.aaload, 1) := by decide +kernel
theorem dL_act_108 : decode cL_act 108 = .ok (.iconst 3, 1) := by decide +kernel
theorem dL_act_109 : decode cL_act 109 = .ok (.iaload, 1) := by decide +kernel
theorem dL_act_110 : decode cL_act 110 = .ok (.iload 4, 2) := by decide +kernel
theorem dL_act_112 : decode cL_act 112 = .ok (.ifCond .eq 7, 3) := by decide +kernel
theorem dL_act_115 : decode cL_act 115 = .ok (.iconst 1, 1) := by decide +kernel
theorem dL_act_116 : decode cL_act 116 = .ok (.goto 4, 3) := by decide +kernel
theorem dL_act_119 : decode cL_act 119 = .ok (.iconst 0, 1) := by decide +kernel
theorem dL_act_120 : decode cL_act 120 = .ok (.if_icmp .ne 7, 3) := by decide +kernel
theorem dL_act_123 : decode cL_act 123 = .ok (.iconst 1, 1) := by decide +kernel
theorem dL_act_124 : decode cL_act 124 = .ok (.goto 4, 3) := by decide +kernel
theorem dL_act_127 : decode cL_act 127 = .ok (.iconst 0, 1) := by decide +kernel
theorem dL_act_128 : decode cL_act 128 = .ok (.istore 5, 2) := by decide +kernel
theorem dL_act_130 : decode cL_act 130 = .ok (.iload 5, 2) := by decide +kernel
theorem dL_act_132 : decode cL_act 132 = .ok (.ifCond .eq 21, 3) := by decide +kernel
theorem dL_act_135 : decode cL_act 135 = .ok (.aload_n 1, 1) := by decide +kernel
theorem dL_act_136 : decode cL_act 136 = .ok (.getfield 125, 3) := by decide +kernel
theorem dL_act_139 : decode cL_act 139 = .ok (.iload_n 3, 1) := by decide +kernel
theorem dL_act_140 : decode cL_act 140 = .ok (.aaload, 1) := by decide +kernel
theorem dL_act_141 : decode cL_act 141 = .ok (.iconst 3, 1) := by decide +kernel
theorem dL_act_142 : decode cL_act 142 = .ok (.iload 4, 2) := by decide +kernel
theorem dL_act_144 : decode cL_act 144 = .ok (.ifCond .eq 7, 3) := by decide +kernel
theorem dL_act_147 : decode cL_act 147 = .ok (.iconst 0, 1) := by decide +kernel
theorem dL_act_148 : decode cL_act 148 = .ok (.goto 4, 3) := by decide +kernel
theorem dL_act_151 : decode cL_act 151 = .ok (.iconst 1, 1) := by decide +kernel
theorem dL_act_152 : decode cL_act 152 = .ok (.iastore, 1) := by decide +kernel
theorem dL_act_153 : decode cL_act 153 = .ok (.iload 4, 2) := by decide +kernel
theorem dL_act_155 : decode cL_act 155 = .ok (.ifCond .eq 11, 3) := by decide +kernel
theorem dL_act_158 : decode cL_act 158 = .ok (.aload_n 0, 1) := by decide +kernel
theorem dL_act_159 : decode cL_act 159 = .ok (.iload_n 3, 1) := by decide +kernel
theorem dL_act_160 : decode cL_act 160 = .ok (.invokevirtual 152, 3) := by decide +kernel
theorem dL_act_163 : decode cL_act 163 = .ok (.goto 8, 3) := by decide +kernel
theorem dL_act_166 : decode cL_act 166 = .ok (.aload_n 0, 1) := by decide +kernel
theorem dL_act_167 : decode cL_act 167 = .ok (.iload_n 3, 1) := by decide +kernel
theorem dL_act_168 : decode cL_act 168 = .ok (.invokevirtual 155, 3) := by decide +kernel
theorem dL_act_171 : decode cL_act 171 = .ok (.aload_n 1, 1) := by decide +kernel
theorem dL_act_172 : decode cL_act 172 = .ok (.invokevirtual 158, 3) := by decide +kernel
theorem dL_act_175 : decode cL_act 175 = .ok (.if_icmp .ne 12, 3) := by decide +kernel
theorem dL_act_178 : decode cL_act 178 = .ok (.iload 5, 2) := by decide +kernel
theorem dL_act_180 : decode cL_act 180 = .ok (.ifCond .eq 7, 3) := by decide +kernel
theorem dL_act_183 : decode cL_act 183 = .ok (.iconst 1, 1) := by decide +kernel
theorem dL_act_184 : decode cL_act 184 = .ok (.goto 4, 3) := by decide +kernel
theorem dL_act_187 : decode cL_act 187 = .ok (.iconst 0, 1) := by decide +kernel
theorem dL_act_188 : decode cL_act 188 = .ok (.ireturn, 1) := by decide +kernel
theorem dL_act_189 : decode cL_act 189 = .ok (.astore 6, 2) := by decide +kernel
theorem dL_act_191 : decode cL_act 191 = .ok (.iload 5, 2) := by decide +kernel
theorem dL_act_193 : decode cL_act 193 = .ok (.ifCond .ne 7, 3) := by decide +kernel
theorem dL_act_196 : decode cL_act 196 = .ok (.iconst 1, 1) := by decide +kernel
theorem dL_act_197 : decode cL_act 197 = .ok (.goto 4, 3) := by decide +kernel
theorem dL_act_200 : decode cL_act 200 = .ok (.iconst 0, 1) := by decide +kernel
theorem dL_act_201 : decode cL_act 201 = .ok (.ireturn, 1) := by decide +kernel
theorem dL_law_0 : decode cL_law 0 = .ok (.new 32, 3) := by decide +kernel
theorem dL_law_3 : decode cL_law 3 = .ok (.dup, 1) := by decide +kernel
theorem dL_law_4 : decode cL_law 4 = .ok (.invokespecial 34, 3) := by decide +kernel
theorem dL_law_7 : decode cL_law 7 = .ok (.astore_n 1, 1) := by decide +kernel
theorem dL_law_8 : decode cL_law 8 = .ok (.aload_n 0, 1) := by decide +kernel
theorem dL_law_9 : decode cL_law 9 = .ok (.iconst 5, 1) := by decide +kernel
theorem dL_law_10 : decode cL_law 10 = .ok (.aload_n 1, 1) := by decide +kernel
theorem dL_law_11 : decode cL_law 11 = .ok (.invokestatic 163, 3) := by decide +kernel
theorem dL_law_14 : decode cL_law 14 = .ok (.astore_n 2, 1) := by decide +kernel
theorem dL_law_15 : decode cL_law 15 = .ok (.new 10, 3) := by decide +kernel
theorem dL_law_18 : decode cL_law 18 = .ok (.dup, 1) := by decide +kernel
theorem dL_law_19 : decode cL_law 19 = .ok (.invokespecial 167, 3) := by decide +kernel
theorem dL_law_22 : decode cL_law 22 = .ok (.astore_n 3, 1) := by decide +kernel
theorem dL_law_23 : decode cL_law 23 = .ok (.aload_n 3, 1) := by decide +kernel
theorem dL_law_24 : decode cL_law 24 = .ok (.aload_n 1, 1) := by decide +kernel
theorem dL_law_25 : decode cL_law 25 = .ok (.invokevirtual 48, 3) := by decide +kernel
theorem dL_law_28 : decode cL_law 28 = .ok (.invokestatic 168, 3) := by decide +kernel
theorem dL_law_31 : decode cL_law 31 = .ok (.ifCond .eq 5, 3) := by decide +kernel
theorem dL_law_34 : decode cL_law 34 = .ok (.iconst 0, 1) := by decide +kernel
theorem dL_law_35 : decode cL_law 35 = .ok (.ireturn, 1) := by decide +kernel
theorem dL_law_36 : decode cL_law 36 = .ok (.iconst 2, 1) := by decide +kernel
theorem dL_law_37 : decode cL_law 37 = .ok (.aload_n 3, 1) := by decide +kernel
theorem dL_law_38 : decode cL_law 38 = .ok (.invokevirtual 172, 3) := by decide +kernel
theorem dL_law_41 : decode cL_law 41 = .ok (.imul, 1) := by decide +kernel
theorem dL_law_42 : decode cL_law 42 = .ok (.istore 4, 2) := by decide +kernel
theorem dL_law_44 : decode cL_law 44 = .ok (.iconst 0, 1) := by decide +kernel
theorem dL_law_45 : decode cL_law 45 = .ok (.istore 5, 2) := by decide +kernel
theorem dL_law_47 : decode cL_law 47 = .ok (.iload 5, 2) := by decide +kernel
theorem dL_law_49 : decode cL_law 49 = .ok (.bipush 6, 2) := by decide +kernel
theorem dL_law_51 : decode cL_law 51 = .ok (.if_icmp .ge 1266, 3) := by decide +kernel
theorem dL_law_54 : decode cL_law 54 = .ok (.aload_n 0, 1) := by decide +kernel
theorem dL_law_55 : decode cL_law 55 = .ok (.iload 5, 2) := by decide +kernel
theorem dL_law_57 : decode cL_law 57 = .ok (.iconst 2, 1) := by decide +kernel
theorem dL_law_58 : decode cL_law 58 = .ok (.iadd, 1) := by decide +kernel
theorem dL_law_59 : decode cL_law 59 = .ok (.invokestatic 103, 3) := by decide +kernel
theorem dL_law_62 : decode cL_law 62 = .ok (.iconst 1, 1) := by decide +kernel
theorem dL_law_63 : decode cL_law 63 = .ok (.ishr, 1) := by decide +kernel
theorem dL_law_64 : decode cL_law 64 = .ok (.bipush 67, 2) := by decide +kernel
theorem dL_law_66 : decode cL_law 66 = .ok (.iload 5, 2) := by decide +kernel
theorem dL_law_68 : decode cL_law 68 = .ok (.imul, 1) := by decide +kernel
theorem dL_law_69 : decode cL_law 69 = .ok (.iadd, 1) := by decide +kernel
theorem dL_law_70 : decode cL_law 70 = .ok (.istore 6, 2) := by decide +kernel
theorem dL_law_72 : decode cL_law 72 = .ok (.aload_n 3, 1) := by decide +kernel
theorem dL_law_73 : decode cL_law 73 = .ok (.aload_n 2, 1) := by decide +kernel
theorem dL_law_74 : decode cL_law 74 = .ok (.iload 6, 2) := by decide +kernel
theorem dL_law_76 : decode cL_law 76 = .ok (.invokestatic 174, 3) := by decide +kernel
theorem dL_law_79 : decode cL_law 79 = .ok (.ifCond .ne 5, 3) := by decide +kernel
theorem dL_law_82 : decode cL_law 82 = .ok (.iconst 0, 1) := by decide +kernel
theorem dL_law_83 : decode cL_law 83 = .ok (.ireturn, 1) := by decide +kernel
theorem dL_law_84 : decode cL_law 84 = .ok (.aload_n 3, 1) := by decide +kernel
theorem dL_law_85 : decode cL_law 85 = .ok (.invokevirtual 178, 3) := by decide +kernel
theorem dL_law_88 : decode cL_law 88 = .ok (.lstore 7, 2) := by decide +kernel
theorem dL_law_90 : decode cL_law 90 = .ok (.aload_n 3, 1) := by decide +kernel
theorem dL_law_91 : decode cL_law 91 = .ok (.invokevirtual 182, 3) := by decide +kernel
theorem dL_law_94 : decode cL_law 94 = .ok (.istore 9, 2) := by decide +kernel
theorem dL_law_96 : decode cL_law 96 = .ok (.iconst 0, 1) := by decide +kernel
theorem dL_law_97 : decode cL_law 97 = .ok (.istore 10, 2) := by decide +kernel
theorem dL_law_99 : decode cL_law 99 = .ok (.iconst 0, 1) := by decide +kernel
theorem dL_law_100 : decode cL_law 100 = .ok (.istore 11, 2) := by decide +kernel
theorem dL_law_102 : decode cL_law 102 = .ok (.iconst 0, 1) := by decide +kernel
theorem dL_law_103 : decode cL_law 103 = .ok (.istore 12, 2) := by decide +kernel
theorem dL_law_105 : decode cL_law 105 = .ok (.iload 12, 2) := by decide +kernel
theorem dL_law_107 : decode cL_law 107 = .ok (.iload 4, 2) := by decide +kernel
theorem dL_law_109 : decode cL_law 109 = .ok (.if_icmp .ge 417, 3) := by decide +kernel
theorem dL_law_112 : decode cL_law 112 = .ok (.iconst 0, 1) := by decide +kernel
theorem dL_law_113 : decode cL_law 113 = .ok (.istore 13, 2) := by decide +kernel
theorem dL_law_115 : decode cL_law 115 = .ok (.iload 10, 2) := by decide +kernel
theorem dL_law_117 : decode cL_law 117 = .ok (.aload_n 3, 1) := by decide +kernel
theorem dL_law_118 : decode cL_law 118 = .ok (.iload 12, 2) := by decide +kernel
theorem dL_law_120 : decode cL_law 120 = .ok (.invokevirtual 185, 3) := by decide +kernel
theorem dL_law_123 : decode cL_law 123 = .ok (.iload 12, 2) := by decide +kernel
theorem dL_law_125 : decode cL_law 125 = .ok (.if_icmp .ne 7, 3) := by decide +kernel
theorem dL_law_128 : decode cL_law 128 = .ok (.iconst 1, 1) := by decide +kernel
theorem dL_law_129 : decode cL_law 129 = .ok (.goto 4, 3) := by decide +kernel
theorem dL_law_132 : decode cL_law 132 = .ok (.iconst 0, 1) := by decide +kernel
theorem dL_law_133 : decode cL_law 133 = .ok (.iadd, 1) := by decide +kernel
theorem dL_law_134 : decode cL_law 134 = .ok (.istore 10, 2) := by decide +kernel
theorem dL_law_136 : decode cL_law 136 = .ok (.iload 11, 2) := by decide +kernel
theorem dL_law_138 : decode cL_law 138 = .ok (.iload 12, 2) := by decide +kernel
theorem dL_law_140 : decode cL_law 140 = .ok (.iconst 2, 1) := by decide +kernel
theorem dL_law_141 : decode cL_law 141 = .ok (.irem, 1) := by decide +kernel
theorem dL_law_142 : decode cL_law 142 = .ok (.ifCond .ne 12, 3) := by decide +kernel
theorem dL_law_145 : decode cL_law 145 = .ok (.aload_n 3, 1) := by decide +kernel
theorem dL_law_146 : decode cL_law 146 = .ok (.iload 12, 2) := by decide +kernel
theorem dL_law_148 : decode cL_law 148 = .ok (.invokevirtual 188, 3) := by decide +kernel
theorem dL_law_151 : decode cL_law 151 = .ok (.goto 4, 3) := by decide +kernel
theorem dL_law_154 : decode cL_law 154 = .ok (.iconst 0, 1) := by decide +kernel
theorem dL_law_155 : decode cL_law 155 = .ok (.iadd, 1) := by decide +kernel
theorem dL_law_156 : decode cL_law 156 = .ok (.istore 11, 2) := by decide +kernel
theorem dL_law_158 : decode cL_law 158 = .ok (.aload_n 3, 1) := by decide +kernel
theorem dL_law_159 : decode cL_law 159 = .ok (.iload 12, 2) := by decide +kernel
theorem dL_law_161 : decode cL_law 161 = .ok (.iload 12, 2) := by decide +kernel
theorem dL_law_163 : decode cL_law 163 = .ok (.invokevirtual 191, 3) := by decide +kernel
theorem dL_law_166 : decode cL_law 166 = .ok (.ifCond .eq 134, 3) := by decide +kernel
theorem dL_law_169 : decode cL_law 169 = .ok (.aload_n 3, 1) := by decide +kernel
theorem dL_law_170 : decode cL_law 170 = .ok (.iload 12, 2) := by decide +kernel
theorem dL_law_172 : decode cL_law 172 = .ok (.iload 12, 2) := by decide +kernel
theorem dL_law_174 : decode cL_law 174 = .ok (.invokevirtual 195, 3) := by decide +kernel
theorem dL_law_177 : decode cL_law 177 = .ok (.ifCond .ne 123, 3) := by decide +kernel
theorem dL_law_180 : decode cL_law 180 = .ok (.aload_n 3, 1) := by decide +kernel
theorem dL_law_181 : decode cL_law 181 = .ok (.iload 12, 2) := by decide +kernel
theorem dL_law_183 : decode cL_law 183 = .ok (.invokevirtual 198, 3) := by decide +kernel
theorem dL_law_186 : decode cL_law 186 = .ok (.aload_n 3, 1) := by decide +kernel
theorem dL_law_187 : decode cL_law 187 = .ok (.iload 12, 2) := by decide +kernel
theorem dL_law_189 : decode cL_law 189 = .ok (.iconst 1, 1) := by decide +kernel
theorem dL_law_190 : decode cL_law 190 = .ok (.ixor, 1) := by decide +kernel
theorem dL_law_191 : decode cL_law 191 = .ok (.invokevirtual 198, 3) := by decide +kernel
theorem dL_law_194 : decode cL_law 194 = .ok (.if_icmp .ne 106, 3) := by decide +kernel
theorem dL_law_197 : decode cL_law 197 = .ok (.aload_n 3, 1) := by decide +kernel
theorem dL_law_198 : decode cL_law 198 = .ok (.aload_n 3, 1) := by decide +kernel
theorem dL_law_199 : decode cL_law 199 = .ok (.iload 12, 2) := by decide +kernel
theorem dL_law_201 : decode cL_law 201 = .ok (.invokevirtual 185, 3) := by decide +kernel
theorem dL_law_204 : decode cL_law 204 = .ok (.invokevirtual 185, 3) := by decide +kernel
theorem dL_law_207 : decode cL_law 207 = .ok (.aload_n 3, 1) := by decide +kernel
theorem dL_law_208 : decode cL_law 208 = .ok (.iload 12, 2) := by decide +kernel
theorem dL_law_210 : decode cL_law 210 = .ok (.invokevirtual 185, 3) := by decide +kernel
theorem dL_law_213 : decode cL_law 213 = .ok (.if_icmp .ne 87, 3) := by decide +kernel
theorem dL_law_216 : decode cL_law 216 = .ok (.aload_n 3, 1) := by decide +kernel
theorem dL_law_217 : decode cL_law 217 = .ok (.iload 12, 2) := by decide +kernel
theorem dL_law_219 : decode cL_law 219 = .ok (.invokevirtual 185, 3) := by decide +kernel
theorem dL_law_222 : decode cL_law 222 = .ok (.iload 12, 2) := by decide +kernel
theorem dL_law_224 : decode cL_law 224 = .ok (.if_icmp .gt 76, 3) := by decide +kernel
theorem dL_law_227 : decode cL_law 227 = .ok (.aload_n 3, 1) := by decide +kernel
theorem dL_law_228 : decode cL_law 228 = .ok (.iload 12, 2) := by decide +kernel
theorem dL_law_230 : decode cL_law 230 = .ok (.invokevirtual 188, 3) := by decide +kernel
theorem dL_law_233 : decode cL_law 233 = .ok (.aload_n 3, 1) := by decide +kernel
theorem dL_law_234 : decode cL_law 234 = .ok (.iload 12, 2) := by decide +kernel
theorem dL_law_236 : decode cL_law 236 = .ok (.iconst 1, 1) := by decide +kernel
theorem dL_law_237 : decode cL_law 237 = .ok (.ixor, 1) := by decide +kernel
theorem dL_law_238 : decode cL_law 238 = .ok (.invokevirtual 188, 3) := by decide +kernel
theorem dL_law_241 : decode cL_law 241 = .ok (.iadd, 1) := by decide +kernel
theorem dL_law_242 : decode cL_law 242 = .ok (.iload 9, 2) := by decide +kernel
theorem dL_law_244 : decode cL_law 244 = .ok (.if_icmp .ne 56, 3) := by decide +kernel
theorem dL_law_247 : decode cL_law 247 = .ok (.aload_n 3, 1) := by decide +kernel
theorem dL_law_248 : decode cL_law 248 = .ok (.iload 12, 2) := by decide +kernel
theorem dL_law_250 : decode cL_law 250 = .ok (.invokevirtual 201, 3) := by decide +kernel
theorem dL_law_253 : decode cL_law 253 = .ok (.aload_n 3, 1) := by decide +kernel
theorem dL_law_254 : decode cL_law 254 = .ok (.iload 12, 2) := by decide +kernel
theorem dL_law_256 : decode cL_law 256 = .ok (.invokevirtual 188, 3) := by decide +kernel
theorem dL_law_259 : decode cL_law 259 = .ok (.ifCond .le 7, 3) := by decide +kernel
theorem dL_law_262 : decode cL_law 262 = .ok (.iconst 1, 1) := by decide +kernel
theorem dL_law_263 : decode cL_law 263 = .ok (.goto 4, 3) := by decide +kernel
theorem dL_law_266 : decode cL_law 266 = .ok (.iconst 0, 1) := by decide +kernel
theorem dL_law_267 : decode cL_law 267 = .ok (.if_icmp .ne 33, 3) := by decide +kernel
theorem dL_law_270 : decode cL_law 270 = .ok (.iload 9, 2) := by decide +kernel
theorem dL_law_272 : decode cL_law 272 = .ok (.ifCond .le 30, 3) := by decide +kernel
theorem dL_law_275 : decode cL_law 275 = .ok (.aload_n 3, 1) := by decide +kernel
theorem dL_law_276 : decode cL_law 276 = .ok (.iload 12, 2) := by decide +kernel
theorem dL_law_278 : decode cL_law 278 = .ok (.invokevirtual 205, 3) := by decide +kernel
theorem dL_law_281 : decode cL_law 281 = .ok (.aload_n 3, 1) := by decide +kernel
theorem dL_law_282 : decode cL_law 282 = .ok (.iload 12, 2) := by decide +kernel
theorem dL_law_284 : decode cL_law 284 = .ok (.invokevirtual 188, 3) := by decide +kernel
theorem dL_law_287 : decode cL_law 287 = .ok (.iload 9, 2) := by decide +kernel
theorem dL_law_289 : decode cL_law 289 = .ok (.if_icmp .ne 7, 3) := by decide +kernel
theorem dL_law_292 : decode cL_law 292 = .ok (.iconst 1, 1) := by decide +kernel
theorem dL_law_293 : decode cL_law 293 = .ok (.goto 4, 3) := by decide +kernel
theorem dL_law_296 : decode cL_law 296 = .ok (.iconst 0, 1) := by decide +kernel
theorem dL_law_297 : decode cL_law 297 = .ok (.if_icmp .eq 5, 3) := by decide +kernel
theorem dL_law_300 : decode cL_law 300 = .ok (.iconst 0, 1) := by decide +kernel
theorem dL_law_301 : decode cL_law 301 = .ok (.ireturn, 1) := by decide +kernel
theorem dL_law_302 : decode cL_law 302 = .ok (.iconst 0, 1) := by decide +kernel
theorem dL_law_303 : decode cL_law 303 = .ok (.istore 14, 2) := by decide +kernel
theorem dL_law_305 : decode cL_law 305 = .ok (.iload 14, 2) := by decide +kernel
theorem dL_law_307 : decode cL_law 307 = .ok (.iload 4, 2) := by decide +kernel
theorem dL_law_309 : decode cL_law 309 = .ok (.if_icmp .ge 198, 3) := by decide +kernel
theorem dL_law_312 : decode cL_law 312 = .ok (.aload_n 3, 1) := by decide +kernel
theorem dL_law_313 : decode cL_law 313 = .ok (.iload 14, 2) := by decide +kernel
theorem dL_law_315 : decode cL_law 315 = .ok (.iload 12, 2) := by decide +kernel
theorem dL_law_317 : decode cL_law 317 = .ok (.invokevirtual 191, 3) := by decide +kernel
theorem dL_law_320 : decode cL_law 320 = .ok (.istore 15, 2) := by decide +kernel
theorem dL_law_322 : decode cL_law 322 = .ok (.iload 13, 2) := by decide +kernel
theorem dL_law_324 : decode cL_law 324 = .ok (.iload 15, 2) := by decide +kernel
theorem dL_law_326 : decode cL_law 326 = .ok (.ifCond .eq 7, 3) := by decide +kernel
theorem dL_law_329 : decode cL_law 329 = .ok (.iconst 1, 1) := by decide +kernel
theorem dL_law_330 : decode cL_law 330 = .ok (.goto 4, 3) := by decide +kernel
theorem dL_law_333 : decode cL_law 333 = .ok (.iconst 0, 1) := by decide +kernel
theorem dL_law_334 : decode cL_law 334 = .ok (.iadd, 1) := by decide +kernel
theorem dL_law_335 : decode cL_law 335 = .ok (.istore 13, 2) := by decide +kernel
theorem dL_law_337 : decode cL_law 337 = .ok (.iload 15, 2) := by decide +kernel
theorem dL_law_339 : decode cL_law 339 = .ok (.aload_n 3, 1) := by decide +kernel
theorem dL_law_340 : decode cL_law 340 = .ok (.iload 12, 2) := by decide +kernel
theorem dL_law_342 : decode cL_law 342 = .ok (.iconst 1, 1) := by decide +kernel
theorem dL_law_343 : decode cL_law 343 = .ok (.ixor, 1) := by decide +kernel
theorem dL_law_344 : decode cL_law 344 = .ok (.iload 14, 2) := by decide +kernel
theorem dL_law_346 : decode cL_law 346 = .ok (.iconst 1, 1) := by decide +kernel
theorem dL_law_347 : decode cL_law 347 = .ok (.ixor, 1) := by decide +kernel
theorem dL_law_348 : decode cL_law 348 = .ok (.invokevirtual 191, 3) := by decide +kernel
theorem dL_law_351 : decode cL_law 351 = .ok (.if_icmp .ne 47, 3) := by decide +kernel
theorem dL_law_354 : decode cL_law 354 = .ok (.aload_n 3, 1) := by decide +kernel
theorem dL_law_355 : decode cL_law 355 = .ok (.iload 14, 2) := by decide +kernel
theorem dL_law_357 : decode cL_law 357 = .ok (.invokevirtual 185, 3) := by decide +kernel
theorem dL_law_360 : decode cL_law 360 = .ok (.aload_n 3, 1) := by decide +kernel
theorem dL_law_361 : decode cL_law 361 = .ok (.iload 12, 2) := by decide +kernel
theorem dL_law_363 : decode cL_law 363 = .ok (.invokevirtual 185, 3) := by decide +kernel
theorem dL_law_366 : decode cL_law 366 = .ok (.if_icmp .ne 7, 3) := by decide +kernel
theorem dL_law_369 : decode cL_law 369 = .ok (.iconst 1, 1) := by decide +kernel
theorem dL_law_370 : decode cL_law 370 = .ok (.goto 4, 3) := by decide +kernel
theorem dL_law_373 : decode cL_law 373 = .ok (.iconst 0, 1) := by decide +kernel
theorem dL_law_374 : decode cL_law 374 = .ok (.iload 15, 2) := by decide +kernel
theorem dL_law_376 : decode cL_law 376 = .ok (.ifCond .eq 18, 3) := by decide +kernel
theorem dL_law_379 : decode cL_law 379 = .ok (.aload_n 3, 1) := by decide +kernel
theorem dL_law_380 : decode cL_law 380 = .ok (.iload 12, 2) := by decide +kernel
theorem dL_law_382 : decode cL_law 382 = .ok (.iload 14, 2) := by decide +kernel
theorem dL_law_384 : decode cL_law 384 = .ok (.invokevirtual 191, 3) := by decide +kernel
theorem dL_law_387 : decode cL_law 387 = .ok (.ifCond .eq 7, 3) := by decide +kernel
theorem dL_law_390 : decode cL_law 390 = .ok (.iconst 1, 1) := by decide +kernel
theorem dL_law_391 : decode cL_law 391 = .ok (.goto 4, 3) := by decide +kernel
theorem dL_law_394 : decode cL_law 394 = .ok (.iconst 0, 1) := by decide +kernel
theorem dL_law_395 : decode cL_law 395 = .ok (.if_icmp .eq 5, 3) := by decide +kernel
theorem dL_law_398 : decode cL_law 398 = .ok (.iconst 0, 1) := by decide +kernel
theorem dL_law_399 : decode cL_law 399 = .ok (.ireturn, 1) := by decide +kernel
theorem dL_law_400 : decode cL_law 400 = .ok (.iload 15, 2) := by decide +kernel
theorem dL_law_402 : decode cL_law 402 = .ok (.ifCond .ne 6, 3) := by decide +kernel
theorem dL_law_405 : decode cL_law 405 = .ok (.goto 96, 3) := by decide +kernel
theorem dL_law_408 : decode cL_law 408 = .ok (.aload_n 3, 1) := by decide +kernel
theorem dL_law_409 : decode cL_law 409 = .ok (.iload 14, 2) := by decide +kernel
theorem dL_law_411 : decode cL_law 411 = .ok (.invokevirtual 188, 3) := by decide +kernel
theorem dL_law_414 : decode cL_law 414 = .ok (.aload_n 3, 1) := by decide +kernel
theorem dL_law_415 : decode cL_law 415 = .ok (.iload 12, 2) := by decide +kernel
theorem dL_law_417 : decode cL_law 417 = .ok (.invokevirtual 188, 3) := by decide +kernel
theorem dL_law_420 : decode cL_law 420 = .ok (.if_icmp .lt 39, 3) := by decide +kernel
theorem dL_law_423 : decode cL_law 423 = .ok (.aload_n 3, 1) := by decide +kernel
theorem dL_law_424 : decode cL_law 424 = .ok (.iload 14, 2) := by decide +kernel
theorem dL_law_426 : decode cL_law 426 = .ok (.iload 12, 2) := by decide +kernel
theorem dL_law_428 : decode cL_law 428 = .ok (.invokevirtual 195, 3) := by decide +kernel
theorem dL_law_431 : decode cL_law 431 = .ok (.aload_n 3, 1) := by decide +kernel
theorem dL_law_432 : decode cL_law 432 = .ok (.iload 12, 2) := by decide +kernel
theorem dL_law_434 : decode cL_law 434 = .ok (.iconst 1, 1) := by decide +kernel
theorem dL_law_435 : decode cL_law 435 = .ok (.ixor, 1) := by decide +kernel
theorem dL_law_436 : decode cL_law 436 = .ok (.iload 14, 2) := by decide +kernel
theorem dL_law_438 : decode cL_law 438 = .ok (.iconst 1, 1) := by decide +kernel
theorem dL_law_439 : decode cL_law 439 = .ok (.ixor, 1) := by decide +kernel
theorem dL_law_440 : decode cL_law 440 = .ok (.invokevirtual 195, 3) := by decide +kernel
theorem dL_law_443 : decode cL_law 443 = .ok (.if_icmp .ne 16, 3) := by decide +kernel
theorem dL_law_446 : decode cL_law 446 = .ok (.aload_n 3, 1) := by decide +kernel
theorem dL_law_447 : decode cL_law 447 = .ok (.iload 14, 2) := by decide +kernel
theorem dL_law_449 : decode cL_law 449 = .ok (.iload 12, 2) := by decide +kernel
theorem dL_law_451 : decode cL_law 451 = .ok (.invokevirtual 195, 3) := by decide +kernel
theorem dL_law_454 : decode cL_law 454 = .ok (.iload 4, 2) := by decide +kernel
theorem dL_law_456 : decode cL_law 456 = .ok (.if_icmp .lt 5, 3) := by decide +kernel
theorem dL_law_459 : decode cL_law 459 = .ok (.iconst 0, 1) := by decide +kernel
theorem dL_law_460 : decode cL_law 460 = .ok (.ireturn, 1) := by decide +kernel
theorem dL_law_461 : decode cL_law 461 = .ok (.iconst 0, 1) := by decide +kernel
theorem dL_law_462 : decode cL_law 462 = .ok (.istore 16, 2) := by decide +kernel
theorem dL_law_464 : decode cL_law 464 = .ok (.iload 16, 2) := by decide +kernel
theorem dL_law_466 : decode cL_law 466 = .ok (.iload 4, 2) := by decide +kernel
theorem dL_law_468 : decode cL_law 468 = .ok (.if_icmp .ge 33, 3) := by decide +kernel
theorem dL_law_471 : decode cL_law 471 = .ok (.aload_n 3, 1) := by decide +kernel
theorem dL_law_472 : decode cL_law 472 = .ok (.iload 16, 2) := by decide +kernel
theorem dL_law_474 : decode cL_law 474 = .ok (.iload 14, 2) := by decide +kernel
theorem dL_law_476 : decode cL_law 476 = .ok (.invokevirtual 191, 3) := by decide +kernel
theorem dL_law_479 : decode cL_law 479 = .ok (.ifCond .eq 16, 3) := by decide +kernel
theorem dL_law_482 : decode cL_law 482 = .ok (.aload_n 3, 1) := by decide +kernel
theorem dL_law_483 : decode cL_law 483 = .ok (.iload 16, 2) := by decide +kernel
theorem dL_law_485 : decode cL_law 485 = .ok (.iload 12, 2) := by decide +kernel
theorem dL_law_487 : decode cL_law 487 = .ok (.invokevirtual 191, 3) := by decide +kernel
theorem dL_law_490 : decode cL_law 490 = .ok (.ifCond .ne 5, 3) := by decide +kernel
theorem dL_law_493 : decode cL_law 493 = .ok (.iconst 0, 1) := by decide +kernel
theorem dL_law_494 : decode cL_law 494 = .ok (.ireturn, 1) := by decide +kernel
theorem dL_law_495 : decode cL_law 495 = .ok (.iinc 16 1, 3) := by decide +kernel
theorem dL_law_498 : decode cL_law 498 = .ok (.goto (-34), 3) := by decide +kernel
theorem dL_law_501 : decode cL_law 501 = .ok (.iinc 14 1, 3) := by decide +kernel
theorem dL_law_504 : decode cL_law 504 = .ok (.goto (-199), 3) := by decide +kernel
theorem dL_law_507 : decode cL_law 507 = .ok (.iload 13, 2) := by decide +kernel
theorem dL_law_509 : decode cL_law 509 = .ok (.aload_n 3, 1) := by decide +kernel
theorem dL_law_510 : decode cL_law 510 = .ok (.iload 12, 2) := by decide +kernel
theorem dL_law_512 : decode cL_law 512 = .ok (.invokevirtual 208, 3) := by decide +kernel
theorem dL_law_515 : decode cL_law 515 = .ok (.if_icmp .eq 5, 3) := by decide +kernel
theorem dL_law_518 : decode cL_law 518 = .ok (.iconst 0, 1) := by decide +kernel
theorem dL_law_519 : decode cL_law 519 = .ok (.ireturn, 1) := by decide +kernel
theorem dL_law_520 : decode cL_law 520 = .ok (.iinc 12 1, 3) := by decide +kernel
theorem dL_law_523 : decode cL_law 523 = .ok (.goto (-418), 3) := by decide +kernel
theorem dL_law_526 : decode cL_law 526 = .ok (.iload 10, 2) := by decide +kernel
theorem dL_law_528 : decode cL_law 528 = .ok (.aload_n 3, 1) := by decide +kernel
theorem dL_law_529 : decode cL_law 529 = .ok (.invokevirtual 211, 3) := by decide +kernel
theorem dL_law_532 : decode cL_law 532 = .ok (.if_icmp .ne 55, 3) := by decide +kernel
theorem dL_law_535 : decode cL_law 535 = .ok (.aload_n 3, 1) := by decide +kernel
theorem dL_law_536 : decode cL_law 536 = .ok (.invokevirtual 214, 3) := by decide +kernel
theorem dL_law_539 : decode cL_law 539 = .ok (.iload 9, 2) := by decide +kernel
theorem dL_law_541 : decode cL_law 541 = .ok (.ifCond .le 7, 3) := by decide +kernel
theorem dL_law_544 : decode cL_law 544 = .ok (.iconst 1, 1) := by decide +kernel
theorem dL_law_545 : decode cL_law 545 = .ok (.goto 4, 3) := by decide +kernel
theorem dL_law_548 : decode cL_law 548 = .ok (.iconst 0, 1) := by decide +kernel
theorem dL_law_549 : decode cL_law 549 = .ok (.if_icmp .ne 38, 3) := by decide +kernel
theorem dL_law_552 : decode cL_law 552 = .ok (.aload_n 3, 1) := by decide +kernel
theorem dL_law_553 : decode cL_law 553 = .ok (.invokevirtual 218, 3) := by decide +kernel
theorem dL_law_556 : decode cL_law 556 = .ok (.iload 9, 2) := by decide +kernel
theorem dL_law_558 : decode cL_law 558 = .ok (.ifCond .ne 7, 3) := by decide +kernel
theorem dL_law_561 : decode cL_law 561 = .ok (.dconst 0, 1) := by decide +kernel
theorem dL_law_562 : decode cL_law 562 = .ok (.goto 10, 3) := by decide +kernel
theorem dL_law_565 : decode cL_law 565 = .ok (.iload 11, 2) := by decide +kernel
theorem dL_law_567 : decode cL_law 567 = .ok (.i2d, 1) := by decide +kernel
theorem dL_law_568 : decode cL_law 568 = .ok (.iload 9, 2) := by decide +kernel
theorem dL_law_570 : decode cL_law 570 = .ok (.i2d, 1) := by decide +kernel
theorem dL_law_571 : decode cL_law 571 = .ok (.ddiv, 1) := by decide +kernel
theorem dL_law_572 : decode cL_law 572 = .ok (.dcmp .l, 1) := by decide +kernel
theorem dL_law_573 : decode cL_law 573 = .ok (.ifCond .ne 14, 3) := by decide +kernel
theorem dL_law_576 : decode cL_law 576 = .ok (.iload 9, 2) := by decide +kernel
theorem dL_law_578 : decode cL_law 578 = .ok (.iconst 1, 1) := by decide +kernel
theorem dL_law_579 : decode cL_law 579 = .ok (.aload_n 3, 1) := by decide +kernel
theorem dL_law_580 : decode cL_law 580 = .ok (.invokevirtual 172, 3) := by decide +kernel
theorem dL_law_583 : decode cL_law 583 = .ok (.ishl, 1) := by decide +kernel
theorem dL_law_584 : decode cL_law 584 = .ok (.if_icmp .le 5, 3) := by decide +kernel
theorem dL_law_587 : decode cL_law 587 = .ok (.iconst 0, 1) := by decide +kernel
theorem dL_law_588 : decode cL_law 588 = .ok (.ireturn, 1) := by decide +kernel
theorem dL_law_589 : decode cL_law 589 = .ok (.iload 9, 2) := by decide +kernel
theorem dL_law_591 : decode cL_law 591 = .ok (.ifCond .le 338, 3) := by decide +kernel
theorem dL_law_594 : decode cL_law 594 = .ok (.iconst 0, 1) := by decide +kernel
theorem dL_law_595 : decode cL_law 595 = .ok (.istore 12, 2) := by decide +kernel
theorem dL_law_597 : decode cL_law 597 = .ok (.iconst 0, 1) := by decide +kernel
theorem dL_law_598 : decode cL_law 598 = .ok (.istore 13, 2) := by decide +kernel
theorem dL_law_600 : decode cL_law 600 = .ok (.iload 13, 2) := by decide +kernel
theorem dL_law_602 : decode cL_law 602 = .ok (.aload_n 3, 1) := by decide +kernel
theorem dL_law_603 : decode cL_law 603 = .ok (.invokevirtual 172, 3) := by decide +kernel
theorem dL_law_606 : decode cL_law 606 = .ok (.if_icmp .ge 28, 3) := by decide +kernel
theorem dL_law_609 : decode cL_law 609 = .ok (.iload 12, 2) := by decide +kernel
theorem dL_law_611 : decode cL_law 611 = .ok (.aload_n 3, 1) := by decide +kernel
theorem dL_law_612 : decode cL_law 612 = .ok (.iload 13, 2) := by decide +kernel
theorem dL_law_614 : decode cL_law 614 = .ok (.invokevirtual 222, 3) := by decide +kernel
theorem dL_law_617 : decode cL_law 617 = .ok (.ifCond .eq 7, 3) := by decide +kernel
theorem dL_law_620 : decode cL_law 620 = .ok (.iconst 1, 1) := by decide +kernel
theorem dL_law_621 : decode cL_law 621 = .ok (.goto 4, 3) := by decide +kernel
theorem dL_law_624 : decode cL_law 624 = .ok (.iconst 0, 1) := by decide +kernel
theorem dL_law_625 : decode cL_law 625 = .ok (.iadd, 1) := by decide +kernel
theorem dL_law_626 : decode cL_law 626 = .ok (.istore 12, 2) := by decide +kernel
theorem dL_law_628 : decode cL_law 628 = .ok (.iinc 13 1, 3) := by decide +kernel
theorem dL_law_631 : decode cL_law 631 = .ok (.goto (-31), 3) := by decide +kernel
theorem dL_law_634 : decode cL_law 634 = .ok (.iconst 0, 1) := by decide +kernel
theorem dL_law_635 : decode cL_law 635 = .ok (.istore 13, 2) := by decide +kernel
theorem dL_law_637 : decode cL_law 637 = .ok (.iload 13, 2) := by decide +kernel
theorem dL_law_639 : decode cL_law 639 = .ok (.aload_n 3, 1) := by decide +kernel
theorem dL_law_640 : decode cL_law 640 = .ok (.invokevirtual 225, 3) := by decide +kernel
theorem dL_law_643 : decode cL_law 643 = .ok (.if_icmp .ge 165, 3) := by decide +kernel
theorem dL_law_646 : decode cL_law 646 = .ok (.aload_n 3, 1) := by decide +kernel
theorem dL_law_647 : decode cL_law 647 = .ok (.aload_n 3, 1) := by decide +kernel
theorem dL_law_648 : decode cL_law 648 = .ok (.iload 13, 2) := by decide +kernel
theorem dL_law_650 : decode cL_law 650 = .ok (.invokevirtual 227, 3) := by decide +kernel
theorem dL_law_653 : decode cL_law 653 = .ok (.iconst 2, 1) := by decide +kernel
theorem dL_law_654 : decode cL_law 654 = .ok (.idiv, 1) := by decide +kernel
theorem dL_law_655 : decode cL_law 655 = .ok (.invokevirtual 222, 3) := by decide +kernel
theorem dL_law_658 : decode cL_law 658 = .ok (.aload_n 3, 1) := by decide +kernel
theorem dL_law_659 : decode cL_law 659 = .ok (.iload 13, 2) := by decide +kernel
theorem dL_law_661 : decode cL_law 661 = .ok (.invokevirtual 227, 3) := by decide +kernel
theorem dL_law_664 : decode cL_law 664 = .ok (.iconst 2, 1) := by decide +kernel
theorem dL_law_665 : decode cL_law 665 = .ok (.irem, 1) := by decide +kernel
theorem dL_law_666 : decode cL_law 666 = .ok (.ifCond .ne 7, 3) := by decide +kernel
theorem dL_law_669 : decode cL_law 669 = .ok (.iconst 1, 1) := by decide +kernel
theorem dL_law_670 : decode cL_law 670 = .ok (.goto 4, 3) := by decide +kernel
theorem dL_law_673 : decode cL_law 673 = .ok (.iconst 0, 1) := by decide +kernel
theorem dL_law_674 : decode cL_law 674 = .ok (.if_icmp .ne 7, 3) := by decide +kernel
theorem dL_law_677 : decode cL_law 677 = .ok (.iconst 1, 1) := by decide +kernel
theorem dL_law_678 : decode cL_law 678 = .ok (.goto 4, 3) := by decide +kernel
theorem dL_law_681 : decode cL_law 681 = .ok (.iconst 0, 1) := by decide +kernel
theorem dL_law_682 : decode cL_law 682 = .ok (.istore 14, 2) := by decide +kernel
theorem dL_law_684 : decode cL_law 684 = .ok (.aload_n 3, 1) := by decide +kernel
theorem dL_law_685 : decode cL_law 685 = .ok (.aload_n 3, 1) := by decide +kernel
theorem dL_law_686 : decode cL_law 686 = .ok (.iload 13, 2) := by decide +kernel
theorem dL_law_688 : decode cL_law 688 = .ok (.invokevirtual 230, 3) := by decide +kernel
theorem dL_law_691 : decode cL_law 691 = .ok (.iconst 2, 1) := by decide +kernel
theorem dL_law_692 : decode cL_law 692 = .ok (.idiv, 1) := by decide +kernel
theorem dL_law_693 : decode cL_law 693 = .ok (.invokevirtual 222, 3) := by decide +kernel
theorem dL_law_696 : decode cL_law 696 = .ok (.aload_n 3, 1) := by decide +kernel
theorem dL_law_697 : decode cL_law 697 = .ok (.iload 13, 2) := by decide +kernel
theorem dL_law_699 : decode cL_law 699 = .ok (.invokevirtual 230, 3) := by decide +kernel
theorem dL_law_702 : decode cL_law 702 = .ok (.iconst 2, 1) := by decide +kernel
theorem dL_law_703 : decode cL_law 703 = .ok (.irem, 1) := by decide +kernel
theorem dL_law_704 : decode cL_law 704 = .ok (.ifCond .ne 7, 3) := by decide +kernel
theorem dL_law_707 : decode cL_law 707 = .ok (.iconst 1, 1) := by decide +kernel
theorem dL_law_708 : decode cL_law 708 = .ok (.goto 4, 3) := by decide +kernel
theorem dL_law_711 : decode cL_law 711 = .ok (.iconst 0, 1) := by decide +kernel
theorem dL_law_712 : decode cL_law 712 = .ok (.if_icmp .ne 7, 3) := by decide +kernel
theorem dL_law_715 : decode cL_law 715 = .ok (.iconst 1, 1) := by decide +kernel
theorem dL_law_716 : decode cL_law 716 = .ok (.goto 4, 3) := by decide +kernel
theorem dL_law_719 : decode cL_law 719 = .ok (.iconst 0, 1) := by decide +kernel
theorem dL_law_720 : decode cL_law 720 = .ok (.istore 15, 2) := by decide +kernel
theorem dL_law_722 : decode cL_law 722 = .ok (.aload_n 3, 1) := by decide +kernel
theorem dL_law_723 : decode cL_law 723 = .ok (.iload 13, 2) := by decide +kernel
theorem dL_law_725 : decode cL_law 725 = .ok (.invokevirtual 233, 3) := by decide +kernel
theorem dL_law_728 : decode cL_law 728 = .ok (.istore 16, 2) := by decide +kernel
theorem dL_law_730 : decode cL_law 730 = .ok (.aload_n 3, 1) := by decide +kernel
theorem dL_law_731 : decode cL_law 731 = .ok (.iload 13, 2) := by decide +kernel
theorem dL_law_733 : decode cL_law 733 = .ok (.invokevirtual 236, 3) := by decide +kernel
theorem dL_law_736 : decode cL_law 736 = .ok (.ifCond .eq 66, 3) := by decide +kernel
theorem dL_law_739 : decode cL_law 739 = .ok (.iload 16, 2) := by decide +kernel
theorem dL_law_741 : decode cL_law 741 = .ok (.ifCond .ne 16, 3) := by decide +kernel
theorem dL_law_744 : decode cL_law 744 = .ok (.iload 14, 2) := by decide +kernel
theorem dL_law_746 : decode cL_law 746 = .ok (.ifCond .eq 56, 3) := by decide +kernel
theorem dL_law_749 : decode cL_law 749 = .ok (.iload 15, 2) := by decide +kernel
theorem dL_law_751 : decode cL_law 751 = .ok (.ifCond .eq 49, 3) := by decide +kernel
theorem dL_law_754 : decode cL_law 754 = .ok (.goto 48, 3) := by decide +kernel
theorem dL_law_757 : decode cL_law 757 = .ok (.iload 16, 2) := by decide +kernel
theorem dL_law_759 : decode cL_law 759 = .ok (.iconst 1, 1) := by decide +kernel
theorem dL_law_760 : decode cL_law 760 = .ok (.if_icmp .ne 16, 3) := by decide +kernel
theorem dL_law_763 : decode cL_law 763 = .ok (.iload 14, 2) := by decide +kernel
theorem dL_law_765 : decode cL_law 765 = .ok (.ifCond .ne 37, 3) := by decide +kernel
theorem dL_law_768 : decode cL_law 768 = .ok (.iload 15, 2) := by decide +kernel
theorem dL_law_770 : decode cL_law 770 = .ok (.ifCond .eq 30, 3) := by decide +kernel
theorem dL_law_773 : decode cL_law 773 = .ok (.goto 29, 3) := by decide +kernel
theorem dL_law_776 : decode cL_law 776 = .ok (.iload 16, 2) := by decide +kernel
theorem dL_law_778 : decode cL_law 778 = .ok (.iconst 2, 1) := by decide +kernel
theorem dL_law_779 : decode cL_law 779 = .ok (.if_icmp .ne 16, 3) := by decide +kernel
theorem dL_law_782 : decode cL_law 782 = .ok (.iload 14, 2) := by decide +kernel
theorem dL_law_784 : decode cL_law 784 = .ok (.ifCond .eq 18, 3) := by decide +kernel
theorem dL_law_787 : decode cL_law 787 = .ok (.iload 15, 2) := by decide +kernel
theorem dL_law_789 : decode cL_law 789 = .ok (.ifCond .ne 11, 3) := by decide +kernel
theorem dL_law_792 : decode cL_law 792 = .ok (.goto 10, 3) := by decide +kernel
theorem dL_law_795 : decode cL_law 795 = .ok (.iload 14, 2) := by decide +kernel
theorem dL_law_797 : decode cL_law 797 = .ok (.ifCond .ne 5, 3) := by decide +kernel
theorem dL_law_800 : decode cL_law 800 = .ok (.iconst 0, 1) := by decide +kernel
theorem dL_law_801 : decode cL_law 801 = .ok (.ireturn, 1) := by decide +kernel
theorem dL_law_802 : decode cL_law 802 = .ok (.iinc 13 1, 3) := by decide +kernel
theorem dL_law_805 : decode cL_law 805 = .ok (.goto (-168), 3) := by decide +kernel
theorem dL_law_808 : decode cL_law 808 = .ok (.aload_n 3, 1) := by decide +kernel
theorem dL_law_809 : decode cL_law 809 = .ok (.invokevirtual 239, 3) := by decide +kernel
theorem dL_law_812 : decode cL_law 812 = .ok (.istore 13, 2) := by decide +kernel
theorem dL_law_814 : decode cL_law 814 = .ok (.iload 12, 2) := by decide +kernel
theorem dL_law_816 : decode cL_law 816 = .ok (.aload_n 3, 1) := by decide +kernel
theorem dL_law_817 : decode cL_law 817 = .ok (.invokevirtual 242, 3) := by decide +kernel
theorem dL_law_820 : decode cL_law 820 = .ok (.if_icmp .ne 40, 3) := by decide +kernel
theorem dL_law_823 : decode cL_law 823 = .ok (.aload_n 3, 1) := by decide +kernel
theorem dL_law_824 : decode cL_law 824 = .ok (.iconst 0, 1) := by decide +kernel
theorem dL_law_825 : decode cL_law 825 = .ok (.invokevirtual 222, 3) := by decide +kernel
theorem dL_law_828 : decode cL_law 828 = .ok (.aload_n 3, 1) := by decide +kernel
theorem dL_law_829 : decode cL_law 829 = .ok (.iconst 0, 1) := by decide +kernel
theorem dL_law_830 : decode cL_law 830 = .ok (.invokevirtual 201, 3) := by decide +kernel
theorem dL_law_833 : decode cL_law 833 = .ok (.if_icmp .ne 27, 3) := by decide +kernel
theorem dL_law_836 : decode cL_law 836 = .ok (.aload_n 3, 1) := by decide +kernel
theorem dL_law_837 : decode cL_law 837 = .ok (.iload 13, 2) := by decide +kernel
theorem dL_law_839 : decode cL_law 839 = .ok (.invokevirtual 188, 3) := by decide +kernel
theorem dL_law_842 : decode cL_law 842 = .ok (.iconst 1, 1) := by decide +kernel
theorem dL_law_843 : decode cL_law 843 = .ok (.if_icmp .lt 17, 3) := by decide +kernel
theorem dL_law_846 : decode cL_law 846 = .ok (.aload_n 3, 1) := by decide +kernel
theorem dL_law_847 : decode cL_law 847 = .ok (.invokevirtual 245, 3) := by decide +kernel
theorem dL_law_850 : decode cL_law 850 = .ok (.ifCond .ne 10, 3) := by decide +kernel
theorem dL_law_853 : decode cL_law 853 = .ok (.aload_n 3, 1) := by decide +kernel
theorem dL_law_854 : decode cL_law 854 = .ok (.invokevirtual 248, 3) := by decide +kernel
theorem dL_law_857 : decode cL_law 857 = .ok (.ifCond .eq 5, 3) := by decide +kernel
theorem dL_law_860 : decode cL_law 860 = .ok (.iconst 0, 1) := by decide +kernel
theorem dL_law_861 : decode cL_law 861 = .ok (.ireturn, 1) := by decide +kernel
theorem dL_law_862 : decode cL_law 862 = .ok (.iconst 0, 1) := by decide +kernel
theorem dL_law_863 : decode cL_law 863 = .ok (.istore 14, 2) := by decide +kernel
theorem dL_law_865 : decode cL_law 865 = .ok (.iload 14, 2) := by decide +kernel
theorem dL_law_867 : decode cL_law 867 = .ok (.iload 4, 2) := by decide +kernel
theorem dL_law_869 : decode cL_law 869 = .ok (.if_icmp .ge 57, 3) := by decide +kernel
theorem dL_law_872 : decode cL_law 872 = .ok (.aload_n 3, 1) := by decide +kernel
theorem dL_law_873 : decode cL_law 873 = .ok (.iload 14, 2) := by decide +kernel
theorem dL_law_875 : decode cL_law 875 = .ok (.invokevirtual 188, 3) := by decide +kernel
theorem dL_law_878 : decode cL_law 878 = .ok (.ifCond .le 42, 3) := by decide +kernel
theorem dL_law_881 : decode cL_law 881 = .ok (.aload_n 3, 1) := by decide +kernel
theorem dL_law_882 : decode cL_law 882 = .ok (.iload 14, 2) := by decide +kernel
theorem dL_law_884 : decode cL_law 884 = .ok (.invokevirtual 188, 3) := by decide +kernel
theorem dL_law_887 : decode cL_law 887 = .ok (.aload_n 3, 1) := by decide +kernel
theorem dL_law_888 : decode cL_law 888 = .ok (.iload 13, 2) := by decide +kernel
theorem dL_law_890 : decode cL_law 890 = .ok (.invokevirtual 188, 3) := by decide +kernel
theorem dL_law_893 : decode cL_law 893 = .ok (.if_icmp .lt 25, 3) := by decide +kernel
theorem dL_law_896 : decode cL_law 896 = .ok (.iload 14, 2) := by decide +kernel
theorem dL_law_898 : decode cL_law 898 = .ok (.iload 13, 2) := by decide +kernel
theorem dL_law_900 : decode cL_law 900 = .ok (.if_icmp .ge 20, 3) := by decide +kernel
theorem dL_law_903 : decode cL_law 903 = .ok (.aload_n 3, 1) := by decide +kernel
theorem dL_law_904 : decode cL_law 904 = .ok (.iload 14, 2) := by decide +kernel
theorem dL_law_906 : decode cL_law 906 = .ok (.invokevirtual 188, 3) := by decide +kernel
theorem dL_law_909 : decode cL_law 909 = .ok (.aload_n 3, 1) := by decide +kernel
theorem dL_law_910 : decode cL_law 910 = .ok (.iload 13, 2) := by decide +kernel
theorem dL_law_912 : decode cL_law 912 = .ok (.invokevirtual 188, 3) := by decide +kernel
theorem dL_law_915 : decode cL_law 915 = .ok (.if_icmp .ne 5, 3) := by decide +kernel
theorem dL_law_918 : decode cL_law 918 = .ok (.iconst 0, 1) := by decide +kernel
theorem dL_law_919 : decode cL_law 919 = .ok (.ireturn, 1) := by decide +kernel
theorem dL_law_920 : decode cL_law 920 = .ok (.iinc 14 1, 3) := by decide +kernel
theorem dL_law_923 : decode cL_law 923 = .ok (.goto (-58), 3) := by decide +kernel
theorem dL_law_926 : decode cL_law 926 = .ok (.goto 94, 3) := by decide +kernel
theorem dL_law_929 : decode cL_law 929 = .ok (.aload_n 3, 1) := by decide +kernel
theorem dL_law_930 : decode cL_law 930 = .ok (.invokevirtual 251, 3) := by decide +kernel
theorem dL_law_933 : decode cL_law 933 = .ok (.istore 12, 2) := by decide +kernel
theorem dL_law_935 : decode cL_law 935 = .ok (.aload_n 3, 1) := by decide +kernel
theorem dL_law_936 : decode cL_law 936 = .ok (.invokevirtual 245, 3) := by decide +kernel
theorem dL_law_939 : decode cL_law 939 = .ok (.istore 13, 2) := by decide +kernel
theorem dL_law_941 : decode cL_law 941 = .ok (.aload_n 3, 1) := by decide +kernel
theorem dL_law_942 : decode cL_law 942 = .ok (.iconst 2, 1) := by decide +kernel
theorem dL_law_943 : decode cL_law 943 = .ok (.iload 12, 2) := by decide +kernel
theorem dL_law_945 : decode cL_law 945 = .ok (.imul, 1) := by decide +kernel
theorem dL_law_946 : decode cL_law 946 = .ok (.invokevirtual 185, 3) := by decide +kernel
theorem dL_law_949 : decode cL_law 949 = .ok (.aload_n 3, 1) := by decide +kernel
theorem dL_law_950 : decode cL_law 950 = .ok (.iconst 2, 1) := by decide +kernel
theorem dL_law_951 : decode cL_law 951 = .ok (.iload 12, 2) := by decide +kernel
theorem dL_law_953 : decode cL_law 953 = .ok (.imul, 1) := by decide +kernel
theorem dL_law_954 : decode cL_law 954 = .ok (.iconst 1, 1) := by decide +kernel
theorem dL_law_955 : decode cL_law 955 = .ok (.iadd, 1) := by decide +kernel
theorem dL_law_956 : decode cL_law 956 = .ok (.invokevirtual 185, 3) := by decide +kernel
theorem dL_law_959 : decode cL_law 959 = .ok (.if_icmp .ne 20, 3) := by decide +kernel
theorem dL_law_962 : decode cL_law 962 = .ok (.iload 13, 2) := by decide +kernel
theorem dL_law_964 : decode cL_law 964 = .ok (.ifCond .eq 15, 3) := by decide +kernel
theorem dL_law_967 : decode cL_law 967 = .ok (.iload 13, 2) := by decide +kernel
theorem dL_law_969 : decode cL_law 969 = .ok (.iconst (-1), 1) := by decide +kernel
theorem dL_law_970 : decode cL_law 970 = .ok (.if_icmp .lt 9, 3) := by decide +kernel
theorem dL_law_973 : decode cL_law 973 = .ok (.iload 13, 2) := by decide +kernel
theorem dL_law_975 : decode cL_law 975 = .ok (.iconst 2, 1) := by decide +kernel
theorem dL_law_976 : decode cL_law 976 = .ok (.if_icmp .le 5, 3) := by decide +kernel
theorem dL_law_979 : decode cL_law 979 = .ok (.iconst 0, 1) := by decide +kernel
theorem dL_law_980 : decode cL_law 980 = .ok (.ireturn, 1) := by decide +kernel
theorem dL_law_981 : decode cL_law 981 = .ok (.iconst 0, 1) := by decide +kernel
theorem dL_law_982 : decode cL_law 982 = .ok (.istore 14, 2) := by decide +kernel
theorem dL_law_984 : decode cL_law 984 = .ok (.iload 14, 2) := by decide +kernel
theorem dL_law_986 : decode cL_law 986 = .ok (.iload 12, 2) := by decide +kernel
theorem dL_law_988 : decode cL_law 988 = .ok (.if_icmp .ge 32, 3) := by decide +kernel
theorem dL_law_991 : decode cL_law 991 = .ok (.aload_n 3, 1) := by decide +kernel
theorem dL_law_992 : decode cL_law 992 = .ok (.iconst 2, 1) := by decide +kernel
theorem dL_law_993 : decode cL_law 993 = .ok (.iload 14, 2) := by decide +kernel
theorem dL_law_995 : decode cL_law 995 = .ok (.imul, 1) := by decide +kernel
theorem dL_law_996 : decode cL_law 996 = .ok (.invokevirtual 185, 3) := by decide +kernel
theorem dL_law_999 : decode cL_law 999 = .ok (.aload_n 3, 1) := by decide +kernel
theorem dL_law_1000 : decode cL_law 1000 = .ok (.iconst 2, 1) := by decide +kernel
theorem dL_law_1001 : decode cL_law 1001 = .ok (.iload 14, 2) := by decide +kernel
theorem dL_law_1003 : decode cL_law 1003 = .ok (.imul, 1) := by decide +kernel
theorem dL_law_1004 : decode cL_law 1004 = .ok (.iconst 1, 1) := by decide +kernel
theorem dL_law_1005 : decode cL_law 1005 = .ok (.iadd, 1) := by decide +kernel
theorem dL_law_1006 : decode cL_law 1006 = .ok (.invokevirtual 185, 3) := by decide +kernel
theorem dL_law_1009 : decode cL_law 1009 = .ok (.if_icmp .ne 5, 3) := by decide +kernel
theorem dL_law_1012 : decode cL_law 1012 = .ok (.iconst 0, 1) := by decide +kernel
theorem dL_law_1013 : decode cL_law 1013 = .ok (.ireturn, 1) := by decide +kernel
theorem dL_law_1014 : decode cL_law 1014 = .ok (.iinc 14 1, 3) := by decide +kernel
theorem dL_law_1017 : decode cL_law 1017 = .ok (.goto (-33), 3) := by decide +kernel
theorem dL_law_1020 : decode cL_law 1020 = .ok (.aload_n 3, 1) := by decide +kernel
theorem dL_law_1021 : decode cL_law 1021 = .ok (.invokevirtual 254, 3) := by decide +kernel
theorem dL_law_1024 : decode cL_law 1024 = .ok (.istore 12, 2) := by decide +kernel
theorem dL_law_1026 : decode cL_law 1026 = .ok (.aload_n 3, 1) := by decide +kernel
theorem dL_law_1027 : decode cL_law 1027 = .ok (.invokevirtual 245, 3) := by decide +kernel
theorem dL_law_1030 : decode cL_law 1030 = .ok (.istore 13, 2) := by decide +kernel
theorem dL_law_1032 : decode cL_law 1032 = .ok (.iconst 0, 1) := by decide +kernel
theorem dL_law_1033 : decode cL_law 1033 = .ok (.istore 14, 2) := by decide +kernel
theorem dL_law_1035 : decode cL_law 1035 = .ok (.iload 14, 2) := by decide +kernel
theorem dL_law_1037 : decode cL_law 1037 = .ok (.aload_n 3, 1) := by decide +kernel
theorem dL_law_1038 : decode cL_law 1038 = .ok (.invokevirtual 225, 3) := by decide +kernel
theorem dL_law_1041 : decode cL_law 1041 = .ok (.if_icmp .ge 96, 3) := by decide +kernel
theorem dL_law_1044 : decode cL_law 1044 = .ok (.aload_n 3, 1) := by decide +kernel
theorem dL_law_1045 : decode cL_law 1045 = .ok (.iload 14, 2) := by decide +kernel
theorem dL_law_1047 : decode cL_law 1047 = .ok (.invokevirtual 236, 3) := by decide +kernel
theorem dL_law_1050 : decode cL_law 1050 = .ok (.ifCond .ne 6, 3) := by decide +kernel
theorem dL_law_1053 : decode cL_law 1053 = .ok (.goto 78, 3) := by decide +kernel
theorem dL_law_1056 : decode cL_law 1056 = .ok (.aload_n 3, 1) := by decide +kernel
theorem dL_law_1057 : decode cL_law 1057 = .ok (.iload 14, 2) := by decide +kernel
theorem dL_law_1059 : decode cL_law 1059 = .ok (.invokevirtual 255, 3) := by decide +kernel
theorem dL_law_1062 : decode cL_law 1062 = .ok (.istore 15, 2) := by decide +kernel
theorem dL_law_1064 : decode cL_law 1064 = .ok (.aload_n 3, 1) := by decide +kernel
theorem dL_law_1065 : decode cL_law 1065 = .ok (.iload 14, 2) := by decide +kernel
theorem dL_law_1067 : decode cL_law 1067 = .ok (.invokevirtual 152, 3) := by decide +kernel
theorem dL_law_1070 : decode cL_law 1070 = .ok (.iload 12, 2) := by decide +kernel
theorem dL_law_1072 : decode cL_law 1072 = .ok (.iconst 1, 1) := by decide +kernel
theorem dL_law_1073 : decode cL_law 1073 = .ok (.isub, 1) := by decide +kernel
theorem dL_law_1074 : decode cL_law 1074 = .ok (.if_icmp .ne 55, 3) := by decide +kernel
theorem dL_law_1077 : decode cL_law 1077 = .ok (.aload_n 3, 1) := by decide +kernel
theorem dL_law_1078 : decode cL_law 1078 = .ok (.invokevirtual 182, 3) := by decide +kernel
theorem dL_law_1081 : decode cL_law 1081 = .ok (.iload 9, 2) := by decide +kernel
theorem dL_law_1083 : decode cL_law 1083 = .ok (.if_icmp .lt 46, 3) := by decide +kernel
theorem dL_law_1086 : decode cL_law 1086 = .ok (.aload_n 3, 1) := by decide +kernel
theorem dL_law_1087 : decode cL_law 1087 = .ok (.invokevirtual 182, 3) := by decide +kernel
theorem dL_law_1090 : decode cL_law 1090 = .ok (.iload 9, 2) := by decide +kernel
theorem dL_law_1092 : decode cL_law 1092 = .ok (.if_icmp .ne 7, 3) := by decide +kernel
theorem dL_law_1095 : decode cL_law 1095 = .ok (.iconst 1, 1) := by decide +kernel
theorem dL_law_1096 : decode cL_law 1096 = .ok (.goto 4, 3) := by decide +kernel
theorem dL_law_1099 : decode cL_law 1099 = .ok (.iconst 0, 1) := by decide +kernel
theorem dL_law_1100 : decode cL_law 1100 = .ok (.iload 15, 2) := by decide +kernel
theorem dL_law_1102 : decode cL_law 1102 = .ok (.if_icmp .ne 27, 3) := by decide +kernel
theorem dL_law_1105 : decode cL_law 1105 = .ok (.iload 13, 2) := by decide +kernel
theorem dL_law_1107 : decode cL_law 1107 = .ok (.iconst 1, 1) := by decide +kernel
theorem dL_law_1108 : decode cL_law 1108 = .ok (.if_icmp .le 10, 3) := by decide +kernel
theorem dL_law_1111 : decode cL_law 1111 = .ok (.aload_n 3, 1) := by decide +kernel
theorem dL_law_1112 : decode cL_law 1112 = .ok (.invokevirtual 182, 3) := by decide +kernel
theorem dL_law_1115 : decode cL_law 1115 = .ok (.ifCond .gt 14, 3) := by decide +kernel
theorem dL_law_1118 : decode cL_law 1118 = .ok (.aload_n 3, 1) := by decide +kernel
theorem dL_law_1119 : decode cL_law 1119 = .ok (.iload 14, 2) := by decide +kernel
theorem dL_law_1121 : decode cL_law 1121 = .ok (.invokevirtual 155, 3) := by decide +kernel
theorem dL_law_1124 : decode cL_law 1124 = .ok (.iload 12, 2) := by decide +kernel
theorem dL_law_1126 : decode cL_law 1126 = .ok (.if_icmp .eq 5, 3) := by decide +kernel
theorem dL_law_1129 : decode cL_law 1129 = .ok (.iconst 0, 1) := by decide +kernel
theorem dL_law_1130 : decode cL_law 1130 = .ok (.ireturn, 1) := by decide +kernel
theorem dL_law_1131 : decode cL_law 1131 = .ok (.iinc 14 1, 3) := by decide +kernel
theorem dL_law_1134 : decode cL_law 1134 = .ok (.goto (-99), 3) := by decide +kernel
theorem dL_law_1137 : decode cL_law 1137 = .ok (.aload_n 3, 1) := by decide +kernel
theorem dL_law_1138 : decode cL_law 1138 = .ok (.invokevirtual 178, 3) := by decide +kernel
theorem dL_law_1141 : decode cL_law 1141 = .ok (.lload 7, 2) := by decide +kernel
theorem dL_law_1143 : decode cL_law 1143 = .ok (.lcmp, 1) := by decide +kernel
theorem dL_law_1144 : decode cL_law 1144 = .ok (.ifCond .eq 5, 3) := by decide +kernel
theorem dL_law_1147 : decode cL_law 1147 = .ok (.iconst 0, 1) := by decide +kernel
theorem dL_law_1148 : decode cL_law 1148 = .ok (.ireturn, 1) := by decide +kernel
theorem dL_law_1149 : decode cL_law 1149 = .ok (.iconst 1, 1) := by decide +kernel
theorem dL_law_1150 : decode cL_law 1150 = .ok (.iload 6, 2) := by decide +kernel
theorem dL_law_1152 : decode cL_law 1152 = .ok (.iconst 4, 1) := by decide +kernel
theorem dL_law_1153 : decode cL_law 1153 = .ok (.ishr, 1) := by decide +kernel
theorem dL_law_1154 : decode cL_law 1154 = .ok (.iconst 4, 1) := by decide +kernel
theorem dL_law_1155 : decode cL_law 1155 = .ok (.invokestatic 107, 3) := by decide +kernel
theorem dL_law_1158 : decode cL_law 1158 = .ok (.iadd, 1) := by decide +kernel
theorem dL_law_1159 : decode cL_law 1159 = .ok (.istore 14, 2) := by decide +kernel
theorem dL_law_1161 : decode cL_law 1161 = .ok (.aload_n 3, 1) := by decide +kernel
theorem dL_law_1162 : decode cL_law 1162 = .ok (.iload 14, 2) := by decide +kernel
theorem dL_law_1164 : decode cL_law 1164 = .ok (.invokevirtual 258, 3) := by decide +kernel
theorem dL_law_1167 : decode cL_law 1167 = .ok (.istore 15, 2) := by decide +kernel
theorem dL_law_1169 : decode cL_law 1169 = .ok (.aload_n 3, 1) := by decide +kernel
theorem dL_law_1170 : decode cL_law 1170 = .ok (.iload 14, 2) := by decide +kernel
theorem dL_law_1172 : decode cL_law 1172 = .ok (.invokevirtual 261, 3) := by decide +kernel
theorem dL_law_1175 : decode cL_law 1175 = .ok (.istore 16, 2) := by decide +kernel
theorem dL_law_1177 : decode cL_law 1177 = .ok (.aload_n 3, 1) := by decide +kernel
theorem dL_law_1178 : decode cL_law 1178 = .ok (.invokevirtual 248, 3) := by decide +kernel
theorem dL_law_1181 : decode cL_law 1181 = .ok (.istore 17, 2) := by decide +kernel
theorem dL_law_1183 : decode cL_law 1183 = .ok (.aload_n 3, 1) := by decide +kernel
theorem dL_law_1184 : decode cL_law 1184 = .ok (.invokevirtual 178, 3) := by decide +kernel
theorem dL_law_1187 : decode cL_law 1187 = .ok (.lload 7, 2) := by decide +kernel
theorem dL_law_1189 : decode cL_law 1189 = .ok (.lcmp, 1) := by decide +kernel
theorem dL_law_1190 : decode cL_law 1190 = .ok (.ifCond .eq 5, 3) := by decide +kernel
theorem dL_law_1193 : decode cL_law 1193 = .ok (.iconst 0, 1) := by decide +kernel
theorem dL_law_1194 : decode cL_law 1194 = .ok (.ireturn, 1) := by decide +kernel
theorem dL_law_1195 : decode cL_law 1195 = .ok (.iconst 0, 1) := by decide +kernel
theorem dL_law_1196 : decode cL_law 1196 = .ok (.istore 18, 2) := by decide +kernel
theorem dL_law_1198 : decode cL_law 1198 = .ok (.iload 18, 2) := by decide +kernel
theorem dL_law_1200 : decode cL_law 1200 = .ok (.iload 14, 2) := by decide +kernel
theorem dL_law_1202 : decode cL_law 1202 = .ok (.if_icmp .ge 89, 3) := by decide +kernel
theorem dL_law_1205 : decode cL_law 1205 = .ok (.aload_n 3, 1) := by decide +kernel
theorem dL_law_1206 : decode cL_law 1206 = .ok (.invokevirtual 214, 3) := by decide +kernel
theorem dL_law_1209 : decode cL_law 1209 = .ok (.ifCond .eq 15, 3) := by decide +kernel
theorem dL_law_1212 : decode cL_law 1212 = .ok (.iload 17, 2) := by decide +kernel
theorem dL_law_1214 : decode cL_law 1214 = .ok (.ifCond .lt 24, 3) := by decide +kernel
theorem dL_law_1217 : decode cL_law 1217 = .ok (.iload 17, 2) := by decide +kernel
theorem dL_law_1219 : decode cL_law 1219 = .ok (.iload 18, 2) := by decide +kernel
theorem dL_law_1221 : decode cL_law 1221 = .ok (.if_icmp .gt 17, 3) := by decide +kernel
theorem dL_law_1224 : decode cL_law 1224 = .ok (.iload 17, 2) := by decide +kernel
theorem dL_law_1226 : decode cL_law 1226 = .ok (.iload 18, 2) := by decide +kernel
theorem dL_law_1228 : decode cL_law 1228 = .ok (.if_icmp .ne 12, 3) := by decide +kernel
theorem dL_law_1231 : decode cL_law 1231 = .ok (.aload_n 3, 1) := by decide +kernel
theorem dL_law_1232 : decode cL_law 1232 = .ok (.invokevirtual 214, 3) := by decide +kernel
theorem dL_law_1235 : decode cL_law 1235 = .ok (.ifCond .ne 5, 3) := by decide +kernel
theorem dL_law_1238 : decode cL_law 1238 = .ok (.iconst 0, 1) := by decide +kernel
theorem dL_law_1239 : decode cL_law 1239 = .ok (.ireturn, 1) := by decide +kernel
theorem dL_law_1240 : decode cL_law 1240 = .ok (.aload_n 3, 1) := by decide +kernel
theorem dL_law_1241 : decode cL_law 1241 = .ok (.invokevirtual 264, 3) := by decide +kernel
theorem dL_law_1244 : decode cL_law 1244 = .ok (.istore 19, 2) := by decide +kernel
theorem dL_law_1246 : decode cL_law 1246 = .ok (.aload_n 3, 1) := by decide +kernel
theorem dL_law_1247 : decode cL_law 1247 = .ok (.iconst 1, 1) := by decide +kernel
theorem dL_law_1248 : decode cL_law 1248 = .ok (.invokevirtual 149, 3) := by decide +kernel
theorem dL_law_1251 : decode cL_law 1251 = .ok (.istore 20, 2) := by decide +kernel
theorem dL_law_1253 : decode cL_law 1253 = .ok (.aload_n 2, 1) := by decide +kernel
theorem dL_law_1254 : decode cL_law 1254 = .ok (.invokevirtual 146, 3) := by decide +kernel
theorem dL_law_1257 : decode cL_law 1257 = .ok (.iload 20, 2) := by decide +kernel
theorem dL_law_1259 : decode cL_law 1259 = .ok (.ifCond .lt 24, 3) := by decide +kernel
theorem dL_law_1262 : decode cL_law 1262 = .ok (.iload 20, 2) := by decide +kernel
theorem dL_law_1264 : decode cL_law 1264 = .ok (.aload_n 3, 1) := by decide +kernel
theorem dL_law_1265 : decode cL_law 1265 = .ok (.invokevirtual 267, 3) := by decide +kernel
theorem dL_law_1268 : decode cL_law 1268 = .ok (.if_icmp .gt 15, 3) := by decide +kernel
theorem dL_law_1271 : decode cL_law 1271 = .ok (.aload_n 3, 1) := by decide +kernel
theorem dL_law_1272 : decode cL_law 1272 = .ok (.invokevirtual 264, 3) := by decide +kernel
theorem dL_law_1275 : decode cL_law 1275 = .ok (.iload 19, 2) := by decide +kernel
theorem dL_law_1277 : decode cL_law 1277 = .ok (.iload 20, 2) := by decide +kernel
theorem dL_law_1279 : decode cL_law 1279 = .ok (.iadd, 1) := by decide +kernel
theorem dL_law_1280 : decode cL_law 1280 = .ok (.if_icmp .eq 5, 3) := by decide +kernel
theorem dL_law_1283 : decode cL_law 1283 = .ok (.iconst 0, 1) := by decide +kernel
theorem dL_law_1284 : decode cL_law 1284 = .ok (.ireturn, 1) := by decide +kernel
theorem dL_law_1285 : decode cL_law 1285 = .ok (.iinc 18 1, 3) := by decide +kernel
theorem dL_law_1288 : decode cL_law 1288 = .ok (.goto (-90), 3) := by decide +kernel
theorem dL_law_1291 : decode cL_law 1291 = .ok (.aload_n 3, 1) := by decide +kernel
theorem dL_law_1292 : decode cL_law 1292 = .ok (.invokevirtual 254, 3) := by decide +kernel
theorem dL_law_1295 : decode cL_law 1295 = .ok (.iload 15, 2) := by decide +kernel
theorem dL_law_1297 : decode cL_law 1297 = .ok (.if_icmp .ne 12, 3) := by decide +kernel
theorem dL_law_1300 : decode cL_law 1300 = .ok (.aload_n 3, 1) := by decide +kernel
theorem dL_law_1301 : decode cL_law 1301 = .ok (.invokevirtual 182, 3) := by decide +kernel
theorem dL_law_1304 : decode cL_law 1304 = .ok (.iload 16, 2) := by decide +kernel
theorem dL_law_1306 : decode cL_law 1306 = .ok (.if_icmp .eq 5, 3) := by decide +kernel
theorem dL_law_1309 : decode cL_law 1309 = .ok (.iconst 0, 1) := by decide +kernel
theorem dL_law_1310 : decode cL_law 1310 = .ok (.ireturn, 1) := by decide +kernel
theorem dL_law_1311 : decode cL_law 1311 = .ok (.iinc 5 1, 3) := by decide +kernel
theorem dL_law_1314 : decode cL_law 1314 = .ok (.goto (-1267), 3) := by decide +kernel
theorem dL_law_1317 : decode cL_law 1317 = .ok (.aload_n 2, 1) := by decide +kernel
theorem dL_law_1318 : decode cL_law 1318 = .ok (.aload_n 3, 1) := by decide +kernel
theorem dL_law_1319 : decode cL_law 1319 = .ok (.invokevirtual 269, 3) := by decide +kernel
theorem dL_law_1322 : decode cL_law 1322 = .ok (.ireturn, 1) := by decide +kernel
end
section
/-! A typed world: cells by a fixed layout, all numbers in one value; a walk (Wx) over it with all that stays in one context -/
abbrev Kd : Type := (Nat × List Nat) ⊕ (Nat × Nat)
abbrev XS : Type := (Nat → Nat → Int32) × (Nat → Nat → Int64)
def setI (x : XS) (q k : Nat) (v : Int32) : XS := (fun i j => if i = q ∧ j = k then v else x.1 i j, x.2)
def setL (x : XS) (q k : Nat) (v : Int64) : XS := (x.1, fun i j => if i = q ∧ j = k then v else x.2 i j)
/-- a field: 0 an int, 1 a long, 2 null, j + 3 the cell j -/
def fval (a : Nat → Nat) (x : XS) (q k : Nat) : Nat → Value
  | 0 => .int (x.1 q k)
  | 1 => .long (x.2 q k)
  | 2 => .null
  | j + 3 => .ref (a j)
def flist (a : Nat → Nat) (x : XS) (q : Nat) (ft : List Nat) : List Value := (List.range ft.length).map (fun k => fval a x q k (ft.getD k 0))
/-- places of an array of references: null, or the cell j -/
def rfN (a : Nat → Nat) : Nat → Option Nat
  | 0 => none
  | 1 => none
  | 2 => none
  | j + 3 => some (a j)
/-- from 100 on: an array of references, its class T (ci - 100) -/
def cellOf (T : Nat → ClassId) (a : Nat → Nat) (x : XS) (q : Nat) : Kd → va_E
  | .inl o => if o.1 < 100 then .inr (o.1, flist a x q o.2) else .inl (T (o.1 - 100), o.2.length, .inr (.inr (.inr (.inr (fun j => rfN a (o.2.getD j 2))))))
  | .inr (1, n) => .inl (T 1, n, .inr (.inl (fun j => x.2 q j)))
  | .inr (c, n) => .inl (T c, n, .inl (fun j => x.1 q j))
def wl (T : Nat → ClassId) (lay : List Kd) (a : Nat → Nat) (x : XS) : va_W := (List.range lay.length).map (fun q => (a q, cellOf T a x q (lay.getD q (.inr (0, 0)))))
theorem wl_get {T : Nat → ClassId} {lay : List Kd} {a : Nat → Nat} {x : XS} {q : Nat} {kd : Kd} (h : lay[q]? = some kd) : (wl T lay a x)[q]? = some (a q, cellOf T a x q kd) := by
  obtain ⟨hl, rfl⟩ := List.getElem?_eq_some_iff.mp h
  simp [wl, hl, List.getD]
theorem wl_some {T : Nat → ClassId} {lay : List Kd} {a : Nat → Nat} {x : XS} {q : Nat} {e : Nat × va_E} (h : (wl T lay a x)[q]? = some e) : ∃ kd, lay[q]? = some kd ∧ e = (a q, cellOf T a x q kd) := by
  have hl : q < lay.length := by have := (List.getElem?_eq_some_iff.mp h).1; simpa [wl] using this
  refine ⟨lay[q], List.getElem?_eq_getElem hl, ?_⟩
  have h2 := wl_get (T := T) (a := a) (x := x) (List.getElem?_eq_getElem hl)
  rw [h2] at h
  exact (Option.some.inj h).symm
theorem vw_lt {ci : Nat} {r : vw_C} (h : vwCl[ci]? = some r) : ci < 100 := by
  have := (List.getElem?_eq_some_iff.mp h).1
  have e : vwCl.length = 12 := rfl
  omega
theorem cell_o {T : Nat → ClassId} {a : Nat → Nat} {x : XS} {q ci : Nat} {ft : List Nat} (h : ci < 100) : cellOf T a x q (.inl (ci, ft)) = .inr (ci, flist a x q ft) := if_pos h
theorem cell_r {T : Nat → ClassId} {a : Nat → Nat} {x : XS} {q t : Nat} {ft : List Nat} : cellOf T a x q (.inl (100 + t, ft)) = .inl (T t, ft.length, .inr (.inr (.inr (.inr (fun j => rfN a (ft.getD j 2)))))) := by
  show (if 100 + t < 100 then _ else _) = _
  rw [if_neg (by omega), Nat.add_sub_cancel_left]
theorem wl_getO {T : Nat → ClassId} {lay : List Kd} {a : Nat → Nat} {x : XS} {q ci : Nat} {ft : List Nat} {r : vw_C} (h : lay[q]? = some (.inl (ci, ft))) (hc : vwCl[ci]? = some r) : (wl T lay a x)[q]? = some (a q, .inr (ci, flist a x q ft)) := by
  rw [wl_get h, cell_o (vw_lt hc)]
theorem wl_getR {T : Nat → ClassId} {lay : List Kd} {a : Nat → Nat} {x : XS} {q t : Nat} {ft : List Nat} (h : lay[q]? = some (.inl (100 + t, ft))) : (wl T lay a x)[q]? = some (a q, .inl (T t, ft.length, .inr (.inr (.inr (.inr (fun j => rfN a (ft.getD j 2))))))) := by
  rw [wl_get h, cell_r]
theorem wl_len (T : Nat → ClassId) (lay : List Kd) (a : Nat → Nat) (x : XS) : (wl T lay a x).length = lay.length := by simp [wl]
theorem flist_get {a : Nat → Nat} {x : XS} {q k t : Nat} {ft : List Nat} (h : ft[k]? = some t) : (flist a x q ft)[k]? = some (fval a x q k t) := by
  obtain ⟨hl, rfl⟩ := List.getElem?_eq_some_iff.mp h
  simp [flist, hl, List.getD]
theorem flist_len (a : Nat → Nat) (x : XS) (q : Nat) (ft : List Nat) : (flist a x q ft).length = ft.length := by simp [flist]
theorem wl_set {T : Nat → ClassId} {lay : List Kd} {a : Nat → Nat} {x x' : XS} {q : Nat} {kd : Kd} {e : va_E} (h : lay[q]? = some kd) (he : cellOf T a x' q kd = e) (ho : ∀ i kd', i ≠ q → lay[i]? = some kd' → cellOf T a x' i kd' = cellOf T a x i kd') : (wl T lay a x).set q (a q, e) = wl T lay a x' := by
  subst he
  apply List.ext_getElem?
  intro i
  by_cases hi : i < lay.length
  · have hg := List.getElem?_eq_getElem hi
    by_cases hq : i = q
    · subst hq
      rw [List.getElem?_set_self (by rw [wl_len]; exact hi), wl_get h]
    · rw [List.getElem?_set_ne (fun z => hq z.symm), wl_get hg, wl_get hg, ho i _ hq hg]
  · rw [List.getElem?_eq_none (by simp [wl_len]; omega), List.getElem?_eq_none (by simp [wl_len]; omega)]
theorem cell_other {T : Nat → ClassId} {a : Nat → Nat} {x x' : XS} {i : Nat} (h1 : ∀ k, x'.1 i k = x.1 i k) (h2 : ∀ k, x'.2 i k = x.2 i k) (kd : Kd) : cellOf T a x' i kd = cellOf T a x i kd := by
  have hf : ∀ ft, flist a x' i ft = flist a x i ft := by
    intro ft
    refine List.map_congr_left fun k _ => ?_
    generalize ft.getD k 0 = t
    match t with
    | 0 => simp [fval, h1]
    | 1 => simp [fval, h2]
    | 2 => rfl
    | j + 3 => rfl
  match kd with
  | .inl o => simp only [cellOf, hf]
  | .inr (0, n) => simp [cellOf, h1]
  | .inr (1, n) => simp [cellOf, h2]
  | .inr (c + 2, n) => simp [cellOf, h1]
theorem flist_setI {a : Nat → Nat} {x : XS} {q k : Nat} {v : Int32} {ft : List Nat} (h : ft[k]? = some 0) : (flist a x q ft).set k (.int v) = flist a (setI x q k v) q ft := by
  apply List.ext_getElem?
  intro i
  by_cases hi : i < ft.length
  · have hg := List.getElem?_eq_getElem hi
    by_cases hk : i = k
    · subst hk
      rw [List.getElem?_set_self (by rw [flist_len]; exact hi), flist_get h]
      simp [fval, setI]
    · rw [List.getElem?_set_ne (fun z => hk z.symm), flist_get hg, flist_get hg]
      congr 1
      generalize ft[i] = t
      match t with
      | 0 => simp [fval, setI, hk]
      | 1 => simp [fval, setI]
      | 2 => rfl
      | j + 3 => rfl
  · rw [List.getElem?_eq_none (by simp [flist_len]; omega), List.getElem?_eq_none (by simp [flist_len]; omega)]
theorem flist_setL {a : Nat → Nat} {x : XS} {q k : Nat} {v : Int64} {ft : List Nat} (h : ft[k]? = some 1) : (flist a x q ft).set k (.long v) = flist a (setL x q k v) q ft := by
  apply List.ext_getElem?
  intro i
  by_cases hi : i < ft.length
  · have hg := List.getElem?_eq_getElem hi
    by_cases hk : i = k
    · subst hk
      rw [List.getElem?_set_self (by rw [flist_len]; exact hi), flist_get h]
      simp [fval, setL]
    · rw [List.getElem?_set_ne (fun z => hk z.symm), flist_get hg, flist_get hg]
      congr 1
      generalize ft[i] = t
      match t with
      | 0 => simp [fval, setL]
      | 1 => simp [fval, setL, hk]
      | 2 => rfl
      | j + 3 => rfl
  · rw [List.getElem?_eq_none (by simp [flist_len]; omega), List.getElem?_eq_none (by simp [flist_len]; omega)]
theorem flist_setR {a : Nat → Nat} {x : XS} {q k j : Nat} {ft : List Nat} (h : ft[k]? = some (j + 3)) : (flist a x q ft).set k (.ref (a j)) = flist a x q ft := by
  apply List.ext_getElem?
  intro i
  by_cases hi : i < ft.length
  · by_cases hk : i = k
    · subst hk
      rw [List.getElem?_set_self (by rw [flist_len]; exact hi), flist_get h]
      rfl
    · rw [List.getElem?_set_ne (fun z => hk z.symm)]
  · rw [List.getElem?_eq_none (by simp [flist_len]; omega), List.getElem?_eq_none (by simp [flist_len]; omega)]
theorem wl_setI {T : Nat → ClassId} {lay : List Kd} {a : Nat → Nat} {x : XS} {q k ci : Nat} {v : Int32} {ft : List Nat} (hc : ci < 100) (h : lay[q]? = some (.inl (ci, ft))) (hf : ft[k]? = some 0) : (wl T lay a x).set q (a q, .inr (ci, (flist a x q ft).set k (.int v))) = wl T lay a (setI x q k v) :=
  wl_set h (by rw [flist_setI hf]; exact cell_o hc) (fun i kd' hi _ => cell_other (x' := setI x q _ v) (x := x) (fun k' => by simp [setI, hi]) (fun _ => rfl) kd')
theorem wl_setL {T : Nat → ClassId} {lay : List Kd} {a : Nat → Nat} {x : XS} {q k ci : Nat} {v : Int64} {ft : List Nat} (hc : ci < 100) (h : lay[q]? = some (.inl (ci, ft))) (hf : ft[k]? = some 1) : (wl T lay a x).set q (a q, .inr (ci, (flist a x q ft).set k (.long v))) = wl T lay a (setL x q k v) :=
  wl_set h (by rw [flist_setL hf]; exact cell_o hc) (fun i kd' hi _ => cell_other (x' := setL x q _ v) (x := x) (fun _ => rfl) (fun k' => by simp [setL, hi]) kd')
theorem wl_setR {T : Nat → ClassId} {lay : List Kd} {a : Nat → Nat} {x : XS} {q k ci j : Nat} {ft : List Nat} (hc : ci < 100) (h : lay[q]? = some (.inl (ci, ft))) (hf : ft[k]? = some (j + 3)) : (wl T lay a x).set q (a q, .inr (ci, (flist a x q ft).set k (.ref (a j)))) = wl T lay a x :=
  wl_set h (by rw [flist_setR hf]; exact cell_o hc) (fun _ _ _ _ => rfl)
theorem wl_setAI {T : Nat → ClassId} {lay : List Kd} {a : Nat → Nat} {x : XS} {q n i c : Nat} {v : Int32} (h : lay[q]? = some (.inr (c, n))) (hc : c ≠ 1) : (wl T lay a x).set q (a q, .inl (T c, n, .inl (upd (fun j => x.1 q j) i v))) = wl T lay a (setI x q i v) := by
  refine wl_set h ?_ (fun i kd' hi _ => cell_other (x' := setI x q _ v) (x := x) (fun k' => by simp [setI, hi]) (fun _ => rfl) kd')
  have e : (fun j => (setI x q i v).1 q j) = upd (fun j => x.1 q j) i v := by funext j; simp [setI, upd]
  match c, hc with
  | 0, _ => simp only [cellOf, e]
  | c + 2, _ => simp only [cellOf, e]
theorem wl_setAL {T : Nat → ClassId} {lay : List Kd} {a : Nat → Nat} {x : XS} {q n i : Nat} {v : Int64} (h : lay[q]? = some (.inr (1, n))) : (wl T lay a x).set q (a q, .inl (T 1, n, .inr (.inl (vp_updL (fun j => x.2 q j) i v)))) = wl T lay a (setL x q i v) := by
  refine wl_set h ?_ (fun i kd' hi _ => cell_other (x' := setL x q _ v) (x := x) (fun _ => rfl) (fun k' => by simp [setL, hi]) kd')
  have e : (fun j => (setL x q i v).2 q j) = vp_updL (fun j => x.2 q j) i v := by funext j; simp [setL, vp_updL]
  simp only [cellOf, e]
/-- the tables' words that hold wherever tables hold -/
def GW : List Cond := lw_tbl.filter goodWord
theorem gw_mem {w : Cond} (n : Nat) (h : tables_1[n]? = some w) (hg : goodWord w = true) : w ∈ GW := List.mem_filter.mpr ⟨List.mem_append_right _ (List.mem_of_getElem? h), hg⟩
theorem gw_sel {w : Cond} (n : Nat) (h : (k2_sels lw_privs)[n]? = some w) (hg : goodWord w = true) : w ∈ GW := List.mem_filter.mpr ⟨List.mem_append_left _ (List.mem_of_getElem? h), hg⟩
def isNest : Cond → Bool
  | .fieldLinkNest _ _ _ _ _ _ => true
  | .methodLinkNest _ _ _ _ => true
  | .castable _ _ => true
  | .declares _ => true
  | _ => false
def NW : List Cond := tables_1.filter isNest
theorem nw_mem {w : Cond} (n : Nat) (h : tables_1[n]? = some w) (hg : isNest w = true) : w ∈ NW := List.mem_filter.mpr ⟨List.mem_of_getElem? h, hg⟩
theorem nest_tabs {w : Cond} (h : isNest w = true) : w.onTables = true := by
  cases w <;> first | rfl | (simp [isNest] at h)
theorem nest_warm {w : Cond} (h : isNest w = true) {s U : State} (hW : s.WarmedH U.vm) (hZ : va_Nw w s) : va_Nw w U := by
  cases w <;> first | exact va_Nw.warmF hW hZ | exact va_Nw.warmM hW hZ | exact va_Nw.warmC hW hZ | exact va_Nw.warmD hW hZ | (simp [isNest] at h)
/-- what stays through the whole run: the launch, the classes' numbers, the first address of the run, places of static arrays -/
abbrev Gx : Type := Launch × va_G × (Nat → ClassId) × Nat × (Nat → Nat)
def ridesV (j : Nat) : Value := .long (([-6148914691236517206, -3689348814741910324, -1085102592571150096, -71777214294589696, -281470681808896, -4294967296] : List Int64).getD j 0)
/-- the texts: 0 .. 28 the law's own, 29 the keywords, 30 .. the texts of throws -/
def TXT : List (String × Nat × String) := [
  ("FeudBookLaw", 35, "f"),
  ("FeudBookLaw", 44, " rides"),
  ("FeudBookLaw", 46, " stays"),
  ("FeudBookLaw", 52, " s"),
  ("FeudBookLaw", 54, " "),
  ("FeudBookLaw", 56, "promise"),
  ("FeudBookLaw", 58, "if "),
  ("FeudBookLaw", 66, " then "),
  ("FeudBookLaw", 68, "pact"),
  ("FeudBookLaw", 70, "either "),
  ("FeudBookLaw", 72, " or "),
  ("FeudBookLaw", 74, "feud"),
  ("FeudBookLaw", 76, " with "),
  ("FeudBookLaw", 78, "oath"),
  ("FeudBookLaw", 80, ""),
  ("FeudBookLaw", 82, " when day-day/3*3="),
  ("FeudBookLaw", 84, " when possible "),
  ("FeudBookLaw", 86, " when not stands s"),
  ("FeudBookLaw", 88, " or standing<"),
  ("FeudBookLaw", 90, " when follows "),
  ("FeudBookLaw", 92, " from "),
  ("FeudBookLaw", 94, " and parts>"),
  ("FeudBookLaw", 96, " when [peaces<=4*"),
  ("FeudBookLaw", 98, "]"),
  ("FeudBookLaw", 115, "family f"),
  ("FeudBookLaw", 117, ";"),
  ("FeudBookLaw", 123, ";\n"),
  ("FeudBookLaw", 133, "break s"),
  ("FeudBookLaw", 135, "renew s"),
  ("FeudBook$Tokens", 29, "family promise if then pact either or feud with oath rides stays break renew when day standing parts peaces possible stands follows from not and min max"),
  ("FeudBook", 86, "the tape would be too long"),
  ("FeudBook", 97, "the tape does not have so many bytes"),
  ("FeudBook", 173, "the claim does not follow"),
  ("FeudBook", 192, "there is no such family"),
  ("FeudBook", 198, "there is a peace"),
  ("FeudBook", 200, "the statement stands"),
  ("FeudBook", 219, "there is no family"),
  ("FeudBook", 245, "there is no such statement"),
  ("FeudBook", 247, "the statement does not stand"),
  ("FeudBook", 249, "there is no such claim"),
  ("FeudBook", 251, "there is no peace"),
  ("FeudBook", 253, "days have to be 1 to 30")]
def txt (i : Nat) : String × Nat × String := TXT.getD i ("", 0, "")
def txB (i : Nat) : List Int32 := (txt i).2.2.toList.map (fun c => Int32.ofNat c.toNat)
/-- a text at q: its bytes at v -/
def sC (q v : Nat) (bs : List Int32) (A : Nat → Prop) (U : State) (H : Heap) : Prop := va_O "java/lang/String" q A U H ∧ va_OF "java/lang/String" "coder" "B" (.int 0) q A U H ∧ va_OF "java/lang/String" "value" "[B" (.ref v) q A U H ∧ va_T .byte v bs.length (fun j => .int (bs.getD j 0)) A U H
theorem sC.moved {q v : Nat} {bs : List Int32} {A : Nat → Prop} {u U : State} {H : Heap} (hvm : u.vm.Alike U.vm) (h : sC q v bs A u H) : sC q v bs A U H := ⟨va_O.moved hvm h.1, va_OF.moved hvm h.2.1, va_OF.moved hvm h.2.2.1, va_T.moved hvm h.2.2.2⟩
theorem sC.kept {q v : Nat} {bs : List Int32} {A : Nat → Prop} {U : State} {H H1 : Heap} (h : sC q v bs A U H) (hq : ∀ a : Nat, a < H.size → ¬ A a → H1[a]? = H[a]?) : sC q v bs A U H1 := ⟨h.1.kept hq, h.2.1.kept hq, h.2.2.1.kept hq, h.2.2.2.kept hq⟩
theorem sC.narrow {q v : Nat} {bs : List Int32} {A B : Nat → Prop} {U : State} {H : Heap} (h : sC q v bs A U H) (hAB : ∀ q, B q → A q) : sC q v bs B U H := ⟨h.1.narrow hAB, h.2.1.narrow hAB, h.2.2.1.narrow hAB, h.2.2.2.narrow hAB⟩
/-- the texts, the statics that throws and texts need; sa: 0 RIDES_IN_WORD, 1 DigitOnes, 2 DigitTens, 10 + i the text i, 60 + i its bytes -/
def digO (j : Nat) : Value := .int (Int32.ofNat (48 + j % 10))
def digT (j : Nat) : Value := .int (Int32.ofNat (48 + j / 10))
def Sx (sa : Nat → Nat) (A : Nat → Prop) (U : State) (H : Heap) : Prop :=
  ((va_Z RJ6 "DigitOnes" "[B" (.ref (sa 1)) A U H ∧ va_T .byte (sa 1) 100 digO A U H) ∧ (va_Z RJ6 "DigitTens" "[B" (.ref (sa 2)) A U H ∧ va_T .byte (sa 2) 100 digT A U H) ∧ va_Z "java/lang/String" "COMPACT_STRINGS" "Z" (.int 1) A U H ∧ va_Zq "jdk/internal/util/Preconditions" "SIOOBE_FORMATTER" "Ljava/util/function/BiFunction;" A U H) ∧
  (∀ i, i < 30 → sC (sa (10 + i)) (sa (60 + i)) (txB i) A U H) ∧ (∀ i, i < 42 → vk_R (txt i).1 (txt i).2.1 (txt i).2.2 (sa (10 + i)) U) ∧
  vx_Zq Bundle.tN "UNASSIGNED_STACK" Bundle.steD A U H ∧ vx_Zq Bundle.tN "SUPPRESSED_SENTINEL" Bundle.listD A U H
theorem Sx.same {sa : Nat → Nat} {A : Nat → Prop} {u U : State} {H : Heap} (hv : u.vm = U.vm) (h : Sx sa A u H) : Sx sa A U H :=
  have hA : u.vm.Alike U.vm := by rw [hv]; exact Vm.Alike.refl _
  ⟨⟨⟨va_Z.moved hA h.1.1.1, va_T.moved hA h.1.1.2⟩, ⟨va_Z.moved hA h.1.2.1.1, va_T.moved hA h.1.2.1.2⟩, va_Z.moved hA h.1.2.2.1, va_Zq.moved hA h.1.2.2.2⟩, fun i hi => (h.2.1 i hi).moved hA, fun i hi => vk_R.same hv.symm (h.2.2.1 i hi), vx_Zq.moved hA h.2.2.2.1, vx_Zq.moved hA h.2.2.2.2⟩
theorem Sx.warm {sa : Nat → Nat} {A : Nat → Prop} {u U : State} {H : Heap} (hW : u.WarmedH U.vm) (h : Sx sa A u H) : Sx sa A U H :=
  ⟨⟨⟨va_Z.moved hW.alike h.1.1.1, va_T.moved hW.alike h.1.1.2⟩, ⟨va_Z.moved hW.alike h.1.2.1.1, va_T.moved hW.alike h.1.2.1.2⟩, va_Z.moved hW.alike h.1.2.2.1, va_Zq.moved hW.alike h.1.2.2.2⟩, fun i hi => (h.2.1 i hi).moved hW.alike, fun i hi => vk_R.warm hW (h.2.2.1 i hi), vx_Zq.moved hW.alike h.2.2.2.1, vx_Zq.moved hW.alike h.2.2.2.2⟩
theorem Sx.kept {sa : Nat → Nat} {A : Nat → Prop} {U : State} {H H1 : Heap} (h : Sx sa A U H) (hq : ∀ a : Nat, a < H.size → ¬ A a → H1[a]? = H[a]?) : Sx sa A U H1 :=
  ⟨⟨⟨h.1.1.1.kept hq, h.1.1.2.kept hq⟩, ⟨h.1.2.1.1.kept hq, h.1.2.1.2.kept hq⟩, h.1.2.2.1.kept hq, h.1.2.2.2.kept hq⟩, fun i hi => (h.2.1 i hi).kept hq, h.2.2.1, h.2.2.2.1.kept hq, h.2.2.2.2.kept hq⟩
theorem Sx.narrow {sa : Nat → Nat} {A B : Nat → Prop} {U : State} {H : Heap} (h : Sx sa A U H) (hAB : ∀ q, B q → A q) : Sx sa B U H :=
  ⟨⟨⟨h.1.1.1.narrow hAB, h.1.1.2.narrow hAB⟩, ⟨h.1.2.1.1.narrow hAB, h.1.2.1.2.narrow hAB⟩, h.1.2.2.1.narrow hAB, h.1.2.2.2.narrow hAB⟩, fun i hi => (h.2.1 i hi).narrow hAB, h.2.2.1, h.2.2.2.1.narrow hAB, h.2.2.2.2.narrow hAB⟩
/-- the class of int[][]: its component is the class of int[] -/
def AA (g : Gx) (U : State) : Prop := (Cond.arrayOver (.array .int)).before #[] U = true ∧ ∃ kA : Class, U.vm.classes[g.2.2.1 3]? = some kA ∧ kA.kind = .array (g.2.2.1 0) (.array .int)
theorem AA.moved {g : Gx} {u U : State} (hvm : u.vm.Alike U.vm) (h : AA g u) : AA g U := by
  obtain ⟨h0, kA, hk, hkk⟩ := h
  obtain ⟨k', hk', he⟩ := hvm.2.2 _ _ hk
  refine ⟨?_, k', hk', by rw [he]; exact hkk⟩
  obtain ⟨comp, c, k, h1, h2, h3, h4, h5⟩ := arrayOverA_spec h0
  obtain ⟨k2, hk2, he2⟩ := hvm.2.2 _ _ h3
  have hi : (U.vm.classes.findIdx? fun (x : Class) => match x.kind with | .array component _ => component == comp | _ => false) = some c := by
    rw [hvm.findIdx?_eq _ (fun _ => rfl)]
    exact h2
  have hkind : k2.kind = .array comp (.array .int) := by rw [he2]; exact h4
  have f1 : U.vm.findClass (FieldType.array .int).toString = some comp := by rw [hvm.findClass]; exact h1
  have f2 : U.vm.findClass ("[" ++ (FieldType.array .int).toString) = some c := by rw [hvm.findClass]; exact h5
  unfold Cond.before Cond.holds
  simp only [Cond.value]
  rw [f1, Option.bind_some]
  refine (congrArg (fun o : Option Nat => (o.bind (fun c => (U.vm.classes[c]?).map fun (k : Class) => match k.kind with | .array _ ty => decide (ty = FieldType.array .int) && decide (U.vm.findClass ("[" ++ (FieldType.array .int).toString) = some c) | _ => false) == some true)) hi).trans ?_
  simp [hk2, hkind, f2]
def Sg (g : Gx) (A : Nat → Prop) (U : State) (H : Heap) : Prop := (∀ w ∈ NW, va_Nw w U) ∧ va_Z RX3 "RIDES_IN_WORD" "[J" (.ref (g.2.2.2.2 0)) A U H ∧ va_T .long (g.2.2.2.2 0) 6 ridesV A U H ∧ Sx g.2.2.2.2 A U H ∧ AA g U
theorem Sg.same {g : Gx} {A : Nat → Prop} {u U : State} {H : Heap} (hv : u.vm = U.vm) (h : Sg g A u H) : Sg g A U H :=
  ⟨fun w hw => (h.1 w hw).same (nest_tabs (List.mem_filter.mp hw).2) hv, h.2.1.moved (by rw [hv]; exact Vm.Alike.refl _), h.2.2.1.moved (by rw [hv]; exact Vm.Alike.refl _), h.2.2.2.1.same hv, h.2.2.2.2.moved (by rw [hv]; exact Vm.Alike.refl _)⟩
theorem Sg.warm {g : Gx} {A : Nat → Prop} {u U : State} {H : Heap} (hW : u.WarmedH U.vm) (h : Sg g A u H) : Sg g A U H :=
  ⟨fun w hw => nest_warm (List.mem_filter.mp hw).2 hW (h.1 w hw), h.2.1.moved hW.alike, h.2.2.1.moved hW.alike, h.2.2.2.1.warm hW, h.2.2.2.2.moved hW.alike⟩
theorem Sg.kept {g : Gx} {A : Nat → Prop} {U : State} {H H1 : Heap} (h : Sg g A U H) (hq : ∀ a : Nat, a < H.size → ¬ A a → H1[a]? = H[a]?) : Sg g A U H1 := ⟨h.1, h.2.1.kept hq, h.2.2.1.kept hq, h.2.2.2.1.kept hq, h.2.2.2.2⟩
theorem Sg.narrow {g : Gx} {A B : Nat → Prop} {U : State} {H : Heap} (h : Sg g A U H) (hAB : ∀ q, B q → A q) : Sg g B U H := ⟨h.1, h.2.1.narrow hAB, h.2.2.1.narrow hAB, h.2.2.2.1.narrow hAB, h.2.2.2.2⟩
end
section
/-! The walk: all that stays in one context; the goal names only room, world, place, locals and stack -/
abbrev Kx : Type := Program × Env × State × MethodId × Array Value × List Frame × Method × Code × (State → Prop) × (Nat → Prop) × Room × Gx
def tysT (T : Nat → ClassId) : List (ClassId × FieldType) := [(T 0, .int), (T 1, .long), (T 2, .byte), (T 3, .array .int)]
def Wx (k : Kx) (cells slots : Nat) (lay : List Kd) (a : Nat → Nat) (x : XS) (pc : Nat) (L : List (Nat × Value)) (stk : List Value) : Prop := match k with
  | (p, e, s, m, args, below, meth, c, Q, A, R, g) => ∀ (H : Heap) (locs : List Loc) (ls : Array Slot), va_P g.2.1 vwCl (wl g.2.2.1 lay a x) H → va_D A (wl g.2.2.1 lay a x) → va_S A s.heap H locs → lv_has ls c.maxLocals L → W p g.1 e R s m args below meth c H locs cells slots Q (F0 m pc ls stk)
/-- what holds of the context all along a walk of the method with the code cc, of the class own -/
def Fok (k : Kx) (cc : ByteArray) (nL : Nat) (own : String) (ret : Option FieldType) (nm : String) (rk mc ms : Nat) : Prop := match k with
  | (p, e, s, m, args, below, meth, c, Q, A, R, g) => p.tables.exec = Jvm.exec ∧ c.code = cc ∧ c.maxLocals = nL ∧ s.vm.findClass own = some m.cls ∧ (∀ w ∈ GW, w.before args s = true) ∧ meth.sig.returnType = ret ∧ meth.locks = false ∧ va_K g.2.1 vwCl (tysT g.2.2.1) s ∧ (∀ q : Nat, s.heap.size ≤ q → A q) ∧ (∀ q : Nat, A q → g.2.2.2.1 ≤ q) ∧ R = { frames := rk, cells := mc, slots := ms, locals := 64 * rk } ∧ Sg g (fun q => g.2.2.2.1 ≤ q) s s.heap ∧ meth.name = nm ∧ g.2.2.2.1 ≤ s.heap.size
/-- a local by its number -/
def lk : List (Nat × Value) → Nat → Option Value
  | [], _ => none
  | (j, v) :: t, i => if j = i then some v else lk t i
theorem lk_mem : ∀ {L : List (Nat × Value)} {i : Nat} {v : Value}, lk L i = some v → (i, v) ∈ L
  | [], _, _, h => by simp [lk] at h
  | (j, w) :: t, i, v, h => by
    unfold lk at h
    split at h
    · rename_i hj; subst hj; cases h; exact List.mem_cons_self
    · exact List.mem_cons_of_mem _ (lk_mem h)
theorem lk_at {ls : Array Slot} {nL : Nat} {L : List (Nat × Value)} (h : lv_has ls nL L) {i : Nat} {v : Value} (hk : lk L i = some v) : ls[i]? = some (.val v) := h.2.2 (i, v) (lk_mem hk)
/-- a value of one slot, of two slots, put into the locals -/
def st1 : List (Nat × Value) → Nat → Value → List (Nat × Value)
  | [], i, v => [(i, v)]
  | (j, w) :: t, i, v => if j = i then (i, v) :: t.filter (fun q => !(q.1 == i) && !(q.1 + 1 == i && q.2.category == 2)) else if j + 1 = i ∧ w.category = 2 then st1 t i v else (j, w) :: st1 t i v
def st2 : List (Nat × Value) → Nat → Value → List (Nat × Value)
  | [], i, v => [(i, v)]
  | (j, w) :: t, i, v => if j = i then (i, v) :: t.filter (fun q => !(q.1 == i) && (!(q.1 == i + 1) && !(q.1 + 1 == i && q.2.category == 2))) else if j = i + 1 ∨ (j + 1 = i ∧ w.category = 2) then st2 t i v else (j, w) :: st2 t i v
theorem st1_mem (i : Nat) (v : Value) : ∀ (L : List (Nat × Value)), ∀ q ∈ st1 L i v, q ∈ (i, v) :: L.filter (fun q => !(q.1 == i) && !(q.1 + 1 == i && q.2.category == 2))
  | [], q, h => by simpa [st1] using h
  | (j, w) :: t, q, h => by
    unfold st1 at h
    split at h
    · rename_i hj; subst hj
      rcases List.mem_cons.mp h with h | h
      · rw [h]; exact List.mem_cons_self
      · refine List.mem_cons_of_mem _ ?_
        rw [List.filter_cons_of_neg (by simp)]; exact h
    · rename_i hj
      split at h
      · rename_i h2
        rw [List.filter_cons_of_neg (by simp [h2.1, h2.2])]
        exact st1_mem i v t q h
      · rename_i h2
        have hc : (!((j, w).1 == i) && !((j, w).1 + 1 == i && (j, w).2.category == 2)) = true := by
          simp only [Bool.and_eq_true, Bool.not_eq_true', beq_eq_false_iff_ne, Bool.and_eq_false_iff]
          refine ⟨hj, ?_⟩
          by_cases h3 : j + 1 = i
          · exact Or.inr (fun z => h2 ⟨h3, z⟩)
          · exact Or.inl h3
        rw [List.filter_cons, if_pos hc]
        rcases List.mem_cons.mp h with h | h
        · rw [h]; exact List.mem_cons_of_mem _ List.mem_cons_self
        · rcases List.mem_cons.mp (st1_mem i v t q h) with e | e
          · rw [e]; exact List.mem_cons_self
          · exact List.mem_cons_of_mem _ (List.mem_cons_of_mem _ e)
theorem st2_mem (i : Nat) (v : Value) : ∀ (L : List (Nat × Value)), ∀ q ∈ st2 L i v, q ∈ (i, v) :: L.filter (fun q => !(q.1 == i) && (!(q.1 == i + 1) && !(q.1 + 1 == i && q.2.category == 2)))
  | [], q, h => by simpa [st2] using h
  | (j, w) :: t, q, h => by
    unfold st2 at h
    split at h
    · rename_i hj; subst hj
      rcases List.mem_cons.mp h with h | h
      · rw [h]; exact List.mem_cons_self
      · refine List.mem_cons_of_mem _ ?_
        rw [List.filter_cons_of_neg (by simp)]; exact h
    · rename_i hj
      split at h
      · rename_i h2
        rw [List.filter_cons_of_neg (by rcases h2 with h2 | ⟨h2, h3⟩ <;> simp [*])]
        exact st2_mem i v t q h
      · rename_i h2
        have hc : (!((j, w).1 == i) && (!((j, w).1 == i + 1) && !((j, w).1 + 1 == i && (j, w).2.category == 2))) = true := by
          simp only [Bool.and_eq_true, Bool.not_eq_true', beq_eq_false_iff_ne, Bool.and_eq_false_iff]
          refine ⟨hj, fun z => h2 (Or.inl z), ?_⟩
          by_cases h3 : j + 1 = i
          · exact Or.inr (fun z => h2 (Or.inr ⟨h3, z⟩))
          · exact Or.inl h3
        rw [List.filter_cons, if_pos hc]
        rcases List.mem_cons.mp h with h | h
        · rw [h]; exact List.mem_cons_of_mem _ List.mem_cons_self
        · rcases List.mem_cons.mp (st2_mem i v t q h) with e | e
          · rw [e]; exact List.mem_cons_self
          · exact List.mem_cons_of_mem _ (List.mem_cons_of_mem _ e)
theorem has_mono {ls : Array Slot} {nL : Nat} {L L' : List (Nat × Value)} (h : lv_has ls nL L) (hs : ∀ q ∈ L', q ∈ L) : lv_has ls nL L' := ⟨h.1, h.2.1, fun q hq => h.2.2 q (hs q hq)⟩

section WX
variable {k : Kx} {cc : ByteArray} {nL rk mc ms pc cells slots : Nat} {own nm : String} {ret : Option FieldType} {lay : List Kd} {a : Nat → Nat} {x : XS} {L : List (Nat × Value)} {stk : List Value}
theorem xiconst (hk : Fok k cc nL own ret nm rk mc ms) {n : Int} {v : Int32} (d : decode cc pc = .ok (.iconst n, 1)) (hv : Int32.ofInt n = v) (kk : Wx k cells slots lay a x (pc + 1) L (.int v :: stk)) : Wx k cells slots lay a x pc L (stk) := by
  rcases k with ⟨p, e, s, m, args, below, meth, c, Q, A, R, g⟩
  obtain ⟨hx, hb, hml, hown, hts, hr, hlk, hK, hA, hA0, hR, hSg, hnm, hb0⟩ := hk
  intro H locs ls hP hD hS hl
  exact lv_iconst hx hb d hv (kk H locs ls hP hD hS hl)
theorem xbipush (hk : Fok k cc nL own ret nm rk mc ms) {n : Int} {v : Int32} (d : decode cc pc = .ok (.bipush n, 2)) (hv : (Int8.ofInt n).toInt32 = v) (kk : Wx k cells slots lay a x (pc + 2) L (.int v :: stk)) : Wx k cells slots lay a x pc L (stk) := by
  rcases k with ⟨p, e, s, m, args, below, meth, c, Q, A, R, g⟩
  obtain ⟨hx, hb, hml, hown, hts, hr, hlk, hK, hA, hA0, hR, hSg, hnm, hb0⟩ := hk
  intro H locs ls hP hD hS hl
  exact lv_bipush hx hb d hv (kk H locs ls hP hD hS hl)
theorem xsipush (hk : Fok k cc nL own ret nm rk mc ms) {n : Int} {v : Int32} (d : decode cc pc = .ok (.sipush n, 3)) (hv : (Int16.ofInt n).toInt32 = v) (kk : Wx k cells slots lay a x (pc + 3) L (.int v :: stk)) : Wx k cells slots lay a x pc L (stk) := by
  rcases k with ⟨p, e, s, m, args, below, meth, c, Q, A, R, g⟩
  obtain ⟨hx, hb, hml, hown, hts, hr, hlk, hK, hA, hA0, hR, hSg, hnm, hb0⟩ := hk
  intro H locs ls hP hD hS hl
  exact lv_sipush hx hb d hv (kk H locs ls hP hD hS hl)
theorem xlconst (hk : Fok k cc nL own ret nm rk mc ms) {n : Fin 2} {v : Int64} (d : decode cc pc = .ok (.lconst n, 1)) (hv : Int64.ofNat (n : Nat) = v) (kk : Wx k cells slots lay a x (pc + 1) L (.long v :: stk)) : Wx k cells slots lay a x pc L (stk) := by
  rcases k with ⟨p, e, s, m, args, below, meth, c, Q, A, R, g⟩
  obtain ⟨hx, hb, hml, hown, hts, hr, hlk, hK, hA, hA0, hR, hSg, hnm, hb0⟩ := hk
  intro H locs ls hP hD hS hl
  exact lv_lconst hx hb d hv (kk H locs ls hP hD hS hl)
theorem xiload_n (hk : Fok k cc nL own ret nm rk mc ms) {i : Fin 4} {v : Int32} (d : decode cc pc = .ok (.iload_n i, 1)) (hv : lk L i = some (.int v)) (kk : Wx k cells slots lay a x (pc + 1) L (.int v :: stk)) : Wx k cells slots lay a x pc L (stk) := by
  rcases k with ⟨p, e, s, m, args, below, meth, c, Q, A, R, g⟩
  obtain ⟨hx, hb, hml, hown, hts, hr, hlk, hK, hA, hA0, hR, hSg, hnm, hb0⟩ := hk
  intro H locs ls hP hD hS hl
  exact lv_iload_n hx hb d rfl (lk_at hl hv) (kk H locs ls hP hD hS hl)
theorem xiload (hk : Fok k cc nL own ret nm rk mc ms) {i : Nat} {v : Int32} (d : decode cc pc = .ok (.iload i, 2)) (hv : lk L i = some (.int v)) (kk : Wx k cells slots lay a x (pc + 2) L (.int v :: stk)) : Wx k cells slots lay a x pc L (stk) := by
  rcases k with ⟨p, e, s, m, args, below, meth, c, Q, A, R, g⟩
  obtain ⟨hx, hb, hml, hown, hts, hr, hlk, hK, hA, hA0, hR, hSg, hnm, hb0⟩ := hk
  intro H locs ls hP hD hS hl
  exact lv_iload hx hb d (lk_at hl hv) (kk H locs ls hP hD hS hl)
theorem xlload_n (hk : Fok k cc nL own ret nm rk mc ms) {i : Fin 4} {v : Int64} (d : decode cc pc = .ok (.lload_n i, 1)) (hv : lk L i = some (.long v)) (kk : Wx k cells slots lay a x (pc + 1) L (.long v :: stk)) : Wx k cells slots lay a x pc L (stk) := by
  rcases k with ⟨p, e, s, m, args, below, meth, c, Q, A, R, g⟩
  obtain ⟨hx, hb, hml, hown, hts, hr, hlk, hK, hA, hA0, hR, hSg, hnm, hb0⟩ := hk
  intro H locs ls hP hD hS hl
  exact lv_lload_n hx hb d rfl (lk_at hl hv) (kk H locs ls hP hD hS hl)
theorem xlload (hk : Fok k cc nL own ret nm rk mc ms) {i : Nat} {v : Int64} (d : decode cc pc = .ok (.lload i, 2)) (hv : lk L i = some (.long v)) (kk : Wx k cells slots lay a x (pc + 2) L (.long v :: stk)) : Wx k cells slots lay a x pc L (stk) := by
  rcases k with ⟨p, e, s, m, args, below, meth, c, Q, A, R, g⟩
  obtain ⟨hx, hb, hml, hown, hts, hr, hlk, hK, hA, hA0, hR, hSg, hnm, hb0⟩ := hk
  intro H locs ls hP hD hS hl
  exact lv_lload hx hb d (lk_at hl hv) (kk H locs ls hP hD hS hl)
theorem xaload_n (hk : Fok k cc nL own ret nm rk mc ms) {i : Fin 4} {v : Addr} (d : decode cc pc = .ok (.aload_n i, 1)) (hv : lk L i = some (.ref v)) (kk : Wx k cells slots lay a x (pc + 1) L (.ref v :: stk)) : Wx k cells slots lay a x pc L (stk) := by
  rcases k with ⟨p, e, s, m, args, below, meth, c, Q, A, R, g⟩
  obtain ⟨hx, hb, hml, hown, hts, hr, hlk, hK, hA, hA0, hR, hSg, hnm, hb0⟩ := hk
  intro H locs ls hP hD hS hl
  exact lv_aload_n hx hb d rfl (lk_at hl hv) (kk H locs ls hP hD hS hl)
theorem xaload (hk : Fok k cc nL own ret nm rk mc ms) {i : Nat} {v : Addr} (d : decode cc pc = .ok (.aload i, 2)) (hv : lk L i = some (.ref v)) (kk : Wx k cells slots lay a x (pc + 2) L (.ref v :: stk)) : Wx k cells slots lay a x pc L (stk) := by
  rcases k with ⟨p, e, s, m, args, below, meth, c, Q, A, R, g⟩
  obtain ⟨hx, hb, hml, hown, hts, hr, hlk, hK, hA, hA0, hR, hSg, hnm, hb0⟩ := hk
  intro H locs ls hP hD hS hl
  exact lv_aload hx hb d (lk_at hl hv) (kk H locs ls hP hD hS hl)
theorem xistore_n (hk : Fok k cc nL own ret nm rk mc ms) {i : Fin 4} {v : Int32} (d : decode cc pc = .ok (.istore_n i, 1)) (hi : (i : Nat) < nL) (kk : Wx k cells slots lay a x (pc + 1) (st1 L i (.int v)) stk) : Wx k cells slots lay a x pc L (.int v :: stk) := by
  rcases k with ⟨p, e, s, m, args, below, meth, c, Q, A, R, g⟩
  obtain ⟨hx, hb, hml, hown, hts, hr, hlk, hK, hA, hA0, hR, hSg, hnm, hb0⟩ := hk
  intro H locs ls hP hD hS hl
  exact lv_istore_n hx hb d rfl hl (by rw [hml]; exact hi) rfl (fun ls' hl' => kk H locs ls' hP hD hS (has_mono hl' (st1_mem _ _ _)))
theorem xistore (hk : Fok k cc nL own ret nm rk mc ms) {i : Nat} {v : Int32} (d : decode cc pc = .ok (.istore i, 2)) (hi : (i : Nat) < nL) (kk : Wx k cells slots lay a x (pc + 2) (st1 L i (.int v)) stk) : Wx k cells slots lay a x pc L (.int v :: stk) := by
  rcases k with ⟨p, e, s, m, args, below, meth, c, Q, A, R, g⟩
  obtain ⟨hx, hb, hml, hown, hts, hr, hlk, hK, hA, hA0, hR, hSg, hnm, hb0⟩ := hk
  intro H locs ls hP hD hS hl
  exact lv_istore hx hb d hl (by rw [hml]; exact hi) rfl (fun ls' hl' => kk H locs ls' hP hD hS (has_mono hl' (st1_mem _ _ _)))
theorem xlstore_n (hk : Fok k cc nL own ret nm rk mc ms) {i : Fin 4} {v : Int64} (d : decode cc pc = .ok (.lstore_n i, 1)) (hi : (i : Nat) + 1 < nL) (kk : Wx k cells slots lay a x (pc + 1) (st2 L i (.long v)) stk) : Wx k cells slots lay a x pc L (.long v :: stk) := by
  rcases k with ⟨p, e, s, m, args, below, meth, c, Q, A, R, g⟩
  obtain ⟨hx, hb, hml, hown, hts, hr, hlk, hK, hA, hA0, hR, hSg, hnm, hb0⟩ := hk
  intro H locs ls hP hD hS hl
  exact lv_lstore_n hx hb d rfl hl (by rw [hml]; exact hi) rfl (fun ls' hl' => kk H locs ls' hP hD hS (has_mono hl' (st2_mem _ _ _)))
theorem xlstore (hk : Fok k cc nL own ret nm rk mc ms) {i : Nat} {v : Int64} (d : decode cc pc = .ok (.lstore i, 2)) (hi : (i : Nat) + 1 < nL) (kk : Wx k cells slots lay a x (pc + 2) (st2 L i (.long v)) stk) : Wx k cells slots lay a x pc L (.long v :: stk) := by
  rcases k with ⟨p, e, s, m, args, below, meth, c, Q, A, R, g⟩
  obtain ⟨hx, hb, hml, hown, hts, hr, hlk, hK, hA, hA0, hR, hSg, hnm, hb0⟩ := hk
  intro H locs ls hP hD hS hl
  exact lv_lstore hx hb d hl (by rw [hml]; exact hi) rfl (fun ls' hl' => kk H locs ls' hP hD hS (has_mono hl' (st2_mem _ _ _)))
theorem xastore_n (hk : Fok k cc nL own ret nm rk mc ms) {i : Fin 4} {v : Addr} (d : decode cc pc = .ok (.astore_n i, 1)) (hi : (i : Nat) < nL) (kk : Wx k cells slots lay a x (pc + 1) (st1 L i (.ref v)) stk) : Wx k cells slots lay a x pc L (.ref v :: stk) := by
  rcases k with ⟨p, e, s, m, args, below, meth, c, Q, A, R, g⟩
  obtain ⟨hx, hb, hml, hown, hts, hr, hlk, hK, hA, hA0, hR, hSg, hnm, hb0⟩ := hk
  intro H locs ls hP hD hS hl
  exact lv_astore_n hx hb d rfl hl (by rw [hml]; exact hi) rfl (fun ls' hl' => kk H locs ls' hP hD hS (has_mono hl' (st1_mem _ _ _)))
theorem xastore (hk : Fok k cc nL own ret nm rk mc ms) {i : Nat} {v : Addr} (d : decode cc pc = .ok (.astore i, 2)) (hi : (i : Nat) < nL) (kk : Wx k cells slots lay a x (pc + 2) (st1 L i (.ref v)) stk) : Wx k cells slots lay a x pc L (.ref v :: stk) := by
  rcases k with ⟨p, e, s, m, args, below, meth, c, Q, A, R, g⟩
  obtain ⟨hx, hb, hml, hown, hts, hr, hlk, hK, hA, hA0, hR, hSg, hnm, hb0⟩ := hk
  intro H locs ls hP hD hS hl
  exact lv_astore hx hb d hl (by rw [hml]; exact hi) rfl (fun ls' hl' => kk H locs ls' hP hD hS (has_mono hl' (st1_mem _ _ _)))
theorem xiinc (hk : Fok k cc nL own ret nm rk mc ms) {i : Nat} {n : Int} {y v : Int32} (d : decode cc pc = .ok (.iinc i n, 3)) (hv : lk L i = some (.int y)) (hi : i < nL) (hy : y + Int32.ofInt n = v) (kk : Wx k cells slots lay a x (pc + 3) (st1 L i (.int v)) stk) : Wx k cells slots lay a x pc L stk := by
  rcases k with ⟨p, e, s, m, args, below, meth, c, Q, A, R, g⟩
  obtain ⟨hx, hb, hml, hown, hts, hr, hlk, hK, hA, hA0, hR, hSg, hnm, hb0⟩ := hk
  intro H locs ls hP hD hS hl
  obtain ⟨j, hj⟩ := List.getElem?_of_mem (lk_mem hv)
  exact lv_iinc (k := j) hx hb d hl hj hy (by rw [hml]; exact hi) rfl (fun ls' hl' => kk H locs ls' hP hD hS (has_mono hl' (st1_mem _ _ _)))
theorem xiadd (hk : Fok k cc nL own ret nm rk mc ms) {x1 y1 : Int32} (d : decode cc pc = .ok (.iadd, 1)) (kk : Wx k cells slots lay a x (pc + 1) L (.int (x1 + y1) :: stk)) : Wx k cells slots lay a x pc L (.int y1 :: .int x1 :: stk) := by
  rcases k with ⟨p, e, s, m, args, below, meth, c, Q, A, R, g⟩
  obtain ⟨hx, hb, hml, hown, hts, hr, hlk, hK, hA, hA0, hR, hSg, hnm, hb0⟩ := hk
  intro H locs ls hP hD hS hl
  exact lv_iadd hx hb d (kk H locs ls hP hD hS hl)
theorem xisub (hk : Fok k cc nL own ret nm rk mc ms) {x1 y1 : Int32} (d : decode cc pc = .ok (.isub, 1)) (kk : Wx k cells slots lay a x (pc + 1) L (.int (x1 - y1) :: stk)) : Wx k cells slots lay a x pc L (.int y1 :: .int x1 :: stk) := by
  rcases k with ⟨p, e, s, m, args, below, meth, c, Q, A, R, g⟩
  obtain ⟨hx, hb, hml, hown, hts, hr, hlk, hK, hA, hA0, hR, hSg, hnm, hb0⟩ := hk
  intro H locs ls hP hD hS hl
  exact lv_isub hx hb d (kk H locs ls hP hD hS hl)
theorem ximul (hk : Fok k cc nL own ret nm rk mc ms) {x1 y1 : Int32} (d : decode cc pc = .ok (.imul, 1)) (kk : Wx k cells slots lay a x (pc + 1) L (.int (x1 * y1) :: stk)) : Wx k cells slots lay a x pc L (.int y1 :: .int x1 :: stk) := by
  rcases k with ⟨p, e, s, m, args, below, meth, c, Q, A, R, g⟩
  obtain ⟨hx, hb, hml, hown, hts, hr, hlk, hK, hA, hA0, hR, hSg, hnm, hb0⟩ := hk
  intro H locs ls hP hD hS hl
  exact lv_imul hx hb d (kk H locs ls hP hD hS hl)
theorem xiand (hk : Fok k cc nL own ret nm rk mc ms) {x1 y1 : Int32} (d : decode cc pc = .ok (.iand, 1)) (kk : Wx k cells slots lay a x (pc + 1) L (.int (x1 &&& y1) :: stk)) : Wx k cells slots lay a x pc L (.int y1 :: .int x1 :: stk) := by
  rcases k with ⟨p, e, s, m, args, below, meth, c, Q, A, R, g⟩
  obtain ⟨hx, hb, hml, hown, hts, hr, hlk, hK, hA, hA0, hR, hSg, hnm, hb0⟩ := hk
  intro H locs ls hP hD hS hl
  exact lv_iand hx hb d (kk H locs ls hP hD hS hl)
theorem xior (hk : Fok k cc nL own ret nm rk mc ms) {x1 y1 : Int32} (d : decode cc pc = .ok (.ior, 1)) (kk : Wx k cells slots lay a x (pc + 1) L (.int (x1 ||| y1) :: stk)) : Wx k cells slots lay a x pc L (.int y1 :: .int x1 :: stk) := by
  rcases k with ⟨p, e, s, m, args, below, meth, c, Q, A, R, g⟩
  obtain ⟨hx, hb, hml, hown, hts, hr, hlk, hK, hA, hA0, hR, hSg, hnm, hb0⟩ := hk
  intro H locs ls hP hD hS hl
  exact lv_ior hx hb d (kk H locs ls hP hD hS hl)
theorem xixor (hk : Fok k cc nL own ret nm rk mc ms) {x1 y1 : Int32} (d : decode cc pc = .ok (.ixor, 1)) (kk : Wx k cells slots lay a x (pc + 1) L (.int (x1 ^^^ y1) :: stk)) : Wx k cells slots lay a x pc L (.int y1 :: .int x1 :: stk) := by
  rcases k with ⟨p, e, s, m, args, below, meth, c, Q, A, R, g⟩
  obtain ⟨hx, hb, hml, hown, hts, hr, hlk, hK, hA, hA0, hR, hSg, hnm, hb0⟩ := hk
  intro H locs ls hP hD hS hl
  exact lv_ixor hx hb d (kk H locs ls hP hD hS hl)
theorem xishl (hk : Fok k cc nL own ret nm rk mc ms) {x1 y1 : Int32} (d : decode cc pc = .ok (.ishl, 1)) (kk : Wx k cells slots lay a x (pc + 1) L (.int (x1 <<< (y1 &&& 31)) :: stk)) : Wx k cells slots lay a x pc L (.int y1 :: .int x1 :: stk) := by
  rcases k with ⟨p, e, s, m, args, below, meth, c, Q, A, R, g⟩
  obtain ⟨hx, hb, hml, hown, hts, hr, hlk, hK, hA, hA0, hR, hSg, hnm, hb0⟩ := hk
  intro H locs ls hP hD hS hl
  exact lv_ishl hx hb d (kk H locs ls hP hD hS hl)
theorem xishr (hk : Fok k cc nL own ret nm rk mc ms) {x1 y1 : Int32} (d : decode cc pc = .ok (.ishr, 1)) (kk : Wx k cells slots lay a x (pc + 1) L (.int (x1 >>> (y1 &&& 31)) :: stk)) : Wx k cells slots lay a x pc L (.int y1 :: .int x1 :: stk) := by
  rcases k with ⟨p, e, s, m, args, below, meth, c, Q, A, R, g⟩
  obtain ⟨hx, hb, hml, hown, hts, hr, hlk, hK, hA, hA0, hR, hSg, hnm, hb0⟩ := hk
  intro H locs ls hP hD hS hl
  exact lv_ishr hx hb d (kk H locs ls hP hD hS hl)
theorem xineg (hk : Fok k cc nL own ret nm rk mc ms) {x1 : Int32} (d : decode cc pc = .ok (.ineg, 1)) (kk : Wx k cells slots lay a x (pc + 1) L (.int (-x1) :: stk)) : Wx k cells slots lay a x pc L (.int x1 :: stk) := by
  rcases k with ⟨p, e, s, m, args, below, meth, c, Q, A, R, g⟩
  obtain ⟨hx, hb, hml, hown, hts, hr, hlk, hK, hA, hA0, hR, hSg, hnm, hb0⟩ := hk
  intro H locs ls hP hD hS hl
  exact lv_ineg hx hb d (kk H locs ls hP hD hS hl)
theorem xladd (hk : Fok k cc nL own ret nm rk mc ms) {x1 y1 : Int64} (d : decode cc pc = .ok (.ladd, 1)) (kk : Wx k cells slots lay a x (pc + 1) L (.long (x1 + y1) :: stk)) : Wx k cells slots lay a x pc L (.long y1 :: .long x1 :: stk) := by
  rcases k with ⟨p, e, s, m, args, below, meth, c, Q, A, R, g⟩
  obtain ⟨hx, hb, hml, hown, hts, hr, hlk, hK, hA, hA0, hR, hSg, hnm, hb0⟩ := hk
  intro H locs ls hP hD hS hl
  exact lv_ladd hx hb d (kk H locs ls hP hD hS hl)
theorem xlsub (hk : Fok k cc nL own ret nm rk mc ms) {x1 y1 : Int64} (d : decode cc pc = .ok (.lsub, 1)) (kk : Wx k cells slots lay a x (pc + 1) L (.long (x1 - y1) :: stk)) : Wx k cells slots lay a x pc L (.long y1 :: .long x1 :: stk) := by
  rcases k with ⟨p, e, s, m, args, below, meth, c, Q, A, R, g⟩
  obtain ⟨hx, hb, hml, hown, hts, hr, hlk, hK, hA, hA0, hR, hSg, hnm, hb0⟩ := hk
  intro H locs ls hP hD hS hl
  exact lv_lsub hx hb d (kk H locs ls hP hD hS hl)
theorem xlmul (hk : Fok k cc nL own ret nm rk mc ms) {x1 y1 : Int64} (d : decode cc pc = .ok (.lmul, 1)) (kk : Wx k cells slots lay a x (pc + 1) L (.long (x1 * y1) :: stk)) : Wx k cells slots lay a x pc L (.long y1 :: .long x1 :: stk) := by
  rcases k with ⟨p, e, s, m, args, below, meth, c, Q, A, R, g⟩
  obtain ⟨hx, hb, hml, hown, hts, hr, hlk, hK, hA, hA0, hR, hSg, hnm, hb0⟩ := hk
  intro H locs ls hP hD hS hl
  exact lv_lmul hx hb d (kk H locs ls hP hD hS hl)
theorem xland (hk : Fok k cc nL own ret nm rk mc ms) {x1 y1 : Int64} (d : decode cc pc = .ok (.land, 1)) (kk : Wx k cells slots lay a x (pc + 1) L (.long (x1 &&& y1) :: stk)) : Wx k cells slots lay a x pc L (.long y1 :: .long x1 :: stk) := by
  rcases k with ⟨p, e, s, m, args, below, meth, c, Q, A, R, g⟩
  obtain ⟨hx, hb, hml, hown, hts, hr, hlk, hK, hA, hA0, hR, hSg, hnm, hb0⟩ := hk
  intro H locs ls hP hD hS hl
  exact lv_land hx hb d (kk H locs ls hP hD hS hl)
theorem xlor (hk : Fok k cc nL own ret nm rk mc ms) {x1 y1 : Int64} (d : decode cc pc = .ok (.lor, 1)) (kk : Wx k cells slots lay a x (pc + 1) L (.long (x1 ||| y1) :: stk)) : Wx k cells slots lay a x pc L (.long y1 :: .long x1 :: stk) := by
  rcases k with ⟨p, e, s, m, args, below, meth, c, Q, A, R, g⟩
  obtain ⟨hx, hb, hml, hown, hts, hr, hlk, hK, hA, hA0, hR, hSg, hnm, hb0⟩ := hk
  intro H locs ls hP hD hS hl
  exact lv_lor hx hb d (kk H locs ls hP hD hS hl)
theorem xlxor (hk : Fok k cc nL own ret nm rk mc ms) {x1 y1 : Int64} (d : decode cc pc = .ok (.lxor, 1)) (kk : Wx k cells slots lay a x (pc + 1) L (.long (x1 ^^^ y1) :: stk)) : Wx k cells slots lay a x pc L (.long y1 :: .long x1 :: stk) := by
  rcases k with ⟨p, e, s, m, args, below, meth, c, Q, A, R, g⟩
  obtain ⟨hx, hb, hml, hown, hts, hr, hlk, hK, hA, hA0, hR, hSg, hnm, hb0⟩ := hk
  intro H locs ls hP hD hS hl
  exact lv_lxor hx hb d (kk H locs ls hP hD hS hl)
theorem xi2l (hk : Fok k cc nL own ret nm rk mc ms) {x1 : Int32} (d : decode cc pc = .ok (.i2l, 1)) (kk : Wx k cells slots lay a x (pc + 1) L (.long x1.toInt64 :: stk)) : Wx k cells slots lay a x pc L (.int x1 :: stk) := by
  rcases k with ⟨p, e, s, m, args, below, meth, c, Q, A, R, g⟩
  obtain ⟨hx, hb, hml, hown, hts, hr, hlk, hK, hA, hA0, hR, hSg, hnm, hb0⟩ := hk
  intro H locs ls hP hD hS hl
  exact lv_i2l hx hb d rfl (kk H locs ls hP hD hS hl)
theorem xl2i (hk : Fok k cc nL own ret nm rk mc ms) {x1 : Int64} (d : decode cc pc = .ok (.l2i, 1)) (kk : Wx k cells slots lay a x (pc + 1) L (.int x1.toInt32 :: stk)) : Wx k cells slots lay a x pc L (.long x1 :: stk) := by
  rcases k with ⟨p, e, s, m, args, below, meth, c, Q, A, R, g⟩
  obtain ⟨hx, hb, hml, hown, hts, hr, hlk, hK, hA, hA0, hR, hSg, hnm, hb0⟩ := hk
  intro H locs ls hP hD hS hl
  exact lv_l2i hx hb d rfl (kk H locs ls hP hD hS hl)
theorem xi2b (hk : Fok k cc nL own ret nm rk mc ms) {x1 : Int32} (d : decode cc pc = .ok (.i2b, 1)) (kk : Wx k cells slots lay a x (pc + 1) L (.int x1.toInt8.toInt32 :: stk)) : Wx k cells slots lay a x pc L (.int x1 :: stk) := by
  rcases k with ⟨p, e, s, m, args, below, meth, c, Q, A, R, g⟩
  obtain ⟨hx, hb, hml, hown, hts, hr, hlk, hK, hA, hA0, hR, hSg, hnm, hb0⟩ := hk
  intro H locs ls hP hD hS hl
  exact lv_i2b hx hb d rfl (kk H locs ls hP hD hS hl)
theorem xdup (hk : Fok k cc nL own ret nm rk mc ms) {v : Value} (d : decode cc pc = .ok (.dup, 1)) (hv : v.category = 1) (kk : Wx k cells slots lay a x (pc + 1) L (v :: v :: stk)) : Wx k cells slots lay a x pc L (v :: stk) := by
  rcases k with ⟨p, e, s, m, args, below, meth, c, Q, A, R, g⟩
  obtain ⟨hx, hb, hml, hown, hts, hr, hlk, hK, hA, hA0, hR, hSg, hnm, hb0⟩ := hk
  intro H locs ls hP hD hS hl
  exact lv_dup hx hb d hv (kk H locs ls hP hD hS hl)
theorem xpop (hk : Fok k cc nL own ret nm rk mc ms) {v : Value} (d : decode cc pc = .ok (.pop, 1)) (hv : v.category = 1) (kk : Wx k cells slots lay a x (pc + 1) L (stk)) : Wx k cells slots lay a x pc L (v :: stk) := by
  rcases k with ⟨p, e, s, m, args, below, meth, c, Q, A, R, g⟩
  obtain ⟨hx, hb, hml, hown, hts, hr, hlk, hK, hA, hA0, hR, hSg, hnm, hb0⟩ := hk
  intro H locs ls hP hD hS hl
  exact lv_pop hx hb d hv (kk H locs ls hP hD hS hl)
theorem xif_eq (hk : Fok k cc nL own ret nm rk mc ms) {x1 : Int32} {off : Int} (tgt : Nat) (d : decode cc pc = .ok (.ifCond .eq off, 3)) (ht : (pc : Int) + off = (tgt : Int)) (kt : x1 = 0 → Wx k cells slots lay a x tgt L stk) (kf : ¬ (x1 = 0) → Wx k cells slots lay a x (pc + 3) L stk) : Wx k cells slots lay a x pc L (.int x1 :: stk) := by
  rcases k with ⟨p, e, s, m, args, below, meth, c, Q, A, R, g⟩
  obtain ⟨hx, hb, hml, hown, hts, hr, hlk, hK, hA, hA0, hR, hSg, hnm, hb0⟩ := hk
  intro H locs ls hP hD hS hl
  exact lv_if_eq hx hb d ht (fun h => kt h H locs ls hP hD hS hl) (fun h => kf h H locs ls hP hD hS hl)
theorem xicmp_eq (hk : Fok k cc nL own ret nm rk mc ms) {x1 y1 : Int32} {off : Int} (tgt : Nat) (d : decode cc pc = .ok (.if_icmp .eq off, 3)) (ht : (pc : Int) + off = (tgt : Int)) (kt : x1 = y1 → Wx k cells slots lay a x tgt L stk) (kf : ¬ (x1 = y1) → Wx k cells slots lay a x (pc + 3) L stk) : Wx k cells slots lay a x pc L (.int y1 :: .int x1 :: stk) := by
  rcases k with ⟨p, e, s, m, args, below, meth, c, Q, A, R, g⟩
  obtain ⟨hx, hb, hml, hown, hts, hr, hlk, hK, hA, hA0, hR, hSg, hnm, hb0⟩ := hk
  intro H locs ls hP hD hS hl
  exact lv_icmp_eq hx hb d ht (fun h => kt h H locs ls hP hD hS hl) (fun h => kf h H locs ls hP hD hS hl)
theorem xif_ne (hk : Fok k cc nL own ret nm rk mc ms) {x1 : Int32} {off : Int} (tgt : Nat) (d : decode cc pc = .ok (.ifCond .ne off, 3)) (ht : (pc : Int) + off = (tgt : Int)) (kt : ¬ x1 = 0 → Wx k cells slots lay a x tgt L stk) (kf : x1 = 0 → Wx k cells slots lay a x (pc + 3) L stk) : Wx k cells slots lay a x pc L (.int x1 :: stk) := by
  rcases k with ⟨p, e, s, m, args, below, meth, c, Q, A, R, g⟩
  obtain ⟨hx, hb, hml, hown, hts, hr, hlk, hK, hA, hA0, hR, hSg, hnm, hb0⟩ := hk
  intro H locs ls hP hD hS hl
  exact lv_if_ne hx hb d ht (fun h => kt h H locs ls hP hD hS hl) (fun h => kf h H locs ls hP hD hS hl)
theorem xicmp_ne (hk : Fok k cc nL own ret nm rk mc ms) {x1 y1 : Int32} {off : Int} (tgt : Nat) (d : decode cc pc = .ok (.if_icmp .ne off, 3)) (ht : (pc : Int) + off = (tgt : Int)) (kt : ¬ x1 = y1 → Wx k cells slots lay a x tgt L stk) (kf : x1 = y1 → Wx k cells slots lay a x (pc + 3) L stk) : Wx k cells slots lay a x pc L (.int y1 :: .int x1 :: stk) := by
  rcases k with ⟨p, e, s, m, args, below, meth, c, Q, A, R, g⟩
  obtain ⟨hx, hb, hml, hown, hts, hr, hlk, hK, hA, hA0, hR, hSg, hnm, hb0⟩ := hk
  intro H locs ls hP hD hS hl
  exact lv_icmp_ne hx hb d ht (fun h => kt h H locs ls hP hD hS hl) (fun h => kf h H locs ls hP hD hS hl)
theorem xif_lt (hk : Fok k cc nL own ret nm rk mc ms) {x1 : Int32} {off : Int} (tgt : Nat) (d : decode cc pc = .ok (.ifCond .lt off, 3)) (ht : (pc : Int) + off = (tgt : Int)) (kt : x1 < 0 → Wx k cells slots lay a x tgt L stk) (kf : ¬ (x1 < 0) → Wx k cells slots lay a x (pc + 3) L stk) : Wx k cells slots lay a x pc L (.int x1 :: stk) := by
  rcases k with ⟨p, e, s, m, args, below, meth, c, Q, A, R, g⟩
  obtain ⟨hx, hb, hml, hown, hts, hr, hlk, hK, hA, hA0, hR, hSg, hnm, hb0⟩ := hk
  intro H locs ls hP hD hS hl
  exact lv_if_lt hx hb d ht (fun h => kt h H locs ls hP hD hS hl) (fun h => kf h H locs ls hP hD hS hl)
theorem xicmp_lt (hk : Fok k cc nL own ret nm rk mc ms) {x1 y1 : Int32} {off : Int} (tgt : Nat) (d : decode cc pc = .ok (.if_icmp .lt off, 3)) (ht : (pc : Int) + off = (tgt : Int)) (kt : x1 < y1 → Wx k cells slots lay a x tgt L stk) (kf : ¬ (x1 < y1) → Wx k cells slots lay a x (pc + 3) L stk) : Wx k cells slots lay a x pc L (.int y1 :: .int x1 :: stk) := by
  rcases k with ⟨p, e, s, m, args, below, meth, c, Q, A, R, g⟩
  obtain ⟨hx, hb, hml, hown, hts, hr, hlk, hK, hA, hA0, hR, hSg, hnm, hb0⟩ := hk
  intro H locs ls hP hD hS hl
  exact lv_icmp_lt hx hb d ht (fun h => kt h H locs ls hP hD hS hl) (fun h => kf h H locs ls hP hD hS hl)
theorem xif_ge (hk : Fok k cc nL own ret nm rk mc ms) {x1 : Int32} {off : Int} (tgt : Nat) (d : decode cc pc = .ok (.ifCond .ge off, 3)) (ht : (pc : Int) + off = (tgt : Int)) (kt : 0 ≤ x1 → Wx k cells slots lay a x tgt L stk) (kf : ¬ (0 ≤ x1) → Wx k cells slots lay a x (pc + 3) L stk) : Wx k cells slots lay a x pc L (.int x1 :: stk) := by
  rcases k with ⟨p, e, s, m, args, below, meth, c, Q, A, R, g⟩
  obtain ⟨hx, hb, hml, hown, hts, hr, hlk, hK, hA, hA0, hR, hSg, hnm, hb0⟩ := hk
  intro H locs ls hP hD hS hl
  exact lv_if_ge hx hb d ht (fun h => kt h H locs ls hP hD hS hl) (fun h => kf h H locs ls hP hD hS hl)
theorem xicmp_ge (hk : Fok k cc nL own ret nm rk mc ms) {x1 y1 : Int32} {off : Int} (tgt : Nat) (d : decode cc pc = .ok (.if_icmp .ge off, 3)) (ht : (pc : Int) + off = (tgt : Int)) (kt : y1 ≤ x1 → Wx k cells slots lay a x tgt L stk) (kf : ¬ (y1 ≤ x1) → Wx k cells slots lay a x (pc + 3) L stk) : Wx k cells slots lay a x pc L (.int y1 :: .int x1 :: stk) := by
  rcases k with ⟨p, e, s, m, args, below, meth, c, Q, A, R, g⟩
  obtain ⟨hx, hb, hml, hown, hts, hr, hlk, hK, hA, hA0, hR, hSg, hnm, hb0⟩ := hk
  intro H locs ls hP hD hS hl
  exact lv_icmp_ge hx hb d ht (fun h => kt h H locs ls hP hD hS hl) (fun h => kf h H locs ls hP hD hS hl)
theorem xif_gt (hk : Fok k cc nL own ret nm rk mc ms) {x1 : Int32} {off : Int} (tgt : Nat) (d : decode cc pc = .ok (.ifCond .gt off, 3)) (ht : (pc : Int) + off = (tgt : Int)) (kt : 0 < x1 → Wx k cells slots lay a x tgt L stk) (kf : ¬ (0 < x1) → Wx k cells slots lay a x (pc + 3) L stk) : Wx k cells slots lay a x pc L (.int x1 :: stk) := by
  rcases k with ⟨p, e, s, m, args, below, meth, c, Q, A, R, g⟩
  obtain ⟨hx, hb, hml, hown, hts, hr, hlk, hK, hA, hA0, hR, hSg, hnm, hb0⟩ := hk
  intro H locs ls hP hD hS hl
  exact lv_if_gt hx hb d ht (fun h => kt h H locs ls hP hD hS hl) (fun h => kf h H locs ls hP hD hS hl)
theorem xicmp_gt (hk : Fok k cc nL own ret nm rk mc ms) {x1 y1 : Int32} {off : Int} (tgt : Nat) (d : decode cc pc = .ok (.if_icmp .gt off, 3)) (ht : (pc : Int) + off = (tgt : Int)) (kt : y1 < x1 → Wx k cells slots lay a x tgt L stk) (kf : ¬ (y1 < x1) → Wx k cells slots lay a x (pc + 3) L stk) : Wx k cells slots lay a x pc L (.int y1 :: .int x1 :: stk) := by
  rcases k with ⟨p, e, s, m, args, below, meth, c, Q, A, R, g⟩
  obtain ⟨hx, hb, hml, hown, hts, hr, hlk, hK, hA, hA0, hR, hSg, hnm, hb0⟩ := hk
  intro H locs ls hP hD hS hl
  exact lv_icmp_gt hx hb d ht (fun h => kt h H locs ls hP hD hS hl) (fun h => kf h H locs ls hP hD hS hl)
theorem xif_le (hk : Fok k cc nL own ret nm rk mc ms) {x1 : Int32} {off : Int} (tgt : Nat) (d : decode cc pc = .ok (.ifCond .le off, 3)) (ht : (pc : Int) + off = (tgt : Int)) (kt : x1 ≤ 0 → Wx k cells slots lay a x tgt L stk) (kf : ¬ (x1 ≤ 0) → Wx k cells slots lay a x (pc + 3) L stk) : Wx k cells slots lay a x pc L (.int x1 :: stk) := by
  rcases k with ⟨p, e, s, m, args, below, meth, c, Q, A, R, g⟩
  obtain ⟨hx, hb, hml, hown, hts, hr, hlk, hK, hA, hA0, hR, hSg, hnm, hb0⟩ := hk
  intro H locs ls hP hD hS hl
  exact lv_if_le hx hb d ht (fun h => kt h H locs ls hP hD hS hl) (fun h => kf h H locs ls hP hD hS hl)
theorem xicmp_le (hk : Fok k cc nL own ret nm rk mc ms) {x1 y1 : Int32} {off : Int} (tgt : Nat) (d : decode cc pc = .ok (.if_icmp .le off, 3)) (ht : (pc : Int) + off = (tgt : Int)) (kt : x1 ≤ y1 → Wx k cells slots lay a x tgt L stk) (kf : ¬ (x1 ≤ y1) → Wx k cells slots lay a x (pc + 3) L stk) : Wx k cells slots lay a x pc L (.int y1 :: .int x1 :: stk) := by
  rcases k with ⟨p, e, s, m, args, below, meth, c, Q, A, R, g⟩
  obtain ⟨hx, hb, hml, hown, hts, hr, hlk, hK, hA, hA0, hR, hSg, hnm, hb0⟩ := hk
  intro H locs ls hP hD hS hl
  exact lv_icmp_le hx hb d ht (fun h => kt h H locs ls hP hD hS hl) (fun h => kf h H locs ls hP hD hS hl)
theorem xgoto (hk : Fok k cc nL own ret nm rk mc ms) {off : Int} (tgt : Nat) (d : decode cc pc = .ok (.goto off, 3)) (ht : (pc : Int) + off = (tgt : Int)) (kk : Wx k cells slots lay a x tgt L stk) : Wx k cells slots lay a x pc L stk := by
  rcases k with ⟨p, e, s, m, args, below, meth, c, Q, A, R, g⟩
  obtain ⟨hx, hb, hml, hown, hts, hr, hlk, hK, hA, hA0, hR, hSg, hnm, hb0⟩ := hk
  intro H locs ls hP hD hS hl
  exact lv_goto hx hb d ht (kk H locs ls hP hD hS hl)
end WX
end
section
/-! Rows of the heap, of calls and of ends -/
theorem in_GW (P : List Cond → Prop) (h0 : P wsX00) (h1 : P wsX10) (h2 : P wsX20) (h3 : P wsX30) (h4 : P wsX40) (h5 : P wsX50) (h6 : P wsX60) (h7 : P wsX70) (h8 : P wsX80) (h9 : P wsX90) (h10 : P wsJ00) (h11 : P wsJ40) {ci : Nat} {C : String} {F : u_T} {N : Nat} (h : vwCl[ci]? = some (C, F, N)) : P (u_ws C F N) := by
  match ci, h with
  | 0, h => cases h; exact h0
  | 1, h => cases h; exact h1
  | 2, h => cases h; exact h2
  | 3, h => cases h; exact h3
  | 4, h => cases h; exact h4
  | 5, h => cases h; exact h5
  | 6, h => cases h; exact h6
  | 7, h => cases h; exact h7
  | 8, h => cases h; exact h8
  | 9, h => cases h; exact h9
  | 10, h => cases h; exact h10
  | 11, h => cases h; exact h11
  | ci + 12, h => simp [vwCl] at h
theorem all_GW {ws : List Cond} (h : ws.all (fun w => goodWord w && tables_1.any (fun v => decide (v = w))) = true) : ∀ w ∈ ws, w ∈ GW := by
  intro w hw
  have h1 := List.all_eq_true.mp h w hw
  simp only [Bool.and_eq_true, List.any_eq_true, decide_eq_true_eq] at h1
  obtain ⟨hg, v, hv, rfl⟩ := h1
  exact List.mem_filter.mpr ⟨List.mem_append_right _ hv, hg⟩
theorem cls_GW {ci : Nat} {C : String} {F : u_T} {N : Nat} (h : vwCl[ci]? = some (C, F, N)) : ∀ w ∈ u_ws C F N, w ∈ GW :=
  in_GW (fun ws => ∀ w ∈ ws, w ∈ GW) (all_GW (by decide +kernel)) (all_GW (by decide +kernel)) (all_GW (by decide +kernel)) (all_GW (by decide +kernel)) (all_GW (by decide +kernel)) (all_GW (by decide +kernel)) (all_GW (by decide +kernel)) (all_GW (by decide +kernel)) (all_GW (by decide +kernel)) (all_GW (by decide +kernel)) (all_GW (by decide +kernel)) (all_GW (by decide +kernel)) h
theorem cls_ty {ci : Nat} {C : String} {F : u_T} {N : Nat} (h : vwCl[ci]? = some (C, F, N)) : (∃ ty0 : Nat → FieldType, ∀ k, k < N → parseFieldDescriptor (F k).2.2.1 = some (ty0 k)) ∧ (∀ a, a < N → ∀ b, b < N → a ≠ b → (F a).2.1 ≠ (F b).2.1) := by
  match ci, h with
  | 0, h => cases h; exact ⟨⟨_, tyX0_ok⟩, nmX0⟩
  | 1, h => cases h; exact ⟨⟨_, tyX1_ok⟩, nmX1⟩
  | 2, h => cases h; exact ⟨⟨_, tyX2_ok⟩, nmX2⟩
  | 3, h => cases h; exact ⟨⟨_, tyX3_ok⟩, nmX3⟩
  | 4, h => cases h; exact ⟨⟨_, tyX4_ok⟩, nmX4⟩
  | 5, h => cases h; exact ⟨⟨_, tyX5_ok⟩, nmX5⟩
  | 6, h => cases h; exact ⟨⟨_, tyX6_ok⟩, nmX6⟩
  | 7, h => cases h; exact ⟨⟨_, tyX7_ok⟩, nmX7⟩
  | 8, h => cases h; exact ⟨⟨_, tyX8_ok⟩, nmX8⟩
  | 9, h => cases h; exact ⟨⟨_, tyX9_ok⟩, nmX9⟩
  | 10, h => cases h; exact ⟨⟨_, tyJ0_ok⟩, nmJ0⟩
  | 11, h => cases h; exact ⟨⟨_, tyJ4_ok⟩, nmJ4⟩
  | ci + 12, h => simp [vwCl] at h
/-- a field of a class: number of the class, of the field, its kind in the layout -/
def fdOk (lay : List Kd) (q ci f t : Nat) (C : String) (F : u_T) (N : Nat) : Prop := vwCl[ci]? = some (C, F, N) ∧ f < N ∧ ∃ ft, lay[q]? = some (.inl (ci, ft)) ∧ ft[f]? = some t
section WR
variable {k : Kx} {cc : ByteArray} {nL rk mc ms pc cells slots : Nat} {own nm : String} {ret : Option FieldType} {lay : List Kd} {a : Nat → Nat} {x : XS} {L : List (Nat × Value)} {stk : List Value}
theorem xget (hk : Fok k cc nL own ret nm rk mc ms) {q ci f t idx N : Nat} {C : String} {F : u_T} (d : decode cc pc = .ok (.getfield idx, 3)) (hf : fdOk lay q ci f t C F N) (hw : Cond.fieldLink own idx (F f).1 (F f).2.1 (F f).2.2.1 ∈ GW) (kk : Wx k cells slots lay a x (pc + 3) L (fval a x q f t :: stk)) : Wx k cells slots lay a x pc L (.ref (a q) :: stk) := by
  rcases k with ⟨p, e, s, m, args, below, meth, c, Q, A, R, g⟩
  obtain ⟨hx, hb, hml, hown, hts, hr, hlk, hK, hA, hA0, hR, hSg, hnm, hb0⟩ := hk
  obtain ⟨hc, hfN, ft, hlay, hft⟩ := hf
  intro H locs ls hP hD hS hl
  exact va_get hx hb hts (cls_GW hc) hown hK hP q (wl_getO hlay hc) hc f hfN (hts _ hw) (fun _ h => h) (flist_get hft) d (kk H locs ls hP hD hS hl)
theorem xgetN (hk : Fok k cc nL own ret nm rk mc ms) {q ci f t idx N : Nat} {C host : String} {F : u_T} (d : decode cc pc = .ok (.getfield idx, 3)) (hf : fdOk lay q ci f t C F N) (hw : Cond.fieldLinkNest own idx (F f).1 (F f).2.1 (F f).2.2.1 host ∈ NW) (kk : Wx k cells slots lay a x (pc + 3) L (fval a x q f t :: stk)) : Wx k cells slots lay a x pc L (.ref (a q) :: stk) := by
  rcases k with ⟨p, e, s, m, args, below, meth, c, Q, A, R, g⟩
  obtain ⟨hx, hb, hml, hown, hts, hr, hlk, hK, hA, hA0, hR, hSg, hnm, hb0⟩ := hk
  obtain ⟨hc, hfN, ft, hlay, hft⟩ := hf
  intro H locs ls hP hD hS hl
  exact va_getN hx hb hts (cls_GW hc) hown hK hP q (wl_getO hlay hc) hc f hfN (va_Nw.use rfl (hSg.1 _ hw)) (fun _ h => h) (flist_get hft) d (kk H locs ls hP hD hS hl)
theorem xputI (hk : Fok k cc nL own ret nm rk mc ms) {q ci f idx N : Nat} {C : String} {F : u_T} {v : Int32} (d : decode cc pc = .ok (.putfield idx, 3)) (hf : fdOk lay q ci f 0 C F N) (hw : Cond.fieldLink own idx (F f).1 (F f).2.1 (F f).2.2.1 ∈ GW) (hn : (F f).2.2.2 = false ∧ parseFieldDescriptor (F f).2.2.1 = some .int) (kk : Wx k cells slots lay a (setI x q f v) (pc + 3) L stk) : Wx k cells slots lay a x pc L (.int v :: .ref (a q) :: stk) := by
  rcases k with ⟨p, e, s, m, args, below, meth, c, Q, A, R, g⟩
  obtain ⟨hx, hb, hml, hown, hts, hr, hlk, hK, hA, hA0, hR, hSg, hnm, hb0⟩ := hk
  obtain ⟨hc, hfN, ft, hlay, hft⟩ := hf
  obtain ⟨⟨ty0, hty⟩, hnd⟩ := cls_ty hc
  intro H locs ls hP hD hS hl
  refine va_put hx hb hts (cls_GW hc) ty0 hty hnd hown hK hP hD hS q (wl_getO hlay hc) hc f hfN (hts _ hw) (fun _ h => h) hn.1 hn.2 rfl rfl (by rw [flist_len]; exact (List.getElem?_eq_some_iff.mp hft).1) d (fun H1 locs1 hP hD hS => ?_)
  rw [wl_setI (vw_lt hc) hlay hft] at hP hD
  exact kk H1 locs1 ls hP hD hS hl
theorem xputIN (hk : Fok k cc nL own ret nm rk mc ms) {q ci f idx N : Nat} {C host : String} {F : u_T} {v : Int32} (d : decode cc pc = .ok (.putfield idx, 3)) (hf : fdOk lay q ci f 0 C F N) (hw : Cond.fieldLinkNest own idx (F f).1 (F f).2.1 (F f).2.2.1 host ∈ NW) (hn : (F f).2.2.2 = false ∧ parseFieldDescriptor (F f).2.2.1 = some .int) (kk : Wx k cells slots lay a (setI x q f v) (pc + 3) L stk) : Wx k cells slots lay a x pc L (.int v :: .ref (a q) :: stk) := by
  rcases k with ⟨p, e, s, m, args, below, meth, c, Q, A, R, g⟩
  obtain ⟨hx, hb, hml, hown, hts, hr, hlk, hK, hA, hA0, hR, hSg, hnm, hb0⟩ := hk
  obtain ⟨hc, hfN, ft, hlay, hft⟩ := hf
  obtain ⟨⟨ty0, hty⟩, hnd⟩ := cls_ty hc
  intro H locs ls hP hD hS hl
  refine va_putN hx hb hts (cls_GW hc) ty0 hty hnd hown hK hP hD hS q (wl_getO hlay hc) hc f hfN (va_Nw.use rfl (hSg.1 _ hw)) (fun _ h => h) hn.1 hn.2 rfl rfl (by rw [flist_len]; exact (List.getElem?_eq_some_iff.mp hft).1) d (fun H1 locs1 hP hD hS => ?_)
  rw [wl_setI (vw_lt hc) hlay hft] at hP hD
  exact kk H1 locs1 ls hP hD hS hl
theorem xputL (hk : Fok k cc nL own ret nm rk mc ms) {q ci f idx N : Nat} {C : String} {F : u_T} {v : Int64} (d : decode cc pc = .ok (.putfield idx, 3)) (hf : fdOk lay q ci f 1 C F N) (hw : Cond.fieldLink own idx (F f).1 (F f).2.1 (F f).2.2.1 ∈ GW) (hn : (F f).2.2.2 = false ∧ parseFieldDescriptor (F f).2.2.1 = some .long) (kk : Wx k cells slots lay a (setL x q f v) (pc + 3) L stk) : Wx k cells slots lay a x pc L (.long v :: .ref (a q) :: stk) := by
  rcases k with ⟨p, e, s, m, args, below, meth, c, Q, A, R, g⟩
  obtain ⟨hx, hb, hml, hown, hts, hr, hlk, hK, hA, hA0, hR, hSg, hnm, hb0⟩ := hk
  obtain ⟨hc, hfN, ft, hlay, hft⟩ := hf
  obtain ⟨⟨ty0, hty⟩, hnd⟩ := cls_ty hc
  intro H locs ls hP hD hS hl
  refine va_put hx hb hts (cls_GW hc) ty0 hty hnd hown hK hP hD hS q (wl_getO hlay hc) hc f hfN (hts _ hw) (fun _ h => h) hn.1 hn.2 rfl rfl (by rw [flist_len]; exact (List.getElem?_eq_some_iff.mp hft).1) d (fun H1 locs1 hP hD hS => ?_)
  rw [wl_setL (vw_lt hc) hlay hft] at hP hD
  exact kk H1 locs1 ls hP hD hS hl
theorem xiald (hk : Fok k cc nL own ret nm rk mc ms) {q n : Nat} {i : Int32} (d : decode cc pc = .ok (.iaload, 1)) (hq : lay[q]? = some (.inr (0, n))) (hi : vp_in i n) (kk : Wx k cells slots lay a x (pc + 1) L (.int (x.1 q i.toNatClampNeg) :: stk)) : Wx k cells slots lay a x pc L (.int i :: .ref (a q) :: stk) := by
  rcases k with ⟨p, e, s, m, args, below, meth, c, Q, A, R, g⟩
  obtain ⟨hx, hb, hml, hown, hts, hr, hlk, hK, hA, hA0, hR, hSg, hnm, hb0⟩ := hk
  intro H locs ls hP hD hS hl
  exact va_iald hx hb hK hP q 0 (wl_get hq) rfl hi d (kk H locs ls hP hD hS hl)
theorem xbald (hk : Fok k cc nL own ret nm rk mc ms) {q n : Nat} {i : Int32} (d : decode cc pc = .ok (.baload, 1)) (hq : lay[q]? = some (.inr (2, n))) (hi : vp_in i n) (kk : Wx k cells slots lay a x (pc + 1) L (.int (x.1 q i.toNatClampNeg) :: stk)) : Wx k cells slots lay a x pc L (.int i :: .ref (a q) :: stk) := by
  rcases k with ⟨p, e, s, m, args, below, meth, c, Q, A, R, g⟩
  obtain ⟨hx, hb, hml, hown, hts, hr, hlk, hK, hA, hA0, hR, hSg, hnm, hb0⟩ := hk
  intro H locs ls hP hD hS hl
  exact va_bald hx hb hK hP q 2 (wl_get hq) rfl hi d (kk H locs ls hP hD hS hl)
theorem xlald (hk : Fok k cc nL own ret nm rk mc ms) {q n : Nat} {i : Int32} (d : decode cc pc = .ok (.laload, 1)) (hq : lay[q]? = some (.inr (1, n))) (hi : vp_in i n) (kk : Wx k cells slots lay a x (pc + 1) L (.long (x.2 q i.toNatClampNeg) :: stk)) : Wx k cells slots lay a x pc L (.int i :: .ref (a q) :: stk) := by
  rcases k with ⟨p, e, s, m, args, below, meth, c, Q, A, R, g⟩
  obtain ⟨hx, hb, hml, hown, hts, hr, hlk, hK, hA, hA0, hR, hSg, hnm, hb0⟩ := hk
  intro H locs ls hP hD hS hl
  exact va_lald hx hb hK hP q 1 (wl_get hq) rfl hi d (kk H locs ls hP hD hS hl)
theorem xiast (hk : Fok k cc nL own ret nm rk mc ms) {q n : Nat} {i v : Int32} (d : decode cc pc = .ok (.iastore, 1)) (hq : lay[q]? = some (.inr (0, n))) (hi : vp_in i n) (kk : Wx k cells slots lay a (setI x q i.toNatClampNeg v) (pc + 1) L stk) : Wx k cells slots lay a x pc L (.int v :: .int i :: .ref (a q) :: stk) := by
  rcases k with ⟨p, e, s, m, args, below, meth, c, Q, A, R, g⟩
  obtain ⟨hx, hb, hml, hown, hts, hr, hlk, hK, hA, hA0, hR, hSg, hnm, hb0⟩ := hk
  intro H locs ls hP hD hS hl
  refine va_iast hx hb hK hP hD hS q 0 (wl_get hq) rfl hi d (fun H1 locs1 hP hD hS => ?_)
  rw [wl_setAI hq (by decide)] at hP hD
  exact kk H1 locs1 ls hP hD hS hl
theorem xbast (hk : Fok k cc nL own ret nm rk mc ms) {q n : Nat} {i v : Int32} (d : decode cc pc = .ok (.bastore, 1)) (hq : lay[q]? = some (.inr (2, n))) (hi : vp_in i n) (kk : Wx k cells slots lay a (setI x q i.toNatClampNeg v.toInt8.toInt32) (pc + 1) L stk) : Wx k cells slots lay a x pc L (.int v :: .int i :: .ref (a q) :: stk) := by
  rcases k with ⟨p, e, s, m, args, below, meth, c, Q, A, R, g⟩
  obtain ⟨hx, hb, hml, hown, hts, hr, hlk, hK, hA, hA0, hR, hSg, hnm, hb0⟩ := hk
  intro H locs ls hP hD hS hl
  refine va_bast hx hb hK hP hD hS q 2 (wl_get hq) rfl hi d (fun H1 locs1 hP hD hS => ?_)
  rw [vp_nar_byte, wl_setAI hq (by decide)] at hP hD
  exact kk H1 locs1 ls hP hD hS hl
theorem xlast (hk : Fok k cc nL own ret nm rk mc ms) {q n : Nat} {i : Int32} {v : Int64} (d : decode cc pc = .ok (.lastore, 1)) (hq : lay[q]? = some (.inr (1, n))) (hi : vp_in i n) (kk : Wx k cells slots lay a (setL x q i.toNatClampNeg v) (pc + 1) L stk) : Wx k cells slots lay a x pc L (.long v :: .int i :: .ref (a q) :: stk) := by
  rcases k with ⟨p, e, s, m, args, below, meth, c, Q, A, R, g⟩
  obtain ⟨hx, hb, hml, hown, hts, hr, hlk, hK, hA, hA0, hR, hSg, hnm, hb0⟩ := hk
  intro H locs ls hP hD hS hl
  refine va_last hx hb hK hP hD hS q 1 (wl_get hq) rfl hi d (fun H1 locs1 hP hD hS => ?_)
  rw [wl_setAL hq] at hP hD
  exact kk H1 locs1 ls hP hD hS hl
theorem xalen (hk : Fok k cc nL own ret nm rk mc ms) {q n t : Nat} {v : Int32} (d : decode cc pc = .ok (.arraylength, 1)) (hq : lay[q]? = some (.inr (t, n))) (ht : t < 3) (hv : Int32.ofNat n = v) (kk : Wx k cells slots lay a x (pc + 1) L (.int v :: stk)) : Wx k cells slots lay a x pc L (.ref (a q) :: stk) := by
  rcases k with ⟨p, e, s, m, args, below, meth, c, Q, A, R, g⟩
  obtain ⟨hx, hb, hml, hown, hts, hr, hlk, hK, hA, hA0, hR, hSg, hnm, hb0⟩ := hk
  intro H locs ls hP hD hS hl
  match t, ht, hq with
  | 0, _, hq => exact va_alen (v := v) hx hb hK hP q 0 (wl_get hq) rfl hv d (kk H locs ls hP hD hS hl)
  | 1, _, hq => exact va_alen (v := v) hx hb hK hP q 1 (wl_get hq) rfl hv d (kk H locs ls hP hD hS hl)
  | 2, _, hq => exact va_alen (v := v) hx hb hK hP q 2 (wl_get hq) rfl hv d (kk H locs ls hP hD hS hl)
theorem xwiden {c2 s2 : Nat} (h1 : cells ≤ c2) (h2 : slots ≤ s2) (kk : Wx k c2 s2 lay a x pc L stk) : Wx k cells slots lay a x pc L stk := by
  rcases k with ⟨p, e, s, m, args, below, meth, c, Q, A, R, g⟩
  intro H locs ls hP hD hS hl
  exact W.widen h1 h2 (kk H locs ls hP hD hS hl)
end WR
/-! A method's contract over a world of a fixed layout -/
def Aw (lay : List Kd) (a : Nat → Nat) (sz : Nat) : Nat → Prop := fun q => (∃ j, j < lay.length ∧ q = a j) ∨ sz ≤ q
def PreX (g : Gx) (lay : List Kd) (a : Nat → Nat) (x : XS) (av : List Value) (sz : Nat) : Array Value → State → Prop := va_Pc av (fun U => U.heap.size = sz ∧ g.2.2.2.1 ≤ sz ∧ va_P g.2.1 vwCl (wl g.2.2.1 lay a x) U.heap ∧ va_K g.2.1 vwCl (tysT g.2.2.1) U ∧ va_D (fun q => g.2.2.2.1 ≤ q) (wl g.2.2.1 lay a x) ∧ Sg g (fun q => g.2.2.2.1 ≤ q) U U.heap)
def PostX (g : Gx) (lay : List Kd) (a : Nat → Nat) (post : Option Value → XS → Prop) (sz : Nat) : Array Value → State → Outcome → State → Prop := fun _ st o t => (∃ (v : Option Value) (x' : XS), o = .returned v ∧ post v x' ∧ va_P g.2.1 vwCl (wl g.2.2.1 lay a x') t.heap) ∧ va_F (Aw lay a sz) st t
def roomX (rk mc ms : Nat) : Room := { frames := rk, cells := mc, slots := ms, locals := 64 * rk }
/-- the method y, from the world x with the arguments av: it returns, by post; mc cells of ms slots are new at the most -/
def Mx (g : Gx) (y : MethodName) (cc : ByteArray) (maxL : Nat) (ret : Option FieldType) (rk mc ms : Nat) (lay : List Kd) (a : Nat → Nat) (x : XS) (av : List Value) (post : Option Value → XS → Prop) : Prop :=
  ∀ sz : Nat, Met g.1 y (Cond.code y cc maxL ret :: GW) (roomX rk mc ms) (PreX g lay a x av sz) (PostX g lay a post sz) mc ms (Aw lay a sz)
def kg (k : Kx) : Gx := k.2.2.2.2.2.2.2.2.2.2.2
/-- the end that the context asks for is the contract's -/
def Ends (k : Kx) (lay : List Kd) (a : Nat → Nat) (post : Option Value → XS → Prop) (mc ms : Nat) : Prop := match k with
  | (p, e, s, m, args, below, meth, c, Q, A, R, g) => Q = MQ below (PostX g lay a post s.heap.size) args s mc ms (Aw lay a s.heap.size) ∧ A = Aw lay a s.heap.size
theorem wl_D {A : Nat → Prop} {T : Nat → ClassId} {lay : List Kd} {a : Nat → Nat} {x x' : XS} (h : va_D A (wl T lay a x)) : va_D A (wl T lay a x') := by
  have key : ∀ {k : Nat} {q : Nat × va_E}, (wl T lay a x')[k]? = some q → ∃ q0, (wl T lay a x)[k]? = some q0 ∧ q0.1 = q.1 := by
    intro k q hk
    obtain ⟨kd, h1, rfl⟩ := wl_some hk
    exact ⟨_, wl_get h1, rfl⟩
  refine ⟨fun i j p q hi hj hpq => ?_, fun k q hk => ?_⟩
  · obtain ⟨p0, h1, e1⟩ := key hi
    obtain ⟨q0, h2, e2⟩ := key hj
    exact h.1 i j p0 q0 h1 h2 (by rw [e1, e2, hpq])
  · obtain ⟨q0, h1, e1⟩ := key hk
    rw [← e1]; exact h.2 k q0 h1
theorem Aw_of {A : Nat → Prop} {T : Nat → ClassId} {lay : List Kd} {a : Nat → Nat} {x : XS} {sz : Nat} (hD : va_D A (wl T lay a x)) (hA : ∀ q : Nat, sz ≤ q → A q) : ∀ q, Aw lay a sz q → A q := by
  rintro q (⟨j, hj, rfl⟩ | h)
  · exact hD.2 j _ (wl_get (List.getElem?_eq_getElem hj))
  · exact hA q h
theorem Mx_of {g : Gx} {y : MethodName} {cc : ByteArray} {maxL : Nat} {ret : Option FieldType} {rk mc ms : Nat} {lay : List Kd} {a : Nat → Nat} {x : XS} {av : List Value} {post : Option Value → XS → Prop} (hy : plainName y.cls = true) (hav : (lg_sl av).length ≤ maxL)
    (body : ∀ k : Kx, Fok k cc maxL y.cls ret y.name rk mc ms → Ends k lay a post mc ms → g = kg k → Wx k 0 0 lay a x 0 (lv_args 0 av) []) : Mx g y cc maxL ret rk mc ms lay a x av post := by
  intro sz
  refine Met.ofW (cc := cc) (maxL := maxL) (ret := ret) hy rfl ?_
  intro p e s m args below meth c s₁ B hml hv
  obtain ⟨rfl, hsz, hb0, hP, hK, hD0, hSg⟩ := hv
  have hts := atoms_spec (ws := Cond.code y cc maxL ret :: GW) B.pre
  subst hsz
  have hAb : ∀ q, Aw lay a s.heap.size q → g.2.2.2.1 ≤ q := Aw_of hD0 (fun q h => Nat.le_trans hb0 h)
  have hD : va_D (Aw lay a s.heap.size) (wl g.2.2.1 lay a x) := hD0.weaken (fun j q hj _ => by
    obtain ⟨kd, h1, rfl⟩ := wl_some hj
    exact Or.inl ⟨j, (List.getElem?_eq_some_iff.mp h1).1, rfl⟩)
  have hl := lv_entry av hav
  rw [lg_entry_eq]
  exact body (p, e, s, m, av.toArray, below, meth, c, _, Aw lay a s.heap.size, roomX rk mc ms, g)
    ⟨B.exec, B.bytes, hml, findClass_of_methodNamed B.named, fun w hw => hts w (List.mem_cons_of_mem _ hw), B.returns, B.notSynchronized, hK, fun q h => Or.inr h, hAb, rfl, hSg, (name_of_methodNamed B.named B.method).1, hb0⟩ ⟨rfl, rfl⟩ rfl s.heap [] _ hP hD va_S.rf (by rw [hml]; exact hl)
section WE
variable {k : Kx} {cc : ByteArray} {nL rk mc ms pc cells slots : Nat} {own nm : String} {ret : Option FieldType} {lay : List Kd} {a : Nat → Nat} {x : XS} {L : List (Nat × Value)} {stk : List Value} {post : Option Value → XS → Prop}
theorem xiret (hk : Fok k cc nL own (some .int) nm rk mc ms) (he : Ends k lay a post mc ms) {v : Int32} (d : decode cc pc = .ok (.ireturn, 1)) (hc : cells ≤ mc ∧ slots ≤ ms) (hp : post (some (.int v)) x) : Wx k cells slots lay a x pc L [.int v] := by
  rcases k with ⟨p, e, s, m, args, below, meth, c, Q, A, R, g⟩
  obtain ⟨hx, hb, hml, hown, hts, hr, hlk, hK, hA, hA0, hR, hSg, hnm, hb0⟩ := hk
  obtain ⟨rfl, rfl⟩ := he
  intro H locs ls hP hD hS hl
  refine W.widen hc.1 hc.2 ?_
  exact W.iret hx hb hr (fun t ht hW => ⟨⟨_, x, rfl, hp, by rw [ht]; exact hP⟩, hS.F ht⟩) hS.2.2 d hlk
theorem xzret (hk : Fok k cc nL own (some .boolean) nm rk mc ms) (he : Ends k lay a post mc ms) {v : Int32} (d : decode cc pc = .ok (.ireturn, 1)) (hc : cells ≤ mc ∧ slots ≤ ms) (hv : narrow .boolean (.int v) = .int v) (hp : post (some (.int v)) x) : Wx k cells slots lay a x pc L [.int v] := by
  rcases k with ⟨p, e, s, m, args, below, meth, c, Q, A, R, g⟩
  obtain ⟨hx, hb, hml, hown, hts, hr, hlk, hK, hA, hA0, hR, hSg, hnm, hb0⟩ := hk
  obtain ⟨rfl, rfl⟩ := he
  intro H locs ls hP hD hS hl
  refine W.widen hc.1 hc.2 ?_
  exact W.zret hx hb hr hv (fun t ht hW => ⟨⟨_, x, rfl, hp, by rw [ht]; exact hP⟩, hS.F ht⟩) hS.2.2 d hlk
theorem xlret (hk : Fok k cc nL own (some .long) nm rk mc ms) (he : Ends k lay a post mc ms) {v : Int64} (d : decode cc pc = .ok (.lreturn, 1)) (hc : cells ≤ mc ∧ slots ≤ ms) (hp : post (some (.long v)) x) : Wx k cells slots lay a x pc L [.long v] := by
  rcases k with ⟨p, e, s, m, args, below, meth, c, Q, A, R, g⟩
  obtain ⟨hx, hb, hml, hown, hts, hr, hlk, hK, hA, hA0, hR, hSg, hnm, hb0⟩ := hk
  obtain ⟨rfl, rfl⟩ := he
  intro H locs ls hP hD hS hl
  refine W.widen hc.1 hc.2 ?_
  exact W.lret hx hb hr (fun t ht hW => ⟨⟨_, x, rfl, hp, by rw [ht]; exact hP⟩, hS.F ht⟩) hS.2.2 d hlk
theorem xvret (hk : Fok k cc nL own none nm rk mc ms) (he : Ends k lay a post mc ms) (d : decode cc pc = .ok (.return_, 1)) (hc : cells ≤ mc ∧ slots ≤ ms) (hp : post none x) : Wx k cells slots lay a x pc L [] := by
  rcases k with ⟨p, e, s, m, args, below, meth, c, Q, A, R, g⟩
  obtain ⟨hx, hb, hml, hown, hts, hr, hlk, hK, hA, hA0, hR, hSg, hnm, hb0⟩ := hk
  obtain ⟨rfl, rfl⟩ := he
  intro H locs ls hP hD hS hl
  refine W.widen hc.1 hc.2 ?_
  exact W.vret hx hb hr (fun t ht hW => ⟨⟨_, x, rfl, hp, by rw [ht]; exact hP⟩, hS.F ht⟩) hS.2.2 d hlk
/-- behind a call -/
theorem xgo {p : Program} {e : Env} {s : State} {m : MethodId} {args : Array Value} {below : List Frame} {meth : Method} {c : Code} {Q : State → Prop} {A : Nat → Prop} {R : Room} {g : Gx} {mc2 ms2 : Nat} {H : Heap} {locs : List Loc} {ls : Array Slot} {st0 : List Value} {av : Array Value}
    (hA : ∀ q : Nat, s.heap.size ≤ q → A q) (hr : va_Run p g.1 e R s m args below meth c H locs cells slots mc2 ms2 (F0 m pc ls st0) stk (PostX g lay a post H.size av) (Aw lay a H.size)) (hD : va_D A (wl g.2.2.1 lay a x)) (hS : va_S A s.heap H locs) (hl : lv_has ls c.maxLocals L)
    (kk : ∀ (v : Option Value) (x' : XS), post v x' → Wx (p, e, s, m, args, below, meth, c, Q, A, R, g) (cells + mc2) (slots + ms2) lay a x' (pc + 3) L (v.toList ++ stk)) : W p g.1 e R s m args below meth c H locs cells slots Q (F0 m pc ls st0) := by
  have hf : ∀ q, Aw lay a H.size q → A q := Aw_of hD (fun q h => hA q (Nat.le_trans hS.1 h))
  intro T hT X
  obtain ⟨v, st₀, t, T', L2, h0, X', hL, e1, e2, ⟨⟨v', x', hv, hp, hb⟩, hz, hkp⟩, st⟩ := hr T hT X
  cases hv
  rw [h0] at hz hkp
  obtain ⟨t2, a1, b1⟩ := kk v x' hp T'.heap (locs ++ L2) ls (by rw [e1]; exact hb) (wl_D hD)
    ⟨Nat.le_trans hS.1 (by rw [e1]; exact hz), fun q h1 h2 => by rw [e1, hkp q (Nat.lt_of_lt_of_le h1 hS.1) (fun z => h2 (hf q z))]; exact hS.2.1 q h1 h2, fun q hq => by
      rcases List.mem_append.mp hq with h | h
      · exact hS.2.2 q h
      · exact hf _ (hL q h)⟩ hl T' rfl X'
  exact ⟨t2, st t2 a1, b1⟩
end WE
/-- what a call needs of its callee's words -/
def CBx (y : MethodName) (cc : ByteArray) (maxL : Nat) (ret : Option FieldType) (n : Nat) : Prop := Cond.code y cc maxL ret ∈ GW ∧ Cond.initialized y.cls ∈ GW ∧ (y.cls ≠ "java/lang/invoke/MethodHandle" ∧ y.cls ≠ "java/lang/invoke/VarHandle" ∧ (parseMethodDescriptor y.desc).map (fun d => d.parameters.length) = some n) ∧ maxL ≤ 45
def CBv (y : MethodName) (cc : ByteArray) (maxL : Nat) (ret : Option FieldType) (n : Nat) : Prop := CBx y cc maxL ret n ∧ Cond.instanceMethod y ∈ GW ∧ Cond.selects y.cls y y ∈ GW
def CBs (y : MethodName) (cc : ByteArray) (maxL : Nat) (ret : Option FieldType) (n : Nat) : Prop := CBx y cc maxL ret n ∧ Cond.static y ∈ GW
theorem gw_good {ws : List Cond} {args : Array Value} {s : State} (hts : ∀ w ∈ GW, w.before args s = true) : ∀ w ∈ GW, ∀ (a' : Array Value) (U : State), s.WarmedH U.vm → w.before a' U = true :=
  fun w hw a' U hW => word_at hW (good_of_word (List.mem_filter.mp hw).2) (hts w hw)
theorem goodIn_self {y : MethodName} {cc : ByteArray} {maxL : Nat} {ret : Option FieldType} (h : Cond.code y cc maxL ret ∈ GW) : GoodIn GW (Cond.code y cc maxL ret :: GW) := fun w hw => by
  rcases List.mem_cons.mp hw with e | e
  · subst e; exact ⟨h, good_of_word (List.mem_filter.mp h).2⟩
  · exact ⟨e, good_of_word (List.mem_filter.mp e).2⟩
theorem preX_blind (g : Gx) (lay : List Kd) (a : Nat → Nat) (x : XS) (av : List Value) (sz : Nat) : FrameBlind (PreX g lay a x av sz) := by
  intro a' U g' mk q
  obtain ⟨q0, q1, q2, q3, q4, q5, q6⟩ := q
  exact ⟨q0, q1, q2, q3, va_K.moved (u := U) (U := U.calling g' mk a') (Vm.Alike.refl U.vm) q4, q5, Sg.same (u := U) (U := U.calling g' mk a') rfl q6⟩
section WC
variable {k : Kx} {cc : ByteArray} {nL rk mc ms pc cells slots : Nat} {own nm : String} {ret : Option FieldType} {lay : List Kd} {a : Nat → Nat} {x : XS} {L : List (Nat × Value)} {stk st0 : List Value} {post : Option Value → XS → Prop}
variable {y : MethodName} {cy : ByteArray} {nLy rky mcy msy n idx q : Nat} {rety : Option FieldType} {As : List Value}
/-- the callee's start, in any state that the call may find -/
theorem preX_at {s : State} {A : Nat → Prop} {g : Gx} {H : Heap} {locs : List Loc} {av : List Value} (hK : va_K g.2.1 vwCl (tysT g.2.2.1) s) (hb0 : g.2.2.2.1 ≤ s.heap.size) (hA0 : ∀ q : Nat, A q → g.2.2.2.1 ≤ q) (hSg : Sg g (fun q => g.2.2.2.1 ≤ q) s s.heap) (hP : va_P g.2.1 vwCl (wl g.2.2.1 lay a x) H) (hD : va_D A (wl g.2.2.1 lay a x)) (hS : va_S A s.heap H locs) :
    ∀ U : State, U.heap = H → s.WarmedH U.vm → PreX g lay a x av H.size av.toArray U := by
  intro U hU hW
  refine ⟨rfl, by rw [hU], Nat.le_trans hb0 hS.1, by rw [hU]; exact hP, va_K.moved hW.alike hK, hD.weaken (fun _ q _ h => hA0 q.1 h), ?_⟩
  rw [hU]
  exact (hSg.warm hW).kept (fun q h1 h2 => hS.2.1 q h1 (fun z => h2 (hA0 q z)))
end WC
section WC2
variable {k : Kx} {cc : ByteArray} {nL rk mc ms pc cells slots : Nat} {own nm : String} {ret : Option FieldType} {lay : List Kd} {a : Nat → Nat} {x : XS} {L : List (Nat × Value)} {stk st0 : List Value} {post : Option Value → XS → Prop}
variable {y : MethodName} {cy : ByteArray} {nLy rky mcy msy n idx q : Nat} {rety : Option FieldType} {As : List Value}
theorem room_in {rk mc ms rky mcy msy nLy : Nat} {R : Room} (hR : R = { frames := rk, cells := mc, slots := ms, locals := 64 * rk }) (hrk : rky < rk) (h : nLy ≤ 45) : (roomX rky mcy msy).frames + 1 ≤ R.frames ∧ 8 + (nLy + 11) + (roomX rky mcy msy).locals ≤ R.locals := by
  subst hR
  refine ⟨hrk, ?_⟩
  show 8 + (nLy + 11) + 64 * rky ≤ 64 * rk
  omega
theorem xcallV (hk : Fok k cc nL own ret nm rk mc ms) (M : Mx (kg k) y cy nLy rety rky mcy msy lay a x (.ref (a q) :: As) post) (cb : CBv y cy nLy rety n) (hw : Cond.methodLink own idx y ∈ GW) (d : decode cc pc = .ok (.invokevirtual idx, 3)) (hs : st0 = As.reverse ++ .ref (a q) :: stk) (hq : ∃ (ci : Nat) (ft : List Nat) (F : u_T) (N : Nat), lay[q]? = some (.inl (ci, ft)) ∧ vwCl[ci]? = some (y.cls, F, N)) (hn : As.length = n) (hrk : rky < rk) (hc : cells + mcy ≤ mc ∧ slots + msy ≤ ms) (hst : (stk.map fun v => v.category).sum ≤ 8)
    (kk : ∀ (v : Option Value) (x' : XS), post v x' → Wx k (cells + mcy) (slots + msy) lay a x' (pc + 3) L (v.toList ++ stk)) : Wx k cells slots lay a x pc L st0 := by
  rcases k with ⟨p, e, s, m, args, below, meth, c, Q, A, R, g⟩
  obtain ⟨hx, hb, hml, hown, hts, hr, hlk, hK, hA, hA0, hR, hSg, hnm, hb0⟩ := hk
  obtain ⟨⟨hcode, hini, hd, h45⟩, hinst, hsel⟩ := cb
  obtain ⟨ci, ft, F, N, hlay, hcl⟩ := hq
  subst hs
  intro H locs ls hP hD hS hl
  have hRR := room_in (mcy := mcy) (msy := msy) hR hrk h45
  exact xgo hA (va_runV (ws := Cond.code y cy nLy rety :: GW) (rm := roomX rky mcy msy) (Ts := GW) (own := own) (C := y.cls) (cc := cc) (nL := nL) (As := As) (rest := stk) (n := n) ⟨hx, hb, hml, hown, hts⟩ (M H.size) ⟨callB_of n hts (goodIn_self hcode) rfl rfl rfl (hts _ hini) (hts _ hw) hd hRR, hts _ hinst, hts _ hsel⟩
    ⟨preX_blind _ _ _ _ _ _, va_recv hK hP (ci := ci) (q0 := q) hcl (wl_getO hlay hcl), preX_at hK hb0 hA0 hSg hP hD hS⟩ rfl hn (hl.1.trans hml) rfl (lv_room hst) d (by subst hR; exact hc)) hD hS hl kk
theorem xcallVN {host : String} (hk : Fok k cc nL own ret nm rk mc ms) (M : Mx (kg k) y cy nLy rety rky mcy msy lay a x (.ref (a q) :: As) post) (cb : CBv y cy nLy rety n) (hw : Cond.methodLinkNest own idx y host ∈ NW) (d : decode cc pc = .ok (.invokevirtual idx, 3)) (hs : st0 = As.reverse ++ .ref (a q) :: stk) (hq : ∃ (ci : Nat) (ft : List Nat) (F : u_T) (N : Nat), lay[q]? = some (.inl (ci, ft)) ∧ vwCl[ci]? = some (y.cls, F, N)) (hn : As.length = n) (hrk : rky < rk) (hc : cells + mcy ≤ mc ∧ slots + msy ≤ ms) (hst : (stk.map fun v => v.category).sum ≤ 8)
    (kk : ∀ (v : Option Value) (x' : XS), post v x' → Wx k (cells + mcy) (slots + msy) lay a x' (pc + 3) L (v.toList ++ stk)) : Wx k cells slots lay a x pc L st0 := by
  rcases k with ⟨p, e, s, m, args, below, meth, c, Q, A, R, g⟩
  obtain ⟨hx, hb, hml, hown, hts, hr, hlk, hK, hA, hA0, hR, hSg, hnm, hb0⟩ := hk
  obtain ⟨⟨hcode, hini, hd, h45⟩, hinst, hsel⟩ := cb
  obtain ⟨ci, ft, F, N, hlay, hcl⟩ := hq
  subst hs
  intro H locs ls hP hD hS hl
  have hRR := room_in (mcy := mcy) (msy := msy) hR hrk h45
  exact xgo hA (va_runVN (ws := Cond.code y cy nLy rety :: GW) (rm := roomX rky mcy msy) (Ts := GW) (own := own) (C := y.cls) (cc := cc) (nL := nL) (As := As) (rest := stk) (n := n) ⟨hx, hb, hml, hown, hts⟩ (M H.size) ⟨va_cnB n hts (goodIn_self hcode) rfl rfl rfl (hSg.1 _ hw) (hts _ hini) hd hRR, hts _ hinst, hts _ hsel⟩
    ⟨preX_blind _ _ _ _ _ _, va_recv hK hP (ci := ci) (q0 := q) hcl (wl_getO hlay hcl), preX_at hK hb0 hA0 hSg hP hD hS⟩ rfl hn (hl.1.trans hml) rfl (lv_room hst) d (by subst hR; exact hc)) hD hS hl kk
theorem xcallS (hk : Fok k cc nL own ret nm rk mc ms) (M : Mx (kg k) y cy nLy rety rky mcy msy lay a x As post) (cb : CBs y cy nLy rety n) (hw : Cond.methodLink own idx y ∈ GW) (d : decode cc pc = .ok (.invokestatic idx, 3)) (hs : st0 = As.reverse ++ stk) (hn : As.length = n) (hrk : rky < rk) (hc : cells + mcy ≤ mc ∧ slots + msy ≤ ms) (hst : (stk.map fun v => v.category).sum ≤ 8)
    (kk : ∀ (v : Option Value) (x' : XS), post v x' → Wx k (cells + mcy) (slots + msy) lay a x' (pc + 3) L (v.toList ++ stk)) : Wx k cells slots lay a x pc L st0 := by
  rcases k with ⟨p, e, s, m, args, below, meth, c, Q, A, R, g⟩
  obtain ⟨hx, hb, hml, hown, hts, hr, hlk, hK, hA, hA0, hR, hSg, hnm, hb0⟩ := hk
  obtain ⟨⟨hcode, hini, hd, h45⟩, hstat⟩ := cb
  subst hs
  intro H locs ls hP hD hS hl
  have hRR := room_in (mcy := mcy) (msy := msy) hR hrk h45
  exact xgo hA (va_runS (ws := Cond.code y cy nLy rety :: GW) (rm := roomX rky mcy msy) (Ts := GW) (own := own) (cc := cc) (nL := nL) (As := As) (rest := stk) (n := n) ⟨hx, hb, hml, hown, hts⟩ (M H.size) ⟨callB_of n hts (goodIn_self hcode) rfl rfl rfl (hts _ hini) (hts _ hw) hd hRR, hts _ hstat⟩
    ⟨preX_blind _ _ _ _ _ _, preX_at hK hb0 hA0 hSg hP hD hS⟩ rfl hn (hl.1.trans hml) rfl (lv_room hst) d (by subst hR; exact hc)) hD hS hl kk
theorem xcallSN {host : String} (hk : Fok k cc nL own ret nm rk mc ms) (M : Mx (kg k) y cy nLy rety rky mcy msy lay a x As post) (cb : CBs y cy nLy rety n) (hw : Cond.methodLinkNest own idx y host ∈ NW) (d : decode cc pc = .ok (.invokestatic idx, 3)) (hs : st0 = As.reverse ++ stk) (hn : As.length = n) (hrk : rky < rk) (hc : cells + mcy ≤ mc ∧ slots + msy ≤ ms) (hst : (stk.map fun v => v.category).sum ≤ 8)
    (kk : ∀ (v : Option Value) (x' : XS), post v x' → Wx k (cells + mcy) (slots + msy) lay a x' (pc + 3) L (v.toList ++ stk)) : Wx k cells slots lay a x pc L st0 := by
  rcases k with ⟨p, e, s, m, args, below, meth, c, Q, A, R, g⟩
  obtain ⟨hx, hb, hml, hown, hts, hr, hlk, hK, hA, hA0, hR, hSg, hnm, hb0⟩ := hk
  obtain ⟨⟨hcode, hini, hd, h45⟩, hstat⟩ := cb
  subst hs
  intro H locs ls hP hD hS hl
  have hRR := room_in (mcy := mcy) (msy := msy) hR hrk h45
  exact xgo hA (va_runSN (ws := Cond.code y cy nLy rety :: GW) (rm := roomX rky mcy msy) (Ts := GW) (own := own) (cc := cc) (nL := nL) (As := As) (rest := stk) (n := n) ⟨hx, hb, hml, hown, hts⟩ (M H.size) ⟨va_cnB n hts (goodIn_self hcode) rfl rfl rfl (hSg.1 _ hw) (hts _ hini) hd hRR, hts _ hstat, trivial⟩
    ⟨preX_blind _ _ _ _ _ _, preX_at hK hb0 hA0 hSg hP hD hS⟩ rfl hn (hl.1.trans hml) rfl (lv_room hst) d (by subst hR; exact hc)) hD hS hl kk
end WC2
/-- an end that is said exactly: the answer v, the world x -/
def pr (v : Option Value) (x : XS) : Option Value → XS → Prop := fun v' x' => v' = v ∧ x' = x
theorem det {P : Option Value → XS → Prop} {v1 : Option Value} {x1 : XS} (h : P v1 x1) : ∀ (v : Option Value) (x' : XS), pr v1 x1 v x' → P v x' := by
  rintro _ _ ⟨rfl, rfl⟩; exact h
/-- an end with an int, and what is known of it and the world -/
def ri (P : Int32 → XS → Prop) : Option Value → XS → Prop := fun v x' => ∃ r, v = some (.int r) ∧ P r x'
theorem int {P : Option Value → XS → Prop} {P1 : Int32 → XS → Prop} (h : ∀ r x', P1 r x' → P (some (.int r)) x') : ∀ (v : Option Value) (x' : XS), ri P1 v x' → P v x' := by
  rintro _ x' ⟨r, rfl, hr⟩; exact h r x' hr
def rv (P : XS → Prop) : Option Value → XS → Prop := fun v x' => v = none ∧ P x'
theorem voi {P : Option Value → XS → Prop} {P1 : XS → Prop} (h : ∀ x', P1 x' → P none x') : ∀ (v : Option Value) (x' : XS), rv P1 v x' → P v x' := by
  rintro _ x' ⟨rfl, hr⟩; exact h x' hr
/-- the same contract under another name of its rank -/
theorem Mx_rk {g : Gx} {y : MethodName} {cc : ByteArray} {maxL : Nat} {ret : Option FieldType} {r1 r2 mc ms : Nat} {lay : List Kd} {a : Nat → Nat} {x : XS} {av : List Value} {post : Option Value → XS → Prop} (h : r1 = r2) (hM : Mx g y cc maxL ret r1 mc ms lay a x av post) : Mx g y cc maxL ret r2 mc ms lay a x av post := h ▸ hM
end
section
/-! More rows -/
section WM
variable {k : Kx} {cc : ByteArray} {nL rk mc ms pc cells slots : Nat} {own nm : String} {ret : Option FieldType} {lay : List Kd} {a : Nat → Nat} {x : XS} {L : List (Nat × Value)} {stk : List Value}
theorem xgetI (hk : Fok k cc nL own ret nm rk mc ms) {q ci f idx N : Nat} {C : String} {F : u_T} (d : decode cc pc = .ok (.getfield idx, 3)) (hf : fdOk lay q ci f 0 C F N) (hw : Cond.fieldLink own idx (F f).1 (F f).2.1 (F f).2.2.1 ∈ GW) (kk : Wx k cells slots lay a x (pc + 3) L (.int (x.1 q f) :: stk)) : Wx k cells slots lay a x pc L (.ref (a q) :: stk) := xget hk d hf hw kk
theorem xgetL (hk : Fok k cc nL own ret nm rk mc ms) {q ci f idx N : Nat} {C : String} {F : u_T} (d : decode cc pc = .ok (.getfield idx, 3)) (hf : fdOk lay q ci f 1 C F N) (hw : Cond.fieldLink own idx (F f).1 (F f).2.1 (F f).2.2.1 ∈ GW) (kk : Wx k cells slots lay a x (pc + 3) L (.long (x.2 q f) :: stk)) : Wx k cells slots lay a x pc L (.ref (a q) :: stk) := xget hk d hf hw kk
theorem xgetR (hk : Fok k cc nL own ret nm rk mc ms) {q ci f idx N j : Nat} {C : String} {F : u_T} (d : decode cc pc = .ok (.getfield idx, 3)) (hf : fdOk lay q ci f (j + 3) C F N) (hw : Cond.fieldLink own idx (F f).1 (F f).2.1 (F f).2.2.1 ∈ GW) (kk : Wx k cells slots lay a x (pc + 3) L (.ref (a j) :: stk)) : Wx k cells slots lay a x pc L (.ref (a q) :: stk) := xget hk d hf hw kk
theorem xgetNI (hk : Fok k cc nL own ret nm rk mc ms) {q ci f idx N : Nat} {C host : String} {F : u_T} (d : decode cc pc = .ok (.getfield idx, 3)) (hf : fdOk lay q ci f 0 C F N) (hw : Cond.fieldLinkNest own idx (F f).1 (F f).2.1 (F f).2.2.1 host ∈ NW) (kk : Wx k cells slots lay a x (pc + 3) L (.int (x.1 q f) :: stk)) : Wx k cells slots lay a x pc L (.ref (a q) :: stk) := xgetN hk d hf hw kk
theorem xgetNR (hk : Fok k cc nL own ret nm rk mc ms) {q ci f idx N j : Nat} {C host : String} {F : u_T} (d : decode cc pc = .ok (.getfield idx, 3)) (hf : fdOk lay q ci f (j + 3) C F N) (hw : Cond.fieldLinkNest own idx (F f).1 (F f).2.1 (F f).2.2.1 host ∈ NW) (kk : Wx k cells slots lay a x (pc + 3) L (.ref (a j) :: stk)) : Wx k cells slots lay a x pc L (.ref (a q) :: stk) := xgetN hk d hf hw kk
theorem xldc (hk : Fok k cc nL own ret nm rk mc ms) {idx : Nat} (v : Int32) (d : decode cc pc = .ok (.ldc idx, 2)) (hw : Cond.constant own idx v ∈ GW) (kk : Wx k cells slots lay a x (pc + 2) L (.int v :: stk)) : Wx k cells slots lay a x pc L stk := by
  rcases k with ⟨p, e, s, m, args, below, meth, c, Q, A, R, g⟩
  obtain ⟨hx, hb, hml, hown, hts, hr, hlk, hK, hA, hA0, hR, hSg, hnm, hb0⟩ := hk
  intro H locs ls hP hD hS hl
  exact lv_ldc hx hb hown (hts _ hw) d (kk H locs ls hP hD hS hl)
theorem xldc2 (hk : Fok k cc nL own ret nm rk mc ms) {idx : Nat} (v : Int64) (d : decode cc pc = .ok (.ldc2_w idx, 3)) (hw : Cond.constantLong own idx v ∈ GW) (kk : Wx k cells slots lay a x (pc + 3) L (.long v :: stk)) : Wx k cells slots lay a x pc L stk := by
  rcases k with ⟨p, e, s, m, args, below, meth, c, Q, A, R, g⟩
  obtain ⟨hx, hb, hml, hown, hts, hr, hlk, hK, hA, hA0, hR, hSg, hnm, hb0⟩ := hk
  intro H locs ls hP hD hS hl
  exact lv_ldc2 hx hb hown (hts _ hw) d (kk H locs ls hP hD hS hl)
theorem xlcmp (hk : Fok k cc nL own ret nm rk mc ms) {x1 y1 : Int64} (d : decode cc pc = .ok (.lcmp, 1)) (kk : Wx k cells slots lay a x (pc + 1) L (.int (lg_cmp x1 y1) :: stk)) : Wx k cells slots lay a x pc L (.long y1 :: .long x1 :: stk) := by
  rcases k with ⟨p, e, s, m, args, below, meth, c, Q, A, R, g⟩
  obtain ⟨hx, hb, hml, hown, hts, hr, hlk, hK, hA, hA0, hR, hSg, hnm, hb0⟩ := hk
  intro H locs ls hP hD hS hl
  exact W.lcmp hx hb d (kk H locs ls hP hD hS hl)
def ushrI (v n : Int32) : Int32 := (v.toUInt32 >>> (n.toUInt32 &&& Int32.toUInt32 31)).toInt32
def ushrL (v : Int64) (n : Int32) : Int64 := (v.toUInt64 >>> (n.toInt64.toUInt64 &&& Int64.toUInt64 63)).toInt64
def shlL (v : Int64) (n : Int32) : Int64 := v <<< (n.toInt64 &&& 63)
theorem xiushr (hk : Fok k cc nL own ret nm rk mc ms) {x1 y1 : Int32} (d : decode cc pc = .ok (.iushr, 1)) (kk : Wx k cells slots lay a x (pc + 1) L (.int (ushrI x1 y1) :: stk)) : Wx k cells slots lay a x pc L (.int y1 :: .int x1 :: stk) := by
  rcases k with ⟨p, e, s, m, args, below, meth, c, Q, A, R, g⟩
  obtain ⟨hx, hb, hml, hown, hts, hr, hlk, hK, hA, hA0, hR, hSg, hnm, hb0⟩ := hk
  intro H locs ls hP hD hS hl
  exact lv_iushr hx hb d rfl (kk H locs ls hP hD hS hl)
theorem xlushr (hk : Fok k cc nL own ret nm rk mc ms) {x1 : Int64} {y1 : Int32} (d : decode cc pc = .ok (.lushr, 1)) (kk : Wx k cells slots lay a x (pc + 1) L (.long (ushrL x1 y1) :: stk)) : Wx k cells slots lay a x pc L (.int y1 :: .long x1 :: stk) := by
  rcases k with ⟨p, e, s, m, args, below, meth, c, Q, A, R, g⟩
  obtain ⟨hx, hb, hml, hown, hts, hr, hlk, hK, hA, hA0, hR, hSg, hnm, hb0⟩ := hk
  intro H locs ls hP hD hS hl
  exact lv_lushr hx hb d rfl (kk H locs ls hP hD hS hl)
theorem xlshl (hk : Fok k cc nL own ret nm rk mc ms) {x1 : Int64} {y1 : Int32} (d : decode cc pc = .ok (.lshl, 1)) (kk : Wx k cells slots lay a x (pc + 1) L (.long (shlL x1 y1) :: stk)) : Wx k cells slots lay a x pc L (.int y1 :: .long x1 :: stk) := by
  rcases k with ⟨p, e, s, m, args, below, meth, c, Q, A, R, g⟩
  obtain ⟨hx, hb, hml, hown, hts, hr, hlk, hK, hA, hA0, hR, hSg, hnm, hb0⟩ := hk
  intro H locs ls hP hD hS hl
  exact lv_lshl hx hb d rfl (kk H locs ls hP hD hS hl)
theorem xidiv (hk : Fok k cc nL own ret nm rk mc ms) {x1 y1 : Int32} (d : decode cc pc = .ok (.idiv, 1)) (hne : ¬ y1 = 0) (kk : Wx k cells slots lay a x (pc + 1) L (.int (x1 / y1) :: stk)) : Wx k cells slots lay a x pc L (.int y1 :: .int x1 :: stk) := by
  rcases k with ⟨p, e, s, m, args, below, meth, c, Q, A, R, g⟩
  obtain ⟨hx, hb, hml, hown, hts, hr, hlk, hK, hA, hA0, hR, hSg, hnm, hb0⟩ := hk
  intro H locs ls hP hD hS hl
  exact lv_idiv hx hb d hne (kk H locs ls hP hD hS hl)
theorem xirem (hk : Fok k cc nL own ret nm rk mc ms) {x1 y1 : Int32} (d : decode cc pc = .ok (.irem, 1)) (hne : ¬ y1 = 0) (kk : Wx k cells slots lay a x (pc + 1) L (.int (x1 - x1 / y1 * y1) :: stk)) : Wx k cells slots lay a x pc L (.int y1 :: .int x1 :: stk) := by
  rcases k with ⟨p, e, s, m, args, below, meth, c, Q, A, R, g⟩
  obtain ⟨hx, hb, hml, hown, hts, hr, hlk, hK, hA, hA0, hR, hSg, hnm, hb0⟩ := hk
  intro H locs ls hP hD hS hl
  exact lv_irem hx hb d hne (kk H locs ls hP hD hS hl)
theorem xi2c (hk : Fok k cc nL own ret nm rk mc ms) {x1 : Int32} (d : decode cc pc = .ok (.i2c, 1)) (kk : Wx k cells slots lay a x (pc + 1) L (.int (x1.toUInt32 % 65536).toInt32 :: stk)) : Wx k cells slots lay a x pc L (.int x1 :: stk) := by
  rcases k with ⟨p, e, s, m, args, below, meth, c, Q, A, R, g⟩
  obtain ⟨hx, hb, hml, hown, hts, hr, hlk, hK, hA, hA0, hR, hSg, hnm, hb0⟩ := hk
  intro H locs ls hP hD hS hl
  exact lv_i2c hx hb d rfl (kk H locs ls hP hD hS hl)
theorem xdup2 (hk : Fok k cc nL own ret nm rk mc ms) {va vb : Value} (d : decode cc pc = .ok (.dup2, 1)) (hva : va.category = 1) (hvb : vb.category = 1) (kk : Wx k cells slots lay a x (pc + 1) L (va :: vb :: va :: vb :: stk)) : Wx k cells slots lay a x pc L (va :: vb :: stk) := by
  rcases k with ⟨p, e, s, m, args, below, meth, c, Q, A, R, g⟩
  obtain ⟨hx, hb, hml, hown, hts, hr, hlk, hK, hA, hA0, hR, hSg, hnm, hb0⟩ := hk
  intro H locs ls hP hD hS hl
  exact lv_dup2_11 hx hb d hva hvb (kk H locs ls hP hD hS hl)
def maxI (v w : Int32) : Int32 := if v < w then w else v
def minI (v w : Int32) : Int32 := if w < v then w else v
theorem xmmax (hk : Fok k cc nL own ret nm rk mc ms) {idx : Nat} {x1 y1 : Int32} (d : decode cc pc = .ok (.invokestatic idx, 3)) (hw : Cond.methodLink own idx Lib.Math.max.name ∈ GW) (hw2 : Cond.static Lib.Math.max.name ∈ GW ∧ Cond.initialized "java/lang/Math" ∈ GW ∧ Cond.code Lib.Math.max.name Lib.Math.max.code 2 (some .int) ∈ GW) (hrk : 0 < rk) (hc : cells ≤ mc ∧ slots ≤ ms) (hst : (stk.map fun v => v.category).sum ≤ 8) (kk : Wx k cells slots lay a x (pc + 3) L (.int (maxI x1 y1) :: stk)) : Wx k cells slots lay a x pc L (.int y1 :: .int x1 :: stk) := by
  rcases k with ⟨p, e, s, m, args, below, meth, c, Q, A, R, g⟩
  obtain ⟨hx, hb, hml, hown, hts, hr, hlk, hK, hA, hA0, hR, hSg, hnm, hb0⟩ := hk
  subst hR
  intro H locs ls hP hD hS hl
  exact va_mmax hx hb hl.1.symm hown (hts _ hw) (hts _ hw2.1) (hts _ hw2.2.1) (hts _ hw2.2.2) (by exact hrk) (by show _ + 13 ≤ 64 * rk; omega) (by exact hc.1) (by exact hc.2) d (kk H locs ls hP hD hS hl)
theorem xmmin (hk : Fok k cc nL own ret nm rk mc ms) {idx : Nat} {x1 y1 : Int32} (d : decode cc pc = .ok (.invokestatic idx, 3)) (hw : Cond.methodLink own idx Lib.Math.min.name ∈ GW) (hw2 : Cond.static Lib.Math.min.name ∈ GW ∧ Cond.initialized "java/lang/Math" ∈ GW ∧ Cond.code Lib.Math.min.name Lib.Math.min.code 2 (some .int) ∈ GW) (hrk : 0 < rk) (hc : cells ≤ mc ∧ slots ≤ ms) (hst : (stk.map fun v => v.category).sum ≤ 8) (kk : Wx k cells slots lay a x (pc + 3) L (.int (minI x1 y1) :: stk)) : Wx k cells slots lay a x pc L (.int y1 :: .int x1 :: stk) := by
  rcases k with ⟨p, e, s, m, args, below, meth, c, Q, A, R, g⟩
  obtain ⟨hx, hb, hml, hown, hts, hr, hlk, hK, hA, hA0, hR, hSg, hnm, hb0⟩ := hk
  subst hR
  intro H locs ls hP hD hS hl
  exact va_mmin hx hb hl.1.symm hown (hts _ hw) (hts _ hw2.1) (hts _ hw2.2.1) (hts _ hw2.2.2) (by exact hrk) (by show _ + 13 ≤ 64 * rk; omega) (by exact hc.1) (by exact hc.2) d (kk H locs ls hP hD hS hl)
theorem xlookup (hk : Fok k cc nL own ret nm rk mc ms) {dflt : Int} {ps : Array (Int × Int)} {len : Nat} {y1 : Int32} {off : Int} (tgt : Nat) (d : decode cc pc = .ok (.lookupswitch dflt ps, len)) (hp : (ps.toList.zip (ps.toList.drop 1)).all (fun (a, next) => a.1 < next.1) = true) (ho : Op.lookupswitch.offset ps.toList dflt y1.toInt = off) (ht : (pc : Int) + off = (tgt : Int)) (kk : Wx k cells slots lay a x tgt L stk) : Wx k cells slots lay a x pc L (.int y1 :: stk) := by
  rcases k with ⟨p, e, s, m, args, below, meth, c, Q, A, R, g⟩
  obtain ⟨hx, hb, hml, hown, hts, hr, hlk, hK, hA, hA0, hR, hSg, hnm, hb0⟩ := hk
  intro H locs ls hP hD hS hl
  exact lv_lookup hx hb d hp ho ht (kk H locs ls hP hD hS hl)
theorem xtableOut (hk : Fok k cc nL own ret nm rk mc ms) {dflt lo hi : Int} {offs : Array Int} {len : Nat} {y1 : Int32} (tgt : Nat) (d : decode cc pc = .ok (.tableswitch dflt lo hi offs, len)) (h : y1.toInt < lo ∨ hi < y1.toInt) (ht : (pc : Int) + dflt = (tgt : Int)) (kk : Wx k cells slots lay a x tgt L stk) : Wx k cells slots lay a x pc L (.int y1 :: stk) := by
  rcases k with ⟨p, e, s, m, args, below, meth, c, Q, A, R, g⟩
  obtain ⟨hx, hb, hml, hown, hts, hr, hlk, hK, hA, hA0, hR, hSg, hnm, hb0⟩ := hk
  intro H locs ls hP hD hS hl
  exact lv_tableOut hx hb d h ht (kk H locs ls hP hD hS hl)
theorem xtableIn (hk : Fok k cc nL own ret nm rk mc ms) {dflt lo hi : Int} {offs : Array Int} {len : Nat} {y1 : Int32} {off : Int} (tgt : Nat) (d : decode cc pc = .ok (.tableswitch dflt lo hi offs, len)) (h1 : ¬ y1.toInt < lo) (h2 : ¬ hi < y1.toInt) (ho : offs[(y1.toInt - lo).toNat]? = some off) (ht : (pc : Int) + off = (tgt : Int)) (kk : Wx k cells slots lay a x tgt L stk) : Wx k cells slots lay a x pc L (.int y1 :: stk) := by
  rcases k with ⟨p, e, s, m, args, below, meth, c, Q, A, R, g⟩
  obtain ⟨hx, hb, hml, hown, hts, hr, hlk, hK, hA, hA0, hR, hSg, hnm, hb0⟩ := hk
  intro H locs ls hP hD hS hl
  exact lv_tableIn hx hb d h1 h2 ho ht (kk H locs ls hP hD hS hl)
theorem xgetsR (hk : Fok k cc nL own ret nm rk mc ms) {idx : Nat} (d : decode cc pc = .ok (.getstatic idx, 3)) (hw : Cond.fieldLink own idx RX3 "RIDES_IN_WORD" "[J" ∈ GW) (kk : Wx k cells slots lay a x (pc + 3) L (.ref ((kg k).2.2.2.2 0) :: stk)) : Wx k cells slots lay a x pc L stk := by
  rcases k with ⟨p, e, s, m, args, below, meth, c, Q, A, R, g⟩
  obtain ⟨hx, hb, hml, hown, hts, hr, hlk, hK, hA, hA0, hR, hSg, hnm, hb0⟩ := hk
  intro H locs ls hP hD hS hl
  exact va_gets hx hb (hSg.2.1.narrow hA0) hS hown (hts _ hw) (fun _ h => h) d (kk H locs ls hP hD hS hl)
theorem xridesLen (hk : Fok k cc nL own ret nm rk mc ms) (d : decode cc pc = .ok (.arraylength, 1)) (kk : Wx k cells slots lay a x (pc + 1) L (.int 6 :: stk)) : Wx k cells slots lay a x pc L (.ref ((kg k).2.2.2.2 0) :: stk) := by
  rcases k with ⟨p, e, s, m, args, below, meth, c, Q, A, R, g⟩
  obtain ⟨hx, hb, hml, hown, hts, hr, hlk, hK, hA, hA0, hR, hSg, hnm, hb0⟩ := hk
  intro H locs ls hP hD hS hl
  exact va_tlen hx hb (hSg.2.2.1.narrow hA0) hS rfl d (kk H locs ls hP hD hS hl)
theorem xridesGet (hk : Fok k cc nL own ret nm rk mc ms) {i : Int32} (d : decode cc pc = .ok (.laload, 1)) (hi : vp_in i 6) (kk : Wx k cells slots lay a x (pc + 1) L (ridesV i.toNatClampNeg :: stk)) : Wx k cells slots lay a x pc L (.int i :: .ref ((kg k).2.2.2.2 0) :: stk) := by
  rcases k with ⟨p, e, s, m, args, below, meth, c, Q, A, R, g⟩
  obtain ⟨hx, hb, hml, hown, hts, hr, hlk, hK, hA, hA0, hR, hSg, hnm, hb0⟩ := hk
  intro H locs ls hP hD hS hl
  exact va_tl hx hb (hSg.2.2.1.narrow hA0) hS hi rfl d (kk H locs ls hP hD hS hl)
end WM
def b2i (b : Bool) : Int32 := if b then 1 else 0
theorem b2i_0 (b : Bool) : b2i b = 0 ↔ b = false := by cases b <;> simp [b2i]
theorem b2i_1 (b : Bool) : b2i b = 1 ↔ b = true := by cases b <;> simp [b2i]
theorem nar_b (b : Bool) : narrow .boolean (.int (b2i b)) = .int (b2i b) := by cases b <;> rfl
/-! The places of the cells: the book's, the reference's -/
def LF : List Kd := [.inl (8, [4, 6, 11, 24, 37, 40, 43, 47, 49, 50, 0]), .inl (5, [5, 0]), .inr (2, 2000), .inl (6, [7, 8, 9, 10, 0, 0, 1]), .inr (1, 27), .inr (0, 401), .inr (0, 401), .inr (1, 401),
  .inl (0, [0, 0, 12, 13, 14, 15, 16, 0, 17, 18, 19, 20, 0, 21, 22, 23]), .inr (0, 20), .inr (0, 20), .inr (0, 20), .inr (0, 20), .inr (0, 20), .inr (0, 16), .inr (0, 16), .inr (0, 16), .inr (0, 16), .inr (0, 400), .inr (0, 400), .inr (0, 400),
  .inl (0, [0, 0, 25, 26, 27, 28, 29, 0, 30, 31, 32, 33, 0, 34, 35, 36]), .inr (0, 20), .inr (0, 20), .inr (0, 20), .inr (0, 20), .inr (0, 20), .inr (0, 16), .inr (0, 16), .inr (0, 16), .inr (0, 16), .inr (0, 400), .inr (0, 400), .inr (0, 400),
  .inl (4, [6, 11, 38, 39, 0, 0, 0]), .inr (1, 10), .inr (1, 20), .inl (7, [24, 41, 42, 0, 0, 0]), .inr (0, 20), .inr (0, 20), .inl (3, [24, 44, 45, 46, 0, 0, 0]), .inr (1, 16), .inr (1, 16), .inr (1, 320),
  .inl (2, [24, 40, 43, 48, 0]), .inr (0, 400), .inl (1, [0, 0, 0]), .inl (1, [0, 0, 0])]
/-- fewer listed locals -/
theorem xlocs {k : Kx} {pc cells slots : Nat} {lay : List Kd} {a : Nat → Nat} {x : XS} {L L' : List (Nat × Value)} {stk : List Value} (h : ∀ q ∈ L', q ∈ L) (kk : Wx k cells slots lay a x pc L' stk) : Wx k cells slots lay a x pc L stk := by
  rcases k with ⟨p, e, s, m, args, below, meth, c, Q, A, R, g⟩
  intro H locs ls hP hD hS hl
  exact kk H locs ls hP hD hS (has_mono hl h)
/-- fewer listed locals, by a program: every listed one is there -/
theorem xsub {k : Kx} {pc cells slots : Nat} {lay : List Kd} {a : Nat → Nat} {x : XS} {L : List (Nat × Value)} {stk : List Value} (L' : List (Nat × Value)) (h : L'.map (fun q => lk L q.1) = L'.map (fun q => some q.2)) (kk : Wx k cells slots lay a x pc L' stk) : Wx k cells slots lay a x pc L stk := by
  refine xlocs (fun q hq => ?_) kk
  obtain ⟨i, hi⟩ := List.getElem?_of_mem hq
  have h1 : (L'.map (fun q => lk L q.1))[i]? = (L'.map (fun q => some q.2))[i]? := by rw [h]
  rw [List.getElem?_map, List.getElem?_map, hi] at h1
  exact lk_mem (Option.some.inj h1)
theorem mw_max : Cond.static Lib.Math.max.name ∈ GW ∧ Cond.initialized "java/lang/Math" ∈ GW ∧ Cond.code Lib.Math.max.name Lib.Math.max.code 2 (some .int) ∈ GW := by
  refine ⟨?_, ?_, ?_⟩ <;> exact all_GW (ws := [_]) (by decide +kernel) _ List.mem_cons_self
theorem mw_min : Cond.static Lib.Math.min.name ∈ GW ∧ Cond.initialized "java/lang/Math" ∈ GW ∧ Cond.code Lib.Math.min.name Lib.Math.min.code 2 (some .int) ∈ GW := by
  refine ⟨?_, ?_, ?_⟩ <;> exact all_GW (ws := [_]) (by decide +kernel) _ List.mem_cons_self
theorem xldcw {k : Kx} {cc : ByteArray} {nL rk mc ms pc cells slots : Nat} {own nm : String} {ret : Option FieldType} {lay : List Kd} {a : Nat → Nat} {x : XS} {L : List (Nat × Value)} {stk : List Value} (hk : Fok k cc nL own ret nm rk mc ms) {idx : Nat} (v : Int32) (d : decode cc pc = .ok (.ldc_w idx, 3)) (hw : Cond.constant own idx v ∈ GW) (kk : Wx k cells slots lay a x (pc + 3) L (.int v :: stk)) : Wx k cells slots lay a x pc L stk := by
  rcases k with ⟨p, e, s, m, args, below, meth, c, Q, A, R, g⟩
  obtain ⟨hx, hb, hml, hown, hts, hr, hlk, hK, hA, hA0, hR, hSg, hnm, hb0⟩ := hk
  intro H locs ls hP hD hS hl
  exact lv_ldcw hx hb hown (hts _ hw) d (kk H locs ls hP hD hS hl)
end
