theorem dX8_digestStatements_51 : decode cX8_digestStatements 51 = .ok (.lload_n 3, 1) := by decide +kernel
theorem dX8_digestStatements_52 : decode cX8_digestStatements 52 = .ok (.ldc2_w 223, 3) := by decide +kernel
theorem dX8_digestStatements_55 : decode cX8_digestStatements 55 = .ok (.lmul, 1) := by decide +kernel
theorem dX8_digestStatements_56 : decode cX8_digestStatements 56 = .ok (.aload_n 0, 1) := by decide +kernel
theorem dX8_digestStatements_57 : decode cX8_digestStatements 57 = .ok (.getfield 30, 3) := by decide +kernel
theorem dX8_digestStatements_60 : decode cX8_digestStatements 60 = .ok (.iload 5, 2) := by decide +kernel
theorem dX8_digestStatements_62 : decode cX8_digestStatements 62 = .ok (.invokevirtual 146, 3) := by decide +kernel
theorem dX8_digestStatements_65 : decode cX8_digestStatements 65 = .ok (.i2l, 1) := by decide +kernel
theorem dX8_digestStatements_66 : decode cX8_digestStatements 66 = .ok (.ladd, 1) := by decide +kernel
theorem dX8_digestStatements_67 : decode cX8_digestStatements 67 = .ok (.lstore_n 3, 1) := by decide +kernel
theorem dX8_digestStatements_68 : decode cX8_digestStatements 68 = .ok (.lload_n 3, 1) := by decide +kernel
theorem dX8_digestStatements_69 : decode cX8_digestStatements 69 = .ok (.ldc2_w 223, 3) := by decide +kernel
theorem dX8_digestStatements_72 : decode cX8_digestStatements 72 = .ok (.lmul, 1) := by decide +kernel
theorem dX8_digestStatements_73 : decode cX8_digestStatements 73 = .ok (.aload_n 0, 1) := by decide +kernel
theorem dX8_digestStatements_74 : decode cX8_digestStatements 74 = .ok (.getfield 70, 3) := by decide +kernel
theorem dX8_digestStatements_77 : decode cX8_digestStatements 77 = .ok (.getfield 128, 3) := by decide +kernel
theorem dX8_digestStatements_80 : decode cX8_digestStatements 80 = .ok (.iload 5, 2) := by decide +kernel
theorem dX8_digestStatements_82 : decode cX8_digestStatements 82 = .ok (.invokestatic 149, 3) := by decide +kernel
theorem dX8_digestStatements_85 : decode cX8_digestStatements 85 = .ok (.ifCond .eq 7, 3) := by decide +kernel
theorem dX8_digestStatements_88 : decode cX8_digestStatements 88 = .ok (.iconst 1, 1) := by decide +kernel
theorem dX8_digestStatements_89 : decode cX8_digestStatements 89 = .ok (.goto 4, 3) := by decide +kernel
theorem dX8_digestStatements_92 : decode cX8_digestStatements 92 = .ok (.iconst 0, 1) := by decide +kernel
theorem dX8_digestStatements_93 : decode cX8_digestStatements 93 = .ok (.i2l, 1) := by decide +kernel
theorem dX8_digestStatements_94 : decode cX8_digestStatements 94 = .ok (.ladd, 1) := by decide +kernel
theorem dX8_digestStatements_95 : decode cX8_digestStatements 95 = .ok (.lstore_n 3, 1) := by decide +kernel
theorem dX8_digestStatements_96 : decode cX8_digestStatements 96 = .ok (.iinc 5 1, 3) := by decide +kernel
theorem dX8_digestStatements_99 : decode cX8_digestStatements 99 = .ok (.goto (-94), 3) := by decide +kernel
theorem dX8_digestStatements_102 : decode cX8_digestStatements 102 = .ok (.lload_n 3, 1) := by decide +kernel
theorem dX8_digestStatements_103 : decode cX8_digestStatements 103 = .ok (.lreturn, 1) := by decide +kernel
theorem dX8_digestClaims_0 : decode cX8_digestClaims 0 = .ok (.lload_n 1, 1) := by decide +kernel
theorem dX8_digestClaims_1 : decode cX8_digestClaims 1 = .ok (.lstore_n 3, 1) := by decide +kernel
theorem dX8_digestClaims_2 : decode cX8_digestClaims 2 = .ok (.iconst 0, 1) := by decide +kernel
theorem dX8_digestClaims_3 : decode cX8_digestClaims 3 = .ok (.istore 5, 2) := by decide +kernel
theorem dX8_digestClaims_5 : decode cX8_digestClaims 5 = .ok (.iload 5, 2) := by decide +kernel
theorem dX8_digestClaims_7 : decode cX8_digestClaims 7 = .ok (.iconst 2, 1) := by decide +kernel
theorem dX8_digestClaims_8 : decode cX8_digestClaims 8 = .ok (.aload_n 0, 1) := by decide +kernel
theorem dX8_digestClaims_9 : decode cX8_digestClaims 9 = .ok (.getfield 30, 3) := by decide +kernel
theorem dX8_digestClaims_12 : decode cX8_digestClaims 12 = .ok (.getfield 113, 3) := by decide +kernel
theorem dX8_digestClaims_15 : decode cX8_digestClaims 15 = .ok (.imul, 1) := by decide +kernel
theorem dX8_digestClaims_16 : decode cX8_digestClaims 16 = .ok (.if_icmp .ge 87, 3) := by decide +kernel
theorem dX8_digestClaims_19 : decode cX8_digestClaims 19 = .ok (.lload_n 3, 1) := by decide +kernel
theorem dX8_digestClaims_20 : decode cX8_digestClaims 20 = .ok (.ldc2_w 223, 3) := by decide +kernel
theorem dX8_digestClaims_23 : decode cX8_digestClaims 23 = .ok (.lmul, 1) := by decide +kernel
theorem dX8_digestClaims_24 : decode cX8_digestClaims 24 = .ok (.aload_n 0, 1) := by decide +kernel
theorem dX8_digestClaims_25 : decode cX8_digestClaims 25 = .ok (.getfield 47, 3) := by decide +kernel
theorem dX8_digestClaims_28 : decode cX8_digestClaims 28 = .ok (.aload_n 0, 1) := by decide +kernel
theorem dX8_digestClaims_29 : decode cX8_digestClaims 29 = .ok (.getfield 70, 3) := by decide +kernel
theorem dX8_digestClaims_32 : decode cX8_digestClaims 32 = .ok (.getfield 128, 3) := by decide +kernel
theorem dX8_digestClaims_35 : decode cX8_digestClaims 35 = .ok (.iload 5, 2) := by decide +kernel
theorem dX8_digestClaims_37 : decode cX8_digestClaims 37 = .ok (.invokevirtual 166, 3) := by decide +kernel
theorem dX8_digestClaims_40 : decode cX8_digestClaims 40 = .ok (.invokestatic 131, 3) := by decide +kernel
theorem dX8_digestClaims_43 : decode cX8_digestClaims 43 = .ok (.i2l, 1) := by decide +kernel
theorem dX8_digestClaims_44 : decode cX8_digestClaims 44 = .ok (.ladd, 1) := by decide +kernel
theorem dX8_digestClaims_45 : decode cX8_digestClaims 45 = .ok (.lstore_n 3, 1) := by decide +kernel
theorem dX8_digestClaims_46 : decode cX8_digestClaims 46 = .ok (.lload_n 3, 1) := by decide +kernel
theorem dX8_digestClaims_47 : decode cX8_digestClaims 47 = .ok (.ldc2_w 223, 3) := by decide +kernel
theorem dX8_digestClaims_50 : decode cX8_digestClaims 50 = .ok (.lmul, 1) := by decide +kernel
theorem dX8_digestClaims_51 : decode cX8_digestClaims 51 = .ok (.aload_n 0, 1) := by decide +kernel
theorem dX8_digestClaims_52 : decode cX8_digestClaims 52 = .ok (.getfield 47, 3) := by decide +kernel
theorem dX8_digestClaims_55 : decode cX8_digestClaims 55 = .ok (.aload_n 0, 1) := by decide +kernel
theorem dX8_digestClaims_56 : decode cX8_digestClaims 56 = .ok (.getfield 70, 3) := by decide +kernel
theorem dX8_digestClaims_59 : decode cX8_digestClaims 59 = .ok (.getfield 128, 3) := by decide +kernel
theorem dX8_digestClaims_62 : decode cX8_digestClaims 62 = .ok (.iload 5, 2) := by decide +kernel
theorem dX8_digestClaims_64 : decode cX8_digestClaims 64 = .ok (.invokevirtual 178, 3) := by decide +kernel
theorem dX8_digestClaims_67 : decode cX8_digestClaims 67 = .ok (.invokestatic 181, 3) := by decide +kernel
theorem dX8_digestClaims_70 : decode cX8_digestClaims 70 = .ok (.i2l, 1) := by decide +kernel
theorem dX8_digestClaims_71 : decode cX8_digestClaims 71 = .ok (.ladd, 1) := by decide +kernel
theorem dX8_digestClaims_72 : decode cX8_digestClaims 72 = .ok (.lstore_n 3, 1) := by decide +kernel
theorem dX8_digestClaims_73 : decode cX8_digestClaims 73 = .ok (.lload_n 3, 1) := by decide +kernel
theorem dX8_digestClaims_74 : decode cX8_digestClaims 74 = .ok (.ldc2_w 223, 3) := by decide +kernel
theorem dX8_digestClaims_77 : decode cX8_digestClaims 77 = .ok (.lmul, 1) := by decide +kernel
theorem dX8_digestClaims_78 : decode cX8_digestClaims 78 = .ok (.aload_n 0, 1) := by decide +kernel
theorem dX8_digestClaims_79 : decode cX8_digestClaims 79 = .ok (.getfield 54, 3) := by decide +kernel
theorem dX8_digestClaims_82 : decode cX8_digestClaims 82 = .ok (.aload_n 0, 1) := by decide +kernel
theorem dX8_digestClaims_83 : decode cX8_digestClaims 83 = .ok (.getfield 70, 3) := by decide +kernel
theorem dX8_digestClaims_86 : decode cX8_digestClaims 86 = .ok (.getfield 128, 3) := by decide +kernel
theorem dX8_digestClaims_89 : decode cX8_digestClaims 89 = .ok (.iload 5, 2) := by decide +kernel
theorem dX8_digestClaims_91 : decode cX8_digestClaims 91 = .ok (.invokevirtual 184, 3) := by decide +kernel
theorem dX8_digestClaims_94 : decode cX8_digestClaims 94 = .ok (.i2l, 1) := by decide +kernel
theorem dX8_digestClaims_95 : decode cX8_digestClaims 95 = .ok (.ladd, 1) := by decide +kernel
theorem dX8_digestClaims_96 : decode cX8_digestClaims 96 = .ok (.lstore_n 3, 1) := by decide +kernel
theorem dX8_digestClaims_97 : decode cX8_digestClaims 97 = .ok (.iinc 5 1, 3) := by decide +kernel
theorem dX8_digestClaims_100 : decode cX8_digestClaims 100 = .ok (.goto (-95), 3) := by decide +kernel
theorem dX8_digestClaims_103 : decode cX8_digestClaims 103 = .ok (.lload_n 3, 1) := by decide +kernel
theorem dX8_digestClaims_104 : decode cX8_digestClaims 104 = .ok (.lreturn, 1) := by decide +kernel
theorem dX8_digestPeace_0 : decode cX8_digestPeace 0 = .ok (.lload_n 1, 1) := by decide +kernel
theorem dX8_digestPeace_1 : decode cX8_digestPeace 1 = .ok (.lstore_n 3, 1) := by decide +kernel
theorem dX8_digestPeace_2 : decode cX8_digestPeace 2 = .ok (.aload_n 0, 1) := by decide +kernel
theorem dX8_digestPeace_3 : decode cX8_digestPeace 3 = .ok (.getfield 54, 3) := by decide +kernel
theorem dX8_digestPeace_6 : decode cX8_digestPeace 6 = .ok (.aload_n 0, 1) := by decide +kernel
theorem dX8_digestPeace_7 : decode cX8_digestPeace 7 = .ok (.getfield 70, 3) := by decide +kernel
theorem dX8_digestPeace_10 : decode cX8_digestPeace 10 = .ok (.getfield 128, 3) := by decide +kernel
theorem dX8_digestPeace_13 : decode cX8_digestPeace 13 = .ok (.invokevirtual 156, 3) := by decide +kernel
theorem dX8_digestPeace_16 : decode cX8_digestPeace 16 = .ok (.ifCond .ne 5, 3) := by decide +kernel
theorem dX8_digestPeace_19 : decode cX8_digestPeace 19 = .ok (.lload_n 3, 1) := by decide +kernel
theorem dX8_digestPeace_20 : decode cX8_digestPeace 20 = .ok (.lreturn, 1) := by decide +kernel
theorem dX8_digestPeace_21 : decode cX8_digestPeace 21 = .ok (.aload_n 0, 1) := by decide +kernel
theorem dX8_digestPeace_22 : decode cX8_digestPeace 22 = .ok (.getfield 54, 3) := by decide +kernel
theorem dX8_digestPeace_25 : decode cX8_digestPeace 25 = .ok (.aload_n 0, 1) := by decide +kernel
theorem dX8_digestPeace_26 : decode cX8_digestPeace 26 = .ok (.getfield 70, 3) := by decide +kernel
theorem dX8_digestPeace_29 : decode cX8_digestPeace 29 = .ok (.getfield 128, 3) := by decide +kernel
theorem dX8_digestPeace_32 : decode cX8_digestPeace 32 = .ok (.invokevirtual 195, 3) := by decide +kernel
theorem dX8_digestPeace_35 : decode cX8_digestPeace 35 = .ok (.istore 5, 2) := by decide +kernel
theorem dX8_digestPeace_37 : decode cX8_digestPeace 37 = .ok (.iconst 0, 1) := by decide +kernel
theorem dX8_digestPeace_38 : decode cX8_digestPeace 38 = .ok (.istore 6, 2) := by decide +kernel
theorem dX8_digestPeace_40 : decode cX8_digestPeace 40 = .ok (.iload 6, 2) := by decide +kernel
theorem dX8_digestPeace_42 : decode cX8_digestPeace 42 = .ok (.aload_n 0, 1) := by decide +kernel
theorem dX8_digestPeace_43 : decode cX8_digestPeace 43 = .ok (.getfield 30, 3) := by decide +kernel
theorem dX8_digestPeace_46 : decode cX8_digestPeace 46 = .ok (.getfield 113, 3) := by decide +kernel
theorem dX8_digestPeace_49 : decode cX8_digestPeace 49 = .ok (.if_icmp .ge 32, 3) := by decide +kernel
theorem dX8_digestPeace_52 : decode cX8_digestPeace 52 = .ok (.lload_n 3, 1) := by decide +kernel
theorem dX8_digestPeace_53 : decode cX8_digestPeace 53 = .ok (.ldc2_w 223, 3) := by decide +kernel
theorem dX8_digestPeace_56 : decode cX8_digestPeace 56 = .ok (.lmul, 1) := by decide +kernel
theorem dX8_digestPeace_57 : decode cX8_digestPeace 57 = .ok (.iload 5, 2) := by decide +kernel
theorem dX8_digestPeace_59 : decode cX8_digestPeace 59 = .ok (.iload 6, 2) := by decide +kernel
theorem dX8_digestPeace_61 : decode cX8_digestPeace 61 = .ok (.invokestatic 149, 3) := by decide +kernel
theorem dX8_digestPeace_64 : decode cX8_digestPeace 64 = .ok (.ifCond .eq 7, 3) := by decide +kernel
theorem dX8_digestPeace_67 : decode cX8_digestPeace 67 = .ok (.iconst 1, 1) := by decide +kernel
theorem dX8_digestPeace_68 : decode cX8_digestPeace 68 = .ok (.goto 4, 3) := by decide +kernel
theorem dX8_digestPeace_71 : decode cX8_digestPeace 71 = .ok (.iconst 0, 1) := by decide +kernel
theorem dX8_digestPeace_72 : decode cX8_digestPeace 72 = .ok (.i2l, 1) := by decide +kernel
theorem dX8_digestPeace_73 : decode cX8_digestPeace 73 = .ok (.ladd, 1) := by decide +kernel
theorem dX8_digestPeace_74 : decode cX8_digestPeace 74 = .ok (.lstore_n 3, 1) := by decide +kernel
theorem dX8_digestPeace_75 : decode cX8_digestPeace 75 = .ok (.iinc 6 1, 3) := by decide +kernel
theorem dX8_digestPeace_78 : decode cX8_digestPeace 78 = .ok (.goto (-38), 3) := by decide +kernel
theorem dX8_digestPeace_81 : decode cX8_digestPeace 81 = .ok (.lload_n 3, 1) := by decide +kernel
theorem dX8_digestPeace_82 : decode cX8_digestPeace 82 = .ok (.lreturn, 1) := by decide +kernel
theorem dX8_begin_0 : decode cX8_begin 0 = .ok (.aload_n 0, 1) := by decide +kernel
theorem dX8_begin_1 : decode cX8_begin 1 = .ok (.getfield 30, 3) := by decide +kernel
theorem dX8_begin_4 : decode cX8_begin 4 = .ok (.aload_n 0, 1) := by decide +kernel
theorem dX8_begin_5 : decode cX8_begin 5 = .ok (.getfield 26, 3) := by decide +kernel
theorem dX8_begin_8 : decode cX8_begin 8 = .ok (.invokevirtual 235, 3) := by decide +kernel
theorem dX8_begin_11 : decode cX8_begin 11 = .ok (.aload_n 0, 1) := by decide +kernel
theorem dX8_begin_12 : decode cX8_begin 12 = .ok (.getfield 47, 3) := by decide +kernel
theorem dX8_begin_15 : decode cX8_begin 15 = .ok (.invokevirtual 237, 3) := by decide +kernel
theorem dX8_begin_18 : decode cX8_begin 18 = .ok (.aload_n 0, 1) := by decide +kernel
theorem dX8_begin_19 : decode cX8_begin 19 = .ok (.getfield 54, 3) := by decide +kernel
theorem dX8_begin_22 : decode cX8_begin 22 = .ok (.invokevirtual 240, 3) := by decide +kernel
theorem dX8_begin_25 : decode cX8_begin 25 = .ok (.aload_n 0, 1) := by decide +kernel
theorem dX8_begin_26 : decode cX8_begin 26 = .ok (.getfield 70, 3) := by decide +kernel
theorem dX8_begin_29 : decode cX8_begin 29 = .ok (.aload_n 0, 1) := by decide +kernel
theorem dX8_begin_30 : decode cX8_begin 30 = .ok (.getfield 30, 3) := by decide +kernel
theorem dX8_begin_33 : decode cX8_begin 33 = .ok (.getfield 116, 3) := by decide +kernel
theorem dX8_begin_36 : decode cX8_begin 36 = .ok (.invokevirtual 243, 3) := by decide +kernel
theorem dX8_begin_39 : decode cX8_begin 39 = .ok (.return_, 1) := by decide +kernel
theorem dX8_needStatement_0 : decode cX8_needStatement 0 = .ok (.iload_n 1, 1) := by decide +kernel
theorem dX8_needStatement_1 : decode cX8_needStatement 1 = .ok (.ifCond .lt 14, 3) := by decide +kernel
theorem dX8_needStatement_4 : decode cX8_needStatement 4 = .ok (.iload_n 1, 1) := by decide +kernel
theorem dX8_needStatement_5 : decode cX8_needStatement 5 = .ok (.aload_n 0, 1) := by decide +kernel
theorem dX8_needStatement_6 : decode cX8_needStatement 6 = .ok (.getfield 30, 3) := by decide +kernel
theorem dX8_needStatement_9 : decode cX8_needStatement 9 = .ok (.getfield 116, 3) := by decide +kernel
theorem dX8_needStatement_12 : decode cX8_needStatement 12 = .ok (.if_icmp .lt 13, 3) := by decide +kernel
theorem dX8_needStatement_15 : decode cX8_needStatement 15 = .ok (.new 190, 3) := by decide +kernel
theorem dX8_needStatement_18 : decode cX8_needStatement 18 = .ok (.dup, 1) := by decide +kernel
theorem dX8_needStatement_19 : decode cX8_needStatement 19 = .ok (.ldc 245, 2) := by decide +kernel
theorem dX8_needStatement_21 : decode cX8_needStatement 21 = .ok (.invokespecial 194, 3) := by decide +kernel
theorem dX8_needStatement_24 : decode cX8_needStatement 24 = .ok (.athrow, 1) := by decide +kernel
theorem dX8_needStatement_25 : decode cX8_needStatement 25 = .ok (.return_, 1) := by decide +kernel
theorem dX8_needStanding_0 : decode cX8_needStanding 0 = .ok (.aload_n 0, 1) := by decide +kernel
theorem dX8_needStanding_1 : decode cX8_needStanding 1 = .ok (.getfield 70, 3) := by decide +kernel
theorem dX8_needStanding_4 : decode cX8_needStanding 4 = .ok (.getfield 128, 3) := by decide +kernel
theorem dX8_needStanding_7 : decode cX8_needStanding 7 = .ok (.iload_n 1, 1) := by decide +kernel
theorem dX8_needStanding_8 : decode cX8_needStanding 8 = .ok (.invokestatic 149, 3) := by decide +kernel
theorem dX8_needStanding_11 : decode cX8_needStanding 11 = .ok (.ifCond .ne 13, 3) := by decide +kernel
theorem dX8_needStanding_14 : decode cX8_needStanding 14 = .ok (.new 84, 3) := by decide +kernel
theorem dX8_needStanding_17 : decode cX8_needStanding 17 = .ok (.dup, 1) := by decide +kernel
theorem dX8_needStanding_18 : decode cX8_needStanding 18 = .ok (.ldc 247, 2) := by decide +kernel
theorem dX8_needStanding_20 : decode cX8_needStanding 20 = .ok (.invokespecial 88, 3) := by decide +kernel
theorem dX8_needStanding_23 : decode cX8_needStanding 23 = .ok (.athrow, 1) := by decide +kernel
theorem dX8_needStanding_24 : decode cX8_needStanding 24 = .ok (.return_, 1) := by decide +kernel
theorem dX8_needClaim_0 : decode cX8_needClaim 0 = .ok (.iload_n 1, 1) := by decide +kernel
theorem dX8_needClaim_1 : decode cX8_needClaim 1 = .ok (.ifCond .lt 16, 3) := by decide +kernel
theorem dX8_needClaim_4 : decode cX8_needClaim 4 = .ok (.iload_n 1, 1) := by decide +kernel
theorem dX8_needClaim_5 : decode cX8_needClaim 5 = .ok (.iconst 2, 1) := by decide +kernel
theorem dX8_needClaim_6 : decode cX8_needClaim 6 = .ok (.aload_n 0, 1) := by decide +kernel
theorem dX8_needClaim_7 : decode cX8_needClaim 7 = .ok (.getfield 30, 3) := by decide +kernel
theorem dX8_needClaim_10 : decode cX8_needClaim 10 = .ok (.getfield 113, 3) := by decide +kernel
theorem dX8_needClaim_13 : decode cX8_needClaim 13 = .ok (.imul, 1) := by decide +kernel
theorem dX8_needClaim_14 : decode cX8_needClaim 14 = .ok (.if_icmp .lt 13, 3) := by decide +kernel
theorem dX8_needClaim_17 : decode cX8_needClaim 17 = .ok (.new 190, 3) := by decide +kernel
theorem dX8_needClaim_20 : decode cX8_needClaim 20 = .ok (.dup, 1) := by decide +kernel
theorem dX8_needClaim_21 : decode cX8_needClaim 21 = .ok (.ldc 249, 2) := by decide +kernel
theorem dX8_needClaim_23 : decode cX8_needClaim 23 = .ok (.invokespecial 194, 3) := by decide +kernel
theorem dX8_needClaim_26 : decode cX8_needClaim 26 = .ok (.athrow, 1) := by decide +kernel
theorem dX8_needClaim_27 : decode cX8_needClaim 27 = .ok (.return_, 1) := by decide +kernel
theorem dX8_needPeace_0 : decode cX8_needPeace 0 = .ok (.aload_n 0, 1) := by decide +kernel
theorem dX8_needPeace_1 : decode cX8_needPeace 1 = .ok (.getfield 54, 3) := by decide +kernel
theorem dX8_needPeace_4 : decode cX8_needPeace 4 = .ok (.aload_n 0, 1) := by decide +kernel
theorem dX8_needPeace_5 : decode cX8_needPeace 5 = .ok (.getfield 70, 3) := by decide +kernel
theorem dX8_needPeace_8 : decode cX8_needPeace 8 = .ok (.getfield 128, 3) := by decide +kernel
theorem dX8_needPeace_11 : decode cX8_needPeace 11 = .ok (.invokevirtual 156, 3) := by decide +kernel
theorem dX8_needPeace_14 : decode cX8_needPeace 14 = .ok (.ifCond .ne 13, 3) := by decide +kernel
theorem dX8_needPeace_17 : decode cX8_needPeace 17 = .ok (.new 84, 3) := by decide +kernel
theorem dX8_needPeace_20 : decode cX8_needPeace 20 = .ok (.dup, 1) := by decide +kernel
theorem dX8_needPeace_21 : decode cX8_needPeace 21 = .ok (.ldc 251, 2) := by decide +kernel
theorem dX8_needPeace_23 : decode cX8_needPeace 23 = .ok (.invokespecial 88, 3) := by decide +kernel
theorem dX8_needPeace_26 : decode cX8_needPeace 26 = .ok (.athrow, 1) := by decide +kernel
theorem dX8_needPeace_27 : decode cX8_needPeace 27 = .ok (.return_, 1) := by decide +kernel
theorem dX8_needDays_0 : decode cX8_needDays 0 = .ok (.iload_n 1, 1) := by decide +kernel
theorem dX8_needDays_1 : decode cX8_needDays 1 = .ok (.iconst 1, 1) := by decide +kernel
theorem dX8_needDays_2 : decode cX8_needDays 2 = .ok (.if_icmp .lt 9, 3) := by decide +kernel
theorem dX8_needDays_5 : decode cX8_needDays 5 = .ok (.iload_n 1, 1) := by decide +kernel
theorem dX8_needDays_6 : decode cX8_needDays 6 = .ok (.bipush 30, 2) := by decide +kernel
theorem dX8_needDays_8 : decode cX8_needDays 8 = .ok (.if_icmp .le 13, 3) := by decide +kernel
theorem dX8_needDays_11 : decode cX8_needDays 11 = .ok (.new 95, 3) := by decide +kernel
theorem dX8_needDays_14 : decode cX8_needDays 14 = .ok (.dup, 1) := by decide +kernel
theorem dX8_needDays_15 : decode cX8_needDays 15 = .ok (.ldc 253, 2) := by decide +kernel
theorem dX8_needDays_17 : decode cX8_needDays 17 = .ok (.invokespecial 99, 3) := by decide +kernel
theorem dX8_needDays_20 : decode cX8_needDays 20 = .ok (.athrow, 1) := by decide +kernel
theorem dX8_needDays_21 : decode cX8_needDays 21 = .ok (.return_, 1) := by decide +kernel
theorem dX8_has_0 : decode cX8_has 0 = .ok (.iload_n 0, 1) := by decide +kernel
theorem dX8_has_1 : decode cX8_has 1 = .ok (.iload_n 1, 1) := by decide +kernel
theorem dX8_has_2 : decode cX8_has 2 = .ok (.ishr, 1) := by decide +kernel
theorem dX8_has_3 : decode cX8_has 3 = .ok (.iconst 1, 1) := by decide +kernel
theorem dX8_has_4 : decode cX8_has 4 = .ok (.iand, 1) := by decide +kernel
theorem dX8_has_5 : decode cX8_has 5 = .ok (.ifCond .eq 7, 3) := by decide +kernel
theorem dX8_has_8 : decode cX8_has 8 = .ok (.iconst 1, 1) := by decide +kernel
theorem dX8_has_9 : decode cX8_has 9 = .ok (.goto 4, 3) := by decide +kernel
theorem dX8_has_12 : decode cX8_has 12 = .ok (.iconst 0, 1) := by decide +kernel
theorem dX8_has_13 : decode cX8_has 13 = .ok (.ireturn, 1) := by decide +kernel
theorem dX8_with_0 : decode cX8_with 0 = .ok (.iload_n 0, 1) := by decide +kernel
theorem dX8_with_1 : decode cX8_with 1 = .ok (.iconst 1, 1) := by decide +kernel
theorem dX8_with_2 : decode cX8_with 2 = .ok (.iload_n 1, 1) := by decide +kernel
theorem dX8_with_3 : decode cX8_with 3 = .ok (.ishl, 1) := by decide +kernel
theorem dX8_with_4 : decode cX8_with 4 = .ok (.ior, 1) := by decide +kernel
theorem dX8_with_5 : decode cX8_with 5 = .ok (.ireturn, 1) := by decide +kernel
theorem dX8_without_0 : decode cX8_without 0 = .ok (.iload_n 0, 1) := by decide +kernel
theorem dX8_without_1 : decode cX8_without 1 = .ok (.iconst 1, 1) := by decide +kernel
theorem dX8_without_2 : decode cX8_without 2 = .ok (.iload_n 1, 1) := by decide +kernel
theorem dX8_without_3 : decode cX8_without 3 = .ok (.ishl, 1) := by decide +kernel
theorem dX8_without_4 : decode cX8_without 4 = .ok (.iconst (-1), 1) := by decide +kernel
theorem dX8_without_5 : decode cX8_without 5 = .ok (.ixor, 1) := by decide +kernel
theorem dX8_without_6 : decode cX8_without 6 = .ok (.iand, 1) := by decide +kernel
theorem dX8_without_7 : decode cX8_without 7 = .ok (.ireturn, 1) := by decide +kernel
theorem dX8_lowest_0 : decode cX8_lowest 0 = .ok (.iconst 0, 1) := by decide +kernel
theorem dX8_lowest_1 : decode cX8_lowest 1 = .ok (.istore_n 1, 1) := by decide +kernel
theorem dX8_lowest_2 : decode cX8_lowest 2 = .ok (.iload_n 1, 1) := by decide +kernel
theorem dX8_lowest_3 : decode cX8_lowest 3 = .ok (.bipush 32, 2) := by decide +kernel
theorem dX8_lowest_5 : decode cX8_lowest 5 = .ok (.if_icmp .ge 19, 3) := by decide +kernel
theorem dX8_lowest_8 : decode cX8_lowest 8 = .ok (.iload_n 0, 1) := by decide +kernel
theorem dX8_lowest_9 : decode cX8_lowest 9 = .ok (.iload_n 1, 1) := by decide +kernel
theorem dX8_lowest_10 : decode cX8_lowest 10 = .ok (.invokestatic 149, 3) := by decide +kernel
theorem dX8_lowest_13 : decode cX8_lowest 13 = .ok (.ifCond .eq 5, 3) := by decide +kernel
theorem dX8_lowest_16 : decode cX8_lowest 16 = .ok (.iload_n 1, 1) := by decide +kernel
theorem dX8_lowest_17 : decode cX8_lowest 17 = .ok (.ireturn, 1) := by decide +kernel
theorem dX8_lowest_18 : decode cX8_lowest 18 = .ok (.iinc 1 1, 3) := by decide +kernel
theorem dX8_lowest_21 : decode cX8_lowest 21 = .ok (.goto (-19), 3) := by decide +kernel
theorem dX8_lowest_24 : decode cX8_lowest 24 = .ok (.iconst (-1), 1) := by decide +kernel
theorem dX8_lowest_25 : decode cX8_lowest 25 = .ok (.ireturn, 1) := by decide +kernel
theorem dX9_init_0 : decode cX9_init 0 = .ok (.aload_n 0, 1) := by decide +kernel
theorem dX9_init_1 : decode cX9_init 1 = .ok (.invokespecial 1, 3) := by decide +kernel
theorem dX9_init_4 : decode cX9_init 4 = .ok (.aload_n 0, 1) := by decide +kernel
theorem dX9_init_5 : decode cX9_init 5 = .ok (.iconst 0, 1) := by decide +kernel
theorem dX9_init_6 : decode cX9_init 6 = .ok (.anewarray 7, 3) := by decide +kernel
theorem dX9_init_9 : decode cX9_init 9 = .ok (.putfield 9, 3) := by decide +kernel
theorem dX9_init_12 : decode cX9_init 12 = .ok (.aload_n 0, 1) := by decide +kernel
theorem dX9_init_13 : decode cX9_init 13 = .ok (.iconst 0, 1) := by decide +kernel
theorem dX9_init_14 : decode cX9_init 14 = .ok (.anewarray 7, 3) := by decide +kernel
theorem dX9_init_17 : decode cX9_init 17 = .ok (.putfield 15, 3) := by decide +kernel
theorem dX9_init_20 : decode cX9_init 20 = .ok (.return_, 1) := by decide +kernel
theorem dX9_with_0 : decode cX9_with 0 = .ok (.aload_n 0, 1) := by decide +kernel
theorem dX9_with_1 : decode cX9_with 1 = .ok (.arraylength, 1) := by decide +kernel
theorem dX9_with_2 : decode cX9_with 2 = .ok (.iconst 1, 1) := by decide +kernel
theorem dX9_with_3 : decode cX9_with 3 = .ok (.iadd, 1) := by decide +kernel
theorem dX9_with_4 : decode cX9_with 4 = .ok (.anewarray 7, 3) := by decide +kernel
theorem dX9_with_7 : decode cX9_with 7 = .ok (.astore_n 2, 1) := by decide +kernel
theorem dX9_with_8 : decode cX9_with 8 = .ok (.iconst 0, 1) := by decide +kernel
theorem dX9_with_9 : decode cX9_with 9 = .ok (.istore_n 3, 1) := by decide +kernel
theorem dX9_with_10 : decode cX9_with 10 = .ok (.iload_n 3, 1) := by decide +kernel
theorem dX9_with_11 : decode cX9_with 11 = .ok (.aload_n 0, 1) := by decide +kernel
theorem dX9_with_12 : decode cX9_with 12 = .ok (.arraylength, 1) := by decide +kernel
theorem dX9_with_13 : decode cX9_with 13 = .ok (.if_icmp .ge 15, 3) := by decide +kernel
theorem dX9_with_16 : decode cX9_with 16 = .ok (.aload_n 2, 1) := by decide +kernel
theorem dX9_with_17 : decode cX9_with 17 = .ok (.iload_n 3, 1) := by decide +kernel
theorem dX9_with_18 : decode cX9_with 18 = .ok (.aload_n 0, 1) := by decide +kernel
theorem dX9_with_19 : decode cX9_with 19 = .ok (.iload_n 3, 1) := by decide +kernel
theorem dX9_with_20 : decode cX9_with 20 = .ok (.aaload, 1) := by decide +kernel
theorem dX9_with_21 : decode cX9_with 21 = .ok (.aastore, 1) := by decide +kernel
theorem dX9_with_22 : decode cX9_with 22 = .ok (.iinc 3 1, 3) := by decide +kernel
theorem dX9_with_25 : decode cX9_with 25 = .ok (.goto (-15), 3) := by decide +kernel
theorem dX9_with_28 : decode cX9_with 28 = .ok (.aload_n 2, 1) := by decide +kernel
theorem dX9_with_29 : decode cX9_with 29 = .ok (.aload_n 0, 1) := by decide +kernel
theorem dX9_with_30 : decode cX9_with 30 = .ok (.arraylength, 1) := by decide +kernel
theorem dX9_with_31 : decode cX9_with 31 = .ok (.aload_n 1, 1) := by decide +kernel
theorem dX9_with_32 : decode cX9_with 32 = .ok (.aastore, 1) := by decide +kernel
theorem dX9_with_33 : decode cX9_with 33 = .ok (.aload_n 2, 1) := by decide +kernel
theorem dX9_with_34 : decode cX9_with 34 = .ok (.areturn, 1) := by decide +kernel
theorem dX9_standing_0 : decode cX9_standing 0 = .ok (.iconst 0, 1) := by decide +kernel
theorem dX9_standing_1 : decode cX9_standing 1 = .ok (.istore_n 1, 1) := by decide +kernel
theorem dX9_standing_2 : decode cX9_standing 2 = .ok (.aload_n 0, 1) := by decide +kernel
theorem dX9_standing_3 : decode cX9_standing 3 = .ok (.getfield 9, 3) := by decide +kernel
theorem dX9_standing_6 : decode cX9_standing 6 = .ok (.astore_n 2, 1) := by decide +kernel
theorem dX9_standing_7 : decode cX9_standing 7 = .ok (.aload_n 2, 1) := by decide +kernel
theorem dX9_standing_8 : decode cX9_standing 8 = .ok (.arraylength, 1) := by decide +kernel
theorem dX9_standing_9 : decode cX9_standing 9 = .ok (.istore_n 3, 1) := by decide +kernel
theorem dX9_standing_10 : decode cX9_standing 10 = .ok (.iconst 0, 1) := by decide +kernel
theorem dX9_standing_11 : decode cX9_standing 11 = .ok (.istore 4, 2) := by decide +kernel
theorem dX9_standing_13 : decode cX9_standing 13 = .ok (.iload 4, 2) := by decide +kernel
theorem dX9_standing_15 : decode cX9_standing 15 = .ok (.iload_n 3, 1) := by decide +kernel
theorem dX9_standing_16 : decode cX9_standing 16 = .ok (.if_icmp .ge 22, 3) := by decide +kernel
theorem dX9_standing_19 : decode cX9_standing 19 = .ok (.aload_n 2, 1) := by decide +kernel
theorem dX9_standing_20 : decode cX9_standing 20 = .ok (.iload 4, 2) := by decide +kernel
theorem dX9_standing_22 : decode cX9_standing 22 = .ok (.aaload, 1) := by decide +kernel
theorem dX9_standing_23 : decode cX9_standing 23 = .ok (.astore 5, 2) := by decide +kernel
theorem dX9_standing_25 : decode cX9_standing 25 = .ok (.iload_n 1, 1) := by decide +kernel
theorem dX9_standing_26 : decode cX9_standing 26 = .ok (.aload 5, 2) := by decide +kernel
theorem dX9_standing_28 : decode cX9_standing 28 = .ok (.iconst 3, 1) := by decide +kernel
theorem dX9_standing_29 : decode cX9_standing 29 = .ok (.iaload, 1) := by decide +kernel
theorem dX9_standing_30 : decode cX9_standing 30 = .ok (.iadd, 1) := by decide +kernel
theorem dX9_standing_31 : decode cX9_standing 31 = .ok (.istore_n 1, 1) := by decide +kernel
theorem dX9_standing_32 : decode cX9_standing 32 = .ok (.iinc 4 1, 3) := by decide +kernel
theorem dX9_standing_35 : decode cX9_standing 35 = .ok (.goto (-22), 3) := by decide +kernel
theorem dX9_standing_38 : decode cX9_standing 38 = .ok (.iload_n 1, 1) := by decide +kernel
theorem dX9_standing_39 : decode cX9_standing 39 = .ok (.ireturn, 1) := by decide +kernel
theorem dX9_holds_0 : decode cX9_holds 0 = .ok (.aload_n 0, 1) := by decide +kernel
theorem dX9_holds_1 : decode cX9_holds 1 = .ok (.iload_n 1, 1) := by decide +kernel
theorem dX9_holds_2 : decode cX9_holds 2 = .ok (.iconst 2, 1) := by decide +kernel
theorem dX9_holds_3 : decode cX9_holds 3 = .ok (.idiv, 1) := by decide +kernel
theorem dX9_holds_4 : decode cX9_holds 4 = .ok (.iaload, 1) := by decide +kernel
theorem dX9_holds_5 : decode cX9_holds 5 = .ok (.iload_n 1, 1) := by decide +kernel
theorem dX9_holds_6 : decode cX9_holds 6 = .ok (.iconst 2, 1) := by decide +kernel
theorem dX9_holds_7 : decode cX9_holds 7 = .ok (.irem, 1) := by decide +kernel
theorem dX9_holds_8 : decode cX9_holds 8 = .ok (.if_icmp .ne 7, 3) := by decide +kernel
theorem dX9_holds_11 : decode cX9_holds 11 = .ok (.iconst 1, 1) := by decide +kernel
theorem dX9_holds_12 : decode cX9_holds 12 = .ok (.goto 4, 3) := by decide +kernel
theorem dX9_holds_15 : decode cX9_holds 15 = .ok (.iconst 0, 1) := by decide +kernel
theorem dX9_holds_16 : decode cX9_holds 16 = .ok (.ireturn, 1) := by decide +kernel
theorem dX9_isKept_0 : decode cX9_isKept 0 = .ok (.aload_n 1, 1) := by decide +kernel
theorem dX9_isKept_1 : decode cX9_isKept 1 = .ok (.iconst 3, 1) := by decide +kernel
theorem dX9_isKept_2 : decode cX9_isKept 2 = .ok (.iaload, 1) := by decide +kernel
theorem dX9_isKept_3 : decode cX9_isKept 3 = .ok (.ifCond .ne 5, 3) := by decide +kernel
theorem dX9_isKept_6 : decode cX9_isKept 6 = .ok (.iconst 1, 1) := by decide +kernel
theorem dX9_isKept_7 : decode cX9_isKept 7 = .ok (.ireturn, 1) := by decide +kernel
theorem dX9_isKept_8 : decode cX9_isKept 8 = .ok (.aload_n 2, 1) := by decide +kernel
theorem dX9_isKept_9 : decode cX9_isKept 9 = .ok (.aload_n 1, 1) := by decide +kernel
theorem dX9_isKept_10 : decode cX9_isKept 10 = .ok (.iconst 1, 1) := by decide +kernel
theorem dX9_isKept_11 : decode cX9_isKept 11 = .ok (.iaload, 1) := by decide +kernel
theorem dX9_isKept_12 : decode cX9_isKept 12 = .ok (.invokestatic 37, 3) := by decide +kernel
theorem dX9_isKept_15 : decode cX9_isKept 15 = .ok (.istore_n 3, 1) := by decide +kernel
theorem dX9_isKept_16 : decode cX9_isKept 16 = .ok (.aload_n 2, 1) := by decide +kernel
theorem dX9_isKept_17 : decode cX9_isKept 17 = .ok (.aload_n 1, 1) := by decide +kernel
theorem dX9_isKept_18 : decode cX9_isKept 18 = .ok (.iconst 2, 1) := by decide +kernel
theorem dX9_isKept_19 : decode cX9_isKept 19 = .ok (.iaload, 1) := by decide +kernel
theorem dX9_isKept_20 : decode cX9_isKept 20 = .ok (.invokestatic 37, 3) := by decide +kernel
theorem dX9_isKept_23 : decode cX9_isKept 23 = .ok (.istore 4, 2) := by decide +kernel
theorem dX9_isKept_25 : decode cX9_isKept 25 = .ok (.aload_n 1, 1) := by decide +kernel
theorem dX9_isKept_26 : decode cX9_isKept 26 = .ok (.iconst 0, 1) := by decide +kernel
theorem dX9_isKept_27 : decode cX9_isKept 27 = .ok (.iaload, 1) := by decide +kernel
theorem dX9_isKept_28 : decode cX9_isKept 28 = .ok (.ifCond .ne 20, 3) := by decide +kernel
theorem dX9_isKept_31 : decode cX9_isKept 31 = .ok (.iload_n 3, 1) := by decide +kernel
theorem dX9_isKept_32 : decode cX9_isKept 32 = .ok (.ifCond .eq 8, 3) := by decide +kernel
theorem dX9_isKept_35 : decode cX9_isKept 35 = .ok (.iload 4, 2) := by decide +kernel
theorem dX9_isKept_37 : decode cX9_isKept 37 = .ok (.ifCond .eq 7, 3) := by decide +kernel
theorem dX9_isKept_40 : decode cX9_isKept 40 = .ok (.iconst 1, 1) := by decide +kernel
theorem dX9_isKept_41 : decode cX9_isKept 41 = .ok (.goto 56, 3) := by decide +kernel
theorem dX9_isKept_44 : decode cX9_isKept 44 = .ok (.iconst 0, 1) := by decide +kernel
theorem dX9_isKept_45 : decode cX9_isKept 45 = .ok (.goto 52, 3) := by decide +kernel
theorem dX9_isKept_48 : decode cX9_isKept 48 = .ok (.aload_n 1, 1) := by decide +kernel
theorem dX9_isKept_49 : decode cX9_isKept 49 = .ok (.iconst 0, 1) := by decide +kernel
theorem dX9_isKept_50 : decode cX9_isKept 50 = .ok (.iaload, 1) := by decide +kernel
theorem dX9_isKept_51 : decode cX9_isKept 51 = .ok (.iconst 1, 1) := by decide +kernel
theorem dX9_isKept_52 : decode cX9_isKept 52 = .ok (.if_icmp .ne 20, 3) := by decide +kernel
theorem dX9_isKept_55 : decode cX9_isKept 55 = .ok (.iload_n 3, 1) := by decide +kernel
theorem dX9_isKept_56 : decode cX9_isKept 56 = .ok (.ifCond .ne 8, 3) := by decide +kernel
theorem dX9_isKept_59 : decode cX9_isKept 59 = .ok (.iload 4, 2) := by decide +kernel
theorem dX9_isKept_61 : decode cX9_isKept 61 = .ok (.ifCond .eq 7, 3) := by decide +kernel
theorem dX9_isKept_64 : decode cX9_isKept 64 = .ok (.iconst 1, 1) := by decide +kernel
theorem dX9_isKept_65 : decode cX9_isKept 65 = .ok (.goto 32, 3) := by decide +kernel
theorem dX9_isKept_68 : decode cX9_isKept 68 = .ok (.iconst 0, 1) := by decide +kernel
theorem dX9_isKept_69 : decode cX9_isKept 69 = .ok (.goto 28, 3) := by decide +kernel
theorem dX9_isKept_72 : decode cX9_isKept 72 = .ok (.aload_n 1, 1) := by decide +kernel
theorem dX9_isKept_73 : decode cX9_isKept 73 = .ok (.iconst 0, 1) := by decide +kernel
theorem dX9_isKept_74 : decode cX9_isKept 74 = .ok (.iaload, 1) := by decide +kernel
theorem dX9_isKept_75 : decode cX9_isKept 75 = .ok (.iconst 2, 1) := by decide +kernel
theorem dX9_isKept_76 : decode cX9_isKept 76 = .ok (.if_icmp .ne 20, 3) := by decide +kernel
theorem dX9_isKept_79 : decode cX9_isKept 79 = .ok (.iload_n 3, 1) := by decide +kernel
theorem dX9_isKept_80 : decode cX9_isKept 80 = .ok (.ifCond .eq 8, 3) := by decide +kernel
theorem dX9_isKept_83 : decode cX9_isKept 83 = .ok (.iload 4, 2) := by decide +kernel
theorem dX9_isKept_85 : decode cX9_isKept 85 = .ok (.ifCond .ne 7, 3) := by decide +kernel
theorem dX9_isKept_88 : decode cX9_isKept 88 = .ok (.iconst 1, 1) := by decide +kernel
theorem dX9_isKept_89 : decode cX9_isKept 89 = .ok (.goto 8, 3) := by decide +kernel
theorem dX9_isKept_92 : decode cX9_isKept 92 = .ok (.iconst 0, 1) := by decide +kernel
theorem dX9_isKept_93 : decode cX9_isKept 93 = .ok (.goto 4, 3) := by decide +kernel
theorem dX9_isKept_96 : decode cX9_isKept 96 = .ok (.iload_n 3, 1) := by decide +kernel
theorem dX9_isKept_97 : decode cX9_isKept 97 = .ok (.ireturn, 1) := by decide +kernel
theorem dX9_count_0 : decode cX9_count 0 = .ok (.aload_n 0, 1) := by decide +kernel
theorem dX9_count_1 : decode cX9_count 1 = .ok (.getfield 9, 3) := by decide +kernel
theorem dX9_count_4 : decode cX9_count 4 = .ok (.astore 5, 2) := by decide +kernel
theorem dX9_count_6 : decode cX9_count 6 = .ok (.aload 5, 2) := by decide +kernel
theorem dX9_count_8 : decode cX9_count 8 = .ok (.arraylength, 1) := by decide +kernel
theorem dX9_count_9 : decode cX9_count 9 = .ok (.istore 6, 2) := by decide +kernel
theorem dX9_count_11 : decode cX9_count 11 = .ok (.iconst 0, 1) := by decide +kernel
theorem dX9_count_12 : decode cX9_count 12 = .ok (.istore 7, 2) := by decide +kernel
theorem dX9_count_14 : decode cX9_count 14 = .ok (.iload 7, 2) := by decide +kernel
theorem dX9_count_16 : decode cX9_count 16 = .ok (.iload 6, 2) := by decide +kernel
theorem dX9_count_18 : decode cX9_count 18 = .ok (.if_icmp .ge 47, 3) := by decide +kernel
theorem dX9_count_21 : decode cX9_count 21 = .ok (.aload 5, 2) := by decide +kernel
theorem dX9_count_23 : decode cX9_count 23 = .ok (.iload 7, 2) := by decide +kernel
theorem dX9_count_25 : decode cX9_count 25 = .ok (.aaload, 1) := by decide +kernel
theorem dX9_count_26 : decode cX9_count 26 = .ok (.astore 8, 2) := by decide +kernel
theorem dX9_count_28 : decode cX9_count 28 = .ok (.aload 8, 2) := by decide +kernel
theorem dX9_count_30 : decode cX9_count 30 = .ok (.iconst 1, 1) := by decide +kernel
theorem dX9_count_31 : decode cX9_count 31 = .ok (.iaload, 1) := by decide +kernel
theorem dX9_count_32 : decode cX9_count 32 = .ok (.iconst 2, 1) := by decide +kernel
theorem dX9_count_33 : decode cX9_count 33 = .ok (.idiv, 1) := by decide +kernel
theorem dX9_count_34 : decode cX9_count 34 = .ok (.iload_n 2, 1) := by decide +kernel
theorem dX9_count_35 : decode cX9_count 35 = .ok (.if_icmp .ge 24, 3) := by decide +kernel
theorem dX9_count_38 : decode cX9_count 38 = .ok (.aload 8, 2) := by decide +kernel
theorem dX9_count_40 : decode cX9_count 40 = .ok (.iconst 2, 1) := by decide +kernel
theorem dX9_count_41 : decode cX9_count 41 = .ok (.iaload, 1) := by decide +kernel
theorem dX9_count_42 : decode cX9_count 42 = .ok (.iconst 2, 1) := by decide +kernel
theorem dX9_count_43 : decode cX9_count 43 = .ok (.idiv, 1) := by decide +kernel
theorem dX9_count_44 : decode cX9_count 44 = .ok (.iload_n 2, 1) := by decide +kernel
theorem dX9_count_45 : decode cX9_count 45 = .ok (.if_icmp .ge 14, 3) := by decide +kernel
theorem dX9_count_48 : decode cX9_count 48 = .ok (.aload_n 0, 1) := by decide +kernel
theorem dX9_count_49 : decode cX9_count 49 = .ok (.aload 8, 2) := by decide +kernel
theorem dX9_count_51 : decode cX9_count 51 = .ok (.aload_n 1, 1) := by decide +kernel
theorem dX9_count_52 : decode cX9_count 52 = .ok (.invokevirtual 41, 3) := by decide +kernel
theorem dX9_count_55 : decode cX9_count 55 = .ok (.ifCond .ne 4, 3) := by decide +kernel
theorem dX9_count_58 : decode cX9_count 58 = .ok (.return_, 1) := by decide +kernel
theorem dX9_count_59 : decode cX9_count 59 = .ok (.iinc 7 1, 3) := by decide +kernel
theorem dX9_count_62 : decode cX9_count 62 = .ok (.goto (-48), 3) := by decide +kernel
theorem dX9_count_65 : decode cX9_count 65 = .ok (.iload_n 2, 1) := by decide +kernel
theorem dX9_count_66 : decode cX9_count 66 = .ok (.aload_n 0, 1) := by decide +kernel
theorem dX9_count_67 : decode cX9_count 67 = .ok (.getfield 19, 3) := by decide +kernel
theorem dX9_count_70 : decode cX9_count 70 = .ok (.if_icmp .ge 35, 3) := by decide +kernel
theorem dX9_count_73 : decode cX9_count 73 = .ok (.iconst 0, 1) := by decide +kernel
theorem dX9_count_74 : decode cX9_count 74 = .ok (.istore 5, 2) := by decide +kernel
theorem dX9_count_76 : decode cX9_count 76 = .ok (.iload 5, 2) := by decide +kernel
theorem dX9_count_78 : decode cX9_count 78 = .ok (.iconst 2, 1) := by decide +kernel
theorem dX9_count_79 : decode cX9_count 79 = .ok (.if_icmp .ge 25, 3) := by decide +kernel
theorem dX9_count_82 : decode cX9_count 82 = .ok (.aload_n 1, 1) := by decide +kernel
theorem dX9_count_83 : decode cX9_count 83 = .ok (.iload_n 2, 1) := by decide +kernel
theorem dX9_count_84 : decode cX9_count 84 = .ok (.iload 5, 2) := by decide +kernel
theorem dX9_count_86 : decode cX9_count 86 = .ok (.iastore, 1) := by decide +kernel
theorem dX9_count_87 : decode cX9_count 87 = .ok (.aload_n 0, 1) := by decide +kernel
theorem dX9_count_88 : decode cX9_count 88 = .ok (.aload_n 1, 1) := by decide +kernel
theorem dX9_count_89 : decode cX9_count 89 = .ok (.iload_n 2, 1) := by decide +kernel
theorem dX9_count_90 : decode cX9_count 90 = .ok (.iconst 1, 1) := by decide +kernel
theorem dX9_count_91 : decode cX9_count 91 = .ok (.iadd, 1) := by decide +kernel
theorem dX9_count_92 : decode cX9_count 92 = .ok (.aload_n 3, 1) := by decide +kernel
theorem dX9_count_93 : decode cX9_count 93 = .ok (.aload 4, 2) := by decide +kernel
theorem dX9_count_95 : decode cX9_count 95 = .ok (.invokevirtual 45, 3) := by decide +kernel
theorem dX9_count_98 : decode cX9_count 98 = .ok (.iinc 5 1, 3) := by decide +kernel
theorem dX9_count_101 : decode cX9_count 101 = .ok (.goto (-25), 3) := by decide +kernel
theorem dX9_count_104 : decode cX9_count 104 = .ok (.return_, 1) := by decide +kernel
theorem dX9_count_105 : decode cX9_count 105 = .ok (.aload_n 3, 1) := by decide +kernel
theorem dX9_count_106 : decode cX9_count 106 = .ok (.iconst 0, 1) := by decide +kernel
theorem dX9_count_107 : decode cX9_count 107 = .ok (.iaload, 1) := by decide +kernel
theorem dX9_count_108 : decode cX9_count 108 = .ok (.ifCond .ne 30, 3) := by decide +kernel
theorem dX9_count_111 : decode cX9_count 111 = .ok (.iconst 0, 1) := by decide +kernel
theorem dX9_count_112 : decode cX9_count 112 = .ok (.istore 5, 2) := by decide +kernel
theorem dX9_count_114 : decode cX9_count 114 = .ok (.iload 5, 2) := by decide +kernel
theorem dX9_count_116 : decode cX9_count 116 = .ok (.aload_n 0, 1) := by decide +kernel
theorem dX9_count_117 : decode cX9_count 117 = .ok (.getfield 19, 3) := by decide +kernel
theorem dX9_count_120 : decode cX9_count 120 = .ok (.if_icmp .ge 18, 3) := by decide +kernel
theorem dX9_count_123 : decode cX9_count 123 = .ok (.aload 4, 2) := by decide +kernel
theorem dX9_count_125 : decode cX9_count 125 = .ok (.iload 5, 2) := by decide +kernel
theorem dX9_count_127 : decode cX9_count 127 = .ok (.aload_n 1, 1) := by decide +kernel
theorem dX9_count_128 : decode cX9_count 128 = .ok (.iload 5, 2) := by decide +kernel
theorem dX9_count_130 : decode cX9_count 130 = .ok (.iaload, 1) := by decide +kernel
theorem dX9_count_131 : decode cX9_count 131 = .ok (.iastore, 1) := by decide +kernel
theorem dX9_count_132 : decode cX9_count 132 = .ok (.iinc 5 1, 3) := by decide +kernel
theorem dX9_count_135 : decode cX9_count 135 = .ok (.goto (-21), 3) := by decide +kernel
theorem dX9_count_138 : decode cX9_count 138 = .ok (.aload_n 3, 1) := by decide +kernel
theorem dX9_count_139 : decode cX9_count 139 = .ok (.iconst 0, 1) := by decide +kernel
theorem dX9_count_140 : decode cX9_count 140 = .ok (.dup2, 1) := by decide +kernel
theorem dX9_count_141 : decode cX9_count 141 = .ok (.iaload, 1) := by decide +kernel
theorem dX9_count_142 : decode cX9_count 142 = .ok (.iconst 1, 1) := by decide +kernel
theorem dX9_count_143 : decode cX9_count 143 = .ok (.iadd, 1) := by decide +kernel
theorem dX9_count_144 : decode cX9_count 144 = .ok (.iastore, 1) := by decide +kernel
theorem dX9_count_145 : decode cX9_count 145 = .ok (.iconst 0, 1) := by decide +kernel
theorem dX9_count_146 : decode cX9_count 146 = .ok (.istore 5, 2) := by decide +kernel
theorem dX9_count_148 : decode cX9_count 148 = .ok (.iload 5, 2) := by decide +kernel
theorem dX9_count_150 : decode cX9_count 150 = .ok (.aload_n 0, 1) := by decide +kernel
theorem dX9_count_151 : decode cX9_count 151 = .ok (.getfield 19, 3) := by decide +kernel
theorem dX9_count_154 : decode cX9_count 154 = .ok (.if_icmp .ge 38, 3) := by decide +kernel
theorem dX9_count_157 : decode cX9_count 157 = .ok (.aload_n 3, 1) := by decide +kernel
theorem dX9_count_158 : decode cX9_count 158 = .ok (.iconst 1, 1) := by decide +kernel
theorem dX9_count_159 : decode cX9_count 159 = .ok (.dup2, 1) := by decide +kernel
theorem dX9_count_160 : decode cX9_count 160 = .ok (.iaload, 1) := by decide +kernel
theorem dX9_count_161 : decode cX9_count 161 = .ok (.iconst 1, 1) := by decide +kernel
theorem dX9_count_162 : decode cX9_count 162 = .ok (.aload_n 1, 1) := by decide +kernel
theorem dX9_count_163 : decode cX9_count 163 = .ok (.iload 5, 2) := by decide +kernel
theorem dX9_count_165 : decode cX9_count 165 = .ok (.iaload, 1) := by decide +kernel
theorem dX9_count_166 : decode cX9_count 166 = .ok (.isub, 1) := by decide +kernel
theorem dX9_count_167 : decode cX9_count 167 = .ok (.iadd, 1) := by decide +kernel
theorem dX9_count_168 : decode cX9_count 168 = .ok (.iastore, 1) := by decide +kernel
theorem dX9_count_169 : decode cX9_count 169 = .ok (.aload_n 3, 1) := by decide +kernel
theorem dX9_count_170 : decode cX9_count 170 = .ok (.iconst 2, 1) := by decide +kernel
theorem dX9_count_171 : decode cX9_count 171 = .ok (.iconst 2, 1) := by decide +kernel
theorem dX9_count_172 : decode cX9_count 172 = .ok (.iload 5, 2) := by decide +kernel
theorem dX9_count_174 : decode cX9_count 174 = .ok (.imul, 1) := by decide +kernel
theorem dX9_count_175 : decode cX9_count 175 = .ok (.iadd, 1) := by decide +kernel
theorem dX9_count_176 : decode cX9_count 176 = .ok (.aload_n 1, 1) := by decide +kernel
theorem dX9_count_177 : decode cX9_count 177 = .ok (.iload 5, 2) := by decide +kernel
theorem dX9_count_179 : decode cX9_count 179 = .ok (.iaload, 1) := by decide +kernel
theorem dX9_count_180 : decode cX9_count 180 = .ok (.iadd, 1) := by decide +kernel
theorem dX9_count_181 : decode cX9_count 181 = .ok (.dup2, 1) := by decide +kernel
theorem dX9_count_182 : decode cX9_count 182 = .ok (.iaload, 1) := by decide +kernel
theorem dX9_count_183 : decode cX9_count 183 = .ok (.iconst 1, 1) := by decide +kernel
theorem dX9_count_184 : decode cX9_count 184 = .ok (.iadd, 1) := by decide +kernel
theorem dX9_count_185 : decode cX9_count 185 = .ok (.iastore, 1) := by decide +kernel
theorem dX9_count_186 : decode cX9_count 186 = .ok (.iinc 5 1, 3) := by decide +kernel
theorem dX9_count_189 : decode cX9_count 189 = .ok (.goto (-41), 3) := by decide +kernel
theorem dX9_count_192 : decode cX9_count 192 = .ok (.return_, 1) := by decide +kernel
theorem dX9_peaces_0 : decode cX9_peaces 0 = .ok (.iconst 2, 1) := by decide +kernel
theorem dX9_peaces_1 : decode cX9_peaces 1 = .ok (.iconst 2, 1) := by decide +kernel
theorem dX9_peaces_2 : decode cX9_peaces 2 = .ok (.aload_n 0, 1) := by decide +kernel
theorem dX9_peaces_3 : decode cX9_peaces 3 = .ok (.getfield 19, 3) := by decide +kernel
theorem dX9_peaces_6 : decode cX9_peaces 6 = .ok (.imul, 1) := by decide +kernel
theorem dX9_peaces_7 : decode cX9_peaces 7 = .ok (.iadd, 1) := by decide +kernel
theorem dX9_peaces_8 : decode cX9_peaces 8 = .ok (.newarray .int, 2) := by decide +kernel
theorem dX9_peaces_10 : decode cX9_peaces 10 = .ok (.astore_n 2, 1) := by decide +kernel
theorem dX9_peaces_11 : decode cX9_peaces 11 = .ok (.aload_n 0, 1) := by decide +kernel
theorem dX9_peaces_12 : decode cX9_peaces 12 = .ok (.aload_n 0, 1) := by decide +kernel
theorem dX9_peaces_13 : decode cX9_peaces 13 = .ok (.getfield 19, 3) := by decide +kernel
theorem dX9_peaces_16 : decode cX9_peaces 16 = .ok (.newarray .int, 2) := by decide +kernel
theorem dX9_peaces_18 : decode cX9_peaces 18 = .ok (.iconst 0, 1) := by decide +kernel
theorem dX9_peaces_19 : decode cX9_peaces 19 = .ok (.aload_n 2, 1) := by decide +kernel
theorem dX9_peaces_20 : decode cX9_peaces 20 = .ok (.aload_n 1, 1) := by decide +kernel
theorem dX9_peaces_21 : decode cX9_peaces 21 = .ok (.invokevirtual 45, 3) := by decide +kernel
theorem dX9_peaces_24 : decode cX9_peaces 24 = .ok (.aload_n 2, 1) := by decide +kernel
theorem dX9_peaces_25 : decode cX9_peaces 25 = .ok (.areturn, 1) := by decide +kernel
theorem dX9_peaces__0 : decode cX9_peaces_ 0 = .ok (.aload_n 0, 1) := by decide +kernel
theorem dX9_peaces__1 : decode cX9_peaces_ 1 = .ok (.aload_n 0, 1) := by decide +kernel
theorem dX9_peaces__2 : decode cX9_peaces_ 2 = .ok (.getfield 19, 3) := by decide +kernel
theorem dX9_peaces__5 : decode cX9_peaces_ 5 = .ok (.newarray .int, 2) := by decide +kernel
theorem dX9_peaces__7 : decode cX9_peaces_ 7 = .ok (.invokevirtual 49, 3) := by decide +kernel
theorem dX9_peaces__10 : decode cX9_peaces_ 10 = .ok (.iconst 0, 1) := by decide +kernel
theorem dX9_peaces__11 : decode cX9_peaces_ 11 = .ok (.iaload, 1) := by decide +kernel
theorem dX9_peaces__12 : decode cX9_peaces_ 12 = .ok (.ireturn, 1) := by decide +kernel
theorem dX9_from_0 : decode cX9_from 0 = .ok (.iconst 2, 1) := by decide +kernel
theorem dX9_from_1 : decode cX9_from 1 = .ok (.aload_n 0, 1) := by decide +kernel
theorem dX9_from_2 : decode cX9_from 2 = .ok (.getfield 19, 3) := by decide +kernel
theorem dX9_from_5 : decode cX9_from 5 = .ok (.imul, 1) := by decide +kernel
theorem dX9_from_6 : decode cX9_from 6 = .ok (.newarray .int, 2) := by decide +kernel
theorem dX9_from_8 : decode cX9_from 8 = .ok (.astore_n 2, 1) := by decide +kernel
theorem dX9_from_9 : decode cX9_from 9 = .ok (.iconst 0, 1) := by decide +kernel
theorem dX9_from_10 : decode cX9_from 10 = .ok (.istore_n 3, 1) := by decide +kernel
theorem dX9_from_11 : decode cX9_from 11 = .ok (.iload_n 3, 1) := by decide +kernel
theorem dX9_from_12 : decode cX9_from 12 = .ok (.aload_n 2, 1) := by decide +kernel
theorem dX9_from_13 : decode cX9_from 13 = .ok (.arraylength, 1) := by decide +kernel
theorem dX9_from_14 : decode cX9_from 14 = .ok (.if_icmp .ge 24, 3) := by decide +kernel
theorem dX9_from_17 : decode cX9_from 17 = .ok (.aload_n 2, 1) := by decide +kernel
theorem dX9_from_18 : decode cX9_from 18 = .ok (.iload_n 3, 1) := by decide +kernel
theorem dX9_from_19 : decode cX9_from 19 = .ok (.iload_n 3, 1) := by decide +kernel
theorem dX9_from_20 : decode cX9_from 20 = .ok (.iload_n 1, 1) := by decide +kernel
theorem dX9_from_21 : decode cX9_from 21 = .ok (.if_icmp .ne 7, 3) := by decide +kernel
theorem dX9_from_24 : decode cX9_from 24 = .ok (.iconst 0, 1) := by decide +kernel
theorem dX9_from_25 : decode cX9_from 25 = .ok (.goto 6, 3) := by decide +kernel
theorem dX9_from_28 : decode cX9_from 28 = .ok (.sipush 999, 3) := by decide +kernel
theorem dX9_from_31 : decode cX9_from 31 = .ok (.iastore, 1) := by decide +kernel
theorem dX9_from_32 : decode cX9_from 32 = .ok (.iinc 3 1, 3) := by decide +kernel
theorem dX9_from_35 : decode cX9_from 35 = .ok (.goto (-24), 3) := by decide +kernel
theorem dX9_from_38 : decode cX9_from 38 = .ok (.iconst 0, 1) := by decide +kernel
theorem dX9_from_39 : decode cX9_from 39 = .ok (.istore_n 3, 1) := by decide +kernel
theorem dX9_from_40 : decode cX9_from 40 = .ok (.iload_n 3, 1) := by decide +kernel
theorem dX9_from_41 : decode cX9_from 41 = .ok (.aload_n 2, 1) := by decide +kernel
theorem dX9_from_42 : decode cX9_from 42 = .ok (.arraylength, 1) := by decide +kernel
theorem dX9_from_43 : decode cX9_from 43 = .ok (.if_icmp .ge 151, 3) := by decide +kernel
theorem dX9_from_46 : decode cX9_from 46 = .ok (.aload_n 0, 1) := by decide +kernel
theorem dX9_from_47 : decode cX9_from 47 = .ok (.getfield 9, 3) := by decide +kernel
theorem dX9_from_50 : decode cX9_from 50 = .ok (.astore 4, 2) := by decide +kernel
theorem dX9_from_52 : decode cX9_from 52 = .ok (.aload 4, 2) := by decide +kernel
theorem dX9_from_54 : decode cX9_from 54 = .ok (.arraylength, 1) := by decide +kernel
theorem dX9_from_55 : decode cX9_from 55 = .ok (.istore 5, 2) := by decide +kernel
theorem dX9_from_57 : decode cX9_from 57 = .ok (.iconst 0, 1) := by decide +kernel
theorem dX9_from_58 : decode cX9_from 58 = .ok (.istore 6, 2) := by decide +kernel
theorem dX9_from_60 : decode cX9_from 60 = .ok (.iload 6, 2) := by decide +kernel
theorem dX9_from_62 : decode cX9_from 62 = .ok (.iload 5, 2) := by decide +kernel
theorem dX9_from_64 : decode cX9_from 64 = .ok (.if_icmp .ge 124, 3) := by decide +kernel
theorem dX9_from_67 : decode cX9_from 67 = .ok (.aload 4, 2) := by decide +kernel
theorem dX9_from_69 : decode cX9_from 69 = .ok (.iload 6, 2) := by decide +kernel
theorem dX9_from_71 : decode cX9_from 71 = .ok (.aaload, 1) := by decide +kernel
theorem dX9_from_72 : decode cX9_from 72 = .ok (.astore 7, 2) := by decide +kernel
theorem dX9_from_74 : decode cX9_from 74 = .ok (.aload 7, 2) := by decide +kernel
theorem dX9_from_76 : decode cX9_from 76 = .ok (.iconst 3, 1) := by decide +kernel
theorem dX9_from_77 : decode cX9_from 77 = .ok (.iaload, 1) := by decide +kernel
theorem dX9_from_78 : decode cX9_from 78 = .ok (.ifCond .ne 6, 3) := by decide +kernel
theorem dX9_from_81 : decode cX9_from 81 = .ok (.goto 101, 3) := by decide +kernel
theorem dX9_from_84 : decode cX9_from 84 = .ok (.aload 7, 2) := by decide +kernel
theorem dX9_from_86 : decode cX9_from 86 = .ok (.iconst 0, 1) := by decide +kernel
theorem dX9_from_87 : decode cX9_from 87 = .ok (.iaload, 1) := by decide +kernel
theorem dX9_from_88 : decode cX9_from 88 = .ok (.ifCond .eq 11, 3) := by decide +kernel
theorem dX9_from_91 : decode cX9_from 91 = .ok (.aload 7, 2) := by decide +kernel
theorem dX9_from_93 : decode cX9_from 93 = .ok (.iconst 0, 1) := by decide +kernel
theorem dX9_from_94 : decode cX9_from 94 = .ok (.iaload, 1) := by decide +kernel
theorem dX9_from_95 : decode cX9_from 95 = .ok (.iconst 2, 1) := by decide +kernel
theorem dX9_from_96 : decode cX9_from 96 = .ok (.if_icmp .ne 10, 3) := by decide +kernel
theorem dX9_from_99 : decode cX9_from 99 = .ok (.aload 7, 2) := by decide +kernel
theorem dX9_from_101 : decode cX9_from 101 = .ok (.iconst 1, 1) := by decide +kernel
theorem dX9_from_102 : decode cX9_from 102 = .ok (.iaload, 1) := by decide +kernel
theorem dX9_from_103 : decode cX9_from 103 = .ok (.goto 10, 3) := by decide +kernel
theorem dX9_from_106 : decode cX9_from 106 = .ok (.aload 7, 2) := by decide +kernel
theorem dX9_from_108 : decode cX9_from 108 = .ok (.iconst 1, 1) := by decide +kernel
theorem dX9_from_109 : decode cX9_from 109 = .ok (.iaload, 1) := by decide +kernel
theorem dX9_from_110 : decode cX9_from 110 = .ok (.invokestatic 53, 3) := by decide +kernel
theorem dX9_from_113 : decode cX9_from 113 = .ok (.istore 8, 2) := by decide +kernel
theorem dX9_from_115 : decode cX9_from 115 = .ok (.aload 7, 2) := by decide +kernel
theorem dX9_from_117 : decode cX9_from 117 = .ok (.iconst 0, 1) := by decide +kernel
theorem dX9_from_118 : decode cX9_from 118 = .ok (.iaload, 1) := by decide +kernel
theorem dX9_from_119 : decode cX9_from 119 = .ok (.iconst 2, 1) := by decide +kernel
theorem dX9_from_120 : decode cX9_from 120 = .ok (.if_icmp .ne 13, 3) := by decide +kernel
theorem dX9_from_123 : decode cX9_from 123 = .ok (.aload 7, 2) := by decide +kernel
theorem dX9_from_125 : decode cX9_from 125 = .ok (.iconst 2, 1) := by decide +kernel
theorem dX9_from_126 : decode cX9_from 126 = .ok (.iaload, 1) := by decide +kernel
theorem dX9_from_127 : decode cX9_from 127 = .ok (.invokestatic 53, 3) := by decide +kernel
theorem dX9_from_130 : decode cX9_from 130 = .ok (.goto 7, 3) := by decide +kernel
theorem dX9_from_133 : decode cX9_from 133 = .ok (.aload 7, 2) := by decide +kernel
theorem dX9_from_135 : decode cX9_from 135 = .ok (.iconst 2, 1) := by decide +kernel
theorem dX9_from_136 : decode cX9_from 136 = .ok (.iaload, 1) := by decide +kernel
theorem dX9_from_137 : decode cX9_from 137 = .ok (.istore 9, 2) := by decide +kernel
theorem dX9_from_139 : decode cX9_from 139 = .ok (.aload_n 2, 1) := by decide +kernel
theorem dX9_from_140 : decode cX9_from 140 = .ok (.iload 9, 2) := by decide +kernel
theorem dX9_from_142 : decode cX9_from 142 = .ok (.aload_n 2, 1) := by decide +kernel
theorem dX9_from_143 : decode cX9_from 143 = .ok (.iload 9, 2) := by decide +kernel
theorem dX9_from_145 : decode cX9_from 145 = .ok (.iaload, 1) := by decide +kernel
theorem dX9_from_146 : decode cX9_from 146 = .ok (.aload_n 2, 1) := by decide +kernel
theorem dX9_from_147 : decode cX9_from 147 = .ok (.iload 8, 2) := by decide +kernel
theorem dX9_from_149 : decode cX9_from 149 = .ok (.iaload, 1) := by decide +kernel
theorem dX9_from_150 : decode cX9_from 150 = .ok (.iconst 1, 1) := by decide +kernel
theorem dX9_from_151 : decode cX9_from 151 = .ok (.iadd, 1) := by decide +kernel
theorem dX9_from_152 : decode cX9_from 152 = .ok (.invokestatic 57, 3) := by decide +kernel
theorem dX9_from_155 : decode cX9_from 155 = .ok (.iastore, 1) := by decide +kernel
theorem dX9_from_156 : decode cX9_from 156 = .ok (.aload_n 2, 1) := by decide +kernel
theorem dX9_from_157 : decode cX9_from 157 = .ok (.iload 8, 2) := by decide +kernel
theorem dX9_from_159 : decode cX9_from 159 = .ok (.invokestatic 53, 3) := by decide +kernel
theorem dX9_from_162 : decode cX9_from 162 = .ok (.aload_n 2, 1) := by decide +kernel
theorem dX9_from_163 : decode cX9_from 163 = .ok (.iload 8, 2) := by decide +kernel
theorem dX9_from_165 : decode cX9_from 165 = .ok (.invokestatic 53, 3) := by decide +kernel
theorem dX9_from_168 : decode cX9_from 168 = .ok (.iaload, 1) := by decide +kernel
theorem dX9_from_169 : decode cX9_from 169 = .ok (.aload_n 2, 1) := by decide +kernel
theorem dX9_from_170 : decode cX9_from 170 = .ok (.iload 9, 2) := by decide +kernel
theorem dX9_from_172 : decode cX9_from 172 = .ok (.invokestatic 53, 3) := by decide +kernel
theorem dX9_from_175 : decode cX9_from 175 = .ok (.iaload, 1) := by decide +kernel
theorem dX9_from_176 : decode cX9_from 176 = .ok (.iconst 1, 1) := by decide +kernel
theorem dX9_from_177 : decode cX9_from 177 = .ok (.iadd, 1) := by decide +kernel
theorem dX9_from_178 : decode cX9_from 178 = .ok (.invokestatic 57, 3) := by decide +kernel
theorem dX9_from_181 : decode cX9_from 181 = .ok (.iastore, 1) := by decide +kernel
theorem dX9_from_182 : decode cX9_from 182 = .ok (.iinc 6 1, 3) := by decide +kernel
theorem dX9_from_185 : decode cX9_from 185 = .ok (.goto (-125), 3) := by decide +kernel
theorem dX9_from_188 : decode cX9_from 188 = .ok (.iinc 3 1, 3) := by decide +kernel
theorem dX9_from_191 : decode cX9_from 191 = .ok (.goto (-151), 3) := by decide +kernel
theorem dX9_from_194 : decode cX9_from 194 = .ok (.iconst 0, 1) := by decide +kernel
theorem dX9_from_195 : decode cX9_from 195 = .ok (.istore_n 3, 1) := by decide +kernel
theorem dX9_from_196 : decode cX9_from 196 = .ok (.iload_n 3, 1) := by decide +kernel
theorem dX9_from_197 : decode cX9_from 197 = .ok (.aload_n 2, 1) := by decide +kernel
theorem dX9_from_198 : decode cX9_from 198 = .ok (.arraylength, 1) := by decide +kernel
theorem dX9_from_199 : decode cX9_from 199 = .ok (.if_icmp .ge 23, 3) := by decide +kernel
theorem dX9_from_202 : decode cX9_from 202 = .ok (.aload_n 2, 1) := by decide +kernel
theorem dX9_from_203 : decode cX9_from 203 = .ok (.iload_n 3, 1) := by decide +kernel
theorem dX9_from_204 : decode cX9_from 204 = .ok (.iaload, 1) := by decide +kernel
theorem dX9_from_205 : decode cX9_from 205 = .ok (.bipush 99, 2) := by decide +kernel
theorem dX9_from_207 : decode cX9_from 207 = .ok (.if_icmp .le 9, 3) := by decide +kernel
theorem dX9_from_210 : decode cX9_from 210 = .ok (.aload_n 2, 1) := by decide +kernel
theorem dX9_from_211 : decode cX9_from 211 = .ok (.iload_n 3, 1) := by decide +kernel
theorem dX9_from_212 : decode cX9_from 212 = .ok (.sipush 999, 3) := by decide +kernel
theorem dX9_from_215 : decode cX9_from 215 = .ok (.iastore, 1) := by decide +kernel
theorem dX9_from_216 : decode cX9_from 216 = .ok (.iinc 3 1, 3) := by decide +kernel
theorem dX9_from_219 : decode cX9_from 219 = .ok (.goto (-23), 3) := by decide +kernel
theorem dX9_from_222 : decode cX9_from 222 = .ok (.aload_n 2, 1) := by decide +kernel
theorem dX9_from_223 : decode cX9_from 223 = .ok (.areturn, 1) := by decide +kernel
theorem dX9_opposite_0 : decode cX9_opposite 0 = .ok (.iload_n 0, 1) := by decide +kernel
theorem dX9_opposite_1 : decode cX9_opposite 1 = .ok (.iconst 2, 1) := by decide +kernel
theorem dX9_opposite_2 : decode cX9_opposite 2 = .ok (.irem, 1) := by decide +kernel
theorem dX9_opposite_3 : decode cX9_opposite 3 = .ok (.ifCond .ne 9, 3) := by decide +kernel
theorem dX9_opposite_6 : decode cX9_opposite 6 = .ok (.iload_n 0, 1) := by decide +kernel
theorem dX9_opposite_7 : decode cX9_opposite 7 = .ok (.iconst 1, 1) := by decide +kernel
theorem dX9_opposite_8 : decode cX9_opposite 8 = .ok (.iadd, 1) := by decide +kernel
theorem dX9_opposite_9 : decode cX9_opposite 9 = .ok (.goto 6, 3) := by decide +kernel
theorem dX9_opposite_12 : decode cX9_opposite 12 = .ok (.iload_n 0, 1) := by decide +kernel
theorem dX9_opposite_13 : decode cX9_opposite 13 = .ok (.iconst 1, 1) := by decide +kernel
theorem dX9_opposite_14 : decode cX9_opposite 14 = .ok (.isub, 1) := by decide +kernel
theorem dX9_opposite_15 : decode cX9_opposite 15 = .ok (.ireturn, 1) := by decide +kernel
theorem dX9_following_0 : decode cX9_following 0 = .ok (.iconst 2, 1) := by decide +kernel
theorem dX9_following_1 : decode cX9_following 1 = .ok (.aload_n 0, 1) := by decide +kernel
theorem dX9_following_2 : decode cX9_following 2 = .ok (.getfield 19, 3) := by decide +kernel
theorem dX9_following_5 : decode cX9_following 5 = .ok (.imul, 1) := by decide +kernel
theorem dX9_following_6 : decode cX9_following 6 = .ok (.anewarray 7, 3) := by decide +kernel
theorem dX9_following_9 : decode cX9_following 9 = .ok (.astore_n 1, 1) := by decide +kernel
theorem dX9_following_10 : decode cX9_following 10 = .ok (.iconst 0, 1) := by decide +kernel
theorem dX9_following_11 : decode cX9_following 11 = .ok (.istore_n 2, 1) := by decide +kernel
theorem dX9_following_12 : decode cX9_following 12 = .ok (.iload_n 2, 1) := by decide +kernel
theorem dX9_following_13 : decode cX9_following 13 = .ok (.aload_n 1, 1) := by decide +kernel
theorem dX9_following_14 : decode cX9_following 14 = .ok (.arraylength, 1) := by decide +kernel
theorem dX9_following_15 : decode cX9_following 15 = .ok (.if_icmp .ge 17, 3) := by decide +kernel
theorem dX9_following_18 : decode cX9_following 18 = .ok (.aload_n 1, 1) := by decide +kernel
theorem dX9_following_19 : decode cX9_following 19 = .ok (.iload_n 2, 1) := by decide +kernel
theorem dX9_following_20 : decode cX9_following 20 = .ok (.aload_n 0, 1) := by decide +kernel
theorem dX9_following_21 : decode cX9_following 21 = .ok (.iload_n 2, 1) := by decide +kernel
theorem dX9_following_22 : decode cX9_following 22 = .ok (.invokevirtual 63, 3) := by decide +kernel
theorem dX9_following_25 : decode cX9_following 25 = .ok (.aastore, 1) := by decide +kernel
theorem dX9_following_26 : decode cX9_following 26 = .ok (.iinc 2 1, 3) := by decide +kernel
theorem dX9_following_29 : decode cX9_following 29 = .ok (.goto (-17), 3) := by decide +kernel
theorem dX9_following_32 : decode cX9_following 32 = .ok (.aload_n 1, 1) := by decide +kernel
theorem dX9_following_33 : decode cX9_following 33 = .ok (.areturn, 1) := by decide +kernel
theorem dX9_parts_0 : decode cX9_parts 0 = .ok (.aload_n 0, 1) := by decide +kernel
theorem dX9_parts_1 : decode cX9_parts 1 = .ok (.arraylength, 1) := by decide +kernel
theorem dX9_parts_2 : decode cX9_parts 2 = .ok (.newarray .int, 2) := by decide +kernel
theorem dX9_parts_4 : decode cX9_parts 4 = .ok (.astore_n 1, 1) := by decide +kernel
theorem dX9_parts_5 : decode cX9_parts 5 = .ok (.iconst 0, 1) := by decide +kernel
theorem dX9_parts_6 : decode cX9_parts 6 = .ok (.istore_n 2, 1) := by decide +kernel
theorem dX9_parts_7 : decode cX9_parts 7 = .ok (.iload_n 2, 1) := by decide +kernel
theorem dX9_parts_8 : decode cX9_parts 8 = .ok (.aload_n 1, 1) := by decide +kernel
theorem dX9_parts_9 : decode cX9_parts 9 = .ok (.arraylength, 1) := by decide +kernel
theorem dX9_parts_10 : decode cX9_parts 10 = .ok (.if_icmp .ge 50, 3) := by decide +kernel
theorem dX9_parts_13 : decode cX9_parts 13 = .ok (.aload_n 1, 1) := by decide +kernel
theorem dX9_parts_14 : decode cX9_parts 14 = .ok (.arraylength, 1) := by decide +kernel
theorem dX9_parts_15 : decode cX9_parts 15 = .ok (.iconst 1, 1) := by decide +kernel
theorem dX9_parts_16 : decode cX9_parts 16 = .ok (.isub, 1) := by decide +kernel
theorem dX9_parts_17 : decode cX9_parts 17 = .ok (.istore_n 3, 1) := by decide +kernel
theorem dX9_parts_18 : decode cX9_parts 18 = .ok (.iload_n 3, 1) := by decide +kernel
theorem dX9_parts_19 : decode cX9_parts 19 = .ok (.ifCond .lt 35, 3) := by decide +kernel
theorem dX9_parts_22 : decode cX9_parts 22 = .ok (.aload_n 0, 1) := by decide +kernel
theorem dX9_parts_23 : decode cX9_parts 23 = .ok (.iload_n 2, 1) := by decide +kernel
theorem dX9_parts_24 : decode cX9_parts 24 = .ok (.aaload, 1) := by decide +kernel
theorem dX9_parts_25 : decode cX9_parts 25 = .ok (.iload_n 3, 1) := by decide +kernel
theorem dX9_parts_26 : decode cX9_parts 26 = .ok (.iaload, 1) := by decide +kernel
theorem dX9_parts_27 : decode cX9_parts 27 = .ok (.sipush 999, 3) := by decide +kernel
theorem dX9_parts_30 : decode cX9_parts 30 = .ok (.if_icmp .ge 18, 3) := by decide +kernel
theorem dX9_parts_33 : decode cX9_parts 33 = .ok (.aload_n 0, 1) := by decide +kernel
theorem dX9_parts_34 : decode cX9_parts 34 = .ok (.iload_n 3, 1) := by decide +kernel
theorem dX9_parts_35 : decode cX9_parts 35 = .ok (.aaload, 1) := by decide +kernel
theorem dX9_parts_36 : decode cX9_parts 36 = .ok (.iload_n 2, 1) := by decide +kernel
theorem dX9_parts_37 : decode cX9_parts 37 = .ok (.iaload, 1) := by decide +kernel
theorem dX9_parts_38 : decode cX9_parts 38 = .ok (.sipush 999, 3) := by decide +kernel
theorem dX9_parts_41 : decode cX9_parts 41 = .ok (.if_icmp .ge 7, 3) := by decide +kernel
theorem dX9_parts_44 : decode cX9_parts 44 = .ok (.aload_n 1, 1) := by decide +kernel
theorem dX9_parts_45 : decode cX9_parts 45 = .ok (.iload_n 2, 1) := by decide +kernel
theorem dX9_parts_46 : decode cX9_parts 46 = .ok (.iload_n 3, 1) := by decide +kernel
theorem dX9_parts_47 : decode cX9_parts 47 = .ok (.iastore, 1) := by decide +kernel
theorem dX9_parts_48 : decode cX9_parts 48 = .ok (.iinc 3 (-1), 3) := by decide +kernel
theorem dX9_parts_51 : decode cX9_parts 51 = .ok (.goto (-33), 3) := by decide +kernel
theorem dX9_parts_54 : decode cX9_parts 54 = .ok (.iinc 2 1, 3) := by decide +kernel
theorem dX9_parts_57 : decode cX9_parts 57 = .ok (.goto (-50), 3) := by decide +kernel
theorem dX9_parts_60 : decode cX9_parts 60 = .ok (.aload_n 1, 1) := by decide +kernel
theorem dX9_parts_61 : decode cX9_parts 61 = .ok (.areturn, 1) := by decide +kernel
theorem dX9_many_0 : decode cX9_many 0 = .ok (.iconst 0, 1) := by decide +kernel
theorem dX9_many_1 : decode cX9_many 1 = .ok (.istore_n 1, 1) := by decide +kernel
theorem dX9_many_2 : decode cX9_many 2 = .ok (.iconst 0, 1) := by decide +kernel
theorem dX9_many_3 : decode cX9_many 3 = .ok (.istore_n 2, 1) := by decide +kernel
theorem dX9_many_4 : decode cX9_many 4 = .ok (.iload_n 2, 1) := by decide +kernel
theorem dX9_many_5 : decode cX9_many 5 = .ok (.aload_n 0, 1) := by decide +kernel
theorem dX9_many_6 : decode cX9_many 6 = .ok (.arraylength, 1) := by decide +kernel
theorem dX9_many_7 : decode cX9_many 7 = .ok (.if_icmp .ge 24, 3) := by decide +kernel
theorem dX9_many_10 : decode cX9_many 10 = .ok (.iload_n 1, 1) := by decide +kernel
theorem dX9_many_11 : decode cX9_many 11 = .ok (.aload_n 0, 1) := by decide +kernel
theorem dX9_many_12 : decode cX9_many 12 = .ok (.iload_n 2, 1) := by decide +kernel
theorem dX9_many_13 : decode cX9_many 13 = .ok (.iaload, 1) := by decide +kernel
theorem dX9_many_14 : decode cX9_many 14 = .ok (.iload_n 2, 1) := by decide +kernel
theorem dX9_many_15 : decode cX9_many 15 = .ok (.if_icmp .ne 7, 3) := by decide +kernel
theorem dX9_many_18 : decode cX9_many 18 = .ok (.iconst 1, 1) := by decide +kernel
theorem dX9_many_19 : decode cX9_many 19 = .ok (.goto 4, 3) := by decide +kernel
theorem dX9_many_22 : decode cX9_many 22 = .ok (.iconst 0, 1) := by decide +kernel
theorem dX9_many_23 : decode cX9_many 23 = .ok (.iadd, 1) := by decide +kernel
theorem dX9_many_24 : decode cX9_many 24 = .ok (.istore_n 1, 1) := by decide +kernel
theorem dX9_many_25 : decode cX9_many 25 = .ok (.iinc 2 1, 3) := by decide +kernel
theorem dX9_many_28 : decode cX9_many 28 = .ok (.goto (-24), 3) := by decide +kernel
theorem dX9_many_31 : decode cX9_many 31 = .ok (.iload_n 1, 1) := by decide +kernel
theorem dX9_many_32 : decode cX9_many 32 = .ok (.ireturn, 1) := by decide +kernel
theorem dX9_isDue_0 : decode cX9_isDue 0 = .ok (.aload_n 1, 1) := by decide +kernel
theorem dX9_isDue_1 : decode cX9_isDue 1 = .ok (.iconst 3, 1) := by decide +kernel
theorem dX9_isDue_2 : decode cX9_isDue 2 = .ok (.iaload, 1) := by decide +kernel
theorem dX9_isDue_3 : decode cX9_isDue 3 = .ok (.istore_n 2, 1) := by decide +kernel
theorem dX9_isDue_4 : decode cX9_isDue 4 = .ok (.aload_n 1, 1) := by decide +kernel
theorem dX9_isDue_5 : decode cX9_isDue 5 = .ok (.iconst 2, 1) := by decide +kernel
theorem dX9_isDue_6 : decode cX9_isDue 6 = .ok (.iaload, 1) := by decide +kernel
theorem dX9_isDue_7 : decode cX9_isDue 7 = .ok (.tableswitch 161 0 4 #[33, 35, 53, 83, 110], 33) := by decide +kernel
theorem dX9_isDue_40 : decode cX9_isDue 40 = .ok (.iconst 1, 1) := by decide +kernel
theorem dX9_isDue_41 : decode cX9_isDue 41 = .ok (.ireturn, 1) := by decide +kernel
theorem dX9_isDue_42 : decode cX9_isDue 42 = .ok (.aload_n 0, 1) := by decide +kernel
theorem dX9_isDue_43 : decode cX9_isDue 43 = .ok (.getfield 23, 3) := by decide +kernel
theorem dX9_isDue_46 : decode cX9_isDue 46 = .ok (.iconst 3, 1) := by decide +kernel
theorem dX9_isDue_47 : decode cX9_isDue 47 = .ok (.irem, 1) := by decide +kernel
theorem dX9_isDue_48 : decode cX9_isDue 48 = .ok (.iload_n 2, 1) := by decide +kernel
theorem dX9_isDue_49 : decode cX9_isDue 49 = .ok (.iconst 3, 1) := by decide +kernel
theorem dX9_isDue_50 : decode cX9_isDue 50 = .ok (.irem, 1) := by decide +kernel
theorem dX9_isDue_51 : decode cX9_isDue 51 = .ok (.if_icmp .ne 7, 3) := by decide +kernel
theorem dX9_isDue_54 : decode cX9_isDue 54 = .ok (.iconst 1, 1) := by decide +kernel
theorem dX9_isDue_55 : decode cX9_isDue 55 = .ok (.goto 4, 3) := by decide +kernel
theorem dX9_isDue_58 : decode cX9_isDue 58 = .ok (.iconst 0, 1) := by decide +kernel
theorem dX9_isDue_59 : decode cX9_isDue 59 = .ok (.ireturn, 1) := by decide +kernel
theorem dX9_isDue_60 : decode cX9_isDue 60 = .ok (.aload_n 0, 1) := by decide +kernel
theorem dX9_isDue_61 : decode cX9_isDue 61 = .ok (.aload_n 0, 1) := by decide +kernel
theorem dX9_isDue_62 : decode cX9_isDue 62 = .ok (.getfield 19, 3) := by decide +kernel
theorem dX9_isDue_65 : decode cX9_isDue 65 = .ok (.newarray .int, 2) := by decide +kernel
theorem dX9_isDue_67 : decode cX9_isDue 67 = .ok (.invokevirtual 49, 3) := by decide +kernel
theorem dX9_isDue_70 : decode cX9_isDue 70 = .ok (.iconst 2, 1) := by decide +kernel
theorem dX9_isDue_71 : decode cX9_isDue 71 = .ok (.iload_n 2, 1) := by decide +kernel
theorem dX9_isDue_72 : decode cX9_isDue 72 = .ok (.iconst 2, 1) := by decide +kernel
theorem dX9_isDue_73 : decode cX9_isDue 73 = .ok (.aload_n 0, 1) := by decide +kernel
theorem dX9_isDue_74 : decode cX9_isDue 74 = .ok (.getfield 19, 3) := by decide +kernel
theorem dX9_isDue_77 : decode cX9_isDue 77 = .ok (.imul, 1) := by decide +kernel
theorem dX9_isDue_78 : decode cX9_isDue 78 = .ok (.irem, 1) := by decide +kernel
theorem dX9_isDue_79 : decode cX9_isDue 79 = .ok (.iadd, 1) := by decide +kernel
theorem dX9_isDue_80 : decode cX9_isDue 80 = .ok (.iaload, 1) := by decide +kernel
theorem dX9_isDue_81 : decode cX9_isDue 81 = .ok (.ifCond .le 7, 3) := by decide +kernel
theorem dX9_isDue_84 : decode cX9_isDue 84 = .ok (.iconst 1, 1) := by decide +kernel
theorem dX9_isDue_85 : decode cX9_isDue 85 = .ok (.goto 4, 3) := by decide +kernel
theorem dX9_isDue_88 : decode cX9_isDue 88 = .ok (.iconst 0, 1) := by decide +kernel
theorem dX9_isDue_89 : decode cX9_isDue 89 = .ok (.ireturn, 1) := by decide +kernel
theorem dX9_isDue_90 : decode cX9_isDue 90 = .ok (.aload_n 0, 1) := by decide +kernel
theorem dX9_isDue_91 : decode cX9_isDue 91 = .ok (.getfield 9, 3) := by decide +kernel
theorem dX9_isDue_94 : decode cX9_isDue 94 = .ok (.aload_n 1, 1) := by decide +kernel
theorem dX9_isDue_95 : decode cX9_isDue 95 = .ok (.iconst 4, 1) := by decide +kernel
theorem dX9_isDue_96 : decode cX9_isDue 96 = .ok (.iaload, 1) := by decide +kernel
theorem dX9_isDue_97 : decode cX9_isDue 97 = .ok (.aaload, 1) := by decide +kernel
theorem dX9_isDue_98 : decode cX9_isDue 98 = .ok (.iconst 3, 1) := by decide +kernel
theorem dX9_isDue_99 : decode cX9_isDue 99 = .ok (.iaload, 1) := by decide +kernel
theorem dX9_isDue_100 : decode cX9_isDue 100 = .ok (.ifCond .eq 11, 3) := by decide +kernel
theorem dX9_isDue_103 : decode cX9_isDue 103 = .ok (.aload_n 0, 1) := by decide +kernel
theorem dX9_isDue_104 : decode cX9_isDue 104 = .ok (.invokevirtual 67, 3) := by decide +kernel
theorem dX9_isDue_107 : decode cX9_isDue 107 = .ok (.iload_n 2, 1) := by decide +kernel
theorem dX9_isDue_108 : decode cX9_isDue 108 = .ok (.if_icmp .ge 7, 3) := by decide +kernel
theorem dX9_isDue_111 : decode cX9_isDue 111 = .ok (.iconst 1, 1) := by decide +kernel
theorem dX9_isDue_112 : decode cX9_isDue 112 = .ok (.goto 4, 3) := by decide +kernel
theorem dX9_isDue_115 : decode cX9_isDue 115 = .ok (.iconst 0, 1) := by decide +kernel
theorem dX9_isDue_116 : decode cX9_isDue 116 = .ok (.ireturn, 1) := by decide +kernel
theorem dX9_isDue_117 : decode cX9_isDue 117 = .ok (.aload_n 0, 1) := by decide +kernel
theorem dX9_isDue_118 : decode cX9_isDue 118 = .ok (.aload_n 1, 1) := by decide +kernel
theorem dX9_isDue_119 : decode cX9_isDue 119 = .ok (.iconst 4, 1) := by decide +kernel
theorem dX9_isDue_120 : decode cX9_isDue 120 = .ok (.iaload, 1) := by decide +kernel
theorem dX9_isDue_121 : decode cX9_isDue 121 = .ok (.iconst 2, 1) := by decide +kernel
theorem dX9_isDue_122 : decode cX9_isDue 122 = .ok (.aload_n 0, 1) := by decide +kernel
theorem dX9_isDue_123 : decode cX9_isDue 123 = .ok (.getfield 19, 3) := by decide +kernel
theorem dX9_isDue_126 : decode cX9_isDue 126 = .ok (.imul, 1) := by decide +kernel
theorem dX9_isDue_127 : decode cX9_isDue 127 = .ok (.irem, 1) := by decide +kernel
theorem dX9_isDue_128 : decode cX9_isDue 128 = .ok (.invokevirtual 63, 3) := by decide +kernel
theorem dX9_isDue_131 : decode cX9_isDue 131 = .ok (.iload_n 2, 1) := by decide +kernel
theorem dX9_isDue_132 : decode cX9_isDue 132 = .ok (.iconst 2, 1) := by decide +kernel
theorem dX9_isDue_133 : decode cX9_isDue 133 = .ok (.aload_n 0, 1) := by decide +kernel
theorem dX9_isDue_134 : decode cX9_isDue 134 = .ok (.getfield 19, 3) := by decide +kernel
theorem dX9_isDue_137 : decode cX9_isDue 137 = .ok (.imul, 1) := by decide +kernel
theorem dX9_isDue_138 : decode cX9_isDue 138 = .ok (.irem, 1) := by decide +kernel
theorem dX9_isDue_139 : decode cX9_isDue 139 = .ok (.iaload, 1) := by decide +kernel
theorem dX9_isDue_140 : decode cX9_isDue 140 = .ok (.sipush 999, 3) := by decide +kernel
theorem dX9_isDue_143 : decode cX9_isDue 143 = .ok (.if_icmp .ge 23, 3) := by decide +kernel
theorem dX9_isDue_146 : decode cX9_isDue 146 = .ok (.aload_n 0, 1) := by decide +kernel
theorem dX9_isDue_147 : decode cX9_isDue 147 = .ok (.invokevirtual 71, 3) := by decide +kernel
theorem dX9_isDue_150 : decode cX9_isDue 150 = .ok (.invokestatic 75, 3) := by decide +kernel
theorem dX9_isDue_153 : decode cX9_isDue 153 = .ok (.invokestatic 79, 3) := by decide +kernel
theorem dX9_isDue_156 : decode cX9_isDue 156 = .ok (.aload_n 1, 1) := by decide +kernel
theorem dX9_isDue_157 : decode cX9_isDue 157 = .ok (.iconst 5, 1) := by decide +kernel
theorem dX9_isDue_158 : decode cX9_isDue 158 = .ok (.iaload, 1) := by decide +kernel
theorem dX9_isDue_159 : decode cX9_isDue 159 = .ok (.if_icmp .le 7, 3) := by decide +kernel
theorem dX9_isDue_162 : decode cX9_isDue 162 = .ok (.iconst 1, 1) := by decide +kernel
theorem dX9_isDue_163 : decode cX9_isDue 163 = .ok (.goto 4, 3) := by decide +kernel
theorem dX9_isDue_166 : decode cX9_isDue 166 = .ok (.iconst 0, 1) := by decide +kernel
theorem dX9_isDue_167 : decode cX9_isDue 167 = .ok (.ireturn, 1) := by decide +kernel
theorem dX9_isDue_168 : decode cX9_isDue 168 = .ok (.aload_n 0, 1) := by decide +kernel
theorem dX9_isDue_169 : decode cX9_isDue 169 = .ok (.invokevirtual 83, 3) := by decide +kernel
theorem dX9_isDue_172 : decode cX9_isDue 172 = .ok (.iconst 4, 1) := by decide +kernel
theorem dX9_isDue_173 : decode cX9_isDue 173 = .ok (.iload_n 2, 1) := by decide +kernel
theorem dX9_isDue_174 : decode cX9_isDue 174 = .ok (.imul, 1) := by decide +kernel
theorem dX9_isDue_175 : decode cX9_isDue 175 = .ok (.if_icmp .gt 7, 3) := by decide +kernel
theorem dX9_isDue_178 : decode cX9_isDue 178 = .ok (.iconst 1, 1) := by decide +kernel
theorem dX9_isDue_179 : decode cX9_isDue 179 = .ok (.goto 4, 3) := by decide +kernel
theorem dX9_isDue_182 : decode cX9_isDue 182 = .ok (.iconst 0, 1) := by decide +kernel
theorem dX9_isDue_183 : decode cX9_isDue 183 = .ok (.ireturn, 1) := by decide +kernel
theorem dX9_pass_0 : decode cX9_pass 0 = .ok (.aload_n 0, 1) := by decide +kernel
theorem dX9_pass_1 : decode cX9_pass 1 = .ok (.getfield 15, 3) := by decide +kernel
theorem dX9_pass_4 : decode cX9_pass 4 = .ok (.astore_n 1, 1) := by decide +kernel
theorem dX9_pass_5 : decode cX9_pass 5 = .ok (.aload_n 1, 1) := by decide +kernel
theorem dX9_pass_6 : decode cX9_pass 6 = .ok (.arraylength, 1) := by decide +kernel
theorem dX9_pass_7 : decode cX9_pass 7 = .ok (.istore_n 2, 1) := by decide +kernel
theorem dX9_pass_8 : decode cX9_pass 8 = .ok (.iconst 0, 1) := by decide +kernel
theorem dX9_pass_9 : decode cX9_pass 9 = .ok (.istore_n 3, 1) := by decide +kernel
theorem dX9_pass_10 : decode cX9_pass 10 = .ok (.iload_n 3, 1) := by decide +kernel
theorem dX9_pass_11 : decode cX9_pass 11 = .ok (.iload_n 2, 1) := by decide +kernel
theorem dX9_pass_12 : decode cX9_pass 12 = .ok (.if_icmp .ge 81, 3) := by decide +kernel
theorem dX9_pass_15 : decode cX9_pass 15 = .ok (.aload_n 1, 1) := by decide +kernel
theorem dX9_pass_16 : decode cX9_pass 16 = .ok (.iload_n 3, 1) := by decide +kernel
theorem dX9_pass_17 : decode cX9_pass 17 = .ok (.aaload, 1) := by decide +kernel
theorem dX9_pass_18 : decode cX9_pass 18 = .ok (.astore 4, 2) := by decide +kernel
theorem dX9_pass_20 : decode cX9_pass 20 = .ok (.aload_n 0, 1) := by decide +kernel
theorem dX9_pass_21 : decode cX9_pass 21 = .ok (.aload 4, 2) := by decide +kernel
theorem dX9_pass_23 : decode cX9_pass 23 = .ok (.invokevirtual 85, 3) := by decide +kernel
theorem dX9_pass_26 : decode cX9_pass 26 = .ok (.ifCond .ne 6, 3) := by decide +kernel
theorem dX9_pass_29 : decode cX9_pass 29 = .ok (.goto 58, 3) := by decide +kernel
theorem dX9_pass_32 : decode cX9_pass 32 = .ok (.aload_n 0, 1) := by decide +kernel
theorem dX9_pass_33 : decode cX9_pass 33 = .ok (.getfield 9, 3) := by decide +kernel
theorem dX9_pass_36 : decode cX9_pass 36 = .ok (.aload 4, 2) := by decide +kernel
theorem dX9_pass_38 : decode cX9_pass 38 = .ok (.iconst 1, 1) := by decide +kernel
theorem dX9_pass_39 : decode cX9_pass 39 = .ok (.iaload, 1) := by decide +kernel
theorem dX9_pass_40 : decode cX9_pass 40 = .ok (.aaload, 1) := by decide +kernel
theorem dX9_pass_41 : decode cX9_pass 41 = .ok (.iconst 3, 1) := by decide +kernel
theorem dX9_pass_42 : decode cX9_pass 42 = .ok (.iaload, 1) := by decide +kernel
theorem dX9_pass_43 : decode cX9_pass 43 = .ok (.istore 5, 2) := by decide +kernel
theorem dX9_pass_45 : decode cX9_pass 45 = .ok (.aload_n 0, 1) := by decide +kernel
theorem dX9_pass_46 : decode cX9_pass 46 = .ok (.getfield 9, 3) := by decide +kernel
theorem dX9_pass_49 : decode cX9_pass 49 = .ok (.aload 4, 2) := by decide +kernel
theorem dX9_pass_51 : decode cX9_pass 51 = .ok (.iconst 1, 1) := by decide +kernel
theorem dX9_pass_52 : decode cX9_pass 52 = .ok (.iaload, 1) := by decide +kernel
theorem dX9_pass_53 : decode cX9_pass 53 = .ok (.aaload, 1) := by decide +kernel
theorem dX9_pass_54 : decode cX9_pass 54 = .ok (.iconst 3, 1) := by decide +kernel
theorem dX9_pass_55 : decode cX9_pass 55 = .ok (.aload 4, 2) := by decide +kernel
theorem dX9_pass_57 : decode cX9_pass 57 = .ok (.iconst 0, 1) := by decide +kernel
theorem dX9_pass_58 : decode cX9_pass 58 = .ok (.iaload, 1) := by decide +kernel
theorem dX9_pass_59 : decode cX9_pass 59 = .ok (.iconst 1, 1) := by decide +kernel
theorem dX9_pass_60 : decode cX9_pass 60 = .ok (.isub, 1) := by decide +kernel
theorem dX9_pass_61 : decode cX9_pass 61 = .ok (.iastore, 1) := by decide +kernel
theorem dX9_pass_62 : decode cX9_pass 62 = .ok (.aload_n 0, 1) := by decide +kernel
theorem dX9_pass_63 : decode cX9_pass 63 = .ok (.dup, 1) := by decide +kernel
theorem dX9_pass_64 : decode cX9_pass 64 = .ok (.getfield 26, 3) := by decide +kernel
theorem dX9_pass_67 : decode cX9_pass 67 = .ok (.iload 5, 2) := by decide +kernel
theorem dX9_pass_69 : decode cX9_pass 69 = .ok (.aload 4, 2) := by decide +kernel
theorem dX9_pass_71 : decode cX9_pass 71 = .ok (.iconst 0, 1) := by decide +kernel
theorem dX9_pass_72 : decode cX9_pass 72 = .ok (.iaload, 1) := by decide +kernel
theorem dX9_pass_73 : decode cX9_pass 73 = .ok (.iconst 1, 1) := by decide +kernel
theorem dX9_pass_74 : decode cX9_pass 74 = .ok (.isub, 1) := by decide +kernel
theorem dX9_pass_75 : decode cX9_pass 75 = .ok (.if_icmp .ne 7, 3) := by decide +kernel
theorem dX9_pass_78 : decode cX9_pass 78 = .ok (.iconst 0, 1) := by decide +kernel
theorem dX9_pass_79 : decode cX9_pass 79 = .ok (.goto 4, 3) := by decide +kernel
theorem dX9_pass_82 : decode cX9_pass 82 = .ok (.iconst 1, 1) := by decide +kernel
theorem dX9_pass_83 : decode cX9_pass 83 = .ok (.iadd, 1) := by decide +kernel
theorem dX9_pass_84 : decode cX9_pass 84 = .ok (.putfield 26, 3) := by decide +kernel
theorem dX9_pass_87 : decode cX9_pass 87 = .ok (.iinc 3 1, 3) := by decide +kernel
theorem dX9_pass_90 : decode cX9_pass 90 = .ok (.goto (-80), 3) := by decide +kernel
theorem dX9_pass_93 : decode cX9_pass 93 = .ok (.aload_n 0, 1) := by decide +kernel
theorem dX9_pass_94 : decode cX9_pass 94 = .ok (.dup, 1) := by decide +kernel
theorem dX9_pass_95 : decode cX9_pass 95 = .ok (.getfield 23, 3) := by decide +kernel
theorem dX9_pass_98 : decode cX9_pass 98 = .ok (.iconst 1, 1) := by decide +kernel
theorem dX9_pass_99 : decode cX9_pass 99 = .ok (.iadd, 1) := by decide +kernel
theorem dX9_pass_100 : decode cX9_pass 100 = .ok (.putfield 23, 3) := by decide +kernel
theorem dX9_pass_103 : decode cX9_pass 103 = .ok (.return_, 1) := by decide +kernel
theorem dX9_isSame_0 : decode cX9_isSame 0 = .ok (.iconst 2, 1) := by decide +kernel
theorem dX9_isSame_1 : decode cX9_isSame 1 = .ok (.aload_n 0, 1) := by decide +kernel
theorem dX9_isSame_2 : decode cX9_isSame 2 = .ok (.getfield 19, 3) := by decide +kernel
theorem dX9_isSame_5 : decode cX9_isSame 5 = .ok (.imul, 1) := by decide +kernel
theorem dX9_isSame_6 : decode cX9_isSame 6 = .ok (.istore_n 2, 1) := by decide +kernel
theorem dX9_isSame_7 : decode cX9_isSame 7 = .ok (.aload_n 1, 1) := by decide +kernel
theorem dX9_isSame_8 : decode cX9_isSame 8 = .ok (.invokevirtual 89, 3) := by decide +kernel
theorem dX9_isSame_11 : decode cX9_isSame 11 = .ok (.aload_n 0, 1) := by decide +kernel
theorem dX9_isSame_12 : decode cX9_isSame 12 = .ok (.getfield 19, 3) := by decide +kernel
theorem dX9_isSame_15 : decode cX9_isSame 15 = .ok (.if_icmp .ne 60, 3) := by decide +kernel
theorem dX9_isSame_18 : decode cX9_isSame 18 = .ok (.aload_n 1, 1) := by decide +kernel
theorem dX9_isSame_19 : decode cX9_isSame 19 = .ok (.invokevirtual 93, 3) := by decide +kernel
theorem dX9_isSame_22 : decode cX9_isSame 22 = .ok (.aload_n 0, 1) := by decide +kernel
theorem dX9_isSame_23 : decode cX9_isSame 23 = .ok (.getfield 9, 3) := by decide +kernel
theorem dX9_isSame_26 : decode cX9_isSame 26 = .ok (.arraylength, 1) := by decide +kernel
theorem dX9_isSame_27 : decode cX9_isSame 27 = .ok (.if_icmp .ne 48, 3) := by decide +kernel
theorem dX9_isSame_30 : decode cX9_isSame 30 = .ok (.aload_n 1, 1) := by decide +kernel
theorem dX9_isSame_31 : decode cX9_isSame 31 = .ok (.invokevirtual 95, 3) := by decide +kernel
theorem dX9_isSame_34 : decode cX9_isSame 34 = .ok (.aload_n 0, 1) := by decide +kernel
theorem dX9_isSame_35 : decode cX9_isSame 35 = .ok (.getfield 15, 3) := by decide +kernel
theorem dX9_isSame_38 : decode cX9_isSame 38 = .ok (.arraylength, 1) := by decide +kernel
theorem dX9_isSame_39 : decode cX9_isSame 39 = .ok (.if_icmp .ne 36, 3) := by decide +kernel
theorem dX9_isSame_42 : decode cX9_isSame 42 = .ok (.aload_n 1, 1) := by decide +kernel
theorem dX9_isSame_43 : decode cX9_isSame 43 = .ok (.invokevirtual 97, 3) := by decide +kernel
theorem dX9_isSame_46 : decode cX9_isSame 46 = .ok (.aload_n 0, 1) := by decide +kernel
theorem dX9_isSame_47 : decode cX9_isSame 47 = .ok (.getfield 23, 3) := by decide +kernel
theorem dX9_isSame_50 : decode cX9_isSame 50 = .ok (.if_icmp .ne 25, 3) := by decide +kernel
theorem dX9_isSame_53 : decode cX9_isSame 53 = .ok (.aload_n 1, 1) := by decide +kernel
theorem dX9_isSame_54 : decode cX9_isSame 54 = .ok (.invokevirtual 99, 3) := by decide +kernel
theorem dX9_isSame_57 : decode cX9_isSame 57 = .ok (.aload_n 0, 1) := by decide +kernel
theorem dX9_isSame_58 : decode cX9_isSame 58 = .ok (.getfield 26, 3) := by decide +kernel
theorem dX9_isSame_61 : decode cX9_isSame 61 = .ok (.if_icmp .ne 14, 3) := by decide +kernel
theorem dX9_isSame_64 : decode cX9_isSame 64 = .ok (.aload_n 1, 1) := by decide +kernel
theorem dX9_isSame_65 : decode cX9_isSame 65 = .ok (.invokevirtual 102, 3) := by decide +kernel
theorem dX9_isSame_68 : decode cX9_isSame 68 = .ok (.aload_n 0, 1) := by decide +kernel
theorem dX9_isSame_69 : decode cX9_isSame 69 = .ok (.invokevirtual 67, 3) := by decide +kernel
theorem dX9_isSame_72 : decode cX9_isSame 72 = .ok (.if_icmp .eq 5, 3) := by decide +kernel
theorem dX9_isSame_75 : decode cX9_isSame 75 = .ok (.iconst 0, 1) := by decide +kernel
theorem dX9_isSame_76 : decode cX9_isSame 76 = .ok (.ireturn, 1) := by decide +kernel
theorem dX9_isSame_77 : decode cX9_isSame 77 = .ok (.iconst 0, 1) := by decide +kernel
theorem dX9_isSame_78 : decode cX9_isSame 78 = .ok (.istore_n 3, 1) := by decide +kernel
theorem dX9_isSame_79 : decode cX9_isSame 79 = .ok (.iload_n 3, 1) := by decide +kernel
theorem dX9_isSame_80 : decode cX9_isSame 80 = .ok (.aload_n 0, 1) := by decide +kernel
theorem dX9_isSame_81 : decode cX9_isSame 81 = .ok (.getfield 9, 3) := by decide +kernel
theorem dX9_isSame_84 : decode cX9_isSame 84 = .ok (.arraylength, 1) := by decide +kernel
theorem dX9_isSame_85 : decode cX9_isSame 85 = .ok (.if_icmp .ge 76, 3) := by decide +kernel
theorem dX9_isSame_88 : decode cX9_isSame 88 = .ok (.aload_n 0, 1) := by decide +kernel
theorem dX9_isSame_89 : decode cX9_isSame 89 = .ok (.getfield 9, 3) := by decide +kernel
theorem dX9_isSame_92 : decode cX9_isSame 92 = .ok (.iload_n 3, 1) := by decide +kernel
theorem dX9_isSame_93 : decode cX9_isSame 93 = .ok (.aaload, 1) := by decide +kernel
theorem dX9_isSame_94 : decode cX9_isSame 94 = .ok (.astore 4, 2) := by decide +kernel
theorem dX9_isSame_96 : decode cX9_isSame 96 = .ok (.aload_n 1, 1) := by decide +kernel
theorem dX9_isSame_97 : decode cX9_isSame 97 = .ok (.iload_n 3, 1) := by decide +kernel
theorem dX9_isSame_98 : decode cX9_isSame 98 = .ok (.invokevirtual 103, 3) := by decide +kernel
theorem dX9_isSame_101 : decode cX9_isSame 101 = .ok (.aload 4, 2) := by decide +kernel
theorem dX9_isSame_103 : decode cX9_isSame 103 = .ok (.iconst 0, 1) := by decide +kernel
theorem dX9_isSame_104 : decode cX9_isSame 104 = .ok (.iaload, 1) := by decide +kernel
theorem dX9_isSame_105 : decode cX9_isSame 105 = .ok (.if_icmp .ne 48, 3) := by decide +kernel
theorem dX9_isSame_108 : decode cX9_isSame 108 = .ok (.aload_n 1, 1) := by decide +kernel
theorem dX9_isSame_109 : decode cX9_isSame 109 = .ok (.iload_n 3, 1) := by decide +kernel
theorem dX9_isSame_110 : decode cX9_isSame 110 = .ok (.invokevirtual 106, 3) := by decide +kernel
theorem dX9_isSame_113 : decode cX9_isSame 113 = .ok (.aload 4, 2) := by decide +kernel
theorem dX9_isSame_115 : decode cX9_isSame 115 = .ok (.iconst 1, 1) := by decide +kernel
theorem dX9_isSame_116 : decode cX9_isSame 116 = .ok (.iaload, 1) := by decide +kernel
theorem dX9_isSame_117 : decode cX9_isSame 117 = .ok (.if_icmp .ne 36, 3) := by decide +kernel
theorem dX9_isSame_120 : decode cX9_isSame 120 = .ok (.aload_n 1, 1) := by decide +kernel
theorem dX9_isSame_121 : decode cX9_isSame 121 = .ok (.iload_n 3, 1) := by decide +kernel
theorem dX9_isSame_122 : decode cX9_isSame 122 = .ok (.invokevirtual 109, 3) := by decide +kernel
theorem dX9_isSame_125 : decode cX9_isSame 125 = .ok (.aload 4, 2) := by decide +kernel
theorem dX9_isSame_127 : decode cX9_isSame 127 = .ok (.iconst 2, 1) := by decide +kernel
theorem dX9_isSame_128 : decode cX9_isSame 128 = .ok (.iaload, 1) := by decide +kernel
theorem dX9_isSame_129 : decode cX9_isSame 129 = .ok (.if_icmp .ne 24, 3) := by decide +kernel
theorem dX9_isSame_132 : decode cX9_isSame 132 = .ok (.aload_n 1, 1) := by decide +kernel
theorem dX9_isSame_133 : decode cX9_isSame 133 = .ok (.iload_n 3, 1) := by decide +kernel
theorem dX9_isSame_134 : decode cX9_isSame 134 = .ok (.invokevirtual 112, 3) := by decide +kernel
theorem dX9_isSame_137 : decode cX9_isSame 137 = .ok (.aload 4, 2) := by decide +kernel
theorem dX9_isSame_139 : decode cX9_isSame 139 = .ok (.iconst 3, 1) := by decide +kernel
theorem dX9_isSame_140 : decode cX9_isSame 140 = .ok (.iaload, 1) := by decide +kernel
theorem dX9_isSame_141 : decode cX9_isSame 141 = .ok (.iconst 1, 1) := by decide +kernel
theorem dX9_isSame_142 : decode cX9_isSame 142 = .ok (.if_icmp .ne 7, 3) := by decide +kernel
theorem dX9_isSame_145 : decode cX9_isSame 145 = .ok (.iconst 1, 1) := by decide +kernel
theorem dX9_isSame_146 : decode cX9_isSame 146 = .ok (.goto 4, 3) := by decide +kernel
theorem dX9_isSame_149 : decode cX9_isSame 149 = .ok (.iconst 0, 1) := by decide +kernel
theorem dX9_isSame_150 : decode cX9_isSame 150 = .ok (.if_icmp .eq 5, 3) := by decide +kernel
theorem dX9_isSame_153 : decode cX9_isSame 153 = .ok (.iconst 0, 1) := by decide +kernel
theorem dX9_isSame_154 : decode cX9_isSame 154 = .ok (.ireturn, 1) := by decide +kernel
theorem dX9_isSame_155 : decode cX9_isSame 155 = .ok (.iinc 3 1, 3) := by decide +kernel
theorem dX9_isSame_158 : decode cX9_isSame 158 = .ok (.goto (-79), 3) := by decide +kernel
theorem dX9_isSame_161 : decode cX9_isSame 161 = .ok (.aload_n 0, 1) := by decide +kernel
theorem dX9_isSame_162 : decode cX9_isSame 162 = .ok (.invokevirtual 71, 3) := by decide +kernel
theorem dX9_isSame_165 : decode cX9_isSame 165 = .ok (.astore_n 3, 1) := by decide +kernel
theorem dX9_isSame_166 : decode cX9_isSame 166 = .ok (.aload_n 3, 1) := by decide +kernel
theorem dX9_isSame_167 : decode cX9_isSame 167 = .ok (.invokestatic 75, 3) := by decide +kernel
theorem dX9_isSame_170 : decode cX9_isSame 170 = .ok (.astore 4, 2) := by decide +kernel
theorem dX9_isSame_172 : decode cX9_isSame 172 = .ok (.aload_n 0, 1) := by decide +kernel
theorem dX9_isSame_173 : decode cX9_isSame 173 = .ok (.getfield 19, 3) := by decide +kernel
theorem dX9_isSame_176 : decode cX9_isSame 176 = .ok (.newarray .int, 2) := by decide +kernel
theorem dX9_isSame_178 : decode cX9_isSame 178 = .ok (.astore 5, 2) := by decide +kernel
theorem dX9_isSame_180 : decode cX9_isSame 180 = .ok (.aload_n 0, 1) := by decide +kernel
theorem dX9_isSame_181 : decode cX9_isSame 181 = .ok (.aload 5, 2) := by decide +kernel
theorem dX9_isSame_183 : decode cX9_isSame 183 = .ok (.invokevirtual 49, 3) := by decide +kernel
theorem dX9_isSame_186 : decode cX9_isSame 186 = .ok (.astore 6, 2) := by decide +kernel
theorem dX9_isSame_188 : decode cX9_isSame 188 = .ok (.aload_n 1, 1) := by decide +kernel
theorem dX9_isSame_189 : decode cX9_isSame 189 = .ok (.invokevirtual 116, 3) := by decide +kernel
theorem dX9_isSame_192 : decode cX9_isSame 192 = .ok (.aload 4, 2) := by decide +kernel
theorem dX9_isSame_194 : decode cX9_isSame 194 = .ok (.invokestatic 79, 3) := by decide +kernel
theorem dX9_isSame_197 : decode cX9_isSame 197 = .ok (.if_icmp .ne 63, 3) := by decide +kernel
theorem dX9_isSame_200 : decode cX9_isSame 200 = .ok (.aload_n 1, 1) := by decide +kernel
theorem dX9_isSame_201 : decode cX9_isSame 201 = .ok (.invokevirtual 118, 3) := by decide +kernel
theorem dX9_isSame_204 : decode cX9_isSame 204 = .ok (.aload 6, 2) := by decide +kernel
theorem dX9_isSame_206 : decode cX9_isSame 206 = .ok (.iconst 0, 1) := by decide +kernel
theorem dX9_isSame_207 : decode cX9_isSame 207 = .ok (.iaload, 1) := by decide +kernel
theorem dX9_isSame_208 : decode cX9_isSame 208 = .ok (.if_icmp .ne 52, 3) := by decide +kernel
theorem dX9_isSame_211 : decode cX9_isSame 211 = .ok (.aload_n 1, 1) := by decide +kernel
theorem dX9_isSame_212 : decode cX9_isSame 212 = .ok (.invokevirtual 119, 3) := by decide +kernel
theorem dX9_isSame_215 : decode cX9_isSame 215 = .ok (.aload 6, 2) := by decide +kernel
theorem dX9_isSame_217 : decode cX9_isSame 217 = .ok (.iconst 0, 1) := by decide +kernel
theorem dX9_isSame_218 : decode cX9_isSame 218 = .ok (.iaload, 1) := by decide +kernel
theorem dX9_isSame_219 : decode cX9_isSame 219 = .ok (.ifCond .le 7, 3) := by decide +kernel
theorem dX9_isSame_222 : decode cX9_isSame 222 = .ok (.iconst 1, 1) := by decide +kernel
theorem dX9_isSame_223 : decode cX9_isSame 223 = .ok (.goto 4, 3) := by decide +kernel
theorem dX9_isSame_226 : decode cX9_isSame 226 = .ok (.iconst 0, 1) := by decide +kernel
theorem dX9_isSame_227 : decode cX9_isSame 227 = .ok (.if_icmp .ne 33, 3) := by decide +kernel
theorem dX9_isSame_230 : decode cX9_isSame 230 = .ok (.aload_n 1, 1) := by decide +kernel
theorem dX9_isSame_231 : decode cX9_isSame 231 = .ok (.invokevirtual 123, 3) := by decide +kernel
theorem dX9_isSame_234 : decode cX9_isSame 234 = .ok (.aload 6, 2) := by decide +kernel
theorem dX9_isSame_236 : decode cX9_isSame 236 = .ok (.iconst 0, 1) := by decide +kernel
theorem dX9_isSame_237 : decode cX9_isSame 237 = .ok (.iaload, 1) := by decide +kernel
theorem dX9_isSame_238 : decode cX9_isSame 238 = .ok (.ifCond .ne 7, 3) := by decide +kernel
theorem dX9_isSame_241 : decode cX9_isSame 241 = .ok (.dconst 0, 1) := by decide +kernel
theorem dX9_isSame_242 : decode cX9_isSame 242 = .ok (.goto 14, 3) := by decide +kernel
theorem dX9_isSame_245 : decode cX9_isSame 245 = .ok (.aload 6, 2) := by decide +kernel
theorem dX9_isSame_247 : decode cX9_isSame 247 = .ok (.iconst 1, 1) := by decide +kernel
theorem dX9_isSame_248 : decode cX9_isSame 248 = .ok (.iaload, 1) := by decide +kernel
theorem dX9_isSame_249 : decode cX9_isSame 249 = .ok (.i2d, 1) := by decide +kernel
theorem dX9_isSame_250 : decode cX9_isSame 250 = .ok (.aload 6, 2) := by decide +kernel
theorem dX9_isSame_252 : decode cX9_isSame 252 = .ok (.iconst 0, 1) := by decide +kernel
theorem dX9_isSame_253 : decode cX9_isSame 253 = .ok (.iaload, 1) := by decide +kernel
theorem dX9_isSame_254 : decode cX9_isSame 254 = .ok (.i2d, 1) := by decide +kernel
theorem dX9_isSame_255 : decode cX9_isSame 255 = .ok (.ddiv, 1) := by decide +kernel
theorem dX9_isSame_256 : decode cX9_isSame 256 = .ok (.dcmp .l, 1) := by decide +kernel
theorem dX9_isSame_257 : decode cX9_isSame 257 = .ok (.ifCond .eq 5, 3) := by decide +kernel
theorem dX9_isSame_260 : decode cX9_isSame 260 = .ok (.iconst 0, 1) := by decide +kernel
theorem dX9_isSame_261 : decode cX9_isSame 261 = .ok (.ireturn, 1) := by decide +kernel
theorem dX9_isSame_262 : decode cX9_isSame 262 = .ok (.iconst (-1), 1) := by decide +kernel
theorem dX9_isSame_263 : decode cX9_isSame 263 = .ok (.istore 7, 2) := by decide +kernel
theorem dX9_isSame_265 : decode cX9_isSame 265 = .ok (.iload_n 2, 1) := by decide +kernel
theorem dX9_isSame_266 : decode cX9_isSame 266 = .ok (.iconst 1, 1) := by decide +kernel
theorem dX9_isSame_267 : decode cX9_isSame 267 = .ok (.isub, 1) := by decide +kernel
theorem dX9_isSame_268 : decode cX9_isSame 268 = .ok (.istore 8, 2) := by decide +kernel
theorem dX9_isSame_270 : decode cX9_isSame 270 = .ok (.iload 8, 2) := by decide +kernel
theorem dX9_isSame_272 : decode cX9_isSame 272 = .ok (.ifCond .lt 259, 3) := by decide +kernel
theorem dX9_isSame_275 : decode cX9_isSame 275 = .ok (.iconst 0, 1) := by decide +kernel
theorem dX9_isSame_276 : decode cX9_isSame 276 = .ok (.istore 9, 2) := by decide +kernel
theorem dX9_isSame_278 : decode cX9_isSame 278 = .ok (.iconst 0, 1) := by decide +kernel
theorem dX9_isSame_279 : decode cX9_isSame 279 = .ok (.istore 10, 2) := by decide +kernel
theorem dX9_isSame_281 : decode cX9_isSame 281 = .ok (.iconst 0, 1) := by decide +kernel
theorem dX9_isSame_282 : decode cX9_isSame 282 = .ok (.istore 11, 2) := by decide +kernel
theorem dX9_isSame_284 : decode cX9_isSame 284 = .ok (.iload 11, 2) := by decide +kernel
theorem dX9_isSame_286 : decode cX9_isSame 286 = .ok (.iload_n 2, 1) := by decide +kernel
theorem dX9_isSame_287 : decode cX9_isSame 287 = .ok (.if_icmp .ge 101, 3) := by decide +kernel
theorem dX9_isSame_290 : decode cX9_isSame 290 = .ok (.iload 9, 2) := by decide +kernel
theorem dX9_isSame_292 : decode cX9_isSame 292 = .ok (.aload_n 3, 1) := by decide +kernel
theorem dX9_isSame_293 : decode cX9_isSame 293 = .ok (.iload 8, 2) := by decide +kernel
theorem dX9_isSame_295 : decode cX9_isSame 295 = .ok (.aaload, 1) := by decide +kernel
theorem dX9_isSame_296 : decode cX9_isSame 296 = .ok (.iload 11, 2) := by decide +kernel
theorem dX9_isSame_298 : decode cX9_isSame 298 = .ok (.iaload, 1) := by decide +kernel
theorem dX9_isSame_299 : decode cX9_isSame 299 = .ok (.sipush 999, 3) := by decide +kernel
theorem dX9_isSame_302 : decode cX9_isSame 302 = .ok (.if_icmp .ge 7, 3) := by decide +kernel
theorem dX9_isSame_305 : decode cX9_isSame 305 = .ok (.iconst 1, 1) := by decide +kernel
theorem dX9_isSame_306 : decode cX9_isSame 306 = .ok (.goto 4, 3) := by decide +kernel
theorem dX9_isSame_309 : decode cX9_isSame 309 = .ok (.iconst 0, 1) := by decide +kernel
theorem dX9_isSame_310 : decode cX9_isSame 310 = .ok (.iadd, 1) := by decide +kernel
theorem dX9_isSame_311 : decode cX9_isSame 311 = .ok (.istore 9, 2) := by decide +kernel
theorem dX9_isSame_313 : decode cX9_isSame 313 = .ok (.iload 10, 2) := by decide +kernel
theorem dX9_isSame_315 : decode cX9_isSame 315 = .ok (.aload 4, 2) := by decide +kernel
theorem dX9_isSame_317 : decode cX9_isSame 317 = .ok (.iload 11, 2) := by decide +kernel
theorem dX9_isSame_319 : decode cX9_isSame 319 = .ok (.iaload, 1) := by decide +kernel
theorem dX9_isSame_320 : decode cX9_isSame 320 = .ok (.aload 4, 2) := by decide +kernel
theorem dX9_isSame_322 : decode cX9_isSame 322 = .ok (.iload 8, 2) := by decide +kernel
theorem dX9_isSame_324 : decode cX9_isSame 324 = .ok (.iaload, 1) := by decide +kernel
theorem dX9_isSame_325 : decode cX9_isSame 325 = .ok (.if_icmp .ne 7, 3) := by decide +kernel
theorem dX9_isSame_328 : decode cX9_isSame 328 = .ok (.iconst 1, 1) := by decide +kernel
theorem dX9_isSame_329 : decode cX9_isSame 329 = .ok (.goto 4, 3) := by decide +kernel
theorem dX9_isSame_332 : decode cX9_isSame 332 = .ok (.iconst 0, 1) := by decide +kernel
theorem dX9_isSame_333 : decode cX9_isSame 333 = .ok (.iadd, 1) := by decide +kernel
theorem dX9_isSame_334 : decode cX9_isSame 334 = .ok (.istore 10, 2) := by decide +kernel
theorem dX9_isSame_336 : decode cX9_isSame 336 = .ok (.iload 8, 2) := by decide +kernel
theorem dX9_isSame_338 : decode cX9_isSame 338 = .ok (.iload 11, 2) := by decide +kernel
theorem dX9_isSame_340 : decode cX9_isSame 340 = .ok (.iadd, 1) := by decide +kernel
theorem dX9_isSame_341 : decode cX9_isSame 341 = .ok (.aload_n 0, 1) := by decide +kernel
theorem dX9_isSame_342 : decode cX9_isSame 342 = .ok (.getfield 23, 3) := by decide +kernel
theorem dX9_isSame_345 : decode cX9_isSame 345 = .ok (.iadd, 1) := by decide +kernel
theorem dX9_isSame_346 : decode cX9_isSame 346 = .ok (.iconst 3, 1) := by decide +kernel
theorem dX9_isSame_347 : decode cX9_isSame 347 = .ok (.irem, 1) := by decide +kernel
theorem dX9_isSame_348 : decode cX9_isSame 348 = .ok (.ifCond .ne 34, 3) := by decide +kernel
theorem dX9_isSame_351 : decode cX9_isSame 351 = .ok (.aload_n 1, 1) := by decide +kernel
theorem dX9_isSame_352 : decode cX9_isSame 352 = .ok (.iload 11, 2) := by decide +kernel
theorem dX9_isSame_354 : decode cX9_isSame 354 = .ok (.iload 8, 2) := by decide +kernel
theorem dX9_isSame_356 : decode cX9_isSame 356 = .ok (.invokevirtual 127, 3) := by decide +kernel
theorem dX9_isSame_359 : decode cX9_isSame 359 = .ok (.aload_n 3, 1) := by decide +kernel
theorem dX9_isSame_360 : decode cX9_isSame 360 = .ok (.iload 8, 2) := by decide +kernel
theorem dX9_isSame_362 : decode cX9_isSame 362 = .ok (.aaload, 1) := by decide +kernel
theorem dX9_isSame_363 : decode cX9_isSame 363 = .ok (.iload 11, 2) := by decide +kernel
theorem dX9_isSame_365 : decode cX9_isSame 365 = .ok (.iaload, 1) := by decide +kernel
theorem dX9_isSame_366 : decode cX9_isSame 366 = .ok (.sipush 999, 3) := by decide +kernel
theorem dX9_isSame_369 : decode cX9_isSame 369 = .ok (.if_icmp .ge 7, 3) := by decide +kernel
theorem dX9_isSame_372 : decode cX9_isSame 372 = .ok (.iconst 1, 1) := by decide +kernel
theorem dX9_isSame_373 : decode cX9_isSame 373 = .ok (.goto 4, 3) := by decide +kernel
theorem dX9_isSame_376 : decode cX9_isSame 376 = .ok (.iconst 0, 1) := by decide +kernel
theorem dX9_isSame_377 : decode cX9_isSame 377 = .ok (.if_icmp .eq 5, 3) := by decide +kernel
theorem dX9_isSame_380 : decode cX9_isSame 380 = .ok (.iconst 0, 1) := by decide +kernel
theorem dX9_isSame_381 : decode cX9_isSame 381 = .ok (.ireturn, 1) := by decide +kernel
theorem dX9_isSame_382 : decode cX9_isSame 382 = .ok (.iinc 11 1, 3) := by decide +kernel
theorem dX9_isSame_385 : decode cX9_isSame 385 = .ok (.goto (-101), 3) := by decide +kernel
theorem dX9_isSame_388 : decode cX9_isSame 388 = .ok (.aload_n 1, 1) := by decide +kernel
theorem dX9_isSame_389 : decode cX9_isSame 389 = .ok (.iload 8, 2) := by decide +kernel
theorem dX9_isSame_391 : decode cX9_isSame 391 = .ok (.invokevirtual 131, 3) := by decide +kernel
theorem dX9_isSame_394 : decode cX9_isSame 394 = .ok (.iload 9, 2) := by decide +kernel
theorem dX9_isSame_396 : decode cX9_isSame 396 = .ok (.if_icmp .ne 68, 3) := by decide +kernel
theorem dX9_isSame_399 : decode cX9_isSame 399 = .ok (.aload_n 1, 1) := by decide +kernel
theorem dX9_isSame_400 : decode cX9_isSame 400 = .ok (.iload 8, 2) := by decide +kernel
theorem dX9_isSame_402 : decode cX9_isSame 402 = .ok (.invokevirtual 134, 3) := by decide +kernel
theorem dX9_isSame_405 : decode cX9_isSame 405 = .ok (.aload 4, 2) := by decide +kernel
theorem dX9_isSame_407 : decode cX9_isSame 407 = .ok (.iload 8, 2) := by decide +kernel
theorem dX9_isSame_409 : decode cX9_isSame 409 = .ok (.iaload, 1) := by decide +kernel
theorem dX9_isSame_410 : decode cX9_isSame 410 = .ok (.if_icmp .ne 54, 3) := by decide +kernel
theorem dX9_isSame_413 : decode cX9_isSame 413 = .ok (.aload_n 1, 1) := by decide +kernel
theorem dX9_isSame_414 : decode cX9_isSame 414 = .ok (.iload 8, 2) := by decide +kernel
theorem dX9_isSame_416 : decode cX9_isSame 416 = .ok (.invokevirtual 137, 3) := by decide +kernel
theorem dX9_isSame_419 : decode cX9_isSame 419 = .ok (.iload 10, 2) := by decide +kernel
theorem dX9_isSame_421 : decode cX9_isSame 421 = .ok (.if_icmp .ne 43, 3) := by decide +kernel
theorem dX9_isSame_424 : decode cX9_isSame 424 = .ok (.aload_n 1, 1) := by decide +kernel
theorem dX9_isSame_425 : decode cX9_isSame 425 = .ok (.iload 8, 2) := by decide +kernel
theorem dX9_isSame_427 : decode cX9_isSame 427 = .ok (.invokevirtual 140, 3) := by decide +kernel
theorem dX9_isSame_430 : decode cX9_isSame 430 = .ok (.aload 6, 2) := by decide +kernel
theorem dX9_isSame_432 : decode cX9_isSame 432 = .ok (.iconst 2, 1) := by decide +kernel
theorem dX9_isSame_433 : decode cX9_isSame 433 = .ok (.iload 8, 2) := by decide +kernel
theorem dX9_isSame_435 : decode cX9_isSame 435 = .ok (.iadd, 1) := by decide +kernel
theorem dX9_isSame_436 : decode cX9_isSame 436 = .ok (.iaload, 1) := by decide +kernel
theorem dX9_isSame_437 : decode cX9_isSame 437 = .ok (.if_icmp .ne 27, 3) := by decide +kernel
theorem dX9_isSame_440 : decode cX9_isSame 440 = .ok (.aload_n 1, 1) := by decide +kernel
theorem dX9_isSame_441 : decode cX9_isSame 441 = .ok (.iload 8, 2) := by decide +kernel
theorem dX9_isSame_443 : decode cX9_isSame 443 = .ok (.invokevirtual 143, 3) := by decide +kernel
theorem dX9_isSame_446 : decode cX9_isSame 446 = .ok (.aload 6, 2) := by decide +kernel
theorem dX9_isSame_448 : decode cX9_isSame 448 = .ok (.iconst 2, 1) := by decide +kernel
theorem dX9_isSame_449 : decode cX9_isSame 449 = .ok (.iload 8, 2) := by decide +kernel
theorem dX9_isSame_451 : decode cX9_isSame 451 = .ok (.iadd, 1) := by decide +kernel
theorem dX9_isSame_452 : decode cX9_isSame 452 = .ok (.iaload, 1) := by decide +kernel
theorem dX9_isSame_453 : decode cX9_isSame 453 = .ok (.ifCond .le 7, 3) := by decide +kernel
theorem dX9_isSame_456 : decode cX9_isSame 456 = .ok (.iconst 1, 1) := by decide +kernel
theorem dX9_isSame_457 : decode cX9_isSame 457 = .ok (.goto 4, 3) := by decide +kernel
theorem dX9_isSame_460 : decode cX9_isSame 460 = .ok (.iconst 0, 1) := by decide +kernel
theorem dX9_isSame_461 : decode cX9_isSame 461 = .ok (.if_icmp .eq 5, 3) := by decide +kernel
theorem dX9_isSame_464 : decode cX9_isSame 464 = .ok (.iconst 0, 1) := by decide +kernel
theorem dX9_isSame_465 : decode cX9_isSame 465 = .ok (.ireturn, 1) := by decide +kernel
theorem dX9_isSame_466 : decode cX9_isSame 466 = .ok (.aload 6, 2) := by decide +kernel
theorem dX9_isSame_468 : decode cX9_isSame 468 = .ok (.iconst 0, 1) := by decide +kernel
theorem dX9_isSame_469 : decode cX9_isSame 469 = .ok (.iaload, 1) := by decide +kernel
theorem dX9_isSame_470 : decode cX9_isSame 470 = .ok (.ifCond .le 33, 3) := by decide +kernel
theorem dX9_isSame_473 : decode cX9_isSame 473 = .ok (.aload_n 1, 1) := by decide +kernel
theorem dX9_isSame_474 : decode cX9_isSame 474 = .ok (.iload 8, 2) := by decide +kernel
theorem dX9_isSame_476 : decode cX9_isSame 476 = .ok (.invokevirtual 146, 3) := by decide +kernel
theorem dX9_isSame_479 : decode cX9_isSame 479 = .ok (.aload 6, 2) := by decide +kernel
theorem dX9_isSame_481 : decode cX9_isSame 481 = .ok (.iconst 2, 1) := by decide +kernel
theorem dX9_isSame_482 : decode cX9_isSame 482 = .ok (.iload 8, 2) := by decide +kernel
theorem dX9_isSame_484 : decode cX9_isSame 484 = .ok (.iadd, 1) := by decide +kernel
theorem dX9_isSame_485 : decode cX9_isSame 485 = .ok (.iaload, 1) := by decide +kernel
theorem dX9_isSame_486 : decode cX9_isSame 486 = .ok (.aload 6, 2) := by decide +kernel
theorem dX9_isSame_488 : decode cX9_isSame 488 = .ok (.iconst 0, 1) := by decide +kernel
theorem dX9_isSame_489 : decode cX9_isSame 489 = .ok (.iaload, 1) := by decide +kernel
theorem dX9_isSame_490 : decode cX9_isSame 490 = .ok (.if_icmp .ne 7, 3) := by decide +kernel
theorem dX9_isSame_493 : decode cX9_isSame 493 = .ok (.iconst 1, 1) := by decide +kernel
theorem dX9_isSame_494 : decode cX9_isSame 494 = .ok (.goto 4, 3) := by decide +kernel
theorem dX9_isSame_497 : decode cX9_isSame 497 = .ok (.iconst 0, 1) := by decide +kernel
theorem dX9_isSame_498 : decode cX9_isSame 498 = .ok (.if_icmp .eq 5, 3) := by decide +kernel
theorem dX9_isSame_501 : decode cX9_isSame 501 = .ok (.iconst 0, 1) := by decide +kernel
theorem dX9_isSame_502 : decode cX9_isSame 502 = .ok (.ireturn, 1) := by decide +kernel
theorem dX9_isSame_503 : decode cX9_isSame 503 = .ok (.aload 4, 2) := by decide +kernel
theorem dX9_isSame_505 : decode cX9_isSame 505 = .ok (.iload 8, 2) := by decide +kernel
theorem dX9_isSame_507 : decode cX9_isSame 507 = .ok (.iaload, 1) := by decide +kernel
theorem dX9_isSame_508 : decode cX9_isSame 508 = .ok (.aload 4, 2) := by decide +kernel
theorem dX9_isSame_510 : decode cX9_isSame 510 = .ok (.iload 8, 2) := by decide +kernel
theorem dX9_isSame_512 : decode cX9_isSame 512 = .ok (.invokestatic 53, 3) := by decide +kernel
theorem dX9_isSame_515 : decode cX9_isSame 515 = .ok (.iaload, 1) := by decide +kernel
theorem dX9_isSame_516 : decode cX9_isSame 516 = .ok (.if_icmp .ne 9, 3) := by decide +kernel
theorem dX9_isSame_519 : decode cX9_isSame 519 = .ok (.iload 8, 2) := by decide +kernel
theorem dX9_isSame_521 : decode cX9_isSame 521 = .ok (.iconst 2, 1) := by decide +kernel
theorem dX9_isSame_522 : decode cX9_isSame 522 = .ok (.idiv, 1) := by decide +kernel
theorem dX9_isSame_523 : decode cX9_isSame 523 = .ok (.istore 7, 2) := by decide +kernel
theorem dX9_isSame_525 : decode cX9_isSame 525 = .ok (.iinc 8 (-1), 3) := by decide +kernel
theorem dX9_isSame_528 : decode cX9_isSame 528 = .ok (.goto (-258), 3) := by decide +kernel
theorem dX9_isSame_531 : decode cX9_isSame 531 = .ok (.iload 7, 2) := by decide +kernel
theorem dX9_isSame_533 : decode cX9_isSame 533 = .ok (.ifCond .lt 7, 3) := by decide +kernel
theorem dX9_isSame_536 : decode cX9_isSame 536 = .ok (.iconst 1, 1) := by decide +kernel
theorem dX9_isSame_537 : decode cX9_isSame 537 = .ok (.goto 4, 3) := by decide +kernel
theorem dX9_isSame_540 : decode cX9_isSame 540 = .ok (.iconst 0, 1) := by decide +kernel
theorem dX9_isSame_541 : decode cX9_isSame 541 = .ok (.aload 6, 2) := by decide +kernel
theorem dX9_isSame_543 : decode cX9_isSame 543 = .ok (.iconst 0, 1) := by decide +kernel
theorem dX9_isSame_544 : decode cX9_isSame 544 = .ok (.iaload, 1) := by decide +kernel
theorem dX9_isSame_545 : decode cX9_isSame 545 = .ok (.ifCond .ne 7, 3) := by decide +kernel
theorem dX9_isSame_548 : decode cX9_isSame 548 = .ok (.iconst 1, 1) := by decide +kernel
theorem dX9_isSame_549 : decode cX9_isSame 549 = .ok (.goto 4, 3) := by decide +kernel
theorem dX9_isSame_552 : decode cX9_isSame 552 = .ok (.iconst 0, 1) := by decide +kernel
theorem dX9_isSame_553 : decode cX9_isSame 553 = .ok (.if_icmp .eq 5, 3) := by decide +kernel
theorem dX9_isSame_556 : decode cX9_isSame 556 = .ok (.iconst 0, 1) := by decide +kernel
theorem dX9_isSame_557 : decode cX9_isSame 557 = .ok (.ireturn, 1) := by decide +kernel
theorem dX9_isSame_558 : decode cX9_isSame 558 = .ok (.iload 7, 2) := by decide +kernel
theorem dX9_isSame_560 : decode cX9_isSame 560 = .ok (.ifCond .lt 18, 3) := by decide +kernel
theorem dX9_isSame_563 : decode cX9_isSame 563 = .ok (.aload_n 1, 1) := by decide +kernel
theorem dX9_isSame_564 : decode cX9_isSame 564 = .ok (.invokevirtual 149, 3) := by decide +kernel
theorem dX9_isSame_567 : decode cX9_isSame 567 = .ok (.iload 7, 2) := by decide +kernel
theorem dX9_isSame_569 : decode cX9_isSame 569 = .ok (.if_icmp .ne 7, 3) := by decide +kernel
theorem dX9_isSame_572 : decode cX9_isSame 572 = .ok (.iconst 1, 1) := by decide +kernel
theorem dX9_isSame_573 : decode cX9_isSame 573 = .ok (.goto 4, 3) := by decide +kernel
theorem dX9_isSame_576 : decode cX9_isSame 576 = .ok (.iconst 0, 1) := by decide +kernel
theorem dX9_isSame_577 : decode cX9_isSame 577 = .ok (.ireturn, 1) := by decide +kernel
theorem dX9_isSame_578 : decode cX9_isSame 578 = .ok (.iconst 0, 1) := by decide +kernel
theorem dX9_isSame_579 : decode cX9_isSame 579 = .ok (.istore 8, 2) := by decide +kernel
theorem dX9_isSame_581 : decode cX9_isSame 581 = .ok (.iconst 0, 1) := by decide +kernel
theorem dX9_isSame_582 : decode cX9_isSame 582 = .ok (.istore 9, 2) := by decide +kernel
theorem dX9_isSame_584 : decode cX9_isSame 584 = .ok (.iload 9, 2) := by decide +kernel
theorem dX9_isSame_586 : decode cX9_isSame 586 = .ok (.aload_n 0, 1) := by decide +kernel
theorem dX9_isSame_587 : decode cX9_isSame 587 = .ok (.getfield 19, 3) := by decide +kernel
theorem dX9_isSame_590 : decode cX9_isSame 590 = .ok (.if_icmp .ge 45, 3) := by decide +kernel
theorem dX9_isSame_593 : decode cX9_isSame 593 = .ok (.aload_n 1, 1) := by decide +kernel
theorem dX9_isSame_594 : decode cX9_isSame 594 = .ok (.iload 9, 2) := by decide +kernel
theorem dX9_isSame_596 : decode cX9_isSame 596 = .ok (.invokevirtual 152, 3) := by decide +kernel
theorem dX9_isSame_599 : decode cX9_isSame 599 = .ok (.aload 5, 2) := by decide +kernel
theorem dX9_isSame_601 : decode cX9_isSame 601 = .ok (.iload 9, 2) := by decide +kernel
theorem dX9_isSame_603 : decode cX9_isSame 603 = .ok (.iaload, 1) := by decide +kernel
theorem dX9_isSame_604 : decode cX9_isSame 604 = .ok (.ifCond .ne 7, 3) := by decide +kernel
theorem dX9_isSame_607 : decode cX9_isSame 607 = .ok (.iconst 1, 1) := by decide +kernel
theorem dX9_isSame_608 : decode cX9_isSame 608 = .ok (.goto 4, 3) := by decide +kernel
theorem dX9_isSame_611 : decode cX9_isSame 611 = .ok (.iconst 0, 1) := by decide +kernel
theorem dX9_isSame_612 : decode cX9_isSame 612 = .ok (.if_icmp .eq 5, 3) := by decide +kernel
theorem dX9_isSame_615 : decode cX9_isSame 615 = .ok (.iconst 0, 1) := by decide +kernel
theorem dX9_isSame_616 : decode cX9_isSame 616 = .ok (.ireturn, 1) := by decide +kernel
theorem dX9_isSame_617 : decode cX9_isSame 617 = .ok (.iload 8, 2) := by decide +kernel
theorem dX9_isSame_619 : decode cX9_isSame 619 = .ok (.iconst 1, 1) := by decide +kernel
theorem dX9_isSame_620 : decode cX9_isSame 620 = .ok (.aload 5, 2) := by decide +kernel
theorem dX9_isSame_622 : decode cX9_isSame 622 = .ok (.iload 9, 2) := by decide +kernel
theorem dX9_isSame_624 : decode cX9_isSame 624 = .ok (.iaload, 1) := by decide +kernel
theorem dX9_isSame_625 : decode cX9_isSame 625 = .ok (.isub, 1) := by decide +kernel
theorem dX9_isSame_626 : decode cX9_isSame 626 = .ok (.iadd, 1) := by decide +kernel
theorem dX9_isSame_627 : decode cX9_isSame 627 = .ok (.istore 8, 2) := by decide +kernel
theorem dX9_isSame_629 : decode cX9_isSame 629 = .ok (.iinc 9 1, 3) := by decide +kernel
theorem dX9_isSame_632 : decode cX9_isSame 632 = .ok (.goto (-48), 3) := by decide +kernel
theorem dX9_isSame_635 : decode cX9_isSame 635 = .ok (.aload_n 1, 1) := by decide +kernel
theorem dX9_isSame_636 : decode cX9_isSame 636 = .ok (.invokevirtual 155, 3) := by decide +kernel
theorem dX9_isSame_639 : decode cX9_isSame 639 = .ok (.iload 8, 2) := by decide +kernel
theorem dX9_isSame_641 : decode cX9_isSame 641 = .ok (.if_icmp .ne 7, 3) := by decide +kernel
theorem dX9_isSame_644 : decode cX9_isSame 644 = .ok (.iconst 1, 1) := by decide +kernel
theorem dX9_isSame_645 : decode cX9_isSame 645 = .ok (.goto 4, 3) := by decide +kernel
theorem dX9_isSame_648 : decode cX9_isSame 648 = .ok (.iconst 0, 1) := by decide +kernel
theorem dX9_isSame_649 : decode cX9_isSame 649 = .ok (.ireturn, 1) := by decide +kernel
theorem dJ5_init_d00df_0 : decode cJ5_init_d00df 0 = .ok (.aload_n 0, 1) := by decide +kernel
theorem dJ5_init_d00df_1 : decode cJ5_init_d00df 1 = .ok (.invokespecial 3, 3) := by decide +kernel
theorem dJ5_init_d00df_4 : decode cJ5_init_d00df 4 = .ok (.getstatic 18, 3) := by decide +kernel
theorem dJ5_init_d00df_7 : decode cJ5_init_d00df 7 = .ok (.ifCond .eq 18, 3) := by decide +kernel
theorem dJ5_init_d00df_10 : decode cJ5_init_d00df 10 = .ok (.aload_n 0, 1) := by decide +kernel
theorem dJ5_init_d00df_11 : decode cJ5_init_d00df 11 = .ok (.iload_n 1, 1) := by decide +kernel
theorem dJ5_init_d00df_12 : decode cJ5_init_d00df 12 = .ok (.newarray .byte, 2) := by decide +kernel
theorem dJ5_init_d00df_14 : decode cJ5_init_d00df 14 = .ok (.putfield 15, 3) := by decide +kernel
theorem dJ5_init_d00df_17 : decode cJ5_init_d00df 17 = .ok (.aload_n 0, 1) := by decide +kernel
theorem dJ5_init_d00df_18 : decode cJ5_init_d00df 18 = .ok (.iconst 0, 1) := by decide +kernel
theorem dJ5_init_d00df_19 : decode cJ5_init_d00df 19 = .ok (.putfield 22, 3) := by decide +kernel
theorem dJ5_init_d00df_22 : decode cJ5_init_d00df 22 = .ok (.goto 16, 3) := by decide +kernel
theorem dJ5_init_d00df_25 : decode cJ5_init_d00df 25 = .ok (.aload_n 0, 1) := by decide +kernel
theorem dJ5_init_d00df_26 : decode cJ5_init_d00df 26 = .ok (.iload_n 1, 1) := by decide +kernel
theorem dJ5_init_d00df_27 : decode cJ5_init_d00df 27 = .ok (.invokestatic 26, 3) := by decide +kernel
theorem dJ5_init_d00df_30 : decode cJ5_init_d00df 30 = .ok (.putfield 15, 3) := by decide +kernel
theorem dJ5_init_d00df_33 : decode cJ5_init_d00df 33 = .ok (.aload_n 0, 1) := by decide +kernel
theorem dJ5_init_d00df_34 : decode cJ5_init_d00df 34 = .ok (.iconst 1, 1) := by decide +kernel
theorem dJ5_init_d00df_35 : decode cJ5_init_d00df 35 = .ok (.putfield 22, 3) := by decide +kernel
theorem dJ5_init_d00df_38 : decode cJ5_init_d00df 38 = .ok (.return_, 1) := by decide +kernel
theorem dJ5_length_8abf5_0 : decode cJ5_length_8abf5 0 = .ok (.aload_n 0, 1) := by decide +kernel
theorem dJ5_length_8abf5_1 : decode cJ5_length_8abf5 1 = .ok (.getfield 79, 3) := by decide +kernel
theorem dJ5_length_8abf5_4 : decode cJ5_length_8abf5 4 = .ok (.ireturn, 1) := by decide +kernel
theorem dJ5_ensureCapacityInternal_d00df_0 : decode cJ5_ensureCapacityInternal_d00df 0 = .ok (.aload_n 0, 1) := by decide +kernel
theorem dJ5_ensureCapacityInternal_d00df_1 : decode cJ5_ensureCapacityInternal_d00df 1 = .ok (.getfield 15, 3) := by decide +kernel
theorem dJ5_ensureCapacityInternal_d00df_4 : decode cJ5_ensureCapacityInternal_d00df 4 = .ok (.arraylength, 1) := by decide +kernel
theorem dJ5_ensureCapacityInternal_d00df_5 : decode cJ5_ensureCapacityInternal_d00df 5 = .ok (.aload_n 0, 1) := by decide +kernel
theorem dJ5_ensureCapacityInternal_d00df_6 : decode cJ5_ensureCapacityInternal_d00df 6 = .ok (.getfield 22, 3) := by decide +kernel
theorem dJ5_ensureCapacityInternal_d00df_9 : decode cJ5_ensureCapacityInternal_d00df 9 = .ok (.ishr, 1) := by decide +kernel
theorem dJ5_ensureCapacityInternal_d00df_10 : decode cJ5_ensureCapacityInternal_d00df 10 = .ok (.istore_n 2, 1) := by decide +kernel
theorem dJ5_ensureCapacityInternal_d00df_11 : decode cJ5_ensureCapacityInternal_d00df 11 = .ok (.iload_n 1, 1) := by decide +kernel
theorem dJ5_ensureCapacityInternal_d00df_12 : decode cJ5_ensureCapacityInternal_d00df 12 = .ok (.iload_n 2, 1) := by decide +kernel
theorem dJ5_ensureCapacityInternal_d00df_13 : decode cJ5_ensureCapacityInternal_d00df 13 = .ok (.isub, 1) := by decide +kernel
theorem dJ5_ensureCapacityInternal_d00df_14 : decode cJ5_ensureCapacityInternal_d00df 14 = .ok (.ifCond .le 24, 3) := by decide +kernel
theorem dJ5_ensureCapacityInternal_d00df_17 : decode cJ5_ensureCapacityInternal_d00df 17 = .ok (.aload_n 0, 1) := by decide +kernel
theorem dJ5_ensureCapacityInternal_d00df_18 : decode cJ5_ensureCapacityInternal_d00df 18 = .ok (.aload_n 0, 1) := by decide +kernel
theorem dJ5_ensureCapacityInternal_d00df_19 : decode cJ5_ensureCapacityInternal_d00df 19 = .ok (.getfield 15, 3) := by decide +kernel
theorem dJ5_ensureCapacityInternal_d00df_22 : decode cJ5_ensureCapacityInternal_d00df 22 = .ok (.aload_n 0, 1) := by decide +kernel
theorem dJ5_ensureCapacityInternal_d00df_23 : decode cJ5_ensureCapacityInternal_d00df 23 = .ok (.iload_n 1, 1) := by decide +kernel
theorem dJ5_ensureCapacityInternal_d00df_24 : decode cJ5_ensureCapacityInternal_d00df 24 = .ok (.invokevirtual 104, 3) := by decide +kernel
theorem dJ5_ensureCapacityInternal_d00df_27 : decode cJ5_ensureCapacityInternal_d00df 27 = .ok (.aload_n 0, 1) := by decide +kernel
theorem dJ5_ensureCapacityInternal_d00df_28 : decode cJ5_ensureCapacityInternal_d00df 28 = .ok (.getfield 22, 3) := by decide +kernel
theorem dJ5_ensureCapacityInternal_d00df_31 : decode cJ5_ensureCapacityInternal_d00df 31 = .ok (.ishl, 1) := by decide +kernel
theorem dJ5_ensureCapacityInternal_d00df_32 : decode cJ5_ensureCapacityInternal_d00df 32 = .ok (.invokestatic 108, 3) := by decide +kernel
theorem dJ5_ensureCapacityInternal_d00df_35 : decode cJ5_ensureCapacityInternal_d00df 35 = .ok (.putfield 15, 3) := by decide +kernel
theorem dJ5_ensureCapacityInternal_d00df_38 : decode cJ5_ensureCapacityInternal_d00df 38 = .ok (.return_, 1) := by decide +kernel
theorem dJ5_newCapacity_0f7a4_0 : decode cJ5_newCapacity_0f7a4 0 = .ok (.aload_n 0, 1) := by decide +kernel
theorem dJ5_newCapacity_0f7a4_1 : decode cJ5_newCapacity_0f7a4 1 = .ok (.getfield 15, 3) := by decide +kernel
theorem dJ5_newCapacity_0f7a4_4 : decode cJ5_newCapacity_0f7a4 4 = .ok (.arraylength, 1) := by decide +kernel
theorem dJ5_newCapacity_0f7a4_5 : decode cJ5_newCapacity_0f7a4 5 = .ok (.istore_n 2, 1) := by decide +kernel
theorem dJ5_newCapacity_0f7a4_6 : decode cJ5_newCapacity_0f7a4 6 = .ok (.iload_n 1, 1) := by decide +kernel
theorem dJ5_newCapacity_0f7a4_7 : decode cJ5_newCapacity_0f7a4 7 = .ok (.aload_n 0, 1) := by decide +kernel
theorem dJ5_newCapacity_0f7a4_8 : decode cJ5_newCapacity_0f7a4 8 = .ok (.getfield 22, 3) := by decide +kernel
theorem dJ5_newCapacity_0f7a4_11 : decode cJ5_newCapacity_0f7a4 11 = .ok (.ishl, 1) := by decide +kernel
theorem dJ5_newCapacity_0f7a4_12 : decode cJ5_newCapacity_0f7a4 12 = .ok (.istore_n 3, 1) := by decide +kernel
theorem dJ5_newCapacity_0f7a4_13 : decode cJ5_newCapacity_0f7a4 13 = .ok (.iload_n 3, 1) := by decide +kernel
theorem dJ5_newCapacity_0f7a4_14 : decode cJ5_newCapacity_0f7a4 14 = .ok (.iload_n 2, 1) := by decide +kernel
theorem dJ5_newCapacity_0f7a4_15 : decode cJ5_newCapacity_0f7a4 15 = .ok (.isub, 1) := by decide +kernel
theorem dJ5_newCapacity_0f7a4_16 : decode cJ5_newCapacity_0f7a4 16 = .ok (.istore 4, 2) := by decide +kernel
theorem dJ5_newCapacity_0f7a4_18 : decode cJ5_newCapacity_0f7a4 18 = .ok (.iload_n 2, 1) := by decide +kernel
theorem dJ5_newCapacity_0f7a4_19 : decode cJ5_newCapacity_0f7a4 19 = .ok (.iload 4, 2) := by decide +kernel
theorem dJ5_newCapacity_0f7a4_21 : decode cJ5_newCapacity_0f7a4 21 = .ok (.iload_n 2, 1) := by decide +kernel
theorem dJ5_newCapacity_0f7a4_22 : decode cJ5_newCapacity_0f7a4 22 = .ok (.iconst 2, 1) := by decide +kernel
theorem dJ5_newCapacity_0f7a4_23 : decode cJ5_newCapacity_0f7a4 23 = .ok (.aload_n 0, 1) := by decide +kernel
theorem dJ5_newCapacity_0f7a4_24 : decode cJ5_newCapacity_0f7a4 24 = .ok (.getfield 22, 3) := by decide +kernel
theorem dJ5_newCapacity_0f7a4_27 : decode cJ5_newCapacity_0f7a4 27 = .ok (.ishl, 1) := by decide +kernel
theorem dJ5_newCapacity_0f7a4_28 : decode cJ5_newCapacity_0f7a4 28 = .ok (.iadd, 1) := by decide +kernel
theorem dJ5_newCapacity_0f7a4_29 : decode cJ5_newCapacity_0f7a4 29 = .ok (.invokestatic 114, 3) := by decide +kernel
theorem dJ5_newCapacity_0f7a4_32 : decode cJ5_newCapacity_0f7a4 32 = .ok (.istore 5, 2) := by decide +kernel
theorem dJ5_newCapacity_0f7a4_34 : decode cJ5_newCapacity_0f7a4 34 = .ok (.iload 5, 2) := by decide +kernel
theorem dJ5_newCapacity_0f7a4_36 : decode cJ5_newCapacity_0f7a4 36 = .ok (.ldc 39, 2) := by decide +kernel
theorem dJ5_newCapacity_0f7a4_38 : decode cJ5_newCapacity_0f7a4 38 = .ok (.if_icmp .ne 13, 3) := by decide +kernel
theorem dJ5_newCapacity_0f7a4_41 : decode cJ5_newCapacity_0f7a4 41 = .ok (.new 120, 3) := by decide +kernel
theorem dJ5_newCapacity_0f7a4_44 : decode cJ5_newCapacity_0f7a4 44 = .ok (.dup, 1) := by decide +kernel
theorem dJ5_newCapacity_0f7a4_45 : decode cJ5_newCapacity_0f7a4 45 = .ok (.ldc 122, 2) := by decide +kernel
theorem dJ5_newCapacity_0f7a4_47 : decode cJ5_newCapacity_0f7a4 47 = .ok (.invokespecial 124, 3) := by decide +kernel
theorem dJ5_newCapacity_0f7a4_50 : decode cJ5_newCapacity_0f7a4 50 = .ok (.athrow, 1) := by decide +kernel
theorem dJ5_newCapacity_0f7a4_51 : decode cJ5_newCapacity_0f7a4 51 = .ok (.iload 5, 2) := by decide +kernel
theorem dJ5_newCapacity_0f7a4_53 : decode cJ5_newCapacity_0f7a4 53 = .ok (.aload_n 0, 1) := by decide +kernel
theorem dJ5_newCapacity_0f7a4_54 : decode cJ5_newCapacity_0f7a4 54 = .ok (.getfield 22, 3) := by decide +kernel
theorem dJ5_newCapacity_0f7a4_57 : decode cJ5_newCapacity_0f7a4 57 = .ok (.ishr, 1) := by decide +kernel
theorem dJ5_newCapacity_0f7a4_58 : decode cJ5_newCapacity_0f7a4 58 = .ok (.ireturn, 1) := by decide +kernel
theorem dJ5_inflate_da8c8_0 : decode cJ5_inflate_da8c8 0 = .ok (.aload_n 0, 1) := by decide +kernel
theorem dJ5_inflate_da8c8_1 : decode cJ5_inflate_da8c8 1 = .ok (.invokevirtual 83, 3) := by decide +kernel
theorem dJ5_inflate_da8c8_4 : decode cJ5_inflate_da8c8 4 = .ok (.ifCond .ne 4, 3) := by decide +kernel
theorem dJ5_inflate_da8c8_7 : decode cJ5_inflate_da8c8 7 = .ok (.return_, 1) := by decide +kernel
theorem dJ5_inflate_da8c8_8 : decode cJ5_inflate_da8c8 8 = .ok (.aload_n 0, 1) := by decide +kernel
theorem dJ5_inflate_da8c8_9 : decode cJ5_inflate_da8c8 9 = .ok (.getfield 15, 3) := by decide +kernel
theorem dJ5_inflate_da8c8_12 : decode cJ5_inflate_da8c8 12 = .ok (.arraylength, 1) := by decide +kernel
theorem dJ5_inflate_da8c8_13 : decode cJ5_inflate_da8c8 13 = .ok (.invokestatic 26, 3) := by decide +kernel
theorem dJ5_inflate_da8c8_16 : decode cJ5_inflate_da8c8 16 = .ok (.astore_n 1, 1) := by decide +kernel
theorem dJ5_inflate_da8c8_17 : decode cJ5_inflate_da8c8 17 = .ok (.aload_n 0, 1) := by decide +kernel
theorem dJ5_inflate_da8c8_18 : decode cJ5_inflate_da8c8 18 = .ok (.getfield 15, 3) := by decide +kernel
theorem dJ5_inflate_da8c8_21 : decode cJ5_inflate_da8c8 21 = .ok (.iconst 0, 1) := by decide +kernel
theorem dJ5_inflate_da8c8_22 : decode cJ5_inflate_da8c8 22 = .ok (.aload_n 1, 1) := by decide +kernel
theorem dJ5_inflate_da8c8_23 : decode cJ5_inflate_da8c8 23 = .ok (.iconst 0, 1) := by decide +kernel
theorem dJ5_inflate_da8c8_24 : decode cJ5_inflate_da8c8 24 = .ok (.aload_n 0, 1) := by decide +kernel
theorem dJ5_inflate_da8c8_25 : decode cJ5_inflate_da8c8 25 = .ok (.getfield 79, 3) := by decide +kernel
theorem dJ5_inflate_da8c8_28 : decode cJ5_inflate_da8c8 28 = .ok (.invokestatic 125, 3) := by decide +kernel
theorem dJ5_inflate_da8c8_31 : decode cJ5_inflate_da8c8 31 = .ok (.aload_n 0, 1) := by decide +kernel
theorem dJ5_inflate_da8c8_32 : decode cJ5_inflate_da8c8 32 = .ok (.aload_n 1, 1) := by decide +kernel
theorem dJ5_inflate_da8c8_33 : decode cJ5_inflate_da8c8 33 = .ok (.putfield 15, 3) := by decide +kernel
theorem dJ5_inflate_da8c8_36 : decode cJ5_inflate_da8c8 36 = .ok (.aload_n 0, 1) := by decide +kernel
theorem dJ5_inflate_da8c8_37 : decode cJ5_inflate_da8c8 37 = .ok (.iconst 1, 1) := by decide +kernel
theorem dJ5_inflate_da8c8_38 : decode cJ5_inflate_da8c8 38 = .ok (.putfield 22, 3) := by decide +kernel
theorem dJ5_inflate_da8c8_41 : decode cJ5_inflate_da8c8 41 = .ok (.return_, 1) := by decide +kernel
theorem dJ5_append_cf1ce_0 : decode cJ5_append_cf1ce 0 = .ok (.aload_n 1, 1) := by decide +kernel
theorem dJ5_append_cf1ce_1 : decode cJ5_append_cf1ce 1 = .ok (.ifnonnull 8, 3) := by decide +kernel
theorem dJ5_append_cf1ce_4 : decode cJ5_append_cf1ce 4 = .ok (.aload_n 0, 1) := by decide +kernel
theorem dJ5_append_cf1ce_5 : decode cJ5_append_cf1ce 5 = .ok (.invokevirtual 204, 3) := by decide +kernel
theorem dJ5_append_cf1ce_8 : decode cJ5_append_cf1ce 8 = .ok (.areturn, 1) := by decide +kernel
theorem dJ5_append_cf1ce_9 : decode cJ5_append_cf1ce 9 = .ok (.aload_n 1, 1) := by decide +kernel
theorem dJ5_append_cf1ce_10 : decode cJ5_append_cf1ce 10 = .ok (.invokevirtual 32, 3) := by decide +kernel
theorem dJ5_append_cf1ce_13 : decode cJ5_append_cf1ce 13 = .ok (.istore_n 2, 1) := by decide +kernel
theorem dJ5_append_cf1ce_14 : decode cJ5_append_cf1ce 14 = .ok (.aload_n 0, 1) := by decide +kernel
theorem dJ5_append_cf1ce_15 : decode cJ5_append_cf1ce 15 = .ok (.aload_n 0, 1) := by decide +kernel
theorem dJ5_append_cf1ce_16 : decode cJ5_append_cf1ce 16 = .ok (.getfield 79, 3) := by decide +kernel
theorem dJ5_append_cf1ce_19 : decode cJ5_append_cf1ce 19 = .ok (.iload_n 2, 1) := by decide +kernel
theorem dJ5_append_cf1ce_20 : decode cJ5_append_cf1ce 20 = .ok (.iadd, 1) := by decide +kernel
theorem dJ5_append_cf1ce_21 : decode cJ5_append_cf1ce 21 = .ok (.invokevirtual 100, 3) := by decide +kernel
theorem dJ5_append_cf1ce_24 : decode cJ5_append_cf1ce 24 = .ok (.aload_n 0, 1) := by decide +kernel
theorem dJ5_append_cf1ce_25 : decode cJ5_append_cf1ce 25 = .ok (.aload_n 0, 1) := by decide +kernel
theorem dJ5_append_cf1ce_26 : decode cJ5_append_cf1ce 26 = .ok (.getfield 79, 3) := by decide +kernel
theorem dJ5_append_cf1ce_29 : decode cJ5_append_cf1ce 29 = .ok (.aload_n 1, 1) := by decide +kernel
theorem dJ5_append_cf1ce_30 : decode cJ5_append_cf1ce 30 = .ok (.invokevirtual 208, 3) := by decide +kernel
theorem dJ5_append_cf1ce_33 : decode cJ5_append_cf1ce 33 = .ok (.aload_n 0, 1) := by decide +kernel
theorem dJ5_append_cf1ce_34 : decode cJ5_append_cf1ce 34 = .ok (.dup, 1) := by decide +kernel
theorem dJ5_append_cf1ce_35 : decode cJ5_append_cf1ce 35 = .ok (.getfield 79, 3) := by decide +kernel
theorem dJ5_append_cf1ce_38 : decode cJ5_append_cf1ce 38 = .ok (.iload_n 2, 1) := by decide +kernel
theorem dJ5_append_cf1ce_39 : decode cJ5_append_cf1ce 39 = .ok (.iadd, 1) := by decide +kernel
theorem dJ5_append_cf1ce_40 : decode cJ5_append_cf1ce 40 = .ok (.putfield 79, 3) := by decide +kernel
theorem dJ5_append_cf1ce_43 : decode cJ5_append_cf1ce 43 = .ok (.aload_n 0, 1) := by decide +kernel
theorem dJ5_append_cf1ce_44 : decode cJ5_append_cf1ce 44 = .ok (.areturn, 1) := by decide +kernel
theorem dJ5_appendNull_278bc_0 : decode cJ5_appendNull_278bc 0 = .ok (.aload_n 0, 1) := by decide +kernel
theorem dJ5_appendNull_278bc_1 : decode cJ5_appendNull_278bc 1 = .ok (.aload_n 0, 1) := by decide +kernel
theorem dJ5_appendNull_278bc_2 : decode cJ5_appendNull_278bc 2 = .ok (.getfield 79, 3) := by decide +kernel
theorem dJ5_appendNull_278bc_5 : decode cJ5_appendNull_278bc 5 = .ok (.iconst 4, 1) := by decide +kernel
theorem dJ5_appendNull_278bc_6 : decode cJ5_appendNull_278bc 6 = .ok (.iadd, 1) := by decide +kernel
theorem dJ5_appendNull_278bc_7 : decode cJ5_appendNull_278bc 7 = .ok (.invokevirtual 100, 3) := by decide +kernel
theorem dJ5_appendNull_278bc_10 : decode cJ5_appendNull_278bc 10 = .ok (.aload_n 0, 1) := by decide +kernel
theorem dJ5_appendNull_278bc_11 : decode cJ5_appendNull_278bc 11 = .ok (.getfield 79, 3) := by decide +kernel
theorem dJ5_appendNull_278bc_14 : decode cJ5_appendNull_278bc 14 = .ok (.istore_n 1, 1) := by decide +kernel
theorem dJ5_appendNull_278bc_15 : decode cJ5_appendNull_278bc 15 = .ok (.aload_n 0, 1) := by decide +kernel
theorem dJ5_appendNull_278bc_16 : decode cJ5_appendNull_278bc 16 = .ok (.getfield 15, 3) := by decide +kernel
theorem dJ5_appendNull_278bc_19 : decode cJ5_appendNull_278bc 19 = .ok (.astore_n 2, 1) := by decide +kernel
theorem dJ5_appendNull_278bc_20 : decode cJ5_appendNull_278bc 20 = .ok (.aload_n 0, 1) := by decide +kernel
theorem dJ5_appendNull_278bc_21 : decode cJ5_appendNull_278bc 21 = .ok (.invokevirtual 83, 3) := by decide +kernel
theorem dJ5_appendNull_278bc_24 : decode cJ5_appendNull_278bc 24 = .ok (.ifCond .eq 38, 3) := by decide +kernel
theorem dJ5_appendNull_278bc_27 : decode cJ5_appendNull_278bc 27 = .ok (.aload_n 2, 1) := by decide +kernel
theorem dJ5_appendNull_278bc_28 : decode cJ5_appendNull_278bc 28 = .ok (.iload_n 1, 1) := by decide +kernel
theorem dJ5_appendNull_278bc_29 : decode cJ5_appendNull_278bc 29 = .ok (.iinc 1 1, 3) := by decide +kernel
theorem dJ5_appendNull_278bc_32 : decode cJ5_appendNull_278bc 32 = .ok (.bipush 110, 2) := by decide +kernel
theorem dJ5_appendNull_278bc_34 : decode cJ5_appendNull_278bc 34 = .ok (.bastore, 1) := by decide +kernel
theorem dJ5_appendNull_278bc_35 : decode cJ5_appendNull_278bc 35 = .ok (.aload_n 2, 1) := by decide +kernel
theorem dJ5_appendNull_278bc_36 : decode cJ5_appendNull_278bc 36 = .ok (.iload_n 1, 1) := by decide +kernel
theorem dJ5_appendNull_278bc_37 : decode cJ5_appendNull_278bc 37 = .ok (.iinc 1 1, 3) := by decide +kernel
theorem dJ5_appendNull_278bc_40 : decode cJ5_appendNull_278bc 40 = .ok (.bipush 117, 2) := by decide +kernel
theorem dJ5_appendNull_278bc_42 : decode cJ5_appendNull_278bc 42 = .ok (.bastore, 1) := by decide +kernel
theorem dJ5_appendNull_278bc_43 : decode cJ5_appendNull_278bc 43 = .ok (.aload_n 2, 1) := by decide +kernel
theorem dJ5_appendNull_278bc_44 : decode cJ5_appendNull_278bc 44 = .ok (.iload_n 1, 1) := by decide +kernel
theorem dJ5_appendNull_278bc_45 : decode cJ5_appendNull_278bc 45 = .ok (.iinc 1 1, 3) := by decide +kernel
theorem dJ5_appendNull_278bc_48 : decode cJ5_appendNull_278bc 48 = .ok (.bipush 108, 2) := by decide +kernel
theorem dJ5_appendNull_278bc_50 : decode cJ5_appendNull_278bc 50 = .ok (.bastore, 1) := by decide +kernel
theorem dJ5_appendNull_278bc_51 : decode cJ5_appendNull_278bc 51 = .ok (.aload_n 2, 1) := by decide +kernel
theorem dJ5_appendNull_278bc_52 : decode cJ5_appendNull_278bc 52 = .ok (.iload_n 1, 1) := by decide +kernel
theorem dJ5_appendNull_278bc_53 : decode cJ5_appendNull_278bc 53 = .ok (.iinc 1 1, 3) := by decide +kernel
theorem dJ5_appendNull_278bc_56 : decode cJ5_appendNull_278bc 56 = .ok (.bipush 108, 2) := by decide +kernel
theorem dJ5_appendNull_278bc_58 : decode cJ5_appendNull_278bc 58 = .ok (.bastore, 1) := by decide +kernel
theorem dJ5_appendNull_278bc_59 : decode cJ5_appendNull_278bc 59 = .ok (.goto 17, 3) := by decide +kernel
theorem dJ5_appendNull_278bc_62 : decode cJ5_appendNull_278bc 62 = .ok (.aload_n 2, 1) := by decide +kernel
theorem dJ5_appendNull_278bc_63 : decode cJ5_appendNull_278bc 63 = .ok (.iload_n 1, 1) := by decide +kernel
theorem dJ5_appendNull_278bc_64 : decode cJ5_appendNull_278bc 64 = .ok (.bipush 110, 2) := by decide +kernel
theorem dJ5_appendNull_278bc_66 : decode cJ5_appendNull_278bc 66 = .ok (.bipush 117, 2) := by decide +kernel
theorem dJ5_appendNull_278bc_68 : decode cJ5_appendNull_278bc 68 = .ok (.bipush 108, 2) := by decide +kernel
theorem dJ5_appendNull_278bc_70 : decode cJ5_appendNull_278bc 70 = .ok (.bipush 108, 2) := by decide +kernel
theorem dJ5_appendNull_278bc_72 : decode cJ5_appendNull_278bc 72 = .ok (.invokestatic 226, 3) := by decide +kernel
theorem dJ5_appendNull_278bc_75 : decode cJ5_appendNull_278bc 75 = .ok (.istore_n 1, 1) := by decide +kernel
theorem dJ5_appendNull_278bc_76 : decode cJ5_appendNull_278bc 76 = .ok (.aload_n 0, 1) := by decide +kernel
theorem dJ5_appendNull_278bc_77 : decode cJ5_appendNull_278bc 77 = .ok (.iload_n 1, 1) := by decide +kernel
theorem dJ5_appendNull_278bc_78 : decode cJ5_appendNull_278bc 78 = .ok (.putfield 79, 3) := by decide +kernel
theorem dJ5_appendNull_278bc_81 : decode cJ5_appendNull_278bc 81 = .ok (.aload_n 0, 1) := by decide +kernel
theorem dJ5_appendNull_278bc_82 : decode cJ5_appendNull_278bc 82 = .ok (.areturn, 1) := by decide +kernel
theorem dJ5_append_c97b9_0 : decode cJ5_append_c97b9 0 = .ok (.aload_n 0, 1) := by decide +kernel
theorem dJ5_append_c97b9_1 : decode cJ5_append_c97b9 1 = .ok (.getfield 79, 3) := by decide +kernel
theorem dJ5_append_c97b9_4 : decode cJ5_append_c97b9 4 = .ok (.istore_n 2, 1) := by decide +kernel
theorem dJ5_append_c97b9_5 : decode cJ5_append_c97b9 5 = .ok (.iload_n 2, 1) := by decide +kernel
theorem dJ5_append_c97b9_6 : decode cJ5_append_c97b9 6 = .ok (.iload_n 1, 1) := by decide +kernel
theorem dJ5_append_c97b9_7 : decode cJ5_append_c97b9 7 = .ok (.invokestatic 245, 3) := by decide +kernel
theorem dJ5_append_c97b9_10 : decode cJ5_append_c97b9 10 = .ok (.iadd, 1) := by decide +kernel
theorem dJ5_append_c97b9_11 : decode cJ5_append_c97b9 11 = .ok (.istore_n 3, 1) := by decide +kernel
theorem dJ5_append_c97b9_12 : decode cJ5_append_c97b9 12 = .ok (.aload_n 0, 1) := by decide +kernel
theorem dJ5_append_c97b9_13 : decode cJ5_append_c97b9 13 = .ok (.iload_n 3, 1) := by decide +kernel
theorem dJ5_append_c97b9_14 : decode cJ5_append_c97b9 14 = .ok (.invokevirtual 100, 3) := by decide +kernel
theorem dJ5_append_c97b9_17 : decode cJ5_append_c97b9 17 = .ok (.aload_n 0, 1) := by decide +kernel
theorem dJ5_append_c97b9_18 : decode cJ5_append_c97b9 18 = .ok (.invokevirtual 83, 3) := by decide +kernel
theorem dJ5_append_c97b9_21 : decode cJ5_append_c97b9 21 = .ok (.ifCond .eq 16, 3) := by decide +kernel
theorem dJ5_append_c97b9_24 : decode cJ5_append_c97b9 24 = .ok (.iload_n 1, 1) := by decide +kernel
theorem dJ5_append_c97b9_25 : decode cJ5_append_c97b9 25 = .ok (.iload_n 3, 1) := by decide +kernel
theorem dJ5_append_c97b9_26 : decode cJ5_append_c97b9 26 = .ok (.aload_n 0, 1) := by decide +kernel
theorem dJ5_append_c97b9_27 : decode cJ5_append_c97b9 27 = .ok (.getfield 15, 3) := by decide +kernel
theorem dJ5_append_c97b9_30 : decode cJ5_append_c97b9 30 = .ok (.invokestatic 248, 3) := by decide +kernel
theorem dJ5_append_c97b9_33 : decode cJ5_append_c97b9 33 = .ok (.pop, 1) := by decide +kernel
theorem dJ5_append_c97b9_34 : decode cJ5_append_c97b9 34 = .ok (.goto 14, 3) := by decide +kernel
theorem dJ5_append_c97b9_37 : decode cJ5_append_c97b9 37 = .ok (.iload_n 1, 1) := by decide +kernel
theorem dJ5_append_c97b9_38 : decode cJ5_append_c97b9 38 = .ok (.iload_n 2, 1) := by decide +kernel
theorem dJ5_append_c97b9_39 : decode cJ5_append_c97b9 39 = .ok (.iload_n 3, 1) := by decide +kernel
theorem dJ5_append_c97b9_40 : decode cJ5_append_c97b9 40 = .ok (.aload_n 0, 1) := by decide +kernel
theorem dJ5_append_c97b9_41 : decode cJ5_append_c97b9 41 = .ok (.getfield 15, 3) := by decide +kernel
theorem dJ5_append_c97b9_44 : decode cJ5_append_c97b9 44 = .ok (.invokestatic 251, 3) := by decide +kernel
theorem dJ5_append_c97b9_47 : decode cJ5_append_c97b9 47 = .ok (.pop, 1) := by decide +kernel
theorem dJ5_append_c97b9_48 : decode cJ5_append_c97b9 48 = .ok (.aload_n 0, 1) := by decide +kernel
theorem dJ5_append_c97b9_49 : decode cJ5_append_c97b9 49 = .ok (.iload_n 3, 1) := by decide +kernel
theorem dJ5_append_c97b9_50 : decode cJ5_append_c97b9 50 = .ok (.putfield 79, 3) := by decide +kernel
theorem dJ5_append_c97b9_53 : decode cJ5_append_c97b9 53 = .ok (.aload_n 0, 1) := by decide +kernel
theorem dJ5_append_c97b9_54 : decode cJ5_append_c97b9 54 = .ok (.areturn, 1) := by decide +kernel
theorem dJ5_getValue_6d5f1_0 : decode cJ5_getValue_6d5f1 0 = .ok (.aload_n 0, 1) := by decide +kernel
theorem dJ5_getValue_6d5f1_1 : decode cJ5_getValue_6d5f1 1 = .ok (.getfield 15, 3) := by decide +kernel
theorem dJ5_getValue_6d5f1_4 : decode cJ5_getValue_6d5f1 4 = .ok (.areturn, 1) := by decide +kernel
theorem dJ5_isLatin1_aae02_0 : decode cJ5_isLatin1_aae02 0 = .ok (.getstatic 18, 3) := by decide +kernel
theorem dJ5_isLatin1_aae02_3 : decode cJ5_isLatin1_aae02 3 = .ok (.ifCond .eq 14, 3) := by decide +kernel
theorem dJ5_isLatin1_aae02_6 : decode cJ5_isLatin1_aae02 6 = .ok (.aload_n 0, 1) := by decide +kernel
theorem dJ5_isLatin1_aae02_7 : decode cJ5_isLatin1_aae02 7 = .ok (.getfield 22, 3) := by decide +kernel
theorem dJ5_isLatin1_aae02_10 : decode cJ5_isLatin1_aae02 10 = .ok (.ifCond .ne 7, 3) := by decide +kernel
theorem dJ5_isLatin1_aae02_13 : decode cJ5_isLatin1_aae02 13 = .ok (.iconst 1, 1) := by decide +kernel
theorem dJ5_isLatin1_aae02_14 : decode cJ5_isLatin1_aae02 14 = .ok (.goto 4, 3) := by decide +kernel
theorem dJ5_isLatin1_aae02_17 : decode cJ5_isLatin1_aae02 17 = .ok (.iconst 0, 1) := by decide +kernel
theorem dJ5_isLatin1_aae02_18 : decode cJ5_isLatin1_aae02 18 = .ok (.ireturn, 1) := by decide +kernel
theorem dJ5_inflateIfNeededFor_a7421_0 : decode cJ5_inflateIfNeededFor_a7421 0 = .ok (.getstatic 18, 3) := by decide +kernel
theorem dJ5_inflateIfNeededFor_a7421_3 : decode cJ5_inflateIfNeededFor_a7421 3 = .ok (.ifCond .eq 18, 3) := by decide +kernel
theorem dJ5_inflateIfNeededFor_a7421_6 : decode cJ5_inflateIfNeededFor_a7421 6 = .ok (.aload_n 0, 1) := by decide +kernel
theorem dJ5_inflateIfNeededFor_a7421_7 : decode cJ5_inflateIfNeededFor_a7421 7 = .ok (.getfield 22, 3) := by decide +kernel
theorem dJ5_inflateIfNeededFor_a7421_10 : decode cJ5_inflateIfNeededFor_a7421 10 = .ok (.aload_n 1, 1) := by decide +kernel
theorem dJ5_inflateIfNeededFor_a7421_11 : decode cJ5_inflateIfNeededFor_a7421 11 = .ok (.invokevirtual 40, 3) := by decide +kernel
theorem dJ5_inflateIfNeededFor_a7421_14 : decode cJ5_inflateIfNeededFor_a7421 14 = .ok (.if_icmp .eq 7, 3) := by decide +kernel
theorem dJ5_inflateIfNeededFor_a7421_17 : decode cJ5_inflateIfNeededFor_a7421 17 = .ok (.aload_n 0, 1) := by decide +kernel
theorem dJ5_inflateIfNeededFor_a7421_18 : decode cJ5_inflateIfNeededFor_a7421 18 = .ok (.invokevirtual 195, 3) := by decide +kernel
theorem dJ5_inflateIfNeededFor_a7421_21 : decode cJ5_inflateIfNeededFor_a7421 21 = .ok (.return_, 1) := by decide +kernel
theorem dJ5_putStringAt_47b60_0 : decode cJ5_putStringAt_47b60 0 = .ok (.aload_n 0, 1) := by decide +kernel
theorem dJ5_putStringAt_47b60_1 : decode cJ5_putStringAt_47b60 1 = .ok (.aload_n 2, 1) := by decide +kernel
theorem dJ5_putStringAt_47b60_2 : decode cJ5_putStringAt_47b60 2 = .ok (.invokevirtual 397, 3) := by decide +kernel
theorem dJ5_putStringAt_47b60_5 : decode cJ5_putStringAt_47b60 5 = .ok (.aload_n 2, 1) := by decide +kernel
theorem dJ5_putStringAt_47b60_6 : decode cJ5_putStringAt_47b60 6 = .ok (.aload_n 0, 1) := by decide +kernel
theorem dJ5_putStringAt_47b60_7 : decode cJ5_putStringAt_47b60 7 = .ok (.getfield 15, 3) := by decide +kernel
theorem dJ5_putStringAt_47b60_10 : decode cJ5_putStringAt_47b60 10 = .ok (.iload_n 1, 1) := by decide +kernel
theorem dJ5_putStringAt_47b60_11 : decode cJ5_putStringAt_47b60 11 = .ok (.aload_n 0, 1) := by decide +kernel
theorem dJ5_putStringAt_47b60_12 : decode cJ5_putStringAt_47b60 12 = .ok (.getfield 22, 3) := by decide +kernel
theorem dJ5_putStringAt_47b60_15 : decode cJ5_putStringAt_47b60 15 = .ok (.invokevirtual 399, 3) := by decide +kernel
theorem dJ5_putStringAt_47b60_18 : decode cJ5_putStringAt_47b60 18 = .ok (.return_, 1) := by decide +kernel
theorem dJ6_getChars_ba4f3_0 : decode cJ6_getChars_ba4f3 0 = .ok (.iload_n 1, 1) := by decide +kernel
theorem dJ6_getChars_ba4f3_1 : decode cJ6_getChars_ba4f3 1 = .ok (.istore 5, 2) := by decide +kernel
theorem dJ6_getChars_ba4f3_3 : decode cJ6_getChars_ba4f3 3 = .ok (.iload_n 0, 1) := by decide +kernel
theorem dJ6_getChars_ba4f3_4 : decode cJ6_getChars_ba4f3 4 = .ok (.ifCond .ge 7, 3) := by decide +kernel
theorem dJ6_getChars_ba4f3_7 : decode cJ6_getChars_ba4f3 7 = .ok (.iconst 1, 1) := by decide +kernel
theorem dJ6_getChars_ba4f3_8 : decode cJ6_getChars_ba4f3 8 = .ok (.goto 4, 3) := by decide +kernel
theorem dJ6_getChars_ba4f3_11 : decode cJ6_getChars_ba4f3 11 = .ok (.iconst 0, 1) := by decide +kernel
theorem dJ6_getChars_ba4f3_12 : decode cJ6_getChars_ba4f3 12 = .ok (.istore 6, 2) := by decide +kernel
theorem dJ6_getChars_ba4f3_14 : decode cJ6_getChars_ba4f3 14 = .ok (.iload 6, 2) := by decide +kernel
theorem dJ6_getChars_ba4f3_16 : decode cJ6_getChars_ba4f3 16 = .ok (.ifCond .ne 6, 3) := by decide +kernel
theorem dJ6_getChars_ba4f3_19 : decode cJ6_getChars_ba4f3 19 = .ok (.iload_n 0, 1) := by decide +kernel
theorem dJ6_getChars_ba4f3_20 : decode cJ6_getChars_ba4f3 20 = .ok (.ineg, 1) := by decide +kernel
theorem dJ6_getChars_ba4f3_21 : decode cJ6_getChars_ba4f3 21 = .ok (.istore_n 0, 1) := by decide +kernel
theorem dJ6_getChars_ba4f3_22 : decode cJ6_getChars_ba4f3 22 = .ok (.iload_n 0, 1) := by decide +kernel
theorem dJ6_getChars_ba4f3_23 : decode cJ6_getChars_ba4f3 23 = .ok (.bipush (-100), 2) := by decide +kernel
theorem dJ6_getChars_ba4f3_25 : decode cJ6_getChars_ba4f3 25 = .ok (.if_icmp .gt 47, 3) := by decide +kernel
theorem dJ6_getChars_ba4f3_28 : decode cJ6_getChars_ba4f3 28 = .ok (.iload_n 0, 1) := by decide +kernel
theorem dJ6_getChars_ba4f3_29 : decode cJ6_getChars_ba4f3 29 = .ok (.bipush 100, 2) := by decide +kernel
theorem dJ6_getChars_ba4f3_31 : decode cJ6_getChars_ba4f3 31 = .ok (.idiv, 1) := by decide +kernel
theorem dJ6_getChars_ba4f3_32 : decode cJ6_getChars_ba4f3 32 = .ok (.istore_n 3, 1) := by decide +kernel
theorem dJ6_getChars_ba4f3_33 : decode cJ6_getChars_ba4f3 33 = .ok (.iload_n 3, 1) := by decide +kernel
theorem dJ6_getChars_ba4f3_34 : decode cJ6_getChars_ba4f3 34 = .ok (.bipush 100, 2) := by decide +kernel
theorem dJ6_getChars_ba4f3_36 : decode cJ6_getChars_ba4f3 36 = .ok (.imul, 1) := by decide +kernel
theorem dJ6_getChars_ba4f3_37 : decode cJ6_getChars_ba4f3 37 = .ok (.iload_n 0, 1) := by decide +kernel
theorem dJ6_getChars_ba4f3_38 : decode cJ6_getChars_ba4f3 38 = .ok (.isub, 1) := by decide +kernel
theorem dJ6_getChars_ba4f3_39 : decode cJ6_getChars_ba4f3 39 = .ok (.istore 4, 2) := by decide +kernel
theorem dJ6_getChars_ba4f3_41 : decode cJ6_getChars_ba4f3 41 = .ok (.iload_n 3, 1) := by decide +kernel
theorem dJ6_getChars_ba4f3_42 : decode cJ6_getChars_ba4f3 42 = .ok (.istore_n 0, 1) := by decide +kernel
theorem dJ6_getChars_ba4f3_43 : decode cJ6_getChars_ba4f3 43 = .ok (.aload_n 2, 1) := by decide +kernel
theorem dJ6_getChars_ba4f3_44 : decode cJ6_getChars_ba4f3 44 = .ok (.iinc 5 (-1), 3) := by decide +kernel
theorem dJ6_getChars_ba4f3_47 : decode cJ6_getChars_ba4f3 47 = .ok (.iload 5, 2) := by decide +kernel
theorem dJ6_getChars_ba4f3_49 : decode cJ6_getChars_ba4f3 49 = .ok (.getstatic 83, 3) := by decide +kernel
theorem dJ6_getChars_ba4f3_52 : decode cJ6_getChars_ba4f3 52 = .ok (.iload 4, 2) := by decide +kernel
theorem dJ6_getChars_ba4f3_54 : decode cJ6_getChars_ba4f3 54 = .ok (.baload, 1) := by decide +kernel
theorem dJ6_getChars_ba4f3_55 : decode cJ6_getChars_ba4f3 55 = .ok (.bastore, 1) := by decide +kernel
theorem dJ6_getChars_ba4f3_56 : decode cJ6_getChars_ba4f3 56 = .ok (.aload_n 2, 1) := by decide +kernel
theorem dJ6_getChars_ba4f3_57 : decode cJ6_getChars_ba4f3 57 = .ok (.iinc 5 (-1), 3) := by decide +kernel
theorem dJ6_getChars_ba4f3_60 : decode cJ6_getChars_ba4f3 60 = .ok (.iload 5, 2) := by decide +kernel
theorem dJ6_getChars_ba4f3_62 : decode cJ6_getChars_ba4f3 62 = .ok (.getstatic 87, 3) := by decide +kernel
theorem dJ6_getChars_ba4f3_65 : decode cJ6_getChars_ba4f3 65 = .ok (.iload 4, 2) := by decide +kernel
theorem dJ6_getChars_ba4f3_67 : decode cJ6_getChars_ba4f3 67 = .ok (.baload, 1) := by decide +kernel
theorem dJ6_getChars_ba4f3_68 : decode cJ6_getChars_ba4f3 68 = .ok (.bastore, 1) := by decide +kernel
theorem dJ6_getChars_ba4f3_69 : decode cJ6_getChars_ba4f3 69 = .ok (.goto (-47), 3) := by decide +kernel
theorem dJ6_getChars_ba4f3_72 : decode cJ6_getChars_ba4f3 72 = .ok (.aload_n 2, 1) := by decide +kernel
theorem dJ6_getChars_ba4f3_73 : decode cJ6_getChars_ba4f3 73 = .ok (.iinc 5 (-1), 3) := by decide +kernel
theorem dJ6_getChars_ba4f3_76 : decode cJ6_getChars_ba4f3 76 = .ok (.iload 5, 2) := by decide +kernel
theorem dJ6_getChars_ba4f3_78 : decode cJ6_getChars_ba4f3 78 = .ok (.getstatic 83, 3) := by decide +kernel
theorem dJ6_getChars_ba4f3_81 : decode cJ6_getChars_ba4f3 81 = .ok (.iload_n 0, 1) := by decide +kernel
theorem dJ6_getChars_ba4f3_82 : decode cJ6_getChars_ba4f3 82 = .ok (.ineg, 1) := by decide +kernel
theorem dJ6_getChars_ba4f3_83 : decode cJ6_getChars_ba4f3 83 = .ok (.baload, 1) := by decide +kernel
theorem dJ6_getChars_ba4f3_84 : decode cJ6_getChars_ba4f3 84 = .ok (.bastore, 1) := by decide +kernel
theorem dJ6_getChars_ba4f3_85 : decode cJ6_getChars_ba4f3 85 = .ok (.iload_n 0, 1) := by decide +kernel
theorem dJ6_getChars_ba4f3_86 : decode cJ6_getChars_ba4f3 86 = .ok (.bipush (-9), 2) := by decide +kernel
theorem dJ6_getChars_ba4f3_88 : decode cJ6_getChars_ba4f3 88 = .ok (.if_icmp .ge 16, 3) := by decide +kernel
theorem dJ6_getChars_ba4f3_91 : decode cJ6_getChars_ba4f3 91 = .ok (.aload_n 2, 1) := by decide +kernel
theorem dJ6_getChars_ba4f3_92 : decode cJ6_getChars_ba4f3 92 = .ok (.iinc 5 (-1), 3) := by decide +kernel
theorem dJ6_getChars_ba4f3_95 : decode cJ6_getChars_ba4f3 95 = .ok (.iload 5, 2) := by decide +kernel
theorem dJ6_getChars_ba4f3_97 : decode cJ6_getChars_ba4f3 97 = .ok (.getstatic 87, 3) := by decide +kernel
theorem dJ6_getChars_ba4f3_100 : decode cJ6_getChars_ba4f3 100 = .ok (.iload_n 0, 1) := by decide +kernel
theorem dJ6_getChars_ba4f3_101 : decode cJ6_getChars_ba4f3 101 = .ok (.ineg, 1) := by decide +kernel
theorem dJ6_getChars_ba4f3_102 : decode cJ6_getChars_ba4f3 102 = .ok (.baload, 1) := by decide +kernel
theorem dJ6_getChars_ba4f3_103 : decode cJ6_getChars_ba4f3 103 = .ok (.bastore, 1) := by decide +kernel
theorem dJ6_getChars_ba4f3_104 : decode cJ6_getChars_ba4f3 104 = .ok (.iload 6, 2) := by decide +kernel
theorem dJ6_getChars_ba4f3_106 : decode cJ6_getChars_ba4f3 106 = .ok (.ifCond .eq 12, 3) := by decide +kernel
theorem dJ6_getChars_ba4f3_109 : decode cJ6_getChars_ba4f3 109 = .ok (.aload_n 2, 1) := by decide +kernel
theorem dJ6_getChars_ba4f3_110 : decode cJ6_getChars_ba4f3 110 = .ok (.iinc 5 (-1), 3) := by decide +kernel
theorem dJ6_getChars_ba4f3_113 : decode cJ6_getChars_ba4f3 113 = .ok (.iload 5, 2) := by decide +kernel
theorem dJ6_getChars_ba4f3_115 : decode cJ6_getChars_ba4f3 115 = .ok (.bipush 45, 2) := by decide +kernel
theorem dJ6_getChars_ba4f3_117 : decode cJ6_getChars_ba4f3 117 = .ok (.bastore, 1) := by decide +kernel
theorem dJ6_getChars_ba4f3_118 : decode cJ6_getChars_ba4f3 118 = .ok (.iload 5, 2) := by decide +kernel
theorem dJ6_getChars_ba4f3_120 : decode cJ6_getChars_ba4f3 120 = .ok (.ireturn, 1) := by decide +kernel
theorem dJ6_stringSize_0f7a4_0 : decode cJ6_stringSize_0f7a4 0 = .ok (.iconst 1, 1) := by decide +kernel
theorem dJ6_stringSize_0f7a4_1 : decode cJ6_stringSize_0f7a4 1 = .ok (.istore_n 1, 1) := by decide +kernel
theorem dJ6_stringSize_0f7a4_2 : decode cJ6_stringSize_0f7a4 2 = .ok (.iload_n 0, 1) := by decide +kernel
theorem dJ6_stringSize_0f7a4_3 : decode cJ6_stringSize_0f7a4 3 = .ok (.ifCond .lt 8, 3) := by decide +kernel
theorem dJ6_stringSize_0f7a4_6 : decode cJ6_stringSize_0f7a4 6 = .ok (.iconst 0, 1) := by decide +kernel
theorem dJ6_stringSize_0f7a4_7 : decode cJ6_stringSize_0f7a4 7 = .ok (.istore_n 1, 1) := by decide +kernel
theorem dJ6_stringSize_0f7a4_8 : decode cJ6_stringSize_0f7a4 8 = .ok (.iload_n 0, 1) := by decide +kernel
theorem dJ6_stringSize_0f7a4_9 : decode cJ6_stringSize_0f7a4 9 = .ok (.ineg, 1) := by decide +kernel
theorem dJ6_stringSize_0f7a4_10 : decode cJ6_stringSize_0f7a4 10 = .ok (.istore_n 0, 1) := by decide +kernel
theorem dJ6_stringSize_0f7a4_11 : decode cJ6_stringSize_0f7a4 11 = .ok (.bipush (-10), 2) := by decide +kernel
theorem dJ6_stringSize_0f7a4_13 : decode cJ6_stringSize_0f7a4 13 = .ok (.istore_n 2, 1) := by decide +kernel
theorem dJ6_stringSize_0f7a4_14 : decode cJ6_stringSize_0f7a4 14 = .ok (.iconst 1, 1) := by decide +kernel
theorem dJ6_stringSize_0f7a4_15 : decode cJ6_stringSize_0f7a4 15 = .ok (.istore_n 3, 1) := by decide +kernel
theorem dJ6_stringSize_0f7a4_16 : decode cJ6_stringSize_0f7a4 16 = .ok (.iload_n 3, 1) := by decide +kernel
theorem dJ6_stringSize_0f7a4_17 : decode cJ6_stringSize_0f7a4 17 = .ok (.bipush 10, 2) := by decide +kernel
theorem dJ6_stringSize_0f7a4_19 : decode cJ6_stringSize_0f7a4 19 = .ok (.if_icmp .ge 23, 3) := by decide +kernel
theorem dJ6_stringSize_0f7a4_22 : decode cJ6_stringSize_0f7a4 22 = .ok (.iload_n 0, 1) := by decide +kernel
theorem dJ6_stringSize_0f7a4_23 : decode cJ6_stringSize_0f7a4 23 = .ok (.iload_n 2, 1) := by decide +kernel
theorem dJ6_stringSize_0f7a4_24 : decode cJ6_stringSize_0f7a4 24 = .ok (.if_icmp .le 7, 3) := by decide +kernel
theorem dJ6_stringSize_0f7a4_27 : decode cJ6_stringSize_0f7a4 27 = .ok (.iload_n 3, 1) := by decide +kernel
theorem dJ6_stringSize_0f7a4_28 : decode cJ6_stringSize_0f7a4 28 = .ok (.iload_n 1, 1) := by decide +kernel
theorem dJ6_stringSize_0f7a4_29 : decode cJ6_stringSize_0f7a4 29 = .ok (.iadd, 1) := by decide +kernel
theorem dJ6_stringSize_0f7a4_30 : decode cJ6_stringSize_0f7a4 30 = .ok (.ireturn, 1) := by decide +kernel
theorem dJ6_stringSize_0f7a4_31 : decode cJ6_stringSize_0f7a4 31 = .ok (.bipush 10, 2) := by decide +kernel
theorem dJ6_stringSize_0f7a4_33 : decode cJ6_stringSize_0f7a4 33 = .ok (.iload_n 2, 1) := by decide +kernel
theorem dJ6_stringSize_0f7a4_34 : decode cJ6_stringSize_0f7a4 34 = .ok (.imul, 1) := by decide +kernel
theorem dJ6_stringSize_0f7a4_35 : decode cJ6_stringSize_0f7a4 35 = .ok (.istore_n 2, 1) := by decide +kernel
theorem dJ6_stringSize_0f7a4_36 : decode cJ6_stringSize_0f7a4 36 = .ok (.iinc 3 1, 3) := by decide +kernel
theorem dJ6_stringSize_0f7a4_39 : decode cJ6_stringSize_0f7a4 39 = .ok (.goto (-23), 3) := by decide +kernel
theorem dJ6_stringSize_0f7a4_42 : decode cJ6_stringSize_0f7a4 42 = .ok (.bipush 10, 2) := by decide +kernel
theorem dJ6_stringSize_0f7a4_44 : decode cJ6_stringSize_0f7a4 44 = .ok (.iload_n 1, 1) := by decide +kernel
theorem dJ6_stringSize_0f7a4_45 : decode cJ6_stringSize_0f7a4 45 = .ok (.iadd, 1) := by decide +kernel
theorem dJ6_stringSize_0f7a4_46 : decode cJ6_stringSize_0f7a4 46 = .ok (.ireturn, 1) := by decide +kernel
theorem dJ6_bitCount_0f7a4_0 : decode cJ6_bitCount_0f7a4 0 = .ok (.iload_n 0, 1) := by decide +kernel
theorem dJ6_bitCount_0f7a4_1 : decode cJ6_bitCount_0f7a4 1 = .ok (.iload_n 0, 1) := by decide +kernel
theorem dJ6_bitCount_0f7a4_2 : decode cJ6_bitCount_0f7a4 2 = .ok (.iconst 1, 1) := by decide +kernel
theorem dJ6_bitCount_0f7a4_3 : decode cJ6_bitCount_0f7a4 3 = .ok (.iushr, 1) := by decide +kernel
theorem dJ6_bitCount_0f7a4_4 : decode cJ6_bitCount_0f7a4 4 = .ok (.ldc_w 265, 3) := by decide +kernel
theorem dJ6_bitCount_0f7a4_7 : decode cJ6_bitCount_0f7a4 7 = .ok (.iand, 1) := by decide +kernel
theorem dJ6_bitCount_0f7a4_8 : decode cJ6_bitCount_0f7a4 8 = .ok (.isub, 1) := by decide +kernel
theorem dJ6_bitCount_0f7a4_9 : decode cJ6_bitCount_0f7a4 9 = .ok (.istore_n 0, 1) := by decide +kernel
theorem dJ6_bitCount_0f7a4_10 : decode cJ6_bitCount_0f7a4 10 = .ok (.iload_n 0, 1) := by decide +kernel
theorem dJ6_bitCount_0f7a4_11 : decode cJ6_bitCount_0f7a4 11 = .ok (.ldc_w 266, 3) := by decide +kernel
theorem dJ6_bitCount_0f7a4_14 : decode cJ6_bitCount_0f7a4 14 = .ok (.iand, 1) := by decide +kernel
theorem dJ6_bitCount_0f7a4_15 : decode cJ6_bitCount_0f7a4 15 = .ok (.iload_n 0, 1) := by decide +kernel
theorem dJ6_bitCount_0f7a4_16 : decode cJ6_bitCount_0f7a4 16 = .ok (.iconst 2, 1) := by decide +kernel
theorem dJ6_bitCount_0f7a4_17 : decode cJ6_bitCount_0f7a4 17 = .ok (.iushr, 1) := by decide +kernel
theorem dJ6_bitCount_0f7a4_18 : decode cJ6_bitCount_0f7a4 18 = .ok (.ldc_w 266, 3) := by decide +kernel
theorem dJ6_bitCount_0f7a4_21 : decode cJ6_bitCount_0f7a4 21 = .ok (.iand, 1) := by decide +kernel
theorem dJ6_bitCount_0f7a4_22 : decode cJ6_bitCount_0f7a4 22 = .ok (.iadd, 1) := by decide +kernel
theorem dJ6_bitCount_0f7a4_23 : decode cJ6_bitCount_0f7a4 23 = .ok (.istore_n 0, 1) := by decide +kernel
theorem dJ6_bitCount_0f7a4_24 : decode cJ6_bitCount_0f7a4 24 = .ok (.iload_n 0, 1) := by decide +kernel
theorem dJ6_bitCount_0f7a4_25 : decode cJ6_bitCount_0f7a4 25 = .ok (.iload_n 0, 1) := by decide +kernel
theorem dJ6_bitCount_0f7a4_26 : decode cJ6_bitCount_0f7a4 26 = .ok (.iconst 4, 1) := by decide +kernel
theorem dJ6_bitCount_0f7a4_27 : decode cJ6_bitCount_0f7a4 27 = .ok (.iushr, 1) := by decide +kernel
theorem dJ6_bitCount_0f7a4_28 : decode cJ6_bitCount_0f7a4 28 = .ok (.iadd, 1) := by decide +kernel
theorem dJ6_bitCount_0f7a4_29 : decode cJ6_bitCount_0f7a4 29 = .ok (.ldc_w 267, 3) := by decide +kernel
theorem dJ6_bitCount_0f7a4_32 : decode cJ6_bitCount_0f7a4 32 = .ok (.iand, 1) := by decide +kernel
theorem dJ6_bitCount_0f7a4_33 : decode cJ6_bitCount_0f7a4 33 = .ok (.istore_n 0, 1) := by decide +kernel
theorem dJ6_bitCount_0f7a4_34 : decode cJ6_bitCount_0f7a4 34 = .ok (.iload_n 0, 1) := by decide +kernel
theorem dJ6_bitCount_0f7a4_35 : decode cJ6_bitCount_0f7a4 35 = .ok (.iload_n 0, 1) := by decide +kernel
theorem dJ6_bitCount_0f7a4_36 : decode cJ6_bitCount_0f7a4 36 = .ok (.bipush 8, 2) := by decide +kernel
theorem dJ6_bitCount_0f7a4_38 : decode cJ6_bitCount_0f7a4 38 = .ok (.iushr, 1) := by decide +kernel
theorem dJ6_bitCount_0f7a4_39 : decode cJ6_bitCount_0f7a4 39 = .ok (.iadd, 1) := by decide +kernel
theorem dJ6_bitCount_0f7a4_40 : decode cJ6_bitCount_0f7a4 40 = .ok (.istore_n 0, 1) := by decide +kernel
theorem dJ6_bitCount_0f7a4_41 : decode cJ6_bitCount_0f7a4 41 = .ok (.iload_n 0, 1) := by decide +kernel
theorem dJ6_bitCount_0f7a4_42 : decode cJ6_bitCount_0f7a4 42 = .ok (.iload_n 0, 1) := by decide +kernel
theorem dJ6_bitCount_0f7a4_43 : decode cJ6_bitCount_0f7a4 43 = .ok (.bipush 16, 2) := by decide +kernel
theorem dJ6_bitCount_0f7a4_45 : decode cJ6_bitCount_0f7a4 45 = .ok (.iushr, 1) := by decide +kernel
theorem dJ6_bitCount_0f7a4_46 : decode cJ6_bitCount_0f7a4 46 = .ok (.iadd, 1) := by decide +kernel
theorem dJ6_bitCount_0f7a4_47 : decode cJ6_bitCount_0f7a4 47 = .ok (.istore_n 0, 1) := by decide +kernel
theorem dJ6_bitCount_0f7a4_48 : decode cJ6_bitCount_0f7a4 48 = .ok (.iload_n 0, 1) := by decide +kernel
theorem dJ6_bitCount_0f7a4_49 : decode cJ6_bitCount_0f7a4 49 = .ok (.bipush 63, 2) := by decide +kernel
theorem dJ6_bitCount_0f7a4_51 : decode cJ6_bitCount_0f7a4 51 = .ok (.iand, 1) := by decide +kernel
theorem dJ6_bitCount_0f7a4_52 : decode cJ6_bitCount_0f7a4 52 = .ok (.ireturn, 1) := by decide +kernel
theorem dJ13_bitCount_95d88_0 : decode cJ13_bitCount_95d88 0 = .ok (.lload_n 0, 1) := by decide +kernel
theorem dJ13_bitCount_95d88_1 : decode cJ13_bitCount_95d88 1 = .ok (.lload_n 0, 1) := by decide +kernel
theorem dJ13_bitCount_95d88_2 : decode cJ13_bitCount_95d88 2 = .ok (.iconst 1, 1) := by decide +kernel
theorem dJ13_bitCount_95d88_3 : decode cJ13_bitCount_95d88 3 = .ok (.lushr, 1) := by decide +kernel
theorem dJ13_bitCount_95d88_4 : decode cJ13_bitCount_95d88 4 = .ok (.ldc2_w 314, 3) := by decide +kernel
theorem dJ13_bitCount_95d88_7 : decode cJ13_bitCount_95d88 7 = .ok (.land, 1) := by decide +kernel
theorem dJ13_bitCount_95d88_8 : decode cJ13_bitCount_95d88 8 = .ok (.lsub, 1) := by decide +kernel
theorem dJ13_bitCount_95d88_9 : decode cJ13_bitCount_95d88 9 = .ok (.lstore_n 0, 1) := by decide +kernel
theorem dJ13_bitCount_95d88_10 : decode cJ13_bitCount_95d88 10 = .ok (.lload_n 0, 1) := by decide +kernel
theorem dJ13_bitCount_95d88_11 : decode cJ13_bitCount_95d88 11 = .ok (.ldc2_w 316, 3) := by decide +kernel
theorem dJ13_bitCount_95d88_14 : decode cJ13_bitCount_95d88 14 = .ok (.land, 1) := by decide +kernel
theorem dJ13_bitCount_95d88_15 : decode cJ13_bitCount_95d88 15 = .ok (.lload_n 0, 1) := by decide +kernel
theorem dJ13_bitCount_95d88_16 : decode cJ13_bitCount_95d88 16 = .ok (.iconst 2, 1) := by decide +kernel
theorem dJ13_bitCount_95d88_17 : decode cJ13_bitCount_95d88 17 = .ok (.lushr, 1) := by decide +kernel
theorem dJ13_bitCount_95d88_18 : decode cJ13_bitCount_95d88 18 = .ok (.ldc2_w 316, 3) := by decide +kernel
theorem dJ13_bitCount_95d88_21 : decode cJ13_bitCount_95d88 21 = .ok (.land, 1) := by decide +kernel
theorem dJ13_bitCount_95d88_22 : decode cJ13_bitCount_95d88 22 = .ok (.ladd, 1) := by decide +kernel
theorem dJ13_bitCount_95d88_23 : decode cJ13_bitCount_95d88 23 = .ok (.lstore_n 0, 1) := by decide +kernel
theorem dJ13_bitCount_95d88_24 : decode cJ13_bitCount_95d88 24 = .ok (.lload_n 0, 1) := by decide +kernel
theorem dJ13_bitCount_95d88_25 : decode cJ13_bitCount_95d88 25 = .ok (.lload_n 0, 1) := by decide +kernel
theorem dJ13_bitCount_95d88_26 : decode cJ13_bitCount_95d88 26 = .ok (.iconst 4, 1) := by decide +kernel
theorem dJ13_bitCount_95d88_27 : decode cJ13_bitCount_95d88 27 = .ok (.lushr, 1) := by decide +kernel
theorem dJ13_bitCount_95d88_28 : decode cJ13_bitCount_95d88 28 = .ok (.ladd, 1) := by decide +kernel
theorem dJ13_bitCount_95d88_29 : decode cJ13_bitCount_95d88 29 = .ok (.ldc2_w 318, 3) := by decide +kernel
theorem dJ13_bitCount_95d88_32 : decode cJ13_bitCount_95d88 32 = .ok (.land, 1) := by decide +kernel
theorem dJ13_bitCount_95d88_33 : decode cJ13_bitCount_95d88 33 = .ok (.lstore_n 0, 1) := by decide +kernel
theorem dJ13_bitCount_95d88_34 : decode cJ13_bitCount_95d88 34 = .ok (.lload_n 0, 1) := by decide +kernel
theorem dJ13_bitCount_95d88_35 : decode cJ13_bitCount_95d88 35 = .ok (.lload_n 0, 1) := by decide +kernel
theorem dJ13_bitCount_95d88_36 : decode cJ13_bitCount_95d88 36 = .ok (.bipush 8, 2) := by decide +kernel
theorem dJ13_bitCount_95d88_38 : decode cJ13_bitCount_95d88 38 = .ok (.lushr, 1) := by decide +kernel
theorem dJ13_bitCount_95d88_39 : decode cJ13_bitCount_95d88 39 = .ok (.ladd, 1) := by decide +kernel
theorem dJ13_bitCount_95d88_40 : decode cJ13_bitCount_95d88 40 = .ok (.lstore_n 0, 1) := by decide +kernel
theorem dJ13_bitCount_95d88_41 : decode cJ13_bitCount_95d88 41 = .ok (.lload_n 0, 1) := by decide +kernel
theorem dJ13_bitCount_95d88_42 : decode cJ13_bitCount_95d88 42 = .ok (.lload_n 0, 1) := by decide +kernel
theorem dJ13_bitCount_95d88_43 : decode cJ13_bitCount_95d88 43 = .ok (.bipush 16, 2) := by decide +kernel
theorem dJ13_bitCount_95d88_45 : decode cJ13_bitCount_95d88 45 = .ok (.lushr, 1) := by decide +kernel
theorem dJ13_bitCount_95d88_46 : decode cJ13_bitCount_95d88 46 = .ok (.ladd, 1) := by decide +kernel
theorem dJ13_bitCount_95d88_47 : decode cJ13_bitCount_95d88 47 = .ok (.lstore_n 0, 1) := by decide +kernel
theorem dJ13_bitCount_95d88_48 : decode cJ13_bitCount_95d88 48 = .ok (.lload_n 0, 1) := by decide +kernel
theorem dJ13_bitCount_95d88_49 : decode cJ13_bitCount_95d88 49 = .ok (.lload_n 0, 1) := by decide +kernel
theorem dJ13_bitCount_95d88_50 : decode cJ13_bitCount_95d88 50 = .ok (.bipush 32, 2) := by decide +kernel
theorem dJ13_bitCount_95d88_52 : decode cJ13_bitCount_95d88 52 = .ok (.lushr, 1) := by decide +kernel
theorem dJ13_bitCount_95d88_53 : decode cJ13_bitCount_95d88 53 = .ok (.ladd, 1) := by decide +kernel
theorem dJ13_bitCount_95d88_54 : decode cJ13_bitCount_95d88 54 = .ok (.lstore_n 0, 1) := by decide +kernel
theorem dJ13_bitCount_95d88_55 : decode cJ13_bitCount_95d88 55 = .ok (.lload_n 0, 1) := by decide +kernel
theorem dJ13_bitCount_95d88_56 : decode cJ13_bitCount_95d88 56 = .ok (.l2i, 1) := by decide +kernel
theorem dJ13_bitCount_95d88_57 : decode cJ13_bitCount_95d88 57 = .ok (.bipush 127, 2) := by decide +kernel
theorem dJ13_bitCount_95d88_59 : decode cJ13_bitCount_95d88 59 = .ok (.iand, 1) := by decide +kernel
theorem dJ13_bitCount_95d88_60 : decode cJ13_bitCount_95d88 60 = .ok (.ireturn, 1) := by decide +kernel
theorem dJ9_max_7cf53_0 : decode cJ9_max_7cf53 0 = .ok (.iload_n 0, 1) := by decide +kernel
theorem dJ9_max_7cf53_1 : decode cJ9_max_7cf53 1 = .ok (.iload_n 1, 1) := by decide +kernel
theorem dJ9_max_7cf53_2 : decode cJ9_max_7cf53 2 = .ok (.if_icmp .lt 7, 3) := by decide +kernel
theorem dJ9_max_7cf53_5 : decode cJ9_max_7cf53 5 = .ok (.iload_n 0, 1) := by decide +kernel
theorem dJ9_max_7cf53_6 : decode cJ9_max_7cf53 6 = .ok (.goto 4, 3) := by decide +kernel
theorem dJ9_max_7cf53_9 : decode cJ9_max_7cf53 9 = .ok (.iload_n 1, 1) := by decide +kernel
theorem dJ9_max_7cf53_10 : decode cJ9_max_7cf53 10 = .ok (.ireturn, 1) := by decide +kernel
theorem dJ9_min_7cf53_0 : decode cJ9_min_7cf53 0 = .ok (.iload_n 0, 1) := by decide +kernel
theorem dJ9_min_7cf53_1 : decode cJ9_min_7cf53 1 = .ok (.iload_n 1, 1) := by decide +kernel
theorem dJ9_min_7cf53_2 : decode cJ9_min_7cf53 2 = .ok (.if_icmp .gt 7, 3) := by decide +kernel
theorem dJ9_min_7cf53_5 : decode cJ9_min_7cf53 5 = .ok (.iload_n 0, 1) := by decide +kernel
theorem dJ9_min_7cf53_6 : decode cJ9_min_7cf53 6 = .ok (.goto 4, 3) := by decide +kernel
theorem dJ9_min_7cf53_9 : decode cJ9_min_7cf53 9 = .ok (.iload_n 1, 1) := by decide +kernel
theorem dJ9_min_7cf53_10 : decode cJ9_min_7cf53 10 = .ok (.ireturn, 1) := by decide +kernel
theorem dJ0_init_81219_0 : decode cJ0_init_81219 0 = .ok (.aload_n 0, 1) := by decide +kernel
theorem dJ0_init_81219_1 : decode cJ0_init_81219 1 = .ok (.aload_n 1, 1) := by decide +kernel
theorem dJ0_init_81219_2 : decode cJ0_init_81219 2 = .ok (.aconst_null, 1) := by decide +kernel
theorem dJ0_init_81219_3 : decode cJ0_init_81219 3 = .ok (.invokespecial 489, 3) := by decide +kernel
theorem dJ0_init_81219_6 : decode cJ0_init_81219 6 = .ok (.return_, 1) := by decide +kernel
theorem dJ0_length_8abf5_0 : decode cJ0_length_8abf5 0 = .ok (.aload_n 0, 1) := by decide +kernel
theorem dJ0_length_8abf5_1 : decode cJ0_length_8abf5 1 = .ok (.getfield 9, 3) := by decide +kernel
theorem dJ0_length_8abf5_4 : decode cJ0_length_8abf5 4 = .ok (.arraylength, 1) := by decide +kernel
theorem dJ0_length_8abf5_5 : decode cJ0_length_8abf5 5 = .ok (.aload_n 0, 1) := by decide +kernel
theorem dJ0_length_8abf5_6 : decode cJ0_length_8abf5 6 = .ok (.invokevirtual 335, 3) := by decide +kernel
theorem dJ0_length_8abf5_9 : decode cJ0_length_8abf5 9 = .ok (.ishr, 1) := by decide +kernel
theorem dJ0_length_8abf5_10 : decode cJ0_length_8abf5 10 = .ok (.ireturn, 1) := by decide +kernel
theorem dJ0_charAt_5068e_0 : decode cJ0_charAt_5068e 0 = .ok (.aload_n 0, 1) := by decide +kernel
theorem dJ0_charAt_5068e_1 : decode cJ0_charAt_5068e 1 = .ok (.invokevirtual 492, 3) := by decide +kernel
theorem dJ0_charAt_5068e_4 : decode cJ0_charAt_5068e 4 = .ok (.ifCond .eq 12, 3) := by decide +kernel
theorem dJ0_charAt_5068e_7 : decode cJ0_charAt_5068e 7 = .ok (.aload_n 0, 1) := by decide +kernel
theorem dJ0_charAt_5068e_8 : decode cJ0_charAt_5068e 8 = .ok (.getfield 9, 3) := by decide +kernel
theorem dJ0_charAt_5068e_11 : decode cJ0_charAt_5068e 11 = .ok (.iload_n 1, 1) := by decide +kernel
theorem dJ0_charAt_5068e_12 : decode cJ0_charAt_5068e 12 = .ok (.invokestatic 495, 3) := by decide +kernel
theorem dJ0_charAt_5068e_15 : decode cJ0_charAt_5068e 15 = .ok (.ireturn, 1) := by decide +kernel
theorem dJ0_charAt_5068e_16 : decode cJ0_charAt_5068e 16 = .ok (.aload_n 0, 1) := by decide +kernel
theorem dJ0_charAt_5068e_17 : decode cJ0_charAt_5068e 17 = .ok (.getfield 9, 3) := by decide +kernel
theorem dJ0_charAt_5068e_20 : decode cJ0_charAt_5068e 20 = .ok (.iload_n 1, 1) := by decide +kernel
theorem dJ0_charAt_5068e_21 : decode cJ0_charAt_5068e 21 = .ok (.invokestatic 498, 3) := by decide +kernel
theorem dJ0_charAt_5068e_24 : decode cJ0_charAt_5068e 24 = .ok (.ireturn, 1) := by decide +kernel
theorem dJ0_getBytes_840e7_0 : decode cJ0_getBytes_840e7 0 = .ok (.aload_n 0, 1) := by decide +kernel
theorem dJ0_getBytes_840e7_1 : decode cJ0_getBytes_840e7 1 = .ok (.invokevirtual 335, 3) := by decide +kernel
theorem dJ0_getBytes_840e7_4 : decode cJ0_getBytes_840e7 4 = .ok (.iload_n 3, 1) := by decide +kernel
theorem dJ0_getBytes_840e7_5 : decode cJ0_getBytes_840e7 5 = .ok (.if_icmp .ne 23, 3) := by decide +kernel
theorem dJ0_getBytes_840e7_8 : decode cJ0_getBytes_840e7 8 = .ok (.aload_n 0, 1) := by decide +kernel
theorem dJ0_getBytes_840e7_9 : decode cJ0_getBytes_840e7 9 = .ok (.getfield 9, 3) := by decide +kernel
theorem dJ0_getBytes_840e7_12 : decode cJ0_getBytes_840e7 12 = .ok (.iconst 0, 1) := by decide +kernel
theorem dJ0_getBytes_840e7_13 : decode cJ0_getBytes_840e7 13 = .ok (.aload_n 1, 1) := by decide +kernel
theorem dJ0_getBytes_840e7_14 : decode cJ0_getBytes_840e7 14 = .ok (.iload_n 2, 1) := by decide +kernel
theorem dJ0_getBytes_840e7_15 : decode cJ0_getBytes_840e7 15 = .ok (.iload_n 3, 1) := by decide +kernel
theorem dJ0_getBytes_840e7_16 : decode cJ0_getBytes_840e7 16 = .ok (.ishl, 1) := by decide +kernel
theorem dJ0_getBytes_840e7_17 : decode cJ0_getBytes_840e7 17 = .ok (.aload_n 0, 1) := by decide +kernel
theorem dJ0_getBytes_840e7_18 : decode cJ0_getBytes_840e7 18 = .ok (.getfield 9, 3) := by decide +kernel
theorem dJ0_getBytes_840e7_21 : decode cJ0_getBytes_840e7 21 = .ok (.arraylength, 1) := by decide +kernel
theorem dJ0_getBytes_840e7_22 : decode cJ0_getBytes_840e7 22 = .ok (.invokestatic 212, 3) := by decide +kernel
theorem dJ0_getBytes_840e7_25 : decode cJ0_getBytes_840e7 25 = .ok (.goto 18, 3) := by decide +kernel
theorem dJ0_getBytes_840e7_28 : decode cJ0_getBytes_840e7 28 = .ok (.aload_n 0, 1) := by decide +kernel
theorem dJ0_getBytes_840e7_29 : decode cJ0_getBytes_840e7 29 = .ok (.getfield 9, 3) := by decide +kernel
theorem dJ0_getBytes_840e7_32 : decode cJ0_getBytes_840e7 32 = .ok (.iconst 0, 1) := by decide +kernel
theorem dJ0_getBytes_840e7_33 : decode cJ0_getBytes_840e7 33 = .ok (.aload_n 1, 1) := by decide +kernel
theorem dJ0_getBytes_840e7_34 : decode cJ0_getBytes_840e7 34 = .ok (.iload_n 2, 1) := by decide +kernel
theorem dJ0_getBytes_840e7_35 : decode cJ0_getBytes_840e7 35 = .ok (.aload_n 0, 1) := by decide +kernel
theorem dJ0_getBytes_840e7_36 : decode cJ0_getBytes_840e7 36 = .ok (.getfield 9, 3) := by decide +kernel
theorem dJ0_getBytes_840e7_39 : decode cJ0_getBytes_840e7 39 = .ok (.arraylength, 1) := by decide +kernel
theorem dJ0_getBytes_840e7_40 : decode cJ0_getBytes_840e7 40 = .ok (.invokestatic 106, 3) := by decide +kernel
theorem dJ0_getBytes_840e7_43 : decode cJ0_getBytes_840e7 43 = .ok (.return_, 1) := by decide +kernel
theorem dJ0_init_db425_0 : decode cJ0_init_db425 0 = .ok (.aload_n 0, 1) := by decide +kernel
theorem dJ0_init_db425_1 : decode cJ0_init_db425 1 = .ok (.invokespecial 1, 3) := by decide +kernel
theorem dJ0_init_db425_4 : decode cJ0_init_db425 4 = .ok (.aload_n 1, 1) := by decide +kernel
theorem dJ0_init_db425_5 : decode cJ0_init_db425 5 = .ok (.invokevirtual 552, 3) := by decide +kernel
theorem dJ0_init_db425_8 : decode cJ0_init_db425 8 = .ok (.astore_n 3, 1) := by decide +kernel
theorem dJ0_init_db425_9 : decode cJ0_init_db425 9 = .ok (.aload_n 1, 1) := by decide +kernel
theorem dJ0_init_db425_10 : decode cJ0_init_db425 10 = .ok (.invokevirtual 549, 3) := by decide +kernel
theorem dJ0_init_db425_13 : decode cJ0_init_db425 13 = .ok (.istore 4, 2) := by decide +kernel
theorem dJ0_init_db425_15 : decode cJ0_init_db425 15 = .ok (.aload_n 1, 1) := by decide +kernel
theorem dJ0_init_db425_16 : decode cJ0_init_db425 16 = .ok (.invokevirtual 1047, 3) := by decide +kernel
theorem dJ0_init_db425_19 : decode cJ0_init_db425 19 = .ok (.ifCond .eq 22, 3) := by decide +kernel
theorem dJ0_init_db425_22 : decode cJ0_init_db425 22 = .ok (.aload_n 0, 1) := by decide +kernel
theorem dJ0_init_db425_23 : decode cJ0_init_db425 23 = .ok (.iconst 0, 1) := by decide +kernel
theorem dJ0_init_db425_24 : decode cJ0_init_db425 24 = .ok (.putfield 15, 3) := by decide +kernel
theorem dJ0_init_db425_27 : decode cJ0_init_db425 27 = .ok (.aload_n 0, 1) := by decide +kernel
theorem dJ0_init_db425_28 : decode cJ0_init_db425 28 = .ok (.aload_n 3, 1) := by decide +kernel
theorem dJ0_init_db425_29 : decode cJ0_init_db425 29 = .ok (.iconst 0, 1) := by decide +kernel
theorem dJ0_init_db425_30 : decode cJ0_init_db425 30 = .ok (.iload 4, 2) := by decide +kernel
theorem dJ0_init_db425_32 : decode cJ0_init_db425 32 = .ok (.invokestatic 54, 3) := by decide +kernel
theorem dJ0_init_db425_35 : decode cJ0_init_db425 35 = .ok (.putfield 9, 3) := by decide +kernel
theorem dJ0_init_db425_38 : decode cJ0_init_db425 38 = .ok (.goto 59, 3) := by decide +kernel
theorem dJ0_init_db425_41 : decode cJ0_init_db425 41 = .ok (.getstatic 38, 3) := by decide +kernel
theorem dJ0_init_db425_44 : decode cJ0_init_db425 44 = .ok (.ifCond .eq 35, 3) := by decide +kernel
theorem dJ0_init_db425_47 : decode cJ0_init_db425 47 = .ok (.aload_n 1, 1) := by decide +kernel
theorem dJ0_init_db425_48 : decode cJ0_init_db425 48 = .ok (.getfield 1048, 3) := by decide +kernel
theorem dJ0_init_db425_51 : decode cJ0_init_db425 51 = .ok (.ifCond .eq 28, 3) := by decide +kernel
theorem dJ0_init_db425_54 : decode cJ0_init_db425 54 = .ok (.aload_n 0, 1) := by decide +kernel
theorem dJ0_init_db425_55 : decode cJ0_init_db425 55 = .ok (.aload_n 3, 1) := by decide +kernel
theorem dJ0_init_db425_56 : decode cJ0_init_db425 56 = .ok (.iconst 0, 1) := by decide +kernel
theorem dJ0_init_db425_57 : decode cJ0_init_db425 57 = .ok (.iload 4, 2) := by decide +kernel
theorem dJ0_init_db425_59 : decode cJ0_init_db425 59 = .ok (.invokestatic 1051, 3) := by decide +kernel
theorem dJ0_init_db425_62 : decode cJ0_init_db425 62 = .ok (.putfield 9, 3) := by decide +kernel
theorem dJ0_init_db425_65 : decode cJ0_init_db425 65 = .ok (.aload_n 0, 1) := by decide +kernel
theorem dJ0_init_db425_66 : decode cJ0_init_db425 66 = .ok (.aload_n 0, 1) := by decide +kernel
theorem dJ0_init_db425_67 : decode cJ0_init_db425 67 = .ok (.getfield 9, 3) := by decide +kernel
theorem dJ0_init_db425_70 : decode cJ0_init_db425 70 = .ok (.iload 4, 2) := by decide +kernel
theorem dJ0_init_db425_72 : decode cJ0_init_db425 72 = .ok (.invokestatic 47, 3) := by decide +kernel
theorem dJ0_init_db425_75 : decode cJ0_init_db425 75 = .ok (.putfield 15, 3) := by decide +kernel
theorem dJ0_init_db425_78 : decode cJ0_init_db425 78 = .ok (.return_, 1) := by decide +kernel
theorem dJ0_init_db425_79 : decode cJ0_init_db425 79 = .ok (.aload_n 0, 1) := by decide +kernel
theorem dJ0_init_db425_80 : decode cJ0_init_db425 80 = .ok (.iconst 1, 1) := by decide +kernel
theorem dJ0_init_db425_81 : decode cJ0_init_db425 81 = .ok (.putfield 15, 3) := by decide +kernel
theorem dJ0_init_db425_84 : decode cJ0_init_db425 84 = .ok (.aload_n 0, 1) := by decide +kernel
theorem dJ0_init_db425_85 : decode cJ0_init_db425 85 = .ok (.aload_n 3, 1) := by decide +kernel
theorem dJ0_init_db425_86 : decode cJ0_init_db425 86 = .ok (.iconst 0, 1) := by decide +kernel
theorem dJ0_init_db425_87 : decode cJ0_init_db425 87 = .ok (.iload 4, 2) := by decide +kernel
theorem dJ0_init_db425_89 : decode cJ0_init_db425 89 = .ok (.iconst 1, 1) := by decide +kernel
theorem dJ0_init_db425_90 : decode cJ0_init_db425 90 = .ok (.ishl, 1) := by decide +kernel
theorem dJ0_init_db425_91 : decode cJ0_init_db425 91 = .ok (.invokestatic 54, 3) := by decide +kernel
theorem dJ0_init_db425_94 : decode cJ0_init_db425 94 = .ok (.putfield 9, 3) := by decide +kernel
theorem dJ0_init_db425_97 : decode cJ0_init_db425 97 = .ok (.return_, 1) := by decide +kernel
theorem dJ0_coder_7d493_0 : decode cJ0_coder_7d493 0 = .ok (.getstatic 38, 3) := by decide +kernel
theorem dJ0_coder_7d493_3 : decode cJ0_coder_7d493 3 = .ok (.ifCond .eq 10, 3) := by decide +kernel
theorem dJ0_coder_7d493_6 : decode cJ0_coder_7d493 6 = .ok (.aload_n 0, 1) := by decide +kernel
theorem dJ0_coder_7d493_7 : decode cJ0_coder_7d493 7 = .ok (.getfield 15, 3) := by decide +kernel
theorem dJ0_coder_7d493_10 : decode cJ0_coder_7d493 10 = .ok (.goto 4, 3) := by decide +kernel
theorem dJ0_coder_7d493_13 : decode cJ0_coder_7d493 13 = .ok (.iconst 1, 1) := by decide +kernel
theorem dJ0_coder_7d493_14 : decode cJ0_coder_7d493 14 = .ok (.ireturn, 1) := by decide +kernel
theorem dJ0_isLatin1_aae02_0 : decode cJ0_isLatin1_aae02 0 = .ok (.getstatic 38, 3) := by decide +kernel
theorem dJ0_isLatin1_aae02_3 : decode cJ0_isLatin1_aae02 3 = .ok (.ifCond .eq 14, 3) := by decide +kernel
theorem dJ0_isLatin1_aae02_6 : decode cJ0_isLatin1_aae02 6 = .ok (.aload_n 0, 1) := by decide +kernel
theorem dJ0_isLatin1_aae02_7 : decode cJ0_isLatin1_aae02 7 = .ok (.getfield 15, 3) := by decide +kernel
theorem dJ0_isLatin1_aae02_10 : decode cJ0_isLatin1_aae02 10 = .ok (.ifCond .ne 7, 3) := by decide +kernel
theorem dJ0_isLatin1_aae02_13 : decode cJ0_isLatin1_aae02 13 = .ok (.iconst 1, 1) := by decide +kernel
theorem dJ0_isLatin1_aae02_14 : decode cJ0_isLatin1_aae02 14 = .ok (.goto 4, 3) := by decide +kernel
theorem dJ0_isLatin1_aae02_17 : decode cJ0_isLatin1_aae02 17 = .ok (.iconst 0, 1) := by decide +kernel
theorem dJ0_isLatin1_aae02_18 : decode cJ0_isLatin1_aae02 18 = .ok (.ireturn, 1) := by decide +kernel
theorem dJ0_checkIndex_df160_0 : decode cJ0_checkIndex_df160 0 = .ok (.iload_n 0, 1) := by decide +kernel
theorem dJ0_checkIndex_df160_1 : decode cJ0_checkIndex_df160 1 = .ok (.iload_n 1, 1) := by decide +kernel
theorem dJ0_checkIndex_df160_2 : decode cJ0_checkIndex_df160 2 = .ok (.getstatic 1053, 3) := by decide +kernel
theorem dJ0_checkIndex_df160_5 : decode cJ0_checkIndex_df160 5 = .ok (.invokestatic 1059, 3) := by decide +kernel
theorem dJ0_checkIndex_df160_8 : decode cJ0_checkIndex_df160 8 = .ok (.pop, 1) := by decide +kernel
theorem dJ0_checkIndex_df160_9 : decode cJ0_checkIndex_df160 9 = .ok (.return_, 1) := by decide +kernel
theorem dJ0_checkBoundsOffCount_cabcc_0 : decode cJ0_checkBoundsOffCount_cabcc 0 = .ok (.iload_n 0, 1) := by decide +kernel
theorem dJ0_checkBoundsOffCount_cabcc_1 : decode cJ0_checkBoundsOffCount_cabcc 1 = .ok (.iload_n 1, 1) := by decide +kernel
theorem dJ0_checkBoundsOffCount_cabcc_2 : decode cJ0_checkBoundsOffCount_cabcc 2 = .ok (.iload_n 2, 1) := by decide +kernel
theorem dJ0_checkBoundsOffCount_cabcc_3 : decode cJ0_checkBoundsOffCount_cabcc 3 = .ok (.getstatic 1053, 3) := by decide +kernel
theorem dJ0_checkBoundsOffCount_cabcc_6 : decode cJ0_checkBoundsOffCount_cabcc 6 = .ok (.invokestatic 1065, 3) := by decide +kernel
theorem dJ0_checkBoundsOffCount_cabcc_9 : decode cJ0_checkBoundsOffCount_cabcc 9 = .ok (.ireturn, 1) := by decide +kernel
theorem dJ0_checkBoundsBeginEnd_23922_0 : decode cJ0_checkBoundsBeginEnd_23922 0 = .ok (.iload_n 0, 1) := by decide +kernel
theorem dJ0_checkBoundsBeginEnd_23922_1 : decode cJ0_checkBoundsBeginEnd_23922 1 = .ok (.iload_n 1, 1) := by decide +kernel
theorem dJ0_checkBoundsBeginEnd_23922_2 : decode cJ0_checkBoundsBeginEnd_23922 2 = .ok (.iload_n 2, 1) := by decide +kernel
theorem dJ0_checkBoundsBeginEnd_23922_3 : decode cJ0_checkBoundsBeginEnd_23922 3 = .ok (.getstatic 1053, 3) := by decide +kernel
theorem dJ0_checkBoundsBeginEnd_23922_6 : decode cJ0_checkBoundsBeginEnd_23922 6 = .ok (.invokestatic 1062, 3) := by decide +kernel
theorem dJ0_checkBoundsBeginEnd_23922_9 : decode cJ0_checkBoundsBeginEnd_23922 9 = .ok (.pop, 1) := by decide +kernel
theorem dJ0_checkBoundsBeginEnd_23922_10 : decode cJ0_checkBoundsBeginEnd_23922 10 = .ok (.return_, 1) := by decide +kernel
theorem dJ4_init_da8c8_0 : decode cJ4_init_da8c8 0 = .ok (.aload_n 0, 1) := by decide +kernel
theorem dJ4_init_da8c8_1 : decode cJ4_init_da8c8 1 = .ok (.bipush 16, 2) := by decide +kernel
theorem dJ4_init_da8c8_3 : decode cJ4_init_da8c8 3 = .ok (.invokespecial 1, 3) := by decide +kernel
theorem dJ4_init_da8c8_6 : decode cJ4_init_da8c8 6 = .ok (.return_, 1) := by decide +kernel
theorem dJ4_append_15ec4_0 : decode cJ4_append_15ec4 0 = .ok (.aload_n 0, 1) := by decide +kernel
theorem dJ4_append_15ec4_1 : decode cJ4_append_15ec4 1 = .ok (.aload_n 1, 1) := by decide +kernel
theorem dJ4_append_15ec4_2 : decode cJ4_append_15ec4 2 = .ok (.invokespecial 29, 3) := by decide +kernel
theorem dJ4_append_15ec4_5 : decode cJ4_append_15ec4 5 = .ok (.pop, 1) := by decide +kernel
theorem dJ4_append_15ec4_6 : decode cJ4_append_15ec4 6 = .ok (.aload_n 0, 1) := by decide +kernel
theorem dJ4_append_15ec4_7 : decode cJ4_append_15ec4 7 = .ok (.areturn, 1) := by decide +kernel
theorem dJ4_append_bf812_0 : decode cJ4_append_bf812 0 = .ok (.aload_n 0, 1) := by decide +kernel
theorem dJ4_append_bf812_1 : decode cJ4_append_bf812 1 = .ok (.iload_n 1, 1) := by decide +kernel
theorem dJ4_append_bf812_2 : decode cJ4_append_bf812 2 = .ok (.invokespecial 53, 3) := by decide +kernel
theorem dJ4_append_bf812_5 : decode cJ4_append_bf812 5 = .ok (.pop, 1) := by decide +kernel
theorem dJ4_append_bf812_6 : decode cJ4_append_bf812 6 = .ok (.aload_n 0, 1) := by decide +kernel
theorem dJ4_append_bf812_7 : decode cJ4_append_bf812 7 = .ok (.areturn, 1) := by decide +kernel
