theorem dX6_kindAt_33 : decode cX6_kindAt 33 = .ok (.ireturn, 1) := by decide +kernel
theorem dX6_startAt_0 : decode cX6_startAt 0 = .ok (.iload_n 1, 1) := by decide +kernel
theorem dX6_startAt_1 : decode cX6_startAt 1 = .ok (.ifCond .lt 29, 3) := by decide +kernel
theorem dX6_startAt_4 : decode cX6_startAt 4 = .ok (.iload_n 1, 1) := by decide +kernel
theorem dX6_startAt_5 : decode cX6_startAt 5 = .ok (.aload_n 0, 1) := by decide +kernel
theorem dX6_startAt_6 : decode cX6_startAt 6 = .ok (.getfield 49, 3) := by decide +kernel
theorem dX6_startAt_9 : decode cX6_startAt 9 = .ok (.if_icmp .ge 21, 3) := by decide +kernel
theorem dX6_startAt_12 : decode cX6_startAt 12 = .ok (.iload_n 1, 1) := by decide +kernel
theorem dX6_startAt_13 : decode cX6_startAt 13 = .ok (.aload_n 0, 1) := by decide +kernel
theorem dX6_startAt_14 : decode cX6_startAt 14 = .ok (.getfield 23, 3) := by decide +kernel
theorem dX6_startAt_17 : decode cX6_startAt 17 = .ok (.arraylength, 1) := by decide +kernel
theorem dX6_startAt_18 : decode cX6_startAt 18 = .ok (.if_icmp .ge 12, 3) := by decide +kernel
theorem dX6_startAt_21 : decode cX6_startAt 21 = .ok (.aload_n 0, 1) := by decide +kernel
theorem dX6_startAt_22 : decode cX6_startAt 22 = .ok (.getfield 23, 3) := by decide +kernel
theorem dX6_startAt_25 : decode cX6_startAt 25 = .ok (.iload_n 1, 1) := by decide +kernel
theorem dX6_startAt_26 : decode cX6_startAt 26 = .ok (.iaload, 1) := by decide +kernel
theorem dX6_startAt_27 : decode cX6_startAt 27 = .ok (.goto 4, 3) := by decide +kernel
theorem dX6_startAt_30 : decode cX6_startAt 30 = .ok (.iconst 0, 1) := by decide +kernel
theorem dX6_startAt_31 : decode cX6_startAt 31 = .ok (.ireturn, 1) := by decide +kernel
theorem dX6_valueAt_0 : decode cX6_valueAt 0 = .ok (.iload_n 1, 1) := by decide +kernel
theorem dX6_valueAt_1 : decode cX6_valueAt 1 = .ok (.ifCond .lt 29, 3) := by decide +kernel
theorem dX6_valueAt_4 : decode cX6_valueAt 4 = .ok (.iload_n 1, 1) := by decide +kernel
theorem dX6_valueAt_5 : decode cX6_valueAt 5 = .ok (.aload_n 0, 1) := by decide +kernel
theorem dX6_valueAt_6 : decode cX6_valueAt 6 = .ok (.getfield 49, 3) := by decide +kernel
theorem dX6_valueAt_9 : decode cX6_valueAt 9 = .ok (.if_icmp .ge 21, 3) := by decide +kernel
theorem dX6_valueAt_12 : decode cX6_valueAt 12 = .ok (.iload_n 1, 1) := by decide +kernel
theorem dX6_valueAt_13 : decode cX6_valueAt 13 = .ok (.aload_n 0, 1) := by decide +kernel
theorem dX6_valueAt_14 : decode cX6_valueAt 14 = .ok (.getfield 26, 3) := by decide +kernel
theorem dX6_valueAt_17 : decode cX6_valueAt 17 = .ok (.arraylength, 1) := by decide +kernel
theorem dX6_valueAt_18 : decode cX6_valueAt 18 = .ok (.if_icmp .ge 12, 3) := by decide +kernel
theorem dX6_valueAt_21 : decode cX6_valueAt 21 = .ok (.aload_n 0, 1) := by decide +kernel
theorem dX6_valueAt_22 : decode cX6_valueAt 22 = .ok (.getfield 26, 3) := by decide +kernel
theorem dX6_valueAt_25 : decode cX6_valueAt 25 = .ok (.iload_n 1, 1) := by decide +kernel
theorem dX6_valueAt_26 : decode cX6_valueAt 26 = .ok (.laload, 1) := by decide +kernel
theorem dX6_valueAt_27 : decode cX6_valueAt 27 = .ok (.goto 4, 3) := by decide +kernel
theorem dX6_valueAt_30 : decode cX6_valueAt 30 = .ok (.lconst 0, 1) := by decide +kernel
theorem dX6_valueAt_31 : decode cX6_valueAt 31 = .ok (.lreturn, 1) := by decide +kernel
theorem dX6_skipBlanks_0 : decode cX6_skipBlanks 0 = .ok (.aload_n 0, 1) := by decide +kernel
theorem dX6_skipBlanks_1 : decode cX6_skipBlanks 1 = .ok (.getfield 53, 3) := by decide +kernel
theorem dX6_skipBlanks_4 : decode cX6_skipBlanks 4 = .ok (.aload_n 1, 1) := by decide +kernel
theorem dX6_skipBlanks_5 : decode cX6_skipBlanks 5 = .ok (.getfield 68, 3) := by decide +kernel
theorem dX6_skipBlanks_8 : decode cX6_skipBlanks 8 = .ok (.if_icmp .ge 42, 3) := by decide +kernel
theorem dX6_skipBlanks_11 : decode cX6_skipBlanks 11 = .ok (.aload_n 1, 1) := by decide +kernel
theorem dX6_skipBlanks_12 : decode cX6_skipBlanks 12 = .ok (.aload_n 0, 1) := by decide +kernel
theorem dX6_skipBlanks_13 : decode cX6_skipBlanks 13 = .ok (.getfield 53, 3) := by decide +kernel
theorem dX6_skipBlanks_16 : decode cX6_skipBlanks 16 = .ok (.invokevirtual 72, 3) := by decide +kernel
theorem dX6_skipBlanks_19 : decode cX6_skipBlanks 19 = .ok (.bipush 32, 2) := by decide +kernel
theorem dX6_skipBlanks_21 : decode cX6_skipBlanks 21 = .ok (.if_icmp .eq 16, 3) := by decide +kernel
theorem dX6_skipBlanks_24 : decode cX6_skipBlanks 24 = .ok (.aload_n 1, 1) := by decide +kernel
theorem dX6_skipBlanks_25 : decode cX6_skipBlanks 25 = .ok (.aload_n 0, 1) := by decide +kernel
theorem dX6_skipBlanks_26 : decode cX6_skipBlanks 26 = .ok (.getfield 53, 3) := by decide +kernel
theorem dX6_skipBlanks_29 : decode cX6_skipBlanks 29 = .ok (.invokevirtual 72, 3) := by decide +kernel
theorem dX6_skipBlanks_32 : decode cX6_skipBlanks 32 = .ok (.bipush 10, 2) := by decide +kernel
theorem dX6_skipBlanks_34 : decode cX6_skipBlanks 34 = .ok (.if_icmp .ne 16, 3) := by decide +kernel
theorem dX6_skipBlanks_37 : decode cX6_skipBlanks 37 = .ok (.aload_n 0, 1) := by decide +kernel
theorem dX6_skipBlanks_38 : decode cX6_skipBlanks 38 = .ok (.dup, 1) := by decide +kernel
theorem dX6_skipBlanks_39 : decode cX6_skipBlanks 39 = .ok (.getfield 53, 3) := by decide +kernel
theorem dX6_skipBlanks_42 : decode cX6_skipBlanks 42 = .ok (.iconst 1, 1) := by decide +kernel
theorem dX6_skipBlanks_43 : decode cX6_skipBlanks 43 = .ok (.iadd, 1) := by decide +kernel
theorem dX6_skipBlanks_44 : decode cX6_skipBlanks 44 = .ok (.putfield 53, 3) := by decide +kernel
theorem dX6_skipBlanks_47 : decode cX6_skipBlanks 47 = .ok (.goto (-47), 3) := by decide +kernel
theorem dX6_skipBlanks_50 : decode cX6_skipBlanks 50 = .ok (.return_, 1) := by decide +kernel
theorem dX6_readToken_0 : decode cX6_readToken 0 = .ok (.aload_n 1, 1) := by decide +kernel
theorem dX6_readToken_1 : decode cX6_readToken 1 = .ok (.aload_n 0, 1) := by decide +kernel
theorem dX6_readToken_2 : decode cX6_readToken 2 = .ok (.getfield 53, 3) := by decide +kernel
theorem dX6_readToken_5 : decode cX6_readToken 5 = .ok (.invokevirtual 72, 3) := by decide +kernel
theorem dX6_readToken_8 : decode cX6_readToken 8 = .ok (.istore_n 2, 1) := by decide +kernel
theorem dX6_readToken_9 : decode cX6_readToken 9 = .ok (.iload_n 2, 1) := by decide +kernel
theorem dX6_readToken_10 : decode cX6_readToken 10 = .ok (.ifCond .ge 7, 3) := by decide +kernel
theorem dX6_readToken_13 : decode cX6_readToken 13 = .ok (.sipush 260, 3) := by decide +kernel
theorem dX6_readToken_16 : decode cX6_readToken 16 = .ok (.ireturn, 1) := by decide +kernel
theorem dX6_readToken_17 : decode cX6_readToken 17 = .ok (.aload_n 0, 1) := by decide +kernel
theorem dX6_readToken_18 : decode cX6_readToken 18 = .ok (.getfield 49, 3) := by decide +kernel
theorem dX6_readToken_21 : decode cX6_readToken 21 = .ok (.sipush 400, 3) := by decide +kernel
theorem dX6_readToken_24 : decode cX6_readToken 24 = .ok (.if_icmp .lt 7, 3) := by decide +kernel
theorem dX6_readToken_27 : decode cX6_readToken 27 = .ok (.sipush 261, 3) := by decide +kernel
theorem dX6_readToken_30 : decode cX6_readToken 30 = .ok (.ireturn, 1) := by decide +kernel
theorem dX6_readToken_31 : decode cX6_readToken 31 = .ok (.iload_n 2, 1) := by decide +kernel
theorem dX6_readToken_32 : decode cX6_readToken 32 = .ok (.invokestatic 76, 3) := by decide +kernel
theorem dX6_readToken_35 : decode cX6_readToken 35 = .ok (.ifCond .eq 9, 3) := by decide +kernel
theorem dX6_readToken_38 : decode cX6_readToken 38 = .ok (.aload_n 0, 1) := by decide +kernel
theorem dX6_readToken_39 : decode cX6_readToken 39 = .ok (.aload_n 1, 1) := by decide +kernel
theorem dX6_readToken_40 : decode cX6_readToken 40 = .ok (.invokevirtual 79, 3) := by decide +kernel
theorem dX6_readToken_43 : decode cX6_readToken 43 = .ok (.ireturn, 1) := by decide +kernel
theorem dX6_readToken_44 : decode cX6_readToken 44 = .ok (.iload_n 2, 1) := by decide +kernel
theorem dX6_readToken_45 : decode cX6_readToken 45 = .ok (.invokestatic 45, 3) := by decide +kernel
theorem dX6_readToken_48 : decode cX6_readToken 48 = .ok (.ifCond .eq 9, 3) := by decide +kernel
theorem dX6_readToken_51 : decode cX6_readToken 51 = .ok (.aload_n 0, 1) := by decide +kernel
theorem dX6_readToken_52 : decode cX6_readToken 52 = .ok (.aload_n 1, 1) := by decide +kernel
theorem dX6_readToken_53 : decode cX6_readToken 53 = .ok (.invokevirtual 82, 3) := by decide +kernel
theorem dX6_readToken_56 : decode cX6_readToken 56 = .ok (.ireturn, 1) := by decide +kernel
theorem dX6_readToken_57 : decode cX6_readToken 57 = .ok (.aload_n 0, 1) := by decide +kernel
theorem dX6_readToken_58 : decode cX6_readToken 58 = .ok (.aload_n 1, 1) := by decide +kernel
theorem dX6_readToken_59 : decode cX6_readToken 59 = .ok (.iload_n 2, 1) := by decide +kernel
theorem dX6_readToken_60 : decode cX6_readToken 60 = .ok (.invokevirtual 85, 3) := by decide +kernel
theorem dX6_readToken_63 : decode cX6_readToken 63 = .ok (.ireturn, 1) := by decide +kernel
theorem dX6_readWord_0 : decode cX6_readWord 0 = .ok (.aload_n 0, 1) := by decide +kernel
theorem dX6_readWord_1 : decode cX6_readWord 1 = .ok (.getfield 53, 3) := by decide +kernel
theorem dX6_readWord_4 : decode cX6_readWord 4 = .ok (.istore_n 2, 1) := by decide +kernel
theorem dX6_readWord_5 : decode cX6_readWord 5 = .ok (.aload_n 0, 1) := by decide +kernel
theorem dX6_readWord_6 : decode cX6_readWord 6 = .ok (.getfield 53, 3) := by decide +kernel
theorem dX6_readWord_9 : decode cX6_readWord 9 = .ok (.aload_n 1, 1) := by decide +kernel
theorem dX6_readWord_10 : decode cX6_readWord 10 = .ok (.getfield 68, 3) := by decide +kernel
theorem dX6_readWord_13 : decode cX6_readWord 13 = .ok (.if_icmp .ge 63, 3) := by decide +kernel
theorem dX6_readWord_16 : decode cX6_readWord 16 = .ok (.aload_n 1, 1) := by decide +kernel
theorem dX6_readWord_17 : decode cX6_readWord 17 = .ok (.aload_n 0, 1) := by decide +kernel
theorem dX6_readWord_18 : decode cX6_readWord 18 = .ok (.getfield 53, 3) := by decide +kernel
theorem dX6_readWord_21 : decode cX6_readWord 21 = .ok (.invokevirtual 72, 3) := by decide +kernel
theorem dX6_readWord_24 : decode cX6_readWord 24 = .ok (.invokestatic 76, 3) := by decide +kernel
theorem dX6_readWord_27 : decode cX6_readWord 27 = .ok (.ifCond .ne 17, 3) := by decide +kernel
theorem dX6_readWord_30 : decode cX6_readWord 30 = .ok (.aload_n 1, 1) := by decide +kernel
theorem dX6_readWord_31 : decode cX6_readWord 31 = .ok (.aload_n 0, 1) := by decide +kernel
theorem dX6_readWord_32 : decode cX6_readWord 32 = .ok (.getfield 53, 3) := by decide +kernel
theorem dX6_readWord_35 : decode cX6_readWord 35 = .ok (.invokevirtual 72, 3) := by decide +kernel
theorem dX6_readWord_38 : decode cX6_readWord 38 = .ok (.invokestatic 45, 3) := by decide +kernel
theorem dX6_readWord_41 : decode cX6_readWord 41 = .ok (.ifCond .eq 35, 3) := by decide +kernel
theorem dX6_readWord_44 : decode cX6_readWord 44 = .ok (.aload_n 0, 1) := by decide +kernel
theorem dX6_readWord_45 : decode cX6_readWord 45 = .ok (.aload_n 0, 1) := by decide +kernel
theorem dX6_readWord_46 : decode cX6_readWord 46 = .ok (.getfield 60, 3) := by decide +kernel
theorem dX6_readWord_49 : decode cX6_readWord 49 = .ok (.aload_n 1, 1) := by decide +kernel
theorem dX6_readWord_50 : decode cX6_readWord 50 = .ok (.aload_n 0, 1) := by decide +kernel
theorem dX6_readWord_51 : decode cX6_readWord 51 = .ok (.getfield 53, 3) := by decide +kernel
theorem dX6_readWord_54 : decode cX6_readWord 54 = .ok (.invokevirtual 72, 3) := by decide +kernel
theorem dX6_readWord_57 : decode cX6_readWord 57 = .ok (.invokestatic 41, 3) := by decide +kernel
theorem dX6_readWord_60 : decode cX6_readWord 60 = .ok (.putfield 60, 3) := by decide +kernel
theorem dX6_readWord_63 : decode cX6_readWord 63 = .ok (.aload_n 0, 1) := by decide +kernel
theorem dX6_readWord_64 : decode cX6_readWord 64 = .ok (.dup, 1) := by decide +kernel
theorem dX6_readWord_65 : decode cX6_readWord 65 = .ok (.getfield 53, 3) := by decide +kernel
theorem dX6_readWord_68 : decode cX6_readWord 68 = .ok (.iconst 1, 1) := by decide +kernel
theorem dX6_readWord_69 : decode cX6_readWord 69 = .ok (.iadd, 1) := by decide +kernel
theorem dX6_readWord_70 : decode cX6_readWord 70 = .ok (.putfield 53, 3) := by decide +kernel
theorem dX6_readWord_73 : decode cX6_readWord 73 = .ok (.goto (-68), 3) := by decide +kernel
theorem dX6_readWord_76 : decode cX6_readWord 76 = .ok (.aload_n 0, 1) := by decide +kernel
theorem dX6_readWord_77 : decode cX6_readWord 77 = .ok (.getfield 53, 3) := by decide +kernel
theorem dX6_readWord_80 : decode cX6_readWord 80 = .ok (.iload_n 2, 1) := by decide +kernel
theorem dX6_readWord_81 : decode cX6_readWord 81 = .ok (.isub, 1) := by decide +kernel
theorem dX6_readWord_82 : decode cX6_readWord 82 = .ok (.bipush 10, 2) := by decide +kernel
theorem dX6_readWord_84 : decode cX6_readWord 84 = .ok (.if_icmp .le 7, 3) := by decide +kernel
theorem dX6_readWord_87 : decode cX6_readWord 87 = .ok (.sipush 261, 3) := by decide +kernel
theorem dX6_readWord_90 : decode cX6_readWord 90 = .ok (.ireturn, 1) := by decide +kernel
theorem dX6_readWord_91 : decode cX6_readWord 91 = .ok (.iconst 0, 1) := by decide +kernel
theorem dX6_readWord_92 : decode cX6_readWord 92 = .ok (.istore_n 3, 1) := by decide +kernel
theorem dX6_readWord_93 : decode cX6_readWord 93 = .ok (.iload_n 3, 1) := by decide +kernel
theorem dX6_readWord_94 : decode cX6_readWord 94 = .ok (.aload_n 0, 1) := by decide +kernel
theorem dX6_readWord_95 : decode cX6_readWord 95 = .ok (.getfield 15, 3) := by decide +kernel
theorem dX6_readWord_98 : decode cX6_readWord 98 = .ok (.arraylength, 1) := by decide +kernel
theorem dX6_readWord_99 : decode cX6_readWord 99 = .ok (.if_icmp .ge 29, 3) := by decide +kernel
theorem dX6_readWord_102 : decode cX6_readWord 102 = .ok (.aload_n 0, 1) := by decide +kernel
theorem dX6_readWord_103 : decode cX6_readWord 103 = .ok (.getfield 15, 3) := by decide +kernel
theorem dX6_readWord_106 : decode cX6_readWord 106 = .ok (.iload_n 3, 1) := by decide +kernel
theorem dX6_readWord_107 : decode cX6_readWord 107 = .ok (.laload, 1) := by decide +kernel
theorem dX6_readWord_108 : decode cX6_readWord 108 = .ok (.aload_n 0, 1) := by decide +kernel
theorem dX6_readWord_109 : decode cX6_readWord 109 = .ok (.getfield 60, 3) := by decide +kernel
theorem dX6_readWord_112 : decode cX6_readWord 112 = .ok (.lcmp, 1) := by decide +kernel
theorem dX6_readWord_113 : decode cX6_readWord 113 = .ok (.ifCond .ne 9, 3) := by decide +kernel
theorem dX6_readWord_116 : decode cX6_readWord 116 = .ok (.sipush 300, 3) := by decide +kernel
theorem dX6_readWord_119 : decode cX6_readWord 119 = .ok (.iload_n 3, 1) := by decide +kernel
theorem dX6_readWord_120 : decode cX6_readWord 120 = .ok (.iadd, 1) := by decide +kernel
theorem dX6_readWord_121 : decode cX6_readWord 121 = .ok (.ireturn, 1) := by decide +kernel
theorem dX6_readWord_122 : decode cX6_readWord 122 = .ok (.iinc 3 1, 3) := by decide +kernel
theorem dX6_readWord_125 : decode cX6_readWord 125 = .ok (.goto (-32), 3) := by decide +kernel
theorem dX6_readWord_128 : decode cX6_readWord 128 = .ok (.sipush 258, 3) := by decide +kernel
theorem dX6_readWord_131 : decode cX6_readWord 131 = .ok (.ireturn, 1) := by decide +kernel
theorem dX6_readNumber_0 : decode cX6_readNumber 0 = .ok (.aload_n 0, 1) := by decide +kernel
theorem dX6_readNumber_1 : decode cX6_readNumber 1 = .ok (.getfield 53, 3) := by decide +kernel
theorem dX6_readNumber_4 : decode cX6_readNumber 4 = .ok (.istore_n 2, 1) := by decide +kernel
theorem dX6_readNumber_5 : decode cX6_readNumber 5 = .ok (.aload_n 0, 1) := by decide +kernel
theorem dX6_readNumber_6 : decode cX6_readNumber 6 = .ok (.getfield 53, 3) := by decide +kernel
theorem dX6_readNumber_9 : decode cX6_readNumber 9 = .ok (.aload_n 1, 1) := by decide +kernel
theorem dX6_readNumber_10 : decode cX6_readNumber 10 = .ok (.getfield 68, 3) := by decide +kernel
theorem dX6_readNumber_13 : decode cX6_readNumber 13 = .ok (.if_icmp .ge 55, 3) := by decide +kernel
theorem dX6_readNumber_16 : decode cX6_readNumber 16 = .ok (.aload_n 1, 1) := by decide +kernel
theorem dX6_readNumber_17 : decode cX6_readNumber 17 = .ok (.aload_n 0, 1) := by decide +kernel
theorem dX6_readNumber_18 : decode cX6_readNumber 18 = .ok (.getfield 53, 3) := by decide +kernel
theorem dX6_readNumber_21 : decode cX6_readNumber 21 = .ok (.invokevirtual 72, 3) := by decide +kernel
theorem dX6_readNumber_24 : decode cX6_readNumber 24 = .ok (.invokestatic 45, 3) := by decide +kernel
theorem dX6_readNumber_27 : decode cX6_readNumber 27 = .ok (.ifCond .eq 41, 3) := by decide +kernel
theorem dX6_readNumber_30 : decode cX6_readNumber 30 = .ok (.aload_n 0, 1) := by decide +kernel
theorem dX6_readNumber_31 : decode cX6_readNumber 31 = .ok (.aload_n 0, 1) := by decide +kernel
theorem dX6_readNumber_32 : decode cX6_readNumber 32 = .ok (.getfield 60, 3) := by decide +kernel
theorem dX6_readNumber_35 : decode cX6_readNumber 35 = .ok (.ldc2_w 89, 3) := by decide +kernel
theorem dX6_readNumber_38 : decode cX6_readNumber 38 = .ok (.lmul, 1) := by decide +kernel
theorem dX6_readNumber_39 : decode cX6_readNumber 39 = .ok (.aload_n 1, 1) := by decide +kernel
theorem dX6_readNumber_40 : decode cX6_readNumber 40 = .ok (.aload_n 0, 1) := by decide +kernel
theorem dX6_readNumber_41 : decode cX6_readNumber 41 = .ok (.getfield 53, 3) := by decide +kernel
theorem dX6_readNumber_44 : decode cX6_readNumber 44 = .ok (.invokevirtual 72, 3) := by decide +kernel
theorem dX6_readNumber_47 : decode cX6_readNumber 47 = .ok (.bipush 48, 2) := by decide +kernel
theorem dX6_readNumber_49 : decode cX6_readNumber 49 = .ok (.isub, 1) := by decide +kernel
theorem dX6_readNumber_50 : decode cX6_readNumber 50 = .ok (.i2l, 1) := by decide +kernel
theorem dX6_readNumber_51 : decode cX6_readNumber 51 = .ok (.ladd, 1) := by decide +kernel
theorem dX6_readNumber_52 : decode cX6_readNumber 52 = .ok (.putfield 60, 3) := by decide +kernel
theorem dX6_readNumber_55 : decode cX6_readNumber 55 = .ok (.aload_n 0, 1) := by decide +kernel
theorem dX6_readNumber_56 : decode cX6_readNumber 56 = .ok (.dup, 1) := by decide +kernel
theorem dX6_readNumber_57 : decode cX6_readNumber 57 = .ok (.getfield 53, 3) := by decide +kernel
theorem dX6_readNumber_60 : decode cX6_readNumber 60 = .ok (.iconst 1, 1) := by decide +kernel
theorem dX6_readNumber_61 : decode cX6_readNumber 61 = .ok (.iadd, 1) := by decide +kernel
theorem dX6_readNumber_62 : decode cX6_readNumber 62 = .ok (.putfield 53, 3) := by decide +kernel
theorem dX6_readNumber_65 : decode cX6_readNumber 65 = .ok (.goto (-60), 3) := by decide +kernel
theorem dX6_readNumber_68 : decode cX6_readNumber 68 = .ok (.aload_n 0, 1) := by decide +kernel
theorem dX6_readNumber_69 : decode cX6_readNumber 69 = .ok (.getfield 53, 3) := by decide +kernel
theorem dX6_readNumber_72 : decode cX6_readNumber 72 = .ok (.iload_n 2, 1) := by decide +kernel
theorem dX6_readNumber_73 : decode cX6_readNumber 73 = .ok (.isub, 1) := by decide +kernel
theorem dX6_readNumber_74 : decode cX6_readNumber 74 = .ok (.bipush 6, 2) := by decide +kernel
theorem dX6_readNumber_76 : decode cX6_readNumber 76 = .ok (.if_icmp .le 9, 3) := by decide +kernel
theorem dX6_readNumber_79 : decode cX6_readNumber 79 = .ok (.sipush 261, 3) := by decide +kernel
theorem dX6_readNumber_82 : decode cX6_readNumber 82 = .ok (.goto 6, 3) := by decide +kernel
theorem dX6_readNumber_85 : decode cX6_readNumber 85 = .ok (.sipush 259, 3) := by decide +kernel
theorem dX6_readNumber_88 : decode cX6_readNumber 88 = .ok (.ireturn, 1) := by decide +kernel
theorem dX6_readSymbol_0 : decode cX6_readSymbol 0 = .ok (.aload_n 0, 1) := by decide +kernel
theorem dX6_readSymbol_1 : decode cX6_readSymbol 1 = .ok (.dup, 1) := by decide +kernel
theorem dX6_readSymbol_2 : decode cX6_readSymbol 2 = .ok (.getfield 53, 3) := by decide +kernel
theorem dX6_readSymbol_5 : decode cX6_readSymbol 5 = .ok (.iconst 1, 1) := by decide +kernel
theorem dX6_readSymbol_6 : decode cX6_readSymbol 6 = .ok (.iadd, 1) := by decide +kernel
theorem dX6_readSymbol_7 : decode cX6_readSymbol 7 = .ok (.putfield 53, 3) := by decide +kernel
theorem dX6_readSymbol_10 : decode cX6_readSymbol 10 = .ok (.iload_n 2, 1) := by decide +kernel
theorem dX6_readSymbol_11 : decode cX6_readSymbol 11 = .ok (.tableswitch 272 40 93 #[270, 270, 270, 270, 270, 270, 272, 270, 272, 272, 272, 272, 272, 272, 272, 272, 272, 272, 272, 270, 229, 270, 229, 272, 272, 272, 272, 272, 272, 272, 272, 272, 272, 272, 272, 272, 272, 272, 272, 272, 272, 272, 272, 272, 272, 272, 272, 272, 272, 272, 272, 270, 272, 270], 229) := by decide +kernel
theorem dX6_readSymbol_240 : decode cX6_readSymbol 240 = .ok (.aload_n 1, 1) := by decide +kernel
theorem dX6_readSymbol_241 : decode cX6_readSymbol 241 = .ok (.aload_n 0, 1) := by decide +kernel
theorem dX6_readSymbol_242 : decode cX6_readSymbol 242 = .ok (.getfield 53, 3) := by decide +kernel
theorem dX6_readSymbol_245 : decode cX6_readSymbol 245 = .ok (.invokevirtual 72, 3) := by decide +kernel
theorem dX6_readSymbol_248 : decode cX6_readSymbol 248 = .ok (.bipush 61, 2) := by decide +kernel
theorem dX6_readSymbol_250 : decode cX6_readSymbol 250 = .ok (.if_icmp .eq 5, 3) := by decide +kernel
theorem dX6_readSymbol_253 : decode cX6_readSymbol 253 = .ok (.iload_n 2, 1) := by decide +kernel
theorem dX6_readSymbol_254 : decode cX6_readSymbol 254 = .ok (.ireturn, 1) := by decide +kernel
theorem dX6_readSymbol_255 : decode cX6_readSymbol 255 = .ok (.aload_n 0, 1) := by decide +kernel
theorem dX6_readSymbol_256 : decode cX6_readSymbol 256 = .ok (.dup, 1) := by decide +kernel
theorem dX6_readSymbol_257 : decode cX6_readSymbol 257 = .ok (.getfield 53, 3) := by decide +kernel
theorem dX6_readSymbol_260 : decode cX6_readSymbol 260 = .ok (.iconst 1, 1) := by decide +kernel
theorem dX6_readSymbol_261 : decode cX6_readSymbol 261 = .ok (.iadd, 1) := by decide +kernel
theorem dX6_readSymbol_262 : decode cX6_readSymbol 262 = .ok (.putfield 53, 3) := by decide +kernel
theorem dX6_readSymbol_265 : decode cX6_readSymbol 265 = .ok (.iload_n 2, 1) := by decide +kernel
theorem dX6_readSymbol_266 : decode cX6_readSymbol 266 = .ok (.bipush 60, 2) := by decide +kernel
theorem dX6_readSymbol_268 : decode cX6_readSymbol 268 = .ok (.if_icmp .ne 9, 3) := by decide +kernel
theorem dX6_readSymbol_271 : decode cX6_readSymbol 271 = .ok (.sipush 256, 3) := by decide +kernel
theorem dX6_readSymbol_274 : decode cX6_readSymbol 274 = .ok (.goto 6, 3) := by decide +kernel
theorem dX6_readSymbol_277 : decode cX6_readSymbol 277 = .ok (.sipush 257, 3) := by decide +kernel
theorem dX6_readSymbol_280 : decode cX6_readSymbol 280 = .ok (.ireturn, 1) := by decide +kernel
theorem dX6_readSymbol_281 : decode cX6_readSymbol 281 = .ok (.iload_n 2, 1) := by decide +kernel
theorem dX6_readSymbol_282 : decode cX6_readSymbol 282 = .ok (.ireturn, 1) := by decide +kernel
theorem dX6_readSymbol_283 : decode cX6_readSymbol 283 = .ok (.sipush 261, 3) := by decide +kernel
theorem dX6_readSymbol_286 : decode cX6_readSymbol 286 = .ok (.ireturn, 1) := by decide +kernel
theorem dX7_init_0 : decode cX7_init 0 = .ok (.aload_n 0, 1) := by decide +kernel
theorem dX7_init_1 : decode cX7_init 1 = .ok (.invokespecial 3, 3) := by decide +kernel
theorem dX7_init_4 : decode cX7_init 4 = .ok (.aload_n 0, 1) := by decide +kernel
theorem dX7_init_5 : decode cX7_init 5 = .ok (.bipush 20, 2) := by decide +kernel
theorem dX7_init_7 : decode cX7_init 7 = .ok (.newarray .int, 2) := by decide +kernel
theorem dX7_init_9 : decode cX7_init 9 = .ok (.putfield 9, 3) := by decide +kernel
theorem dX7_init_12 : decode cX7_init 12 = .ok (.aload_n 0, 1) := by decide +kernel
theorem dX7_init_13 : decode cX7_init 13 = .ok (.bipush 20, 2) := by decide +kernel
theorem dX7_init_15 : decode cX7_init 15 = .ok (.newarray .int, 2) := by decide +kernel
theorem dX7_init_17 : decode cX7_init 17 = .ok (.putfield 15, 3) := by decide +kernel
theorem dX7_init_20 : decode cX7_init 20 = .ok (.aload_n 0, 1) := by decide +kernel
theorem dX7_init_21 : decode cX7_init 21 = .ok (.iconst (-1), 1) := by decide +kernel
theorem dX7_init_22 : decode cX7_init 22 = .ok (.putfield 18, 3) := by decide +kernel
theorem dX7_init_25 : decode cX7_init 25 = .ok (.aload_n 0, 1) := by decide +kernel
theorem dX7_init_26 : decode cX7_init 26 = .ok (.aload_n 1, 1) := by decide +kernel
theorem dX7_init_27 : decode cX7_init 27 = .ok (.putfield 22, 3) := by decide +kernel
theorem dX7_init_30 : decode cX7_init 30 = .ok (.return_, 1) := by decide +kernel
theorem dX7_forget_0 : decode cX7_forget 0 = .ok (.aload_n 0, 1) := by decide +kernel
theorem dX7_forget_1 : decode cX7_forget 1 = .ok (.iconst (-1), 1) := by decide +kernel
theorem dX7_forget_2 : decode cX7_forget 2 = .ok (.putfield 18, 3) := by decide +kernel
theorem dX7_forget_5 : decode cX7_forget 5 = .ok (.return_, 1) := by decide +kernel
theorem dX7_reach_0 : decode cX7_reach 0 = .ok (.aload_n 0, 1) := by decide +kernel
theorem dX7_reach_1 : decode cX7_reach 1 = .ok (.iload_n 1, 1) := by decide +kernel
theorem dX7_reach_2 : decode cX7_reach 2 = .ok (.invokevirtual 26, 3) := by decide +kernel
theorem dX7_reach_5 : decode cX7_reach 5 = .ok (.iload_n 2, 1) := by decide +kernel
theorem dX7_reach_6 : decode cX7_reach 6 = .ok (.ifCond .lt 21, 3) := by decide +kernel
theorem dX7_reach_9 : decode cX7_reach 9 = .ok (.iload_n 2, 1) := by decide +kernel
theorem dX7_reach_10 : decode cX7_reach 10 = .ok (.aload_n 0, 1) := by decide +kernel
theorem dX7_reach_11 : decode cX7_reach 11 = .ok (.getfield 15, 3) := by decide +kernel
theorem dX7_reach_14 : decode cX7_reach 14 = .ok (.arraylength, 1) := by decide +kernel
theorem dX7_reach_15 : decode cX7_reach 15 = .ok (.if_icmp .ge 12, 3) := by decide +kernel
theorem dX7_reach_18 : decode cX7_reach 18 = .ok (.aload_n 0, 1) := by decide +kernel
theorem dX7_reach_19 : decode cX7_reach 19 = .ok (.getfield 15, 3) := by decide +kernel
theorem dX7_reach_22 : decode cX7_reach 22 = .ok (.iload_n 2, 1) := by decide +kernel
theorem dX7_reach_23 : decode cX7_reach 23 = .ok (.iaload, 1) := by decide +kernel
theorem dX7_reach_24 : decode cX7_reach 24 = .ok (.goto 4, 3) := by decide +kernel
theorem dX7_reach_27 : decode cX7_reach 27 = .ok (.iconst 0, 1) := by decide +kernel
theorem dX7_reach_28 : decode cX7_reach 28 = .ok (.ireturn, 1) := by decide +kernel
theorem dX7_part_0 : decode cX7_part 0 = .ok (.aload_n 0, 1) := by decide +kernel
theorem dX7_part_1 : decode cX7_part 1 = .ok (.iload_n 1, 1) := by decide +kernel
theorem dX7_part_2 : decode cX7_part 2 = .ok (.invokevirtual 26, 3) := by decide +kernel
theorem dX7_part_5 : decode cX7_part 5 = .ok (.aload_n 0, 1) := by decide +kernel
theorem dX7_part_6 : decode cX7_part 6 = .ok (.iload_n 2, 1) := by decide +kernel
theorem dX7_part_7 : decode cX7_part 7 = .ok (.invokevirtual 30, 3) := by decide +kernel
theorem dX7_part_10 : decode cX7_part 10 = .ok (.ireturn, 1) := by decide +kernel
theorem dX7_countParts_0 : decode cX7_countParts 0 = .ok (.aload_n 0, 1) := by decide +kernel
theorem dX7_countParts_1 : decode cX7_countParts 1 = .ok (.iload_n 1, 1) := by decide +kernel
theorem dX7_countParts_2 : decode cX7_countParts 2 = .ok (.invokevirtual 26, 3) := by decide +kernel
theorem dX7_countParts_5 : decode cX7_countParts 5 = .ok (.aload_n 0, 1) := by decide +kernel
theorem dX7_countParts_6 : decode cX7_countParts 6 = .ok (.getfield 34, 3) := by decide +kernel
theorem dX7_countParts_9 : decode cX7_countParts 9 = .ok (.ireturn, 1) := by decide +kernel
theorem dX7_distance_0 : decode cX7_distance 0 = .ok (.aload_n 0, 1) := by decide +kernel
theorem dX7_distance_1 : decode cX7_distance 1 = .ok (.iload_n 1, 1) := by decide +kernel
theorem dX7_distance_2 : decode cX7_distance 2 = .ok (.invokevirtual 26, 3) := by decide +kernel
theorem dX7_distance_5 : decode cX7_distance 5 = .ok (.iconst 0, 1) := by decide +kernel
theorem dX7_distance_6 : decode cX7_distance 6 = .ok (.iload_n 3, 1) := by decide +kernel
theorem dX7_distance_7 : decode cX7_distance 7 = .ok (.invokestatic 37, 3) := by decide +kernel
theorem dX7_distance_10 : decode cX7_distance 10 = .ok (.istore 4, 2) := by decide +kernel
theorem dX7_distance_12 : decode cX7_distance 12 = .ok (.iconst 0, 1) := by decide +kernel
theorem dX7_distance_13 : decode cX7_distance 13 = .ok (.istore 5, 2) := by decide +kernel
theorem dX7_distance_15 : decode cX7_distance 15 = .ok (.iload 5, 2) := by decide +kernel
theorem dX7_distance_17 : decode cX7_distance 17 = .ok (.bipush 20, 2) := by decide +kernel
theorem dX7_distance_19 : decode cX7_distance 19 = .ok (.if_icmp .gt 32, 3) := by decide +kernel
theorem dX7_distance_22 : decode cX7_distance 22 = .ok (.iload 4, 2) := by decide +kernel
theorem dX7_distance_24 : decode cX7_distance 24 = .ok (.iload_n 2, 1) := by decide +kernel
theorem dX7_distance_25 : decode cX7_distance 25 = .ok (.invokestatic 41, 3) := by decide +kernel
theorem dX7_distance_28 : decode cX7_distance 28 = .ok (.ifCond .eq 6, 3) := by decide +kernel
theorem dX7_distance_31 : decode cX7_distance 31 = .ok (.iload 5, 2) := by decide +kernel
theorem dX7_distance_33 : decode cX7_distance 33 = .ok (.ireturn, 1) := by decide +kernel
theorem dX7_distance_34 : decode cX7_distance 34 = .ok (.iload 4, 2) := by decide +kernel
theorem dX7_distance_36 : decode cX7_distance 36 = .ok (.aload_n 0, 1) := by decide +kernel
theorem dX7_distance_37 : decode cX7_distance 37 = .ok (.iload 4, 2) := by decide +kernel
theorem dX7_distance_39 : decode cX7_distance 39 = .ok (.invokevirtual 45, 3) := by decide +kernel
theorem dX7_distance_42 : decode cX7_distance 42 = .ok (.ior, 1) := by decide +kernel
theorem dX7_distance_43 : decode cX7_distance 43 = .ok (.istore 4, 2) := by decide +kernel
theorem dX7_distance_45 : decode cX7_distance 45 = .ok (.iinc 5 1, 3) := by decide +kernel
theorem dX7_distance_48 : decode cX7_distance 48 = .ok (.goto (-33), 3) := by decide +kernel
theorem dX7_distance_51 : decode cX7_distance 51 = .ok (.iconst (-1), 1) := by decide +kernel
theorem dX7_distance_52 : decode cX7_distance 52 = .ok (.ireturn, 1) := by decide +kernel
theorem dX7_afterOneStep_0 : decode cX7_afterOneStep 0 = .ok (.iconst 0, 1) := by decide +kernel
theorem dX7_afterOneStep_1 : decode cX7_afterOneStep 1 = .ok (.istore_n 2, 1) := by decide +kernel
theorem dX7_afterOneStep_2 : decode cX7_afterOneStep 2 = .ok (.iconst 0, 1) := by decide +kernel
theorem dX7_afterOneStep_3 : decode cX7_afterOneStep 3 = .ok (.istore_n 3, 1) := by decide +kernel
theorem dX7_afterOneStep_4 : decode cX7_afterOneStep 4 = .ok (.iload_n 3, 1) := by decide +kernel
theorem dX7_afterOneStep_5 : decode cX7_afterOneStep 5 = .ok (.aload_n 0, 1) := by decide +kernel
theorem dX7_afterOneStep_6 : decode cX7_afterOneStep 6 = .ok (.getfield 48, 3) := by decide +kernel
theorem dX7_afterOneStep_9 : decode cX7_afterOneStep 9 = .ok (.if_icmp .ge 35, 3) := by decide +kernel
theorem dX7_afterOneStep_12 : decode cX7_afterOneStep 12 = .ok (.iload_n 3, 1) := by decide +kernel
theorem dX7_afterOneStep_13 : decode cX7_afterOneStep 13 = .ok (.aload_n 0, 1) := by decide +kernel
theorem dX7_afterOneStep_14 : decode cX7_afterOneStep 14 = .ok (.getfield 9, 3) := by decide +kernel
theorem dX7_afterOneStep_17 : decode cX7_afterOneStep 17 = .ok (.arraylength, 1) := by decide +kernel
theorem dX7_afterOneStep_18 : decode cX7_afterOneStep 18 = .ok (.if_icmp .ge 26, 3) := by decide +kernel
theorem dX7_afterOneStep_21 : decode cX7_afterOneStep 21 = .ok (.iload_n 1, 1) := by decide +kernel
theorem dX7_afterOneStep_22 : decode cX7_afterOneStep 22 = .ok (.iload_n 3, 1) := by decide +kernel
theorem dX7_afterOneStep_23 : decode cX7_afterOneStep 23 = .ok (.invokestatic 41, 3) := by decide +kernel
theorem dX7_afterOneStep_26 : decode cX7_afterOneStep 26 = .ok (.ifCond .eq 12, 3) := by decide +kernel
theorem dX7_afterOneStep_29 : decode cX7_afterOneStep 29 = .ok (.iload_n 2, 1) := by decide +kernel
theorem dX7_afterOneStep_30 : decode cX7_afterOneStep 30 = .ok (.aload_n 0, 1) := by decide +kernel
theorem dX7_afterOneStep_31 : decode cX7_afterOneStep 31 = .ok (.getfield 9, 3) := by decide +kernel
theorem dX7_afterOneStep_34 : decode cX7_afterOneStep 34 = .ok (.iload_n 3, 1) := by decide +kernel
theorem dX7_afterOneStep_35 : decode cX7_afterOneStep 35 = .ok (.iaload, 1) := by decide +kernel
theorem dX7_afterOneStep_36 : decode cX7_afterOneStep 36 = .ok (.ior, 1) := by decide +kernel
theorem dX7_afterOneStep_37 : decode cX7_afterOneStep 37 = .ok (.istore_n 2, 1) := by decide +kernel
theorem dX7_afterOneStep_38 : decode cX7_afterOneStep 38 = .ok (.iinc 3 1, 3) := by decide +kernel
theorem dX7_afterOneStep_41 : decode cX7_afterOneStep 41 = .ok (.goto (-37), 3) := by decide +kernel
theorem dX7_afterOneStep_44 : decode cX7_afterOneStep 44 = .ok (.iload_n 2, 1) := by decide +kernel
theorem dX7_afterOneStep_45 : decode cX7_afterOneStep 45 = .ok (.ireturn, 1) := by decide +kernel
theorem dX7_look_0 : decode cX7_look 0 = .ok (.iload_n 1, 1) := by decide +kernel
theorem dX7_look_1 : decode cX7_look 1 = .ok (.aload_n 0, 1) := by decide +kernel
theorem dX7_look_2 : decode cX7_look 2 = .ok (.getfield 18, 3) := by decide +kernel
theorem dX7_look_5 : decode cX7_look 5 = .ok (.if_icmp .ne 4, 3) := by decide +kernel
theorem dX7_look_8 : decode cX7_look 8 = .ok (.return_, 1) := by decide +kernel
theorem dX7_look_9 : decode cX7_look 9 = .ok (.aload_n 0, 1) := by decide +kernel
theorem dX7_look_10 : decode cX7_look 10 = .ok (.iload_n 1, 1) := by decide +kernel
theorem dX7_look_11 : decode cX7_look 11 = .ok (.putfield 18, 3) := by decide +kernel
theorem dX7_look_14 : decode cX7_look 14 = .ok (.aload_n 0, 1) := by decide +kernel
theorem dX7_look_15 : decode cX7_look 15 = .ok (.iconst 2, 1) := by decide +kernel
theorem dX7_look_16 : decode cX7_look 16 = .ok (.aload_n 0, 1) := by decide +kernel
theorem dX7_look_17 : decode cX7_look 17 = .ok (.getfield 22, 3) := by decide +kernel
theorem dX7_look_20 : decode cX7_look 20 = .ok (.getfield 51, 3) := by decide +kernel
theorem dX7_look_23 : decode cX7_look 23 = .ok (.imul, 1) := by decide +kernel
theorem dX7_look_24 : decode cX7_look 24 = .ok (.putfield 48, 3) := by decide +kernel
theorem dX7_look_27 : decode cX7_look 27 = .ok (.iconst 0, 1) := by decide +kernel
theorem dX7_look_28 : decode cX7_look 28 = .ok (.istore_n 2, 1) := by decide +kernel
theorem dX7_look_29 : decode cX7_look 29 = .ok (.iload_n 2, 1) := by decide +kernel
theorem dX7_look_30 : decode cX7_look 30 = .ok (.aload_n 0, 1) := by decide +kernel
theorem dX7_look_31 : decode cX7_look 31 = .ok (.getfield 48, 3) := by decide +kernel
theorem dX7_look_34 : decode cX7_look 34 = .ok (.if_icmp .ge 25, 3) := by decide +kernel
theorem dX7_look_37 : decode cX7_look 37 = .ok (.iload_n 2, 1) := by decide +kernel
theorem dX7_look_38 : decode cX7_look 38 = .ok (.aload_n 0, 1) := by decide +kernel
theorem dX7_look_39 : decode cX7_look 39 = .ok (.getfield 9, 3) := by decide +kernel
theorem dX7_look_42 : decode cX7_look 42 = .ok (.arraylength, 1) := by decide +kernel
theorem dX7_look_43 : decode cX7_look 43 = .ok (.if_icmp .ge 16, 3) := by decide +kernel
theorem dX7_look_46 : decode cX7_look 46 = .ok (.aload_n 0, 1) := by decide +kernel
theorem dX7_look_47 : decode cX7_look 47 = .ok (.getfield 9, 3) := by decide +kernel
theorem dX7_look_50 : decode cX7_look 50 = .ok (.iload_n 2, 1) := by decide +kernel
theorem dX7_look_51 : decode cX7_look 51 = .ok (.iconst 0, 1) := by decide +kernel
theorem dX7_look_52 : decode cX7_look 52 = .ok (.iastore, 1) := by decide +kernel
theorem dX7_look_53 : decode cX7_look 53 = .ok (.iinc 2 1, 3) := by decide +kernel
theorem dX7_look_56 : decode cX7_look 56 = .ok (.goto (-27), 3) := by decide +kernel
theorem dX7_look_59 : decode cX7_look 59 = .ok (.iconst 0, 1) := by decide +kernel
theorem dX7_look_60 : decode cX7_look 60 = .ok (.istore_n 2, 1) := by decide +kernel
theorem dX7_look_61 : decode cX7_look 61 = .ok (.iload_n 2, 1) := by decide +kernel
theorem dX7_look_62 : decode cX7_look 62 = .ok (.aload_n 0, 1) := by decide +kernel
theorem dX7_look_63 : decode cX7_look 63 = .ok (.getfield 22, 3) := by decide +kernel
theorem dX7_look_66 : decode cX7_look 66 = .ok (.getfield 56, 3) := by decide +kernel
theorem dX7_look_69 : decode cX7_look 69 = .ok (.if_icmp .ge 61, 3) := by decide +kernel
theorem dX7_look_72 : decode cX7_look 72 = .ok (.iload_n 1, 1) := by decide +kernel
theorem dX7_look_73 : decode cX7_look 73 = .ok (.iload_n 2, 1) := by decide +kernel
theorem dX7_look_74 : decode cX7_look 74 = .ok (.invokestatic 41, 3) := by decide +kernel
theorem dX7_look_77 : decode cX7_look 77 = .ok (.ifCond .eq 47, 3) := by decide +kernel
theorem dX7_look_80 : decode cX7_look 80 = .ok (.aload_n 0, 1) := by decide +kernel
theorem dX7_look_81 : decode cX7_look 81 = .ok (.aload_n 0, 1) := by decide +kernel
theorem dX7_look_82 : decode cX7_look 82 = .ok (.getfield 22, 3) := by decide +kernel
theorem dX7_look_85 : decode cX7_look 85 = .ok (.iload_n 2, 1) := by decide +kernel
theorem dX7_look_86 : decode cX7_look 86 = .ok (.invokevirtual 59, 3) := by decide +kernel
theorem dX7_look_89 : decode cX7_look 89 = .ok (.iconst 1, 1) := by decide +kernel
theorem dX7_look_90 : decode cX7_look 90 = .ok (.ixor, 1) := by decide +kernel
theorem dX7_look_91 : decode cX7_look 91 = .ok (.aload_n 0, 1) := by decide +kernel
theorem dX7_look_92 : decode cX7_look 92 = .ok (.getfield 22, 3) := by decide +kernel
theorem dX7_look_95 : decode cX7_look 95 = .ok (.iload_n 2, 1) := by decide +kernel
theorem dX7_look_96 : decode cX7_look 96 = .ok (.invokevirtual 62, 3) := by decide +kernel
theorem dX7_look_99 : decode cX7_look 99 = .ok (.invokevirtual 65, 3) := by decide +kernel
theorem dX7_look_102 : decode cX7_look 102 = .ok (.aload_n 0, 1) := by decide +kernel
theorem dX7_look_103 : decode cX7_look 103 = .ok (.aload_n 0, 1) := by decide +kernel
theorem dX7_look_104 : decode cX7_look 104 = .ok (.getfield 22, 3) := by decide +kernel
theorem dX7_look_107 : decode cX7_look 107 = .ok (.iload_n 2, 1) := by decide +kernel
theorem dX7_look_108 : decode cX7_look 108 = .ok (.invokevirtual 62, 3) := by decide +kernel
theorem dX7_look_111 : decode cX7_look 111 = .ok (.iconst 1, 1) := by decide +kernel
theorem dX7_look_112 : decode cX7_look 112 = .ok (.ixor, 1) := by decide +kernel
theorem dX7_look_113 : decode cX7_look 113 = .ok (.aload_n 0, 1) := by decide +kernel
theorem dX7_look_114 : decode cX7_look 114 = .ok (.getfield 22, 3) := by decide +kernel
theorem dX7_look_117 : decode cX7_look 117 = .ok (.iload_n 2, 1) := by decide +kernel
theorem dX7_look_118 : decode cX7_look 118 = .ok (.invokevirtual 59, 3) := by decide +kernel
theorem dX7_look_121 : decode cX7_look 121 = .ok (.invokevirtual 65, 3) := by decide +kernel
theorem dX7_look_124 : decode cX7_look 124 = .ok (.iinc 2 1, 3) := by decide +kernel
theorem dX7_look_127 : decode cX7_look 127 = .ok (.goto (-66), 3) := by decide +kernel
theorem dX7_look_130 : decode cX7_look 130 = .ok (.aload_n 0, 1) := by decide +kernel
theorem dX7_look_131 : decode cX7_look 131 = .ok (.invokevirtual 69, 3) := by decide +kernel
theorem dX7_look_134 : decode cX7_look 134 = .ok (.aload_n 0, 1) := by decide +kernel
theorem dX7_look_135 : decode cX7_look 135 = .ok (.iconst 0, 1) := by decide +kernel
theorem dX7_look_136 : decode cX7_look 136 = .ok (.putfield 34, 3) := by decide +kernel
theorem dX7_look_139 : decode cX7_look 139 = .ok (.iconst 0, 1) := by decide +kernel
theorem dX7_look_140 : decode cX7_look 140 = .ok (.istore_n 2, 1) := by decide +kernel
theorem dX7_look_141 : decode cX7_look 141 = .ok (.iload_n 2, 1) := by decide +kernel
theorem dX7_look_142 : decode cX7_look 142 = .ok (.aload_n 0, 1) := by decide +kernel
theorem dX7_look_143 : decode cX7_look 143 = .ok (.getfield 48, 3) := by decide +kernel
theorem dX7_look_146 : decode cX7_look 146 = .ok (.if_icmp .ge 31, 3) := by decide +kernel
theorem dX7_look_149 : decode cX7_look 149 = .ok (.aload_n 0, 1) := by decide +kernel
theorem dX7_look_150 : decode cX7_look 150 = .ok (.iload_n 2, 1) := by decide +kernel
theorem dX7_look_151 : decode cX7_look 151 = .ok (.invokevirtual 30, 3) := by decide +kernel
theorem dX7_look_154 : decode cX7_look 154 = .ok (.invokestatic 72, 3) := by decide +kernel
theorem dX7_look_157 : decode cX7_look 157 = .ok (.iload_n 2, 1) := by decide +kernel
theorem dX7_look_158 : decode cX7_look 158 = .ok (.if_icmp .ne 13, 3) := by decide +kernel
theorem dX7_look_161 : decode cX7_look 161 = .ok (.aload_n 0, 1) := by decide +kernel
theorem dX7_look_162 : decode cX7_look 162 = .ok (.dup, 1) := by decide +kernel
theorem dX7_look_163 : decode cX7_look 163 = .ok (.getfield 34, 3) := by decide +kernel
theorem dX7_look_166 : decode cX7_look 166 = .ok (.iconst 1, 1) := by decide +kernel
theorem dX7_look_167 : decode cX7_look 167 = .ok (.iadd, 1) := by decide +kernel
theorem dX7_look_168 : decode cX7_look 168 = .ok (.putfield 34, 3) := by decide +kernel
theorem dX7_look_171 : decode cX7_look 171 = .ok (.iinc 2 1, 3) := by decide +kernel
theorem dX7_look_174 : decode cX7_look 174 = .ok (.goto (-33), 3) := by decide +kernel
theorem dX7_look_177 : decode cX7_look 177 = .ok (.return_, 1) := by decide +kernel
theorem dX7_together_0 : decode cX7_together 0 = .ok (.iconst 0, 1) := by decide +kernel
theorem dX7_together_1 : decode cX7_together 1 = .ok (.istore_n 2, 1) := by decide +kernel
theorem dX7_together_2 : decode cX7_together 2 = .ok (.iconst 0, 1) := by decide +kernel
theorem dX7_together_3 : decode cX7_together 3 = .ok (.istore_n 3, 1) := by decide +kernel
theorem dX7_together_4 : decode cX7_together 4 = .ok (.iload_n 3, 1) := by decide +kernel
theorem dX7_together_5 : decode cX7_together 5 = .ok (.aload_n 0, 1) := by decide +kernel
theorem dX7_together_6 : decode cX7_together 6 = .ok (.getfield 48, 3) := by decide +kernel
theorem dX7_together_9 : decode cX7_together 9 = .ok (.if_icmp .ge 63, 3) := by decide +kernel
theorem dX7_together_12 : decode cX7_together 12 = .ok (.iload_n 3, 1) := by decide +kernel
theorem dX7_together_13 : decode cX7_together 13 = .ok (.aload_n 0, 1) := by decide +kernel
theorem dX7_together_14 : decode cX7_together 14 = .ok (.getfield 15, 3) := by decide +kernel
theorem dX7_together_17 : decode cX7_together 17 = .ok (.arraylength, 1) := by decide +kernel
theorem dX7_together_18 : decode cX7_together 18 = .ok (.if_icmp .ge 54, 3) := by decide +kernel
theorem dX7_together_21 : decode cX7_together 21 = .ok (.aload_n 0, 1) := by decide +kernel
theorem dX7_together_22 : decode cX7_together 22 = .ok (.getfield 15, 3) := by decide +kernel
theorem dX7_together_25 : decode cX7_together 25 = .ok (.iload_n 3, 1) := by decide +kernel
theorem dX7_together_26 : decode cX7_together 26 = .ok (.iaload, 1) := by decide +kernel
theorem dX7_together_27 : decode cX7_together 27 = .ok (.iload_n 1, 1) := by decide +kernel
theorem dX7_together_28 : decode cX7_together 28 = .ok (.invokestatic 41, 3) := by decide +kernel
theorem dX7_together_31 : decode cX7_together 31 = .ok (.ifCond .eq 35, 3) := by decide +kernel
theorem dX7_together_34 : decode cX7_together 34 = .ok (.iload_n 1, 1) := by decide +kernel
theorem dX7_together_35 : decode cX7_together 35 = .ok (.ifCond .lt 31, 3) := by decide +kernel
theorem dX7_together_38 : decode cX7_together 38 = .ok (.iload_n 1, 1) := by decide +kernel
theorem dX7_together_39 : decode cX7_together 39 = .ok (.aload_n 0, 1) := by decide +kernel
theorem dX7_together_40 : decode cX7_together 40 = .ok (.getfield 15, 3) := by decide +kernel
theorem dX7_together_43 : decode cX7_together 43 = .ok (.arraylength, 1) := by decide +kernel
theorem dX7_together_44 : decode cX7_together 44 = .ok (.if_icmp .ge 22, 3) := by decide +kernel
theorem dX7_together_47 : decode cX7_together 47 = .ok (.aload_n 0, 1) := by decide +kernel
theorem dX7_together_48 : decode cX7_together 48 = .ok (.getfield 15, 3) := by decide +kernel
theorem dX7_together_51 : decode cX7_together 51 = .ok (.iload_n 1, 1) := by decide +kernel
theorem dX7_together_52 : decode cX7_together 52 = .ok (.iaload, 1) := by decide +kernel
theorem dX7_together_53 : decode cX7_together 53 = .ok (.iload_n 3, 1) := by decide +kernel
theorem dX7_together_54 : decode cX7_together 54 = .ok (.invokestatic 41, 3) := by decide +kernel
theorem dX7_together_57 : decode cX7_together 57 = .ok (.ifCond .eq 9, 3) := by decide +kernel
theorem dX7_together_60 : decode cX7_together 60 = .ok (.iload_n 2, 1) := by decide +kernel
theorem dX7_together_61 : decode cX7_together 61 = .ok (.iload_n 3, 1) := by decide +kernel
theorem dX7_together_62 : decode cX7_together 62 = .ok (.invokestatic 37, 3) := by decide +kernel
theorem dX7_together_65 : decode cX7_together 65 = .ok (.istore_n 2, 1) := by decide +kernel
theorem dX7_together_66 : decode cX7_together 66 = .ok (.iinc 3 1, 3) := by decide +kernel
theorem dX7_together_69 : decode cX7_together 69 = .ok (.goto (-65), 3) := by decide +kernel
theorem dX7_together_72 : decode cX7_together 72 = .ok (.iload_n 2, 1) := by decide +kernel
theorem dX7_together_73 : decode cX7_together 73 = .ok (.ireturn, 1) := by decide +kernel
theorem dX7_addStep_0 : decode cX7_addStep 0 = .ok (.iload_n 1, 1) := by decide +kernel
theorem dX7_addStep_1 : decode cX7_addStep 1 = .ok (.ifCond .lt 28, 3) := by decide +kernel
theorem dX7_addStep_4 : decode cX7_addStep 4 = .ok (.iload_n 1, 1) := by decide +kernel
theorem dX7_addStep_5 : decode cX7_addStep 5 = .ok (.aload_n 0, 1) := by decide +kernel
theorem dX7_addStep_6 : decode cX7_addStep 6 = .ok (.getfield 9, 3) := by decide +kernel
theorem dX7_addStep_9 : decode cX7_addStep 9 = .ok (.arraylength, 1) := by decide +kernel
theorem dX7_addStep_10 : decode cX7_addStep 10 = .ok (.if_icmp .ge 19, 3) := by decide +kernel
theorem dX7_addStep_13 : decode cX7_addStep 13 = .ok (.aload_n 0, 1) := by decide +kernel
theorem dX7_addStep_14 : decode cX7_addStep 14 = .ok (.getfield 9, 3) := by decide +kernel
theorem dX7_addStep_17 : decode cX7_addStep 17 = .ok (.iload_n 1, 1) := by decide +kernel
theorem dX7_addStep_18 : decode cX7_addStep 18 = .ok (.aload_n 0, 1) := by decide +kernel
theorem dX7_addStep_19 : decode cX7_addStep 19 = .ok (.getfield 9, 3) := by decide +kernel
theorem dX7_addStep_22 : decode cX7_addStep 22 = .ok (.iload_n 1, 1) := by decide +kernel
theorem dX7_addStep_23 : decode cX7_addStep 23 = .ok (.iaload, 1) := by decide +kernel
theorem dX7_addStep_24 : decode cX7_addStep 24 = .ok (.iload_n 2, 1) := by decide +kernel
theorem dX7_addStep_25 : decode cX7_addStep 25 = .ok (.invokestatic 37, 3) := by decide +kernel
theorem dX7_addStep_28 : decode cX7_addStep 28 = .ok (.iastore, 1) := by decide +kernel
theorem dX7_addStep_29 : decode cX7_addStep 29 = .ok (.return_, 1) := by decide +kernel
theorem dX7_close_0 : decode cX7_close 0 = .ok (.aload_n 0, 1) := by decide +kernel
theorem dX7_close_1 : decode cX7_close 1 = .ok (.getfield 48, 3) := by decide +kernel
theorem dX7_close_4 : decode cX7_close 4 = .ok (.aload_n 0, 1) := by decide +kernel
theorem dX7_close_5 : decode cX7_close 5 = .ok (.getfield 9, 3) := by decide +kernel
theorem dX7_close_8 : decode cX7_close 8 = .ok (.arraylength, 1) := by decide +kernel
theorem dX7_close_9 : decode cX7_close 9 = .ok (.aload_n 0, 1) := by decide +kernel
theorem dX7_close_10 : decode cX7_close 10 = .ok (.getfield 15, 3) := by decide +kernel
theorem dX7_close_13 : decode cX7_close 13 = .ok (.arraylength, 1) := by decide +kernel
theorem dX7_close_14 : decode cX7_close 14 = .ok (.invokestatic 75, 3) := by decide +kernel
theorem dX7_close_17 : decode cX7_close 17 = .ok (.invokestatic 75, 3) := by decide +kernel
theorem dX7_close_20 : decode cX7_close 20 = .ok (.istore_n 1, 1) := by decide +kernel
theorem dX7_close_21 : decode cX7_close 21 = .ok (.iconst 0, 1) := by decide +kernel
theorem dX7_close_22 : decode cX7_close 22 = .ok (.istore_n 2, 1) := by decide +kernel
theorem dX7_close_23 : decode cX7_close 23 = .ok (.iload_n 2, 1) := by decide +kernel
theorem dX7_close_24 : decode cX7_close 24 = .ok (.iload_n 1, 1) := by decide +kernel
theorem dX7_close_25 : decode cX7_close 25 = .ok (.if_icmp .ge 25, 3) := by decide +kernel
theorem dX7_close_28 : decode cX7_close 28 = .ok (.aload_n 0, 1) := by decide +kernel
theorem dX7_close_29 : decode cX7_close 29 = .ok (.getfield 15, 3) := by decide +kernel
theorem dX7_close_32 : decode cX7_close 32 = .ok (.iload_n 2, 1) := by decide +kernel
theorem dX7_close_33 : decode cX7_close 33 = .ok (.aload_n 0, 1) := by decide +kernel
theorem dX7_close_34 : decode cX7_close 34 = .ok (.getfield 9, 3) := by decide +kernel
theorem dX7_close_37 : decode cX7_close 37 = .ok (.iload_n 2, 1) := by decide +kernel
theorem dX7_close_38 : decode cX7_close 38 = .ok (.iaload, 1) := by decide +kernel
theorem dX7_close_39 : decode cX7_close 39 = .ok (.iload_n 2, 1) := by decide +kernel
theorem dX7_close_40 : decode cX7_close 40 = .ok (.invokestatic 37, 3) := by decide +kernel
theorem dX7_close_43 : decode cX7_close 43 = .ok (.iastore, 1) := by decide +kernel
theorem dX7_close_44 : decode cX7_close 44 = .ok (.iinc 2 1, 3) := by decide +kernel
theorem dX7_close_47 : decode cX7_close 47 = .ok (.goto (-24), 3) := by decide +kernel
theorem dX7_close_50 : decode cX7_close 50 = .ok (.iconst 0, 1) := by decide +kernel
theorem dX7_close_51 : decode cX7_close 51 = .ok (.istore_n 2, 1) := by decide +kernel
theorem dX7_close_52 : decode cX7_close 52 = .ok (.iload_n 2, 1) := by decide +kernel
theorem dX7_close_53 : decode cX7_close 53 = .ok (.iload_n 1, 1) := by decide +kernel
theorem dX7_close_54 : decode cX7_close 54 = .ok (.if_icmp .ge 50, 3) := by decide +kernel
theorem dX7_close_57 : decode cX7_close 57 = .ok (.iconst 0, 1) := by decide +kernel
theorem dX7_close_58 : decode cX7_close 58 = .ok (.istore_n 3, 1) := by decide +kernel
theorem dX7_close_59 : decode cX7_close 59 = .ok (.iload_n 3, 1) := by decide +kernel
theorem dX7_close_60 : decode cX7_close 60 = .ok (.iload_n 1, 1) := by decide +kernel
theorem dX7_close_61 : decode cX7_close 61 = .ok (.if_icmp .ge 37, 3) := by decide +kernel
theorem dX7_close_64 : decode cX7_close 64 = .ok (.aload_n 0, 1) := by decide +kernel
theorem dX7_close_65 : decode cX7_close 65 = .ok (.getfield 15, 3) := by decide +kernel
theorem dX7_close_68 : decode cX7_close 68 = .ok (.iload_n 3, 1) := by decide +kernel
theorem dX7_close_69 : decode cX7_close 69 = .ok (.iaload, 1) := by decide +kernel
theorem dX7_close_70 : decode cX7_close 70 = .ok (.iload_n 2, 1) := by decide +kernel
theorem dX7_close_71 : decode cX7_close 71 = .ok (.invokestatic 41, 3) := by decide +kernel
theorem dX7_close_74 : decode cX7_close 74 = .ok (.ifCond .eq 18, 3) := by decide +kernel
theorem dX7_close_77 : decode cX7_close 77 = .ok (.aload_n 0, 1) := by decide +kernel
theorem dX7_close_78 : decode cX7_close 78 = .ok (.getfield 15, 3) := by decide +kernel
theorem dX7_close_81 : decode cX7_close 81 = .ok (.iload_n 3, 1) := by decide +kernel
theorem dX7_close_82 : decode cX7_close 82 = .ok (.dup2, 1) := by decide +kernel
theorem dX7_close_83 : decode cX7_close 83 = .ok (.iaload, 1) := by decide +kernel
theorem dX7_close_84 : decode cX7_close 84 = .ok (.aload_n 0, 1) := by decide +kernel
theorem dX7_close_85 : decode cX7_close 85 = .ok (.getfield 15, 3) := by decide +kernel
theorem dX7_close_88 : decode cX7_close 88 = .ok (.iload_n 2, 1) := by decide +kernel
theorem dX7_close_89 : decode cX7_close 89 = .ok (.iaload, 1) := by decide +kernel
theorem dX7_close_90 : decode cX7_close 90 = .ok (.ior, 1) := by decide +kernel
theorem dX7_close_91 : decode cX7_close 91 = .ok (.iastore, 1) := by decide +kernel
theorem dX7_close_92 : decode cX7_close 92 = .ok (.iinc 3 1, 3) := by decide +kernel
theorem dX7_close_95 : decode cX7_close 95 = .ok (.goto (-36), 3) := by decide +kernel
theorem dX7_close_98 : decode cX7_close 98 = .ok (.iinc 2 1, 3) := by decide +kernel
theorem dX7_close_101 : decode cX7_close 101 = .ok (.goto (-49), 3) := by decide +kernel
theorem dX7_close_104 : decode cX7_close 104 = .ok (.return_, 1) := by decide +kernel
theorem dX8_init_0 : decode cX8_init 0 = .ok (.aload_n 0, 1) := by decide +kernel
theorem dX8_init_1 : decode cX8_init 1 = .ok (.invokespecial 3, 3) := by decide +kernel
theorem dX8_init_4 : decode cX8_init 4 = .ok (.aload_n 0, 1) := by decide +kernel
theorem dX8_init_5 : decode cX8_init 5 = .ok (.new 9, 3) := by decide +kernel
theorem dX8_init_8 : decode cX8_init 8 = .ok (.dup, 1) := by decide +kernel
theorem dX8_init_9 : decode cX8_init 9 = .ok (.invokespecial 11, 3) := by decide +kernel
theorem dX8_init_12 : decode cX8_init 12 = .ok (.putfield 12, 3) := by decide +kernel
theorem dX8_init_15 : decode cX8_init 15 = .ok (.aload_n 0, 1) := by decide +kernel
theorem dX8_init_16 : decode cX8_init 16 = .ok (.new 16, 3) := by decide +kernel
theorem dX8_init_19 : decode cX8_init 19 = .ok (.dup, 1) := by decide +kernel
theorem dX8_init_20 : decode cX8_init 20 = .ok (.invokespecial 18, 3) := by decide +kernel
theorem dX8_init_23 : decode cX8_init 23 = .ok (.putfield 19, 3) := by decide +kernel
theorem dX8_init_26 : decode cX8_init 26 = .ok (.aload_n 0, 1) := by decide +kernel
theorem dX8_init_27 : decode cX8_init 27 = .ok (.new 23, 3) := by decide +kernel
theorem dX8_init_30 : decode cX8_init 30 = .ok (.dup, 1) := by decide +kernel
theorem dX8_init_31 : decode cX8_init 31 = .ok (.invokespecial 25, 3) := by decide +kernel
theorem dX8_init_34 : decode cX8_init 34 = .ok (.putfield 26, 3) := by decide +kernel
theorem dX8_init_37 : decode cX8_init 37 = .ok (.aload_n 0, 1) := by decide +kernel
theorem dX8_init_38 : decode cX8_init 38 = .ok (.new 23, 3) := by decide +kernel
theorem dX8_init_41 : decode cX8_init 41 = .ok (.dup, 1) := by decide +kernel
theorem dX8_init_42 : decode cX8_init 42 = .ok (.invokespecial 25, 3) := by decide +kernel
theorem dX8_init_45 : decode cX8_init 45 = .ok (.putfield 30, 3) := by decide +kernel
theorem dX8_init_48 : decode cX8_init 48 = .ok (.aload_n 0, 1) := by decide +kernel
theorem dX8_init_49 : decode cX8_init 49 = .ok (.new 33, 3) := by decide +kernel
theorem dX8_init_52 : decode cX8_init 52 = .ok (.dup, 1) := by decide +kernel
theorem dX8_init_53 : decode cX8_init 53 = .ok (.aload_n 0, 1) := by decide +kernel
theorem dX8_init_54 : decode cX8_init 54 = .ok (.getfield 19, 3) := by decide +kernel
theorem dX8_init_57 : decode cX8_init 57 = .ok (.aload_n 0, 1) := by decide +kernel
theorem dX8_init_58 : decode cX8_init 58 = .ok (.getfield 26, 3) := by decide +kernel
theorem dX8_init_61 : decode cX8_init 61 = .ok (.invokespecial 35, 3) := by decide +kernel
theorem dX8_init_64 : decode cX8_init 64 = .ok (.putfield 38, 3) := by decide +kernel
theorem dX8_init_67 : decode cX8_init 67 = .ok (.aload_n 0, 1) := by decide +kernel
theorem dX8_init_68 : decode cX8_init 68 = .ok (.new 42, 3) := by decide +kernel
theorem dX8_init_71 : decode cX8_init 71 = .ok (.dup, 1) := by decide +kernel
theorem dX8_init_72 : decode cX8_init 72 = .ok (.aload_n 0, 1) := by decide +kernel
theorem dX8_init_73 : decode cX8_init 73 = .ok (.getfield 30, 3) := by decide +kernel
theorem dX8_init_76 : decode cX8_init 76 = .ok (.invokespecial 44, 3) := by decide +kernel
theorem dX8_init_79 : decode cX8_init 79 = .ok (.putfield 47, 3) := by decide +kernel
theorem dX8_init_82 : decode cX8_init 82 = .ok (.aload_n 0, 1) := by decide +kernel
theorem dX8_init_83 : decode cX8_init 83 = .ok (.new 51, 3) := by decide +kernel
theorem dX8_init_86 : decode cX8_init 86 = .ok (.dup, 1) := by decide +kernel
theorem dX8_init_87 : decode cX8_init 87 = .ok (.aload_n 0, 1) := by decide +kernel
theorem dX8_init_88 : decode cX8_init 88 = .ok (.getfield 30, 3) := by decide +kernel
theorem dX8_init_91 : decode cX8_init 91 = .ok (.invokespecial 53, 3) := by decide +kernel
theorem dX8_init_94 : decode cX8_init 94 = .ok (.putfield 54, 3) := by decide +kernel
theorem dX8_init_97 : decode cX8_init 97 = .ok (.aload_n 0, 1) := by decide +kernel
theorem dX8_init_98 : decode cX8_init 98 = .ok (.new 58, 3) := by decide +kernel
theorem dX8_init_101 : decode cX8_init 101 = .ok (.dup, 1) := by decide +kernel
theorem dX8_init_102 : decode cX8_init 102 = .ok (.aload_n 0, 1) := by decide +kernel
theorem dX8_init_103 : decode cX8_init 103 = .ok (.getfield 30, 3) := by decide +kernel
theorem dX8_init_106 : decode cX8_init 106 = .ok (.aload_n 0, 1) := by decide +kernel
theorem dX8_init_107 : decode cX8_init 107 = .ok (.getfield 47, 3) := by decide +kernel
theorem dX8_init_110 : decode cX8_init 110 = .ok (.aload_n 0, 1) := by decide +kernel
theorem dX8_init_111 : decode cX8_init 111 = .ok (.getfield 54, 3) := by decide +kernel
theorem dX8_init_114 : decode cX8_init 114 = .ok (.invokespecial 60, 3) := by decide +kernel
theorem dX8_init_117 : decode cX8_init 117 = .ok (.putfield 63, 3) := by decide +kernel
theorem dX8_init_120 : decode cX8_init 120 = .ok (.aload_n 0, 1) := by decide +kernel
theorem dX8_init_121 : decode cX8_init 121 = .ok (.new 67, 3) := by decide +kernel
theorem dX8_init_124 : decode cX8_init 124 = .ok (.dup, 1) := by decide +kernel
theorem dX8_init_125 : decode cX8_init 125 = .ok (.invokespecial 69, 3) := by decide +kernel
theorem dX8_init_128 : decode cX8_init 128 = .ok (.putfield 70, 3) := by decide +kernel
theorem dX8_init_131 : decode cX8_init 131 = .ok (.aload_n 0, 1) := by decide +kernel
theorem dX8_init_132 : decode cX8_init 132 = .ok (.new 67, 3) := by decide +kernel
theorem dX8_init_135 : decode cX8_init 135 = .ok (.dup, 1) := by decide +kernel
theorem dX8_init_136 : decode cX8_init 136 = .ok (.invokespecial 69, 3) := by decide +kernel
theorem dX8_init_139 : decode cX8_init 139 = .ok (.putfield 74, 3) := by decide +kernel
theorem dX8_init_142 : decode cX8_init 142 = .ok (.aload_n 0, 1) := by decide +kernel
theorem dX8_init_143 : decode cX8_init 143 = .ok (.iconst (-1), 1) := by decide +kernel
theorem dX8_init_144 : decode cX8_init 144 = .ok (.putfield 77, 3) := by decide +kernel
theorem dX8_init_147 : decode cX8_init 147 = .ok (.return_, 1) := by decide +kernel
theorem dX8_feed_0 : decode cX8_feed 0 = .ok (.aload_n 0, 1) := by decide +kernel
theorem dX8_feed_1 : decode cX8_feed 1 = .ok (.getfield 12, 3) := by decide +kernel
theorem dX8_feed_4 : decode cX8_feed 4 = .ok (.getfield 81, 3) := by decide +kernel
theorem dX8_feed_7 : decode cX8_feed 7 = .ok (.sipush 1980, 3) := by decide +kernel
theorem dX8_feed_10 : decode cX8_feed 10 = .ok (.if_icmp .le 13, 3) := by decide +kernel
theorem dX8_feed_13 : decode cX8_feed 13 = .ok (.new 84, 3) := by decide +kernel
theorem dX8_feed_16 : decode cX8_feed 16 = .ok (.dup, 1) := by decide +kernel
theorem dX8_feed_17 : decode cX8_feed 17 = .ok (.ldc 86, 2) := by decide +kernel
theorem dX8_feed_19 : decode cX8_feed 19 = .ok (.invokespecial 88, 3) := by decide +kernel
theorem dX8_feed_22 : decode cX8_feed 22 = .ok (.athrow, 1) := by decide +kernel
theorem dX8_feed_23 : decode cX8_feed 23 = .ok (.aload_n 0, 1) := by decide +kernel
theorem dX8_feed_24 : decode cX8_feed 24 = .ok (.getfield 12, 3) := by decide +kernel
theorem dX8_feed_27 : decode cX8_feed 27 = .ok (.iload_n 1, 1) := by decide +kernel
theorem dX8_feed_28 : decode cX8_feed 28 = .ok (.invokevirtual 91, 3) := by decide +kernel
theorem dX8_feed_31 : decode cX8_feed 31 = .ok (.aload_n 0, 1) := by decide +kernel
theorem dX8_feed_32 : decode cX8_feed 32 = .ok (.getfield 12, 3) := by decide +kernel
theorem dX8_feed_35 : decode cX8_feed 35 = .ok (.iload_n 2, 1) := by decide +kernel
theorem dX8_feed_36 : decode cX8_feed 36 = .ok (.invokevirtual 91, 3) := by decide +kernel
theorem dX8_feed_39 : decode cX8_feed 39 = .ok (.aload_n 0, 1) := by decide +kernel
theorem dX8_feed_40 : decode cX8_feed 40 = .ok (.getfield 12, 3) := by decide +kernel
theorem dX8_feed_43 : decode cX8_feed 43 = .ok (.iload_n 3, 1) := by decide +kernel
theorem dX8_feed_44 : decode cX8_feed 44 = .ok (.invokevirtual 91, 3) := by decide +kernel
theorem dX8_feed_47 : decode cX8_feed 47 = .ok (.aload_n 0, 1) := by decide +kernel
theorem dX8_feed_48 : decode cX8_feed 48 = .ok (.getfield 12, 3) := by decide +kernel
theorem dX8_feed_51 : decode cX8_feed 51 = .ok (.iload 4, 2) := by decide +kernel
theorem dX8_feed_53 : decode cX8_feed 53 = .ok (.invokevirtual 91, 3) := by decide +kernel
theorem dX8_feed_56 : decode cX8_feed 56 = .ok (.aload_n 0, 1) := by decide +kernel
theorem dX8_feed_57 : decode cX8_feed 57 = .ok (.getfield 12, 3) := by decide +kernel
theorem dX8_feed_60 : decode cX8_feed 60 = .ok (.iload 5, 2) := by decide +kernel
theorem dX8_feed_62 : decode cX8_feed 62 = .ok (.invokevirtual 91, 3) := by decide +kernel
theorem dX8_feed_65 : decode cX8_feed 65 = .ok (.aload_n 0, 1) := by decide +kernel
theorem dX8_feed_66 : decode cX8_feed 66 = .ok (.getfield 12, 3) := by decide +kernel
theorem dX8_feed_69 : decode cX8_feed 69 = .ok (.getfield 81, 3) := by decide +kernel
theorem dX8_feed_72 : decode cX8_feed 72 = .ok (.ireturn, 1) := by decide +kernel
theorem dX8_trim_0 : decode cX8_trim 0 = .ok (.iload_n 1, 1) := by decide +kernel
theorem dX8_trim_1 : decode cX8_trim 1 = .ok (.ifCond .lt 14, 3) := by decide +kernel
theorem dX8_trim_4 : decode cX8_trim 4 = .ok (.iload_n 1, 1) := by decide +kernel
theorem dX8_trim_5 : decode cX8_trim 5 = .ok (.aload_n 0, 1) := by decide +kernel
theorem dX8_trim_6 : decode cX8_trim 6 = .ok (.getfield 12, 3) := by decide +kernel
theorem dX8_trim_9 : decode cX8_trim 9 = .ok (.getfield 81, 3) := by decide +kernel
theorem dX8_trim_12 : decode cX8_trim 12 = .ok (.if_icmp .le 13, 3) := by decide +kernel
theorem dX8_trim_15 : decode cX8_trim 15 = .ok (.new 95, 3) := by decide +kernel
theorem dX8_trim_18 : decode cX8_trim 18 = .ok (.dup, 1) := by decide +kernel
theorem dX8_trim_19 : decode cX8_trim 19 = .ok (.ldc 97, 2) := by decide +kernel
theorem dX8_trim_21 : decode cX8_trim 21 = .ok (.invokespecial 99, 3) := by decide +kernel
theorem dX8_trim_24 : decode cX8_trim 24 = .ok (.athrow, 1) := by decide +kernel
theorem dX8_trim_25 : decode cX8_trim 25 = .ok (.aload_n 0, 1) := by decide +kernel
theorem dX8_trim_26 : decode cX8_trim 26 = .ok (.getfield 12, 3) := by decide +kernel
theorem dX8_trim_29 : decode cX8_trim 29 = .ok (.iload_n 1, 1) := by decide +kernel
theorem dX8_trim_30 : decode cX8_trim 30 = .ok (.putfield 81, 3) := by decide +kernel
theorem dX8_trim_33 : decode cX8_trim 33 = .ok (.iload_n 1, 1) := by decide +kernel
theorem dX8_trim_34 : decode cX8_trim 34 = .ok (.ireturn, 1) := by decide +kernel
theorem dX8_teach_0 : decode cX8_teach 0 = .ok (.aload_n 0, 1) := by decide +kernel
theorem dX8_teach_1 : decode cX8_teach 1 = .ok (.getfield 19, 3) := by decide +kernel
theorem dX8_teach_4 : decode cX8_teach 4 = .ok (.aload_n 0, 1) := by decide +kernel
theorem dX8_teach_5 : decode cX8_teach 5 = .ok (.getfield 12, 3) := by decide +kernel
theorem dX8_teach_8 : decode cX8_teach 8 = .ok (.invokevirtual 100, 3) := by decide +kernel
theorem dX8_teach_11 : decode cX8_teach 11 = .ok (.aload_n 0, 1) := by decide +kernel
theorem dX8_teach_12 : decode cX8_teach 12 = .ok (.getfield 12, 3) := by decide +kernel
theorem dX8_teach_15 : decode cX8_teach 15 = .ok (.iconst 0, 1) := by decide +kernel
theorem dX8_teach_16 : decode cX8_teach 16 = .ok (.putfield 81, 3) := by decide +kernel
theorem dX8_teach_19 : decode cX8_teach 19 = .ok (.aload_n 0, 1) := by decide +kernel
theorem dX8_teach_20 : decode cX8_teach 20 = .ok (.getfield 38, 3) := by decide +kernel
theorem dX8_teach_23 : decode cX8_teach 23 = .ok (.invokevirtual 104, 3) := by decide +kernel
theorem dX8_teach_26 : decode cX8_teach 26 = .ok (.istore_n 1, 1) := by decide +kernel
theorem dX8_teach_27 : decode cX8_teach 27 = .ok (.aload_n 0, 1) := by decide +kernel
theorem dX8_teach_28 : decode cX8_teach 28 = .ok (.aload_n 0, 1) := by decide +kernel
theorem dX8_teach_29 : decode cX8_teach 29 = .ok (.getfield 38, 3) := by decide +kernel
theorem dX8_teach_32 : decode cX8_teach 32 = .ok (.invokevirtual 108, 3) := by decide +kernel
theorem dX8_teach_35 : decode cX8_teach 35 = .ok (.putfield 77, 3) := by decide +kernel
theorem dX8_teach_38 : decode cX8_teach 38 = .ok (.iload_n 1, 1) := by decide +kernel
theorem dX8_teach_39 : decode cX8_teach 39 = .ok (.ifCond .ne 7, 3) := by decide +kernel
theorem dX8_teach_42 : decode cX8_teach 42 = .ok (.aload_n 0, 1) := by decide +kernel
theorem dX8_teach_43 : decode cX8_teach 43 = .ok (.invokevirtual 110, 3) := by decide +kernel
theorem dX8_teach_46 : decode cX8_teach 46 = .ok (.iload_n 1, 1) := by decide +kernel
theorem dX8_teach_47 : decode cX8_teach 47 = .ok (.ireturn, 1) := by decide +kernel
theorem dX8_errorAt_0 : decode cX8_errorAt 0 = .ok (.aload_n 0, 1) := by decide +kernel
theorem dX8_errorAt_1 : decode cX8_errorAt 1 = .ok (.getfield 77, 3) := by decide +kernel
theorem dX8_errorAt_4 : decode cX8_errorAt 4 = .ok (.ireturn, 1) := by decide +kernel
theorem dX8_families_0 : decode cX8_families 0 = .ok (.aload_n 0, 1) := by decide +kernel
theorem dX8_families_1 : decode cX8_families 1 = .ok (.getfield 30, 3) := by decide +kernel
theorem dX8_families_4 : decode cX8_families 4 = .ok (.getfield 113, 3) := by decide +kernel
theorem dX8_families_7 : decode cX8_families 7 = .ok (.ireturn, 1) := by decide +kernel
theorem dX8_statements_0 : decode cX8_statements 0 = .ok (.aload_n 0, 1) := by decide +kernel
theorem dX8_statements_1 : decode cX8_statements 1 = .ok (.getfield 30, 3) := by decide +kernel
theorem dX8_statements_4 : decode cX8_statements 4 = .ok (.getfield 116, 3) := by decide +kernel
theorem dX8_statements_7 : decode cX8_statements 7 = .ok (.ireturn, 1) := by decide +kernel
theorem dX8_orders_0 : decode cX8_orders 0 = .ok (.aload_n 0, 1) := by decide +kernel
theorem dX8_orders_1 : decode cX8_orders 1 = .ok (.getfield 30, 3) := by decide +kernel
theorem dX8_orders_4 : decode cX8_orders 4 = .ok (.getfield 119, 3) := by decide +kernel
theorem dX8_orders_7 : decode cX8_orders 7 = .ok (.ireturn, 1) := by decide +kernel
theorem dX8_days_0 : decode cX8_days 0 = .ok (.aload_n 0, 1) := by decide +kernel
theorem dX8_days_1 : decode cX8_days 1 = .ok (.getfield 70, 3) := by decide +kernel
theorem dX8_days_4 : decode cX8_days 4 = .ok (.getfield 122, 3) := by decide +kernel
theorem dX8_days_7 : decode cX8_days 7 = .ok (.ireturn, 1) := by decide +kernel
theorem dX8_ordersCarriedOut_0 : decode cX8_ordersCarriedOut 0 = .ok (.aload_n 0, 1) := by decide +kernel
theorem dX8_ordersCarriedOut_1 : decode cX8_ordersCarriedOut 1 = .ok (.getfield 70, 3) := by decide +kernel
theorem dX8_ordersCarriedOut_4 : decode cX8_ordersCarriedOut 4 = .ok (.getfield 125, 3) := by decide +kernel
theorem dX8_ordersCarriedOut_7 : decode cX8_ordersCarriedOut 7 = .ok (.ireturn, 1) := by decide +kernel
theorem dX8_tapeBytes_0 : decode cX8_tapeBytes 0 = .ok (.aload_n 0, 1) := by decide +kernel
theorem dX8_tapeBytes_1 : decode cX8_tapeBytes 1 = .ok (.getfield 12, 3) := by decide +kernel
theorem dX8_tapeBytes_4 : decode cX8_tapeBytes 4 = .ok (.getfield 81, 3) := by decide +kernel
theorem dX8_tapeBytes_7 : decode cX8_tapeBytes 7 = .ok (.ireturn, 1) := by decide +kernel
theorem dX8_standing_0 : decode cX8_standing 0 = .ok (.aload_n 0, 1) := by decide +kernel
theorem dX8_standing_1 : decode cX8_standing 1 = .ok (.getfield 70, 3) := by decide +kernel
theorem dX8_standing_4 : decode cX8_standing 4 = .ok (.getfield 128, 3) := by decide +kernel
theorem dX8_standing_7 : decode cX8_standing 7 = .ok (.invokestatic 131, 3) := by decide +kernel
theorem dX8_standing_10 : decode cX8_standing 10 = .ok (.ireturn, 1) := by decide +kernel
theorem dX8_kindOf_0 : decode cX8_kindOf 0 = .ok (.aload_n 0, 1) := by decide +kernel
theorem dX8_kindOf_1 : decode cX8_kindOf 1 = .ok (.iload_n 1, 1) := by decide +kernel
theorem dX8_kindOf_2 : decode cX8_kindOf 2 = .ok (.invokevirtual 137, 3) := by decide +kernel
theorem dX8_kindOf_5 : decode cX8_kindOf 5 = .ok (.aload_n 0, 1) := by decide +kernel
theorem dX8_kindOf_6 : decode cX8_kindOf 6 = .ok (.getfield 30, 3) := by decide +kernel
theorem dX8_kindOf_9 : decode cX8_kindOf 9 = .ok (.iload_n 1, 1) := by decide +kernel
theorem dX8_kindOf_10 : decode cX8_kindOf 10 = .ok (.invokevirtual 140, 3) := by decide +kernel
theorem dX8_kindOf_13 : decode cX8_kindOf 13 = .ok (.ireturn, 1) := by decide +kernel
theorem dX8_firstClaimOf_0 : decode cX8_firstClaimOf 0 = .ok (.aload_n 0, 1) := by decide +kernel
theorem dX8_firstClaimOf_1 : decode cX8_firstClaimOf 1 = .ok (.iload_n 1, 1) := by decide +kernel
theorem dX8_firstClaimOf_2 : decode cX8_firstClaimOf 2 = .ok (.invokevirtual 137, 3) := by decide +kernel
theorem dX8_firstClaimOf_5 : decode cX8_firstClaimOf 5 = .ok (.aload_n 0, 1) := by decide +kernel
theorem dX8_firstClaimOf_6 : decode cX8_firstClaimOf 6 = .ok (.getfield 30, 3) := by decide +kernel
theorem dX8_firstClaimOf_9 : decode cX8_firstClaimOf 9 = .ok (.iload_n 1, 1) := by decide +kernel
theorem dX8_firstClaimOf_10 : decode cX8_firstClaimOf 10 = .ok (.invokevirtual 143, 3) := by decide +kernel
theorem dX8_firstClaimOf_13 : decode cX8_firstClaimOf 13 = .ok (.ireturn, 1) := by decide +kernel
theorem dX8_secondClaimOf_0 : decode cX8_secondClaimOf 0 = .ok (.aload_n 0, 1) := by decide +kernel
theorem dX8_secondClaimOf_1 : decode cX8_secondClaimOf 1 = .ok (.iload_n 1, 1) := by decide +kernel
theorem dX8_secondClaimOf_2 : decode cX8_secondClaimOf 2 = .ok (.invokevirtual 137, 3) := by decide +kernel
theorem dX8_secondClaimOf_5 : decode cX8_secondClaimOf 5 = .ok (.aload_n 0, 1) := by decide +kernel
theorem dX8_secondClaimOf_6 : decode cX8_secondClaimOf 6 = .ok (.getfield 30, 3) := by decide +kernel
theorem dX8_secondClaimOf_9 : decode cX8_secondClaimOf 9 = .ok (.iload_n 1, 1) := by decide +kernel
theorem dX8_secondClaimOf_10 : decode cX8_secondClaimOf 10 = .ok (.invokevirtual 146, 3) := by decide +kernel
theorem dX8_secondClaimOf_13 : decode cX8_secondClaimOf 13 = .ok (.ireturn, 1) := by decide +kernel
theorem dX8_stands_0 : decode cX8_stands 0 = .ok (.aload_n 0, 1) := by decide +kernel
theorem dX8_stands_1 : decode cX8_stands 1 = .ok (.iload_n 1, 1) := by decide +kernel
theorem dX8_stands_2 : decode cX8_stands 2 = .ok (.invokevirtual 137, 3) := by decide +kernel
theorem dX8_stands_5 : decode cX8_stands 5 = .ok (.aload_n 0, 1) := by decide +kernel
theorem dX8_stands_6 : decode cX8_stands 6 = .ok (.getfield 70, 3) := by decide +kernel
theorem dX8_stands_9 : decode cX8_stands 9 = .ok (.getfield 128, 3) := by decide +kernel
theorem dX8_stands_12 : decode cX8_stands 12 = .ok (.iload_n 1, 1) := by decide +kernel
theorem dX8_stands_13 : decode cX8_stands 13 = .ok (.invokestatic 149, 3) := by decide +kernel
theorem dX8_stands_16 : decode cX8_stands 16 = .ok (.ireturn, 1) := by decide +kernel
theorem dX8_isNeedless_0 : decode cX8_isNeedless 0 = .ok (.aload_n 0, 1) := by decide +kernel
theorem dX8_isNeedless_1 : decode cX8_isNeedless 1 = .ok (.iload_n 1, 1) := by decide +kernel
theorem dX8_isNeedless_2 : decode cX8_isNeedless 2 = .ok (.invokevirtual 137, 3) := by decide +kernel
theorem dX8_isNeedless_5 : decode cX8_isNeedless 5 = .ok (.aload_n 0, 1) := by decide +kernel
theorem dX8_isNeedless_6 : decode cX8_isNeedless 6 = .ok (.iload_n 1, 1) := by decide +kernel
theorem dX8_isNeedless_7 : decode cX8_isNeedless 7 = .ok (.invokevirtual 153, 3) := by decide +kernel
theorem dX8_isNeedless_10 : decode cX8_isNeedless 10 = .ok (.aload_n 0, 1) := by decide +kernel
theorem dX8_isNeedless_11 : decode cX8_isNeedless 11 = .ok (.getfield 54, 3) := by decide +kernel
theorem dX8_isNeedless_14 : decode cX8_isNeedless 14 = .ok (.aload_n 0, 1) := by decide +kernel
theorem dX8_isNeedless_15 : decode cX8_isNeedless 15 = .ok (.getfield 70, 3) := by decide +kernel
theorem dX8_isNeedless_18 : decode cX8_isNeedless 18 = .ok (.getfield 128, 3) := by decide +kernel
theorem dX8_isNeedless_21 : decode cX8_isNeedless 21 = .ok (.invokevirtual 156, 3) := by decide +kernel
theorem dX8_isNeedless_24 : decode cX8_isNeedless 24 = .ok (.istore_n 2, 1) := by decide +kernel
theorem dX8_isNeedless_25 : decode cX8_isNeedless 25 = .ok (.aload_n 0, 1) := by decide +kernel
theorem dX8_isNeedless_26 : decode cX8_isNeedless 26 = .ok (.getfield 54, 3) := by decide +kernel
theorem dX8_isNeedless_29 : decode cX8_isNeedless 29 = .ok (.aload_n 0, 1) := by decide +kernel
theorem dX8_isNeedless_30 : decode cX8_isNeedless 30 = .ok (.getfield 70, 3) := by decide +kernel
theorem dX8_isNeedless_33 : decode cX8_isNeedless 33 = .ok (.getfield 128, 3) := by decide +kernel
theorem dX8_isNeedless_36 : decode cX8_isNeedless 36 = .ok (.iload_n 1, 1) := by decide +kernel
theorem dX8_isNeedless_37 : decode cX8_isNeedless 37 = .ok (.invokestatic 159, 3) := by decide +kernel
theorem dX8_isNeedless_40 : decode cX8_isNeedless 40 = .ok (.invokevirtual 156, 3) := by decide +kernel
theorem dX8_isNeedless_43 : decode cX8_isNeedless 43 = .ok (.iload_n 2, 1) := by decide +kernel
theorem dX8_isNeedless_44 : decode cX8_isNeedless 44 = .ok (.if_icmp .ne 7, 3) := by decide +kernel
theorem dX8_isNeedless_47 : decode cX8_isNeedless 47 = .ok (.iconst 1, 1) := by decide +kernel
theorem dX8_isNeedless_48 : decode cX8_isNeedless 48 = .ok (.goto 4, 3) := by decide +kernel
theorem dX8_isNeedless_51 : decode cX8_isNeedless 51 = .ok (.iconst 0, 1) := by decide +kernel
theorem dX8_isNeedless_52 : decode cX8_isNeedless 52 = .ok (.ireturn, 1) := by decide +kernel
theorem dX8_follows_0 : decode cX8_follows 0 = .ok (.aload_n 0, 1) := by decide +kernel
theorem dX8_follows_1 : decode cX8_follows 1 = .ok (.iload_n 1, 1) := by decide +kernel
theorem dX8_follows_2 : decode cX8_follows 2 = .ok (.invokevirtual 163, 3) := by decide +kernel
theorem dX8_follows_5 : decode cX8_follows 5 = .ok (.aload_n 0, 1) := by decide +kernel
theorem dX8_follows_6 : decode cX8_follows 6 = .ok (.iload_n 2, 1) := by decide +kernel
theorem dX8_follows_7 : decode cX8_follows 7 = .ok (.invokevirtual 163, 3) := by decide +kernel
theorem dX8_follows_10 : decode cX8_follows 10 = .ok (.aload_n 0, 1) := by decide +kernel
theorem dX8_follows_11 : decode cX8_follows 11 = .ok (.getfield 47, 3) := by decide +kernel
theorem dX8_follows_14 : decode cX8_follows 14 = .ok (.aload_n 0, 1) := by decide +kernel
theorem dX8_follows_15 : decode cX8_follows 15 = .ok (.getfield 70, 3) := by decide +kernel
theorem dX8_follows_18 : decode cX8_follows 18 = .ok (.getfield 128, 3) := by decide +kernel
theorem dX8_follows_21 : decode cX8_follows 21 = .ok (.iload_n 2, 1) := by decide +kernel
theorem dX8_follows_22 : decode cX8_follows 22 = .ok (.invokevirtual 166, 3) := by decide +kernel
theorem dX8_follows_25 : decode cX8_follows 25 = .ok (.iload_n 1, 1) := by decide +kernel
theorem dX8_follows_26 : decode cX8_follows 26 = .ok (.invokestatic 149, 3) := by decide +kernel
theorem dX8_follows_29 : decode cX8_follows 29 = .ok (.ireturn, 1) := by decide +kernel
theorem dX8_whatFollowsFrom_0 : decode cX8_whatFollowsFrom 0 = .ok (.aload_n 0, 1) := by decide +kernel
theorem dX8_whatFollowsFrom_1 : decode cX8_whatFollowsFrom 1 = .ok (.iload_n 1, 1) := by decide +kernel
theorem dX8_whatFollowsFrom_2 : decode cX8_whatFollowsFrom 2 = .ok (.invokevirtual 163, 3) := by decide +kernel
theorem dX8_whatFollowsFrom_5 : decode cX8_whatFollowsFrom 5 = .ok (.aload_n 0, 1) := by decide +kernel
theorem dX8_whatFollowsFrom_6 : decode cX8_whatFollowsFrom 6 = .ok (.getfield 47, 3) := by decide +kernel
theorem dX8_whatFollowsFrom_9 : decode cX8_whatFollowsFrom 9 = .ok (.aload_n 0, 1) := by decide +kernel
theorem dX8_whatFollowsFrom_10 : decode cX8_whatFollowsFrom 10 = .ok (.getfield 70, 3) := by decide +kernel
theorem dX8_whatFollowsFrom_13 : decode cX8_whatFollowsFrom 13 = .ok (.getfield 128, 3) := by decide +kernel
theorem dX8_whatFollowsFrom_16 : decode cX8_whatFollowsFrom 16 = .ok (.iload_n 1, 1) := by decide +kernel
theorem dX8_whatFollowsFrom_17 : decode cX8_whatFollowsFrom 17 = .ok (.invokevirtual 166, 3) := by decide +kernel
theorem dX8_whatFollowsFrom_20 : decode cX8_whatFollowsFrom 20 = .ok (.invokestatic 131, 3) := by decide +kernel
theorem dX8_whatFollowsFrom_23 : decode cX8_whatFollowsFrom 23 = .ok (.ireturn, 1) := by decide +kernel
theorem dX8_fewestStatementsBetween_0 : decode cX8_fewestStatementsBetween 0 = .ok (.aload_n 0, 1) := by decide +kernel
theorem dX8_fewestStatementsBetween_1 : decode cX8_fewestStatementsBetween 1 = .ok (.iload_n 1, 1) := by decide +kernel
theorem dX8_fewestStatementsBetween_2 : decode cX8_fewestStatementsBetween 2 = .ok (.invokevirtual 163, 3) := by decide +kernel
theorem dX8_fewestStatementsBetween_5 : decode cX8_fewestStatementsBetween 5 = .ok (.aload_n 0, 1) := by decide +kernel
theorem dX8_fewestStatementsBetween_6 : decode cX8_fewestStatementsBetween 6 = .ok (.iload_n 2, 1) := by decide +kernel
theorem dX8_fewestStatementsBetween_7 : decode cX8_fewestStatementsBetween 7 = .ok (.invokevirtual 163, 3) := by decide +kernel
theorem dX8_fewestStatementsBetween_10 : decode cX8_fewestStatementsBetween 10 = .ok (.aload_n 0, 1) := by decide +kernel
theorem dX8_fewestStatementsBetween_11 : decode cX8_fewestStatementsBetween 11 = .ok (.getfield 47, 3) := by decide +kernel
theorem dX8_fewestStatementsBetween_14 : decode cX8_fewestStatementsBetween 14 = .ok (.aload_n 0, 1) := by decide +kernel
theorem dX8_fewestStatementsBetween_15 : decode cX8_fewestStatementsBetween 15 = .ok (.getfield 70, 3) := by decide +kernel
theorem dX8_fewestStatementsBetween_18 : decode cX8_fewestStatementsBetween 18 = .ok (.getfield 128, 3) := by decide +kernel
theorem dX8_fewestStatementsBetween_21 : decode cX8_fewestStatementsBetween 21 = .ok (.iload_n 1, 1) := by decide +kernel
theorem dX8_fewestStatementsBetween_22 : decode cX8_fewestStatementsBetween 22 = .ok (.iload_n 2, 1) := by decide +kernel
theorem dX8_fewestStatementsBetween_23 : decode cX8_fewestStatementsBetween 23 = .ok (.invokevirtual 169, 3) := by decide +kernel
theorem dX8_fewestStatementsBetween_26 : decode cX8_fewestStatementsBetween 26 = .ok (.istore_n 3, 1) := by decide +kernel
theorem dX8_fewestStatementsBetween_27 : decode cX8_fewestStatementsBetween 27 = .ok (.iload_n 3, 1) := by decide +kernel
theorem dX8_fewestStatementsBetween_28 : decode cX8_fewestStatementsBetween 28 = .ok (.ifCond .ge 13, 3) := by decide +kernel
theorem dX8_fewestStatementsBetween_31 : decode cX8_fewestStatementsBetween 31 = .ok (.new 84, 3) := by decide +kernel
theorem dX8_fewestStatementsBetween_34 : decode cX8_fewestStatementsBetween 34 = .ok (.dup, 1) := by decide +kernel
theorem dX8_fewestStatementsBetween_35 : decode cX8_fewestStatementsBetween 35 = .ok (.ldc 173, 2) := by decide +kernel
theorem dX8_fewestStatementsBetween_37 : decode cX8_fewestStatementsBetween 37 = .ok (.invokespecial 88, 3) := by decide +kernel
theorem dX8_fewestStatementsBetween_40 : decode cX8_fewestStatementsBetween 40 = .ok (.athrow, 1) := by decide +kernel
theorem dX8_fewestStatementsBetween_41 : decode cX8_fewestStatementsBetween 41 = .ok (.iload_n 3, 1) := by decide +kernel
theorem dX8_fewestStatementsBetween_42 : decode cX8_fewestStatementsBetween 42 = .ok (.ireturn, 1) := by decide +kernel
theorem dX8_parts_0 : decode cX8_parts 0 = .ok (.aload_n 0, 1) := by decide +kernel
theorem dX8_parts_1 : decode cX8_parts 1 = .ok (.getfield 47, 3) := by decide +kernel
theorem dX8_parts_4 : decode cX8_parts 4 = .ok (.aload_n 0, 1) := by decide +kernel
theorem dX8_parts_5 : decode cX8_parts 5 = .ok (.getfield 70, 3) := by decide +kernel
theorem dX8_parts_8 : decode cX8_parts 8 = .ok (.getfield 128, 3) := by decide +kernel
theorem dX8_parts_11 : decode cX8_parts 11 = .ok (.invokevirtual 175, 3) := by decide +kernel
theorem dX8_parts_14 : decode cX8_parts 14 = .ok (.ireturn, 1) := by decide +kernel
theorem dX8_partOf_0 : decode cX8_partOf 0 = .ok (.aload_n 0, 1) := by decide +kernel
theorem dX8_partOf_1 : decode cX8_partOf 1 = .ok (.iload_n 1, 1) := by decide +kernel
theorem dX8_partOf_2 : decode cX8_partOf 2 = .ok (.invokevirtual 163, 3) := by decide +kernel
theorem dX8_partOf_5 : decode cX8_partOf 5 = .ok (.aload_n 0, 1) := by decide +kernel
theorem dX8_partOf_6 : decode cX8_partOf 6 = .ok (.getfield 47, 3) := by decide +kernel
theorem dX8_partOf_9 : decode cX8_partOf 9 = .ok (.aload_n 0, 1) := by decide +kernel
theorem dX8_partOf_10 : decode cX8_partOf 10 = .ok (.getfield 70, 3) := by decide +kernel
theorem dX8_partOf_13 : decode cX8_partOf 13 = .ok (.getfield 128, 3) := by decide +kernel
theorem dX8_partOf_16 : decode cX8_partOf 16 = .ok (.iload_n 1, 1) := by decide +kernel
theorem dX8_partOf_17 : decode cX8_partOf 17 = .ok (.invokevirtual 178, 3) := by decide +kernel
theorem dX8_partOf_20 : decode cX8_partOf 20 = .ok (.invokestatic 181, 3) := by decide +kernel
theorem dX8_partOf_23 : decode cX8_partOf 23 = .ok (.ireturn, 1) := by decide +kernel
theorem dX8_partSize_0 : decode cX8_partSize 0 = .ok (.aload_n 0, 1) := by decide +kernel
theorem dX8_partSize_1 : decode cX8_partSize 1 = .ok (.iload_n 1, 1) := by decide +kernel
theorem dX8_partSize_2 : decode cX8_partSize 2 = .ok (.invokevirtual 163, 3) := by decide +kernel
theorem dX8_partSize_5 : decode cX8_partSize 5 = .ok (.aload_n 0, 1) := by decide +kernel
theorem dX8_partSize_6 : decode cX8_partSize 6 = .ok (.getfield 47, 3) := by decide +kernel
theorem dX8_partSize_9 : decode cX8_partSize 9 = .ok (.aload_n 0, 1) := by decide +kernel
theorem dX8_partSize_10 : decode cX8_partSize 10 = .ok (.getfield 70, 3) := by decide +kernel
theorem dX8_partSize_13 : decode cX8_partSize 13 = .ok (.getfield 128, 3) := by decide +kernel
theorem dX8_partSize_16 : decode cX8_partSize 16 = .ok (.iload_n 1, 1) := by decide +kernel
theorem dX8_partSize_17 : decode cX8_partSize 17 = .ok (.invokevirtual 178, 3) := by decide +kernel
theorem dX8_partSize_20 : decode cX8_partSize 20 = .ok (.invokestatic 131, 3) := by decide +kernel
theorem dX8_partSize_23 : decode cX8_partSize 23 = .ok (.ireturn, 1) := by decide +kernel
theorem dX8_isPeacePossible_0 : decode cX8_isPeacePossible 0 = .ok (.aload_n 0, 1) := by decide +kernel
theorem dX8_isPeacePossible_1 : decode cX8_isPeacePossible 1 = .ok (.getfield 54, 3) := by decide +kernel
theorem dX8_isPeacePossible_4 : decode cX8_isPeacePossible 4 = .ok (.aload_n 0, 1) := by decide +kernel
theorem dX8_isPeacePossible_5 : decode cX8_isPeacePossible 5 = .ok (.getfield 70, 3) := by decide +kernel
theorem dX8_isPeacePossible_8 : decode cX8_isPeacePossible 8 = .ok (.getfield 128, 3) := by decide +kernel
theorem dX8_isPeacePossible_11 : decode cX8_isPeacePossible 11 = .ok (.invokevirtual 156, 3) := by decide +kernel
theorem dX8_isPeacePossible_14 : decode cX8_isPeacePossible 14 = .ok (.ifCond .le 7, 3) := by decide +kernel
theorem dX8_isPeacePossible_17 : decode cX8_isPeacePossible 17 = .ok (.iconst 1, 1) := by decide +kernel
theorem dX8_isPeacePossible_18 : decode cX8_isPeacePossible 18 = .ok (.goto 4, 3) := by decide +kernel
theorem dX8_isPeacePossible_21 : decode cX8_isPeacePossible 21 = .ok (.iconst 0, 1) := by decide +kernel
theorem dX8_isPeacePossible_22 : decode cX8_isPeacePossible 22 = .ok (.ireturn, 1) := by decide +kernel
theorem dX8_peaces_0 : decode cX8_peaces 0 = .ok (.aload_n 0, 1) := by decide +kernel
theorem dX8_peaces_1 : decode cX8_peaces 1 = .ok (.getfield 54, 3) := by decide +kernel
theorem dX8_peaces_4 : decode cX8_peaces 4 = .ok (.aload_n 0, 1) := by decide +kernel
theorem dX8_peaces_5 : decode cX8_peaces 5 = .ok (.getfield 70, 3) := by decide +kernel
theorem dX8_peaces_8 : decode cX8_peaces 8 = .ok (.getfield 128, 3) := by decide +kernel
theorem dX8_peaces_11 : decode cX8_peaces 11 = .ok (.invokevirtual 156, 3) := by decide +kernel
theorem dX8_peaces_14 : decode cX8_peaces 14 = .ok (.ireturn, 1) := by decide +kernel
theorem dX8_peacesWith_0 : decode cX8_peacesWith 0 = .ok (.aload_n 0, 1) := by decide +kernel
theorem dX8_peacesWith_1 : decode cX8_peacesWith 1 = .ok (.iload_n 1, 1) := by decide +kernel
theorem dX8_peacesWith_2 : decode cX8_peacesWith 2 = .ok (.invokevirtual 163, 3) := by decide +kernel
theorem dX8_peacesWith_5 : decode cX8_peacesWith 5 = .ok (.aload_n 0, 1) := by decide +kernel
theorem dX8_peacesWith_6 : decode cX8_peacesWith 6 = .ok (.getfield 54, 3) := by decide +kernel
theorem dX8_peacesWith_9 : decode cX8_peacesWith 9 = .ok (.aload_n 0, 1) := by decide +kernel
theorem dX8_peacesWith_10 : decode cX8_peacesWith 10 = .ok (.getfield 70, 3) := by decide +kernel
theorem dX8_peacesWith_13 : decode cX8_peacesWith 13 = .ok (.getfield 128, 3) := by decide +kernel
theorem dX8_peacesWith_16 : decode cX8_peacesWith 16 = .ok (.iload_n 1, 1) := by decide +kernel
theorem dX8_peacesWith_17 : decode cX8_peacesWith 17 = .ok (.invokevirtual 184, 3) := by decide +kernel
theorem dX8_peacesWith_20 : decode cX8_peacesWith 20 = .ok (.ireturn, 1) := by decide +kernel
theorem dX8_isPossible_0 : decode cX8_isPossible 0 = .ok (.aload_n 0, 1) := by decide +kernel
theorem dX8_isPossible_1 : decode cX8_isPossible 1 = .ok (.iload_n 1, 1) := by decide +kernel
theorem dX8_isPossible_2 : decode cX8_isPossible 2 = .ok (.invokevirtual 163, 3) := by decide +kernel
theorem dX8_isPossible_5 : decode cX8_isPossible 5 = .ok (.aload_n 0, 1) := by decide +kernel
theorem dX8_isPossible_6 : decode cX8_isPossible 6 = .ok (.getfield 54, 3) := by decide +kernel
theorem dX8_isPossible_9 : decode cX8_isPossible 9 = .ok (.aload_n 0, 1) := by decide +kernel
theorem dX8_isPossible_10 : decode cX8_isPossible 10 = .ok (.getfield 70, 3) := by decide +kernel
theorem dX8_isPossible_13 : decode cX8_isPossible 13 = .ok (.getfield 128, 3) := by decide +kernel
theorem dX8_isPossible_16 : decode cX8_isPossible 16 = .ok (.iload_n 1, 1) := by decide +kernel
theorem dX8_isPossible_17 : decode cX8_isPossible 17 = .ok (.invokevirtual 184, 3) := by decide +kernel
theorem dX8_isPossible_20 : decode cX8_isPossible 20 = .ok (.ifCond .le 7, 3) := by decide +kernel
theorem dX8_isPossible_23 : decode cX8_isPossible 23 = .ok (.iconst 1, 1) := by decide +kernel
theorem dX8_isPossible_24 : decode cX8_isPossible 24 = .ok (.goto 4, 3) := by decide +kernel
theorem dX8_isPossible_27 : decode cX8_isPossible 27 = .ok (.iconst 0, 1) := by decide +kernel
theorem dX8_isPossible_28 : decode cX8_isPossible 28 = .ok (.ireturn, 1) := by decide +kernel
theorem dX8_isSettled_0 : decode cX8_isSettled 0 = .ok (.aload_n 0, 1) := by decide +kernel
theorem dX8_isSettled_1 : decode cX8_isSettled 1 = .ok (.iload_n 1, 1) := by decide +kernel
theorem dX8_isSettled_2 : decode cX8_isSettled 2 = .ok (.invokevirtual 163, 3) := by decide +kernel
theorem dX8_isSettled_5 : decode cX8_isSettled 5 = .ok (.aload_n 0, 1) := by decide +kernel
theorem dX8_isSettled_6 : decode cX8_isSettled 6 = .ok (.invokevirtual 187, 3) := by decide +kernel
theorem dX8_isSettled_9 : decode cX8_isSettled 9 = .ok (.aload_n 0, 1) := by decide +kernel
theorem dX8_isSettled_10 : decode cX8_isSettled 10 = .ok (.getfield 54, 3) := by decide +kernel
theorem dX8_isSettled_13 : decode cX8_isSettled 13 = .ok (.aload_n 0, 1) := by decide +kernel
theorem dX8_isSettled_14 : decode cX8_isSettled 14 = .ok (.getfield 70, 3) := by decide +kernel
theorem dX8_isSettled_17 : decode cX8_isSettled 17 = .ok (.getfield 128, 3) := by decide +kernel
theorem dX8_isSettled_20 : decode cX8_isSettled 20 = .ok (.iload_n 1, 1) := by decide +kernel
theorem dX8_isSettled_21 : decode cX8_isSettled 21 = .ok (.invokevirtual 184, 3) := by decide +kernel
theorem dX8_isSettled_24 : decode cX8_isSettled 24 = .ok (.aload_n 0, 1) := by decide +kernel
theorem dX8_isSettled_25 : decode cX8_isSettled 25 = .ok (.getfield 54, 3) := by decide +kernel
theorem dX8_isSettled_28 : decode cX8_isSettled 28 = .ok (.aload_n 0, 1) := by decide +kernel
theorem dX8_isSettled_29 : decode cX8_isSettled 29 = .ok (.getfield 70, 3) := by decide +kernel
theorem dX8_isSettled_32 : decode cX8_isSettled 32 = .ok (.getfield 128, 3) := by decide +kernel
theorem dX8_isSettled_35 : decode cX8_isSettled 35 = .ok (.invokevirtual 156, 3) := by decide +kernel
theorem dX8_isSettled_38 : decode cX8_isSettled 38 = .ok (.if_icmp .ne 7, 3) := by decide +kernel
theorem dX8_isSettled_41 : decode cX8_isSettled 41 = .ok (.iconst 1, 1) := by decide +kernel
theorem dX8_isSettled_42 : decode cX8_isSettled 42 = .ok (.goto 4, 3) := by decide +kernel
theorem dX8_isSettled_45 : decode cX8_isSettled 45 = .ok (.iconst 0, 1) := by decide +kernel
theorem dX8_isSettled_46 : decode cX8_isSettled 46 = .ok (.ireturn, 1) := by decide +kernel
theorem dX8_ridesInPeace_0 : decode cX8_ridesInPeace 0 = .ok (.iload_n 1, 1) := by decide +kernel
theorem dX8_ridesInPeace_1 : decode cX8_ridesInPeace 1 = .ok (.ifCond .lt 14, 3) := by decide +kernel
theorem dX8_ridesInPeace_4 : decode cX8_ridesInPeace 4 = .ok (.iload_n 1, 1) := by decide +kernel
theorem dX8_ridesInPeace_5 : decode cX8_ridesInPeace 5 = .ok (.aload_n 0, 1) := by decide +kernel
theorem dX8_ridesInPeace_6 : decode cX8_ridesInPeace 6 = .ok (.getfield 30, 3) := by decide +kernel
theorem dX8_ridesInPeace_9 : decode cX8_ridesInPeace 9 = .ok (.getfield 113, 3) := by decide +kernel
theorem dX8_ridesInPeace_12 : decode cX8_ridesInPeace 12 = .ok (.if_icmp .lt 13, 3) := by decide +kernel
theorem dX8_ridesInPeace_15 : decode cX8_ridesInPeace 15 = .ok (.new 190, 3) := by decide +kernel
theorem dX8_ridesInPeace_18 : decode cX8_ridesInPeace 18 = .ok (.dup, 1) := by decide +kernel
theorem dX8_ridesInPeace_19 : decode cX8_ridesInPeace 19 = .ok (.ldc 192, 2) := by decide +kernel
theorem dX8_ridesInPeace_21 : decode cX8_ridesInPeace 21 = .ok (.invokespecial 194, 3) := by decide +kernel
theorem dX8_ridesInPeace_24 : decode cX8_ridesInPeace 24 = .ok (.athrow, 1) := by decide +kernel
theorem dX8_ridesInPeace_25 : decode cX8_ridesInPeace 25 = .ok (.aload_n 0, 1) := by decide +kernel
theorem dX8_ridesInPeace_26 : decode cX8_ridesInPeace 26 = .ok (.invokevirtual 187, 3) := by decide +kernel
theorem dX8_ridesInPeace_29 : decode cX8_ridesInPeace 29 = .ok (.aload_n 0, 1) := by decide +kernel
theorem dX8_ridesInPeace_30 : decode cX8_ridesInPeace 30 = .ok (.getfield 54, 3) := by decide +kernel
theorem dX8_ridesInPeace_33 : decode cX8_ridesInPeace 33 = .ok (.aload_n 0, 1) := by decide +kernel
theorem dX8_ridesInPeace_34 : decode cX8_ridesInPeace 34 = .ok (.getfield 70, 3) := by decide +kernel
theorem dX8_ridesInPeace_37 : decode cX8_ridesInPeace 37 = .ok (.getfield 128, 3) := by decide +kernel
theorem dX8_ridesInPeace_40 : decode cX8_ridesInPeace 40 = .ok (.invokevirtual 195, 3) := by decide +kernel
theorem dX8_ridesInPeace_43 : decode cX8_ridesInPeace 43 = .ok (.iload_n 1, 1) := by decide +kernel
theorem dX8_ridesInPeace_44 : decode cX8_ridesInPeace 44 = .ok (.invokestatic 149, 3) := by decide +kernel
theorem dX8_ridesInPeace_47 : decode cX8_ridesInPeace 47 = .ok (.ireturn, 1) := by decide +kernel
theorem dX8_ridersInPeace_0 : decode cX8_ridersInPeace 0 = .ok (.aload_n 0, 1) := by decide +kernel
theorem dX8_ridersInPeace_1 : decode cX8_ridersInPeace 1 = .ok (.invokevirtual 187, 3) := by decide +kernel
theorem dX8_ridersInPeace_4 : decode cX8_ridersInPeace 4 = .ok (.aload_n 0, 1) := by decide +kernel
theorem dX8_ridersInPeace_5 : decode cX8_ridersInPeace 5 = .ok (.getfield 54, 3) := by decide +kernel
theorem dX8_ridersInPeace_8 : decode cX8_ridersInPeace 8 = .ok (.aload_n 0, 1) := by decide +kernel
theorem dX8_ridersInPeace_9 : decode cX8_ridersInPeace 9 = .ok (.getfield 70, 3) := by decide +kernel
theorem dX8_ridersInPeace_12 : decode cX8_ridersInPeace 12 = .ok (.getfield 128, 3) := by decide +kernel
theorem dX8_ridersInPeace_15 : decode cX8_ridersInPeace 15 = .ok (.invokevirtual 195, 3) := by decide +kernel
theorem dX8_ridersInPeace_18 : decode cX8_ridersInPeace 18 = .ok (.invokestatic 131, 3) := by decide +kernel
theorem dX8_ridersInPeace_21 : decode cX8_ridersInPeace 21 = .ok (.ireturn, 1) := by decide +kernel
theorem dX8_blamedFamily_0 : decode cX8_blamedFamily 0 = .ok (.aload_n 0, 1) := by decide +kernel
theorem dX8_blamedFamily_1 : decode cX8_blamedFamily 1 = .ok (.getfield 54, 3) := by decide +kernel
theorem dX8_blamedFamily_4 : decode cX8_blamedFamily 4 = .ok (.aload_n 0, 1) := by decide +kernel
theorem dX8_blamedFamily_5 : decode cX8_blamedFamily 5 = .ok (.getfield 70, 3) := by decide +kernel
theorem dX8_blamedFamily_8 : decode cX8_blamedFamily 8 = .ok (.getfield 128, 3) := by decide +kernel
theorem dX8_blamedFamily_11 : decode cX8_blamedFamily 11 = .ok (.invokevirtual 156, 3) := by decide +kernel
theorem dX8_blamedFamily_14 : decode cX8_blamedFamily 14 = .ok (.ifCond .le 13, 3) := by decide +kernel
theorem dX8_blamedFamily_17 : decode cX8_blamedFamily 17 = .ok (.new 84, 3) := by decide +kernel
theorem dX8_blamedFamily_20 : decode cX8_blamedFamily 20 = .ok (.dup, 1) := by decide +kernel
theorem dX8_blamedFamily_21 : decode cX8_blamedFamily 21 = .ok (.ldc 198, 2) := by decide +kernel
theorem dX8_blamedFamily_23 : decode cX8_blamedFamily 23 = .ok (.invokespecial 88, 3) := by decide +kernel
theorem dX8_blamedFamily_26 : decode cX8_blamedFamily 26 = .ok (.athrow, 1) := by decide +kernel
theorem dX8_blamedFamily_27 : decode cX8_blamedFamily 27 = .ok (.iconst 0, 1) := by decide +kernel
theorem dX8_blamedFamily_28 : decode cX8_blamedFamily 28 = .ok (.istore_n 1, 1) := by decide +kernel
theorem dX8_blamedFamily_29 : decode cX8_blamedFamily 29 = .ok (.iload_n 1, 1) := by decide +kernel
theorem dX8_blamedFamily_30 : decode cX8_blamedFamily 30 = .ok (.aload_n 0, 1) := by decide +kernel
theorem dX8_blamedFamily_31 : decode cX8_blamedFamily 31 = .ok (.getfield 30, 3) := by decide +kernel
theorem dX8_blamedFamily_34 : decode cX8_blamedFamily 34 = .ok (.getfield 113, 3) := by decide +kernel
theorem dX8_blamedFamily_37 : decode cX8_blamedFamily 37 = .ok (.if_icmp .ge 39, 3) := by decide +kernel
theorem dX8_blamedFamily_40 : decode cX8_blamedFamily 40 = .ok (.aload_n 0, 1) := by decide +kernel
theorem dX8_blamedFamily_41 : decode cX8_blamedFamily 41 = .ok (.getfield 47, 3) := by decide +kernel
theorem dX8_blamedFamily_44 : decode cX8_blamedFamily 44 = .ok (.aload_n 0, 1) := by decide +kernel
theorem dX8_blamedFamily_45 : decode cX8_blamedFamily 45 = .ok (.getfield 70, 3) := by decide +kernel
theorem dX8_blamedFamily_48 : decode cX8_blamedFamily 48 = .ok (.getfield 128, 3) := by decide +kernel
theorem dX8_blamedFamily_51 : decode cX8_blamedFamily 51 = .ok (.iconst 2, 1) := by decide +kernel
theorem dX8_blamedFamily_52 : decode cX8_blamedFamily 52 = .ok (.iload_n 1, 1) := by decide +kernel
theorem dX8_blamedFamily_53 : decode cX8_blamedFamily 53 = .ok (.imul, 1) := by decide +kernel
theorem dX8_blamedFamily_54 : decode cX8_blamedFamily 54 = .ok (.invokevirtual 178, 3) := by decide +kernel
theorem dX8_blamedFamily_57 : decode cX8_blamedFamily 57 = .ok (.iconst 2, 1) := by decide +kernel
theorem dX8_blamedFamily_58 : decode cX8_blamedFamily 58 = .ok (.iload_n 1, 1) := by decide +kernel
theorem dX8_blamedFamily_59 : decode cX8_blamedFamily 59 = .ok (.imul, 1) := by decide +kernel
theorem dX8_blamedFamily_60 : decode cX8_blamedFamily 60 = .ok (.iconst 1, 1) := by decide +kernel
theorem dX8_blamedFamily_61 : decode cX8_blamedFamily 61 = .ok (.iadd, 1) := by decide +kernel
theorem dX8_blamedFamily_62 : decode cX8_blamedFamily 62 = .ok (.invokestatic 149, 3) := by decide +kernel
theorem dX8_blamedFamily_65 : decode cX8_blamedFamily 65 = .ok (.ifCond .eq 5, 3) := by decide +kernel
theorem dX8_blamedFamily_68 : decode cX8_blamedFamily 68 = .ok (.iload_n 1, 1) := by decide +kernel
theorem dX8_blamedFamily_69 : decode cX8_blamedFamily 69 = .ok (.ireturn, 1) := by decide +kernel
theorem dX8_blamedFamily_70 : decode cX8_blamedFamily 70 = .ok (.iinc 1 1, 3) := by decide +kernel
theorem dX8_blamedFamily_73 : decode cX8_blamedFamily 73 = .ok (.goto (-44), 3) := by decide +kernel
theorem dX8_blamedFamily_76 : decode cX8_blamedFamily 76 = .ok (.iconst (-1), 1) := by decide +kernel
theorem dX8_blamedFamily_77 : decode cX8_blamedFamily 77 = .ok (.ireturn, 1) := by decide +kernel
theorem dX8_breakStatement_0 : decode cX8_breakStatement 0 = .ok (.aload_n 0, 1) := by decide +kernel
theorem dX8_breakStatement_1 : decode cX8_breakStatement 1 = .ok (.iload_n 1, 1) := by decide +kernel
theorem dX8_breakStatement_2 : decode cX8_breakStatement 2 = .ok (.invokevirtual 137, 3) := by decide +kernel
theorem dX8_breakStatement_5 : decode cX8_breakStatement 5 = .ok (.aload_n 0, 1) := by decide +kernel
theorem dX8_breakStatement_6 : decode cX8_breakStatement 6 = .ok (.iload_n 1, 1) := by decide +kernel
theorem dX8_breakStatement_7 : decode cX8_breakStatement 7 = .ok (.invokevirtual 153, 3) := by decide +kernel
theorem dX8_breakStatement_10 : decode cX8_breakStatement 10 = .ok (.aload_n 0, 1) := by decide +kernel
theorem dX8_breakStatement_11 : decode cX8_breakStatement 11 = .ok (.getfield 70, 3) := by decide +kernel
theorem dX8_breakStatement_14 : decode cX8_breakStatement 14 = .ok (.aload_n 0, 1) := by decide +kernel
theorem dX8_breakStatement_15 : decode cX8_breakStatement 15 = .ok (.getfield 70, 3) := by decide +kernel
theorem dX8_breakStatement_18 : decode cX8_breakStatement 18 = .ok (.getfield 128, 3) := by decide +kernel
theorem dX8_breakStatement_21 : decode cX8_breakStatement 21 = .ok (.iload_n 1, 1) := by decide +kernel
theorem dX8_breakStatement_22 : decode cX8_breakStatement 22 = .ok (.invokestatic 159, 3) := by decide +kernel
theorem dX8_breakStatement_25 : decode cX8_breakStatement 25 = .ok (.putfield 128, 3) := by decide +kernel
theorem dX8_breakStatement_28 : decode cX8_breakStatement 28 = .ok (.aload_n 0, 1) := by decide +kernel
theorem dX8_breakStatement_29 : decode cX8_breakStatement 29 = .ok (.getfield 70, 3) := by decide +kernel
theorem dX8_breakStatement_32 : decode cX8_breakStatement 32 = .ok (.getfield 128, 3) := by decide +kernel
theorem dX8_breakStatement_35 : decode cX8_breakStatement 35 = .ok (.invokestatic 131, 3) := by decide +kernel
theorem dX8_breakStatement_38 : decode cX8_breakStatement 38 = .ok (.ireturn, 1) := by decide +kernel
theorem dX8_renewStatement_0 : decode cX8_renewStatement 0 = .ok (.aload_n 0, 1) := by decide +kernel
theorem dX8_renewStatement_1 : decode cX8_renewStatement 1 = .ok (.iload_n 1, 1) := by decide +kernel
theorem dX8_renewStatement_2 : decode cX8_renewStatement 2 = .ok (.invokevirtual 137, 3) := by decide +kernel
theorem dX8_renewStatement_5 : decode cX8_renewStatement 5 = .ok (.aload_n 0, 1) := by decide +kernel
theorem dX8_renewStatement_6 : decode cX8_renewStatement 6 = .ok (.getfield 70, 3) := by decide +kernel
theorem dX8_renewStatement_9 : decode cX8_renewStatement 9 = .ok (.getfield 128, 3) := by decide +kernel
theorem dX8_renewStatement_12 : decode cX8_renewStatement 12 = .ok (.iload_n 1, 1) := by decide +kernel
theorem dX8_renewStatement_13 : decode cX8_renewStatement 13 = .ok (.invokestatic 149, 3) := by decide +kernel
theorem dX8_renewStatement_16 : decode cX8_renewStatement 16 = .ok (.ifCond .eq 13, 3) := by decide +kernel
theorem dX8_renewStatement_19 : decode cX8_renewStatement 19 = .ok (.new 84, 3) := by decide +kernel
theorem dX8_renewStatement_22 : decode cX8_renewStatement 22 = .ok (.dup, 1) := by decide +kernel
theorem dX8_renewStatement_23 : decode cX8_renewStatement 23 = .ok (.ldc 200, 2) := by decide +kernel
theorem dX8_renewStatement_25 : decode cX8_renewStatement 25 = .ok (.invokespecial 88, 3) := by decide +kernel
theorem dX8_renewStatement_28 : decode cX8_renewStatement 28 = .ok (.athrow, 1) := by decide +kernel
theorem dX8_renewStatement_29 : decode cX8_renewStatement 29 = .ok (.aload_n 0, 1) := by decide +kernel
theorem dX8_renewStatement_30 : decode cX8_renewStatement 30 = .ok (.getfield 70, 3) := by decide +kernel
theorem dX8_renewStatement_33 : decode cX8_renewStatement 33 = .ok (.aload_n 0, 1) := by decide +kernel
theorem dX8_renewStatement_34 : decode cX8_renewStatement 34 = .ok (.getfield 70, 3) := by decide +kernel
theorem dX8_renewStatement_37 : decode cX8_renewStatement 37 = .ok (.getfield 128, 3) := by decide +kernel
theorem dX8_renewStatement_40 : decode cX8_renewStatement 40 = .ok (.iload_n 1, 1) := by decide +kernel
theorem dX8_renewStatement_41 : decode cX8_renewStatement 41 = .ok (.invokestatic 202, 3) := by decide +kernel
theorem dX8_renewStatement_44 : decode cX8_renewStatement 44 = .ok (.putfield 128, 3) := by decide +kernel
theorem dX8_renewStatement_47 : decode cX8_renewStatement 47 = .ok (.aload_n 0, 1) := by decide +kernel
theorem dX8_renewStatement_48 : decode cX8_renewStatement 48 = .ok (.getfield 70, 3) := by decide +kernel
theorem dX8_renewStatement_51 : decode cX8_renewStatement 51 = .ok (.getfield 128, 3) := by decide +kernel
theorem dX8_renewStatement_54 : decode cX8_renewStatement 54 = .ok (.invokestatic 131, 3) := by decide +kernel
theorem dX8_renewStatement_57 : decode cX8_renewStatement 57 = .ok (.ireturn, 1) := by decide +kernel
theorem dX8_passDays_0 : decode cX8_passDays 0 = .ok (.aload_n 0, 1) := by decide +kernel
theorem dX8_passDays_1 : decode cX8_passDays 1 = .ok (.iload_n 1, 1) := by decide +kernel
theorem dX8_passDays_2 : decode cX8_passDays 2 = .ok (.invokevirtual 205, 3) := by decide +kernel
theorem dX8_passDays_5 : decode cX8_passDays 5 = .ok (.aload_n 0, 1) := by decide +kernel
theorem dX8_passDays_6 : decode cX8_passDays 6 = .ok (.getfield 70, 3) := by decide +kernel
theorem dX8_passDays_9 : decode cX8_passDays 9 = .ok (.getfield 125, 3) := by decide +kernel
theorem dX8_passDays_12 : decode cX8_passDays 12 = .ok (.istore_n 2, 1) := by decide +kernel
theorem dX8_passDays_13 : decode cX8_passDays 13 = .ok (.aload_n 0, 1) := by decide +kernel
theorem dX8_passDays_14 : decode cX8_passDays 14 = .ok (.getfield 63, 3) := by decide +kernel
theorem dX8_passDays_17 : decode cX8_passDays 17 = .ok (.aload_n 0, 1) := by decide +kernel
theorem dX8_passDays_18 : decode cX8_passDays 18 = .ok (.getfield 70, 3) := by decide +kernel
theorem dX8_passDays_21 : decode cX8_passDays 21 = .ok (.iload_n 1, 1) := by decide +kernel
theorem dX8_passDays_22 : decode cX8_passDays 22 = .ok (.invokevirtual 208, 3) := by decide +kernel
theorem dX8_passDays_25 : decode cX8_passDays 25 = .ok (.aload_n 0, 1) := by decide +kernel
theorem dX8_passDays_26 : decode cX8_passDays 26 = .ok (.getfield 70, 3) := by decide +kernel
theorem dX8_passDays_29 : decode cX8_passDays 29 = .ok (.getfield 125, 3) := by decide +kernel
theorem dX8_passDays_32 : decode cX8_passDays 32 = .ok (.iload_n 2, 1) := by decide +kernel
theorem dX8_passDays_33 : decode cX8_passDays 33 = .ok (.isub, 1) := by decide +kernel
theorem dX8_passDays_34 : decode cX8_passDays 34 = .ok (.ireturn, 1) := by decide +kernel
theorem dX8_standingAfter_0 : decode cX8_standingAfter 0 = .ok (.aload_n 0, 1) := by decide +kernel
theorem dX8_standingAfter_1 : decode cX8_standingAfter 1 = .ok (.iload_n 1, 1) := by decide +kernel
theorem dX8_standingAfter_2 : decode cX8_standingAfter 2 = .ok (.invokevirtual 205, 3) := by decide +kernel
theorem dX8_standingAfter_5 : decode cX8_standingAfter 5 = .ok (.aload_n 0, 1) := by decide +kernel
theorem dX8_standingAfter_6 : decode cX8_standingAfter 6 = .ok (.getfield 74, 3) := by decide +kernel
theorem dX8_standingAfter_9 : decode cX8_standingAfter 9 = .ok (.aload_n 0, 1) := by decide +kernel
theorem dX8_standingAfter_10 : decode cX8_standingAfter 10 = .ok (.getfield 70, 3) := by decide +kernel
theorem dX8_standingAfter_13 : decode cX8_standingAfter 13 = .ok (.invokevirtual 212, 3) := by decide +kernel
theorem dX8_standingAfter_16 : decode cX8_standingAfter 16 = .ok (.aload_n 0, 1) := by decide +kernel
theorem dX8_standingAfter_17 : decode cX8_standingAfter 17 = .ok (.getfield 63, 3) := by decide +kernel
theorem dX8_standingAfter_20 : decode cX8_standingAfter 20 = .ok (.aload_n 0, 1) := by decide +kernel
theorem dX8_standingAfter_21 : decode cX8_standingAfter 21 = .ok (.getfield 74, 3) := by decide +kernel
theorem dX8_standingAfter_24 : decode cX8_standingAfter 24 = .ok (.iload_n 1, 1) := by decide +kernel
theorem dX8_standingAfter_25 : decode cX8_standingAfter 25 = .ok (.invokevirtual 208, 3) := by decide +kernel
theorem dX8_standingAfter_28 : decode cX8_standingAfter 28 = .ok (.aload_n 0, 1) := by decide +kernel
theorem dX8_standingAfter_29 : decode cX8_standingAfter 29 = .ok (.getfield 74, 3) := by decide +kernel
theorem dX8_standingAfter_32 : decode cX8_standingAfter 32 = .ok (.getfield 128, 3) := by decide +kernel
theorem dX8_standingAfter_35 : decode cX8_standingAfter 35 = .ok (.invokestatic 131, 3) := by decide +kernel
theorem dX8_standingAfter_38 : decode cX8_standingAfter 38 = .ok (.ireturn, 1) := by decide +kernel
theorem dX8_peacesAfter_0 : decode cX8_peacesAfter 0 = .ok (.aload_n 0, 1) := by decide +kernel
theorem dX8_peacesAfter_1 : decode cX8_peacesAfter 1 = .ok (.iload_n 1, 1) := by decide +kernel
theorem dX8_peacesAfter_2 : decode cX8_peacesAfter 2 = .ok (.invokevirtual 205, 3) := by decide +kernel
theorem dX8_peacesAfter_5 : decode cX8_peacesAfter 5 = .ok (.aload_n 0, 1) := by decide +kernel
theorem dX8_peacesAfter_6 : decode cX8_peacesAfter 6 = .ok (.getfield 74, 3) := by decide +kernel
theorem dX8_peacesAfter_9 : decode cX8_peacesAfter 9 = .ok (.aload_n 0, 1) := by decide +kernel
theorem dX8_peacesAfter_10 : decode cX8_peacesAfter 10 = .ok (.getfield 70, 3) := by decide +kernel
theorem dX8_peacesAfter_13 : decode cX8_peacesAfter 13 = .ok (.invokevirtual 212, 3) := by decide +kernel
theorem dX8_peacesAfter_16 : decode cX8_peacesAfter 16 = .ok (.aload_n 0, 1) := by decide +kernel
theorem dX8_peacesAfter_17 : decode cX8_peacesAfter 17 = .ok (.getfield 63, 3) := by decide +kernel
theorem dX8_peacesAfter_20 : decode cX8_peacesAfter 20 = .ok (.aload_n 0, 1) := by decide +kernel
theorem dX8_peacesAfter_21 : decode cX8_peacesAfter 21 = .ok (.getfield 74, 3) := by decide +kernel
theorem dX8_peacesAfter_24 : decode cX8_peacesAfter 24 = .ok (.iload_n 1, 1) := by decide +kernel
theorem dX8_peacesAfter_25 : decode cX8_peacesAfter 25 = .ok (.invokevirtual 208, 3) := by decide +kernel
theorem dX8_peacesAfter_28 : decode cX8_peacesAfter 28 = .ok (.aload_n 0, 1) := by decide +kernel
theorem dX8_peacesAfter_29 : decode cX8_peacesAfter 29 = .ok (.getfield 54, 3) := by decide +kernel
theorem dX8_peacesAfter_32 : decode cX8_peacesAfter 32 = .ok (.aload_n 0, 1) := by decide +kernel
theorem dX8_peacesAfter_33 : decode cX8_peacesAfter 33 = .ok (.getfield 74, 3) := by decide +kernel
theorem dX8_peacesAfter_36 : decode cX8_peacesAfter 36 = .ok (.getfield 128, 3) := by decide +kernel
theorem dX8_peacesAfter_39 : decode cX8_peacesAfter 39 = .ok (.invokevirtual 156, 3) := by decide +kernel
theorem dX8_peacesAfter_42 : decode cX8_peacesAfter 42 = .ok (.ireturn, 1) := by decide +kernel
theorem dX8_daysUntilPeace_0 : decode cX8_daysUntilPeace 0 = .ok (.aload_n 0, 1) := by decide +kernel
theorem dX8_daysUntilPeace_1 : decode cX8_daysUntilPeace 1 = .ok (.getfield 74, 3) := by decide +kernel
theorem dX8_daysUntilPeace_4 : decode cX8_daysUntilPeace 4 = .ok (.aload_n 0, 1) := by decide +kernel
theorem dX8_daysUntilPeace_5 : decode cX8_daysUntilPeace 5 = .ok (.getfield 70, 3) := by decide +kernel
theorem dX8_daysUntilPeace_8 : decode cX8_daysUntilPeace 8 = .ok (.invokevirtual 212, 3) := by decide +kernel
theorem dX8_daysUntilPeace_11 : decode cX8_daysUntilPeace 11 = .ok (.iconst 0, 1) := by decide +kernel
theorem dX8_daysUntilPeace_12 : decode cX8_daysUntilPeace 12 = .ok (.istore_n 1, 1) := by decide +kernel
theorem dX8_daysUntilPeace_13 : decode cX8_daysUntilPeace 13 = .ok (.iload_n 1, 1) := by decide +kernel
theorem dX8_daysUntilPeace_14 : decode cX8_daysUntilPeace 14 = .ok (.bipush 30, 2) := by decide +kernel
theorem dX8_daysUntilPeace_16 : decode cX8_daysUntilPeace 16 = .ok (.if_icmp .ge 40, 3) := by decide +kernel
theorem dX8_daysUntilPeace_19 : decode cX8_daysUntilPeace 19 = .ok (.aload_n 0, 1) := by decide +kernel
theorem dX8_daysUntilPeace_20 : decode cX8_daysUntilPeace 20 = .ok (.getfield 54, 3) := by decide +kernel
theorem dX8_daysUntilPeace_23 : decode cX8_daysUntilPeace 23 = .ok (.aload_n 0, 1) := by decide +kernel
theorem dX8_daysUntilPeace_24 : decode cX8_daysUntilPeace 24 = .ok (.getfield 74, 3) := by decide +kernel
theorem dX8_daysUntilPeace_27 : decode cX8_daysUntilPeace 27 = .ok (.getfield 128, 3) := by decide +kernel
theorem dX8_daysUntilPeace_30 : decode cX8_daysUntilPeace 30 = .ok (.invokevirtual 156, 3) := by decide +kernel
theorem dX8_daysUntilPeace_33 : decode cX8_daysUntilPeace 33 = .ok (.ifCond .le 5, 3) := by decide +kernel
theorem dX8_daysUntilPeace_36 : decode cX8_daysUntilPeace 36 = .ok (.iload_n 1, 1) := by decide +kernel
theorem dX8_daysUntilPeace_37 : decode cX8_daysUntilPeace 37 = .ok (.ireturn, 1) := by decide +kernel
theorem dX8_daysUntilPeace_38 : decode cX8_daysUntilPeace 38 = .ok (.aload_n 0, 1) := by decide +kernel
theorem dX8_daysUntilPeace_39 : decode cX8_daysUntilPeace 39 = .ok (.getfield 63, 3) := by decide +kernel
theorem dX8_daysUntilPeace_42 : decode cX8_daysUntilPeace 42 = .ok (.aload_n 0, 1) := by decide +kernel
theorem dX8_daysUntilPeace_43 : decode cX8_daysUntilPeace 43 = .ok (.getfield 74, 3) := by decide +kernel
theorem dX8_daysUntilPeace_46 : decode cX8_daysUntilPeace 46 = .ok (.iconst 1, 1) := by decide +kernel
theorem dX8_daysUntilPeace_47 : decode cX8_daysUntilPeace 47 = .ok (.invokevirtual 208, 3) := by decide +kernel
theorem dX8_daysUntilPeace_50 : decode cX8_daysUntilPeace 50 = .ok (.iinc 1 1, 3) := by decide +kernel
theorem dX8_daysUntilPeace_53 : decode cX8_daysUntilPeace 53 = .ok (.goto (-40), 3) := by decide +kernel
theorem dX8_daysUntilPeace_56 : decode cX8_daysUntilPeace 56 = .ok (.aload_n 0, 1) := by decide +kernel
theorem dX8_daysUntilPeace_57 : decode cX8_daysUntilPeace 57 = .ok (.getfield 54, 3) := by decide +kernel
theorem dX8_daysUntilPeace_60 : decode cX8_daysUntilPeace 60 = .ok (.aload_n 0, 1) := by decide +kernel
theorem dX8_daysUntilPeace_61 : decode cX8_daysUntilPeace 61 = .ok (.getfield 74, 3) := by decide +kernel
theorem dX8_daysUntilPeace_64 : decode cX8_daysUntilPeace 64 = .ok (.getfield 128, 3) := by decide +kernel
theorem dX8_daysUntilPeace_67 : decode cX8_daysUntilPeace 67 = .ok (.invokevirtual 156, 3) := by decide +kernel
theorem dX8_daysUntilPeace_70 : decode cX8_daysUntilPeace 70 = .ok (.ifCond .le 8, 3) := by decide +kernel
theorem dX8_daysUntilPeace_73 : decode cX8_daysUntilPeace 73 = .ok (.bipush 30, 2) := by decide +kernel
theorem dX8_daysUntilPeace_75 : decode cX8_daysUntilPeace 75 = .ok (.goto 4, 3) := by decide +kernel
theorem dX8_daysUntilPeace_78 : decode cX8_daysUntilPeace 78 = .ok (.iconst (-1), 1) := by decide +kernel
theorem dX8_daysUntilPeace_79 : decode cX8_daysUntilPeace 79 = .ok (.ireturn, 1) := by decide +kernel
theorem dX8_fewestToBreak_0 : decode cX8_fewestToBreak 0 = .ok (.aload_n 0, 1) := by decide +kernel
theorem dX8_fewestToBreak_1 : decode cX8_fewestToBreak 1 = .ok (.getfield 54, 3) := by decide +kernel
theorem dX8_fewestToBreak_4 : decode cX8_fewestToBreak 4 = .ok (.aload_n 0, 1) := by decide +kernel
theorem dX8_fewestToBreak_5 : decode cX8_fewestToBreak 5 = .ok (.getfield 70, 3) := by decide +kernel
theorem dX8_fewestToBreak_8 : decode cX8_fewestToBreak 8 = .ok (.getfield 128, 3) := by decide +kernel
theorem dX8_fewestToBreak_11 : decode cX8_fewestToBreak 11 = .ok (.invokevirtual 216, 3) := by decide +kernel
theorem dX8_fewestToBreak_14 : decode cX8_fewestToBreak 14 = .ok (.ireturn, 1) := by decide +kernel
theorem dX8_mostTellingOath_0 : decode cX8_mostTellingOath 0 = .ok (.aload_n 0, 1) := by decide +kernel
theorem dX8_mostTellingOath_1 : decode cX8_mostTellingOath 1 = .ok (.invokevirtual 187, 3) := by decide +kernel
theorem dX8_mostTellingOath_4 : decode cX8_mostTellingOath 4 = .ok (.aload_n 0, 1) := by decide +kernel
theorem dX8_mostTellingOath_5 : decode cX8_mostTellingOath 5 = .ok (.getfield 30, 3) := by decide +kernel
theorem dX8_mostTellingOath_8 : decode cX8_mostTellingOath 8 = .ok (.getfield 113, 3) := by decide +kernel
theorem dX8_mostTellingOath_11 : decode cX8_mostTellingOath 11 = .ok (.ifCond .ne 13, 3) := by decide +kernel
theorem dX8_mostTellingOath_14 : decode cX8_mostTellingOath 14 = .ok (.new 84, 3) := by decide +kernel
theorem dX8_mostTellingOath_17 : decode cX8_mostTellingOath 17 = .ok (.dup, 1) := by decide +kernel
theorem dX8_mostTellingOath_18 : decode cX8_mostTellingOath 18 = .ok (.ldc 219, 2) := by decide +kernel
theorem dX8_mostTellingOath_20 : decode cX8_mostTellingOath 20 = .ok (.invokespecial 88, 3) := by decide +kernel
theorem dX8_mostTellingOath_23 : decode cX8_mostTellingOath 23 = .ok (.athrow, 1) := by decide +kernel
theorem dX8_mostTellingOath_24 : decode cX8_mostTellingOath 24 = .ok (.iconst 0, 1) := by decide +kernel
theorem dX8_mostTellingOath_25 : decode cX8_mostTellingOath 25 = .ok (.istore_n 1, 1) := by decide +kernel
theorem dX8_mostTellingOath_26 : decode cX8_mostTellingOath 26 = .ok (.iconst 0, 1) := by decide +kernel
theorem dX8_mostTellingOath_27 : decode cX8_mostTellingOath 27 = .ok (.istore_n 2, 1) := by decide +kernel
theorem dX8_mostTellingOath_28 : decode cX8_mostTellingOath 28 = .ok (.iconst 0, 1) := by decide +kernel
theorem dX8_mostTellingOath_29 : decode cX8_mostTellingOath 29 = .ok (.istore_n 3, 1) := by decide +kernel
theorem dX8_mostTellingOath_30 : decode cX8_mostTellingOath 30 = .ok (.iload_n 3, 1) := by decide +kernel
theorem dX8_mostTellingOath_31 : decode cX8_mostTellingOath 31 = .ok (.iconst 2, 1) := by decide +kernel
theorem dX8_mostTellingOath_32 : decode cX8_mostTellingOath 32 = .ok (.aload_n 0, 1) := by decide +kernel
theorem dX8_mostTellingOath_33 : decode cX8_mostTellingOath 33 = .ok (.getfield 30, 3) := by decide +kernel
theorem dX8_mostTellingOath_36 : decode cX8_mostTellingOath 36 = .ok (.getfield 113, 3) := by decide +kernel
theorem dX8_mostTellingOath_39 : decode cX8_mostTellingOath 39 = .ok (.imul, 1) := by decide +kernel
theorem dX8_mostTellingOath_40 : decode cX8_mostTellingOath 40 = .ok (.if_icmp .ge 46, 3) := by decide +kernel
theorem dX8_mostTellingOath_43 : decode cX8_mostTellingOath 43 = .ok (.aload_n 0, 1) := by decide +kernel
theorem dX8_mostTellingOath_44 : decode cX8_mostTellingOath 44 = .ok (.getfield 54, 3) := by decide +kernel
theorem dX8_mostTellingOath_47 : decode cX8_mostTellingOath 47 = .ok (.aload_n 0, 1) := by decide +kernel
theorem dX8_mostTellingOath_48 : decode cX8_mostTellingOath 48 = .ok (.getfield 70, 3) := by decide +kernel
theorem dX8_mostTellingOath_51 : decode cX8_mostTellingOath 51 = .ok (.getfield 128, 3) := by decide +kernel
theorem dX8_mostTellingOath_54 : decode cX8_mostTellingOath 54 = .ok (.iload_n 3, 1) := by decide +kernel
theorem dX8_mostTellingOath_55 : decode cX8_mostTellingOath 55 = .ok (.invokevirtual 184, 3) := by decide +kernel
theorem dX8_mostTellingOath_58 : decode cX8_mostTellingOath 58 = .ok (.istore 4, 2) := by decide +kernel
theorem dX8_mostTellingOath_60 : decode cX8_mostTellingOath 60 = .ok (.iload 4, 2) := by decide +kernel
theorem dX8_mostTellingOath_62 : decode cX8_mostTellingOath 62 = .ok (.ifCond .le 18, 3) := by decide +kernel
theorem dX8_mostTellingOath_65 : decode cX8_mostTellingOath 65 = .ok (.iload_n 2, 1) := by decide +kernel
theorem dX8_mostTellingOath_66 : decode cX8_mostTellingOath 66 = .ok (.ifCond .eq 9, 3) := by decide +kernel
theorem dX8_mostTellingOath_69 : decode cX8_mostTellingOath 69 = .ok (.iload 4, 2) := by decide +kernel
theorem dX8_mostTellingOath_71 : decode cX8_mostTellingOath 71 = .ok (.iload_n 2, 1) := by decide +kernel
theorem dX8_mostTellingOath_72 : decode cX8_mostTellingOath 72 = .ok (.if_icmp .ge 8, 3) := by decide +kernel
theorem dX8_mostTellingOath_75 : decode cX8_mostTellingOath 75 = .ok (.iload_n 3, 1) := by decide +kernel
theorem dX8_mostTellingOath_76 : decode cX8_mostTellingOath 76 = .ok (.istore_n 1, 1) := by decide +kernel
theorem dX8_mostTellingOath_77 : decode cX8_mostTellingOath 77 = .ok (.iload 4, 2) := by decide +kernel
theorem dX8_mostTellingOath_79 : decode cX8_mostTellingOath 79 = .ok (.istore_n 2, 1) := by decide +kernel
theorem dX8_mostTellingOath_80 : decode cX8_mostTellingOath 80 = .ok (.iinc 3 1, 3) := by decide +kernel
theorem dX8_mostTellingOath_83 : decode cX8_mostTellingOath 83 = .ok (.goto (-53), 3) := by decide +kernel
theorem dX8_mostTellingOath_86 : decode cX8_mostTellingOath 86 = .ok (.iload_n 1, 1) := by decide +kernel
theorem dX8_mostTellingOath_87 : decode cX8_mostTellingOath 87 = .ok (.ireturn, 1) := by decide +kernel
theorem dX8_meanRiders_0 : decode cX8_meanRiders 0 = .ok (.aload_n 0, 1) := by decide +kernel
theorem dX8_meanRiders_1 : decode cX8_meanRiders 1 = .ok (.getfield 54, 3) := by decide +kernel
theorem dX8_meanRiders_4 : decode cX8_meanRiders 4 = .ok (.aload_n 0, 1) := by decide +kernel
theorem dX8_meanRiders_5 : decode cX8_meanRiders 5 = .ok (.getfield 70, 3) := by decide +kernel
theorem dX8_meanRiders_8 : decode cX8_meanRiders 8 = .ok (.getfield 128, 3) := by decide +kernel
theorem dX8_meanRiders_11 : decode cX8_meanRiders 11 = .ok (.invokevirtual 156, 3) := by decide +kernel
theorem dX8_meanRiders_14 : decode cX8_meanRiders 14 = .ok (.istore_n 1, 1) := by decide +kernel
theorem dX8_meanRiders_15 : decode cX8_meanRiders 15 = .ok (.iload_n 1, 1) := by decide +kernel
theorem dX8_meanRiders_16 : decode cX8_meanRiders 16 = .ok (.ifCond .ne 5, 3) := by decide +kernel
theorem dX8_meanRiders_19 : decode cX8_meanRiders 19 = .ok (.dconst 0, 1) := by decide +kernel
theorem dX8_meanRiders_20 : decode cX8_meanRiders 20 = .ok (.dreturn, 1) := by decide +kernel
theorem dX8_meanRiders_21 : decode cX8_meanRiders 21 = .ok (.iconst 0, 1) := by decide +kernel
theorem dX8_meanRiders_22 : decode cX8_meanRiders 22 = .ok (.istore_n 2, 1) := by decide +kernel
theorem dX8_meanRiders_23 : decode cX8_meanRiders 23 = .ok (.iconst 0, 1) := by decide +kernel
theorem dX8_meanRiders_24 : decode cX8_meanRiders 24 = .ok (.istore_n 3, 1) := by decide +kernel
theorem dX8_meanRiders_25 : decode cX8_meanRiders 25 = .ok (.iload_n 3, 1) := by decide +kernel
theorem dX8_meanRiders_26 : decode cX8_meanRiders 26 = .ok (.aload_n 0, 1) := by decide +kernel
theorem dX8_meanRiders_27 : decode cX8_meanRiders 27 = .ok (.getfield 30, 3) := by decide +kernel
theorem dX8_meanRiders_30 : decode cX8_meanRiders 30 = .ok (.getfield 113, 3) := by decide +kernel
theorem dX8_meanRiders_33 : decode cX8_meanRiders 33 = .ok (.if_icmp .ge 29, 3) := by decide +kernel
theorem dX8_meanRiders_36 : decode cX8_meanRiders 36 = .ok (.iload_n 2, 1) := by decide +kernel
theorem dX8_meanRiders_37 : decode cX8_meanRiders 37 = .ok (.aload_n 0, 1) := by decide +kernel
theorem dX8_meanRiders_38 : decode cX8_meanRiders 38 = .ok (.getfield 54, 3) := by decide +kernel
theorem dX8_meanRiders_41 : decode cX8_meanRiders 41 = .ok (.aload_n 0, 1) := by decide +kernel
theorem dX8_meanRiders_42 : decode cX8_meanRiders 42 = .ok (.getfield 70, 3) := by decide +kernel
theorem dX8_meanRiders_45 : decode cX8_meanRiders 45 = .ok (.getfield 128, 3) := by decide +kernel
theorem dX8_meanRiders_48 : decode cX8_meanRiders 48 = .ok (.iconst 2, 1) := by decide +kernel
theorem dX8_meanRiders_49 : decode cX8_meanRiders 49 = .ok (.iload_n 3, 1) := by decide +kernel
theorem dX8_meanRiders_50 : decode cX8_meanRiders 50 = .ok (.imul, 1) := by decide +kernel
theorem dX8_meanRiders_51 : decode cX8_meanRiders 51 = .ok (.invokevirtual 184, 3) := by decide +kernel
theorem dX8_meanRiders_54 : decode cX8_meanRiders 54 = .ok (.iadd, 1) := by decide +kernel
theorem dX8_meanRiders_55 : decode cX8_meanRiders 55 = .ok (.istore_n 2, 1) := by decide +kernel
theorem dX8_meanRiders_56 : decode cX8_meanRiders 56 = .ok (.iinc 3 1, 3) := by decide +kernel
theorem dX8_meanRiders_59 : decode cX8_meanRiders 59 = .ok (.goto (-34), 3) := by decide +kernel
theorem dX8_meanRiders_62 : decode cX8_meanRiders 62 = .ok (.iload_n 2, 1) := by decide +kernel
theorem dX8_meanRiders_63 : decode cX8_meanRiders 63 = .ok (.i2d, 1) := by decide +kernel
theorem dX8_meanRiders_64 : decode cX8_meanRiders 64 = .ok (.iload_n 1, 1) := by decide +kernel
theorem dX8_meanRiders_65 : decode cX8_meanRiders 65 = .ok (.i2d, 1) := by decide +kernel
theorem dX8_meanRiders_66 : decode cX8_meanRiders 66 = .ok (.ddiv, 1) := by decide +kernel
theorem dX8_meanRiders_67 : decode cX8_meanRiders 67 = .ok (.dreturn, 1) := by decide +kernel
theorem dX8_digest_0 : decode cX8_digest 0 = .ok (.ldc2_w 221, 3) := by decide +kernel
theorem dX8_digest_3 : decode cX8_digest 3 = .ok (.lstore_n 1, 1) := by decide +kernel
theorem dX8_digest_4 : decode cX8_digest 4 = .ok (.lload_n 1, 1) := by decide +kernel
theorem dX8_digest_5 : decode cX8_digest 5 = .ok (.ldc2_w 223, 3) := by decide +kernel
theorem dX8_digest_8 : decode cX8_digest 8 = .ok (.lmul, 1) := by decide +kernel
theorem dX8_digest_9 : decode cX8_digest 9 = .ok (.aload_n 0, 1) := by decide +kernel
theorem dX8_digest_10 : decode cX8_digest 10 = .ok (.getfield 30, 3) := by decide +kernel
theorem dX8_digest_13 : decode cX8_digest 13 = .ok (.getfield 113, 3) := by decide +kernel
theorem dX8_digest_16 : decode cX8_digest 16 = .ok (.i2l, 1) := by decide +kernel
theorem dX8_digest_17 : decode cX8_digest 17 = .ok (.ladd, 1) := by decide +kernel
theorem dX8_digest_18 : decode cX8_digest 18 = .ok (.lstore_n 1, 1) := by decide +kernel
theorem dX8_digest_19 : decode cX8_digest 19 = .ok (.lload_n 1, 1) := by decide +kernel
theorem dX8_digest_20 : decode cX8_digest 20 = .ok (.ldc2_w 223, 3) := by decide +kernel
theorem dX8_digest_23 : decode cX8_digest 23 = .ok (.lmul, 1) := by decide +kernel
theorem dX8_digest_24 : decode cX8_digest 24 = .ok (.aload_n 0, 1) := by decide +kernel
theorem dX8_digest_25 : decode cX8_digest 25 = .ok (.getfield 30, 3) := by decide +kernel
theorem dX8_digest_28 : decode cX8_digest 28 = .ok (.getfield 116, 3) := by decide +kernel
theorem dX8_digest_31 : decode cX8_digest 31 = .ok (.i2l, 1) := by decide +kernel
theorem dX8_digest_32 : decode cX8_digest 32 = .ok (.ladd, 1) := by decide +kernel
theorem dX8_digest_33 : decode cX8_digest 33 = .ok (.lstore_n 1, 1) := by decide +kernel
theorem dX8_digest_34 : decode cX8_digest 34 = .ok (.lload_n 1, 1) := by decide +kernel
theorem dX8_digest_35 : decode cX8_digest 35 = .ok (.ldc2_w 223, 3) := by decide +kernel
theorem dX8_digest_38 : decode cX8_digest 38 = .ok (.lmul, 1) := by decide +kernel
theorem dX8_digest_39 : decode cX8_digest 39 = .ok (.aload_n 0, 1) := by decide +kernel
theorem dX8_digest_40 : decode cX8_digest 40 = .ok (.getfield 30, 3) := by decide +kernel
theorem dX8_digest_43 : decode cX8_digest 43 = .ok (.getfield 119, 3) := by decide +kernel
theorem dX8_digest_46 : decode cX8_digest 46 = .ok (.i2l, 1) := by decide +kernel
theorem dX8_digest_47 : decode cX8_digest 47 = .ok (.ladd, 1) := by decide +kernel
theorem dX8_digest_48 : decode cX8_digest 48 = .ok (.lstore_n 1, 1) := by decide +kernel
theorem dX8_digest_49 : decode cX8_digest 49 = .ok (.lload_n 1, 1) := by decide +kernel
theorem dX8_digest_50 : decode cX8_digest 50 = .ok (.ldc2_w 223, 3) := by decide +kernel
theorem dX8_digest_53 : decode cX8_digest 53 = .ok (.lmul, 1) := by decide +kernel
theorem dX8_digest_54 : decode cX8_digest 54 = .ok (.aload_n 0, 1) := by decide +kernel
theorem dX8_digest_55 : decode cX8_digest 55 = .ok (.getfield 70, 3) := by decide +kernel
theorem dX8_digest_58 : decode cX8_digest 58 = .ok (.getfield 122, 3) := by decide +kernel
theorem dX8_digest_61 : decode cX8_digest 61 = .ok (.i2l, 1) := by decide +kernel
theorem dX8_digest_62 : decode cX8_digest 62 = .ok (.ladd, 1) := by decide +kernel
theorem dX8_digest_63 : decode cX8_digest 63 = .ok (.lstore_n 1, 1) := by decide +kernel
theorem dX8_digest_64 : decode cX8_digest 64 = .ok (.lload_n 1, 1) := by decide +kernel
theorem dX8_digest_65 : decode cX8_digest 65 = .ok (.ldc2_w 223, 3) := by decide +kernel
theorem dX8_digest_68 : decode cX8_digest 68 = .ok (.lmul, 1) := by decide +kernel
theorem dX8_digest_69 : decode cX8_digest 69 = .ok (.aload_n 0, 1) := by decide +kernel
theorem dX8_digest_70 : decode cX8_digest 70 = .ok (.getfield 70, 3) := by decide +kernel
theorem dX8_digest_73 : decode cX8_digest 73 = .ok (.getfield 125, 3) := by decide +kernel
theorem dX8_digest_76 : decode cX8_digest 76 = .ok (.i2l, 1) := by decide +kernel
theorem dX8_digest_77 : decode cX8_digest 77 = .ok (.ladd, 1) := by decide +kernel
theorem dX8_digest_78 : decode cX8_digest 78 = .ok (.lstore_n 1, 1) := by decide +kernel
theorem dX8_digest_79 : decode cX8_digest 79 = .ok (.lload_n 1, 1) := by decide +kernel
theorem dX8_digest_80 : decode cX8_digest 80 = .ok (.ldc2_w 223, 3) := by decide +kernel
theorem dX8_digest_83 : decode cX8_digest 83 = .ok (.lmul, 1) := by decide +kernel
theorem dX8_digest_84 : decode cX8_digest 84 = .ok (.aload_n 0, 1) := by decide +kernel
theorem dX8_digest_85 : decode cX8_digest 85 = .ok (.getfield 12, 3) := by decide +kernel
theorem dX8_digest_88 : decode cX8_digest 88 = .ok (.getfield 81, 3) := by decide +kernel
theorem dX8_digest_91 : decode cX8_digest 91 = .ok (.i2l, 1) := by decide +kernel
theorem dX8_digest_92 : decode cX8_digest 92 = .ok (.ladd, 1) := by decide +kernel
theorem dX8_digest_93 : decode cX8_digest 93 = .ok (.lstore_n 1, 1) := by decide +kernel
theorem dX8_digest_94 : decode cX8_digest 94 = .ok (.lload_n 1, 1) := by decide +kernel
theorem dX8_digest_95 : decode cX8_digest 95 = .ok (.ldc2_w 223, 3) := by decide +kernel
theorem dX8_digest_98 : decode cX8_digest 98 = .ok (.lmul, 1) := by decide +kernel
theorem dX8_digest_99 : decode cX8_digest 99 = .ok (.aload_n 0, 1) := by decide +kernel
theorem dX8_digest_100 : decode cX8_digest 100 = .ok (.getfield 70, 3) := by decide +kernel
theorem dX8_digest_103 : decode cX8_digest 103 = .ok (.getfield 128, 3) := by decide +kernel
theorem dX8_digest_106 : decode cX8_digest 106 = .ok (.invokestatic 131, 3) := by decide +kernel
theorem dX8_digest_109 : decode cX8_digest 109 = .ok (.i2l, 1) := by decide +kernel
theorem dX8_digest_110 : decode cX8_digest 110 = .ok (.ladd, 1) := by decide +kernel
theorem dX8_digest_111 : decode cX8_digest 111 = .ok (.lstore_n 1, 1) := by decide +kernel
theorem dX8_digest_112 : decode cX8_digest 112 = .ok (.lload_n 1, 1) := by decide +kernel
theorem dX8_digest_113 : decode cX8_digest 113 = .ok (.ldc2_w 223, 3) := by decide +kernel
theorem dX8_digest_116 : decode cX8_digest 116 = .ok (.lmul, 1) := by decide +kernel
theorem dX8_digest_117 : decode cX8_digest 117 = .ok (.aload_n 0, 1) := by decide +kernel
theorem dX8_digest_118 : decode cX8_digest 118 = .ok (.getfield 47, 3) := by decide +kernel
theorem dX8_digest_121 : decode cX8_digest 121 = .ok (.aload_n 0, 1) := by decide +kernel
theorem dX8_digest_122 : decode cX8_digest 122 = .ok (.getfield 70, 3) := by decide +kernel
theorem dX8_digest_125 : decode cX8_digest 125 = .ok (.getfield 128, 3) := by decide +kernel
theorem dX8_digest_128 : decode cX8_digest 128 = .ok (.invokevirtual 175, 3) := by decide +kernel
theorem dX8_digest_131 : decode cX8_digest 131 = .ok (.i2l, 1) := by decide +kernel
theorem dX8_digest_132 : decode cX8_digest 132 = .ok (.ladd, 1) := by decide +kernel
theorem dX8_digest_133 : decode cX8_digest 133 = .ok (.lstore_n 1, 1) := by decide +kernel
theorem dX8_digest_134 : decode cX8_digest 134 = .ok (.lload_n 1, 1) := by decide +kernel
theorem dX8_digest_135 : decode cX8_digest 135 = .ok (.ldc2_w 223, 3) := by decide +kernel
theorem dX8_digest_138 : decode cX8_digest 138 = .ok (.lmul, 1) := by decide +kernel
theorem dX8_digest_139 : decode cX8_digest 139 = .ok (.aload_n 0, 1) := by decide +kernel
theorem dX8_digest_140 : decode cX8_digest 140 = .ok (.getfield 54, 3) := by decide +kernel
theorem dX8_digest_143 : decode cX8_digest 143 = .ok (.aload_n 0, 1) := by decide +kernel
theorem dX8_digest_144 : decode cX8_digest 144 = .ok (.getfield 70, 3) := by decide +kernel
theorem dX8_digest_147 : decode cX8_digest 147 = .ok (.getfield 128, 3) := by decide +kernel
theorem dX8_digest_150 : decode cX8_digest 150 = .ok (.invokevirtual 156, 3) := by decide +kernel
theorem dX8_digest_153 : decode cX8_digest 153 = .ok (.i2l, 1) := by decide +kernel
theorem dX8_digest_154 : decode cX8_digest 154 = .ok (.ladd, 1) := by decide +kernel
theorem dX8_digest_155 : decode cX8_digest 155 = .ok (.lstore_n 1, 1) := by decide +kernel
theorem dX8_digest_156 : decode cX8_digest 156 = .ok (.aload_n 0, 1) := by decide +kernel
theorem dX8_digest_157 : decode cX8_digest 157 = .ok (.lload_n 1, 1) := by decide +kernel
theorem dX8_digest_158 : decode cX8_digest 158 = .ok (.invokevirtual 225, 3) := by decide +kernel
theorem dX8_digest_161 : decode cX8_digest 161 = .ok (.lstore_n 1, 1) := by decide +kernel
theorem dX8_digest_162 : decode cX8_digest 162 = .ok (.aload_n 0, 1) := by decide +kernel
theorem dX8_digest_163 : decode cX8_digest 163 = .ok (.lload_n 1, 1) := by decide +kernel
theorem dX8_digest_164 : decode cX8_digest 164 = .ok (.invokevirtual 229, 3) := by decide +kernel
theorem dX8_digest_167 : decode cX8_digest 167 = .ok (.lstore_n 1, 1) := by decide +kernel
theorem dX8_digest_168 : decode cX8_digest 168 = .ok (.aload_n 0, 1) := by decide +kernel
theorem dX8_digest_169 : decode cX8_digest 169 = .ok (.lload_n 1, 1) := by decide +kernel
theorem dX8_digest_170 : decode cX8_digest 170 = .ok (.invokevirtual 232, 3) := by decide +kernel
theorem dX8_digest_173 : decode cX8_digest 173 = .ok (.lreturn, 1) := by decide +kernel
theorem dX8_digestStatements_0 : decode cX8_digestStatements 0 = .ok (.lload_n 1, 1) := by decide +kernel
theorem dX8_digestStatements_1 : decode cX8_digestStatements 1 = .ok (.lstore_n 3, 1) := by decide +kernel
theorem dX8_digestStatements_2 : decode cX8_digestStatements 2 = .ok (.iconst 0, 1) := by decide +kernel
theorem dX8_digestStatements_3 : decode cX8_digestStatements 3 = .ok (.istore 5, 2) := by decide +kernel
theorem dX8_digestStatements_5 : decode cX8_digestStatements 5 = .ok (.iload 5, 2) := by decide +kernel
theorem dX8_digestStatements_7 : decode cX8_digestStatements 7 = .ok (.aload_n 0, 1) := by decide +kernel
theorem dX8_digestStatements_8 : decode cX8_digestStatements 8 = .ok (.getfield 30, 3) := by decide +kernel
theorem dX8_digestStatements_11 : decode cX8_digestStatements 11 = .ok (.getfield 116, 3) := by decide +kernel
theorem dX8_digestStatements_14 : decode cX8_digestStatements 14 = .ok (.if_icmp .ge 88, 3) := by decide +kernel
theorem dX8_digestStatements_17 : decode cX8_digestStatements 17 = .ok (.lload_n 3, 1) := by decide +kernel
theorem dX8_digestStatements_18 : decode cX8_digestStatements 18 = .ok (.ldc2_w 223, 3) := by decide +kernel
theorem dX8_digestStatements_21 : decode cX8_digestStatements 21 = .ok (.lmul, 1) := by decide +kernel
theorem dX8_digestStatements_22 : decode cX8_digestStatements 22 = .ok (.aload_n 0, 1) := by decide +kernel
theorem dX8_digestStatements_23 : decode cX8_digestStatements 23 = .ok (.getfield 30, 3) := by decide +kernel
theorem dX8_digestStatements_26 : decode cX8_digestStatements 26 = .ok (.iload 5, 2) := by decide +kernel
theorem dX8_digestStatements_28 : decode cX8_digestStatements 28 = .ok (.invokevirtual 140, 3) := by decide +kernel
theorem dX8_digestStatements_31 : decode cX8_digestStatements 31 = .ok (.i2l, 1) := by decide +kernel
theorem dX8_digestStatements_32 : decode cX8_digestStatements 32 = .ok (.ladd, 1) := by decide +kernel
theorem dX8_digestStatements_33 : decode cX8_digestStatements 33 = .ok (.lstore_n 3, 1) := by decide +kernel
theorem dX8_digestStatements_34 : decode cX8_digestStatements 34 = .ok (.lload_n 3, 1) := by decide +kernel
theorem dX8_digestStatements_35 : decode cX8_digestStatements 35 = .ok (.ldc2_w 223, 3) := by decide +kernel
theorem dX8_digestStatements_38 : decode cX8_digestStatements 38 = .ok (.lmul, 1) := by decide +kernel
theorem dX8_digestStatements_39 : decode cX8_digestStatements 39 = .ok (.aload_n 0, 1) := by decide +kernel
theorem dX8_digestStatements_40 : decode cX8_digestStatements 40 = .ok (.getfield 30, 3) := by decide +kernel
theorem dX8_digestStatements_43 : decode cX8_digestStatements 43 = .ok (.iload 5, 2) := by decide +kernel
theorem dX8_digestStatements_45 : decode cX8_digestStatements 45 = .ok (.invokevirtual 143, 3) := by decide +kernel
theorem dX8_digestStatements_48 : decode cX8_digestStatements 48 = .ok (.i2l, 1) := by decide +kernel
theorem dX8_digestStatements_49 : decode cX8_digestStatements 49 = .ok (.ladd, 1) := by decide +kernel
theorem dX8_digestStatements_50 : decode cX8_digestStatements 50 = .ok (.lstore_n 3, 1) := by decide +kernel
theorem dX8_digestStatements_51 : decode cX8_digestStatements 51 = .ok (.lload_n 3, 1) := by decide +kernel
theorem dX8_digestStatements_52 : decode cX8_digestStatements 52 = .ok (.ldc2_w 223, 3) := by decide +kernel
theorem dX8_digestStatements_55 : decode cX8_digestStatements 55 = .ok (.lmul, 1) := by decide +kernel
theorem dX8_digestStatements_56 : decode cX8_digestStatements 56 = .ok (.aload_n 0, 1) := by decide +kernel
theorem dX8_digestStatements_57 : decode cX8_digestStatements 57 = .ok (.getfield 30, 3) := by decide +kernel
theorem dX8_digestStatements_60 : decode cX8_digestStatements 60 = .ok (.iload 5, 2) := by decide +kernel
theorem dX8_digestStatements_62 : decode cX8_digestStatements 62 = .ok (.invokevirtual 146, 3) := by decide +kernel
theorem dX8_digestStatements_65 : decode cX8_digestStatements 65 = .ok (.i2l, 1) := by decide +kernel
theorem dX8_digestStatements_66 : decode cX8_digestStatements 66 = .ok (.ladd, 1) := by decide +kernel
theorem dX8_digestStatements_67 : decode cX8_digestStatements 67 = .ok (.lstore_n 3, 1) := by decide +kernel
theorem dX8_digestStatements_68 : decode cX8_digestStatements 68 = .ok (.lload_n 3, 1) := by decide +kernel
theorem dX8_digestStatements_69 : decode cX8_digestStatements 69 = .ok (.ldc2_w 223, 3) := by decide +kernel
theorem dX8_digestStatements_72 : decode cX8_digestStatements 72 = .ok (.lmul, 1) := by decide +kernel
theorem dX8_digestStatements_73 : decode cX8_digestStatements 73 = .ok (.aload_n 0, 1) := by decide +kernel
theorem dX8_digestStatements_74 : decode cX8_digestStatements 74 = .ok (.getfield 70, 3) := by decide +kernel
theorem dX8_digestStatements_77 : decode cX8_digestStatements 77 = .ok (.getfield 128, 3) := by decide +kernel
theorem dX8_digestStatements_80 : decode cX8_digestStatements 80 = .ok (.iload 5, 2) := by decide +kernel
theorem dX8_digestStatements_82 : decode cX8_digestStatements 82 = .ok (.invokestatic 149, 3) := by decide +kernel
theorem dX8_digestStatements_85 : decode cX8_digestStatements 85 = .ok (.ifCond .eq 7, 3) := by decide +kernel
theorem dX8_digestStatements_88 : decode cX8_digestStatements 88 = .ok (.iconst 1, 1) := by decide +kernel
theorem dX8_digestStatements_89 : decode cX8_digestStatements 89 = .ok (.goto 4, 3) := by decide +kernel
theorem dX8_digestStatements_92 : decode cX8_digestStatements 92 = .ok (.iconst 0, 1) := by decide +kernel
theorem dX8_digestStatements_93 : decode cX8_digestStatements 93 = .ok (.i2l, 1) := by decide +kernel
theorem dX8_digestStatements_94 : decode cX8_digestStatements 94 = .ok (.ladd, 1) := by decide +kernel
theorem dX8_digestStatements_95 : decode cX8_digestStatements 95 = .ok (.lstore_n 3, 1) := by decide +kernel
theorem dX8_digestStatements_96 : decode cX8_digestStatements 96 = .ok (.iinc 5 1, 3) := by decide +kernel
theorem dX8_digestStatements_99 : decode cX8_digestStatements 99 = .ok (.goto (-94), 3) := by decide +kernel
theorem dX8_digestStatements_102 : decode cX8_digestStatements 102 = .ok (.lload_n 3, 1) := by decide +kernel
theorem dX8_digestStatements_103 : decode cX8_digestStatements 103 = .ok (.lreturn, 1) := by decide +kernel
theorem dX8_digestClaims_0 : decode cX8_digestClaims 0 = .ok (.lload_n 1, 1) := by decide +kernel
theorem dX8_digestClaims_1 : decode cX8_digestClaims 1 = .ok (.lstore_n 3, 1) := by decide +kernel
theorem dX8_digestClaims_2 : decode cX8_digestClaims 2 = .ok (.iconst 0, 1) := by decide +kernel
theorem dX8_digestClaims_3 : decode cX8_digestClaims 3 = .ok (.istore 5, 2) := by decide +kernel
theorem dX8_digestClaims_5 : decode cX8_digestClaims 5 = .ok (.iload 5, 2) := by decide +kernel
theorem dX8_digestClaims_7 : decode cX8_digestClaims 7 = .ok (.iconst 2, 1) := by decide +kernel
theorem dX8_digestClaims_8 : decode cX8_digestClaims 8 = .ok (.aload_n 0, 1) := by decide +kernel
theorem dX8_digestClaims_9 : decode cX8_digestClaims 9 = .ok (.getfield 30, 3) := by decide +kernel
theorem dX8_digestClaims_12 : decode cX8_digestClaims 12 = .ok (.getfield 113, 3) := by decide +kernel
theorem dX8_digestClaims_15 : decode cX8_digestClaims 15 = .ok (.imul, 1) := by decide +kernel
theorem dX8_digestClaims_16 : decode cX8_digestClaims 16 = .ok (.if_icmp .ge 87, 3) := by decide +kernel
theorem dX8_digestClaims_19 : decode cX8_digestClaims 19 = .ok (.lload_n 3, 1) := by decide +kernel
theorem dX8_digestClaims_20 : decode cX8_digestClaims 20 = .ok (.ldc2_w 223, 3) := by decide +kernel
theorem dX8_digestClaims_23 : decode cX8_digestClaims 23 = .ok (.lmul, 1) := by decide +kernel
theorem dX8_digestClaims_24 : decode cX8_digestClaims 24 = .ok (.aload_n 0, 1) := by decide +kernel
theorem dX8_digestClaims_25 : decode cX8_digestClaims 25 = .ok (.getfield 47, 3) := by decide +kernel
theorem dX8_digestClaims_28 : decode cX8_digestClaims 28 = .ok (.aload_n 0, 1) := by decide +kernel
theorem dX8_digestClaims_29 : decode cX8_digestClaims 29 = .ok (.getfield 70, 3) := by decide +kernel
theorem dX8_digestClaims_32 : decode cX8_digestClaims 32 = .ok (.getfield 128, 3) := by decide +kernel
theorem dX8_digestClaims_35 : decode cX8_digestClaims 35 = .ok (.iload 5, 2) := by decide +kernel
theorem dX8_digestClaims_37 : decode cX8_digestClaims 37 = .ok (.invokevirtual 166, 3) := by decide +kernel
theorem dX8_digestClaims_40 : decode cX8_digestClaims 40 = .ok (.invokestatic 131, 3) := by decide +kernel
theorem dX8_digestClaims_43 : decode cX8_digestClaims 43 = .ok (.i2l, 1) := by decide +kernel
theorem dX8_digestClaims_44 : decode cX8_digestClaims 44 = .ok (.ladd, 1) := by decide +kernel
theorem dX8_digestClaims_45 : decode cX8_digestClaims 45 = .ok (.lstore_n 3, 1) := by decide +kernel
theorem dX8_digestClaims_46 : decode cX8_digestClaims 46 = .ok (.lload_n 3, 1) := by decide +kernel
theorem dX8_digestClaims_47 : decode cX8_digestClaims 47 = .ok (.ldc2_w 223, 3) := by decide +kernel
theorem dX8_digestClaims_50 : decode cX8_digestClaims 50 = .ok (.lmul, 1) := by decide +kernel
theorem dX8_digestClaims_51 : decode cX8_digestClaims 51 = .ok (.aload_n 0, 1) := by decide +kernel
theorem dX8_digestClaims_52 : decode cX8_digestClaims 52 = .ok (.getfield 47, 3) := by decide +kernel
theorem dX8_digestClaims_55 : decode cX8_digestClaims 55 = .ok (.aload_n 0, 1) := by decide +kernel
theorem dX8_digestClaims_56 : decode cX8_digestClaims 56 = .ok (.getfield 70, 3) := by decide +kernel
theorem dX8_digestClaims_59 : decode cX8_digestClaims 59 = .ok (.getfield 128, 3) := by decide +kernel
theorem dX8_digestClaims_62 : decode cX8_digestClaims 62 = .ok (.iload 5, 2) := by decide +kernel
theorem dX8_digestClaims_64 : decode cX8_digestClaims 64 = .ok (.invokevirtual 178, 3) := by decide +kernel
theorem dX8_digestClaims_67 : decode cX8_digestClaims 67 = .ok (.invokestatic 181, 3) := by decide +kernel
theorem dX8_digestClaims_70 : decode cX8_digestClaims 70 = .ok (.i2l, 1) := by decide +kernel
theorem dX8_digestClaims_71 : decode cX8_digestClaims 71 = .ok (.ladd, 1) := by decide +kernel
theorem dX8_digestClaims_72 : decode cX8_digestClaims 72 = .ok (.lstore_n 3, 1) := by decide +kernel
theorem dX8_digestClaims_73 : decode cX8_digestClaims 73 = .ok (.lload_n 3, 1) := by decide +kernel
theorem dX8_digestClaims_74 : decode cX8_digestClaims 74 = .ok (.ldc2_w 223, 3) := by decide +kernel
theorem dX8_digestClaims_77 : decode cX8_digestClaims 77 = .ok (.lmul, 1) := by decide +kernel
theorem dX8_digestClaims_78 : decode cX8_digestClaims 78 = .ok (.aload_n 0, 1) := by decide +kernel
theorem dX8_digestClaims_79 : decode cX8_digestClaims 79 = .ok (.getfield 54, 3) := by decide +kernel
theorem dX8_digestClaims_82 : decode cX8_digestClaims 82 = .ok (.aload_n 0, 1) := by decide +kernel
theorem dX8_digestClaims_83 : decode cX8_digestClaims 83 = .ok (.getfield 70, 3) := by decide +kernel
theorem dX8_digestClaims_86 : decode cX8_digestClaims 86 = .ok (.getfield 128, 3) := by decide +kernel
theorem dX8_digestClaims_89 : decode cX8_digestClaims 89 = .ok (.iload 5, 2) := by decide +kernel
theorem dX8_digestClaims_91 : decode cX8_digestClaims 91 = .ok (.invokevirtual 184, 3) := by decide +kernel
theorem dX8_digestClaims_94 : decode cX8_digestClaims 94 = .ok (.i2l, 1) := by decide +kernel
theorem dX8_digestClaims_95 : decode cX8_digestClaims 95 = .ok (.ladd, 1) := by decide +kernel
theorem dX8_digestClaims_96 : decode cX8_digestClaims 96 = .ok (.lstore_n 3, 1) := by decide +kernel
theorem dX8_digestClaims_97 : decode cX8_digestClaims 97 = .ok (.iinc 5 1, 3) := by decide +kernel
theorem dX8_digestClaims_100 : decode cX8_digestClaims 100 = .ok (.goto (-95), 3) := by decide +kernel
theorem dX8_digestClaims_103 : decode cX8_digestClaims 103 = .ok (.lload_n 3, 1) := by decide +kernel
theorem dX8_digestClaims_104 : decode cX8_digestClaims 104 = .ok (.lreturn, 1) := by decide +kernel
theorem dX8_digestPeace_0 : decode cX8_digestPeace 0 = .ok (.lload_n 1, 1) := by decide +kernel
theorem dX8_digestPeace_1 : decode cX8_digestPeace 1 = .ok (.lstore_n 3, 1) := by decide +kernel
theorem dX8_digestPeace_2 : decode cX8_digestPeace 2 = .ok (.aload_n 0, 1) := by decide +kernel
theorem dX8_digestPeace_3 : decode cX8_digestPeace 3 = .ok (.getfield 54, 3) := by decide +kernel
theorem dX8_digestPeace_6 : decode cX8_digestPeace 6 = .ok (.aload_n 0, 1) := by decide +kernel
theorem dX8_digestPeace_7 : decode cX8_digestPeace 7 = .ok (.getfield 70, 3) := by decide +kernel
theorem dX8_digestPeace_10 : decode cX8_digestPeace 10 = .ok (.getfield 128, 3) := by decide +kernel
theorem dX8_digestPeace_13 : decode cX8_digestPeace 13 = .ok (.invokevirtual 156, 3) := by decide +kernel
theorem dX8_digestPeace_16 : decode cX8_digestPeace 16 = .ok (.ifCond .ne 5, 3) := by decide +kernel
theorem dX8_digestPeace_19 : decode cX8_digestPeace 19 = .ok (.lload_n 3, 1) := by decide +kernel
theorem dX8_digestPeace_20 : decode cX8_digestPeace 20 = .ok (.lreturn, 1) := by decide +kernel
theorem dX8_digestPeace_21 : decode cX8_digestPeace 21 = .ok (.aload_n 0, 1) := by decide +kernel
theorem dX8_digestPeace_22 : decode cX8_digestPeace 22 = .ok (.getfield 54, 3) := by decide +kernel
theorem dX8_digestPeace_25 : decode cX8_digestPeace 25 = .ok (.aload_n 0, 1) := by decide +kernel
theorem dX8_digestPeace_26 : decode cX8_digestPeace 26 = .ok (.getfield 70, 3) := by decide +kernel
theorem dX8_digestPeace_29 : decode cX8_digestPeace 29 = .ok (.getfield 128, 3) := by decide +kernel
theorem dX8_digestPeace_32 : decode cX8_digestPeace 32 = .ok (.invokevirtual 195, 3) := by decide +kernel
theorem dX8_digestPeace_35 : decode cX8_digestPeace 35 = .ok (.istore 5, 2) := by decide +kernel
theorem dX8_digestPeace_37 : decode cX8_digestPeace 37 = .ok (.iconst 0, 1) := by decide +kernel
theorem dX8_digestPeace_38 : decode cX8_digestPeace 38 = .ok (.istore 6, 2) := by decide +kernel
theorem dX8_digestPeace_40 : decode cX8_digestPeace 40 = .ok (.iload 6, 2) := by decide +kernel
theorem dX8_digestPeace_42 : decode cX8_digestPeace 42 = .ok (.aload_n 0, 1) := by decide +kernel
theorem dX8_digestPeace_43 : decode cX8_digestPeace 43 = .ok (.getfield 30, 3) := by decide +kernel
theorem dX8_digestPeace_46 : decode cX8_digestPeace 46 = .ok (.getfield 113, 3) := by decide +kernel
theorem dX8_digestPeace_49 : decode cX8_digestPeace 49 = .ok (.if_icmp .ge 32, 3) := by decide +kernel
theorem dX8_digestPeace_52 : decode cX8_digestPeace 52 = .ok (.lload_n 3, 1) := by decide +kernel
theorem dX8_digestPeace_53 : decode cX8_digestPeace 53 = .ok (.ldc2_w 223, 3) := by decide +kernel
theorem dX8_digestPeace_56 : decode cX8_digestPeace 56 = .ok (.lmul, 1) := by decide +kernel
theorem dX8_digestPeace_57 : decode cX8_digestPeace 57 = .ok (.iload 5, 2) := by decide +kernel
theorem dX8_digestPeace_59 : decode cX8_digestPeace 59 = .ok (.iload 6, 2) := by decide +kernel
theorem dX8_digestPeace_61 : decode cX8_digestPeace 61 = .ok (.invokestatic 149, 3) := by decide +kernel
theorem dX8_digestPeace_64 : decode cX8_digestPeace 64 = .ok (.ifCond .eq 7, 3) := by decide +kernel
theorem dX8_digestPeace_67 : decode cX8_digestPeace 67 = .ok (.iconst 1, 1) := by decide +kernel
theorem dX8_digestPeace_68 : decode cX8_digestPeace 68 = .ok (.goto 4, 3) := by decide +kernel
theorem dX8_digestPeace_71 : decode cX8_digestPeace 71 = .ok (.iconst 0, 1) := by decide +kernel
theorem dX8_digestPeace_72 : decode cX8_digestPeace 72 = .ok (.i2l, 1) := by decide +kernel
theorem dX8_digestPeace_73 : decode cX8_digestPeace 73 = .ok (.ladd, 1) := by decide +kernel
theorem dX8_digestPeace_74 : decode cX8_digestPeace 74 = .ok (.lstore_n 3, 1) := by decide +kernel
theorem dX8_digestPeace_75 : decode cX8_digestPeace 75 = .ok (.iinc 6 1, 3) := by decide +kernel
theorem dX8_digestPeace_78 : decode cX8_digestPeace 78 = .ok (.goto (-38), 3) := by decide +kernel
theorem dX8_digestPeace_81 : decode cX8_digestPeace 81 = .ok (.lload_n 3, 1) := by decide +kernel
theorem dX8_digestPeace_82 : decode cX8_digestPeace 82 = .ok (.lreturn, 1) := by decide +kernel
theorem dX8_begin_0 : decode cX8_begin 0 = .ok (.aload_n 0, 1) := by decide +kernel
theorem dX8_begin_1 : decode cX8_begin 1 = .ok (.getfield 30, 3) := by decide +kernel
theorem dX8_begin_4 : decode cX8_begin 4 = .ok (.aload_n 0, 1) := by decide +kernel
theorem dX8_begin_5 : decode cX8_begin 5 = .ok (.getfield 26, 3) := by decide +kernel
theorem dX8_begin_8 : decode cX8_begin 8 = .ok (.invokevirtual 235, 3) := by decide +kernel
theorem dX8_begin_11 : decode cX8_begin 11 = .ok (.aload_n 0, 1) := by decide +kernel
theorem dX8_begin_12 : decode cX8_begin 12 = .ok (.getfield 47, 3) := by decide +kernel
theorem dX8_begin_15 : decode cX8_begin 15 = .ok (.invokevirtual 237, 3) := by decide +kernel
theorem dX8_begin_18 : decode cX8_begin 18 = .ok (.aload_n 0, 1) := by decide +kernel
theorem dX8_begin_19 : decode cX8_begin 19 = .ok (.getfield 54, 3) := by decide +kernel
theorem dX8_begin_22 : decode cX8_begin 22 = .ok (.invokevirtual 240, 3) := by decide +kernel
theorem dX8_begin_25 : decode cX8_begin 25 = .ok (.aload_n 0, 1) := by decide +kernel
theorem dX8_begin_26 : decode cX8_begin 26 = .ok (.getfield 70, 3) := by decide +kernel
theorem dX8_begin_29 : decode cX8_begin 29 = .ok (.aload_n 0, 1) := by decide +kernel
theorem dX8_begin_30 : decode cX8_begin 30 = .ok (.getfield 30, 3) := by decide +kernel
theorem dX8_begin_33 : decode cX8_begin 33 = .ok (.getfield 116, 3) := by decide +kernel
theorem dX8_begin_36 : decode cX8_begin 36 = .ok (.invokevirtual 243, 3) := by decide +kernel
theorem dX8_begin_39 : decode cX8_begin 39 = .ok (.return_, 1) := by decide +kernel
theorem dX8_needStatement_0 : decode cX8_needStatement 0 = .ok (.iload_n 1, 1) := by decide +kernel
theorem dX8_needStatement_1 : decode cX8_needStatement 1 = .ok (.ifCond .lt 14, 3) := by decide +kernel
theorem dX8_needStatement_4 : decode cX8_needStatement 4 = .ok (.iload_n 1, 1) := by decide +kernel
theorem dX8_needStatement_5 : decode cX8_needStatement 5 = .ok (.aload_n 0, 1) := by decide +kernel
theorem dX8_needStatement_6 : decode cX8_needStatement 6 = .ok (.getfield 30, 3) := by decide +kernel
theorem dX8_needStatement_9 : decode cX8_needStatement 9 = .ok (.getfield 116, 3) := by decide +kernel
theorem dX8_needStatement_12 : decode cX8_needStatement 12 = .ok (.if_icmp .lt 13, 3) := by decide +kernel
theorem dX8_needStatement_15 : decode cX8_needStatement 15 = .ok (.new 190, 3) := by decide +kernel
theorem dX8_needStatement_18 : decode cX8_needStatement 18 = .ok (.dup, 1) := by decide +kernel
theorem dX8_needStatement_19 : decode cX8_needStatement 19 = .ok (.ldc 245, 2) := by decide +kernel
theorem dX8_needStatement_21 : decode cX8_needStatement 21 = .ok (.invokespecial 194, 3) := by decide +kernel
theorem dX8_needStatement_24 : decode cX8_needStatement 24 = .ok (.athrow, 1) := by decide +kernel
theorem dX8_needStatement_25 : decode cX8_needStatement 25 = .ok (.return_, 1) := by decide +kernel
theorem dX8_needStanding_0 : decode cX8_needStanding 0 = .ok (.aload_n 0, 1) := by decide +kernel
theorem dX8_needStanding_1 : decode cX8_needStanding 1 = .ok (.getfield 70, 3) := by decide +kernel
theorem dX8_needStanding_4 : decode cX8_needStanding 4 = .ok (.getfield 128, 3) := by decide +kernel
theorem dX8_needStanding_7 : decode cX8_needStanding 7 = .ok (.iload_n 1, 1) := by decide +kernel
theorem dX8_needStanding_8 : decode cX8_needStanding 8 = .ok (.invokestatic 149, 3) := by decide +kernel
theorem dX8_needStanding_11 : decode cX8_needStanding 11 = .ok (.ifCond .ne 13, 3) := by decide +kernel
theorem dX8_needStanding_14 : decode cX8_needStanding 14 = .ok (.new 84, 3) := by decide +kernel
theorem dX8_needStanding_17 : decode cX8_needStanding 17 = .ok (.dup, 1) := by decide +kernel
theorem dX8_needStanding_18 : decode cX8_needStanding 18 = .ok (.ldc 247, 2) := by decide +kernel
theorem dX8_needStanding_20 : decode cX8_needStanding 20 = .ok (.invokespecial 88, 3) := by decide +kernel
theorem dX8_needStanding_23 : decode cX8_needStanding 23 = .ok (.athrow, 1) := by decide +kernel
theorem dX8_needStanding_24 : decode cX8_needStanding 24 = .ok (.return_, 1) := by decide +kernel
theorem dX8_needClaim_0 : decode cX8_needClaim 0 = .ok (.iload_n 1, 1) := by decide +kernel
theorem dX8_needClaim_1 : decode cX8_needClaim 1 = .ok (.ifCond .lt 16, 3) := by decide +kernel
theorem dX8_needClaim_4 : decode cX8_needClaim 4 = .ok (.iload_n 1, 1) := by decide +kernel
theorem dX8_needClaim_5 : decode cX8_needClaim 5 = .ok (.iconst 2, 1) := by decide +kernel
theorem dX8_needClaim_6 : decode cX8_needClaim 6 = .ok (.aload_n 0, 1) := by decide +kernel
theorem dX8_needClaim_7 : decode cX8_needClaim 7 = .ok (.getfield 30, 3) := by decide +kernel
theorem dX8_needClaim_10 : decode cX8_needClaim 10 = .ok (.getfield 113, 3) := by decide +kernel
theorem dX8_needClaim_13 : decode cX8_needClaim 13 = .ok (.imul, 1) := by decide +kernel
theorem dX8_needClaim_14 : decode cX8_needClaim 14 = .ok (.if_icmp .lt 13, 3) := by decide +kernel
theorem dX8_needClaim_17 : decode cX8_needClaim 17 = .ok (.new 190, 3) := by decide +kernel
theorem dX8_needClaim_20 : decode cX8_needClaim 20 = .ok (.dup, 1) := by decide +kernel
theorem dX8_needClaim_21 : decode cX8_needClaim 21 = .ok (.ldc 249, 2) := by decide +kernel
theorem dX8_needClaim_23 : decode cX8_needClaim 23 = .ok (.invokespecial 194, 3) := by decide +kernel
theorem dX8_needClaim_26 : decode cX8_needClaim 26 = .ok (.athrow, 1) := by decide +kernel
theorem dX8_needClaim_27 : decode cX8_needClaim 27 = .ok (.return_, 1) := by decide +kernel
theorem dX8_needPeace_0 : decode cX8_needPeace 0 = .ok (.aload_n 0, 1) := by decide +kernel
theorem dX8_needPeace_1 : decode cX8_needPeace 1 = .ok (.getfield 54, 3) := by decide +kernel
theorem dX8_needPeace_4 : decode cX8_needPeace 4 = .ok (.aload_n 0, 1) := by decide +kernel
theorem dX8_needPeace_5 : decode cX8_needPeace 5 = .ok (.getfield 70, 3) := by decide +kernel
theorem dX8_needPeace_8 : decode cX8_needPeace 8 = .ok (.getfield 128, 3) := by decide +kernel
theorem dX8_needPeace_11 : decode cX8_needPeace 11 = .ok (.invokevirtual 156, 3) := by decide +kernel
theorem dX8_needPeace_14 : decode cX8_needPeace 14 = .ok (.ifCond .ne 13, 3) := by decide +kernel
theorem dX8_needPeace_17 : decode cX8_needPeace 17 = .ok (.new 84, 3) := by decide +kernel
theorem dX8_needPeace_20 : decode cX8_needPeace 20 = .ok (.dup, 1) := by decide +kernel
theorem dX8_needPeace_21 : decode cX8_needPeace 21 = .ok (.ldc 251, 2) := by decide +kernel
theorem dX8_needPeace_23 : decode cX8_needPeace 23 = .ok (.invokespecial 88, 3) := by decide +kernel
theorem dX8_needPeace_26 : decode cX8_needPeace 26 = .ok (.athrow, 1) := by decide +kernel
theorem dX8_needPeace_27 : decode cX8_needPeace 27 = .ok (.return_, 1) := by decide +kernel
theorem dX8_needDays_0 : decode cX8_needDays 0 = .ok (.iload_n 1, 1) := by decide +kernel
theorem dX8_needDays_1 : decode cX8_needDays 1 = .ok (.iconst 1, 1) := by decide +kernel
theorem dX8_needDays_2 : decode cX8_needDays 2 = .ok (.if_icmp .lt 9, 3) := by decide +kernel
theorem dX8_needDays_5 : decode cX8_needDays 5 = .ok (.iload_n 1, 1) := by decide +kernel
theorem dX8_needDays_6 : decode cX8_needDays 6 = .ok (.bipush 30, 2) := by decide +kernel
theorem dX8_needDays_8 : decode cX8_needDays 8 = .ok (.if_icmp .le 13, 3) := by decide +kernel
theorem dX8_needDays_11 : decode cX8_needDays 11 = .ok (.new 95, 3) := by decide +kernel
theorem dX8_needDays_14 : decode cX8_needDays 14 = .ok (.dup, 1) := by decide +kernel
theorem dX8_needDays_15 : decode cX8_needDays 15 = .ok (.ldc 253, 2) := by decide +kernel
theorem dX8_needDays_17 : decode cX8_needDays 17 = .ok (.invokespecial 99, 3) := by decide +kernel
theorem dX8_needDays_20 : decode cX8_needDays 20 = .ok (.athrow, 1) := by decide +kernel
theorem dX8_needDays_21 : decode cX8_needDays 21 = .ok (.return_, 1) := by decide +kernel
theorem dX8_has_0 : decode cX8_has 0 = .ok (.iload_n 0, 1) := by decide +kernel
theorem dX8_has_1 : decode cX8_has 1 = .ok (.iload_n 1, 1) := by decide +kernel
theorem dX8_has_2 : decode cX8_has 2 = .ok (.ishr, 1) := by decide +kernel
theorem dX8_has_3 : decode cX8_has 3 = .ok (.iconst 1, 1) := by decide +kernel
theorem dX8_has_4 : decode cX8_has 4 = .ok (.iand, 1) := by decide +kernel
theorem dX8_has_5 : decode cX8_has 5 = .ok (.ifCond .eq 7, 3) := by decide +kernel
theorem dX8_has_8 : decode cX8_has 8 = .ok (.iconst 1, 1) := by decide +kernel
theorem dX8_has_9 : decode cX8_has 9 = .ok (.goto 4, 3) := by decide +kernel
theorem dX8_has_12 : decode cX8_has 12 = .ok (.iconst 0, 1) := by decide +kernel
theorem dX8_has_13 : decode cX8_has 13 = .ok (.ireturn, 1) := by decide +kernel
theorem dX8_with_0 : decode cX8_with 0 = .ok (.iload_n 0, 1) := by decide +kernel
theorem dX8_with_1 : decode cX8_with 1 = .ok (.iconst 1, 1) := by decide +kernel
theorem dX8_with_2 : decode cX8_with 2 = .ok (.iload_n 1, 1) := by decide +kernel
theorem dX8_with_3 : decode cX8_with 3 = .ok (.ishl, 1) := by decide +kernel
theorem dX8_with_4 : decode cX8_with 4 = .ok (.ior, 1) := by decide +kernel
theorem dX8_with_5 : decode cX8_with 5 = .ok (.ireturn, 1) := by decide +kernel
theorem dX8_without_0 : decode cX8_without 0 = .ok (.iload_n 0, 1) := by decide +kernel
theorem dX8_without_1 : decode cX8_without 1 = .ok (.iconst 1, 1) := by decide +kernel
theorem dX8_without_2 : decode cX8_without 2 = .ok (.iload_n 1, 1) := by decide +kernel
theorem dX8_without_3 : decode cX8_without 3 = .ok (.ishl, 1) := by decide +kernel
theorem dX8_without_4 : decode cX8_without 4 = .ok (.iconst (-1), 1) := by decide +kernel
theorem dX8_without_5 : decode cX8_without 5 = .ok (.ixor, 1) := by decide +kernel
theorem dX8_without_6 : decode cX8_without 6 = .ok (.iand, 1) := by decide +kernel
theorem dX8_without_7 : decode cX8_without 7 = .ok (.ireturn, 1) := by decide +kernel
theorem dX8_lowest_0 : decode cX8_lowest 0 = .ok (.iconst 0, 1) := by decide +kernel
theorem dX8_lowest_1 : decode cX8_lowest 1 = .ok (.istore_n 1, 1) := by decide +kernel
theorem dX8_lowest_2 : decode cX8_lowest 2 = .ok (.iload_n 1, 1) := by decide +kernel
theorem dX8_lowest_3 : decode cX8_lowest 3 = .ok (.bipush 32, 2) := by decide +kernel
theorem dX8_lowest_5 : decode cX8_lowest 5 = .ok (.if_icmp .ge 19, 3) := by decide +kernel
theorem dX8_lowest_8 : decode cX8_lowest 8 = .ok (.iload_n 0, 1) := by decide +kernel
theorem dX8_lowest_9 : decode cX8_lowest 9 = .ok (.iload_n 1, 1) := by decide +kernel
theorem dX8_lowest_10 : decode cX8_lowest 10 = .ok (.invokestatic 149, 3) := by decide +kernel
theorem dX8_lowest_13 : decode cX8_lowest 13 = .ok (.ifCond .eq 5, 3) := by decide +kernel
theorem dX8_lowest_16 : decode cX8_lowest 16 = .ok (.iload_n 1, 1) := by decide +kernel
theorem dX8_lowest_17 : decode cX8_lowest 17 = .ok (.ireturn, 1) := by decide +kernel
theorem dX8_lowest_18 : decode cX8_lowest 18 = .ok (.iinc 1 1, 3) := by decide +kernel
theorem dX8_lowest_21 : decode cX8_lowest 21 = .ok (.goto (-19), 3) := by decide +kernel
theorem dX8_lowest_24 : decode cX8_lowest 24 = .ok (.iconst (-1), 1) := by decide +kernel
theorem dX8_lowest_25 : decode cX8_lowest 25 = .ok (.ireturn, 1) := by decide +kernel
theorem dX9_init_0 : decode cX9_init 0 = .ok (.aload_n 0, 1) := by decide +kernel
theorem dX9_init_1 : decode cX9_init 1 = .ok (.invokespecial 3, 3) := by decide +kernel
theorem dX9_init_4 : decode cX9_init 4 = .ok (.aload_n 0, 1) := by decide +kernel
theorem dX9_init_5 : decode cX9_init 5 = .ok (.bipush 20, 2) := by decide +kernel
theorem dX9_init_7 : decode cX9_init 7 = .ok (.newarray .int, 2) := by decide +kernel
theorem dX9_init_9 : decode cX9_init 9 = .ok (.putfield 9, 3) := by decide +kernel
theorem dX9_init_12 : decode cX9_init 12 = .ok (.aload_n 0, 1) := by decide +kernel
theorem dX9_init_13 : decode cX9_init 13 = .ok (.bipush 20, 2) := by decide +kernel
theorem dX9_init_15 : decode cX9_init 15 = .ok (.newarray .int, 2) := by decide +kernel
theorem dX9_init_17 : decode cX9_init 17 = .ok (.putfield 15, 3) := by decide +kernel
theorem dX9_init_20 : decode cX9_init 20 = .ok (.aload_n 0, 1) := by decide +kernel
theorem dX9_init_21 : decode cX9_init 21 = .ok (.bipush 20, 2) := by decide +kernel
theorem dX9_init_23 : decode cX9_init 23 = .ok (.newarray .int, 2) := by decide +kernel
theorem dX9_init_25 : decode cX9_init 25 = .ok (.putfield 18, 3) := by decide +kernel
theorem dX9_init_28 : decode cX9_init 28 = .ok (.aload_n 0, 1) := by decide +kernel
theorem dX9_init_29 : decode cX9_init 29 = .ok (.bipush 16, 2) := by decide +kernel
theorem dX9_init_31 : decode cX9_init 31 = .ok (.newarray .int, 2) := by decide +kernel
theorem dX9_init_33 : decode cX9_init 33 = .ok (.putfield 21, 3) := by decide +kernel
theorem dX9_init_36 : decode cX9_init 36 = .ok (.aload_n 0, 1) := by decide +kernel
theorem dX9_init_37 : decode cX9_init 37 = .ok (.bipush 16, 2) := by decide +kernel
theorem dX9_init_39 : decode cX9_init 39 = .ok (.newarray .int, 2) := by decide +kernel
theorem dX9_init_41 : decode cX9_init 41 = .ok (.putfield 24, 3) := by decide +kernel
theorem dX9_init_44 : decode cX9_init 44 = .ok (.aload_n 0, 1) := by decide +kernel
theorem dX9_init_45 : decode cX9_init 45 = .ok (.bipush 17, 2) := by decide +kernel
theorem dX9_init_47 : decode cX9_init 47 = .ok (.newarray .int, 2) := by decide +kernel
theorem dX9_init_49 : decode cX9_init 49 = .ok (.putfield 27, 3) := by decide +kernel
theorem dX9_init_52 : decode cX9_init 52 = .ok (.aload_n 0, 1) := by decide +kernel
theorem dX9_init_53 : decode cX9_init 53 = .ok (.bipush 17, 2) := by decide +kernel
theorem dX9_init_55 : decode cX9_init 55 = .ok (.newarray .int, 2) := by decide +kernel
theorem dX9_init_57 : decode cX9_init 57 = .ok (.putfield 30, 3) := by decide +kernel
theorem dX9_init_60 : decode cX9_init 60 = .ok (.aload_n 0, 1) := by decide +kernel
theorem dX9_init_61 : decode cX9_init 61 = .ok (.sipush 800, 3) := by decide +kernel
theorem dX9_init_64 : decode cX9_init 64 = .ok (.newarray .int, 2) := by decide +kernel
theorem dX9_init_66 : decode cX9_init 66 = .ok (.putfield 33, 3) := by decide +kernel
theorem dX9_init_69 : decode cX9_init 69 = .ok (.aload_n 0, 1) := by decide +kernel
theorem dX9_init_70 : decode cX9_init 70 = .ok (.sipush 400, 3) := by decide +kernel
theorem dX9_init_73 : decode cX9_init 73 = .ok (.newarray .int, 2) := by decide +kernel
theorem dX9_init_75 : decode cX9_init 75 = .ok (.putfield 36, 3) := by decide +kernel
theorem dX9_init_78 : decode cX9_init 78 = .ok (.return_, 1) := by decide +kernel
theorem dX9_claims_0 : decode cX9_claims 0 = .ok (.iconst 2, 1) := by decide +kernel
theorem dX9_claims_1 : decode cX9_claims 1 = .ok (.aload_n 0, 1) := by decide +kernel
theorem dX9_claims_2 : decode cX9_claims 2 = .ok (.getfield 39, 3) := by decide +kernel
theorem dX9_claims_5 : decode cX9_claims 5 = .ok (.imul, 1) := by decide +kernel
theorem dX9_claims_6 : decode cX9_claims 6 = .ok (.ireturn, 1) := by decide +kernel
theorem dX9_all_0 : decode cX9_all 0 = .ok (.iconst 1, 1) := by decide +kernel
theorem dX9_all_1 : decode cX9_all 1 = .ok (.aload_n 0, 1) := by decide +kernel
theorem dX9_all_2 : decode cX9_all 2 = .ok (.getfield 43, 3) := by decide +kernel
theorem dX9_all_5 : decode cX9_all 5 = .ok (.ishl, 1) := by decide +kernel
theorem dX9_all_6 : decode cX9_all 6 = .ok (.iconst 1, 1) := by decide +kernel
theorem dX9_all_7 : decode cX9_all 7 = .ok (.isub, 1) := by decide +kernel
theorem dX9_all_8 : decode cX9_all 8 = .ok (.ireturn, 1) := by decide +kernel
theorem dX9_one_0 : decode cX9_one 0 = .ok (.aload_n 0, 1) := by decide +kernel
theorem dX9_one_1 : decode cX9_one 1 = .ok (.getfield 9, 3) := by decide +kernel
theorem dX9_one_4 : decode cX9_one 4 = .ok (.iload_n 1, 1) := by decide +kernel
theorem dX9_one_5 : decode cX9_one 5 = .ok (.iaload, 1) := by decide +kernel
theorem dX9_one_6 : decode cX9_one 6 = .ok (.iconst 1, 1) := by decide +kernel
theorem dX9_one_7 : decode cX9_one 7 = .ok (.if_icmp .eq 14, 3) := by decide +kernel
theorem dX9_one_10 : decode cX9_one 10 = .ok (.aload_n 0, 1) := by decide +kernel
theorem dX9_one_11 : decode cX9_one 11 = .ok (.getfield 9, 3) := by decide +kernel
theorem dX9_one_14 : decode cX9_one 14 = .ok (.iload_n 1, 1) := by decide +kernel
theorem dX9_one_15 : decode cX9_one 15 = .ok (.iaload, 1) := by decide +kernel
theorem dX9_one_16 : decode cX9_one 16 = .ok (.bipush 7, 2) := by decide +kernel
theorem dX9_one_18 : decode cX9_one 18 = .ok (.if_icmp .ne 14, 3) := by decide +kernel
theorem dX9_one_21 : decode cX9_one 21 = .ok (.aload_n 0, 1) := by decide +kernel
theorem dX9_one_22 : decode cX9_one 22 = .ok (.getfield 15, 3) := by decide +kernel
theorem dX9_one_25 : decode cX9_one 25 = .ok (.iload_n 1, 1) := by decide +kernel
theorem dX9_one_26 : decode cX9_one 26 = .ok (.iaload, 1) := by decide +kernel
theorem dX9_one_27 : decode cX9_one 27 = .ok (.iconst 1, 1) := by decide +kernel
theorem dX9_one_28 : decode cX9_one 28 = .ok (.ixor, 1) := by decide +kernel
theorem dX9_one_29 : decode cX9_one 29 = .ok (.goto 9, 3) := by decide +kernel
theorem dX9_one_32 : decode cX9_one 32 = .ok (.aload_n 0, 1) := by decide +kernel
theorem dX9_one_33 : decode cX9_one 33 = .ok (.getfield 15, 3) := by decide +kernel
theorem dX9_one_36 : decode cX9_one 36 = .ok (.iload_n 1, 1) := by decide +kernel
theorem dX9_one_37 : decode cX9_one 37 = .ok (.iaload, 1) := by decide +kernel
theorem dX9_one_38 : decode cX9_one 38 = .ok (.ireturn, 1) := by decide +kernel
theorem dX9_other_0 : decode cX9_other 0 = .ok (.aload_n 0, 1) := by decide +kernel
theorem dX9_other_1 : decode cX9_other 1 = .ok (.getfield 9, 3) := by decide +kernel
theorem dX9_other_4 : decode cX9_other 4 = .ok (.iload_n 1, 1) := by decide +kernel
theorem dX9_other_5 : decode cX9_other 5 = .ok (.iaload, 1) := by decide +kernel
theorem dX9_other_6 : decode cX9_other 6 = .ok (.bipush 7, 2) := by decide +kernel
theorem dX9_other_8 : decode cX9_other 8 = .ok (.if_icmp .ne 14, 3) := by decide +kernel
theorem dX9_other_11 : decode cX9_other 11 = .ok (.aload_n 0, 1) := by decide +kernel
theorem dX9_other_12 : decode cX9_other 12 = .ok (.getfield 18, 3) := by decide +kernel
theorem dX9_other_15 : decode cX9_other 15 = .ok (.iload_n 1, 1) := by decide +kernel
theorem dX9_other_16 : decode cX9_other 16 = .ok (.iaload, 1) := by decide +kernel
theorem dX9_other_17 : decode cX9_other 17 = .ok (.iconst 1, 1) := by decide +kernel
theorem dX9_other_18 : decode cX9_other 18 = .ok (.ixor, 1) := by decide +kernel
theorem dX9_other_19 : decode cX9_other 19 = .ok (.goto 9, 3) := by decide +kernel
theorem dX9_other_22 : decode cX9_other 22 = .ok (.aload_n 0, 1) := by decide +kernel
theorem dX9_other_23 : decode cX9_other 23 = .ok (.getfield 18, 3) := by decide +kernel
theorem dX9_other_26 : decode cX9_other 26 = .ok (.iload_n 1, 1) := by decide +kernel
theorem dX9_other_27 : decode cX9_other 27 = .ok (.iaload, 1) := by decide +kernel
theorem dX9_other_28 : decode cX9_other 28 = .ok (.ireturn, 1) := by decide +kernel
theorem dX10_init_0 : decode cX10_init 0 = .ok (.aload_n 0, 1) := by decide +kernel
theorem dX10_init_1 : decode cX10_init 1 = .ok (.invokespecial 3, 3) := by decide +kernel
theorem dX10_init_4 : decode cX10_init 4 = .ok (.aload_n 0, 1) := by decide +kernel
theorem dX10_init_5 : decode cX10_init 5 = .ok (.sipush 2000, 3) := by decide +kernel
theorem dX10_init_8 : decode cX10_init 8 = .ok (.newarray .int, 2) := by decide +kernel
theorem dX10_init_10 : decode cX10_init 10 = .ok (.putfield 9, 3) := by decide +kernel
theorem dX10_init_13 : decode cX10_init 13 = .ok (.aload_n 0, 1) := by decide +kernel
theorem dX10_init_14 : decode cX10_init 14 = .ok (.iconst (-1), 1) := by decide +kernel
theorem dX10_init_15 : decode cX10_init 15 = .ok (.putfield 13, 3) := by decide +kernel
theorem dX10_init_18 : decode cX10_init 18 = .ok (.aload_n 0, 1) := by decide +kernel
theorem dX10_init_19 : decode cX10_init 19 = .ok (.sipush 401, 3) := by decide +kernel
theorem dX10_init_22 : decode cX10_init 22 = .ok (.newarray .int, 2) := by decide +kernel
theorem dX10_init_24 : decode cX10_init 24 = .ok (.putfield 17, 3) := by decide +kernel
theorem dX10_init_27 : decode cX10_init 27 = .ok (.aload_n 0, 1) := by decide +kernel
theorem dX10_init_28 : decode cX10_init 28 = .ok (.sipush 401, 3) := by decide +kernel
theorem dX10_init_31 : decode cX10_init 31 = .ok (.newarray .int, 2) := by decide +kernel
theorem dX10_init_33 : decode cX10_init 33 = .ok (.putfield 20, 3) := by decide +kernel
theorem dX10_init_36 : decode cX10_init 36 = .ok (.aload_n 0, 1) := by decide +kernel
theorem dX10_init_37 : decode cX10_init 37 = .ok (.sipush 401, 3) := by decide +kernel
theorem dX10_init_40 : decode cX10_init 40 = .ok (.newarray .int, 2) := by decide +kernel
theorem dX10_init_42 : decode cX10_init 42 = .ok (.putfield 23, 3) := by decide +kernel
theorem dX10_init_45 : decode cX10_init 45 = .ok (.aload_n 0, 1) := by decide +kernel
theorem dX10_init_46 : decode cX10_init 46 = .ok (.sipush 401, 3) := by decide +kernel
theorem dX10_init_49 : decode cX10_init 49 = .ok (.newarray .int, 2) := by decide +kernel
theorem dX10_init_51 : decode cX10_init 51 = .ok (.putfield 26, 3) := by decide +kernel
theorem dX10_init_54 : decode cX10_init 54 = .ok (.aload_n 0, 1) := by decide +kernel
theorem dX10_init_55 : decode cX10_init 55 = .ok (.sipush 401, 3) := by decide +kernel
theorem dX10_init_58 : decode cX10_init 58 = .ok (.newarray .int, 2) := by decide +kernel
theorem dX10_init_60 : decode cX10_init 60 = .ok (.putfield 29, 3) := by decide +kernel
theorem dX10_init_63 : decode cX10_init 63 = .ok (.aload_n 0, 1) := by decide +kernel
theorem dX10_init_64 : decode cX10_init 64 = .ok (.new 32, 3) := by decide +kernel
theorem dX10_init_67 : decode cX10_init 67 = .ok (.dup, 1) := by decide +kernel
theorem dX10_init_68 : decode cX10_init 68 = .ok (.invokespecial 34, 3) := by decide +kernel
theorem dX10_init_71 : decode cX10_init 71 = .ok (.putfield 35, 3) := by decide +kernel
theorem dX10_init_74 : decode cX10_init 74 = .ok (.aload_n 0, 1) := by decide +kernel
theorem dX10_init_75 : decode cX10_init 75 = .ok (.aload_n 0, 1) := by decide +kernel
theorem dX10_init_76 : decode cX10_init 76 = .ok (.getfield 35, 3) := by decide +kernel
theorem dX10_init_79 : decode cX10_init 79 = .ok (.putfield 39, 3) := by decide +kernel
theorem dX10_init_82 : decode cX10_init 82 = .ok (.aload_n 0, 1) := by decide +kernel
theorem dX10_init_83 : decode cX10_init 83 = .ok (.sipush 400, 3) := by decide +kernel
theorem dX10_init_86 : decode cX10_init 86 = .ok (.newarray .int, 2) := by decide +kernel
theorem dX10_init_88 : decode cX10_init 88 = .ok (.putfield 42, 3) := by decide +kernel
theorem dX10_init_91 : decode cX10_init 91 = .ok (.aload_n 0, 1) := by decide +kernel
theorem dX10_init_92 : decode cX10_init 92 = .ok (.iconst (-1), 1) := by decide +kernel
theorem dX10_init_93 : decode cX10_init 93 = .ok (.putfield 45, 3) := by decide +kernel
theorem dX10_init_96 : decode cX10_init 96 = .ok (.aload_n 0, 1) := by decide +kernel
theorem dX10_init_97 : decode cX10_init 97 = .ok (.bipush 20, 2) := by decide +kernel
theorem dX10_init_99 : decode cX10_init 99 = .ok (.newarray .int, 2) := by decide +kernel
theorem dX10_init_101 : decode cX10_init 101 = .ok (.putfield 48, 3) := by decide +kernel
theorem dX10_init_104 : decode cX10_init 104 = .ok (.aload_n 0, 1) := by decide +kernel
theorem dX10_init_105 : decode cX10_init 105 = .ok (.iconst (-1), 1) := by decide +kernel
theorem dX10_init_106 : decode cX10_init 106 = .ok (.putfield 51, 3) := by decide +kernel
theorem dX10_init_109 : decode cX10_init 109 = .ok (.aload_n 0, 1) := by decide +kernel
theorem dX10_init_110 : decode cX10_init 110 = .ok (.bipush 20, 2) := by decide +kernel
theorem dX10_init_112 : decode cX10_init 112 = .ok (.newarray .int, 2) := by decide +kernel
theorem dX10_init_114 : decode cX10_init 114 = .ok (.putfield 54, 3) := by decide +kernel
theorem dX10_init_117 : decode cX10_init 117 = .ok (.aload_n 0, 1) := by decide +kernel
theorem dX10_init_118 : decode cX10_init 118 = .ok (.bipush 20, 2) := by decide +kernel
theorem dX10_init_120 : decode cX10_init 120 = .ok (.newarray .int, 2) := by decide +kernel
theorem dX10_init_122 : decode cX10_init 122 = .ok (.putfield 57, 3) := by decide +kernel
theorem dX10_init_125 : decode cX10_init 125 = .ok (.return_, 1) := by decide +kernel
theorem dX10_thrown_0 : decode cX10_thrown 0 = .ok (.aload_n 0, 1) := by decide +kernel
theorem dX10_thrown_1 : decode cX10_thrown 1 = .ok (.getfield 60, 3) := by decide +kernel
theorem dX10_thrown_4 : decode cX10_thrown 4 = .ok (.ireturn, 1) := by decide +kernel
theorem dX10_no_0 : decode cX10_no 0 = .ok (.aload_n 0, 1) := by decide +kernel
theorem dX10_no_1 : decode cX10_no 1 = .ok (.iload_n 1, 1) := by decide +kernel
theorem dX10_no_2 : decode cX10_no 2 = .ok (.putfield 60, 3) := by decide +kernel
theorem dX10_no_5 : decode cX10_no 5 = .ok (.iconst 0, 1) := by decide +kernel
theorem dX10_no_6 : decode cX10_no 6 = .ok (.ireturn, 1) := by decide +kernel
theorem dX10_isNot_0 : decode cX10_isNot 0 = .ok (.aload_n 0, 1) := by decide +kernel
theorem dX10_isNot_1 : decode cX10_isNot 1 = .ok (.iload_n 1, 1) := by decide +kernel
theorem dX10_isNot_2 : decode cX10_isNot 2 = .ok (.putfield 60, 3) := by decide +kernel
theorem dX10_isNot_5 : decode cX10_isNot 5 = .ok (.iconst 0, 1) := by decide +kernel
theorem dX10_isNot_6 : decode cX10_isNot 6 = .ok (.ireturn, 1) := by decide +kernel
theorem dX10_isIn_0 : decode cX10_isIn 0 = .ok (.iload_n 0, 1) := by decide +kernel
theorem dX10_isIn_1 : decode cX10_isIn 1 = .ok (.iload_n 1, 1) := by decide +kernel
theorem dX10_isIn_2 : decode cX10_isIn 2 = .ok (.if_icmp .lt 12, 3) := by decide +kernel
theorem dX10_isIn_5 : decode cX10_isIn 5 = .ok (.iload_n 0, 1) := by decide +kernel
theorem dX10_isIn_6 : decode cX10_isIn 6 = .ok (.iload_n 2, 1) := by decide +kernel
theorem dX10_isIn_7 : decode cX10_isIn 7 = .ok (.if_icmp .gt 7, 3) := by decide +kernel
theorem dX10_isIn_10 : decode cX10_isIn 10 = .ok (.iconst 1, 1) := by decide +kernel
theorem dX10_isIn_11 : decode cX10_isIn 11 = .ok (.goto 4, 3) := by decide +kernel
theorem dX10_isIn_14 : decode cX10_isIn 14 = .ok (.iconst 0, 1) := by decide +kernel
theorem dX10_isIn_15 : decode cX10_isIn 15 = .ok (.ireturn, 1) := by decide +kernel
theorem dX10_has_0 : decode cX10_has 0 = .ok (.iload_n 0, 1) := by decide +kernel
theorem dX10_has_1 : decode cX10_has 1 = .ok (.iload_n 1, 1) := by decide +kernel
theorem dX10_has_2 : decode cX10_has 2 = .ok (.ishr, 1) := by decide +kernel
theorem dX10_has_3 : decode cX10_has 3 = .ok (.iconst 1, 1) := by decide +kernel
theorem dX10_has_4 : decode cX10_has 4 = .ok (.iand, 1) := by decide +kernel
theorem dX10_has_5 : decode cX10_has 5 = .ok (.iconst 1, 1) := by decide +kernel
theorem dX10_has_6 : decode cX10_has 6 = .ok (.if_icmp .ne 7, 3) := by decide +kernel
theorem dX10_has_9 : decode cX10_has 9 = .ok (.iconst 1, 1) := by decide +kernel
theorem dX10_has_10 : decode cX10_has 10 = .ok (.goto 4, 3) := by decide +kernel
theorem dX10_has_13 : decode cX10_has 13 = .ok (.iconst 0, 1) := by decide +kernel
theorem dX10_has_14 : decode cX10_has 14 = .ok (.ireturn, 1) := by decide +kernel
theorem dX10_isStatement_0 : decode cX10_isStatement 0 = .ok (.iload_n 1, 1) := by decide +kernel
theorem dX10_isStatement_1 : decode cX10_isStatement 1 = .ok (.iconst 0, 1) := by decide +kernel
theorem dX10_isStatement_2 : decode cX10_isStatement 2 = .ok (.aload_n 0, 1) := by decide +kernel
theorem dX10_isStatement_3 : decode cX10_isStatement 3 = .ok (.getfield 35, 3) := by decide +kernel
theorem dX10_isStatement_6 : decode cX10_isStatement 6 = .ok (.getfield 63, 3) := by decide +kernel
theorem dX10_isStatement_9 : decode cX10_isStatement 9 = .ok (.iconst 1, 1) := by decide +kernel
theorem dX10_isStatement_10 : decode cX10_isStatement 10 = .ok (.isub, 1) := by decide +kernel
theorem dX10_isStatement_11 : decode cX10_isStatement 11 = .ok (.invokestatic 66, 3) := by decide +kernel
theorem dX10_isStatement_14 : decode cX10_isStatement 14 = .ok (.ireturn, 1) := by decide +kernel
theorem dX10_isClaim_0 : decode cX10_isClaim 0 = .ok (.iload_n 1, 1) := by decide +kernel
theorem dX10_isClaim_1 : decode cX10_isClaim 1 = .ok (.iconst 0, 1) := by decide +kernel
theorem dX10_isClaim_2 : decode cX10_isClaim 2 = .ok (.aload_n 0, 1) := by decide +kernel
theorem dX10_isClaim_3 : decode cX10_isClaim 3 = .ok (.getfield 35, 3) := by decide +kernel
theorem dX10_isClaim_6 : decode cX10_isClaim 6 = .ok (.invokevirtual 70, 3) := by decide +kernel
theorem dX10_isClaim_9 : decode cX10_isClaim 9 = .ok (.iconst 1, 1) := by decide +kernel
theorem dX10_isClaim_10 : decode cX10_isClaim 10 = .ok (.isub, 1) := by decide +kernel
theorem dX10_isClaim_11 : decode cX10_isClaim 11 = .ok (.invokestatic 66, 3) := by decide +kernel
theorem dX10_isClaim_14 : decode cX10_isClaim 14 = .ok (.ireturn, 1) := by decide +kernel
theorem dX10_holds_0 : decode cX10_holds 0 = .ok (.iload_n 0, 1) := by decide +kernel
theorem dX10_holds_1 : decode cX10_holds 1 = .ok (.iload_n 1, 1) := by decide +kernel
theorem dX10_holds_2 : decode cX10_holds 2 = .ok (.iconst 2, 1) := by decide +kernel
theorem dX10_holds_3 : decode cX10_holds 3 = .ok (.idiv, 1) := by decide +kernel
theorem dX10_holds_4 : decode cX10_holds 4 = .ok (.invokestatic 74, 3) := by decide +kernel
theorem dX10_holds_7 : decode cX10_holds 7 = .ok (.iload_n 1, 1) := by decide +kernel
theorem dX10_holds_8 : decode cX10_holds 8 = .ok (.iconst 2, 1) := by decide +kernel
theorem dX10_holds_9 : decode cX10_holds 9 = .ok (.irem, 1) := by decide +kernel
theorem dX10_holds_10 : decode cX10_holds 10 = .ok (.ifCond .ne 7, 3) := by decide +kernel
theorem dX10_holds_13 : decode cX10_holds 13 = .ok (.iconst 1, 1) := by decide +kernel
theorem dX10_holds_14 : decode cX10_holds 14 = .ok (.goto 4, 3) := by decide +kernel
theorem dX10_holds_17 : decode cX10_holds 17 = .ok (.iconst 0, 1) := by decide +kernel
theorem dX10_holds_18 : decode cX10_holds 18 = .ok (.if_icmp .ne 7, 3) := by decide +kernel
theorem dX10_holds_21 : decode cX10_holds 21 = .ok (.iconst 1, 1) := by decide +kernel
theorem dX10_holds_22 : decode cX10_holds 22 = .ok (.goto 4, 3) := by decide +kernel
theorem dX10_holds_25 : decode cX10_holds 25 = .ok (.iconst 0, 1) := by decide +kernel
theorem dX10_holds_26 : decode cX10_holds 26 = .ok (.ireturn, 1) := by decide +kernel
theorem dX10_isPeace_0 : decode cX10_isPeace 0 = .ok (.iconst 0, 1) := by decide +kernel
theorem dX10_isPeace_1 : decode cX10_isPeace 1 = .ok (.istore_n 3, 1) := by decide +kernel
theorem dX10_isPeace_2 : decode cX10_isPeace 2 = .ok (.iload_n 3, 1) := by decide +kernel
theorem dX10_isPeace_3 : decode cX10_isPeace 3 = .ok (.aload_n 0, 1) := by decide +kernel
theorem dX10_isPeace_4 : decode cX10_isPeace 4 = .ok (.getfield 35, 3) := by decide +kernel
theorem dX10_isPeace_7 : decode cX10_isPeace 7 = .ok (.getfield 63, 3) := by decide +kernel
theorem dX10_isPeace_10 : decode cX10_isPeace 10 = .ok (.if_icmp .ge 49, 3) := by decide +kernel
theorem dX10_isPeace_13 : decode cX10_isPeace 13 = .ok (.iload_n 2, 1) := by decide +kernel
theorem dX10_isPeace_14 : decode cX10_isPeace 14 = .ok (.iload_n 3, 1) := by decide +kernel
theorem dX10_isPeace_15 : decode cX10_isPeace 15 = .ok (.invokestatic 74, 3) := by decide +kernel
theorem dX10_isPeace_18 : decode cX10_isPeace 18 = .ok (.ifCond .eq 35, 3) := by decide +kernel
theorem dX10_isPeace_21 : decode cX10_isPeace 21 = .ok (.iload_n 1, 1) := by decide +kernel
theorem dX10_isPeace_22 : decode cX10_isPeace 22 = .ok (.aload_n 0, 1) := by decide +kernel
theorem dX10_isPeace_23 : decode cX10_isPeace 23 = .ok (.getfield 35, 3) := by decide +kernel
theorem dX10_isPeace_26 : decode cX10_isPeace 26 = .ok (.iload_n 3, 1) := by decide +kernel
theorem dX10_isPeace_27 : decode cX10_isPeace 27 = .ok (.invokevirtual 78, 3) := by decide +kernel
theorem dX10_isPeace_30 : decode cX10_isPeace 30 = .ok (.invokestatic 82, 3) := by decide +kernel
theorem dX10_isPeace_33 : decode cX10_isPeace 33 = .ok (.ifCond .ne 20, 3) := by decide +kernel
theorem dX10_isPeace_36 : decode cX10_isPeace 36 = .ok (.iload_n 1, 1) := by decide +kernel
theorem dX10_isPeace_37 : decode cX10_isPeace 37 = .ok (.aload_n 0, 1) := by decide +kernel
theorem dX10_isPeace_38 : decode cX10_isPeace 38 = .ok (.getfield 35, 3) := by decide +kernel
theorem dX10_isPeace_41 : decode cX10_isPeace 41 = .ok (.iload_n 3, 1) := by decide +kernel
theorem dX10_isPeace_42 : decode cX10_isPeace 42 = .ok (.invokevirtual 85, 3) := by decide +kernel
theorem dX10_isPeace_45 : decode cX10_isPeace 45 = .ok (.invokestatic 82, 3) := by decide +kernel
theorem dX10_isPeace_48 : decode cX10_isPeace 48 = .ok (.ifCond .ne 5, 3) := by decide +kernel
theorem dX10_isPeace_51 : decode cX10_isPeace 51 = .ok (.iconst 0, 1) := by decide +kernel
theorem dX10_isPeace_52 : decode cX10_isPeace 52 = .ok (.ireturn, 1) := by decide +kernel
theorem dX10_isPeace_53 : decode cX10_isPeace 53 = .ok (.iinc 3 1, 3) := by decide +kernel
theorem dX10_isPeace_56 : decode cX10_isPeace 56 = .ok (.goto (-54), 3) := by decide +kernel
theorem dX10_isPeace_59 : decode cX10_isPeace 59 = .ok (.iconst 1, 1) := by decide +kernel
theorem dX10_isPeace_60 : decode cX10_isPeace 60 = .ok (.ireturn, 1) := by decide +kernel
theorem dX10_isAny_0 : decode cX10_isAny 0 = .ok (.iconst 0, 1) := by decide +kernel
theorem dX10_isAny_1 : decode cX10_isAny 1 = .ok (.istore_n 2, 1) := by decide +kernel
theorem dX10_isAny_2 : decode cX10_isAny 2 = .ok (.iload_n 2, 1) := by decide +kernel
theorem dX10_isAny_3 : decode cX10_isAny 3 = .ok (.iconst 1, 1) := by decide +kernel
theorem dX10_isAny_4 : decode cX10_isAny 4 = .ok (.aload_n 0, 1) := by decide +kernel
theorem dX10_isAny_5 : decode cX10_isAny 5 = .ok (.getfield 35, 3) := by decide +kernel
theorem dX10_isAny_8 : decode cX10_isAny 8 = .ok (.getfield 88, 3) := by decide +kernel
theorem dX10_isAny_11 : decode cX10_isAny 11 = .ok (.ishl, 1) := by decide +kernel
theorem dX10_isAny_12 : decode cX10_isAny 12 = .ok (.if_icmp .ge 20, 3) := by decide +kernel
theorem dX10_isAny_15 : decode cX10_isAny 15 = .ok (.aload_n 0, 1) := by decide +kernel
theorem dX10_isAny_16 : decode cX10_isAny 16 = .ok (.iload_n 2, 1) := by decide +kernel
theorem dX10_isAny_17 : decode cX10_isAny 17 = .ok (.iload_n 1, 1) := by decide +kernel
theorem dX10_isAny_18 : decode cX10_isAny 18 = .ok (.invokevirtual 91, 3) := by decide +kernel
theorem dX10_isAny_21 : decode cX10_isAny 21 = .ok (.ifCond .eq 5, 3) := by decide +kernel
theorem dX10_isAny_24 : decode cX10_isAny 24 = .ok (.iconst 1, 1) := by decide +kernel
theorem dX10_isAny_25 : decode cX10_isAny 25 = .ok (.ireturn, 1) := by decide +kernel
theorem dX10_isAny_26 : decode cX10_isAny 26 = .ok (.iinc 2 1, 3) := by decide +kernel
theorem dX10_isAny_29 : decode cX10_isAny 29 = .ok (.goto (-27), 3) := by decide +kernel
theorem dX10_isAny_32 : decode cX10_isAny 32 = .ok (.iconst 0, 1) := by decide +kernel
theorem dX10_isAny_33 : decode cX10_isAny 33 = .ok (.ireturn, 1) := by decide +kernel
theorem dX10_isAhead_0 : decode cX10_isAhead 0 = .ok (.iload_n 0, 1) := by decide +kernel
theorem dX10_isAhead_1 : decode cX10_isAhead 1 = .ok (.iload_n 1, 1) := by decide +kernel
theorem dX10_isAhead_2 : decode cX10_isAhead 2 = .ok (.ixor, 1) := by decide +kernel
theorem dX10_isAhead_3 : decode cX10_isAhead 3 = .ok (.istore_n 2, 1) := by decide +kernel
theorem dX10_isAhead_4 : decode cX10_isAhead 4 = .ok (.iload_n 2, 1) := by decide +kernel
theorem dX10_isAhead_5 : decode cX10_isAhead 5 = .ok (.iload_n 2, 1) := by decide +kernel
theorem dX10_isAhead_6 : decode cX10_isAhead 6 = .ok (.ineg, 1) := by decide +kernel
theorem dX10_isAhead_7 : decode cX10_isAhead 7 = .ok (.iand, 1) := by decide +kernel
theorem dX10_isAhead_8 : decode cX10_isAhead 8 = .ok (.iload_n 0, 1) := by decide +kernel
theorem dX10_isAhead_9 : decode cX10_isAhead 9 = .ok (.iand, 1) := by decide +kernel
theorem dX10_isAhead_10 : decode cX10_isAhead 10 = .ok (.ifCond .eq 7, 3) := by decide +kernel
theorem dX10_isAhead_13 : decode cX10_isAhead 13 = .ok (.iconst 1, 1) := by decide +kernel
theorem dX10_isAhead_14 : decode cX10_isAhead 14 = .ok (.goto 4, 3) := by decide +kernel
theorem dX10_isAhead_17 : decode cX10_isAhead 17 = .ok (.iconst 0, 1) := by decide +kernel
theorem dX10_isAhead_18 : decode cX10_isAhead 18 = .ok (.ireturn, 1) := by decide +kernel
theorem dX10_look_0 : decode cX10_look 0 = .ok (.aload_n 0, 1) := by decide +kernel
theorem dX10_look_1 : decode cX10_look 1 = .ok (.getfield 45, 3) := by decide +kernel
theorem dX10_look_4 : decode cX10_look 4 = .ok (.iload_n 1, 1) := by decide +kernel
theorem dX10_look_5 : decode cX10_look 5 = .ok (.if_icmp .ne 4, 3) := by decide +kernel
theorem dX10_look_8 : decode cX10_look 8 = .ok (.return_, 1) := by decide +kernel
theorem dX10_look_9 : decode cX10_look 9 = .ok (.aload_n 0, 1) := by decide +kernel
theorem dX10_look_10 : decode cX10_look 10 = .ok (.iload_n 1, 1) := by decide +kernel
theorem dX10_look_11 : decode cX10_look 11 = .ok (.putfield 45, 3) := by decide +kernel
theorem dX10_look_14 : decode cX10_look 14 = .ok (.aload_n 0, 1) := by decide +kernel
theorem dX10_look_15 : decode cX10_look 15 = .ok (.iconst 0, 1) := by decide +kernel
theorem dX10_look_16 : decode cX10_look 16 = .ok (.putfield 94, 3) := by decide +kernel
theorem dX10_look_19 : decode cX10_look 19 = .ok (.aload_n 0, 1) := by decide +kernel
theorem dX10_look_20 : decode cX10_look 20 = .ok (.iconst 0, 1) := by decide +kernel
theorem dX10_look_21 : decode cX10_look 21 = .ok (.putfield 97, 3) := by decide +kernel
theorem dX10_look_24 : decode cX10_look 24 = .ok (.aload_n 0, 1) := by decide +kernel
theorem dX10_look_25 : decode cX10_look 25 = .ok (.iconst 0, 1) := by decide +kernel
theorem dX10_look_26 : decode cX10_look 26 = .ok (.putfield 100, 3) := by decide +kernel
theorem dX10_look_29 : decode cX10_look 29 = .ok (.iconst 0, 1) := by decide +kernel
theorem dX10_look_30 : decode cX10_look 30 = .ok (.istore_n 2, 1) := by decide +kernel
theorem dX10_look_31 : decode cX10_look 31 = .ok (.iload_n 2, 1) := by decide +kernel
theorem dX10_look_32 : decode cX10_look 32 = .ok (.bipush 20, 2) := by decide +kernel
theorem dX10_look_34 : decode cX10_look 34 = .ok (.if_icmp .ge 16, 3) := by decide +kernel
theorem dX10_look_37 : decode cX10_look 37 = .ok (.aload_n 0, 1) := by decide +kernel
theorem dX10_look_38 : decode cX10_look 38 = .ok (.getfield 48, 3) := by decide +kernel
theorem dX10_look_41 : decode cX10_look 41 = .ok (.iload_n 2, 1) := by decide +kernel
theorem dX10_look_42 : decode cX10_look 42 = .ok (.iconst 0, 1) := by decide +kernel
theorem dX10_look_43 : decode cX10_look 43 = .ok (.iastore, 1) := by decide +kernel
theorem dX10_look_44 : decode cX10_look 44 = .ok (.iinc 2 1, 3) := by decide +kernel
theorem dX10_look_47 : decode cX10_look 47 = .ok (.goto (-16), 3) := by decide +kernel
theorem dX10_look_50 : decode cX10_look 50 = .ok (.iconst 0, 1) := by decide +kernel
theorem dX10_look_51 : decode cX10_look 51 = .ok (.istore_n 2, 1) := by decide +kernel
theorem dX10_look_52 : decode cX10_look 52 = .ok (.iload_n 2, 1) := by decide +kernel
theorem dX10_look_53 : decode cX10_look 53 = .ok (.iconst 1, 1) := by decide +kernel
theorem dX10_look_54 : decode cX10_look 54 = .ok (.aload_n 0, 1) := by decide +kernel
theorem dX10_look_55 : decode cX10_look 55 = .ok (.getfield 35, 3) := by decide +kernel
theorem dX10_look_58 : decode cX10_look 58 = .ok (.getfield 88, 3) := by decide +kernel
theorem dX10_look_61 : decode cX10_look 61 = .ok (.ishl, 1) := by decide +kernel
theorem dX10_look_62 : decode cX10_look 62 = .ok (.if_icmp .ge 108, 3) := by decide +kernel
theorem dX10_look_65 : decode cX10_look 65 = .ok (.aload_n 0, 1) := by decide +kernel
theorem dX10_look_66 : decode cX10_look 66 = .ok (.iload_n 2, 1) := by decide +kernel
theorem dX10_look_67 : decode cX10_look 67 = .ok (.iload_n 1, 1) := by decide +kernel
theorem dX10_look_68 : decode cX10_look 68 = .ok (.invokevirtual 91, 3) := by decide +kernel
theorem dX10_look_71 : decode cX10_look 71 = .ok (.ifCond .ne 6, 3) := by decide +kernel
theorem dX10_look_74 : decode cX10_look 74 = .ok (.goto 90, 3) := by decide +kernel
theorem dX10_look_77 : decode cX10_look 77 = .ok (.aload_n 0, 1) := by decide +kernel
theorem dX10_look_78 : decode cX10_look 78 = .ok (.getfield 94, 3) := by decide +kernel
theorem dX10_look_81 : decode cX10_look 81 = .ok (.ifCond .eq 14, 3) := by decide +kernel
theorem dX10_look_84 : decode cX10_look 84 = .ok (.iload_n 2, 1) := by decide +kernel
theorem dX10_look_85 : decode cX10_look 85 = .ok (.aload_n 0, 1) := by decide +kernel
theorem dX10_look_86 : decode cX10_look 86 = .ok (.getfield 100, 3) := by decide +kernel
theorem dX10_look_89 : decode cX10_look 89 = .ok (.invokestatic 103, 3) := by decide +kernel
theorem dX10_look_92 : decode cX10_look 92 = .ok (.ifCond .eq 8, 3) := by decide +kernel
theorem dX10_look_95 : decode cX10_look 95 = .ok (.aload_n 0, 1) := by decide +kernel
theorem dX10_look_96 : decode cX10_look 96 = .ok (.iload_n 2, 1) := by decide +kernel
theorem dX10_look_97 : decode cX10_look 97 = .ok (.putfield 100, 3) := by decide +kernel
theorem dX10_look_100 : decode cX10_look 100 = .ok (.aload_n 0, 1) := by decide +kernel
theorem dX10_look_101 : decode cX10_look 101 = .ok (.dup, 1) := by decide +kernel
theorem dX10_look_102 : decode cX10_look 102 = .ok (.getfield 94, 3) := by decide +kernel
theorem dX10_look_105 : decode cX10_look 105 = .ok (.iconst 1, 1) := by decide +kernel
theorem dX10_look_106 : decode cX10_look 106 = .ok (.iadd, 1) := by decide +kernel
theorem dX10_look_107 : decode cX10_look 107 = .ok (.putfield 94, 3) := by decide +kernel
theorem dX10_look_110 : decode cX10_look 110 = .ok (.aload_n 0, 1) := by decide +kernel
theorem dX10_look_111 : decode cX10_look 111 = .ok (.dup, 1) := by decide +kernel
theorem dX10_look_112 : decode cX10_look 112 = .ok (.getfield 97, 3) := by decide +kernel
theorem dX10_look_115 : decode cX10_look 115 = .ok (.iload_n 2, 1) := by decide +kernel
theorem dX10_look_116 : decode cX10_look 116 = .ok (.invokestatic 106, 3) := by decide +kernel
theorem dX10_look_119 : decode cX10_look 119 = .ok (.iadd, 1) := by decide +kernel
theorem dX10_look_120 : decode cX10_look 120 = .ok (.putfield 97, 3) := by decide +kernel
theorem dX10_look_123 : decode cX10_look 123 = .ok (.iconst 0, 1) := by decide +kernel
theorem dX10_look_124 : decode cX10_look 124 = .ok (.istore_n 3, 1) := by decide +kernel
theorem dX10_look_125 : decode cX10_look 125 = .ok (.iload_n 3, 1) := by decide +kernel
theorem dX10_look_126 : decode cX10_look 126 = .ok (.aload_n 0, 1) := by decide +kernel
theorem dX10_look_127 : decode cX10_look 127 = .ok (.getfield 35, 3) := by decide +kernel
theorem dX10_look_130 : decode cX10_look 130 = .ok (.invokevirtual 70, 3) := by decide +kernel
theorem dX10_look_133 : decode cX10_look 133 = .ok (.if_icmp .ge 31, 3) := by decide +kernel
theorem dX10_look_136 : decode cX10_look 136 = .ok (.aload_n 0, 1) := by decide +kernel
theorem dX10_look_137 : decode cX10_look 137 = .ok (.getfield 48, 3) := by decide +kernel
theorem dX10_look_140 : decode cX10_look 140 = .ok (.iload_n 3, 1) := by decide +kernel
theorem dX10_look_141 : decode cX10_look 141 = .ok (.dup2, 1) := by decide +kernel
theorem dX10_look_142 : decode cX10_look 142 = .ok (.iaload, 1) := by decide +kernel
theorem dX10_look_143 : decode cX10_look 143 = .ok (.iload_n 2, 1) := by decide +kernel
theorem dX10_look_144 : decode cX10_look 144 = .ok (.iload_n 3, 1) := by decide +kernel
theorem dX10_look_145 : decode cX10_look 145 = .ok (.invokestatic 82, 3) := by decide +kernel
theorem dX10_look_148 : decode cX10_look 148 = .ok (.ifCond .eq 7, 3) := by decide +kernel
theorem dX10_look_151 : decode cX10_look 151 = .ok (.iconst 1, 1) := by decide +kernel
theorem dX10_look_152 : decode cX10_look 152 = .ok (.goto 4, 3) := by decide +kernel
theorem dX10_look_155 : decode cX10_look 155 = .ok (.iconst 0, 1) := by decide +kernel
theorem dX10_look_156 : decode cX10_look 156 = .ok (.iadd, 1) := by decide +kernel
theorem dX10_look_157 : decode cX10_look 157 = .ok (.iastore, 1) := by decide +kernel
theorem dX10_look_158 : decode cX10_look 158 = .ok (.iinc 3 1, 3) := by decide +kernel
theorem dX10_look_161 : decode cX10_look 161 = .ok (.goto (-36), 3) := by decide +kernel
theorem dX10_look_164 : decode cX10_look 164 = .ok (.iinc 2 1, 3) := by decide +kernel
theorem dX10_look_167 : decode cX10_look 167 = .ok (.goto (-115), 3) := by decide +kernel
theorem dX10_look_170 : decode cX10_look 170 = .ok (.return_, 1) := by decide +kernel
theorem dX10_peaces_0 : decode cX10_peaces 0 = .ok (.aload_n 0, 1) := by decide +kernel
theorem dX10_peaces_1 : decode cX10_peaces 1 = .ok (.iload_n 1, 1) := by decide +kernel
theorem dX10_peaces_2 : decode cX10_peaces 2 = .ok (.invokevirtual 111, 3) := by decide +kernel
theorem dX10_peaces_5 : decode cX10_peaces 5 = .ok (.aload_n 0, 1) := by decide +kernel
theorem dX10_peaces_6 : decode cX10_peaces 6 = .ok (.getfield 94, 3) := by decide +kernel
theorem dX10_peaces_9 : decode cX10_peaces 9 = .ok (.ireturn, 1) := by decide +kernel
theorem dX10_with_0 : decode cX10_with 0 = .ok (.aload_n 0, 1) := by decide +kernel
theorem dX10_with_1 : decode cX10_with 1 = .ok (.aload_n 0, 1) := by decide +kernel
theorem dX10_with_2 : decode cX10_with 2 = .ok (.getfield 115, 3) := by decide +kernel
theorem dX10_with_5 : decode cX10_with 5 = .ok (.invokevirtual 111, 3) := by decide +kernel
theorem dX10_with_8 : decode cX10_with 8 = .ok (.aload_n 0, 1) := by decide +kernel
theorem dX10_with_9 : decode cX10_with 9 = .ok (.getfield 48, 3) := by decide +kernel
theorem dX10_with_12 : decode cX10_with 12 = .ok (.iload_n 1, 1) := by decide +kernel
theorem dX10_with_13 : decode cX10_with 13 = .ok (.iaload, 1) := by decide +kernel
theorem dX10_with_14 : decode cX10_with 14 = .ok (.ireturn, 1) := by decide +kernel
theorem dX10_follow_0 : decode cX10_follow 0 = .ok (.aload_n 0, 1) := by decide +kernel
theorem dX10_follow_1 : decode cX10_follow 1 = .ok (.getfield 51, 3) := by decide +kernel
theorem dX10_follow_4 : decode cX10_follow 4 = .ok (.aload_n 0, 1) := by decide +kernel
theorem dX10_follow_5 : decode cX10_follow 5 = .ok (.getfield 115, 3) := by decide +kernel
theorem dX10_follow_8 : decode cX10_follow 8 = .ok (.if_icmp .ne 4, 3) := by decide +kernel
theorem dX10_follow_11 : decode cX10_follow 11 = .ok (.return_, 1) := by decide +kernel
theorem dX10_follow_12 : decode cX10_follow 12 = .ok (.aload_n 0, 1) := by decide +kernel
theorem dX10_follow_13 : decode cX10_follow 13 = .ok (.aload_n 0, 1) := by decide +kernel
theorem dX10_follow_14 : decode cX10_follow 14 = .ok (.getfield 115, 3) := by decide +kernel
theorem dX10_follow_17 : decode cX10_follow 17 = .ok (.putfield 51, 3) := by decide +kernel
theorem dX10_follow_20 : decode cX10_follow 20 = .ok (.iconst 0, 1) := by decide +kernel
theorem dX10_follow_21 : decode cX10_follow 21 = .ok (.istore_n 1, 1) := by decide +kernel
theorem dX10_follow_22 : decode cX10_follow 22 = .ok (.iload_n 1, 1) := by decide +kernel
theorem dX10_follow_23 : decode cX10_follow 23 = .ok (.bipush 20, 2) := by decide +kernel
theorem dX10_follow_25 : decode cX10_follow 25 = .ok (.if_icmp .ge 18, 3) := by decide +kernel
theorem dX10_follow_28 : decode cX10_follow 28 = .ok (.aload_n 0, 1) := by decide +kernel
theorem dX10_follow_29 : decode cX10_follow 29 = .ok (.getfield 54, 3) := by decide +kernel
theorem dX10_follow_32 : decode cX10_follow 32 = .ok (.iload_n 1, 1) := by decide +kernel
theorem dX10_follow_33 : decode cX10_follow 33 = .ok (.iconst 1, 1) := by decide +kernel
theorem dX10_follow_34 : decode cX10_follow 34 = .ok (.iload_n 1, 1) := by decide +kernel
theorem dX10_follow_35 : decode cX10_follow 35 = .ok (.ishl, 1) := by decide +kernel
theorem dX10_follow_36 : decode cX10_follow 36 = .ok (.iastore, 1) := by decide +kernel
theorem dX10_follow_37 : decode cX10_follow 37 = .ok (.iinc 1 1, 3) := by decide +kernel
theorem dX10_follow_40 : decode cX10_follow 40 = .ok (.goto (-18), 3) := by decide +kernel
theorem dX10_follow_43 : decode cX10_follow 43 = .ok (.iconst 0, 1) := by decide +kernel
theorem dX10_follow_44 : decode cX10_follow 44 = .ok (.istore_n 1, 1) := by decide +kernel
theorem dX10_follow_45 : decode cX10_follow 45 = .ok (.iload_n 1, 1) := by decide +kernel
theorem dX10_follow_46 : decode cX10_follow 46 = .ok (.aload_n 0, 1) := by decide +kernel
theorem dX10_follow_47 : decode cX10_follow 47 = .ok (.getfield 35, 3) := by decide +kernel
theorem dX10_follow_50 : decode cX10_follow 50 = .ok (.getfield 63, 3) := by decide +kernel
theorem dX10_follow_53 : decode cX10_follow 53 = .ok (.if_icmp .ge 79, 3) := by decide +kernel
theorem dX10_follow_56 : decode cX10_follow 56 = .ok (.aload_n 0, 1) := by decide +kernel
theorem dX10_follow_57 : decode cX10_follow 57 = .ok (.getfield 115, 3) := by decide +kernel
theorem dX10_follow_60 : decode cX10_follow 60 = .ok (.iload_n 1, 1) := by decide +kernel
theorem dX10_follow_61 : decode cX10_follow 61 = .ok (.invokestatic 74, 3) := by decide +kernel
theorem dX10_follow_64 : decode cX10_follow 64 = .ok (.ifCond .ne 6, 3) := by decide +kernel
theorem dX10_follow_67 : decode cX10_follow 67 = .ok (.goto 59, 3) := by decide +kernel
theorem dX10_follow_70 : decode cX10_follow 70 = .ok (.aload_n 0, 1) := by decide +kernel
theorem dX10_follow_71 : decode cX10_follow 71 = .ok (.getfield 54, 3) := by decide +kernel
theorem dX10_follow_74 : decode cX10_follow 74 = .ok (.aload_n 0, 1) := by decide +kernel
theorem dX10_follow_75 : decode cX10_follow 75 = .ok (.getfield 35, 3) := by decide +kernel
theorem dX10_follow_78 : decode cX10_follow 78 = .ok (.iload_n 1, 1) := by decide +kernel
theorem dX10_follow_79 : decode cX10_follow 79 = .ok (.invokevirtual 78, 3) := by decide +kernel
theorem dX10_follow_82 : decode cX10_follow 82 = .ok (.iconst 1, 1) := by decide +kernel
theorem dX10_follow_83 : decode cX10_follow 83 = .ok (.ixor, 1) := by decide +kernel
theorem dX10_follow_84 : decode cX10_follow 84 = .ok (.dup2, 1) := by decide +kernel
theorem dX10_follow_85 : decode cX10_follow 85 = .ok (.iaload, 1) := by decide +kernel
theorem dX10_follow_86 : decode cX10_follow 86 = .ok (.iconst 1, 1) := by decide +kernel
theorem dX10_follow_87 : decode cX10_follow 87 = .ok (.aload_n 0, 1) := by decide +kernel
theorem dX10_follow_88 : decode cX10_follow 88 = .ok (.getfield 35, 3) := by decide +kernel
theorem dX10_follow_91 : decode cX10_follow 91 = .ok (.iload_n 1, 1) := by decide +kernel
theorem dX10_follow_92 : decode cX10_follow 92 = .ok (.invokevirtual 85, 3) := by decide +kernel
theorem dX10_follow_95 : decode cX10_follow 95 = .ok (.ishl, 1) := by decide +kernel
theorem dX10_follow_96 : decode cX10_follow 96 = .ok (.ior, 1) := by decide +kernel
theorem dX10_follow_97 : decode cX10_follow 97 = .ok (.iastore, 1) := by decide +kernel
theorem dX10_follow_98 : decode cX10_follow 98 = .ok (.aload_n 0, 1) := by decide +kernel
theorem dX10_follow_99 : decode cX10_follow 99 = .ok (.getfield 54, 3) := by decide +kernel
theorem dX10_follow_102 : decode cX10_follow 102 = .ok (.aload_n 0, 1) := by decide +kernel
theorem dX10_follow_103 : decode cX10_follow 103 = .ok (.getfield 35, 3) := by decide +kernel
theorem dX10_follow_106 : decode cX10_follow 106 = .ok (.iload_n 1, 1) := by decide +kernel
theorem dX10_follow_107 : decode cX10_follow 107 = .ok (.invokevirtual 85, 3) := by decide +kernel
theorem dX10_follow_110 : decode cX10_follow 110 = .ok (.iconst 1, 1) := by decide +kernel
theorem dX10_follow_111 : decode cX10_follow 111 = .ok (.ixor, 1) := by decide +kernel
theorem dX10_follow_112 : decode cX10_follow 112 = .ok (.dup2, 1) := by decide +kernel
theorem dX10_follow_113 : decode cX10_follow 113 = .ok (.iaload, 1) := by decide +kernel
theorem dX10_follow_114 : decode cX10_follow 114 = .ok (.iconst 1, 1) := by decide +kernel
theorem dX10_follow_115 : decode cX10_follow 115 = .ok (.aload_n 0, 1) := by decide +kernel
theorem dX10_follow_116 : decode cX10_follow 116 = .ok (.getfield 35, 3) := by decide +kernel
theorem dX10_follow_119 : decode cX10_follow 119 = .ok (.iload_n 1, 1) := by decide +kernel
theorem dX10_follow_120 : decode cX10_follow 120 = .ok (.invokevirtual 78, 3) := by decide +kernel
theorem dX10_follow_123 : decode cX10_follow 123 = .ok (.ishl, 1) := by decide +kernel
theorem dX10_follow_124 : decode cX10_follow 124 = .ok (.ior, 1) := by decide +kernel
theorem dX10_follow_125 : decode cX10_follow 125 = .ok (.iastore, 1) := by decide +kernel
theorem dX10_follow_126 : decode cX10_follow 126 = .ok (.iinc 1 1, 3) := by decide +kernel
theorem dX10_follow_129 : decode cX10_follow 129 = .ok (.goto (-84), 3) := by decide +kernel
theorem dX10_follow_132 : decode cX10_follow 132 = .ok (.iconst 0, 1) := by decide +kernel
theorem dX10_follow_133 : decode cX10_follow 133 = .ok (.istore_n 1, 1) := by decide +kernel
theorem dX10_follow_134 : decode cX10_follow 134 = .ok (.iload_n 1, 1) := by decide +kernel
theorem dX10_follow_135 : decode cX10_follow 135 = .ok (.bipush 20, 2) := by decide +kernel
theorem dX10_follow_137 : decode cX10_follow 137 = .ok (.if_icmp .ge 51, 3) := by decide +kernel
theorem dX10_follow_140 : decode cX10_follow 140 = .ok (.iconst 0, 1) := by decide +kernel
theorem dX10_follow_141 : decode cX10_follow 141 = .ok (.istore_n 2, 1) := by decide +kernel
theorem dX10_follow_142 : decode cX10_follow 142 = .ok (.iload_n 2, 1) := by decide +kernel
theorem dX10_follow_143 : decode cX10_follow 143 = .ok (.bipush 20, 2) := by decide +kernel
theorem dX10_follow_145 : decode cX10_follow 145 = .ok (.if_icmp .ge 37, 3) := by decide +kernel
theorem dX10_follow_148 : decode cX10_follow 148 = .ok (.aload_n 0, 1) := by decide +kernel
theorem dX10_follow_149 : decode cX10_follow 149 = .ok (.getfield 54, 3) := by decide +kernel
theorem dX10_follow_152 : decode cX10_follow 152 = .ok (.iload_n 2, 1) := by decide +kernel
theorem dX10_follow_153 : decode cX10_follow 153 = .ok (.iaload, 1) := by decide +kernel
theorem dX10_follow_154 : decode cX10_follow 154 = .ok (.iload_n 1, 1) := by decide +kernel
theorem dX10_follow_155 : decode cX10_follow 155 = .ok (.invokestatic 74, 3) := by decide +kernel
theorem dX10_follow_158 : decode cX10_follow 158 = .ok (.ifCond .eq 18, 3) := by decide +kernel
theorem dX10_follow_161 : decode cX10_follow 161 = .ok (.aload_n 0, 1) := by decide +kernel
theorem dX10_follow_162 : decode cX10_follow 162 = .ok (.getfield 54, 3) := by decide +kernel
theorem dX10_follow_165 : decode cX10_follow 165 = .ok (.iload_n 2, 1) := by decide +kernel
theorem dX10_follow_166 : decode cX10_follow 166 = .ok (.dup2, 1) := by decide +kernel
theorem dX10_follow_167 : decode cX10_follow 167 = .ok (.iaload, 1) := by decide +kernel
theorem dX10_follow_168 : decode cX10_follow 168 = .ok (.aload_n 0, 1) := by decide +kernel
theorem dX10_follow_169 : decode cX10_follow 169 = .ok (.getfield 54, 3) := by decide +kernel
theorem dX10_follow_172 : decode cX10_follow 172 = .ok (.iload_n 1, 1) := by decide +kernel
theorem dX10_follow_173 : decode cX10_follow 173 = .ok (.iaload, 1) := by decide +kernel
theorem dX10_follow_174 : decode cX10_follow 174 = .ok (.ior, 1) := by decide +kernel
theorem dX10_follow_175 : decode cX10_follow 175 = .ok (.iastore, 1) := by decide +kernel
theorem dX10_follow_176 : decode cX10_follow 176 = .ok (.iinc 2 1, 3) := by decide +kernel
theorem dX10_follow_179 : decode cX10_follow 179 = .ok (.goto (-37), 3) := by decide +kernel
theorem dX10_follow_182 : decode cX10_follow 182 = .ok (.iinc 1 1, 3) := by decide +kernel
theorem dX10_follow_185 : decode cX10_follow 185 = .ok (.goto (-51), 3) := by decide +kernel
theorem dX10_follow_188 : decode cX10_follow 188 = .ok (.aload_n 0, 1) := by decide +kernel
theorem dX10_follow_189 : decode cX10_follow 189 = .ok (.iconst 0, 1) := by decide +kernel
theorem dX10_follow_190 : decode cX10_follow 190 = .ok (.putfield 118, 3) := by decide +kernel
theorem dX10_follow_193 : decode cX10_follow 193 = .ok (.iconst 0, 1) := by decide +kernel
theorem dX10_follow_194 : decode cX10_follow 194 = .ok (.istore_n 1, 1) := by decide +kernel
theorem dX10_follow_195 : decode cX10_follow 195 = .ok (.iload_n 1, 1) := by decide +kernel
theorem dX10_follow_196 : decode cX10_follow 196 = .ok (.aload_n 0, 1) := by decide +kernel
theorem dX10_follow_197 : decode cX10_follow 197 = .ok (.getfield 35, 3) := by decide +kernel
theorem dX10_follow_200 : decode cX10_follow 200 = .ok (.invokevirtual 70, 3) := by decide +kernel
theorem dX10_follow_203 : decode cX10_follow 203 = .ok (.if_icmp .ge 32, 3) := by decide +kernel
theorem dX10_follow_206 : decode cX10_follow 206 = .ok (.aload_n 0, 1) := by decide +kernel
theorem dX10_follow_207 : decode cX10_follow 207 = .ok (.dup, 1) := by decide +kernel
theorem dX10_follow_208 : decode cX10_follow 208 = .ok (.getfield 118, 3) := by decide +kernel
theorem dX10_follow_211 : decode cX10_follow 211 = .ok (.aload_n 0, 1) := by decide +kernel
theorem dX10_follow_212 : decode cX10_follow 212 = .ok (.iload_n 1, 1) := by decide +kernel
theorem dX10_follow_213 : decode cX10_follow 213 = .ok (.invokevirtual 121, 3) := by decide +kernel
theorem dX10_follow_216 : decode cX10_follow 216 = .ok (.iload_n 1, 1) := by decide +kernel
theorem dX10_follow_217 : decode cX10_follow 217 = .ok (.if_icmp .ne 7, 3) := by decide +kernel
theorem dX10_follow_220 : decode cX10_follow 220 = .ok (.iconst 1, 1) := by decide +kernel
theorem dX10_follow_221 : decode cX10_follow 221 = .ok (.goto 4, 3) := by decide +kernel
theorem dX10_follow_224 : decode cX10_follow 224 = .ok (.iconst 0, 1) := by decide +kernel
theorem dX10_follow_225 : decode cX10_follow 225 = .ok (.iadd, 1) := by decide +kernel
theorem dX10_follow_226 : decode cX10_follow 226 = .ok (.putfield 118, 3) := by decide +kernel
theorem dX10_follow_229 : decode cX10_follow 229 = .ok (.iinc 1 1, 3) := by decide +kernel
theorem dX10_follow_232 : decode cX10_follow 232 = .ok (.goto (-37), 3) := by decide +kernel
theorem dX10_follow_235 : decode cX10_follow 235 = .ok (.return_, 1) := by decide +kernel
theorem dX10_areOne_0 : decode cX10_areOne 0 = .ok (.aload_n 0, 1) := by decide +kernel
theorem dX10_areOne_1 : decode cX10_areOne 1 = .ok (.getfield 54, 3) := by decide +kernel
theorem dX10_areOne_4 : decode cX10_areOne 4 = .ok (.iload_n 1, 1) := by decide +kernel
theorem dX10_areOne_5 : decode cX10_areOne 5 = .ok (.iaload, 1) := by decide +kernel
theorem dX10_areOne_6 : decode cX10_areOne 6 = .ok (.iload_n 2, 1) := by decide +kernel
theorem dX10_areOne_7 : decode cX10_areOne 7 = .ok (.invokestatic 74, 3) := by decide +kernel
theorem dX10_areOne_10 : decode cX10_areOne 10 = .ok (.ifCond .eq 20, 3) := by decide +kernel
theorem dX10_areOne_13 : decode cX10_areOne 13 = .ok (.aload_n 0, 1) := by decide +kernel
theorem dX10_areOne_14 : decode cX10_areOne 14 = .ok (.getfield 54, 3) := by decide +kernel
theorem dX10_areOne_17 : decode cX10_areOne 17 = .ok (.iload_n 2, 1) := by decide +kernel
theorem dX10_areOne_18 : decode cX10_areOne 18 = .ok (.iaload, 1) := by decide +kernel
theorem dX10_areOne_19 : decode cX10_areOne 19 = .ok (.iload_n 1, 1) := by decide +kernel
theorem dX10_areOne_20 : decode cX10_areOne 20 = .ok (.invokestatic 74, 3) := by decide +kernel
theorem dX10_areOne_23 : decode cX10_areOne 23 = .ok (.ifCond .eq 7, 3) := by decide +kernel
theorem dX10_areOne_26 : decode cX10_areOne 26 = .ok (.iconst 1, 1) := by decide +kernel
theorem dX10_areOne_27 : decode cX10_areOne 27 = .ok (.goto 4, 3) := by decide +kernel
theorem dX10_areOne_30 : decode cX10_areOne 30 = .ok (.iconst 0, 1) := by decide +kernel
theorem dX10_areOne_31 : decode cX10_areOne 31 = .ok (.ireturn, 1) := by decide +kernel
theorem dX10_smallest_0 : decode cX10_smallest 0 = .ok (.iconst 0, 1) := by decide +kernel
theorem dX10_smallest_1 : decode cX10_smallest 1 = .ok (.istore_n 2, 1) := by decide +kernel
theorem dX10_smallest_2 : decode cX10_smallest 2 = .ok (.aload_n 0, 1) := by decide +kernel
theorem dX10_smallest_3 : decode cX10_smallest 3 = .ok (.iload_n 2, 1) := by decide +kernel
theorem dX10_smallest_4 : decode cX10_smallest 4 = .ok (.iload_n 1, 1) := by decide +kernel
theorem dX10_smallest_5 : decode cX10_smallest 5 = .ok (.invokevirtual 124, 3) := by decide +kernel
theorem dX10_smallest_8 : decode cX10_smallest 8 = .ok (.ifCond .ne 9, 3) := by decide +kernel
theorem dX10_smallest_11 : decode cX10_smallest 11 = .ok (.iinc 2 1, 3) := by decide +kernel
theorem dX10_smallest_14 : decode cX10_smallest 14 = .ok (.goto (-12), 3) := by decide +kernel
theorem dX10_smallest_17 : decode cX10_smallest 17 = .ok (.iload_n 2, 1) := by decide +kernel
theorem dX10_smallest_18 : decode cX10_smallest 18 = .ok (.ireturn, 1) := by decide +kernel
theorem dX10_partsNow_0 : decode cX10_partsNow 0 = .ok (.aload_n 0, 1) := by decide +kernel
theorem dX10_partsNow_1 : decode cX10_partsNow 1 = .ok (.invokevirtual 127, 3) := by decide +kernel
theorem dX10_partsNow_4 : decode cX10_partsNow 4 = .ok (.aload_n 0, 1) := by decide +kernel
theorem dX10_partsNow_5 : decode cX10_partsNow 5 = .ok (.getfield 118, 3) := by decide +kernel
theorem dX10_partsNow_8 : decode cX10_partsNow 8 = .ok (.ireturn, 1) := by decide +kernel
theorem dX10_ofPart_0 : decode cX10_ofPart 0 = .ok (.aload_n 0, 1) := by decide +kernel
theorem dX10_ofPart_1 : decode cX10_ofPart 1 = .ok (.invokevirtual 127, 3) := by decide +kernel
theorem dX10_ofPart_4 : decode cX10_ofPart 4 = .ok (.aload_n 0, 1) := by decide +kernel
theorem dX10_ofPart_5 : decode cX10_ofPart 5 = .ok (.iload_n 1, 1) := by decide +kernel
theorem dX10_ofPart_6 : decode cX10_ofPart 6 = .ok (.invokevirtual 121, 3) := by decide +kernel
theorem dX10_ofPart_9 : decode cX10_ofPart 9 = .ok (.ireturn, 1) := by decide +kernel
theorem dX10_sizeOfPart_0 : decode cX10_sizeOfPart 0 = .ok (.aload_n 0, 1) := by decide +kernel
theorem dX10_sizeOfPart_1 : decode cX10_sizeOfPart 1 = .ok (.invokevirtual 127, 3) := by decide +kernel
theorem dX10_sizeOfPart_4 : decode cX10_sizeOfPart 4 = .ok (.iconst 0, 1) := by decide +kernel
theorem dX10_sizeOfPart_5 : decode cX10_sizeOfPart 5 = .ok (.istore_n 2, 1) := by decide +kernel
theorem dX10_sizeOfPart_6 : decode cX10_sizeOfPart 6 = .ok (.iconst 0, 1) := by decide +kernel
theorem dX10_sizeOfPart_7 : decode cX10_sizeOfPart 7 = .ok (.istore_n 3, 1) := by decide +kernel
theorem dX10_sizeOfPart_8 : decode cX10_sizeOfPart 8 = .ok (.iload_n 3, 1) := by decide +kernel
theorem dX10_sizeOfPart_9 : decode cX10_sizeOfPart 9 = .ok (.aload_n 0, 1) := by decide +kernel
theorem dX10_sizeOfPart_10 : decode cX10_sizeOfPart 10 = .ok (.getfield 35, 3) := by decide +kernel
theorem dX10_sizeOfPart_13 : decode cX10_sizeOfPart 13 = .ok (.invokevirtual 70, 3) := by decide +kernel
theorem dX10_sizeOfPart_16 : decode cX10_sizeOfPart 16 = .ok (.if_icmp .ge 26, 3) := by decide +kernel
theorem dX10_sizeOfPart_19 : decode cX10_sizeOfPart 19 = .ok (.iload_n 2, 1) := by decide +kernel
theorem dX10_sizeOfPart_20 : decode cX10_sizeOfPart 20 = .ok (.aload_n 0, 1) := by decide +kernel
theorem dX10_sizeOfPart_21 : decode cX10_sizeOfPart 21 = .ok (.iload_n 3, 1) := by decide +kernel
theorem dX10_sizeOfPart_22 : decode cX10_sizeOfPart 22 = .ok (.iload_n 1, 1) := by decide +kernel
theorem dX10_sizeOfPart_23 : decode cX10_sizeOfPart 23 = .ok (.invokevirtual 124, 3) := by decide +kernel
theorem dX10_sizeOfPart_26 : decode cX10_sizeOfPart 26 = .ok (.ifCond .eq 7, 3) := by decide +kernel
theorem dX10_sizeOfPart_29 : decode cX10_sizeOfPart 29 = .ok (.iconst 1, 1) := by decide +kernel
theorem dX10_sizeOfPart_30 : decode cX10_sizeOfPart 30 = .ok (.goto 4, 3) := by decide +kernel
theorem dX10_sizeOfPart_33 : decode cX10_sizeOfPart 33 = .ok (.iconst 0, 1) := by decide +kernel
theorem dX10_sizeOfPart_34 : decode cX10_sizeOfPart 34 = .ok (.iadd, 1) := by decide +kernel
theorem dX10_sizeOfPart_35 : decode cX10_sizeOfPart 35 = .ok (.istore_n 2, 1) := by decide +kernel
theorem dX10_sizeOfPart_36 : decode cX10_sizeOfPart 36 = .ok (.iinc 3 1, 3) := by decide +kernel
theorem dX10_sizeOfPart_39 : decode cX10_sizeOfPart 39 = .ok (.goto (-31), 3) := by decide +kernel
theorem dX10_sizeOfPart_42 : decode cX10_sizeOfPart 42 = .ok (.iload_n 2, 1) := by decide +kernel
theorem dX10_sizeOfPart_43 : decode cX10_sizeOfPart 43 = .ok (.ireturn, 1) := by decide +kernel
theorem dX10_isFrom_0 : decode cX10_isFrom 0 = .ok (.aload_n 0, 1) := by decide +kernel
theorem dX10_isFrom_1 : decode cX10_isFrom 1 = .ok (.invokevirtual 127, 3) := by decide +kernel
theorem dX10_isFrom_4 : decode cX10_isFrom 4 = .ok (.aload_n 0, 1) := by decide +kernel
theorem dX10_isFrom_5 : decode cX10_isFrom 5 = .ok (.getfield 54, 3) := by decide +kernel
theorem dX10_isFrom_8 : decode cX10_isFrom 8 = .ok (.iload_n 2, 1) := by decide +kernel
theorem dX10_isFrom_9 : decode cX10_isFrom 9 = .ok (.iaload, 1) := by decide +kernel
theorem dX10_isFrom_10 : decode cX10_isFrom 10 = .ok (.iload_n 1, 1) := by decide +kernel
theorem dX10_isFrom_11 : decode cX10_isFrom 11 = .ok (.invokestatic 74, 3) := by decide +kernel
theorem dX10_isFrom_14 : decode cX10_isFrom 14 = .ok (.ireturn, 1) := by decide +kernel
theorem dX10_following_0 : decode cX10_following 0 = .ok (.aload_n 0, 1) := by decide +kernel
theorem dX10_following_1 : decode cX10_following 1 = .ok (.invokevirtual 127, 3) := by decide +kernel
theorem dX10_following_4 : decode cX10_following 4 = .ok (.aload_n 0, 1) := by decide +kernel
theorem dX10_following_5 : decode cX10_following 5 = .ok (.getfield 54, 3) := by decide +kernel
theorem dX10_following_8 : decode cX10_following 8 = .ok (.iload_n 1, 1) := by decide +kernel
theorem dX10_following_9 : decode cX10_following 9 = .ok (.iaload, 1) := by decide +kernel
theorem dX10_following_10 : decode cX10_following 10 = .ok (.invokestatic 106, 3) := by decide +kernel
theorem dX10_following_13 : decode cX10_following 13 = .ok (.ireturn, 1) := by decide +kernel
theorem dX10_between_0 : decode cX10_between 0 = .ok (.iconst 0, 1) := by decide +kernel
theorem dX10_between_1 : decode cX10_between 1 = .ok (.istore_n 3, 1) := by decide +kernel
theorem dX10_between_2 : decode cX10_between 2 = .ok (.iload_n 3, 1) := by decide +kernel
theorem dX10_between_3 : decode cX10_between 3 = .ok (.bipush 20, 2) := by decide +kernel
theorem dX10_between_5 : decode cX10_between 5 = .ok (.if_icmp .ge 16, 3) := by decide +kernel
theorem dX10_between_8 : decode cX10_between 8 = .ok (.aload_n 0, 1) := by decide +kernel
theorem dX10_between_9 : decode cX10_between 9 = .ok (.getfield 57, 3) := by decide +kernel
theorem dX10_between_12 : decode cX10_between 12 = .ok (.iload_n 3, 1) := by decide +kernel
theorem dX10_between_13 : decode cX10_between 13 = .ok (.iconst (-1), 1) := by decide +kernel
theorem dX10_between_14 : decode cX10_between 14 = .ok (.iastore, 1) := by decide +kernel
theorem dX10_between_15 : decode cX10_between 15 = .ok (.iinc 3 1, 3) := by decide +kernel
theorem dX10_between_18 : decode cX10_between 18 = .ok (.goto (-16), 3) := by decide +kernel
theorem dX10_between_21 : decode cX10_between 21 = .ok (.aload_n 0, 1) := by decide +kernel
theorem dX10_between_22 : decode cX10_between 22 = .ok (.getfield 57, 3) := by decide +kernel
theorem dX10_between_25 : decode cX10_between 25 = .ok (.iload_n 2, 1) := by decide +kernel
theorem dX10_between_26 : decode cX10_between 26 = .ok (.iconst 0, 1) := by decide +kernel
theorem dX10_between_27 : decode cX10_between 27 = .ok (.iastore, 1) := by decide +kernel
theorem dX10_between_28 : decode cX10_between 28 = .ok (.iconst 0, 1) := by decide +kernel
theorem dX10_between_29 : decode cX10_between 29 = .ok (.istore_n 3, 1) := by decide +kernel
theorem dX10_between_30 : decode cX10_between 30 = .ok (.aload_n 0, 1) := by decide +kernel
theorem dX10_between_31 : decode cX10_between 31 = .ok (.getfield 57, 3) := by decide +kernel
theorem dX10_between_34 : decode cX10_between 34 = .ok (.iload_n 1, 1) := by decide +kernel
theorem dX10_between_35 : decode cX10_between 35 = .ok (.iaload, 1) := by decide +kernel
theorem dX10_between_36 : decode cX10_between 36 = .ok (.iconst (-1), 1) := by decide +kernel
theorem dX10_between_37 : decode cX10_between 37 = .ok (.if_icmp .ne 65, 3) := by decide +kernel
theorem dX10_between_40 : decode cX10_between 40 = .ok (.iconst 0, 1) := by decide +kernel
theorem dX10_between_41 : decode cX10_between 41 = .ok (.istore 4, 2) := by decide +kernel
theorem dX10_between_43 : decode cX10_between 43 = .ok (.iload 4, 2) := by decide +kernel
theorem dX10_between_45 : decode cX10_between 45 = .ok (.aload_n 0, 1) := by decide +kernel
theorem dX10_between_46 : decode cX10_between 46 = .ok (.getfield 35, 3) := by decide +kernel
theorem dX10_between_49 : decode cX10_between 49 = .ok (.getfield 63, 3) := by decide +kernel
theorem dX10_between_52 : decode cX10_between 52 = .ok (.if_icmp .ge 44, 3) := by decide +kernel
theorem dX10_between_55 : decode cX10_between 55 = .ok (.aload_n 0, 1) := by decide +kernel
theorem dX10_between_56 : decode cX10_between 56 = .ok (.getfield 115, 3) := by decide +kernel
theorem dX10_between_59 : decode cX10_between 59 = .ok (.iload 4, 2) := by decide +kernel
theorem dX10_between_61 : decode cX10_between 61 = .ok (.invokestatic 74, 3) := by decide +kernel
theorem dX10_between_64 : decode cX10_between 64 = .ok (.ifCond .eq 26, 3) := by decide +kernel
theorem dX10_between_67 : decode cX10_between 67 = .ok (.aload_n 0, 1) := by decide +kernel
theorem dX10_between_68 : decode cX10_between 68 = .ok (.aload_n 0, 1) := by decide +kernel
theorem dX10_between_69 : decode cX10_between 69 = .ok (.getfield 35, 3) := by decide +kernel
theorem dX10_between_72 : decode cX10_between 72 = .ok (.iload 4, 2) := by decide +kernel
theorem dX10_between_74 : decode cX10_between 74 = .ok (.invokevirtual 78, 3) := by decide +kernel
theorem dX10_between_77 : decode cX10_between 77 = .ok (.aload_n 0, 1) := by decide +kernel
theorem dX10_between_78 : decode cX10_between 78 = .ok (.getfield 35, 3) := by decide +kernel
theorem dX10_between_81 : decode cX10_between 81 = .ok (.iload 4, 2) := by decide +kernel
theorem dX10_between_83 : decode cX10_between 83 = .ok (.invokevirtual 85, 3) := by decide +kernel
theorem dX10_between_86 : decode cX10_between 86 = .ok (.iload_n 3, 1) := by decide +kernel
theorem dX10_between_87 : decode cX10_between 87 = .ok (.invokevirtual 130, 3) := by decide +kernel
theorem dX10_between_90 : decode cX10_between 90 = .ok (.iinc 4 1, 3) := by decide +kernel
theorem dX10_between_93 : decode cX10_between 93 = .ok (.goto (-50), 3) := by decide +kernel
theorem dX10_between_96 : decode cX10_between 96 = .ok (.iinc 3 1, 3) := by decide +kernel
theorem dX10_between_99 : decode cX10_between 99 = .ok (.goto (-69), 3) := by decide +kernel
theorem dX10_between_102 : decode cX10_between 102 = .ok (.aload_n 0, 1) := by decide +kernel
theorem dX10_between_103 : decode cX10_between 103 = .ok (.getfield 57, 3) := by decide +kernel
theorem dX10_between_106 : decode cX10_between 106 = .ok (.iload_n 1, 1) := by decide +kernel
theorem dX10_between_107 : decode cX10_between 107 = .ok (.iaload, 1) := by decide +kernel
theorem dX10_between_108 : decode cX10_between 108 = .ok (.ireturn, 1) := by decide +kernel
theorem dX10_step_0 : decode cX10_step 0 = .ok (.aload_n 0, 1) := by decide +kernel
theorem dX10_step_1 : decode cX10_step 1 = .ok (.getfield 57, 3) := by decide +kernel
theorem dX10_step_4 : decode cX10_step 4 = .ok (.iload_n 1, 1) := by decide +kernel
theorem dX10_step_5 : decode cX10_step 5 = .ok (.iconst 1, 1) := by decide +kernel
theorem dX10_step_6 : decode cX10_step 6 = .ok (.ixor, 1) := by decide +kernel
theorem dX10_step_7 : decode cX10_step 7 = .ok (.iaload, 1) := by decide +kernel
theorem dX10_step_8 : decode cX10_step 8 = .ok (.iload_n 3, 1) := by decide +kernel
theorem dX10_step_9 : decode cX10_step 9 = .ok (.if_icmp .ne 22, 3) := by decide +kernel
theorem dX10_step_12 : decode cX10_step 12 = .ok (.aload_n 0, 1) := by decide +kernel
theorem dX10_step_13 : decode cX10_step 13 = .ok (.getfield 57, 3) := by decide +kernel
theorem dX10_step_16 : decode cX10_step 16 = .ok (.iload_n 2, 1) := by decide +kernel
theorem dX10_step_17 : decode cX10_step 17 = .ok (.iaload, 1) := by decide +kernel
theorem dX10_step_18 : decode cX10_step 18 = .ok (.iconst (-1), 1) := by decide +kernel
theorem dX10_step_19 : decode cX10_step 19 = .ok (.if_icmp .ne 12, 3) := by decide +kernel
theorem dX10_step_22 : decode cX10_step 22 = .ok (.aload_n 0, 1) := by decide +kernel
theorem dX10_step_23 : decode cX10_step 23 = .ok (.getfield 57, 3) := by decide +kernel
theorem dX10_step_26 : decode cX10_step 26 = .ok (.iload_n 2, 1) := by decide +kernel
theorem dX10_step_27 : decode cX10_step 27 = .ok (.iload_n 3, 1) := by decide +kernel
theorem dX10_step_28 : decode cX10_step 28 = .ok (.iconst 1, 1) := by decide +kernel
theorem dX10_step_29 : decode cX10_step 29 = .ok (.iadd, 1) := by decide +kernel
theorem dX10_step_30 : decode cX10_step 30 = .ok (.iastore, 1) := by decide +kernel
theorem dX10_step_31 : decode cX10_step 31 = .ok (.aload_n 0, 1) := by decide +kernel
theorem dX10_step_32 : decode cX10_step 32 = .ok (.getfield 57, 3) := by decide +kernel
theorem dX10_step_35 : decode cX10_step 35 = .ok (.iload_n 2, 1) := by decide +kernel
theorem dX10_step_36 : decode cX10_step 36 = .ok (.iconst 1, 1) := by decide +kernel
theorem dX10_step_37 : decode cX10_step 37 = .ok (.ixor, 1) := by decide +kernel
theorem dX10_step_38 : decode cX10_step 38 = .ok (.iaload, 1) := by decide +kernel
theorem dX10_step_39 : decode cX10_step 39 = .ok (.iload_n 3, 1) := by decide +kernel
theorem dX10_step_40 : decode cX10_step 40 = .ok (.if_icmp .ne 22, 3) := by decide +kernel
theorem dX10_step_43 : decode cX10_step 43 = .ok (.aload_n 0, 1) := by decide +kernel
theorem dX10_step_44 : decode cX10_step 44 = .ok (.getfield 57, 3) := by decide +kernel
theorem dX10_step_47 : decode cX10_step 47 = .ok (.iload_n 1, 1) := by decide +kernel
theorem dX10_step_48 : decode cX10_step 48 = .ok (.iaload, 1) := by decide +kernel
theorem dX10_step_49 : decode cX10_step 49 = .ok (.iconst (-1), 1) := by decide +kernel
theorem dX10_step_50 : decode cX10_step 50 = .ok (.if_icmp .ne 12, 3) := by decide +kernel
theorem dX10_step_53 : decode cX10_step 53 = .ok (.aload_n 0, 1) := by decide +kernel
theorem dX10_step_54 : decode cX10_step 54 = .ok (.getfield 57, 3) := by decide +kernel
theorem dX10_step_57 : decode cX10_step 57 = .ok (.iload_n 1, 1) := by decide +kernel
theorem dX10_step_58 : decode cX10_step 58 = .ok (.iload_n 3, 1) := by decide +kernel
theorem dX10_step_59 : decode cX10_step 59 = .ok (.iconst 1, 1) := by decide +kernel
theorem dX10_step_60 : decode cX10_step 60 = .ok (.iadd, 1) := by decide +kernel
theorem dX10_step_61 : decode cX10_step 61 = .ok (.iastore, 1) := by decide +kernel
theorem dX10_step_62 : decode cX10_step 62 = .ok (.return_, 1) := by decide +kernel
theorem dX10_order_0 : decode cX10_order 0 = .ok (.aload_n 0, 1) := by decide +kernel
theorem dX10_order_1 : decode cX10_order 1 = .ok (.getfield 115, 3) := by decide +kernel
theorem dX10_order_4 : decode cX10_order 4 = .ok (.istore_n 2, 1) := by decide +kernel
theorem dX10_order_5 : decode cX10_order 5 = .ok (.iconst 1, 1) := by decide +kernel
theorem dX10_order_6 : decode cX10_order 6 = .ok (.aload_n 0, 1) := by decide +kernel
theorem dX10_order_7 : decode cX10_order 7 = .ok (.getfield 35, 3) := by decide +kernel
theorem dX10_order_10 : decode cX10_order 10 = .ok (.getfield 134, 3) := by decide +kernel
theorem dX10_order_13 : decode cX10_order 13 = .ok (.iload_n 1, 1) := by decide +kernel
theorem dX10_order_14 : decode cX10_order 14 = .ok (.iaload, 1) := by decide +kernel
theorem dX10_order_15 : decode cX10_order 15 = .ok (.ishl, 1) := by decide +kernel
theorem dX10_order_16 : decode cX10_order 16 = .ok (.istore_n 3, 1) := by decide +kernel
theorem dX10_order_17 : decode cX10_order 17 = .ok (.aload_n 0, 1) := by decide +kernel
theorem dX10_order_18 : decode cX10_order 18 = .ok (.aload_n 0, 1) := by decide +kernel
theorem dX10_order_19 : decode cX10_order 19 = .ok (.getfield 35, 3) := by decide +kernel
theorem dX10_order_22 : decode cX10_order 22 = .ok (.getfield 137, 3) := by decide +kernel
theorem dX10_order_25 : decode cX10_order 25 = .ok (.iload_n 1, 1) := by decide +kernel
theorem dX10_order_26 : decode cX10_order 26 = .ok (.iaload, 1) := by decide +kernel
theorem dX10_order_27 : decode cX10_order 27 = .ok (.bipush 12, 2) := by decide +kernel
theorem dX10_order_29 : decode cX10_order 29 = .ok (.if_icmp .ne 14, 3) := by decide +kernel
theorem dX10_order_32 : decode cX10_order 32 = .ok (.aload_n 0, 1) := by decide +kernel
theorem dX10_order_33 : decode cX10_order 33 = .ok (.getfield 115, 3) := by decide +kernel
theorem dX10_order_36 : decode cX10_order 36 = .ok (.iload_n 3, 1) := by decide +kernel
theorem dX10_order_37 : decode cX10_order 37 = .ok (.iconst (-1), 1) := by decide +kernel
theorem dX10_order_38 : decode cX10_order 38 = .ok (.ixor, 1) := by decide +kernel
theorem dX10_order_39 : decode cX10_order 39 = .ok (.iand, 1) := by decide +kernel
theorem dX10_order_40 : decode cX10_order 40 = .ok (.goto 9, 3) := by decide +kernel
theorem dX10_order_43 : decode cX10_order 43 = .ok (.aload_n 0, 1) := by decide +kernel
theorem dX10_order_44 : decode cX10_order 44 = .ok (.getfield 115, 3) := by decide +kernel
theorem dX10_order_47 : decode cX10_order 47 = .ok (.iload_n 3, 1) := by decide +kernel
theorem dX10_order_48 : decode cX10_order 48 = .ok (.ior, 1) := by decide +kernel
theorem dX10_order_49 : decode cX10_order 49 = .ok (.putfield 115, 3) := by decide +kernel
theorem dX10_order_52 : decode cX10_order 52 = .ok (.aload_n 0, 1) := by decide +kernel
theorem dX10_order_53 : decode cX10_order 53 = .ok (.getfield 115, 3) := by decide +kernel
theorem dX10_order_56 : decode cX10_order 56 = .ok (.iload_n 2, 1) := by decide +kernel
theorem dX10_order_57 : decode cX10_order 57 = .ok (.if_icmp .eq 7, 3) := by decide +kernel
theorem dX10_order_60 : decode cX10_order 60 = .ok (.iconst 1, 1) := by decide +kernel
theorem dX10_order_61 : decode cX10_order 61 = .ok (.goto 4, 3) := by decide +kernel
theorem dX10_order_64 : decode cX10_order 64 = .ok (.iconst 0, 1) := by decide +kernel
theorem dX10_order_65 : decode cX10_order 65 = .ok (.ireturn, 1) := by decide +kernel
theorem dX10_isDue_0 : decode cX10_isDue 0 = .ok (.aload_n 0, 1) := by decide +kernel
theorem dX10_isDue_1 : decode cX10_isDue 1 = .ok (.getfield 35, 3) := by decide +kernel
theorem dX10_isDue_4 : decode cX10_isDue 4 = .ok (.getfield 140, 3) := by decide +kernel
