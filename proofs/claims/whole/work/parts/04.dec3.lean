theorem dX10_isDue_7 : decode cX10_isDue 7 = .ok (.iload_n 1, 1) := by decide +kernel
theorem dX10_isDue_8 : decode cX10_isDue 8 = .ok (.iaload, 1) := by decide +kernel
theorem dX10_isDue_9 : decode cX10_isDue 9 = .ok (.aload_n 0, 1) := by decide +kernel
theorem dX10_isDue_10 : decode cX10_isDue 10 = .ok (.getfield 35, 3) := by decide +kernel
theorem dX10_isDue_13 : decode cX10_isDue 13 = .ok (.getfield 143, 3) := by decide +kernel
theorem dX10_isDue_16 : decode cX10_isDue 16 = .ok (.iload_n 1, 1) := by decide +kernel
theorem dX10_isDue_17 : decode cX10_isDue 17 = .ok (.iaload, 1) := by decide +kernel
theorem dX10_isDue_18 : decode cX10_isDue 18 = .ok (.if_icmp .eq 29, 3) := by decide +kernel
theorem dX10_isDue_21 : decode cX10_isDue 21 = .ok (.aload_n 0, 1) := by decide +kernel
theorem dX10_isDue_22 : decode cX10_isDue 22 = .ok (.aload_n 0, 1) := by decide +kernel
theorem dX10_isDue_23 : decode cX10_isDue 23 = .ok (.getfield 35, 3) := by decide +kernel
theorem dX10_isDue_26 : decode cX10_isDue 26 = .ok (.getfield 140, 3) := by decide +kernel
theorem dX10_isDue_29 : decode cX10_isDue 29 = .ok (.iload_n 1, 1) := by decide +kernel
theorem dX10_isDue_30 : decode cX10_isDue 30 = .ok (.iaload, 1) := by decide +kernel
theorem dX10_isDue_31 : decode cX10_isDue 31 = .ok (.aload_n 0, 1) := by decide +kernel
theorem dX10_isDue_32 : decode cX10_isDue 32 = .ok (.getfield 35, 3) := by decide +kernel
theorem dX10_isDue_35 : decode cX10_isDue 35 = .ok (.getfield 143, 3) := by decide +kernel
theorem dX10_isDue_38 : decode cX10_isDue 38 = .ok (.iload_n 1, 1) := by decide +kernel
theorem dX10_isDue_39 : decode cX10_isDue 39 = .ok (.iaload, 1) := by decide +kernel
theorem dX10_isDue_40 : decode cX10_isDue 40 = .ok (.invokevirtual 146, 3) := by decide +kernel
theorem dX10_isDue_43 : decode cX10_isDue 43 = .ok (.iconst 1, 1) := by decide +kernel
theorem dX10_isDue_44 : decode cX10_isDue 44 = .ok (.if_icmp .ne 7, 3) := by decide +kernel
theorem dX10_isDue_47 : decode cX10_isDue 47 = .ok (.iconst 1, 1) := by decide +kernel
theorem dX10_isDue_48 : decode cX10_isDue 48 = .ok (.goto 4, 3) := by decide +kernel
theorem dX10_isDue_51 : decode cX10_isDue 51 = .ok (.iconst 0, 1) := by decide +kernel
theorem dX10_isDue_52 : decode cX10_isDue 52 = .ok (.ireturn, 1) := by decide +kernel
theorem dX10_pass_0 : decode cX10_pass 0 = .ok (.iconst 0, 1) := by decide +kernel
theorem dX10_pass_1 : decode cX10_pass 1 = .ok (.istore_n 2, 1) := by decide +kernel
theorem dX10_pass_2 : decode cX10_pass 2 = .ok (.iload_n 2, 1) := by decide +kernel
theorem dX10_pass_3 : decode cX10_pass 3 = .ok (.iload_n 1, 1) := by decide +kernel
theorem dX10_pass_4 : decode cX10_pass 4 = .ok (.if_icmp .ge 64, 3) := by decide +kernel
theorem dX10_pass_7 : decode cX10_pass 7 = .ok (.iconst 0, 1) := by decide +kernel
theorem dX10_pass_8 : decode cX10_pass 8 = .ok (.istore_n 3, 1) := by decide +kernel
theorem dX10_pass_9 : decode cX10_pass 9 = .ok (.iload_n 3, 1) := by decide +kernel
theorem dX10_pass_10 : decode cX10_pass 10 = .ok (.aload_n 0, 1) := by decide +kernel
theorem dX10_pass_11 : decode cX10_pass 11 = .ok (.getfield 35, 3) := by decide +kernel
theorem dX10_pass_14 : decode cX10_pass 14 = .ok (.getfield 150, 3) := by decide +kernel
theorem dX10_pass_17 : decode cX10_pass 17 = .ok (.if_icmp .ge 35, 3) := by decide +kernel
theorem dX10_pass_20 : decode cX10_pass 20 = .ok (.aload_n 0, 1) := by decide +kernel
theorem dX10_pass_21 : decode cX10_pass 21 = .ok (.iload_n 3, 1) := by decide +kernel
theorem dX10_pass_22 : decode cX10_pass 22 = .ok (.invokevirtual 153, 3) := by decide +kernel
theorem dX10_pass_25 : decode cX10_pass 25 = .ok (.ifCond .eq 21, 3) := by decide +kernel
theorem dX10_pass_28 : decode cX10_pass 28 = .ok (.aload_n 0, 1) := by decide +kernel
theorem dX10_pass_29 : decode cX10_pass 29 = .ok (.iload_n 3, 1) := by decide +kernel
theorem dX10_pass_30 : decode cX10_pass 30 = .ok (.invokevirtual 157, 3) := by decide +kernel
theorem dX10_pass_33 : decode cX10_pass 33 = .ok (.ifCond .eq 13, 3) := by decide +kernel
theorem dX10_pass_36 : decode cX10_pass 36 = .ok (.aload_n 0, 1) := by decide +kernel
theorem dX10_pass_37 : decode cX10_pass 37 = .ok (.dup, 1) := by decide +kernel
theorem dX10_pass_38 : decode cX10_pass 38 = .ok (.getfield 160, 3) := by decide +kernel
theorem dX10_pass_41 : decode cX10_pass 41 = .ok (.iconst 1, 1) := by decide +kernel
theorem dX10_pass_42 : decode cX10_pass 42 = .ok (.iadd, 1) := by decide +kernel
theorem dX10_pass_43 : decode cX10_pass 43 = .ok (.putfield 160, 3) := by decide +kernel
theorem dX10_pass_46 : decode cX10_pass 46 = .ok (.iinc 3 1, 3) := by decide +kernel
theorem dX10_pass_49 : decode cX10_pass 49 = .ok (.goto (-40), 3) := by decide +kernel
theorem dX10_pass_52 : decode cX10_pass 52 = .ok (.aload_n 0, 1) := by decide +kernel
theorem dX10_pass_53 : decode cX10_pass 53 = .ok (.dup, 1) := by decide +kernel
theorem dX10_pass_54 : decode cX10_pass 54 = .ok (.getfield 163, 3) := by decide +kernel
theorem dX10_pass_57 : decode cX10_pass 57 = .ok (.iconst 1, 1) := by decide +kernel
theorem dX10_pass_58 : decode cX10_pass 58 = .ok (.iadd, 1) := by decide +kernel
theorem dX10_pass_59 : decode cX10_pass 59 = .ok (.putfield 163, 3) := by decide +kernel
theorem dX10_pass_62 : decode cX10_pass 62 = .ok (.iinc 2 1, 3) := by decide +kernel
theorem dX10_pass_65 : decode cX10_pass 65 = .ok (.goto (-63), 3) := by decide +kernel
theorem dX10_pass_68 : decode cX10_pass 68 = .ok (.return_, 1) := by decide +kernel
theorem dX10_carryOut_0 : decode cX10_carryOut 0 = .ok (.iconst (-1), 1) := by decide +kernel
theorem dX10_carryOut_1 : decode cX10_carryOut 1 = .ok (.istore_n 3, 1) := by decide +kernel
theorem dX10_carryOut_2 : decode cX10_carryOut 2 = .ok (.iload_n 1, 1) := by decide +kernel
theorem dX10_carryOut_3 : decode cX10_carryOut 3 = .ok (.istore 4, 2) := by decide +kernel
theorem dX10_carryOut_5 : decode cX10_carryOut 5 = .ok (.iload 4, 2) := by decide +kernel
theorem dX10_carryOut_7 : decode cX10_carryOut 7 = .ok (.iload_n 2, 1) := by decide +kernel
theorem dX10_carryOut_8 : decode cX10_carryOut 8 = .ok (.if_icmp .ge 136, 3) := by decide +kernel
theorem dX10_carryOut_11 : decode cX10_carryOut 11 = .ok (.aload_n 0, 1) := by decide +kernel
theorem dX10_carryOut_12 : decode cX10_carryOut 12 = .ok (.getfield 35, 3) := by decide +kernel
theorem dX10_carryOut_15 : decode cX10_carryOut 15 = .ok (.getfield 166, 3) := by decide +kernel
theorem dX10_carryOut_18 : decode cX10_carryOut 18 = .ok (.iload 4, 2) := by decide +kernel
theorem dX10_carryOut_20 : decode cX10_carryOut 20 = .ok (.iaload, 1) := by decide +kernel
theorem dX10_carryOut_21 : decode cX10_carryOut 21 = .ok (.istore 5, 2) := by decide +kernel
theorem dX10_carryOut_23 : decode cX10_carryOut 23 = .ok (.iinc 4 1, 3) := by decide +kernel
theorem dX10_carryOut_26 : decode cX10_carryOut 26 = .ok (.iload 5, 2) := by decide +kernel
theorem dX10_carryOut_28 : decode cX10_carryOut 28 = .ok (.invokestatic 169, 3) := by decide +kernel
theorem dX10_carryOut_31 : decode cX10_carryOut 31 = .ok (.istore 6, 2) := by decide +kernel
theorem dX10_carryOut_33 : decode cX10_carryOut 33 = .ok (.iload 6, 2) := by decide +kernel
theorem dX10_carryOut_35 : decode cX10_carryOut 35 = .ok (.ifCond .lt 30, 3) := by decide +kernel
theorem dX10_carryOut_38 : decode cX10_carryOut 38 = .ok (.iinc 3 1, 3) := by decide +kernel
theorem dX10_carryOut_41 : decode cX10_carryOut 41 = .ok (.aload_n 0, 1) := by decide +kernel
theorem dX10_carryOut_42 : decode cX10_carryOut 42 = .ok (.getfield 42, 3) := by decide +kernel
theorem dX10_carryOut_45 : decode cX10_carryOut 45 = .ok (.iload_n 3, 1) := by decide +kernel
theorem dX10_carryOut_46 : decode cX10_carryOut 46 = .ok (.aload_n 0, 1) := by decide +kernel
theorem dX10_carryOut_47 : decode cX10_carryOut 47 = .ok (.iload 5, 2) := by decide +kernel
theorem dX10_carryOut_49 : decode cX10_carryOut 49 = .ok (.iload 4, 2) := by decide +kernel
theorem dX10_carryOut_51 : decode cX10_carryOut 51 = .ok (.invokevirtual 172, 3) := by decide +kernel
theorem dX10_carryOut_54 : decode cX10_carryOut 54 = .ok (.iastore, 1) := by decide +kernel
theorem dX10_carryOut_55 : decode cX10_carryOut 55 = .ok (.iload 4, 2) := by decide +kernel
theorem dX10_carryOut_57 : decode cX10_carryOut 57 = .ok (.iload 6, 2) := by decide +kernel
theorem dX10_carryOut_59 : decode cX10_carryOut 59 = .ok (.iadd, 1) := by decide +kernel
theorem dX10_carryOut_60 : decode cX10_carryOut 60 = .ok (.istore 4, 2) := by decide +kernel
theorem dX10_carryOut_62 : decode cX10_carryOut 62 = .ok (.goto 79, 3) := by decide +kernel
theorem dX10_carryOut_65 : decode cX10_carryOut 65 = .ok (.iload 5, 2) := by decide +kernel
theorem dX10_carryOut_67 : decode cX10_carryOut 67 = .ok (.bipush 33, 2) := by decide +kernel
theorem dX10_carryOut_69 : decode cX10_carryOut 69 = .ok (.if_icmp .eq 10, 3) := by decide +kernel
theorem dX10_carryOut_72 : decode cX10_carryOut 72 = .ok (.iload 5, 2) := by decide +kernel
theorem dX10_carryOut_74 : decode cX10_carryOut 74 = .ok (.bipush 23, 2) := by decide +kernel
theorem dX10_carryOut_76 : decode cX10_carryOut 76 = .ok (.if_icmp .ne 37, 3) := by decide +kernel
theorem dX10_carryOut_79 : decode cX10_carryOut 79 = .ok (.aload_n 0, 1) := by decide +kernel
theorem dX10_carryOut_80 : decode cX10_carryOut 80 = .ok (.getfield 42, 3) := by decide +kernel
theorem dX10_carryOut_83 : decode cX10_carryOut 83 = .ok (.iload_n 3, 1) := by decide +kernel
theorem dX10_carryOut_84 : decode cX10_carryOut 84 = .ok (.iload 5, 2) := by decide +kernel
theorem dX10_carryOut_86 : decode cX10_carryOut 86 = .ok (.bipush 33, 2) := by decide +kernel
theorem dX10_carryOut_88 : decode cX10_carryOut 88 = .ok (.if_icmp .ne 13, 3) := by decide +kernel
theorem dX10_carryOut_91 : decode cX10_carryOut 91 = .ok (.aload_n 0, 1) := by decide +kernel
theorem dX10_carryOut_92 : decode cX10_carryOut 92 = .ok (.getfield 42, 3) := by decide +kernel
theorem dX10_carryOut_95 : decode cX10_carryOut 95 = .ok (.iload_n 3, 1) := by decide +kernel
theorem dX10_carryOut_96 : decode cX10_carryOut 96 = .ok (.iaload, 1) := by decide +kernel
theorem dX10_carryOut_97 : decode cX10_carryOut 97 = .ok (.ineg, 1) := by decide +kernel
theorem dX10_carryOut_98 : decode cX10_carryOut 98 = .ok (.goto 11, 3) := by decide +kernel
theorem dX10_carryOut_101 : decode cX10_carryOut 101 = .ok (.iconst 1, 1) := by decide +kernel
theorem dX10_carryOut_102 : decode cX10_carryOut 102 = .ok (.aload_n 0, 1) := by decide +kernel
theorem dX10_carryOut_103 : decode cX10_carryOut 103 = .ok (.getfield 42, 3) := by decide +kernel
theorem dX10_carryOut_106 : decode cX10_carryOut 106 = .ok (.iload_n 3, 1) := by decide +kernel
theorem dX10_carryOut_107 : decode cX10_carryOut 107 = .ok (.iaload, 1) := by decide +kernel
theorem dX10_carryOut_108 : decode cX10_carryOut 108 = .ok (.isub, 1) := by decide +kernel
theorem dX10_carryOut_109 : decode cX10_carryOut 109 = .ok (.iastore, 1) := by decide +kernel
theorem dX10_carryOut_110 : decode cX10_carryOut 110 = .ok (.goto 31, 3) := by decide +kernel
theorem dX10_carryOut_113 : decode cX10_carryOut 113 = .ok (.iinc 3 (-1), 3) := by decide +kernel
theorem dX10_carryOut_116 : decode cX10_carryOut 116 = .ok (.aload_n 0, 1) := by decide +kernel
theorem dX10_carryOut_117 : decode cX10_carryOut 117 = .ok (.getfield 42, 3) := by decide +kernel
theorem dX10_carryOut_120 : decode cX10_carryOut 120 = .ok (.iload_n 3, 1) := by decide +kernel
theorem dX10_carryOut_121 : decode cX10_carryOut 121 = .ok (.iload 5, 2) := by decide +kernel
theorem dX10_carryOut_123 : decode cX10_carryOut 123 = .ok (.aload_n 0, 1) := by decide +kernel
theorem dX10_carryOut_124 : decode cX10_carryOut 124 = .ok (.getfield 42, 3) := by decide +kernel
theorem dX10_carryOut_127 : decode cX10_carryOut 127 = .ok (.iload_n 3, 1) := by decide +kernel
theorem dX10_carryOut_128 : decode cX10_carryOut 128 = .ok (.iaload, 1) := by decide +kernel
theorem dX10_carryOut_129 : decode cX10_carryOut 129 = .ok (.aload_n 0, 1) := by decide +kernel
theorem dX10_carryOut_130 : decode cX10_carryOut 130 = .ok (.getfield 42, 3) := by decide +kernel
theorem dX10_carryOut_133 : decode cX10_carryOut 133 = .ok (.iload_n 3, 1) := by decide +kernel
theorem dX10_carryOut_134 : decode cX10_carryOut 134 = .ok (.iconst 1, 1) := by decide +kernel
theorem dX10_carryOut_135 : decode cX10_carryOut 135 = .ok (.iadd, 1) := by decide +kernel
theorem dX10_carryOut_136 : decode cX10_carryOut 136 = .ok (.iaload, 1) := by decide +kernel
theorem dX10_carryOut_137 : decode cX10_carryOut 137 = .ok (.invokestatic 175, 3) := by decide +kernel
theorem dX10_carryOut_140 : decode cX10_carryOut 140 = .ok (.iastore, 1) := by decide +kernel
theorem dX10_carryOut_141 : decode cX10_carryOut 141 = .ok (.goto (-136), 3) := by decide +kernel
theorem dX10_carryOut_144 : decode cX10_carryOut 144 = .ok (.aload_n 0, 1) := by decide +kernel
theorem dX10_carryOut_145 : decode cX10_carryOut 145 = .ok (.getfield 42, 3) := by decide +kernel
theorem dX10_carryOut_148 : decode cX10_carryOut 148 = .ok (.iconst 0, 1) := by decide +kernel
theorem dX10_carryOut_149 : decode cX10_carryOut 149 = .ok (.iaload, 1) := by decide +kernel
theorem dX10_carryOut_150 : decode cX10_carryOut 150 = .ok (.ireturn, 1) := by decide +kernel
theorem dX10_taken_0 : decode cX10_taken 0 = .ok (.iload_n 0, 1) := by decide +kernel
theorem dX10_taken_1 : decode cX10_taken 1 = .ok (.tableswitch 95 15 32 #[87, 87, 87, 87, 91, 89, 93, 95, 95, 95, 95, 95, 95, 95, 95, 95, 95, 89], 87) := by decide +kernel
theorem dX10_taken_88 : decode cX10_taken 88 = .ok (.iconst 0, 1) := by decide +kernel
theorem dX10_taken_89 : decode cX10_taken 89 = .ok (.ireturn, 1) := by decide +kernel
theorem dX10_taken_90 : decode cX10_taken 90 = .ok (.iconst 1, 1) := by decide +kernel
theorem dX10_taken_91 : decode cX10_taken 91 = .ok (.ireturn, 1) := by decide +kernel
theorem dX10_taken_92 : decode cX10_taken 92 = .ok (.iconst 2, 1) := by decide +kernel
theorem dX10_taken_93 : decode cX10_taken 93 = .ok (.ireturn, 1) := by decide +kernel
theorem dX10_taken_94 : decode cX10_taken 94 = .ok (.iconst 4, 1) := by decide +kernel
theorem dX10_taken_95 : decode cX10_taken 95 = .ok (.ireturn, 1) := by decide +kernel
theorem dX10_taken_96 : decode cX10_taken 96 = .ok (.iconst (-1), 1) := by decide +kernel
theorem dX10_taken_97 : decode cX10_taken 97 = .ok (.ireturn, 1) := by decide +kernel
theorem dX10_claimAt_0 : decode cX10_claimAt 0 = .ok (.iconst 2, 1) := by decide +kernel
theorem dX10_claimAt_1 : decode cX10_claimAt 1 = .ok (.aload_n 0, 1) := by decide +kernel
theorem dX10_claimAt_2 : decode cX10_claimAt 2 = .ok (.getfield 35, 3) := by decide +kernel
theorem dX10_claimAt_5 : decode cX10_claimAt 5 = .ok (.getfield 166, 3) := by decide +kernel
theorem dX10_claimAt_8 : decode cX10_claimAt 8 = .ok (.iload_n 1, 1) := by decide +kernel
theorem dX10_claimAt_9 : decode cX10_claimAt 9 = .ok (.iaload, 1) := by decide +kernel
theorem dX10_claimAt_10 : decode cX10_claimAt 10 = .ok (.imul, 1) := by decide +kernel
theorem dX10_claimAt_11 : decode cX10_claimAt 11 = .ok (.aload_n 0, 1) := by decide +kernel
theorem dX10_claimAt_12 : decode cX10_claimAt 12 = .ok (.getfield 35, 3) := by decide +kernel
theorem dX10_claimAt_15 : decode cX10_claimAt 15 = .ok (.getfield 166, 3) := by decide +kernel
theorem dX10_claimAt_18 : decode cX10_claimAt 18 = .ok (.iload_n 1, 1) := by decide +kernel
theorem dX10_claimAt_19 : decode cX10_claimAt 19 = .ok (.iconst 1, 1) := by decide +kernel
theorem dX10_claimAt_20 : decode cX10_claimAt 20 = .ok (.iadd, 1) := by decide +kernel
theorem dX10_claimAt_21 : decode cX10_claimAt 21 = .ok (.iaload, 1) := by decide +kernel
theorem dX10_claimAt_22 : decode cX10_claimAt 22 = .ok (.iadd, 1) := by decide +kernel
theorem dX10_claimAt_23 : decode cX10_claimAt 23 = .ok (.ireturn, 1) := by decide +kernel
theorem dX10_pushed_0 : decode cX10_pushed 0 = .ok (.iload_n 1, 1) := by decide +kernel
theorem dX10_pushed_1 : decode cX10_pushed 1 = .ok (.tableswitch 138 15 21 #[43, 48, 56, 61, 95, 70, 113], 43) := by decide +kernel
theorem dX10_pushed_44 : decode cX10_pushed 44 = .ok (.aload_n 0, 1) := by decide +kernel
theorem dX10_pushed_45 : decode cX10_pushed 45 = .ok (.getfield 163, 3) := by decide +kernel
theorem dX10_pushed_48 : decode cX10_pushed 48 = .ok (.ireturn, 1) := by decide +kernel
theorem dX10_pushed_49 : decode cX10_pushed 49 = .ok (.aload_n 0, 1) := by decide +kernel
theorem dX10_pushed_50 : decode cX10_pushed 50 = .ok (.getfield 115, 3) := by decide +kernel
theorem dX10_pushed_53 : decode cX10_pushed 53 = .ok (.invokestatic 106, 3) := by decide +kernel
theorem dX10_pushed_56 : decode cX10_pushed 56 = .ok (.ireturn, 1) := by decide +kernel
theorem dX10_pushed_57 : decode cX10_pushed 57 = .ok (.aload_n 0, 1) := by decide +kernel
theorem dX10_pushed_58 : decode cX10_pushed 58 = .ok (.invokevirtual 179, 3) := by decide +kernel
theorem dX10_pushed_61 : decode cX10_pushed 61 = .ok (.ireturn, 1) := by decide +kernel
theorem dX10_pushed_62 : decode cX10_pushed 62 = .ok (.aload_n 0, 1) := by decide +kernel
theorem dX10_pushed_63 : decode cX10_pushed 63 = .ok (.aload_n 0, 1) := by decide +kernel
theorem dX10_pushed_64 : decode cX10_pushed 64 = .ok (.getfield 115, 3) := by decide +kernel
theorem dX10_pushed_67 : decode cX10_pushed 67 = .ok (.invokevirtual 182, 3) := by decide +kernel
theorem dX10_pushed_70 : decode cX10_pushed 70 = .ok (.ireturn, 1) := by decide +kernel
theorem dX10_pushed_71 : decode cX10_pushed 71 = .ok (.aload_n 0, 1) := by decide +kernel
theorem dX10_pushed_72 : decode cX10_pushed 72 = .ok (.getfield 115, 3) := by decide +kernel
theorem dX10_pushed_75 : decode cX10_pushed 75 = .ok (.aload_n 0, 1) := by decide +kernel
theorem dX10_pushed_76 : decode cX10_pushed 76 = .ok (.getfield 35, 3) := by decide +kernel
theorem dX10_pushed_79 : decode cX10_pushed 79 = .ok (.getfield 166, 3) := by decide +kernel
theorem dX10_pushed_82 : decode cX10_pushed 82 = .ok (.iload_n 2, 1) := by decide +kernel
theorem dX10_pushed_83 : decode cX10_pushed 83 = .ok (.iaload, 1) := by decide +kernel
theorem dX10_pushed_84 : decode cX10_pushed 84 = .ok (.invokestatic 74, 3) := by decide +kernel
theorem dX10_pushed_87 : decode cX10_pushed 87 = .ok (.ifCond .eq 7, 3) := by decide +kernel
theorem dX10_pushed_90 : decode cX10_pushed 90 = .ok (.iconst 1, 1) := by decide +kernel
theorem dX10_pushed_91 : decode cX10_pushed 91 = .ok (.goto 4, 3) := by decide +kernel
theorem dX10_pushed_94 : decode cX10_pushed 94 = .ok (.iconst 0, 1) := by decide +kernel
theorem dX10_pushed_95 : decode cX10_pushed 95 = .ok (.ireturn, 1) := by decide +kernel
theorem dX10_pushed_96 : decode cX10_pushed 96 = .ok (.aload_n 0, 1) := by decide +kernel
theorem dX10_pushed_97 : decode cX10_pushed 97 = .ok (.aload_n 0, 1) := by decide +kernel
theorem dX10_pushed_98 : decode cX10_pushed 98 = .ok (.iload_n 2, 1) := by decide +kernel
theorem dX10_pushed_99 : decode cX10_pushed 99 = .ok (.invokevirtual 184, 3) := by decide +kernel
theorem dX10_pushed_102 : decode cX10_pushed 102 = .ok (.invokevirtual 187, 3) := by decide +kernel
theorem dX10_pushed_105 : decode cX10_pushed 105 = .ok (.ifCond .le 7, 3) := by decide +kernel
theorem dX10_pushed_108 : decode cX10_pushed 108 = .ok (.iconst 1, 1) := by decide +kernel
theorem dX10_pushed_109 : decode cX10_pushed 109 = .ok (.goto 4, 3) := by decide +kernel
theorem dX10_pushed_112 : decode cX10_pushed 112 = .ok (.iconst 0, 1) := by decide +kernel
theorem dX10_pushed_113 : decode cX10_pushed 113 = .ok (.ireturn, 1) := by decide +kernel
theorem dX10_pushed_114 : decode cX10_pushed 114 = .ok (.aload_n 0, 1) := by decide +kernel
theorem dX10_pushed_115 : decode cX10_pushed 115 = .ok (.aload_n 0, 1) := by decide +kernel
theorem dX10_pushed_116 : decode cX10_pushed 116 = .ok (.iload_n 2, 1) := by decide +kernel
theorem dX10_pushed_117 : decode cX10_pushed 117 = .ok (.invokevirtual 184, 3) := by decide +kernel
theorem dX10_pushed_120 : decode cX10_pushed 120 = .ok (.aload_n 0, 1) := by decide +kernel
theorem dX10_pushed_121 : decode cX10_pushed 121 = .ok (.iload_n 2, 1) := by decide +kernel
theorem dX10_pushed_122 : decode cX10_pushed 122 = .ok (.iconst 2, 1) := by decide +kernel
theorem dX10_pushed_123 : decode cX10_pushed 123 = .ok (.iadd, 1) := by decide +kernel
theorem dX10_pushed_124 : decode cX10_pushed 124 = .ok (.invokevirtual 184, 3) := by decide +kernel
theorem dX10_pushed_127 : decode cX10_pushed 127 = .ok (.invokevirtual 189, 3) := by decide +kernel
theorem dX10_pushed_130 : decode cX10_pushed 130 = .ok (.ifCond .eq 7, 3) := by decide +kernel
theorem dX10_pushed_133 : decode cX10_pushed 133 = .ok (.iconst 1, 1) := by decide +kernel
theorem dX10_pushed_134 : decode cX10_pushed 134 = .ok (.goto 4, 3) := by decide +kernel
theorem dX10_pushed_137 : decode cX10_pushed 137 = .ok (.iconst 0, 1) := by decide +kernel
theorem dX10_pushed_138 : decode cX10_pushed 138 = .ok (.ireturn, 1) := by decide +kernel
theorem dX10_pushed_139 : decode cX10_pushed 139 = .ok (.aload_n 0, 1) := by decide +kernel
theorem dX10_pushed_140 : decode cX10_pushed 140 = .ok (.getfield 35, 3) := by decide +kernel
theorem dX10_pushed_143 : decode cX10_pushed 143 = .ok (.getfield 166, 3) := by decide +kernel
theorem dX10_pushed_146 : decode cX10_pushed 146 = .ok (.iload_n 2, 1) := by decide +kernel
theorem dX10_pushed_147 : decode cX10_pushed 147 = .ok (.iaload, 1) := by decide +kernel
theorem dX10_pushed_148 : decode cX10_pushed 148 = .ok (.ireturn, 1) := by decide +kernel
theorem dX10_both_0 : decode cX10_both 0 = .ok (.iload_n 0, 1) := by decide +kernel
theorem dX10_both_1 : decode cX10_both 1 = .ok (.tableswitch 194 24 44 #[190, 123, 129, 194, 194, 194, 194, 194, 194, 194, 99, 103, 107, 111, 135, 146, 194, 194, 157, 168, 179], 99) := by decide +kernel
theorem dX10_both_100 : decode cX10_both 100 = .ok (.iload_n 1, 1) := by decide +kernel
theorem dX10_both_101 : decode cX10_both 101 = .ok (.iload_n 2, 1) := by decide +kernel
theorem dX10_both_102 : decode cX10_both 102 = .ok (.iadd, 1) := by decide +kernel
theorem dX10_both_103 : decode cX10_both 103 = .ok (.ireturn, 1) := by decide +kernel
theorem dX10_both_104 : decode cX10_both 104 = .ok (.iload_n 1, 1) := by decide +kernel
theorem dX10_both_105 : decode cX10_both 105 = .ok (.iload_n 2, 1) := by decide +kernel
theorem dX10_both_106 : decode cX10_both 106 = .ok (.isub, 1) := by decide +kernel
theorem dX10_both_107 : decode cX10_both 107 = .ok (.ireturn, 1) := by decide +kernel
theorem dX10_both_108 : decode cX10_both 108 = .ok (.iload_n 1, 1) := by decide +kernel
theorem dX10_both_109 : decode cX10_both 109 = .ok (.iload_n 2, 1) := by decide +kernel
theorem dX10_both_110 : decode cX10_both 110 = .ok (.imul, 1) := by decide +kernel
theorem dX10_both_111 : decode cX10_both 111 = .ok (.ireturn, 1) := by decide +kernel
theorem dX10_both_112 : decode cX10_both 112 = .ok (.iload_n 2, 1) := by decide +kernel
theorem dX10_both_113 : decode cX10_both 113 = .ok (.ifCond .ne 7, 3) := by decide +kernel
theorem dX10_both_116 : decode cX10_both 116 = .ok (.iconst 0, 1) := by decide +kernel
theorem dX10_both_117 : decode cX10_both 117 = .ok (.goto 6, 3) := by decide +kernel
theorem dX10_both_120 : decode cX10_both 120 = .ok (.iload_n 1, 1) := by decide +kernel
theorem dX10_both_121 : decode cX10_both 121 = .ok (.iload_n 2, 1) := by decide +kernel
theorem dX10_both_122 : decode cX10_both 122 = .ok (.idiv, 1) := by decide +kernel
theorem dX10_both_123 : decode cX10_both 123 = .ok (.ireturn, 1) := by decide +kernel
theorem dX10_both_124 : decode cX10_both 124 = .ok (.iload_n 1, 1) := by decide +kernel
theorem dX10_both_125 : decode cX10_both 125 = .ok (.iload_n 2, 1) := by decide +kernel
theorem dX10_both_126 : decode cX10_both 126 = .ok (.invokestatic 192, 3) := by decide +kernel
theorem dX10_both_129 : decode cX10_both 129 = .ok (.ireturn, 1) := by decide +kernel
theorem dX10_both_130 : decode cX10_both 130 = .ok (.iload_n 1, 1) := by decide +kernel
theorem dX10_both_131 : decode cX10_both 131 = .ok (.iload_n 2, 1) := by decide +kernel
theorem dX10_both_132 : decode cX10_both 132 = .ok (.invokestatic 197, 3) := by decide +kernel
theorem dX10_both_135 : decode cX10_both 135 = .ok (.ireturn, 1) := by decide +kernel
theorem dX10_both_136 : decode cX10_both 136 = .ok (.iload_n 1, 1) := by decide +kernel
theorem dX10_both_137 : decode cX10_both 137 = .ok (.iload_n 2, 1) := by decide +kernel
theorem dX10_both_138 : decode cX10_both 138 = .ok (.if_icmp .ge 7, 3) := by decide +kernel
theorem dX10_both_141 : decode cX10_both 141 = .ok (.iconst 1, 1) := by decide +kernel
theorem dX10_both_142 : decode cX10_both 142 = .ok (.goto 4, 3) := by decide +kernel
theorem dX10_both_145 : decode cX10_both 145 = .ok (.iconst 0, 1) := by decide +kernel
theorem dX10_both_146 : decode cX10_both 146 = .ok (.ireturn, 1) := by decide +kernel
theorem dX10_both_147 : decode cX10_both 147 = .ok (.iload_n 1, 1) := by decide +kernel
theorem dX10_both_148 : decode cX10_both 148 = .ok (.iload_n 2, 1) := by decide +kernel
theorem dX10_both_149 : decode cX10_both 149 = .ok (.if_icmp .le 7, 3) := by decide +kernel
theorem dX10_both_152 : decode cX10_both 152 = .ok (.iconst 1, 1) := by decide +kernel
theorem dX10_both_153 : decode cX10_both 153 = .ok (.goto 4, 3) := by decide +kernel
theorem dX10_both_156 : decode cX10_both 156 = .ok (.iconst 0, 1) := by decide +kernel
theorem dX10_both_157 : decode cX10_both 157 = .ok (.ireturn, 1) := by decide +kernel
theorem dX10_both_158 : decode cX10_both 158 = .ok (.iload_n 1, 1) := by decide +kernel
theorem dX10_both_159 : decode cX10_both 159 = .ok (.iload_n 2, 1) := by decide +kernel
theorem dX10_both_160 : decode cX10_both 160 = .ok (.if_icmp .ne 7, 3) := by decide +kernel
theorem dX10_both_163 : decode cX10_both 163 = .ok (.iconst 1, 1) := by decide +kernel
theorem dX10_both_164 : decode cX10_both 164 = .ok (.goto 4, 3) := by decide +kernel
theorem dX10_both_167 : decode cX10_both 167 = .ok (.iconst 0, 1) := by decide +kernel
theorem dX10_both_168 : decode cX10_both 168 = .ok (.ireturn, 1) := by decide +kernel
theorem dX10_both_169 : decode cX10_both 169 = .ok (.iload_n 1, 1) := by decide +kernel
theorem dX10_both_170 : decode cX10_both 170 = .ok (.iload_n 2, 1) := by decide +kernel
theorem dX10_both_171 : decode cX10_both 171 = .ok (.if_icmp .gt 7, 3) := by decide +kernel
theorem dX10_both_174 : decode cX10_both 174 = .ok (.iconst 1, 1) := by decide +kernel
theorem dX10_both_175 : decode cX10_both 175 = .ok (.goto 4, 3) := by decide +kernel
theorem dX10_both_178 : decode cX10_both 178 = .ok (.iconst 0, 1) := by decide +kernel
theorem dX10_both_179 : decode cX10_both 179 = .ok (.ireturn, 1) := by decide +kernel
theorem dX10_both_180 : decode cX10_both 180 = .ok (.iload_n 1, 1) := by decide +kernel
theorem dX10_both_181 : decode cX10_both 181 = .ok (.iload_n 2, 1) := by decide +kernel
theorem dX10_both_182 : decode cX10_both 182 = .ok (.if_icmp .lt 7, 3) := by decide +kernel
theorem dX10_both_185 : decode cX10_both 185 = .ok (.iconst 1, 1) := by decide +kernel
theorem dX10_both_186 : decode cX10_both 186 = .ok (.goto 4, 3) := by decide +kernel
theorem dX10_both_189 : decode cX10_both 189 = .ok (.iconst 0, 1) := by decide +kernel
theorem dX10_both_190 : decode cX10_both 190 = .ok (.ireturn, 1) := by decide +kernel
theorem dX10_both_191 : decode cX10_both 191 = .ok (.iload_n 1, 1) := by decide +kernel
theorem dX10_both_192 : decode cX10_both 192 = .ok (.iload_n 2, 1) := by decide +kernel
theorem dX10_both_193 : decode cX10_both 193 = .ok (.iand, 1) := by decide +kernel
theorem dX10_both_194 : decode cX10_both 194 = .ok (.ireturn, 1) := by decide +kernel
theorem dX10_both_195 : decode cX10_both 195 = .ok (.iload_n 1, 1) := by decide +kernel
theorem dX10_both_196 : decode cX10_both 196 = .ok (.iload_n 2, 1) := by decide +kernel
theorem dX10_both_197 : decode cX10_both 197 = .ok (.ior, 1) := by decide +kernel
theorem dX10_both_198 : decode cX10_both 198 = .ok (.ireturn, 1) := by decide +kernel
theorem dX10_isLetter_0 : decode cX10_isLetter 0 = .ok (.iload_n 0, 1) := by decide +kernel
theorem dX10_isLetter_1 : decode cX10_isLetter 1 = .ok (.bipush 97, 2) := by decide +kernel
theorem dX10_isLetter_3 : decode cX10_isLetter 3 = .ok (.if_icmp .lt 13, 3) := by decide +kernel
theorem dX10_isLetter_6 : decode cX10_isLetter 6 = .ok (.iload_n 0, 1) := by decide +kernel
theorem dX10_isLetter_7 : decode cX10_isLetter 7 = .ok (.bipush 122, 2) := by decide +kernel
theorem dX10_isLetter_9 : decode cX10_isLetter 9 = .ok (.if_icmp .gt 7, 3) := by decide +kernel
theorem dX10_isLetter_12 : decode cX10_isLetter 12 = .ok (.iconst 1, 1) := by decide +kernel
theorem dX10_isLetter_13 : decode cX10_isLetter 13 = .ok (.goto 4, 3) := by decide +kernel
theorem dX10_isLetter_16 : decode cX10_isLetter 16 = .ok (.iconst 0, 1) := by decide +kernel
theorem dX10_isLetter_17 : decode cX10_isLetter 17 = .ok (.ireturn, 1) := by decide +kernel
theorem dX10_isDigit_0 : decode cX10_isDigit 0 = .ok (.iload_n 0, 1) := by decide +kernel
theorem dX10_isDigit_1 : decode cX10_isDigit 1 = .ok (.bipush 48, 2) := by decide +kernel
theorem dX10_isDigit_3 : decode cX10_isDigit 3 = .ok (.if_icmp .lt 13, 3) := by decide +kernel
theorem dX10_isDigit_6 : decode cX10_isDigit 6 = .ok (.iload_n 0, 1) := by decide +kernel
theorem dX10_isDigit_7 : decode cX10_isDigit 7 = .ok (.bipush 57, 2) := by decide +kernel
theorem dX10_isDigit_9 : decode cX10_isDigit 9 = .ok (.if_icmp .gt 7, 3) := by decide +kernel
theorem dX10_isDigit_12 : decode cX10_isDigit 12 = .ok (.iconst 1, 1) := by decide +kernel
theorem dX10_isDigit_13 : decode cX10_isDigit 13 = .ok (.goto 4, 3) := by decide +kernel
theorem dX10_isDigit_16 : decode cX10_isDigit 16 = .ok (.iconst 0, 1) := by decide +kernel
theorem dX10_isDigit_17 : decode cX10_isDigit 17 = .ok (.ireturn, 1) := by decide +kernel
theorem dX10_byteOf_0 : decode cX10_byteOf 0 = .ok (.iload_n 1, 1) := by decide +kernel
theorem dX10_byteOf_1 : decode cX10_byteOf 1 = .ok (.aload_n 0, 1) := by decide +kernel
theorem dX10_byteOf_2 : decode cX10_byteOf 2 = .ok (.getfield 200, 3) := by decide +kernel
theorem dX10_byteOf_5 : decode cX10_byteOf 5 = .ok (.if_icmp .ge 12, 3) := by decide +kernel
theorem dX10_byteOf_8 : decode cX10_byteOf 8 = .ok (.aload_n 0, 1) := by decide +kernel
theorem dX10_byteOf_9 : decode cX10_byteOf 9 = .ok (.getfield 9, 3) := by decide +kernel
theorem dX10_byteOf_12 : decode cX10_byteOf 12 = .ok (.iload_n 1, 1) := by decide +kernel
theorem dX10_byteOf_13 : decode cX10_byteOf 13 = .ok (.iaload, 1) := by decide +kernel
theorem dX10_byteOf_14 : decode cX10_byteOf 14 = .ok (.goto 4, 3) := by decide +kernel
theorem dX10_byteOf_17 : decode cX10_byteOf 17 = .ok (.iconst (-1), 1) := by decide +kernel
theorem dX10_byteOf_18 : decode cX10_byteOf 18 = .ok (.ireturn, 1) := by decide +kernel
theorem dX10_kindAt_0 : decode cX10_kindAt 0 = .ok (.aload_n 0, 1) := by decide +kernel
theorem dX10_kindAt_1 : decode cX10_kindAt 1 = .ok (.iload_n 1, 1) := by decide +kernel
theorem dX10_kindAt_2 : decode cX10_kindAt 2 = .ok (.invokevirtual 203, 3) := by decide +kernel
theorem dX10_kindAt_5 : decode cX10_kindAt 5 = .ok (.istore_n 3, 1) := by decide +kernel
theorem dX10_kindAt_6 : decode cX10_kindAt 6 = .ok (.iload_n 1, 1) := by decide +kernel
theorem dX10_kindAt_7 : decode cX10_kindAt 7 = .ok (.iconst 1, 1) := by decide +kernel
theorem dX10_kindAt_8 : decode cX10_kindAt 8 = .ok (.iadd, 1) := by decide +kernel
theorem dX10_kindAt_9 : decode cX10_kindAt 9 = .ok (.istore 4, 2) := by decide +kernel
theorem dX10_kindAt_11 : decode cX10_kindAt 11 = .ok (.iload_n 3, 1) := by decide +kernel
theorem dX10_kindAt_12 : decode cX10_kindAt 12 = .ok (.iconst (-1), 1) := by decide +kernel
theorem dX10_kindAt_13 : decode cX10_kindAt 13 = .ok (.if_icmp .ne 7, 3) := by decide +kernel
theorem dX10_kindAt_16 : decode cX10_kindAt 16 = .ok (.sipush 900, 3) := by decide +kernel
theorem dX10_kindAt_19 : decode cX10_kindAt 19 = .ok (.ireturn, 1) := by decide +kernel
theorem dX10_kindAt_20 : decode cX10_kindAt 20 = .ok (.iload_n 3, 1) := by decide +kernel
theorem dX10_kindAt_21 : decode cX10_kindAt 21 = .ok (.invokestatic 206, 3) := by decide +kernel
theorem dX10_kindAt_24 : decode cX10_kindAt 24 = .ok (.ifCond .ne 10, 3) := by decide +kernel
theorem dX10_kindAt_27 : decode cX10_kindAt 27 = .ok (.iload_n 3, 1) := by decide +kernel
theorem dX10_kindAt_28 : decode cX10_kindAt 28 = .ok (.invokestatic 209, 3) := by decide +kernel
theorem dX10_kindAt_31 : decode cX10_kindAt 31 = .ok (.ifCond .eq 97, 3) := by decide +kernel
theorem dX10_kindAt_34 : decode cX10_kindAt 34 = .ok (.aload_n 0, 1) := by decide +kernel
theorem dX10_kindAt_35 : decode cX10_kindAt 35 = .ok (.iload 4, 2) := by decide +kernel
theorem dX10_kindAt_37 : decode cX10_kindAt 37 = .ok (.invokevirtual 203, 3) := by decide +kernel
theorem dX10_kindAt_40 : decode cX10_kindAt 40 = .ok (.invokestatic 209, 3) := by decide +kernel
theorem dX10_kindAt_43 : decode cX10_kindAt 43 = .ok (.ifCond .ne 22, 3) := by decide +kernel
theorem dX10_kindAt_46 : decode cX10_kindAt 46 = .ok (.iload_n 3, 1) := by decide +kernel
theorem dX10_kindAt_47 : decode cX10_kindAt 47 = .ok (.invokestatic 206, 3) := by decide +kernel
theorem dX10_kindAt_50 : decode cX10_kindAt 50 = .ok (.ifCond .eq 21, 3) := by decide +kernel
theorem dX10_kindAt_53 : decode cX10_kindAt 53 = .ok (.aload_n 0, 1) := by decide +kernel
theorem dX10_kindAt_54 : decode cX10_kindAt 54 = .ok (.iload 4, 2) := by decide +kernel
theorem dX10_kindAt_56 : decode cX10_kindAt 56 = .ok (.invokevirtual 203, 3) := by decide +kernel
theorem dX10_kindAt_59 : decode cX10_kindAt 59 = .ok (.invokestatic 206, 3) := by decide +kernel
theorem dX10_kindAt_62 : decode cX10_kindAt 62 = .ok (.ifCond .eq 9, 3) := by decide +kernel
theorem dX10_kindAt_65 : decode cX10_kindAt 65 = .ok (.iinc 4 1, 3) := by decide +kernel
theorem dX10_kindAt_68 : decode cX10_kindAt 68 = .ok (.goto (-34), 3) := by decide +kernel
theorem dX10_kindAt_71 : decode cX10_kindAt 71 = .ok (.aload_n 0, 1) := by decide +kernel
theorem dX10_kindAt_72 : decode cX10_kindAt 72 = .ok (.getfield 23, 3) := by decide +kernel
theorem dX10_kindAt_75 : decode cX10_kindAt 75 = .ok (.iload_n 2, 1) := by decide +kernel
theorem dX10_kindAt_76 : decode cX10_kindAt 76 = .ok (.iload 4, 2) := by decide +kernel
theorem dX10_kindAt_78 : decode cX10_kindAt 78 = .ok (.iload_n 1, 1) := by decide +kernel
theorem dX10_kindAt_79 : decode cX10_kindAt 79 = .ok (.isub, 1) := by decide +kernel
theorem dX10_kindAt_80 : decode cX10_kindAt 80 = .ok (.iastore, 1) := by decide +kernel
theorem dX10_kindAt_81 : decode cX10_kindAt 81 = .ok (.iload 4, 2) := by decide +kernel
theorem dX10_kindAt_83 : decode cX10_kindAt 83 = .ok (.iload_n 1, 1) := by decide +kernel
theorem dX10_kindAt_84 : decode cX10_kindAt 84 = .ok (.isub, 1) := by decide +kernel
theorem dX10_kindAt_85 : decode cX10_kindAt 85 = .ok (.iload_n 3, 1) := by decide +kernel
theorem dX10_kindAt_86 : decode cX10_kindAt 86 = .ok (.invokestatic 206, 3) := by decide +kernel
theorem dX10_kindAt_89 : decode cX10_kindAt 89 = .ok (.ifCond .eq 8, 3) := by decide +kernel
theorem dX10_kindAt_92 : decode cX10_kindAt 92 = .ok (.bipush 10, 2) := by decide +kernel
theorem dX10_kindAt_94 : decode cX10_kindAt 94 = .ok (.goto 5, 3) := by decide +kernel
theorem dX10_kindAt_97 : decode cX10_kindAt 97 = .ok (.bipush 6, 2) := by decide +kernel
theorem dX10_kindAt_99 : decode cX10_kindAt 99 = .ok (.if_icmp .le 7, 3) := by decide +kernel
theorem dX10_kindAt_102 : decode cX10_kindAt 102 = .ok (.sipush 901, 3) := by decide +kernel
theorem dX10_kindAt_105 : decode cX10_kindAt 105 = .ok (.ireturn, 1) := by decide +kernel
theorem dX10_kindAt_106 : decode cX10_kindAt 106 = .ok (.iload_n 3, 1) := by decide +kernel
theorem dX10_kindAt_107 : decode cX10_kindAt 107 = .ok (.invokestatic 206, 3) := by decide +kernel
theorem dX10_kindAt_110 : decode cX10_kindAt 110 = .ok (.ifCond .eq 15, 3) := by decide +kernel
theorem dX10_kindAt_113 : decode cX10_kindAt 113 = .ok (.aload_n 0, 1) := by decide +kernel
theorem dX10_kindAt_114 : decode cX10_kindAt 114 = .ok (.iload_n 1, 1) := by decide +kernel
theorem dX10_kindAt_115 : decode cX10_kindAt 115 = .ok (.iload 4, 2) := by decide +kernel
theorem dX10_kindAt_117 : decode cX10_kindAt 117 = .ok (.iload_n 1, 1) := by decide +kernel
theorem dX10_kindAt_118 : decode cX10_kindAt 118 = .ok (.isub, 1) := by decide +kernel
theorem dX10_kindAt_119 : decode cX10_kindAt 119 = .ok (.invokevirtual 212, 3) := by decide +kernel
theorem dX10_kindAt_122 : decode cX10_kindAt 122 = .ok (.goto 5, 3) := by decide +kernel
theorem dX10_kindAt_125 : decode cX10_kindAt 125 = .ok (.bipush 41, 2) := by decide +kernel
theorem dX10_kindAt_127 : decode cX10_kindAt 127 = .ok (.ireturn, 1) := by decide +kernel
theorem dX10_kindAt_128 : decode cX10_kindAt 128 = .ok (.iload_n 3, 1) := by decide +kernel
theorem dX10_kindAt_129 : decode cX10_kindAt 129 = .ok (.bipush 60, 2) := by decide +kernel
theorem dX10_kindAt_131 : decode cX10_kindAt 131 = .ok (.if_icmp .eq 9, 3) := by decide +kernel
theorem dX10_kindAt_134 : decode cX10_kindAt 134 = .ok (.iload_n 3, 1) := by decide +kernel
theorem dX10_kindAt_135 : decode cX10_kindAt 135 = .ok (.bipush 62, 2) := by decide +kernel
theorem dX10_kindAt_137 : decode cX10_kindAt 137 = .ok (.if_icmp .ne 18, 3) := by decide +kernel
theorem dX10_kindAt_140 : decode cX10_kindAt 140 = .ok (.aload_n 0, 1) := by decide +kernel
theorem dX10_kindAt_141 : decode cX10_kindAt 141 = .ok (.iload 4, 2) := by decide +kernel
theorem dX10_kindAt_143 : decode cX10_kindAt 143 = .ok (.invokevirtual 203, 3) := by decide +kernel
theorem dX10_kindAt_146 : decode cX10_kindAt 146 = .ok (.bipush 61, 2) := by decide +kernel
theorem dX10_kindAt_148 : decode cX10_kindAt 148 = .ok (.if_icmp .ne 7, 3) := by decide +kernel
theorem dX10_kindAt_151 : decode cX10_kindAt 151 = .ok (.iconst 1, 1) := by decide +kernel
theorem dX10_kindAt_152 : decode cX10_kindAt 152 = .ok (.goto 4, 3) := by decide +kernel
theorem dX10_kindAt_155 : decode cX10_kindAt 155 = .ok (.iconst 0, 1) := by decide +kernel
theorem dX10_kindAt_156 : decode cX10_kindAt 156 = .ok (.istore 5, 2) := by decide +kernel
theorem dX10_kindAt_158 : decode cX10_kindAt 158 = .ok (.aload_n 0, 1) := by decide +kernel
theorem dX10_kindAt_159 : decode cX10_kindAt 159 = .ok (.getfield 23, 3) := by decide +kernel
theorem dX10_kindAt_162 : decode cX10_kindAt 162 = .ok (.iload_n 2, 1) := by decide +kernel
theorem dX10_kindAt_163 : decode cX10_kindAt 163 = .ok (.iload 5, 2) := by decide +kernel
theorem dX10_kindAt_165 : decode cX10_kindAt 165 = .ok (.ifCond .eq 7, 3) := by decide +kernel
theorem dX10_kindAt_168 : decode cX10_kindAt 168 = .ok (.iconst 2, 1) := by decide +kernel
theorem dX10_kindAt_169 : decode cX10_kindAt 169 = .ok (.goto 4, 3) := by decide +kernel
theorem dX10_kindAt_172 : decode cX10_kindAt 172 = .ok (.iconst 1, 1) := by decide +kernel
theorem dX10_kindAt_173 : decode cX10_kindAt 173 = .ok (.iastore, 1) := by decide +kernel
theorem dX10_kindAt_174 : decode cX10_kindAt 174 = .ok (.iload 5, 2) := by decide +kernel
theorem dX10_kindAt_176 : decode cX10_kindAt 176 = .ok (.ifCond .eq 19, 3) := by decide +kernel
theorem dX10_kindAt_179 : decode cX10_kindAt 179 = .ok (.iload_n 3, 1) := by decide +kernel
theorem dX10_kindAt_180 : decode cX10_kindAt 180 = .ok (.bipush 60, 2) := by decide +kernel
theorem dX10_kindAt_182 : decode cX10_kindAt 182 = .ok (.if_icmp .ne 9, 3) := by decide +kernel
theorem dX10_kindAt_185 : decode cX10_kindAt 185 = .ok (.sipush 300, 3) := by decide +kernel
theorem dX10_kindAt_188 : decode cX10_kindAt 188 = .ok (.goto 6, 3) := by decide +kernel
theorem dX10_kindAt_191 : decode cX10_kindAt 191 = .ok (.sipush 301, 3) := by decide +kernel
theorem dX10_kindAt_194 : decode cX10_kindAt 194 = .ok (.ireturn, 1) := by decide +kernel
theorem dX10_kindAt_195 : decode cX10_kindAt 195 = .ok (.iload_n 3, 1) := by decide +kernel
theorem dX10_kindAt_196 : decode cX10_kindAt 196 = .ok (.ifCond .le 27, 3) := by decide +kernel
theorem dX10_kindAt_199 : decode cX10_kindAt 199 = .ok (.iload_n 3, 1) := by decide +kernel
theorem dX10_kindAt_200 : decode cX10_kindAt 200 = .ok (.sipush 128, 3) := by decide +kernel
theorem dX10_kindAt_203 : decode cX10_kindAt 203 = .ok (.if_icmp .ge 20, 3) := by decide +kernel
theorem dX10_kindAt_206 : decode cX10_kindAt 206 = .ok (.ldc 215, 2) := by decide +kernel
theorem dX10_kindAt_208 : decode cX10_kindAt 208 = .ok (.iload_n 3, 1) := by decide +kernel
theorem dX10_kindAt_209 : decode cX10_kindAt 209 = .ok (.i2c, 1) := by decide +kernel
theorem dX10_kindAt_210 : decode cX10_kindAt 210 = .ok (.invokevirtual 217, 3) := by decide +kernel
theorem dX10_kindAt_213 : decode cX10_kindAt 213 = .ok (.ifCond .lt 10, 3) := by decide +kernel
theorem dX10_kindAt_216 : decode cX10_kindAt 216 = .ok (.bipush 50, 2) := by decide +kernel
theorem dX10_kindAt_218 : decode cX10_kindAt 218 = .ok (.iload_n 3, 1) := by decide +kernel
theorem dX10_kindAt_219 : decode cX10_kindAt 219 = .ok (.iadd, 1) := by decide +kernel
theorem dX10_kindAt_220 : decode cX10_kindAt 220 = .ok (.goto 6, 3) := by decide +kernel
theorem dX10_kindAt_223 : decode cX10_kindAt 223 = .ok (.sipush 901, 3) := by decide +kernel
theorem dX10_kindAt_226 : decode cX10_kindAt 226 = .ok (.ireturn, 1) := by decide +kernel
theorem dX10_word_0 : decode cX10_word 0 = .ok (.iconst 0, 1) := by decide +kernel
theorem dX10_word_1 : decode cX10_word 1 = .ok (.istore_n 3, 1) := by decide +kernel
theorem dX10_word_2 : decode cX10_word 2 = .ok (.iload_n 3, 1) := by decide +kernel
theorem dX10_word_3 : decode cX10_word 3 = .ok (.getstatic 222, 3) := by decide +kernel
theorem dX10_word_6 : decode cX10_word 6 = .ok (.arraylength, 1) := by decide +kernel
theorem dX10_word_7 : decode cX10_word 7 = .ok (.if_icmp .ge 84, 3) := by decide +kernel
theorem dX10_word_10 : decode cX10_word 10 = .ok (.getstatic 222, 3) := by decide +kernel
theorem dX10_word_13 : decode cX10_word 13 = .ok (.iload_n 3, 1) := by decide +kernel
theorem dX10_word_14 : decode cX10_word 14 = .ok (.aaload, 1) := by decide +kernel
theorem dX10_word_15 : decode cX10_word 15 = .ok (.invokevirtual 226, 3) := by decide +kernel
theorem dX10_word_18 : decode cX10_word 18 = .ok (.iload_n 2, 1) := by decide +kernel
theorem dX10_word_19 : decode cX10_word 19 = .ok (.if_icmp .ne 7, 3) := by decide +kernel
theorem dX10_word_22 : decode cX10_word 22 = .ok (.iconst 1, 1) := by decide +kernel
theorem dX10_word_23 : decode cX10_word 23 = .ok (.goto 4, 3) := by decide +kernel
theorem dX10_word_26 : decode cX10_word 26 = .ok (.iconst 0, 1) := by decide +kernel
theorem dX10_word_27 : decode cX10_word 27 = .ok (.istore 4, 2) := by decide +kernel
theorem dX10_word_29 : decode cX10_word 29 = .ok (.iconst 0, 1) := by decide +kernel
theorem dX10_word_30 : decode cX10_word 30 = .ok (.istore 5, 2) := by decide +kernel
theorem dX10_word_32 : decode cX10_word 32 = .ok (.iload 4, 2) := by decide +kernel
theorem dX10_word_34 : decode cX10_word 34 = .ok (.ifCond .eq 44, 3) := by decide +kernel
theorem dX10_word_37 : decode cX10_word 37 = .ok (.iload 5, 2) := by decide +kernel
theorem dX10_word_39 : decode cX10_word 39 = .ok (.iload_n 2, 1) := by decide +kernel
theorem dX10_word_40 : decode cX10_word 40 = .ok (.if_icmp .ge 38, 3) := by decide +kernel
theorem dX10_word_43 : decode cX10_word 43 = .ok (.getstatic 222, 3) := by decide +kernel
theorem dX10_word_46 : decode cX10_word 46 = .ok (.iload_n 3, 1) := by decide +kernel
theorem dX10_word_47 : decode cX10_word 47 = .ok (.aaload, 1) := by decide +kernel
theorem dX10_word_48 : decode cX10_word 48 = .ok (.iload 5, 2) := by decide +kernel
theorem dX10_word_50 : decode cX10_word 50 = .ok (.invokevirtual 229, 3) := by decide +kernel
theorem dX10_word_53 : decode cX10_word 53 = .ok (.aload_n 0, 1) := by decide +kernel
theorem dX10_word_54 : decode cX10_word 54 = .ok (.getfield 9, 3) := by decide +kernel
theorem dX10_word_57 : decode cX10_word 57 = .ok (.iload_n 1, 1) := by decide +kernel
theorem dX10_word_58 : decode cX10_word 58 = .ok (.iload 5, 2) := by decide +kernel
theorem dX10_word_60 : decode cX10_word 60 = .ok (.iadd, 1) := by decide +kernel
theorem dX10_word_61 : decode cX10_word 61 = .ok (.iaload, 1) := by decide +kernel
theorem dX10_word_62 : decode cX10_word 62 = .ok (.if_icmp .ne 7, 3) := by decide +kernel
theorem dX10_word_65 : decode cX10_word 65 = .ok (.iconst 1, 1) := by decide +kernel
theorem dX10_word_66 : decode cX10_word 66 = .ok (.goto 4, 3) := by decide +kernel
theorem dX10_word_69 : decode cX10_word 69 = .ok (.iconst 0, 1) := by decide +kernel
theorem dX10_word_70 : decode cX10_word 70 = .ok (.istore 4, 2) := by decide +kernel
theorem dX10_word_72 : decode cX10_word 72 = .ok (.iinc 5 1, 3) := by decide +kernel
theorem dX10_word_75 : decode cX10_word 75 = .ok (.goto (-43), 3) := by decide +kernel
theorem dX10_word_78 : decode cX10_word 78 = .ok (.iload 4, 2) := by decide +kernel
theorem dX10_word_80 : decode cX10_word 80 = .ok (.ifCond .eq 5, 3) := by decide +kernel
theorem dX10_word_83 : decode cX10_word 83 = .ok (.iload_n 3, 1) := by decide +kernel
theorem dX10_word_84 : decode cX10_word 84 = .ok (.ireturn, 1) := by decide +kernel
theorem dX10_word_85 : decode cX10_word 85 = .ok (.iinc 3 1, 3) := by decide +kernel
theorem dX10_word_88 : decode cX10_word 88 = .ok (.goto (-86), 3) := by decide +kernel
theorem dX10_word_91 : decode cX10_word 91 = .ok (.bipush 40, 2) := by decide +kernel
theorem dX10_word_93 : decode cX10_word 93 = .ok (.ireturn, 1) := by decide +kernel
theorem dX10_cut_0 : decode cX10_cut 0 = .ok (.iconst 0, 1) := by decide +kernel
theorem dX10_cut_1 : decode cX10_cut 1 = .ok (.istore_n 1, 1) := by decide +kernel
theorem dX10_cut_2 : decode cX10_cut 2 = .ok (.iconst 0, 1) := by decide +kernel
theorem dX10_cut_3 : decode cX10_cut 3 = .ok (.istore_n 2, 1) := by decide +kernel
theorem dX10_cut_4 : decode cX10_cut 4 = .ok (.iload_n 2, 1) := by decide +kernel
theorem dX10_cut_5 : decode cX10_cut 5 = .ok (.sipush 400, 3) := by decide +kernel
theorem dX10_cut_8 : decode cX10_cut 8 = .ok (.if_icmp .gt 118, 3) := by decide +kernel
theorem dX10_cut_11 : decode cX10_cut 11 = .ok (.aload_n 0, 1) := by decide +kernel
theorem dX10_cut_12 : decode cX10_cut 12 = .ok (.iload_n 1, 1) := by decide +kernel
theorem dX10_cut_13 : decode cX10_cut 13 = .ok (.invokevirtual 203, 3) := by decide +kernel
theorem dX10_cut_16 : decode cX10_cut 16 = .ok (.bipush 32, 2) := by decide +kernel
theorem dX10_cut_18 : decode cX10_cut 18 = .ok (.if_icmp .eq 13, 3) := by decide +kernel
theorem dX10_cut_21 : decode cX10_cut 21 = .ok (.aload_n 0, 1) := by decide +kernel
theorem dX10_cut_22 : decode cX10_cut 22 = .ok (.iload_n 1, 1) := by decide +kernel
theorem dX10_cut_23 : decode cX10_cut 23 = .ok (.invokevirtual 203, 3) := by decide +kernel
theorem dX10_cut_26 : decode cX10_cut 26 = .ok (.bipush 10, 2) := by decide +kernel
theorem dX10_cut_28 : decode cX10_cut 28 = .ok (.if_icmp .ne 9, 3) := by decide +kernel
theorem dX10_cut_31 : decode cX10_cut 31 = .ok (.iinc 1 1, 3) := by decide +kernel
theorem dX10_cut_34 : decode cX10_cut 34 = .ok (.goto (-23), 3) := by decide +kernel
theorem dX10_cut_37 : decode cX10_cut 37 = .ok (.aload_n 0, 1) := by decide +kernel
theorem dX10_cut_38 : decode cX10_cut 38 = .ok (.getfield 20, 3) := by decide +kernel
theorem dX10_cut_41 : decode cX10_cut 41 = .ok (.iload_n 2, 1) := by decide +kernel
theorem dX10_cut_42 : decode cX10_cut 42 = .ok (.iload_n 1, 1) := by decide +kernel
theorem dX10_cut_43 : decode cX10_cut 43 = .ok (.iastore, 1) := by decide +kernel
theorem dX10_cut_44 : decode cX10_cut 44 = .ok (.aload_n 0, 1) := by decide +kernel
theorem dX10_cut_45 : decode cX10_cut 45 = .ok (.getfield 26, 3) := by decide +kernel
theorem dX10_cut_48 : decode cX10_cut 48 = .ok (.iload_n 2, 1) := by decide +kernel
theorem dX10_cut_49 : decode cX10_cut 49 = .ok (.iconst 0, 1) := by decide +kernel
theorem dX10_cut_50 : decode cX10_cut 50 = .ok (.iastore, 1) := by decide +kernel
theorem dX10_cut_51 : decode cX10_cut 51 = .ok (.aload_n 0, 1) := by decide +kernel
theorem dX10_cut_52 : decode cX10_cut 52 = .ok (.getfield 29, 3) := by decide +kernel
theorem dX10_cut_55 : decode cX10_cut 55 = .ok (.iload_n 2, 1) := by decide +kernel
theorem dX10_cut_56 : decode cX10_cut 56 = .ok (.iconst 0, 1) := by decide +kernel
theorem dX10_cut_57 : decode cX10_cut 57 = .ok (.iastore, 1) := by decide +kernel
theorem dX10_cut_58 : decode cX10_cut 58 = .ok (.aload_n 0, 1) := by decide +kernel
theorem dX10_cut_59 : decode cX10_cut 59 = .ok (.getfield 17, 3) := by decide +kernel
theorem dX10_cut_62 : decode cX10_cut 62 = .ok (.iload_n 2, 1) := by decide +kernel
theorem dX10_cut_63 : decode cX10_cut 63 = .ok (.aload_n 0, 1) := by decide +kernel
theorem dX10_cut_64 : decode cX10_cut 64 = .ok (.iload_n 1, 1) := by decide +kernel
theorem dX10_cut_65 : decode cX10_cut 65 = .ok (.iload_n 2, 1) := by decide +kernel
theorem dX10_cut_66 : decode cX10_cut 66 = .ok (.invokevirtual 233, 3) := by decide +kernel
theorem dX10_cut_69 : decode cX10_cut 69 = .ok (.iastore, 1) := by decide +kernel
theorem dX10_cut_70 : decode cX10_cut 70 = .ok (.iload_n 2, 1) := by decide +kernel
theorem dX10_cut_71 : decode cX10_cut 71 = .ok (.sipush 400, 3) := by decide +kernel
theorem dX10_cut_74 : decode cX10_cut 74 = .ok (.if_icmp .ne 24, 3) := by decide +kernel
theorem dX10_cut_77 : decode cX10_cut 77 = .ok (.aload_n 0, 1) := by decide +kernel
theorem dX10_cut_78 : decode cX10_cut 78 = .ok (.getfield 17, 3) := by decide +kernel
theorem dX10_cut_81 : decode cX10_cut 81 = .ok (.iload_n 2, 1) := by decide +kernel
theorem dX10_cut_82 : decode cX10_cut 82 = .ok (.iaload, 1) := by decide +kernel
theorem dX10_cut_83 : decode cX10_cut 83 = .ok (.sipush 900, 3) := by decide +kernel
theorem dX10_cut_86 : decode cX10_cut 86 = .ok (.if_icmp .eq 12, 3) := by decide +kernel
theorem dX10_cut_89 : decode cX10_cut 89 = .ok (.aload_n 0, 1) := by decide +kernel
theorem dX10_cut_90 : decode cX10_cut 90 = .ok (.getfield 17, 3) := by decide +kernel
theorem dX10_cut_93 : decode cX10_cut 93 = .ok (.iload_n 2, 1) := by decide +kernel
theorem dX10_cut_94 : decode cX10_cut 94 = .ok (.sipush 901, 3) := by decide +kernel
theorem dX10_cut_97 : decode cX10_cut 97 = .ok (.iastore, 1) := by decide +kernel
theorem dX10_cut_98 : decode cX10_cut 98 = .ok (.aload_n 0, 1) := by decide +kernel
theorem dX10_cut_99 : decode cX10_cut 99 = .ok (.getfield 17, 3) := by decide +kernel
theorem dX10_cut_102 : decode cX10_cut 102 = .ok (.iload_n 2, 1) := by decide +kernel
theorem dX10_cut_103 : decode cX10_cut 103 = .ok (.iaload, 1) := by decide +kernel
theorem dX10_cut_104 : decode cX10_cut 104 = .ok (.sipush 900, 3) := by decide +kernel
theorem dX10_cut_107 : decode cX10_cut 107 = .ok (.if_icmp .lt 4, 3) := by decide +kernel
theorem dX10_cut_110 : decode cX10_cut 110 = .ok (.return_, 1) := by decide +kernel
theorem dX10_cut_111 : decode cX10_cut 111 = .ok (.iload_n 1, 1) := by decide +kernel
theorem dX10_cut_112 : decode cX10_cut 112 = .ok (.aload_n 0, 1) := by decide +kernel
theorem dX10_cut_113 : decode cX10_cut 113 = .ok (.getfield 23, 3) := by decide +kernel
theorem dX10_cut_116 : decode cX10_cut 116 = .ok (.iload_n 2, 1) := by decide +kernel
theorem dX10_cut_117 : decode cX10_cut 117 = .ok (.iaload, 1) := by decide +kernel
theorem dX10_cut_118 : decode cX10_cut 118 = .ok (.iadd, 1) := by decide +kernel
theorem dX10_cut_119 : decode cX10_cut 119 = .ok (.istore_n 1, 1) := by decide +kernel
theorem dX10_cut_120 : decode cX10_cut 120 = .ok (.iinc 2 1, 3) := by decide +kernel
theorem dX10_cut_123 : decode cX10_cut 123 = .ok (.goto (-119), 3) := by decide +kernel
theorem dX10_cut_126 : decode cX10_cut 126 = .ok (.return_, 1) := by decide +kernel
theorem dX10_is_0 : decode cX10_is 0 = .ok (.aload_n 0, 1) := by decide +kernel
theorem dX10_is_1 : decode cX10_is 1 = .ok (.getfield 17, 3) := by decide +kernel
theorem dX10_is_4 : decode cX10_is 4 = .ok (.aload_n 0, 1) := by decide +kernel
theorem dX10_is_5 : decode cX10_is 5 = .ok (.getfield 236, 3) := by decide +kernel
theorem dX10_is_8 : decode cX10_is 8 = .ok (.iaload, 1) := by decide +kernel
theorem dX10_is_9 : decode cX10_is 9 = .ok (.iload_n 1, 1) := by decide +kernel
theorem dX10_is_10 : decode cX10_is 10 = .ok (.if_icmp .ne 7, 3) := by decide +kernel
theorem dX10_is_13 : decode cX10_is 13 = .ok (.iconst 1, 1) := by decide +kernel
theorem dX10_is_14 : decode cX10_is 14 = .ok (.goto 4, 3) := by decide +kernel
theorem dX10_is_17 : decode cX10_is 17 = .ok (.iconst 0, 1) := by decide +kernel
theorem dX10_is_18 : decode cX10_is 18 = .ok (.ireturn, 1) := by decide +kernel
theorem dX10_isSign_0 : decode cX10_isSign 0 = .ok (.aload_n 0, 1) := by decide +kernel
theorem dX10_isSign_1 : decode cX10_isSign 1 = .ok (.getfield 17, 3) := by decide +kernel
theorem dX10_isSign_4 : decode cX10_isSign 4 = .ok (.aload_n 0, 1) := by decide +kernel
theorem dX10_isSign_5 : decode cX10_isSign 5 = .ok (.getfield 236, 3) := by decide +kernel
theorem dX10_isSign_8 : decode cX10_isSign 8 = .ok (.iaload, 1) := by decide +kernel
theorem dX10_isSign_9 : decode cX10_isSign 9 = .ok (.bipush 50, 2) := by decide +kernel
theorem dX10_isSign_11 : decode cX10_isSign 11 = .ok (.iload_n 1, 1) := by decide +kernel
theorem dX10_isSign_12 : decode cX10_isSign 12 = .ok (.iadd, 1) := by decide +kernel
theorem dX10_isSign_13 : decode cX10_isSign 13 = .ok (.if_icmp .ne 7, 3) := by decide +kernel
theorem dX10_isSign_16 : decode cX10_isSign 16 = .ok (.iconst 1, 1) := by decide +kernel
theorem dX10_isSign_17 : decode cX10_isSign 17 = .ok (.goto 4, 3) := by decide +kernel
theorem dX10_isSign_20 : decode cX10_isSign 20 = .ok (.iconst 0, 1) := by decide +kernel
theorem dX10_isSign_21 : decode cX10_isSign 21 = .ok (.ireturn, 1) := by decide +kernel
theorem dX10_eat_0 : decode cX10_eat 0 = .ok (.aload_n 0, 1) := by decide +kernel
theorem dX10_eat_1 : decode cX10_eat 1 = .ok (.iload_n 1, 1) := by decide +kernel
theorem dX10_eat_2 : decode cX10_eat 2 = .ok (.invokevirtual 239, 3) := by decide +kernel
theorem dX10_eat_5 : decode cX10_eat 5 = .ok (.ifCond .ne 5, 3) := by decide +kernel
theorem dX10_eat_8 : decode cX10_eat 8 = .ok (.iconst 0, 1) := by decide +kernel
theorem dX10_eat_9 : decode cX10_eat 9 = .ok (.ireturn, 1) := by decide +kernel
theorem dX10_eat_10 : decode cX10_eat 10 = .ok (.aload_n 0, 1) := by decide +kernel
theorem dX10_eat_11 : decode cX10_eat 11 = .ok (.dup, 1) := by decide +kernel
theorem dX10_eat_12 : decode cX10_eat 12 = .ok (.getfield 236, 3) := by decide +kernel
theorem dX10_eat_15 : decode cX10_eat 15 = .ok (.iconst 1, 1) := by decide +kernel
theorem dX10_eat_16 : decode cX10_eat 16 = .ok (.iadd, 1) := by decide +kernel
theorem dX10_eat_17 : decode cX10_eat 17 = .ok (.putfield 236, 3) := by decide +kernel
theorem dX10_eat_20 : decode cX10_eat 20 = .ok (.iconst 1, 1) := by decide +kernel
theorem dX10_eat_21 : decode cX10_eat 21 = .ok (.ireturn, 1) := by decide +kernel
theorem dX10_eatSign_0 : decode cX10_eatSign 0 = .ok (.aload_n 0, 1) := by decide +kernel
theorem dX10_eatSign_1 : decode cX10_eatSign 1 = .ok (.bipush 50, 2) := by decide +kernel
theorem dX10_eatSign_3 : decode cX10_eatSign 3 = .ok (.iload_n 1, 1) := by decide +kernel
theorem dX10_eatSign_4 : decode cX10_eatSign 4 = .ok (.iadd, 1) := by decide +kernel
theorem dX10_eatSign_5 : decode cX10_eatSign 5 = .ok (.invokevirtual 242, 3) := by decide +kernel
theorem dX10_eatSign_8 : decode cX10_eatSign 8 = .ok (.ireturn, 1) := by decide +kernel
theorem dX10_eatAs_0 : decode cX10_eatAs 0 = .ok (.aload_n 0, 1) := by decide +kernel
theorem dX10_eatAs_1 : decode cX10_eatAs 1 = .ok (.getfield 26, 3) := by decide +kernel
theorem dX10_eatAs_4 : decode cX10_eatAs 4 = .ok (.aload_n 0, 1) := by decide +kernel
theorem dX10_eatAs_5 : decode cX10_eatAs 5 = .ok (.getfield 236, 3) := by decide +kernel
theorem dX10_eatAs_8 : decode cX10_eatAs 8 = .ok (.iload_n 2, 1) := by decide +kernel
theorem dX10_eatAs_9 : decode cX10_eatAs 9 = .ok (.iastore, 1) := by decide +kernel
theorem dX10_eatAs_10 : decode cX10_eatAs 10 = .ok (.aload_n 0, 1) := by decide +kernel
theorem dX10_eatAs_11 : decode cX10_eatAs 11 = .ok (.iload_n 1, 1) := by decide +kernel
theorem dX10_eatAs_12 : decode cX10_eatAs 12 = .ok (.invokevirtual 242, 3) := by decide +kernel
theorem dX10_eatAs_15 : decode cX10_eatAs 15 = .ok (.ireturn, 1) := by decide +kernel
theorem dX10_put_0 : decode cX10_put 0 = .ok (.aload_n 0, 1) := by decide +kernel
theorem dX10_put_1 : decode cX10_put 1 = .ok (.getfield 39, 3) := by decide +kernel
theorem dX10_put_4 : decode cX10_put 4 = .ok (.getfield 166, 3) := by decide +kernel
theorem dX10_put_7 : decode cX10_put 7 = .ok (.aload_n 0, 1) := by decide +kernel
theorem dX10_put_8 : decode cX10_put 8 = .ok (.getfield 39, 3) := by decide +kernel
theorem dX10_put_11 : decode cX10_put 11 = .ok (.getfield 245, 3) := by decide +kernel
theorem dX10_put_14 : decode cX10_put 14 = .ok (.iload_n 1, 1) := by decide +kernel
theorem dX10_put_15 : decode cX10_put 15 = .ok (.iastore, 1) := by decide +kernel
theorem dX10_put_16 : decode cX10_put 16 = .ok (.aload_n 0, 1) := by decide +kernel
theorem dX10_put_17 : decode cX10_put 17 = .ok (.getfield 39, 3) := by decide +kernel
theorem dX10_put_20 : decode cX10_put 20 = .ok (.dup, 1) := by decide +kernel
theorem dX10_put_21 : decode cX10_put 21 = .ok (.getfield 245, 3) := by decide +kernel
theorem dX10_put_24 : decode cX10_put 24 = .ok (.iconst 1, 1) := by decide +kernel
theorem dX10_put_25 : decode cX10_put 25 = .ok (.iadd, 1) := by decide +kernel
theorem dX10_put_26 : decode cX10_put 26 = .ok (.putfield 245, 3) := by decide +kernel
theorem dX10_put_29 : decode cX10_put 29 = .ok (.return_, 1) := by decide +kernel
theorem dX10_isPlan_0 : decode cX10_isPlan 0 = .ok (.aload_n 0, 1) := by decide +kernel
theorem dX10_isPlan_1 : decode cX10_isPlan 1 = .ok (.sipush 900, 3) := by decide +kernel
theorem dX10_isPlan_4 : decode cX10_isPlan 4 = .ok (.invokevirtual 239, 3) := by decide +kernel
theorem dX10_isPlan_7 : decode cX10_isPlan 7 = .ok (.ifCond .ne 66, 3) := by decide +kernel
theorem dX10_isPlan_10 : decode cX10_isPlan 10 = .ok (.aload_n 0, 1) := by decide +kernel
theorem dX10_isPlan_11 : decode cX10_isPlan 11 = .ok (.iconst 0, 1) := by decide +kernel
theorem dX10_isPlan_12 : decode cX10_isPlan 12 = .ok (.invokevirtual 239, 3) := by decide +kernel
theorem dX10_isPlan_15 : decode cX10_isPlan 15 = .ok (.ifCond .eq 10, 3) := by decide +kernel
theorem dX10_isPlan_18 : decode cX10_isPlan 18 = .ok (.aload_n 0, 1) := by decide +kernel
theorem dX10_isPlan_19 : decode cX10_isPlan 19 = .ok (.invokevirtual 246, 3) := by decide +kernel
theorem dX10_isPlan_22 : decode cX10_isPlan 22 = .ok (.goto 32, 3) := by decide +kernel
theorem dX10_isPlan_25 : decode cX10_isPlan 25 = .ok (.aload_n 0, 1) := by decide +kernel
theorem dX10_isPlan_26 : decode cX10_isPlan 26 = .ok (.bipush 12, 2) := by decide +kernel
theorem dX10_isPlan_28 : decode cX10_isPlan 28 = .ok (.invokevirtual 239, 3) := by decide +kernel
theorem dX10_isPlan_31 : decode cX10_isPlan 31 = .ok (.ifCond .ne 12, 3) := by decide +kernel
theorem dX10_isPlan_34 : decode cX10_isPlan 34 = .ok (.aload_n 0, 1) := by decide +kernel
theorem dX10_isPlan_35 : decode cX10_isPlan 35 = .ok (.bipush 13, 2) := by decide +kernel
theorem dX10_isPlan_37 : decode cX10_isPlan 37 = .ok (.invokevirtual 239, 3) := by decide +kernel
theorem dX10_isPlan_40 : decode cX10_isPlan 40 = .ok (.ifCond .eq 10, 3) := by decide +kernel
theorem dX10_isPlan_43 : decode cX10_isPlan 43 = .ok (.aload_n 0, 1) := by decide +kernel
theorem dX10_isPlan_44 : decode cX10_isPlan 44 = .ok (.invokevirtual 250, 3) := by decide +kernel
theorem dX10_isPlan_47 : decode cX10_isPlan 47 = .ok (.goto 7, 3) := by decide +kernel
theorem dX10_isPlan_50 : decode cX10_isPlan 50 = .ok (.aload_n 0, 1) := by decide +kernel
theorem dX10_isPlan_51 : decode cX10_isPlan 51 = .ok (.invokevirtual 253, 3) := by decide +kernel
theorem dX10_isPlan_54 : decode cX10_isPlan 54 = .ok (.istore_n 1, 1) := by decide +kernel
theorem dX10_isPlan_55 : decode cX10_isPlan 55 = .ok (.iload_n 1, 1) := by decide +kernel
theorem dX10_isPlan_56 : decode cX10_isPlan 56 = .ok (.ifCond .eq 12, 3) := by decide +kernel
theorem dX10_isPlan_59 : decode cX10_isPlan 59 = .ok (.aload_n 0, 1) := by decide +kernel
theorem dX10_isPlan_60 : decode cX10_isPlan 60 = .ok (.bipush 59, 2) := by decide +kernel
theorem dX10_isPlan_62 : decode cX10_isPlan 62 = .ok (.invokevirtual 256, 3) := by decide +kernel
theorem dX10_isPlan_65 : decode cX10_isPlan 65 = .ok (.ifCond .ne 5, 3) := by decide +kernel
theorem dX10_isPlan_68 : decode cX10_isPlan 68 = .ok (.iconst 0, 1) := by decide +kernel
theorem dX10_isPlan_69 : decode cX10_isPlan 69 = .ok (.ireturn, 1) := by decide +kernel
theorem dX10_isPlan_70 : decode cX10_isPlan 70 = .ok (.goto (-70), 3) := by decide +kernel
theorem dX10_isPlan_73 : decode cX10_isPlan 73 = .ok (.iconst 1, 1) := by decide +kernel
theorem dX10_isPlan_74 : decode cX10_isPlan 74 = .ok (.ireturn, 1) := by decide +kernel
theorem dX10_isFamily_0 : decode cX10_isFamily 0 = .ok (.aload_n 0, 1) := by decide +kernel
theorem dX10_isFamily_1 : decode cX10_isFamily 1 = .ok (.dup, 1) := by decide +kernel
theorem dX10_isFamily_2 : decode cX10_isFamily 2 = .ok (.getfield 236, 3) := by decide +kernel
theorem dX10_isFamily_5 : decode cX10_isFamily 5 = .ok (.iconst 1, 1) := by decide +kernel
theorem dX10_isFamily_6 : decode cX10_isFamily 6 = .ok (.iadd, 1) := by decide +kernel
theorem dX10_isFamily_7 : decode cX10_isFamily 7 = .ok (.putfield 236, 3) := by decide +kernel
theorem dX10_isFamily_10 : decode cX10_isFamily 10 = .ok (.aload_n 0, 1) := by decide +kernel
theorem dX10_isFamily_11 : decode cX10_isFamily 11 = .ok (.bipush 40, 2) := by decide +kernel
theorem dX10_isFamily_13 : decode cX10_isFamily 13 = .ok (.iconst 1, 1) := by decide +kernel
theorem dX10_isFamily_14 : decode cX10_isFamily 14 = .ok (.invokevirtual 260, 3) := by decide +kernel
theorem dX10_isFamily_17 : decode cX10_isFamily 17 = .ok (.ireturn, 1) := by decide +kernel
theorem dX10_isClaimTold_0 : decode cX10_isClaimTold 0 = .ok (.aload_n 0, 1) := by decide +kernel
theorem dX10_isClaimTold_1 : decode cX10_isClaimTold 1 = .ok (.bipush 40, 2) := by decide +kernel
theorem dX10_isClaimTold_3 : decode cX10_isClaimTold 3 = .ok (.iload_n 1, 1) := by decide +kernel
theorem dX10_isClaimTold_4 : decode cX10_isClaimTold 4 = .ok (.invokevirtual 260, 3) := by decide +kernel
theorem dX10_isClaimTold_7 : decode cX10_isClaimTold 7 = .ok (.ifCond .eq 25, 3) := by decide +kernel
theorem dX10_isClaimTold_10 : decode cX10_isClaimTold 10 = .ok (.aload_n 0, 1) := by decide +kernel
theorem dX10_isClaimTold_11 : decode cX10_isClaimTold 11 = .ok (.bipush 10, 2) := by decide +kernel
theorem dX10_isClaimTold_13 : decode cX10_isClaimTold 13 = .ok (.invokevirtual 242, 3) := by decide +kernel
theorem dX10_isClaimTold_16 : decode cX10_isClaimTold 16 = .ok (.ifCond .ne 12, 3) := by decide +kernel
theorem dX10_isClaimTold_19 : decode cX10_isClaimTold 19 = .ok (.aload_n 0, 1) := by decide +kernel
theorem dX10_isClaimTold_20 : decode cX10_isClaimTold 20 = .ok (.bipush 11, 2) := by decide +kernel
theorem dX10_isClaimTold_22 : decode cX10_isClaimTold 22 = .ok (.invokevirtual 242, 3) := by decide +kernel
theorem dX10_isClaimTold_25 : decode cX10_isClaimTold 25 = .ok (.ifCond .eq 7, 3) := by decide +kernel
theorem dX10_isClaimTold_28 : decode cX10_isClaimTold 28 = .ok (.iconst 1, 1) := by decide +kernel
theorem dX10_isClaimTold_29 : decode cX10_isClaimTold 29 = .ok (.goto 4, 3) := by decide +kernel
theorem dX10_isClaimTold_32 : decode cX10_isClaimTold 32 = .ok (.iconst 0, 1) := by decide +kernel
theorem dX10_isClaimTold_33 : decode cX10_isClaimTold 33 = .ok (.ireturn, 1) := by decide +kernel
theorem dX10_isStatementLine_0 : decode cX10_isStatementLine 0 = .ok (.aload_n 0, 1) := by decide +kernel
theorem dX10_isStatementLine_1 : decode cX10_isStatementLine 1 = .ok (.getfield 17, 3) := by decide +kernel
theorem dX10_isStatementLine_4 : decode cX10_isStatementLine 4 = .ok (.aload_n 0, 1) := by decide +kernel
theorem dX10_isStatementLine_5 : decode cX10_isStatementLine 5 = .ok (.getfield 236, 3) := by decide +kernel
theorem dX10_isStatementLine_8 : decode cX10_isStatementLine 8 = .ok (.iaload, 1) := by decide +kernel
theorem dX10_isStatementLine_9 : decode cX10_isStatementLine 9 = .ok (.istore_n 1, 1) := by decide +kernel
theorem dX10_isStatementLine_10 : decode cX10_isStatementLine 10 = .ok (.iload_n 1, 1) := by decide +kernel
theorem dX10_isStatementLine_11 : decode cX10_isStatementLine 11 = .ok (.iconst 1, 1) := by decide +kernel
theorem dX10_isStatementLine_12 : decode cX10_isStatementLine 12 = .ok (.if_icmp .eq 22, 3) := by decide +kernel
theorem dX10_isStatementLine_15 : decode cX10_isStatementLine 15 = .ok (.iload_n 1, 1) := by decide +kernel
theorem dX10_isStatementLine_16 : decode cX10_isStatementLine 16 = .ok (.iconst 4, 1) := by decide +kernel
theorem dX10_isStatementLine_17 : decode cX10_isStatementLine 17 = .ok (.if_icmp .eq 17, 3) := by decide +kernel
theorem dX10_isStatementLine_20 : decode cX10_isStatementLine 20 = .ok (.iload_n 1, 1) := by decide +kernel
theorem dX10_isStatementLine_21 : decode cX10_isStatementLine 21 = .ok (.bipush 7, 2) := by decide +kernel
theorem dX10_isStatementLine_23 : decode cX10_isStatementLine 23 = .ok (.if_icmp .eq 11, 3) := by decide +kernel
theorem dX10_isStatementLine_26 : decode cX10_isStatementLine 26 = .ok (.iload_n 1, 1) := by decide +kernel
theorem dX10_isStatementLine_27 : decode cX10_isStatementLine 27 = .ok (.bipush 9, 2) := by decide +kernel
theorem dX10_isStatementLine_29 : decode cX10_isStatementLine 29 = .ok (.if_icmp .eq 5, 3) := by decide +kernel
theorem dX10_isStatementLine_32 : decode cX10_isStatementLine 32 = .ok (.iconst 0, 1) := by decide +kernel
theorem dX10_isStatementLine_33 : decode cX10_isStatementLine 33 = .ok (.ireturn, 1) := by decide +kernel
theorem dX10_isStatementLine_34 : decode cX10_isStatementLine 34 = .ok (.aload_n 0, 1) := by decide +kernel
theorem dX10_isStatementLine_35 : decode cX10_isStatementLine 35 = .ok (.dup, 1) := by decide +kernel
theorem dX10_isStatementLine_36 : decode cX10_isStatementLine 36 = .ok (.getfield 236, 3) := by decide +kernel
theorem dX10_isStatementLine_39 : decode cX10_isStatementLine 39 = .ok (.iconst 1, 1) := by decide +kernel
theorem dX10_isStatementLine_40 : decode cX10_isStatementLine 40 = .ok (.iadd, 1) := by decide +kernel
theorem dX10_isStatementLine_41 : decode cX10_isStatementLine 41 = .ok (.putfield 236, 3) := by decide +kernel
theorem dX10_isStatementLine_44 : decode cX10_isStatementLine 44 = .ok (.aload_n 0, 1) := by decide +kernel
theorem dX10_isStatementLine_45 : decode cX10_isStatementLine 45 = .ok (.bipush 40, 2) := by decide +kernel
theorem dX10_isStatementLine_47 : decode cX10_isStatementLine 47 = .ok (.iconst 2, 1) := by decide +kernel
theorem dX10_isStatementLine_48 : decode cX10_isStatementLine 48 = .ok (.invokevirtual 260, 3) := by decide +kernel
theorem dX10_isStatementLine_51 : decode cX10_isStatementLine 51 = .ok (.ifCond .ne 5, 3) := by decide +kernel
theorem dX10_isStatementLine_54 : decode cX10_isStatementLine 54 = .ok (.iconst 0, 1) := by decide +kernel
theorem dX10_isStatementLine_55 : decode cX10_isStatementLine 55 = .ok (.ireturn, 1) := by decide +kernel
theorem dX10_isStatementLine_56 : decode cX10_isStatementLine 56 = .ok (.iload_n 1, 1) := by decide +kernel
theorem dX10_isStatementLine_57 : decode cX10_isStatementLine 57 = .ok (.iconst 1, 1) := by decide +kernel
theorem dX10_isStatementLine_58 : decode cX10_isStatementLine 58 = .ok (.if_icmp .ne 11, 3) := by decide +kernel
theorem dX10_isStatementLine_61 : decode cX10_isStatementLine 61 = .ok (.aload_n 0, 1) := by decide +kernel
theorem dX10_isStatementLine_62 : decode cX10_isStatementLine 62 = .ok (.iconst 2, 1) := by decide +kernel
theorem dX10_isStatementLine_63 : decode cX10_isStatementLine 63 = .ok (.invokevirtual 242, 3) := by decide +kernel
theorem dX10_isStatementLine_66 : decode cX10_isStatementLine 66 = .ok (.ifCond .eq 24, 3) := by decide +kernel
theorem dX10_isStatementLine_69 : decode cX10_isStatementLine 69 = .ok (.iload_n 1, 1) := by decide +kernel
theorem dX10_isStatementLine_70 : decode cX10_isStatementLine 70 = .ok (.iconst 4, 1) := by decide +kernel
theorem dX10_isStatementLine_71 : decode cX10_isStatementLine 71 = .ok (.if_icmp .ne 11, 3) := by decide +kernel
theorem dX10_isStatementLine_74 : decode cX10_isStatementLine 74 = .ok (.aload_n 0, 1) := by decide +kernel
theorem dX10_isStatementLine_75 : decode cX10_isStatementLine 75 = .ok (.iconst 5, 1) := by decide +kernel
theorem dX10_isStatementLine_76 : decode cX10_isStatementLine 76 = .ok (.invokevirtual 242, 3) := by decide +kernel
theorem dX10_isStatementLine_79 : decode cX10_isStatementLine 79 = .ok (.ifCond .eq 11, 3) := by decide +kernel
theorem dX10_isStatementLine_82 : decode cX10_isStatementLine 82 = .ok (.aload_n 0, 1) := by decide +kernel
theorem dX10_isStatementLine_83 : decode cX10_isStatementLine 83 = .ok (.iconst 3, 1) := by decide +kernel
theorem dX10_isStatementLine_84 : decode cX10_isStatementLine 84 = .ok (.invokevirtual 263, 3) := by decide +kernel
theorem dX10_isStatementLine_87 : decode cX10_isStatementLine 87 = .ok (.ifCond .ne 5, 3) := by decide +kernel
theorem dX10_isStatementLine_90 : decode cX10_isStatementLine 90 = .ok (.iconst 0, 1) := by decide +kernel
theorem dX10_isStatementLine_91 : decode cX10_isStatementLine 91 = .ok (.ireturn, 1) := by decide +kernel
theorem dX10_isStatementLine_92 : decode cX10_isStatementLine 92 = .ok (.iload_n 1, 1) := by decide +kernel
theorem dX10_isStatementLine_93 : decode cX10_isStatementLine 93 = .ok (.bipush 9, 2) := by decide +kernel
theorem dX10_isStatementLine_95 : decode cX10_isStatementLine 95 = .ok (.if_icmp .eq 39, 3) := by decide +kernel
theorem dX10_isStatementLine_98 : decode cX10_isStatementLine 98 = .ok (.aload_n 0, 1) := by decide +kernel
theorem dX10_isStatementLine_99 : decode cX10_isStatementLine 99 = .ok (.iload_n 1, 1) := by decide +kernel
theorem dX10_isStatementLine_100 : decode cX10_isStatementLine 100 = .ok (.iconst 1, 1) := by decide +kernel
theorem dX10_isStatementLine_101 : decode cX10_isStatementLine 101 = .ok (.if_icmp .ne 7, 3) := by decide +kernel
theorem dX10_isStatementLine_104 : decode cX10_isStatementLine 104 = .ok (.iconst 3, 1) := by decide +kernel
theorem dX10_isStatementLine_105 : decode cX10_isStatementLine 105 = .ok (.goto 15, 3) := by decide +kernel
theorem dX10_isStatementLine_108 : decode cX10_isStatementLine 108 = .ok (.iload_n 1, 1) := by decide +kernel
theorem dX10_isStatementLine_109 : decode cX10_isStatementLine 109 = .ok (.iconst 4, 1) := by decide +kernel
theorem dX10_isStatementLine_110 : decode cX10_isStatementLine 110 = .ok (.if_icmp .ne 8, 3) := by decide +kernel
theorem dX10_isStatementLine_113 : decode cX10_isStatementLine 113 = .ok (.bipush 6, 2) := by decide +kernel
theorem dX10_isStatementLine_115 : decode cX10_isStatementLine 115 = .ok (.goto 5, 3) := by decide +kernel
theorem dX10_isStatementLine_118 : decode cX10_isStatementLine 118 = .ok (.bipush 8, 2) := by decide +kernel
theorem dX10_isStatementLine_120 : decode cX10_isStatementLine 120 = .ok (.invokevirtual 242, 3) := by decide +kernel
theorem dX10_isStatementLine_123 : decode cX10_isStatementLine 123 = .ok (.ifCond .eq 15, 3) := by decide +kernel
theorem dX10_isStatementLine_126 : decode cX10_isStatementLine 126 = .ok (.aload_n 0, 1) := by decide +kernel
theorem dX10_isStatementLine_127 : decode cX10_isStatementLine 127 = .ok (.iconst 4, 1) := by decide +kernel
theorem dX10_isStatementLine_128 : decode cX10_isStatementLine 128 = .ok (.invokevirtual 263, 3) := by decide +kernel
theorem dX10_isStatementLine_131 : decode cX10_isStatementLine 131 = .ok (.ifCond .eq 7, 3) := by decide +kernel
theorem dX10_isStatementLine_134 : decode cX10_isStatementLine 134 = .ok (.iconst 1, 1) := by decide +kernel
theorem dX10_isStatementLine_135 : decode cX10_isStatementLine 135 = .ok (.goto 4, 3) := by decide +kernel
theorem dX10_isStatementLine_138 : decode cX10_isStatementLine 138 = .ok (.iconst 0, 1) := by decide +kernel
theorem dX10_isStatementLine_139 : decode cX10_isStatementLine 139 = .ok (.ireturn, 1) := by decide +kernel
theorem dX10_isOrder_0 : decode cX10_isOrder 0 = .ok (.aload_n 0, 1) := by decide +kernel
theorem dX10_isOrder_1 : decode cX10_isOrder 1 = .ok (.getfield 26, 3) := by decide +kernel
theorem dX10_isOrder_4 : decode cX10_isOrder 4 = .ok (.aload_n 0, 1) := by decide +kernel
theorem dX10_isOrder_5 : decode cX10_isOrder 5 = .ok (.getfield 236, 3) := by decide +kernel
theorem dX10_isOrder_8 : decode cX10_isOrder 8 = .ok (.iconst 5, 1) := by decide +kernel
theorem dX10_isOrder_9 : decode cX10_isOrder 9 = .ok (.iastore, 1) := by decide +kernel
theorem dX10_isOrder_10 : decode cX10_isOrder 10 = .ok (.aload_n 0, 1) := by decide +kernel
theorem dX10_isOrder_11 : decode cX10_isOrder 11 = .ok (.dup, 1) := by decide +kernel
theorem dX10_isOrder_12 : decode cX10_isOrder 12 = .ok (.getfield 236, 3) := by decide +kernel
theorem dX10_isOrder_15 : decode cX10_isOrder 15 = .ok (.iconst 1, 1) := by decide +kernel
theorem dX10_isOrder_16 : decode cX10_isOrder 16 = .ok (.iadd, 1) := by decide +kernel
theorem dX10_isOrder_17 : decode cX10_isOrder 17 = .ok (.putfield 236, 3) := by decide +kernel
theorem dX10_isOrder_20 : decode cX10_isOrder 20 = .ok (.aload_n 0, 1) := by decide +kernel
theorem dX10_isOrder_21 : decode cX10_isOrder 21 = .ok (.getfield 39, 3) := by decide +kernel
theorem dX10_isOrder_24 : decode cX10_isOrder 24 = .ok (.getfield 266, 3) := by decide +kernel
theorem dX10_isOrder_27 : decode cX10_isOrder 27 = .ok (.bipush 16, 2) := by decide +kernel
theorem dX10_isOrder_29 : decode cX10_isOrder 29 = .ok (.invokestatic 192, 3) := by decide +kernel
theorem dX10_isOrder_32 : decode cX10_isOrder 32 = .ok (.istore_n 1, 1) := by decide +kernel
theorem dX10_isOrder_33 : decode cX10_isOrder 33 = .ok (.aload_n 0, 1) := by decide +kernel
theorem dX10_isOrder_34 : decode cX10_isOrder 34 = .ok (.getfield 39, 3) := by decide +kernel
theorem dX10_isOrder_37 : decode cX10_isOrder 37 = .ok (.dup, 1) := by decide +kernel
theorem dX10_isOrder_38 : decode cX10_isOrder 38 = .ok (.getfield 266, 3) := by decide +kernel
theorem dX10_isOrder_41 : decode cX10_isOrder 41 = .ok (.iconst 1, 1) := by decide +kernel
theorem dX10_isOrder_42 : decode cX10_isOrder 42 = .ok (.iadd, 1) := by decide +kernel
theorem dX10_isOrder_43 : decode cX10_isOrder 43 = .ok (.putfield 266, 3) := by decide +kernel
theorem dX10_isOrder_46 : decode cX10_isOrder 46 = .ok (.aload_n 0, 1) := by decide +kernel
theorem dX10_isOrder_47 : decode cX10_isOrder 47 = .ok (.bipush 40, 2) := by decide +kernel
theorem dX10_isOrder_49 : decode cX10_isOrder 49 = .ok (.bipush 6, 2) := by decide +kernel
theorem dX10_isOrder_51 : decode cX10_isOrder 51 = .ok (.invokevirtual 260, 3) := by decide +kernel
theorem dX10_isOrder_54 : decode cX10_isOrder 54 = .ok (.ifCond .ne 5, 3) := by decide +kernel
theorem dX10_isOrder_57 : decode cX10_isOrder 57 = .ok (.iconst 0, 1) := by decide +kernel
theorem dX10_isOrder_58 : decode cX10_isOrder 58 = .ok (.ireturn, 1) := by decide +kernel
theorem dX10_isOrder_59 : decode cX10_isOrder 59 = .ok (.aload_n 0, 1) := by decide +kernel
theorem dX10_isOrder_60 : decode cX10_isOrder 60 = .ok (.getfield 39, 3) := by decide +kernel
theorem dX10_isOrder_63 : decode cX10_isOrder 63 = .ok (.getfield 140, 3) := by decide +kernel
theorem dX10_isOrder_66 : decode cX10_isOrder 66 = .ok (.iload_n 1, 1) := by decide +kernel
theorem dX10_isOrder_67 : decode cX10_isOrder 67 = .ok (.aload_n 0, 1) := by decide +kernel
theorem dX10_isOrder_68 : decode cX10_isOrder 68 = .ok (.getfield 39, 3) := by decide +kernel
theorem dX10_isOrder_71 : decode cX10_isOrder 71 = .ok (.getfield 245, 3) := by decide +kernel
theorem dX10_isOrder_74 : decode cX10_isOrder 74 = .ok (.iastore, 1) := by decide +kernel
theorem dX10_isOrder_75 : decode cX10_isOrder 75 = .ok (.aload_n 0, 1) := by decide +kernel
theorem dX10_isOrder_76 : decode cX10_isOrder 76 = .ok (.bipush 14, 2) := by decide +kernel
theorem dX10_isOrder_78 : decode cX10_isOrder 78 = .ok (.invokevirtual 242, 3) := by decide +kernel
theorem dX10_isOrder_81 : decode cX10_isOrder 81 = .ok (.ifCond .eq 12, 3) := by decide +kernel
theorem dX10_isOrder_84 : decode cX10_isOrder 84 = .ok (.aload_n 0, 1) := by decide +kernel
theorem dX10_isOrder_85 : decode cX10_isOrder 85 = .ok (.invokevirtual 269, 3) := by decide +kernel
theorem dX10_isOrder_88 : decode cX10_isOrder 88 = .ok (.ifCond .ne 5, 3) := by decide +kernel
theorem dX10_isOrder_91 : decode cX10_isOrder 91 = .ok (.iconst 0, 1) := by decide +kernel
theorem dX10_isOrder_92 : decode cX10_isOrder 92 = .ok (.ireturn, 1) := by decide +kernel
theorem dX10_isOrder_93 : decode cX10_isOrder 93 = .ok (.aload_n 0, 1) := by decide +kernel
theorem dX10_isOrder_94 : decode cX10_isOrder 94 = .ok (.getfield 39, 3) := by decide +kernel
theorem dX10_isOrder_97 : decode cX10_isOrder 97 = .ok (.getfield 143, 3) := by decide +kernel
theorem dX10_isOrder_100 : decode cX10_isOrder 100 = .ok (.iload_n 1, 1) := by decide +kernel
theorem dX10_isOrder_101 : decode cX10_isOrder 101 = .ok (.aload_n 0, 1) := by decide +kernel
theorem dX10_isOrder_102 : decode cX10_isOrder 102 = .ok (.getfield 39, 3) := by decide +kernel
theorem dX10_isOrder_105 : decode cX10_isOrder 105 = .ok (.getfield 245, 3) := by decide +kernel
theorem dX10_isOrder_108 : decode cX10_isOrder 108 = .ok (.iastore, 1) := by decide +kernel
theorem dX10_isOrder_109 : decode cX10_isOrder 109 = .ok (.iconst 1, 1) := by decide +kernel
theorem dX10_isOrder_110 : decode cX10_isOrder 110 = .ok (.ireturn, 1) := by decide +kernel
theorem dX10_isTest_0 : decode cX10_isTest 0 = .ok (.aload_n 0, 1) := by decide +kernel
theorem dX10_isTest_1 : decode cX10_isTest 1 = .ok (.invokevirtual 272, 3) := by decide +kernel
theorem dX10_isTest_4 : decode cX10_isTest 4 = .ok (.ifCond .ne 5, 3) := by decide +kernel
theorem dX10_isTest_7 : decode cX10_isTest 7 = .ok (.iconst 0, 1) := by decide +kernel
theorem dX10_isTest_8 : decode cX10_isTest 8 = .ok (.ireturn, 1) := by decide +kernel
theorem dX10_isTest_9 : decode cX10_isTest 9 = .ok (.aload_n 0, 1) := by decide +kernel
theorem dX10_isTest_10 : decode cX10_isTest 10 = .ok (.bipush 6, 2) := by decide +kernel
theorem dX10_isTest_12 : decode cX10_isTest 12 = .ok (.invokevirtual 242, 3) := by decide +kernel
theorem dX10_isTest_15 : decode cX10_isTest 15 = .ok (.ifCond .eq 21, 3) := by decide +kernel
theorem dX10_isTest_18 : decode cX10_isTest 18 = .ok (.aload_n 0, 1) := by decide +kernel
theorem dX10_isTest_19 : decode cX10_isTest 19 = .ok (.invokevirtual 272, 3) := by decide +kernel
theorem dX10_isTest_22 : decode cX10_isTest 22 = .ok (.ifCond .ne 5, 3) := by decide +kernel
theorem dX10_isTest_25 : decode cX10_isTest 25 = .ok (.iconst 0, 1) := by decide +kernel
theorem dX10_isTest_26 : decode cX10_isTest 26 = .ok (.ireturn, 1) := by decide +kernel
theorem dX10_isTest_27 : decode cX10_isTest 27 = .ok (.aload_n 0, 1) := by decide +kernel
theorem dX10_isTest_28 : decode cX10_isTest 28 = .ok (.bipush 6, 2) := by decide +kernel
theorem dX10_isTest_30 : decode cX10_isTest 30 = .ok (.invokevirtual 275, 3) := by decide +kernel
theorem dX10_isTest_33 : decode cX10_isTest 33 = .ok (.goto (-24), 3) := by decide +kernel
theorem dX10_isTest_36 : decode cX10_isTest 36 = .ok (.iconst 1, 1) := by decide +kernel
theorem dX10_isTest_37 : decode cX10_isTest 37 = .ok (.ireturn, 1) := by decide +kernel
theorem dX10_isBoth_0 : decode cX10_isBoth 0 = .ok (.aload_n 0, 1) := by decide +kernel
theorem dX10_isBoth_1 : decode cX10_isBoth 1 = .ok (.invokevirtual 278, 3) := by decide +kernel
theorem dX10_isBoth_4 : decode cX10_isBoth 4 = .ok (.ifCond .ne 5, 3) := by decide +kernel
theorem dX10_isBoth_7 : decode cX10_isBoth 7 = .ok (.iconst 0, 1) := by decide +kernel
theorem dX10_isBoth_8 : decode cX10_isBoth 8 = .ok (.ireturn, 1) := by decide +kernel
theorem dX10_isBoth_9 : decode cX10_isBoth 9 = .ok (.aload_n 0, 1) := by decide +kernel
theorem dX10_isBoth_10 : decode cX10_isBoth 10 = .ok (.bipush 24, 2) := by decide +kernel
theorem dX10_isBoth_12 : decode cX10_isBoth 12 = .ok (.invokevirtual 242, 3) := by decide +kernel
theorem dX10_isBoth_15 : decode cX10_isBoth 15 = .ok (.ifCond .eq 21, 3) := by decide +kernel
theorem dX10_isBoth_18 : decode cX10_isBoth 18 = .ok (.aload_n 0, 1) := by decide +kernel
theorem dX10_isBoth_19 : decode cX10_isBoth 19 = .ok (.invokevirtual 278, 3) := by decide +kernel
theorem dX10_isBoth_22 : decode cX10_isBoth 22 = .ok (.ifCond .ne 5, 3) := by decide +kernel
theorem dX10_isBoth_25 : decode cX10_isBoth 25 = .ok (.iconst 0, 1) := by decide +kernel
theorem dX10_isBoth_26 : decode cX10_isBoth 26 = .ok (.ireturn, 1) := by decide +kernel
theorem dX10_isBoth_27 : decode cX10_isBoth 27 = .ok (.aload_n 0, 1) := by decide +kernel
theorem dX10_isBoth_28 : decode cX10_isBoth 28 = .ok (.bipush 24, 2) := by decide +kernel
theorem dX10_isBoth_30 : decode cX10_isBoth 30 = .ok (.invokevirtual 275, 3) := by decide +kernel
theorem dX10_isBoth_33 : decode cX10_isBoth 33 = .ok (.goto (-24), 3) := by decide +kernel
theorem dX10_isBoth_36 : decode cX10_isBoth 36 = .ok (.iconst 1, 1) := by decide +kernel
theorem dX10_isBoth_37 : decode cX10_isBoth 37 = .ok (.ireturn, 1) := by decide +kernel
theorem dX10_isDeeper_0 : decode cX10_isDeeper 0 = .ok (.aload_n 0, 1) := by decide +kernel
theorem dX10_isDeeper_1 : decode cX10_isDeeper 1 = .ok (.getfield 281, 3) := by decide +kernel
theorem dX10_isDeeper_4 : decode cX10_isDeeper 4 = .ok (.bipush 8, 2) := by decide +kernel
theorem dX10_isDeeper_6 : decode cX10_isDeeper 6 = .ok (.if_icmp .ne 5, 3) := by decide +kernel
theorem dX10_isDeeper_9 : decode cX10_isDeeper 9 = .ok (.iconst 0, 1) := by decide +kernel
theorem dX10_isDeeper_10 : decode cX10_isDeeper 10 = .ok (.ireturn, 1) := by decide +kernel
theorem dX10_isDeeper_11 : decode cX10_isDeeper 11 = .ok (.aload_n 0, 1) := by decide +kernel
theorem dX10_isDeeper_12 : decode cX10_isDeeper 12 = .ok (.dup, 1) := by decide +kernel
theorem dX10_isDeeper_13 : decode cX10_isDeeper 13 = .ok (.getfield 281, 3) := by decide +kernel
theorem dX10_isDeeper_16 : decode cX10_isDeeper 16 = .ok (.iconst 1, 1) := by decide +kernel
theorem dX10_isDeeper_17 : decode cX10_isDeeper 17 = .ok (.iadd, 1) := by decide +kernel
theorem dX10_isDeeper_18 : decode cX10_isDeeper 18 = .ok (.putfield 281, 3) := by decide +kernel
theorem dX10_isDeeper_21 : decode cX10_isDeeper 21 = .ok (.aload_n 0, 1) := by decide +kernel
theorem dX10_isDeeper_22 : decode cX10_isDeeper 22 = .ok (.dup, 1) := by decide +kernel
theorem dX10_isDeeper_23 : decode cX10_isDeeper 23 = .ok (.getfield 236, 3) := by decide +kernel
theorem dX10_isDeeper_26 : decode cX10_isDeeper 26 = .ok (.iconst 1, 1) := by decide +kernel
theorem dX10_isDeeper_27 : decode cX10_isDeeper 27 = .ok (.iadd, 1) := by decide +kernel
theorem dX10_isDeeper_28 : decode cX10_isDeeper 28 = .ok (.putfield 236, 3) := by decide +kernel
theorem dX10_isDeeper_31 : decode cX10_isDeeper 31 = .ok (.iconst 1, 1) := by decide +kernel
theorem dX10_isDeeper_32 : decode cX10_isDeeper 32 = .ok (.ireturn, 1) := by decide +kernel
theorem dX10_isName_0 : decode cX10_isName 0 = .ok (.aload_n 0, 1) := by decide +kernel
theorem dX10_isName_1 : decode cX10_isName 1 = .ok (.getfield 39, 3) := by decide +kernel
theorem dX10_isName_4 : decode cX10_isName 4 = .ok (.getfield 284, 3) := by decide +kernel
theorem dX10_isName_7 : decode cX10_isName 7 = .ok (.aload_n 0, 1) := by decide +kernel
theorem dX10_isName_8 : decode cX10_isName 8 = .ok (.getfield 39, 3) := by decide +kernel
theorem dX10_isName_11 : decode cX10_isName 11 = .ok (.getfield 287, 3) := by decide +kernel
theorem dX10_isName_14 : decode cX10_isName 14 = .ok (.aload_n 0, 1) := by decide +kernel
theorem dX10_isName_15 : decode cX10_isName 15 = .ok (.getfield 39, 3) := by decide +kernel
theorem dX10_isName_18 : decode cX10_isName 18 = .ok (.getfield 245, 3) := by decide +kernel
theorem dX10_isName_21 : decode cX10_isName 21 = .ok (.iastore, 1) := by decide +kernel
theorem dX10_isName_22 : decode cX10_isName 22 = .ok (.aload_n 0, 1) := by decide +kernel
theorem dX10_isName_23 : decode cX10_isName 23 = .ok (.getfield 39, 3) := by decide +kernel
theorem dX10_isName_26 : decode cX10_isName 26 = .ok (.dup, 1) := by decide +kernel
theorem dX10_isName_27 : decode cX10_isName 27 = .ok (.getfield 287, 3) := by decide +kernel
theorem dX10_isName_30 : decode cX10_isName 30 = .ok (.iconst 1, 1) := by decide +kernel
theorem dX10_isName_31 : decode cX10_isName 31 = .ok (.iadd, 1) := by decide +kernel
theorem dX10_isName_32 : decode cX10_isName 32 = .ok (.putfield 287, 3) := by decide +kernel
theorem dX10_isName_35 : decode cX10_isName 35 = .ok (.aload_n 0, 1) := by decide +kernel
theorem dX10_isName_36 : decode cX10_isName 36 = .ok (.aload_n 0, 1) := by decide +kernel
theorem dX10_isName_37 : decode cX10_isName 37 = .ok (.getfield 236, 3) := by decide +kernel
theorem dX10_isName_40 : decode cX10_isName 40 = .ok (.invokevirtual 275, 3) := by decide +kernel
theorem dX10_isName_43 : decode cX10_isName 43 = .ok (.aload_n 0, 1) := by decide +kernel
theorem dX10_isName_44 : decode cX10_isName 44 = .ok (.bipush 40, 2) := by decide +kernel
theorem dX10_isName_46 : decode cX10_isName 46 = .ok (.iload_n 1, 1) := by decide +kernel
theorem dX10_isName_47 : decode cX10_isName 47 = .ok (.invokevirtual 260, 3) := by decide +kernel
theorem dX10_isName_50 : decode cX10_isName 50 = .ok (.ireturn, 1) := by decide +kernel
theorem dX10_isNamed_0 : decode cX10_isNamed 0 = .ok (.aload_n 0, 1) := by decide +kernel
theorem dX10_isNamed_1 : decode cX10_isNamed 1 = .ok (.aload_n 0, 1) := by decide +kernel
theorem dX10_isNamed_2 : decode cX10_isNamed 2 = .ok (.getfield 17, 3) := by decide +kernel
theorem dX10_isNamed_5 : decode cX10_isNamed 5 = .ok (.aload_n 0, 1) := by decide +kernel
theorem dX10_isNamed_6 : decode cX10_isNamed 6 = .ok (.getfield 236, 3) := by decide +kernel
theorem dX10_isNamed_9 : decode cX10_isNamed 9 = .ok (.iaload, 1) := by decide +kernel
theorem dX10_isNamed_10 : decode cX10_isNamed 10 = .ok (.invokevirtual 275, 3) := by decide +kernel
theorem dX10_isNamed_13 : decode cX10_isNamed 13 = .ok (.aload_n 0, 1) := by decide +kernel
theorem dX10_isNamed_14 : decode cX10_isNamed 14 = .ok (.dup, 1) := by decide +kernel
theorem dX10_isNamed_15 : decode cX10_isNamed 15 = .ok (.getfield 236, 3) := by decide +kernel
theorem dX10_isNamed_18 : decode cX10_isNamed 18 = .ok (.iconst 1, 1) := by decide +kernel
theorem dX10_isNamed_19 : decode cX10_isNamed 19 = .ok (.iadd, 1) := by decide +kernel
theorem dX10_isNamed_20 : decode cX10_isNamed 20 = .ok (.putfield 236, 3) := by decide +kernel
theorem dX10_isNamed_23 : decode cX10_isNamed 23 = .ok (.aload_n 0, 1) := by decide +kernel
theorem dX10_isNamed_24 : decode cX10_isNamed 24 = .ok (.iload_n 1, 1) := by decide +kernel
theorem dX10_isNamed_25 : decode cX10_isNamed 25 = .ok (.invokevirtual 290, 3) := by decide +kernel
theorem dX10_isNamed_28 : decode cX10_isNamed 28 = .ok (.ireturn, 1) := by decide +kernel
theorem dX10_isClaimIn_0 : decode cX10_isClaimIn 0 = .ok (.aload_n 0, 1) := by decide +kernel
theorem dX10_isClaimIn_1 : decode cX10_isClaimIn 1 = .ok (.bipush 7, 2) := by decide +kernel
theorem dX10_isClaimIn_3 : decode cX10_isClaimIn 3 = .ok (.invokevirtual 290, 3) := by decide +kernel
theorem dX10_isClaimIn_6 : decode cX10_isClaimIn 6 = .ok (.ifCond .eq 21, 3) := by decide +kernel
theorem dX10_isClaimIn_9 : decode cX10_isClaimIn 9 = .ok (.aload_n 0, 1) := by decide +kernel
theorem dX10_isClaimIn_10 : decode cX10_isClaimIn 10 = .ok (.bipush 10, 2) := by decide +kernel
theorem dX10_isClaimIn_12 : decode cX10_isClaimIn 12 = .ok (.invokevirtual 239, 3) := by decide +kernel
theorem dX10_isClaimIn_15 : decode cX10_isClaimIn 15 = .ok (.ifCond .ne 14, 3) := by decide +kernel
theorem dX10_isClaimIn_18 : decode cX10_isClaimIn 18 = .ok (.aload_n 0, 1) := by decide +kernel
theorem dX10_isClaimIn_19 : decode cX10_isClaimIn 19 = .ok (.bipush 11, 2) := by decide +kernel
theorem dX10_isClaimIn_21 : decode cX10_isClaimIn 21 = .ok (.invokevirtual 239, 3) := by decide +kernel
theorem dX10_isClaimIn_24 : decode cX10_isClaimIn 24 = .ok (.ifCond .ne 5, 3) := by decide +kernel
theorem dX10_isClaimIn_27 : decode cX10_isClaimIn 27 = .ok (.iconst 0, 1) := by decide +kernel
theorem dX10_isClaimIn_28 : decode cX10_isClaimIn 28 = .ok (.ireturn, 1) := by decide +kernel
theorem dX10_isClaimIn_29 : decode cX10_isClaimIn 29 = .ok (.aload_n 0, 1) := by decide +kernel
theorem dX10_isClaimIn_30 : decode cX10_isClaimIn 30 = .ok (.aload_n 0, 1) := by decide +kernel
theorem dX10_isClaimIn_31 : decode cX10_isClaimIn 31 = .ok (.bipush 11, 2) := by decide +kernel
theorem dX10_isClaimIn_33 : decode cX10_isClaimIn 33 = .ok (.invokevirtual 239, 3) := by decide +kernel
theorem dX10_isClaimIn_36 : decode cX10_isClaimIn 36 = .ok (.ifCond .eq 7, 3) := by decide +kernel
theorem dX10_isClaimIn_39 : decode cX10_isClaimIn 39 = .ok (.iconst 1, 1) := by decide +kernel
theorem dX10_isClaimIn_40 : decode cX10_isClaimIn 40 = .ok (.goto 4, 3) := by decide +kernel
theorem dX10_isClaimIn_43 : decode cX10_isClaimIn 43 = .ok (.iconst 0, 1) := by decide +kernel
theorem dX10_isClaimIn_44 : decode cX10_isClaimIn 44 = .ok (.invokevirtual 275, 3) := by decide +kernel
theorem dX10_isClaimIn_47 : decode cX10_isClaimIn 47 = .ok (.aload_n 0, 1) := by decide +kernel
theorem dX10_isClaimIn_48 : decode cX10_isClaimIn 48 = .ok (.dup, 1) := by decide +kernel
theorem dX10_isClaimIn_49 : decode cX10_isClaimIn 49 = .ok (.getfield 236, 3) := by decide +kernel
theorem dX10_isClaimIn_52 : decode cX10_isClaimIn 52 = .ok (.iconst 1, 1) := by decide +kernel
theorem dX10_isClaimIn_53 : decode cX10_isClaimIn 53 = .ok (.iadd, 1) := by decide +kernel
theorem dX10_isClaimIn_54 : decode cX10_isClaimIn 54 = .ok (.putfield 236, 3) := by decide +kernel
theorem dX10_isClaimIn_57 : decode cX10_isClaimIn 57 = .ok (.iconst 1, 1) := by decide +kernel
theorem dX10_isClaimIn_58 : decode cX10_isClaimIn 58 = .ok (.ireturn, 1) := by decide +kernel
theorem dX10_isSingle_0 : decode cX10_isSingle 0 = .ok (.aload_n 0, 1) := by decide +kernel
theorem dX10_isSingle_1 : decode cX10_isSingle 1 = .ok (.bipush 23, 2) := by decide +kernel
theorem dX10_isSingle_3 : decode cX10_isSingle 3 = .ok (.invokevirtual 239, 3) := by decide +kernel
theorem dX10_isSingle_6 : decode cX10_isSingle 6 = .ok (.ifCond .eq 37, 3) := by decide +kernel
theorem dX10_isSingle_9 : decode cX10_isSingle 9 = .ok (.aload_n 0, 1) := by decide +kernel
theorem dX10_isSingle_10 : decode cX10_isSingle 10 = .ok (.invokevirtual 293, 3) := by decide +kernel
theorem dX10_isSingle_13 : decode cX10_isSingle 13 = .ok (.ifCond .eq 10, 3) := by decide +kernel
theorem dX10_isSingle_16 : decode cX10_isSingle 16 = .ok (.aload_n 0, 1) := by decide +kernel
theorem dX10_isSingle_17 : decode cX10_isSingle 17 = .ok (.invokevirtual 278, 3) := by decide +kernel
theorem dX10_isSingle_20 : decode cX10_isSingle 20 = .ok (.ifCond .ne 5, 3) := by decide +kernel
theorem dX10_isSingle_23 : decode cX10_isSingle 23 = .ok (.iconst 0, 1) := by decide +kernel
theorem dX10_isSingle_24 : decode cX10_isSingle 24 = .ok (.ireturn, 1) := by decide +kernel
theorem dX10_isSingle_25 : decode cX10_isSingle 25 = .ok (.aload_n 0, 1) := by decide +kernel
theorem dX10_isSingle_26 : decode cX10_isSingle 26 = .ok (.dup, 1) := by decide +kernel
theorem dX10_isSingle_27 : decode cX10_isSingle 27 = .ok (.getfield 281, 3) := by decide +kernel
theorem dX10_isSingle_30 : decode cX10_isSingle 30 = .ok (.iconst 1, 1) := by decide +kernel
theorem dX10_isSingle_31 : decode cX10_isSingle 31 = .ok (.isub, 1) := by decide +kernel
theorem dX10_isSingle_32 : decode cX10_isSingle 32 = .ok (.putfield 281, 3) := by decide +kernel
theorem dX10_isSingle_35 : decode cX10_isSingle 35 = .ok (.aload_n 0, 1) := by decide +kernel
theorem dX10_isSingle_36 : decode cX10_isSingle 36 = .ok (.bipush 23, 2) := by decide +kernel
theorem dX10_isSingle_38 : decode cX10_isSingle 38 = .ok (.invokevirtual 275, 3) := by decide +kernel
theorem dX10_isSingle_41 : decode cX10_isSingle 41 = .ok (.iconst 1, 1) := by decide +kernel
theorem dX10_isSingle_42 : decode cX10_isSingle 42 = .ok (.ireturn, 1) := by decide +kernel
theorem dX10_isSingle_43 : decode cX10_isSingle 43 = .ok (.aload_n 0, 1) := by decide +kernel
theorem dX10_isSingle_44 : decode cX10_isSingle 44 = .ok (.bipush 91, 2) := by decide +kernel
theorem dX10_isSingle_46 : decode cX10_isSingle 46 = .ok (.invokevirtual 296, 3) := by decide +kernel
theorem dX10_isSingle_49 : decode cX10_isSingle 49 = .ok (.ifCond .eq 36, 3) := by decide +kernel
theorem dX10_isSingle_52 : decode cX10_isSingle 52 = .ok (.aload_n 0, 1) := by decide +kernel
theorem dX10_isSingle_53 : decode cX10_isSingle 53 = .ok (.invokevirtual 293, 3) := by decide +kernel
theorem dX10_isSingle_56 : decode cX10_isSingle 56 = .ok (.ifCond .eq 10, 3) := by decide +kernel
theorem dX10_isSingle_59 : decode cX10_isSingle 59 = .ok (.aload_n 0, 1) := by decide +kernel
theorem dX10_isSingle_60 : decode cX10_isSingle 60 = .ok (.invokevirtual 269, 3) := by decide +kernel
theorem dX10_isSingle_63 : decode cX10_isSingle 63 = .ok (.ifCond .ne 5, 3) := by decide +kernel
theorem dX10_isSingle_66 : decode cX10_isSingle 66 = .ok (.iconst 0, 1) := by decide +kernel
theorem dX10_isSingle_67 : decode cX10_isSingle 67 = .ok (.ireturn, 1) := by decide +kernel
theorem dX10_isSingle_68 : decode cX10_isSingle 68 = .ok (.aload_n 0, 1) := by decide +kernel
theorem dX10_isSingle_69 : decode cX10_isSingle 69 = .ok (.dup, 1) := by decide +kernel
theorem dX10_isSingle_70 : decode cX10_isSingle 70 = .ok (.getfield 281, 3) := by decide +kernel
theorem dX10_isSingle_73 : decode cX10_isSingle 73 = .ok (.iconst 1, 1) := by decide +kernel
theorem dX10_isSingle_74 : decode cX10_isSingle 74 = .ok (.isub, 1) := by decide +kernel
theorem dX10_isSingle_75 : decode cX10_isSingle 75 = .ok (.putfield 281, 3) := by decide +kernel
theorem dX10_isSingle_78 : decode cX10_isSingle 78 = .ok (.aload_n 0, 1) := by decide +kernel
theorem dX10_isSingle_79 : decode cX10_isSingle 79 = .ok (.bipush 93, 2) := by decide +kernel
theorem dX10_isSingle_81 : decode cX10_isSingle 81 = .ok (.invokevirtual 256, 3) := by decide +kernel
theorem dX10_isSingle_84 : decode cX10_isSingle 84 = .ok (.ireturn, 1) := by decide +kernel
theorem dX10_isSingle_85 : decode cX10_isSingle 85 = .ok (.aload_n 0, 1) := by decide +kernel
theorem dX10_isSingle_86 : decode cX10_isSingle 86 = .ok (.bipush 20, 2) := by decide +kernel
theorem dX10_isSingle_88 : decode cX10_isSingle 88 = .ok (.invokevirtual 239, 3) := by decide +kernel
theorem dX10_isSingle_91 : decode cX10_isSingle 91 = .ok (.ifCond .eq 10, 3) := by decide +kernel
theorem dX10_isSingle_94 : decode cX10_isSingle 94 = .ok (.aload_n 0, 1) := by decide +kernel
theorem dX10_isSingle_95 : decode cX10_isSingle 95 = .ok (.bipush 8, 2) := by decide +kernel
theorem dX10_isSingle_97 : decode cX10_isSingle 97 = .ok (.invokevirtual 299, 3) := by decide +kernel
theorem dX10_isSingle_100 : decode cX10_isSingle 100 = .ok (.ireturn, 1) := by decide +kernel
theorem dX10_isSingle_101 : decode cX10_isSingle 101 = .ok (.aload_n 0, 1) := by decide +kernel
theorem dX10_isSingle_102 : decode cX10_isSingle 102 = .ok (.bipush 19, 2) := by decide +kernel
theorem dX10_isSingle_104 : decode cX10_isSingle 104 = .ok (.invokevirtual 239, 3) := by decide +kernel
theorem dX10_isSingle_107 : decode cX10_isSingle 107 = .ok (.ifCond .ne 12, 3) := by decide +kernel
theorem dX10_isSingle_110 : decode cX10_isSingle 110 = .ok (.aload_n 0, 1) := by decide +kernel
theorem dX10_isSingle_111 : decode cX10_isSingle 111 = .ok (.bipush 21, 2) := by decide +kernel
theorem dX10_isSingle_113 : decode cX10_isSingle 113 = .ok (.invokevirtual 239, 3) := by decide +kernel
theorem dX10_isSingle_116 : decode cX10_isSingle 116 = .ok (.ifCond .eq 17, 3) := by decide +kernel
theorem dX10_isSingle_119 : decode cX10_isSingle 119 = .ok (.aload_n 0, 1) := by decide +kernel
theorem dX10_isSingle_120 : decode cX10_isSingle 120 = .ok (.aload_n 0, 1) := by decide +kernel
theorem dX10_isSingle_121 : decode cX10_isSingle 121 = .ok (.getfield 17, 3) := by decide +kernel
theorem dX10_isSingle_124 : decode cX10_isSingle 124 = .ok (.aload_n 0, 1) := by decide +kernel
theorem dX10_isSingle_125 : decode cX10_isSingle 125 = .ok (.getfield 236, 3) := by decide +kernel
theorem dX10_isSingle_128 : decode cX10_isSingle 128 = .ok (.iaload, 1) := by decide +kernel
theorem dX10_isSingle_129 : decode cX10_isSingle 129 = .ok (.invokevirtual 302, 3) := by decide +kernel
theorem dX10_isSingle_132 : decode cX10_isSingle 132 = .ok (.ireturn, 1) := by decide +kernel
theorem dX10_isSingle_133 : decode cX10_isSingle 133 = .ok (.aload_n 0, 1) := by decide +kernel
theorem dX10_isSingle_134 : decode cX10_isSingle 134 = .ok (.invokevirtual 305, 3) := by decide +kernel
theorem dX10_isSingle_137 : decode cX10_isSingle 137 = .ok (.ifCond .ne 5, 3) := by decide +kernel
theorem dX10_isSingle_140 : decode cX10_isSingle 140 = .ok (.iconst 0, 1) := by decide +kernel
theorem dX10_isSingle_141 : decode cX10_isSingle 141 = .ok (.ireturn, 1) := by decide +kernel
theorem dX10_isSingle_142 : decode cX10_isSingle 142 = .ok (.aload_n 0, 1) := by decide +kernel
theorem dX10_isSingle_143 : decode cX10_isSingle 143 = .ok (.bipush 60, 2) := by decide +kernel
theorem dX10_isSingle_145 : decode cX10_isSingle 145 = .ok (.invokevirtual 296, 3) := by decide +kernel
theorem dX10_isSingle_148 : decode cX10_isSingle 148 = .ok (.ifCond .eq 8, 3) := by decide +kernel
theorem dX10_isSingle_151 : decode cX10_isSingle 151 = .ok (.bipush 38, 2) := by decide +kernel
theorem dX10_isSingle_153 : decode cX10_isSingle 153 = .ok (.goto 62, 3) := by decide +kernel
theorem dX10_isSingle_156 : decode cX10_isSingle 156 = .ok (.aload_n 0, 1) := by decide +kernel
theorem dX10_isSingle_157 : decode cX10_isSingle 157 = .ok (.bipush 62, 2) := by decide +kernel
theorem dX10_isSingle_159 : decode cX10_isSingle 159 = .ok (.invokevirtual 296, 3) := by decide +kernel
theorem dX10_isSingle_162 : decode cX10_isSingle 162 = .ok (.ifCond .eq 8, 3) := by decide +kernel
theorem dX10_isSingle_165 : decode cX10_isSingle 165 = .ok (.bipush 39, 2) := by decide +kernel
theorem dX10_isSingle_167 : decode cX10_isSingle 167 = .ok (.goto 48, 3) := by decide +kernel
theorem dX10_isSingle_170 : decode cX10_isSingle 170 = .ok (.aload_n 0, 1) := by decide +kernel
theorem dX10_isSingle_171 : decode cX10_isSingle 171 = .ok (.bipush 61, 2) := by decide +kernel
theorem dX10_isSingle_173 : decode cX10_isSingle 173 = .ok (.invokevirtual 296, 3) := by decide +kernel
theorem dX10_isSingle_176 : decode cX10_isSingle 176 = .ok (.ifCond .eq 8, 3) := by decide +kernel
theorem dX10_isSingle_179 : decode cX10_isSingle 179 = .ok (.bipush 42, 2) := by decide +kernel
theorem dX10_isSingle_181 : decode cX10_isSingle 181 = .ok (.goto 34, 3) := by decide +kernel
theorem dX10_isSingle_184 : decode cX10_isSingle 184 = .ok (.aload_n 0, 1) := by decide +kernel
theorem dX10_isSingle_185 : decode cX10_isSingle 185 = .ok (.sipush 300, 3) := by decide +kernel
theorem dX10_isSingle_188 : decode cX10_isSingle 188 = .ok (.invokevirtual 239, 3) := by decide +kernel
theorem dX10_isSingle_191 : decode cX10_isSingle 191 = .ok (.ifCond .eq 8, 3) := by decide +kernel
theorem dX10_isSingle_194 : decode cX10_isSingle 194 = .ok (.bipush 43, 2) := by decide +kernel
theorem dX10_isSingle_196 : decode cX10_isSingle 196 = .ok (.goto 19, 3) := by decide +kernel
theorem dX10_isSingle_199 : decode cX10_isSingle 199 = .ok (.aload_n 0, 1) := by decide +kernel
theorem dX10_isSingle_200 : decode cX10_isSingle 200 = .ok (.sipush 301, 3) := by decide +kernel
theorem dX10_isSingle_203 : decode cX10_isSingle 203 = .ok (.invokevirtual 239, 3) := by decide +kernel
theorem dX10_isSingle_206 : decode cX10_isSingle 206 = .ok (.ifCond .eq 8, 3) := by decide +kernel
theorem dX10_isSingle_209 : decode cX10_isSingle 209 = .ok (.bipush 44, 2) := by decide +kernel
theorem dX10_isSingle_211 : decode cX10_isSingle 211 = .ok (.goto 4, 3) := by decide +kernel
theorem dX10_isSingle_214 : decode cX10_isSingle 214 = .ok (.iconst (-1), 1) := by decide +kernel
theorem dX10_isSingle_215 : decode cX10_isSingle 215 = .ok (.istore_n 1, 1) := by decide +kernel
theorem dX10_isSingle_216 : decode cX10_isSingle 216 = .ok (.iload_n 1, 1) := by decide +kernel
theorem dX10_isSingle_217 : decode cX10_isSingle 217 = .ok (.iconst (-1), 1) := by decide +kernel
theorem dX10_isSingle_218 : decode cX10_isSingle 218 = .ok (.if_icmp .ne 5, 3) := by decide +kernel
theorem dX10_isSingle_221 : decode cX10_isSingle 221 = .ok (.iconst 0, 1) := by decide +kernel
theorem dX10_isSingle_222 : decode cX10_isSingle 222 = .ok (.ireturn, 1) := by decide +kernel
theorem dX10_isSingle_223 : decode cX10_isSingle 223 = .ok (.aload_n 0, 1) := by decide +kernel
theorem dX10_isSingle_224 : decode cX10_isSingle 224 = .ok (.dup, 1) := by decide +kernel
theorem dX10_isSingle_225 : decode cX10_isSingle 225 = .ok (.getfield 236, 3) := by decide +kernel
theorem dX10_isSingle_228 : decode cX10_isSingle 228 = .ok (.iconst 1, 1) := by decide +kernel
theorem dX10_isSingle_229 : decode cX10_isSingle 229 = .ok (.iadd, 1) := by decide +kernel
theorem dX10_isSingle_230 : decode cX10_isSingle 230 = .ok (.putfield 236, 3) := by decide +kernel
theorem dX10_isSingle_233 : decode cX10_isSingle 233 = .ok (.aload_n 0, 1) := by decide +kernel
theorem dX10_isSingle_234 : decode cX10_isSingle 234 = .ok (.invokevirtual 305, 3) := by decide +kernel
theorem dX10_isSingle_237 : decode cX10_isSingle 237 = .ok (.ifCond .ne 5, 3) := by decide +kernel
theorem dX10_isSingle_240 : decode cX10_isSingle 240 = .ok (.iconst 0, 1) := by decide +kernel
theorem dX10_isSingle_241 : decode cX10_isSingle 241 = .ok (.ireturn, 1) := by decide +kernel
theorem dX10_isSingle_242 : decode cX10_isSingle 242 = .ok (.aload_n 0, 1) := by decide +kernel
theorem dX10_isSingle_243 : decode cX10_isSingle 243 = .ok (.iload_n 1, 1) := by decide +kernel
theorem dX10_isSingle_244 : decode cX10_isSingle 244 = .ok (.invokevirtual 275, 3) := by decide +kernel
theorem dX10_isSingle_247 : decode cX10_isSingle 247 = .ok (.iconst 1, 1) := by decide +kernel
theorem dX10_isSingle_248 : decode cX10_isSingle 248 = .ok (.ireturn, 1) := by decide +kernel
theorem dX10_isOfClaims_0 : decode cX10_isOfClaims 0 = .ok (.aload_n 0, 1) := by decide +kernel
theorem dX10_isOfClaims_1 : decode cX10_isOfClaims 1 = .ok (.iload_n 1, 1) := by decide +kernel
theorem dX10_isOfClaims_2 : decode cX10_isOfClaims 2 = .ok (.invokevirtual 275, 3) := by decide +kernel
theorem dX10_isOfClaims_5 : decode cX10_isOfClaims 5 = .ok (.aload_n 0, 1) := by decide +kernel
theorem dX10_isOfClaims_6 : decode cX10_isOfClaims 6 = .ok (.dup, 1) := by decide +kernel
theorem dX10_isOfClaims_7 : decode cX10_isOfClaims 7 = .ok (.getfield 236, 3) := by decide +kernel
theorem dX10_isOfClaims_10 : decode cX10_isOfClaims 10 = .ok (.iconst 1, 1) := by decide +kernel
theorem dX10_isOfClaims_11 : decode cX10_isOfClaims 11 = .ok (.iadd, 1) := by decide +kernel
theorem dX10_isOfClaims_12 : decode cX10_isOfClaims 12 = .ok (.putfield 236, 3) := by decide +kernel
theorem dX10_isOfClaims_15 : decode cX10_isOfClaims 15 = .ok (.aload_n 0, 1) := by decide +kernel
theorem dX10_isOfClaims_16 : decode cX10_isOfClaims 16 = .ok (.invokevirtual 308, 3) := by decide +kernel
theorem dX10_isOfClaims_19 : decode cX10_isOfClaims 19 = .ok (.ifCond .eq 29, 3) := by decide +kernel
theorem dX10_isOfClaims_22 : decode cX10_isOfClaims 22 = .ok (.iload_n 1, 1) := by decide +kernel
theorem dX10_isOfClaims_23 : decode cX10_isOfClaims 23 = .ok (.bipush 19, 2) := by decide +kernel
theorem dX10_isOfClaims_25 : decode cX10_isOfClaims 25 = .ok (.if_icmp .eq 19, 3) := by decide +kernel
theorem dX10_isOfClaims_28 : decode cX10_isOfClaims 28 = .ok (.aload_n 0, 1) := by decide +kernel
theorem dX10_isOfClaims_29 : decode cX10_isOfClaims 29 = .ok (.bipush 22, 2) := by decide +kernel
theorem dX10_isOfClaims_31 : decode cX10_isOfClaims 31 = .ok (.invokevirtual 242, 3) := by decide +kernel
theorem dX10_isOfClaims_34 : decode cX10_isOfClaims 34 = .ok (.ifCond .eq 14, 3) := by decide +kernel
theorem dX10_isOfClaims_37 : decode cX10_isOfClaims 37 = .ok (.aload_n 0, 1) := by decide +kernel
theorem dX10_isOfClaims_38 : decode cX10_isOfClaims 38 = .ok (.invokevirtual 308, 3) := by decide +kernel
theorem dX10_isOfClaims_41 : decode cX10_isOfClaims 41 = .ok (.ifCond .eq 7, 3) := by decide +kernel
theorem dX10_isOfClaims_44 : decode cX10_isOfClaims 44 = .ok (.iconst 1, 1) := by decide +kernel
theorem dX10_isOfClaims_45 : decode cX10_isOfClaims 45 = .ok (.goto 4, 3) := by decide +kernel
theorem dX10_isOfClaims_48 : decode cX10_isOfClaims 48 = .ok (.iconst 0, 1) := by decide +kernel
theorem dX10_isOfClaims_49 : decode cX10_isOfClaims 49 = .ok (.ireturn, 1) := by decide +kernel
theorem dX10_isSum_0 : decode cX10_isSum 0 = .ok (.aload_n 0, 1) := by decide +kernel
theorem dX10_isSum_1 : decode cX10_isSum 1 = .ok (.invokevirtual 311, 3) := by decide +kernel
theorem dX10_isSum_4 : decode cX10_isSum 4 = .ok (.ifCond .ne 5, 3) := by decide +kernel
theorem dX10_isSum_7 : decode cX10_isSum 7 = .ok (.iconst 0, 1) := by decide +kernel
theorem dX10_isSum_8 : decode cX10_isSum 8 = .ok (.ireturn, 1) := by decide +kernel
theorem dX10_isSum_9 : decode cX10_isSum 9 = .ok (.aload_n 0, 1) := by decide +kernel
theorem dX10_isSum_10 : decode cX10_isSum 10 = .ok (.bipush 43, 2) := by decide +kernel
theorem dX10_isSum_12 : decode cX10_isSum 12 = .ok (.invokevirtual 296, 3) := by decide +kernel
theorem dX10_isSum_15 : decode cX10_isSum 15 = .ok (.ifCond .ne 12, 3) := by decide +kernel
theorem dX10_isSum_18 : decode cX10_isSum 18 = .ok (.aload_n 0, 1) := by decide +kernel
theorem dX10_isSum_19 : decode cX10_isSum 19 = .ok (.bipush 45, 2) := by decide +kernel
theorem dX10_isSum_21 : decode cX10_isSum 21 = .ok (.invokevirtual 296, 3) := by decide +kernel
theorem dX10_isSum_24 : decode cX10_isSum 24 = .ok (.ifCond .eq 47, 3) := by decide +kernel
theorem dX10_isSum_27 : decode cX10_isSum 27 = .ok (.aload_n 0, 1) := by decide +kernel
theorem dX10_isSum_28 : decode cX10_isSum 28 = .ok (.bipush 43, 2) := by decide +kernel
theorem dX10_isSum_30 : decode cX10_isSum 30 = .ok (.invokevirtual 296, 3) := by decide +kernel
theorem dX10_isSum_33 : decode cX10_isSum 33 = .ok (.ifCond .eq 8, 3) := by decide +kernel
theorem dX10_isSum_36 : decode cX10_isSum 36 = .ok (.bipush 34, 2) := by decide +kernel
theorem dX10_isSum_38 : decode cX10_isSum 38 = .ok (.goto 5, 3) := by decide +kernel
theorem dX10_isSum_41 : decode cX10_isSum 41 = .ok (.bipush 35, 2) := by decide +kernel
theorem dX10_isSum_43 : decode cX10_isSum 43 = .ok (.istore_n 1, 1) := by decide +kernel
theorem dX10_isSum_44 : decode cX10_isSum 44 = .ok (.aload_n 0, 1) := by decide +kernel
theorem dX10_isSum_45 : decode cX10_isSum 45 = .ok (.dup, 1) := by decide +kernel
theorem dX10_isSum_46 : decode cX10_isSum 46 = .ok (.getfield 236, 3) := by decide +kernel
theorem dX10_isSum_49 : decode cX10_isSum 49 = .ok (.iconst 1, 1) := by decide +kernel
theorem dX10_isSum_50 : decode cX10_isSum 50 = .ok (.iadd, 1) := by decide +kernel
theorem dX10_isSum_51 : decode cX10_isSum 51 = .ok (.putfield 236, 3) := by decide +kernel
theorem dX10_isSum_54 : decode cX10_isSum 54 = .ok (.aload_n 0, 1) := by decide +kernel
theorem dX10_isSum_55 : decode cX10_isSum 55 = .ok (.invokevirtual 311, 3) := by decide +kernel
theorem dX10_isSum_58 : decode cX10_isSum 58 = .ok (.ifCond .ne 5, 3) := by decide +kernel
theorem dX10_isSum_61 : decode cX10_isSum 61 = .ok (.iconst 0, 1) := by decide +kernel
theorem dX10_isSum_62 : decode cX10_isSum 62 = .ok (.ireturn, 1) := by decide +kernel
theorem dX10_isSum_63 : decode cX10_isSum 63 = .ok (.aload_n 0, 1) := by decide +kernel
theorem dX10_isSum_64 : decode cX10_isSum 64 = .ok (.iload_n 1, 1) := by decide +kernel
theorem dX10_isSum_65 : decode cX10_isSum 65 = .ok (.invokevirtual 275, 3) := by decide +kernel
theorem dX10_isSum_68 : decode cX10_isSum 68 = .ok (.goto (-59), 3) := by decide +kernel
theorem dX10_isSum_71 : decode cX10_isSum 71 = .ok (.iconst 1, 1) := by decide +kernel
theorem dX10_isSum_72 : decode cX10_isSum 72 = .ok (.ireturn, 1) := by decide +kernel
theorem dX10_isProduct_0 : decode cX10_isProduct 0 = .ok (.aload_n 0, 1) := by decide +kernel
theorem dX10_isProduct_1 : decode cX10_isProduct 1 = .ok (.invokevirtual 314, 3) := by decide +kernel
theorem dX10_isProduct_4 : decode cX10_isProduct 4 = .ok (.ifCond .ne 5, 3) := by decide +kernel
theorem dX10_isProduct_7 : decode cX10_isProduct 7 = .ok (.iconst 0, 1) := by decide +kernel
theorem dX10_isProduct_8 : decode cX10_isProduct 8 = .ok (.ireturn, 1) := by decide +kernel
theorem dX10_isProduct_9 : decode cX10_isProduct 9 = .ok (.aload_n 0, 1) := by decide +kernel
theorem dX10_isProduct_10 : decode cX10_isProduct 10 = .ok (.bipush 42, 2) := by decide +kernel
theorem dX10_isProduct_12 : decode cX10_isProduct 12 = .ok (.invokevirtual 296, 3) := by decide +kernel
theorem dX10_isProduct_15 : decode cX10_isProduct 15 = .ok (.ifCond .ne 12, 3) := by decide +kernel
theorem dX10_isProduct_18 : decode cX10_isProduct 18 = .ok (.aload_n 0, 1) := by decide +kernel
theorem dX10_isProduct_19 : decode cX10_isProduct 19 = .ok (.bipush 47, 2) := by decide +kernel
theorem dX10_isProduct_21 : decode cX10_isProduct 21 = .ok (.invokevirtual 296, 3) := by decide +kernel
theorem dX10_isProduct_24 : decode cX10_isProduct 24 = .ok (.ifCond .eq 47, 3) := by decide +kernel
theorem dX10_isProduct_27 : decode cX10_isProduct 27 = .ok (.aload_n 0, 1) := by decide +kernel
theorem dX10_isProduct_28 : decode cX10_isProduct 28 = .ok (.bipush 42, 2) := by decide +kernel
theorem dX10_isProduct_30 : decode cX10_isProduct 30 = .ok (.invokevirtual 296, 3) := by decide +kernel
theorem dX10_isProduct_33 : decode cX10_isProduct 33 = .ok (.ifCond .eq 8, 3) := by decide +kernel
theorem dX10_isProduct_36 : decode cX10_isProduct 36 = .ok (.bipush 36, 2) := by decide +kernel
theorem dX10_isProduct_38 : decode cX10_isProduct 38 = .ok (.goto 5, 3) := by decide +kernel
theorem dX10_isProduct_41 : decode cX10_isProduct 41 = .ok (.bipush 37, 2) := by decide +kernel
theorem dX10_isProduct_43 : decode cX10_isProduct 43 = .ok (.istore_n 1, 1) := by decide +kernel
theorem dX10_isProduct_44 : decode cX10_isProduct 44 = .ok (.aload_n 0, 1) := by decide +kernel
theorem dX10_isProduct_45 : decode cX10_isProduct 45 = .ok (.dup, 1) := by decide +kernel
theorem dX10_isProduct_46 : decode cX10_isProduct 46 = .ok (.getfield 236, 3) := by decide +kernel
theorem dX10_isProduct_49 : decode cX10_isProduct 49 = .ok (.iconst 1, 1) := by decide +kernel
theorem dX10_isProduct_50 : decode cX10_isProduct 50 = .ok (.iadd, 1) := by decide +kernel
theorem dX10_isProduct_51 : decode cX10_isProduct 51 = .ok (.putfield 236, 3) := by decide +kernel
theorem dX10_isProduct_54 : decode cX10_isProduct 54 = .ok (.aload_n 0, 1) := by decide +kernel
theorem dX10_isProduct_55 : decode cX10_isProduct 55 = .ok (.invokevirtual 314, 3) := by decide +kernel
theorem dX10_isProduct_58 : decode cX10_isProduct 58 = .ok (.ifCond .ne 5, 3) := by decide +kernel
theorem dX10_isProduct_61 : decode cX10_isProduct 61 = .ok (.iconst 0, 1) := by decide +kernel
theorem dX10_isProduct_62 : decode cX10_isProduct 62 = .ok (.ireturn, 1) := by decide +kernel
theorem dX10_isProduct_63 : decode cX10_isProduct 63 = .ok (.aload_n 0, 1) := by decide +kernel
theorem dX10_isProduct_64 : decode cX10_isProduct 64 = .ok (.iload_n 1, 1) := by decide +kernel
theorem dX10_isProduct_65 : decode cX10_isProduct 65 = .ok (.invokevirtual 275, 3) := by decide +kernel
theorem dX10_isProduct_68 : decode cX10_isProduct 68 = .ok (.goto (-59), 3) := by decide +kernel
theorem dX10_isProduct_71 : decode cX10_isProduct 71 = .ok (.iconst 1, 1) := by decide +kernel
theorem dX10_isProduct_72 : decode cX10_isProduct 72 = .ok (.ireturn, 1) := by decide +kernel
theorem dX10_isInside_0 : decode cX10_isInside 0 = .ok (.aload_n 0, 1) := by decide +kernel
theorem dX10_isInside_1 : decode cX10_isInside 1 = .ok (.bipush 40, 2) := by decide +kernel
theorem dX10_isInside_3 : decode cX10_isInside 3 = .ok (.invokevirtual 296, 3) := by decide +kernel
theorem dX10_isInside_6 : decode cX10_isInside 6 = .ok (.ifCond .eq 37, 3) := by decide +kernel
theorem dX10_isInside_9 : decode cX10_isInside 9 = .ok (.aload_n 0, 1) := by decide +kernel
theorem dX10_isInside_10 : decode cX10_isInside 10 = .ok (.invokevirtual 293, 3) := by decide +kernel
theorem dX10_isInside_13 : decode cX10_isInside 13 = .ok (.ifCond .eq 30, 3) := by decide +kernel
theorem dX10_isInside_16 : decode cX10_isInside 16 = .ok (.aload_n 0, 1) := by decide +kernel
theorem dX10_isInside_17 : decode cX10_isInside 17 = .ok (.invokevirtual 305, 3) := by decide +kernel
theorem dX10_isInside_20 : decode cX10_isInside 20 = .ok (.ifCond .eq 23, 3) := by decide +kernel
theorem dX10_isInside_23 : decode cX10_isInside 23 = .ok (.iload_n 2, 1) := by decide +kernel
theorem dX10_isInside_24 : decode cX10_isInside 24 = .ok (.ifCond .eq 21, 3) := by decide +kernel
theorem dX10_isInside_27 : decode cX10_isInside 27 = .ok (.aload_n 0, 1) := by decide +kernel
theorem dX10_isInside_28 : decode cX10_isInside 28 = .ok (.bipush 44, 2) := by decide +kernel
theorem dX10_isInside_30 : decode cX10_isInside 30 = .ok (.invokevirtual 256, 3) := by decide +kernel
theorem dX10_isInside_33 : decode cX10_isInside 33 = .ok (.ifCond .eq 10, 3) := by decide +kernel
theorem dX10_isInside_36 : decode cX10_isInside 36 = .ok (.aload_n 0, 1) := by decide +kernel
theorem dX10_isInside_37 : decode cX10_isInside 37 = .ok (.invokevirtual 305, 3) := by decide +kernel
theorem dX10_isInside_40 : decode cX10_isInside 40 = .ok (.ifCond .ne 5, 3) := by decide +kernel
theorem dX10_isInside_43 : decode cX10_isInside 43 = .ok (.iconst 0, 1) := by decide +kernel
theorem dX10_isInside_44 : decode cX10_isInside 44 = .ok (.ireturn, 1) := by decide +kernel
theorem dX10_isInside_45 : decode cX10_isInside 45 = .ok (.aload_n 0, 1) := by decide +kernel
theorem dX10_isInside_46 : decode cX10_isInside 46 = .ok (.dup, 1) := by decide +kernel
theorem dX10_isInside_47 : decode cX10_isInside 47 = .ok (.getfield 281, 3) := by decide +kernel
theorem dX10_isInside_50 : decode cX10_isInside 50 = .ok (.iconst 1, 1) := by decide +kernel
theorem dX10_isInside_51 : decode cX10_isInside 51 = .ok (.isub, 1) := by decide +kernel
theorem dX10_isInside_52 : decode cX10_isInside 52 = .ok (.putfield 281, 3) := by decide +kernel
theorem dX10_isInside_55 : decode cX10_isInside 55 = .ok (.iload_n 2, 1) := by decide +kernel
theorem dX10_isInside_56 : decode cX10_isInside 56 = .ok (.ifCond .eq 8, 3) := by decide +kernel
theorem dX10_isInside_59 : decode cX10_isInside 59 = .ok (.aload_n 0, 1) := by decide +kernel
theorem dX10_isInside_60 : decode cX10_isInside 60 = .ok (.iload_n 1, 1) := by decide +kernel
theorem dX10_isInside_61 : decode cX10_isInside 61 = .ok (.invokevirtual 275, 3) := by decide +kernel
theorem dX10_isInside_64 : decode cX10_isInside 64 = .ok (.aload_n 0, 1) := by decide +kernel
theorem dX10_isInside_65 : decode cX10_isInside 65 = .ok (.bipush 41, 2) := by decide +kernel
theorem dX10_isInside_67 : decode cX10_isInside 67 = .ok (.invokevirtual 256, 3) := by decide +kernel
theorem dX10_isInside_70 : decode cX10_isInside 70 = .ok (.ireturn, 1) := by decide +kernel
theorem dX10_isValue_0 : decode cX10_isValue 0 = .ok (.aload_n 0, 1) := by decide +kernel
theorem dX10_isValue_1 : decode cX10_isValue 1 = .ok (.getfield 17, 3) := by decide +kernel
theorem dX10_isValue_4 : decode cX10_isValue 4 = .ok (.aload_n 0, 1) := by decide +kernel
theorem dX10_isValue_5 : decode cX10_isValue 5 = .ok (.getfield 236, 3) := by decide +kernel
theorem dX10_isValue_8 : decode cX10_isValue 8 = .ok (.iaload, 1) := by decide +kernel
theorem dX10_isValue_9 : decode cX10_isValue 9 = .ok (.istore_n 1, 1) := by decide +kernel
theorem dX10_isValue_10 : decode cX10_isValue 10 = .ok (.aload_n 0, 1) := by decide +kernel
theorem dX10_isValue_11 : decode cX10_isValue 11 = .ok (.bipush 41, 2) := by decide +kernel
theorem dX10_isValue_13 : decode cX10_isValue 13 = .ok (.invokevirtual 239, 3) := by decide +kernel
theorem dX10_isValue_16 : decode cX10_isValue 16 = .ok (.ifCond .eq 33, 3) := by decide +kernel
theorem dX10_isValue_19 : decode cX10_isValue 19 = .ok (.aload_n 0, 1) := by decide +kernel
theorem dX10_isValue_20 : decode cX10_isValue 20 = .ok (.bipush 32, 2) := by decide +kernel
theorem dX10_isValue_22 : decode cX10_isValue 22 = .ok (.invokevirtual 275, 3) := by decide +kernel
theorem dX10_isValue_25 : decode cX10_isValue 25 = .ok (.aload_n 0, 1) := by decide +kernel
theorem dX10_isValue_26 : decode cX10_isValue 26 = .ok (.aload_n 0, 1) := by decide +kernel
theorem dX10_isValue_27 : decode cX10_isValue 27 = .ok (.aload_n 0, 1) := by decide +kernel
theorem dX10_isValue_28 : decode cX10_isValue 28 = .ok (.getfield 236, 3) := by decide +kernel
theorem dX10_isValue_31 : decode cX10_isValue 31 = .ok (.invokevirtual 317, 3) := by decide +kernel
theorem dX10_isValue_34 : decode cX10_isValue 34 = .ok (.invokevirtual 275, 3) := by decide +kernel
theorem dX10_isValue_37 : decode cX10_isValue 37 = .ok (.aload_n 0, 1) := by decide +kernel
theorem dX10_isValue_38 : decode cX10_isValue 38 = .ok (.dup, 1) := by decide +kernel
theorem dX10_isValue_39 : decode cX10_isValue 39 = .ok (.getfield 236, 3) := by decide +kernel
theorem dX10_isValue_42 : decode cX10_isValue 42 = .ok (.iconst 1, 1) := by decide +kernel
theorem dX10_isValue_43 : decode cX10_isValue 43 = .ok (.iadd, 1) := by decide +kernel
theorem dX10_isValue_44 : decode cX10_isValue 44 = .ok (.putfield 236, 3) := by decide +kernel
theorem dX10_isValue_47 : decode cX10_isValue 47 = .ok (.iconst 1, 1) := by decide +kernel
theorem dX10_isValue_48 : decode cX10_isValue 48 = .ok (.ireturn, 1) := by decide +kernel
theorem dX10_isValue_49 : decode cX10_isValue 49 = .ok (.aload_n 0, 1) := by decide +kernel
theorem dX10_isValue_50 : decode cX10_isValue 50 = .ok (.bipush 15, 2) := by decide +kernel
theorem dX10_isValue_52 : decode cX10_isValue 52 = .ok (.invokevirtual 239, 3) := by decide +kernel
theorem dX10_isValue_55 : decode cX10_isValue 55 = .ok (.ifCond .ne 30, 3) := by decide +kernel
theorem dX10_isValue_58 : decode cX10_isValue 58 = .ok (.aload_n 0, 1) := by decide +kernel
theorem dX10_isValue_59 : decode cX10_isValue 59 = .ok (.bipush 16, 2) := by decide +kernel
theorem dX10_isValue_61 : decode cX10_isValue 61 = .ok (.invokevirtual 239, 3) := by decide +kernel
theorem dX10_isValue_64 : decode cX10_isValue 64 = .ok (.ifCond .ne 21, 3) := by decide +kernel
theorem dX10_isValue_67 : decode cX10_isValue 67 = .ok (.aload_n 0, 1) := by decide +kernel
theorem dX10_isValue_68 : decode cX10_isValue 68 = .ok (.bipush 17, 2) := by decide +kernel
theorem dX10_isValue_70 : decode cX10_isValue 70 = .ok (.invokevirtual 239, 3) := by decide +kernel
theorem dX10_isValue_73 : decode cX10_isValue 73 = .ok (.ifCond .ne 12, 3) := by decide +kernel
theorem dX10_isValue_76 : decode cX10_isValue 76 = .ok (.aload_n 0, 1) := by decide +kernel
theorem dX10_isValue_77 : decode cX10_isValue 77 = .ok (.bipush 18, 2) := by decide +kernel
theorem dX10_isValue_79 : decode cX10_isValue 79 = .ok (.invokevirtual 239, 3) := by decide +kernel
theorem dX10_isValue_82 : decode cX10_isValue 82 = .ok (.ifCond .eq 20, 3) := by decide +kernel
theorem dX10_isValue_85 : decode cX10_isValue 85 = .ok (.aload_n 0, 1) := by decide +kernel
theorem dX10_isValue_86 : decode cX10_isValue 86 = .ok (.iload_n 1, 1) := by decide +kernel
theorem dX10_isValue_87 : decode cX10_isValue 87 = .ok (.invokevirtual 275, 3) := by decide +kernel
theorem dX10_isValue_90 : decode cX10_isValue 90 = .ok (.aload_n 0, 1) := by decide +kernel
theorem dX10_isValue_91 : decode cX10_isValue 91 = .ok (.dup, 1) := by decide +kernel
theorem dX10_isValue_92 : decode cX10_isValue 92 = .ok (.getfield 236, 3) := by decide +kernel
theorem dX10_isValue_95 : decode cX10_isValue 95 = .ok (.iconst 1, 1) := by decide +kernel
theorem dX10_isValue_96 : decode cX10_isValue 96 = .ok (.iadd, 1) := by decide +kernel
theorem dX10_isValue_97 : decode cX10_isValue 97 = .ok (.putfield 236, 3) := by decide +kernel
theorem dX10_isValue_100 : decode cX10_isValue 100 = .ok (.iconst 1, 1) := by decide +kernel
theorem dX10_isValue_101 : decode cX10_isValue 101 = .ok (.ireturn, 1) := by decide +kernel
theorem dX10_isValue_102 : decode cX10_isValue 102 = .ok (.aload_n 0, 1) := by decide +kernel
theorem dX10_isValue_103 : decode cX10_isValue 103 = .ok (.bipush 45, 2) := by decide +kernel
theorem dX10_isValue_105 : decode cX10_isValue 105 = .ok (.invokevirtual 296, 3) := by decide +kernel
theorem dX10_isValue_108 : decode cX10_isValue 108 = .ok (.ifCond .eq 37, 3) := by decide +kernel
theorem dX10_isValue_111 : decode cX10_isValue 111 = .ok (.aload_n 0, 1) := by decide +kernel
theorem dX10_isValue_112 : decode cX10_isValue 112 = .ok (.invokevirtual 293, 3) := by decide +kernel
theorem dX10_isValue_115 : decode cX10_isValue 115 = .ok (.ifCond .eq 10, 3) := by decide +kernel
theorem dX10_isValue_118 : decode cX10_isValue 118 = .ok (.aload_n 0, 1) := by decide +kernel
theorem dX10_isValue_119 : decode cX10_isValue 119 = .ok (.invokevirtual 314, 3) := by decide +kernel
theorem dX10_isValue_122 : decode cX10_isValue 122 = .ok (.ifCond .ne 5, 3) := by decide +kernel
theorem dX10_isValue_125 : decode cX10_isValue 125 = .ok (.iconst 0, 1) := by decide +kernel
theorem dX10_isValue_126 : decode cX10_isValue 126 = .ok (.ireturn, 1) := by decide +kernel
theorem dX10_isValue_127 : decode cX10_isValue 127 = .ok (.aload_n 0, 1) := by decide +kernel
theorem dX10_isValue_128 : decode cX10_isValue 128 = .ok (.dup, 1) := by decide +kernel
theorem dX10_isValue_129 : decode cX10_isValue 129 = .ok (.getfield 281, 3) := by decide +kernel
theorem dX10_isValue_132 : decode cX10_isValue 132 = .ok (.iconst 1, 1) := by decide +kernel
theorem dX10_isValue_133 : decode cX10_isValue 133 = .ok (.isub, 1) := by decide +kernel
theorem dX10_isValue_134 : decode cX10_isValue 134 = .ok (.putfield 281, 3) := by decide +kernel
theorem dX10_isValue_137 : decode cX10_isValue 137 = .ok (.aload_n 0, 1) := by decide +kernel
theorem dX10_isValue_138 : decode cX10_isValue 138 = .ok (.bipush 33, 2) := by decide +kernel
theorem dX10_isValue_140 : decode cX10_isValue 140 = .ok (.invokevirtual 275, 3) := by decide +kernel
theorem dX10_isValue_143 : decode cX10_isValue 143 = .ok (.iconst 1, 1) := by decide +kernel
theorem dX10_isValue_144 : decode cX10_isValue 144 = .ok (.ireturn, 1) := by decide +kernel
theorem dX10_isValue_145 : decode cX10_isValue 145 = .ok (.aload_n 0, 1) := by decide +kernel
theorem dX10_isValue_146 : decode cX10_isValue 146 = .ok (.iload_n 1, 1) := by decide +kernel
theorem dX10_isValue_147 : decode cX10_isValue 147 = .ok (.aload_n 0, 1) := by decide +kernel
theorem dX10_isValue_148 : decode cX10_isValue 148 = .ok (.bipush 25, 2) := by decide +kernel
theorem dX10_isValue_150 : decode cX10_isValue 150 = .ok (.invokevirtual 242, 3) := by decide +kernel
theorem dX10_isValue_153 : decode cX10_isValue 153 = .ok (.ifCond .ne 12, 3) := by decide +kernel
theorem dX10_isValue_156 : decode cX10_isValue 156 = .ok (.aload_n 0, 1) := by decide +kernel
theorem dX10_isValue_157 : decode cX10_isValue 157 = .ok (.bipush 26, 2) := by decide +kernel
theorem dX10_isValue_159 : decode cX10_isValue 159 = .ok (.invokevirtual 242, 3) := by decide +kernel
theorem dX10_isValue_162 : decode cX10_isValue 162 = .ok (.ifCond .eq 7, 3) := by decide +kernel
theorem dX10_isValue_165 : decode cX10_isValue 165 = .ok (.iconst 1, 1) := by decide +kernel
theorem dX10_isValue_166 : decode cX10_isValue 166 = .ok (.goto 4, 3) := by decide +kernel
theorem dX10_isValue_169 : decode cX10_isValue 169 = .ok (.iconst 0, 1) := by decide +kernel
theorem dX10_isValue_170 : decode cX10_isValue 170 = .ok (.invokevirtual 320, 3) := by decide +kernel
theorem dX10_isValue_173 : decode cX10_isValue 173 = .ok (.ireturn, 1) := by decide +kernel
theorem dX10_numberAt_0 : decode cX10_numberAt 0 = .ok (.iconst 0, 1) := by decide +kernel
theorem dX10_numberAt_1 : decode cX10_numberAt 1 = .ok (.istore_n 2, 1) := by decide +kernel
theorem dX10_numberAt_2 : decode cX10_numberAt 2 = .ok (.iconst 0, 1) := by decide +kernel
theorem dX10_numberAt_3 : decode cX10_numberAt 3 = .ok (.istore_n 3, 1) := by decide +kernel
theorem dX10_numberAt_4 : decode cX10_numberAt 4 = .ok (.iload_n 3, 1) := by decide +kernel
theorem dX10_numberAt_5 : decode cX10_numberAt 5 = .ok (.aload_n 0, 1) := by decide +kernel
theorem dX10_numberAt_6 : decode cX10_numberAt 6 = .ok (.getfield 23, 3) := by decide +kernel
theorem dX10_numberAt_9 : decode cX10_numberAt 9 = .ok (.iload_n 1, 1) := by decide +kernel
theorem dX10_numberAt_10 : decode cX10_numberAt 10 = .ok (.iaload, 1) := by decide +kernel
theorem dX10_numberAt_11 : decode cX10_numberAt 11 = .ok (.if_icmp .ge 31, 3) := by decide +kernel
theorem dX10_numberAt_14 : decode cX10_numberAt 14 = .ok (.bipush 10, 2) := by decide +kernel
theorem dX10_numberAt_16 : decode cX10_numberAt 16 = .ok (.iload_n 2, 1) := by decide +kernel
theorem dX10_numberAt_17 : decode cX10_numberAt 17 = .ok (.imul, 1) := by decide +kernel
theorem dX10_numberAt_18 : decode cX10_numberAt 18 = .ok (.aload_n 0, 1) := by decide +kernel
theorem dX10_numberAt_19 : decode cX10_numberAt 19 = .ok (.getfield 9, 3) := by decide +kernel
theorem dX10_numberAt_22 : decode cX10_numberAt 22 = .ok (.aload_n 0, 1) := by decide +kernel
theorem dX10_numberAt_23 : decode cX10_numberAt 23 = .ok (.getfield 20, 3) := by decide +kernel
theorem dX10_numberAt_26 : decode cX10_numberAt 26 = .ok (.iload_n 1, 1) := by decide +kernel
theorem dX10_numberAt_27 : decode cX10_numberAt 27 = .ok (.iaload, 1) := by decide +kernel
theorem dX10_numberAt_28 : decode cX10_numberAt 28 = .ok (.iload_n 3, 1) := by decide +kernel
theorem dX10_numberAt_29 : decode cX10_numberAt 29 = .ok (.iadd, 1) := by decide +kernel
theorem dX10_numberAt_30 : decode cX10_numberAt 30 = .ok (.iaload, 1) := by decide +kernel
theorem dX10_numberAt_31 : decode cX10_numberAt 31 = .ok (.iadd, 1) := by decide +kernel
theorem dX10_numberAt_32 : decode cX10_numberAt 32 = .ok (.bipush 48, 2) := by decide +kernel
theorem dX10_numberAt_34 : decode cX10_numberAt 34 = .ok (.isub, 1) := by decide +kernel
theorem dX10_numberAt_35 : decode cX10_numberAt 35 = .ok (.istore_n 2, 1) := by decide +kernel
theorem dX10_numberAt_36 : decode cX10_numberAt 36 = .ok (.iinc 3 1, 3) := by decide +kernel
theorem dX10_numberAt_39 : decode cX10_numberAt 39 = .ok (.goto (-35), 3) := by decide +kernel
theorem dX10_numberAt_42 : decode cX10_numberAt 42 = .ok (.iload_n 2, 1) := by decide +kernel
theorem dX10_numberAt_43 : decode cX10_numberAt 43 = .ok (.ireturn, 1) := by decide +kernel
theorem dX10_isSame_0 : decode cX10_isSame 0 = .ok (.aload_n 0, 1) := by decide +kernel
theorem dX10_isSame_1 : decode cX10_isSame 1 = .ok (.getfield 23, 3) := by decide +kernel
theorem dX10_isSame_4 : decode cX10_isSame 4 = .ok (.iload_n 1, 1) := by decide +kernel
theorem dX10_isSame_5 : decode cX10_isSame 5 = .ok (.iaload, 1) := by decide +kernel
theorem dX10_isSame_6 : decode cX10_isSame 6 = .ok (.aload_n 0, 1) := by decide +kernel
theorem dX10_isSame_7 : decode cX10_isSame 7 = .ok (.getfield 23, 3) := by decide +kernel
theorem dX10_isSame_10 : decode cX10_isSame 10 = .ok (.iload_n 2, 1) := by decide +kernel
theorem dX10_isSame_11 : decode cX10_isSame 11 = .ok (.iaload, 1) := by decide +kernel
theorem dX10_isSame_12 : decode cX10_isSame 12 = .ok (.if_icmp .eq 5, 3) := by decide +kernel
theorem dX10_isSame_15 : decode cX10_isSame 15 = .ok (.iconst 0, 1) := by decide +kernel
theorem dX10_isSame_16 : decode cX10_isSame 16 = .ok (.ireturn, 1) := by decide +kernel
theorem dX10_isSame_17 : decode cX10_isSame 17 = .ok (.iconst 0, 1) := by decide +kernel
theorem dX10_isSame_18 : decode cX10_isSame 18 = .ok (.istore_n 3, 1) := by decide +kernel
theorem dX10_isSame_19 : decode cX10_isSame 19 = .ok (.iload_n 3, 1) := by decide +kernel
theorem dX10_isSame_20 : decode cX10_isSame 20 = .ok (.aload_n 0, 1) := by decide +kernel
theorem dX10_isSame_21 : decode cX10_isSame 21 = .ok (.getfield 23, 3) := by decide +kernel
theorem dX10_isSame_24 : decode cX10_isSame 24 = .ok (.iload_n 1, 1) := by decide +kernel
theorem dX10_isSame_25 : decode cX10_isSame 25 = .ok (.iaload, 1) := by decide +kernel
theorem dX10_isSame_26 : decode cX10_isSame 26 = .ok (.if_icmp .ge 40, 3) := by decide +kernel
theorem dX10_isSame_29 : decode cX10_isSame 29 = .ok (.aload_n 0, 1) := by decide +kernel
theorem dX10_isSame_30 : decode cX10_isSame 30 = .ok (.getfield 9, 3) := by decide +kernel
theorem dX10_isSame_33 : decode cX10_isSame 33 = .ok (.aload_n 0, 1) := by decide +kernel
theorem dX10_isSame_34 : decode cX10_isSame 34 = .ok (.getfield 20, 3) := by decide +kernel
theorem dX10_isSame_37 : decode cX10_isSame 37 = .ok (.iload_n 1, 1) := by decide +kernel
theorem dX10_isSame_38 : decode cX10_isSame 38 = .ok (.iaload, 1) := by decide +kernel
theorem dX10_isSame_39 : decode cX10_isSame 39 = .ok (.iload_n 3, 1) := by decide +kernel
theorem dX10_isSame_40 : decode cX10_isSame 40 = .ok (.iadd, 1) := by decide +kernel
theorem dX10_isSame_41 : decode cX10_isSame 41 = .ok (.iaload, 1) := by decide +kernel
theorem dX10_isSame_42 : decode cX10_isSame 42 = .ok (.aload_n 0, 1) := by decide +kernel
theorem dX10_isSame_43 : decode cX10_isSame 43 = .ok (.getfield 9, 3) := by decide +kernel
theorem dX10_isSame_46 : decode cX10_isSame 46 = .ok (.aload_n 0, 1) := by decide +kernel
theorem dX10_isSame_47 : decode cX10_isSame 47 = .ok (.getfield 20, 3) := by decide +kernel
theorem dX10_isSame_50 : decode cX10_isSame 50 = .ok (.iload_n 2, 1) := by decide +kernel
theorem dX10_isSame_51 : decode cX10_isSame 51 = .ok (.iaload, 1) := by decide +kernel
theorem dX10_isSame_52 : decode cX10_isSame 52 = .ok (.iload_n 3, 1) := by decide +kernel
theorem dX10_isSame_53 : decode cX10_isSame 53 = .ok (.iadd, 1) := by decide +kernel
theorem dX10_isSame_54 : decode cX10_isSame 54 = .ok (.iaload, 1) := by decide +kernel
theorem dX10_isSame_55 : decode cX10_isSame 55 = .ok (.if_icmp .eq 5, 3) := by decide +kernel
theorem dX10_isSame_58 : decode cX10_isSame 58 = .ok (.iconst 0, 1) := by decide +kernel
theorem dX10_isSame_59 : decode cX10_isSame 59 = .ok (.ireturn, 1) := by decide +kernel
theorem dX10_isSame_60 : decode cX10_isSame 60 = .ok (.iinc 3 1, 3) := by decide +kernel
theorem dX10_isSame_63 : decode cX10_isSame 63 = .ok (.goto (-44), 3) := by decide +kernel
theorem dX10_isSame_66 : decode cX10_isSame 66 = .ok (.iconst 1, 1) := by decide +kernel
theorem dX10_isSame_67 : decode cX10_isSame 67 = .ok (.ireturn, 1) := by decide +kernel
theorem dX10_told_0 : decode cX10_told 0 = .ok (.iconst 0, 1) := by decide +kernel
theorem dX10_told_1 : decode cX10_told 1 = .ok (.istore_n 3, 1) := by decide +kernel
theorem dX10_told_2 : decode cX10_told 2 = .ok (.iconst 0, 1) := by decide +kernel
theorem dX10_told_3 : decode cX10_told 3 = .ok (.istore 4, 2) := by decide +kernel
theorem dX10_told_5 : decode cX10_told 5 = .ok (.iload 4, 2) := by decide +kernel
theorem dX10_told_7 : decode cX10_told 7 = .ok (.iload_n 1, 1) := by decide +kernel
theorem dX10_told_8 : decode cX10_told 8 = .ok (.if_icmp .ge 38, 3) := by decide +kernel
theorem dX10_told_11 : decode cX10_told 11 = .ok (.aload_n 0, 1) := by decide +kernel
theorem dX10_told_12 : decode cX10_told 12 = .ok (.getfield 26, 3) := by decide +kernel
theorem dX10_told_15 : decode cX10_told 15 = .ok (.iload 4, 2) := by decide +kernel
theorem dX10_told_17 : decode cX10_told 17 = .ok (.iaload, 1) := by decide +kernel
theorem dX10_told_18 : decode cX10_told 18 = .ok (.iload_n 2, 1) := by decide +kernel
theorem dX10_told_19 : decode cX10_told 19 = .ok (.if_icmp .eq 6, 3) := by decide +kernel
theorem dX10_told_22 : decode cX10_told 22 = .ok (.goto 18, 3) := by decide +kernel
theorem dX10_told_25 : decode cX10_told 25 = .ok (.aload_n 0, 1) := by decide +kernel
theorem dX10_told_26 : decode cX10_told 26 = .ok (.iload 4, 2) := by decide +kernel
theorem dX10_told_28 : decode cX10_told 28 = .ok (.iload_n 1, 1) := by decide +kernel
theorem dX10_told_29 : decode cX10_told 29 = .ok (.invokevirtual 324, 3) := by decide +kernel
theorem dX10_told_32 : decode cX10_told 32 = .ok (.ifCond .eq 5, 3) := by decide +kernel
theorem dX10_told_35 : decode cX10_told 35 = .ok (.iload_n 3, 1) := by decide +kernel
theorem dX10_told_36 : decode cX10_told 36 = .ok (.ireturn, 1) := by decide +kernel
theorem dX10_told_37 : decode cX10_told 37 = .ok (.iinc 3 1, 3) := by decide +kernel
theorem dX10_told_40 : decode cX10_told 40 = .ok (.iinc 4 1, 3) := by decide +kernel
theorem dX10_told_43 : decode cX10_told 43 = .ok (.goto (-38), 3) := by decide +kernel
theorem dX10_told_46 : decode cX10_told 46 = .ok (.iconst (-1), 1) := by decide +kernel
theorem dX10_told_47 : decode cX10_told 47 = .ok (.ireturn, 1) := by decide +kernel
theorem dX10_look__0 : decode cX10_look_ 0 = .ok (.aload_n 0, 1) := by decide +kernel
theorem dX10_look__1 : decode cX10_look_ 1 = .ok (.getfield 29, 3) := by decide +kernel
theorem dX10_look__4 : decode cX10_look_ 4 = .ok (.iload_n 1, 1) := by decide +kernel
theorem dX10_look__5 : decode cX10_look_ 5 = .ok (.aload_n 0, 1) := by decide +kernel
theorem dX10_look__6 : decode cX10_look_ 6 = .ok (.iload_n 1, 1) := by decide +kernel
theorem dX10_look__7 : decode cX10_look_ 7 = .ok (.iload_n 2, 1) := by decide +kernel
theorem dX10_look__8 : decode cX10_look_ 8 = .ok (.invokevirtual 327, 3) := by decide +kernel
theorem dX10_look__11 : decode cX10_look_ 11 = .ok (.iastore, 1) := by decide +kernel
theorem dX10_look__12 : decode cX10_look_ 12 = .ok (.aload_n 0, 1) := by decide +kernel
theorem dX10_look__13 : decode cX10_look_ 13 = .ok (.getfield 29, 3) := by decide +kernel
theorem dX10_look__16 : decode cX10_look_ 16 = .ok (.iload_n 1, 1) := by decide +kernel
theorem dX10_look__17 : decode cX10_look_ 17 = .ok (.iaload, 1) := by decide +kernel
theorem dX10_look__18 : decode cX10_look_ 18 = .ok (.iconst (-1), 1) := by decide +kernel
theorem dX10_look__19 : decode cX10_look_ 19 = .ok (.if_icmp .ne 7, 3) := by decide +kernel
theorem dX10_look__22 : decode cX10_look_ 22 = .ok (.iconst 3, 1) := by decide +kernel
theorem dX10_look__23 : decode cX10_look_ 23 = .ok (.goto 4, 3) := by decide +kernel
theorem dX10_look__26 : decode cX10_look_ 26 = .ok (.iconst 0, 1) := by decide +kernel
theorem dX10_look__27 : decode cX10_look_ 27 = .ok (.ireturn, 1) := by decide +kernel
theorem dX10_isNew_0 : decode cX10_isNew 0 = .ok (.aload_n 0, 1) := by decide +kernel
theorem dX10_isNew_1 : decode cX10_isNew 1 = .ok (.iload_n 1, 1) := by decide +kernel
theorem dX10_isNew_2 : decode cX10_isNew 2 = .ok (.aload_n 0, 1) := by decide +kernel
theorem dX10_isNew_3 : decode cX10_isNew 3 = .ok (.getfield 26, 3) := by decide +kernel
theorem dX10_isNew_6 : decode cX10_isNew 6 = .ok (.iload_n 1, 1) := by decide +kernel
theorem dX10_isNew_7 : decode cX10_isNew 7 = .ok (.iaload, 1) := by decide +kernel
theorem dX10_isNew_8 : decode cX10_isNew 8 = .ok (.invokevirtual 327, 3) := by decide +kernel
theorem dX10_isNew_11 : decode cX10_isNew 11 = .ok (.iconst (-1), 1) := by decide +kernel
theorem dX10_isNew_12 : decode cX10_isNew 12 = .ok (.if_icmp .eq 7, 3) := by decide +kernel
theorem dX10_isNew_15 : decode cX10_isNew 15 = .ok (.iconst 2, 1) := by decide +kernel
theorem dX10_isNew_16 : decode cX10_isNew 16 = .ok (.goto 13, 3) := by decide +kernel
theorem dX10_isNew_19 : decode cX10_isNew 19 = .ok (.iload_n 2, 1) := by decide +kernel
theorem dX10_isNew_20 : decode cX10_isNew 20 = .ok (.iload_n 3, 1) := by decide +kernel
theorem dX10_isNew_21 : decode cX10_isNew 21 = .ok (.if_icmp .ne 7, 3) := by decide +kernel
theorem dX10_isNew_24 : decode cX10_isNew 24 = .ok (.iconst 4, 1) := by decide +kernel
theorem dX10_isNew_25 : decode cX10_isNew 25 = .ok (.goto 4, 3) := by decide +kernel
theorem dX10_isNew_28 : decode cX10_isNew 28 = .ok (.iconst 0, 1) := by decide +kernel
theorem dX10_isNew_29 : decode cX10_isNew 29 = .ok (.ireturn, 1) := by decide +kernel
theorem dX10_newFamily_0 : decode cX10_newFamily 0 = .ok (.aload_n 0, 1) := by decide +kernel
theorem dX10_newFamily_1 : decode cX10_newFamily 1 = .ok (.iload_n 1, 1) := by decide +kernel
theorem dX10_newFamily_2 : decode cX10_newFamily 2 = .ok (.aload_n 0, 1) := by decide +kernel
theorem dX10_newFamily_3 : decode cX10_newFamily 3 = .ok (.getfield 39, 3) := by decide +kernel
theorem dX10_newFamily_6 : decode cX10_newFamily 6 = .ok (.getfield 88, 3) := by decide +kernel
theorem dX10_newFamily_9 : decode cX10_newFamily 9 = .ok (.bipush 10, 2) := by decide +kernel
theorem dX10_newFamily_11 : decode cX10_newFamily 11 = .ok (.invokevirtual 329, 3) := by decide +kernel
theorem dX10_newFamily_14 : decode cX10_newFamily 14 = .ok (.istore_n 2, 1) := by decide +kernel
theorem dX10_newFamily_15 : decode cX10_newFamily 15 = .ok (.aload_n 0, 1) := by decide +kernel
theorem dX10_newFamily_16 : decode cX10_newFamily 16 = .ok (.getfield 39, 3) := by decide +kernel
theorem dX10_newFamily_19 : decode cX10_newFamily 19 = .ok (.dup, 1) := by decide +kernel
theorem dX10_newFamily_20 : decode cX10_newFamily 20 = .ok (.getfield 88, 3) := by decide +kernel
theorem dX10_newFamily_23 : decode cX10_newFamily 23 = .ok (.iload_n 2, 1) := by decide +kernel
theorem dX10_newFamily_24 : decode cX10_newFamily 24 = .ok (.ifCond .ne 7, 3) := by decide +kernel
theorem dX10_newFamily_27 : decode cX10_newFamily 27 = .ok (.iconst 1, 1) := by decide +kernel
theorem dX10_newFamily_28 : decode cX10_newFamily 28 = .ok (.goto 4, 3) := by decide +kernel
theorem dX10_newFamily_31 : decode cX10_newFamily 31 = .ok (.iconst 0, 1) := by decide +kernel
theorem dX10_newFamily_32 : decode cX10_newFamily 32 = .ok (.iadd, 1) := by decide +kernel
theorem dX10_newFamily_33 : decode cX10_newFamily 33 = .ok (.putfield 88, 3) := by decide +kernel
theorem dX10_newFamily_36 : decode cX10_newFamily 36 = .ok (.iload_n 2, 1) := by decide +kernel
theorem dX10_newFamily_37 : decode cX10_newFamily 37 = .ok (.ireturn, 1) := by decide +kernel
theorem dX10_newStatement_0 : decode cX10_newStatement 0 = .ok (.aload_n 0, 1) := by decide +kernel
theorem dX10_newStatement_1 : decode cX10_newStatement 1 = .ok (.iload_n 1, 1) := by decide +kernel
theorem dX10_newStatement_2 : decode cX10_newStatement 2 = .ok (.aload_n 0, 1) := by decide +kernel
theorem dX10_newStatement_3 : decode cX10_newStatement 3 = .ok (.getfield 39, 3) := by decide +kernel
theorem dX10_newStatement_6 : decode cX10_newStatement 6 = .ok (.getfield 63, 3) := by decide +kernel
theorem dX10_newStatement_9 : decode cX10_newStatement 9 = .ok (.bipush 20, 2) := by decide +kernel
theorem dX10_newStatement_11 : decode cX10_newStatement 11 = .ok (.invokevirtual 329, 3) := by decide +kernel
theorem dX10_newStatement_14 : decode cX10_newStatement 14 = .ok (.istore_n 2, 1) := by decide +kernel
theorem dX10_newStatement_15 : decode cX10_newStatement 15 = .ok (.iload_n 2, 1) := by decide +kernel
theorem dX10_newStatement_16 : decode cX10_newStatement 16 = .ok (.ifCond .le 5, 3) := by decide +kernel
theorem dX10_newStatement_19 : decode cX10_newStatement 19 = .ok (.iload_n 2, 1) := by decide +kernel
theorem dX10_newStatement_20 : decode cX10_newStatement 20 = .ok (.ireturn, 1) := by decide +kernel
theorem dX10_newStatement_21 : decode cX10_newStatement 21 = .ok (.aload_n 0, 1) := by decide +kernel
theorem dX10_newStatement_22 : decode cX10_newStatement 22 = .ok (.getfield 39, 3) := by decide +kernel
theorem dX10_newStatement_25 : decode cX10_newStatement 25 = .ok (.getfield 332, 3) := by decide +kernel
theorem dX10_newStatement_28 : decode cX10_newStatement 28 = .ok (.aload_n 0, 1) := by decide +kernel
theorem dX10_newStatement_29 : decode cX10_newStatement 29 = .ok (.getfield 39, 3) := by decide +kernel
theorem dX10_newStatement_32 : decode cX10_newStatement 32 = .ok (.getfield 63, 3) := by decide +kernel
theorem dX10_newStatement_35 : decode cX10_newStatement 35 = .ok (.aload_n 0, 1) := by decide +kernel
theorem dX10_newStatement_36 : decode cX10_newStatement 36 = .ok (.getfield 17, 3) := by decide +kernel
theorem dX10_newStatement_39 : decode cX10_newStatement 39 = .ok (.iload_n 1, 1) := by decide +kernel
theorem dX10_newStatement_40 : decode cX10_newStatement 40 = .ok (.iconst 1, 1) := by decide +kernel
theorem dX10_newStatement_41 : decode cX10_newStatement 41 = .ok (.isub, 1) := by decide +kernel
theorem dX10_newStatement_42 : decode cX10_newStatement 42 = .ok (.iaload, 1) := by decide +kernel
theorem dX10_newStatement_43 : decode cX10_newStatement 43 = .ok (.iastore, 1) := by decide +kernel
theorem dX10_newStatement_44 : decode cX10_newStatement 44 = .ok (.aload_n 0, 1) := by decide +kernel
theorem dX10_newStatement_45 : decode cX10_newStatement 45 = .ok (.getfield 39, 3) := by decide +kernel
theorem dX10_newStatement_48 : decode cX10_newStatement 48 = .ok (.dup, 1) := by decide +kernel
theorem dX10_newStatement_49 : decode cX10_newStatement 49 = .ok (.getfield 63, 3) := by decide +kernel
theorem dX10_newStatement_52 : decode cX10_newStatement 52 = .ok (.iconst 1, 1) := by decide +kernel
theorem dX10_newStatement_53 : decode cX10_newStatement 53 = .ok (.iadd, 1) := by decide +kernel
theorem dX10_newStatement_54 : decode cX10_newStatement 54 = .ok (.putfield 63, 3) := by decide +kernel
theorem dX10_newStatement_57 : decode cX10_newStatement 57 = .ok (.iconst 0, 1) := by decide +kernel
theorem dX10_newStatement_58 : decode cX10_newStatement 58 = .ok (.ireturn, 1) := by decide +kernel
theorem dX10_claim_0 : decode cX10_claim 0 = .ok (.aload_n 0, 1) := by decide +kernel
theorem dX10_claim_1 : decode cX10_claim 1 = .ok (.iload_n 1, 1) := by decide +kernel
theorem dX10_claim_2 : decode cX10_claim 2 = .ok (.iconst 1, 1) := by decide +kernel
theorem dX10_claim_3 : decode cX10_claim 3 = .ok (.invokevirtual 335, 3) := by decide +kernel
theorem dX10_claim_6 : decode cX10_claim 6 = .ok (.istore_n 2, 1) := by decide +kernel
theorem dX10_claim_7 : decode cX10_claim 7 = .ok (.iconst 2, 1) := by decide +kernel
theorem dX10_claim_8 : decode cX10_claim 8 = .ok (.aload_n 0, 1) := by decide +kernel
theorem dX10_claim_9 : decode cX10_claim 9 = .ok (.getfield 29, 3) := by decide +kernel
theorem dX10_claim_12 : decode cX10_claim 12 = .ok (.iload_n 1, 1) := by decide +kernel
theorem dX10_claim_13 : decode cX10_claim 13 = .ok (.iaload, 1) := by decide +kernel
theorem dX10_claim_14 : decode cX10_claim 14 = .ok (.imul, 1) := by decide +kernel
theorem dX10_claim_15 : decode cX10_claim 15 = .ok (.aload_n 0, 1) := by decide +kernel
theorem dX10_claim_16 : decode cX10_claim 16 = .ok (.getfield 17, 3) := by decide +kernel
theorem dX10_claim_19 : decode cX10_claim 19 = .ok (.iload_n 1, 1) := by decide +kernel
theorem dX10_claim_20 : decode cX10_claim 20 = .ok (.iconst 1, 1) := by decide +kernel
theorem dX10_claim_21 : decode cX10_claim 21 = .ok (.iadd, 1) := by decide +kernel
theorem dX10_claim_22 : decode cX10_claim 22 = .ok (.iaload, 1) := by decide +kernel
theorem dX10_claim_23 : decode cX10_claim 23 = .ok (.bipush 11, 2) := by decide +kernel
theorem dX10_claim_25 : decode cX10_claim 25 = .ok (.if_icmp .ne 7, 3) := by decide +kernel
theorem dX10_claim_28 : decode cX10_claim 28 = .ok (.iconst 1, 1) := by decide +kernel
theorem dX10_claim_29 : decode cX10_claim 29 = .ok (.goto 4, 3) := by decide +kernel
theorem dX10_claim_32 : decode cX10_claim 32 = .ok (.iconst 0, 1) := by decide +kernel
theorem dX10_claim_33 : decode cX10_claim 33 = .ok (.iadd, 1) := by decide +kernel
theorem dX10_claim_34 : decode cX10_claim 34 = .ok (.istore_n 3, 1) := by decide +kernel
theorem dX10_claim_35 : decode cX10_claim 35 = .ok (.aload_n 0, 1) := by decide +kernel
theorem dX10_claim_36 : decode cX10_claim 36 = .ok (.getfield 39, 3) := by decide +kernel
theorem dX10_claim_39 : decode cX10_claim 39 = .ok (.getfield 63, 3) := by decide +kernel
theorem dX10_claim_42 : decode cX10_claim 42 = .ok (.iconst 1, 1) := by decide +kernel
theorem dX10_claim_43 : decode cX10_claim 43 = .ok (.isub, 1) := by decide +kernel
theorem dX10_claim_44 : decode cX10_claim 44 = .ok (.istore 4, 2) := by decide +kernel
theorem dX10_claim_46 : decode cX10_claim 46 = .ok (.aload_n 0, 1) := by decide +kernel
theorem dX10_claim_47 : decode cX10_claim 47 = .ok (.getfield 26, 3) := by decide +kernel
theorem dX10_claim_50 : decode cX10_claim 50 = .ok (.iload_n 1, 1) := by decide +kernel
theorem dX10_claim_51 : decode cX10_claim 51 = .ok (.iaload, 1) := by decide +kernel
theorem dX10_claim_52 : decode cX10_claim 52 = .ok (.iconst 3, 1) := by decide +kernel
theorem dX10_claim_53 : decode cX10_claim 53 = .ok (.if_icmp .ne 14, 3) := by decide +kernel
theorem dX10_claim_56 : decode cX10_claim 56 = .ok (.aload_n 0, 1) := by decide +kernel
theorem dX10_claim_57 : decode cX10_claim 57 = .ok (.getfield 39, 3) := by decide +kernel
theorem dX10_claim_60 : decode cX10_claim 60 = .ok (.getfield 337, 3) := by decide +kernel
theorem dX10_claim_63 : decode cX10_claim 63 = .ok (.iload 4, 2) := by decide +kernel
theorem dX10_claim_65 : decode cX10_claim 65 = .ok (.iload_n 3, 1) := by decide +kernel
theorem dX10_claim_66 : decode cX10_claim 66 = .ok (.iastore, 1) := by decide +kernel
theorem dX10_claim_67 : decode cX10_claim 67 = .ok (.aload_n 0, 1) := by decide +kernel
theorem dX10_claim_68 : decode cX10_claim 68 = .ok (.getfield 26, 3) := by decide +kernel
theorem dX10_claim_71 : decode cX10_claim 71 = .ok (.iload_n 1, 1) := by decide +kernel
theorem dX10_claim_72 : decode cX10_claim 72 = .ok (.iaload, 1) := by decide +kernel
theorem dX10_claim_73 : decode cX10_claim 73 = .ok (.iconst 4, 1) := by decide +kernel
theorem dX10_claim_74 : decode cX10_claim 74 = .ok (.if_icmp .eq 18, 3) := by decide +kernel
theorem dX10_claim_77 : decode cX10_claim 77 = .ok (.aload_n 0, 1) := by decide +kernel
theorem dX10_claim_78 : decode cX10_claim 78 = .ok (.getfield 39, 3) := by decide +kernel
theorem dX10_claim_81 : decode cX10_claim 81 = .ok (.getfield 332, 3) := by decide +kernel
theorem dX10_claim_84 : decode cX10_claim 84 = .ok (.iload 4, 2) := by decide +kernel
theorem dX10_claim_86 : decode cX10_claim 86 = .ok (.iaload, 1) := by decide +kernel
theorem dX10_claim_87 : decode cX10_claim 87 = .ok (.bipush 9, 2) := by decide +kernel
theorem dX10_claim_89 : decode cX10_claim 89 = .ok (.if_icmp .ne 14, 3) := by decide +kernel
theorem dX10_claim_92 : decode cX10_claim 92 = .ok (.aload_n 0, 1) := by decide +kernel
theorem dX10_claim_93 : decode cX10_claim 93 = .ok (.getfield 39, 3) := by decide +kernel
theorem dX10_claim_96 : decode cX10_claim 96 = .ok (.getfield 340, 3) := by decide +kernel
theorem dX10_claim_99 : decode cX10_claim 99 = .ok (.iload 4, 2) := by decide +kernel
theorem dX10_claim_101 : decode cX10_claim 101 = .ok (.iload_n 3, 1) := by decide +kernel
theorem dX10_claim_102 : decode cX10_claim 102 = .ok (.iastore, 1) := by decide +kernel
theorem dX10_claim_103 : decode cX10_claim 103 = .ok (.iload_n 2, 1) := by decide +kernel
theorem dX10_claim_104 : decode cX10_claim 104 = .ok (.ireturn, 1) := by decide +kernel
theorem dX10_newOrder_0 : decode cX10_newOrder 0 = .ok (.aload_n 0, 1) := by decide +kernel
theorem dX10_newOrder_1 : decode cX10_newOrder 1 = .ok (.getfield 39, 3) := by decide +kernel
theorem dX10_newOrder_4 : decode cX10_newOrder 4 = .ok (.getfield 150, 3) := by decide +kernel
theorem dX10_newOrder_7 : decode cX10_newOrder 7 = .ok (.bipush 16, 2) := by decide +kernel
theorem dX10_newOrder_9 : decode cX10_newOrder 9 = .ok (.if_icmp .ne 5, 3) := by decide +kernel
theorem dX10_newOrder_12 : decode cX10_newOrder 12 = .ok (.iconst 4, 1) := by decide +kernel
theorem dX10_newOrder_13 : decode cX10_newOrder 13 = .ok (.ireturn, 1) := by decide +kernel
theorem dX10_newOrder_14 : decode cX10_newOrder 14 = .ok (.aload_n 0, 1) := by decide +kernel
theorem dX10_newOrder_15 : decode cX10_newOrder 15 = .ok (.getfield 39, 3) := by decide +kernel
theorem dX10_newOrder_18 : decode cX10_newOrder 18 = .ok (.getfield 137, 3) := by decide +kernel
theorem dX10_newOrder_21 : decode cX10_newOrder 21 = .ok (.aload_n 0, 1) := by decide +kernel
theorem dX10_newOrder_22 : decode cX10_newOrder 22 = .ok (.getfield 39, 3) := by decide +kernel
theorem dX10_newOrder_25 : decode cX10_newOrder 25 = .ok (.getfield 150, 3) := by decide +kernel
theorem dX10_newOrder_28 : decode cX10_newOrder 28 = .ok (.iload_n 1, 1) := by decide +kernel
theorem dX10_newOrder_29 : decode cX10_newOrder 29 = .ok (.iastore, 1) := by decide +kernel
theorem dX10_newOrder_30 : decode cX10_newOrder 30 = .ok (.aload_n 0, 1) := by decide +kernel
theorem dX10_newOrder_31 : decode cX10_newOrder 31 = .ok (.getfield 39, 3) := by decide +kernel
theorem dX10_newOrder_34 : decode cX10_newOrder 34 = .ok (.dup, 1) := by decide +kernel
theorem dX10_newOrder_35 : decode cX10_newOrder 35 = .ok (.getfield 150, 3) := by decide +kernel
theorem dX10_newOrder_38 : decode cX10_newOrder 38 = .ok (.iconst 1, 1) := by decide +kernel
theorem dX10_newOrder_39 : decode cX10_newOrder 39 = .ok (.iadd, 1) := by decide +kernel
theorem dX10_newOrder_40 : decode cX10_newOrder 40 = .ok (.putfield 150, 3) := by decide +kernel
theorem dX10_newOrder_43 : decode cX10_newOrder 43 = .ok (.iconst 0, 1) := by decide +kernel
theorem dX10_newOrder_44 : decode cX10_newOrder 44 = .ok (.ireturn, 1) := by decide +kernel
theorem dX10_ofOrder_0 : decode cX10_ofOrder 0 = .ok (.aload_n 0, 1) := by decide +kernel
theorem dX10_ofOrder_1 : decode cX10_ofOrder 1 = .ok (.iload_n 1, 1) := by decide +kernel
theorem dX10_ofOrder_2 : decode cX10_ofOrder 2 = .ok (.iconst 2, 1) := by decide +kernel
theorem dX10_ofOrder_3 : decode cX10_ofOrder 3 = .ok (.invokevirtual 335, 3) := by decide +kernel
theorem dX10_ofOrder_6 : decode cX10_ofOrder 6 = .ok (.istore_n 2, 1) := by decide +kernel
theorem dX10_ofOrder_7 : decode cX10_ofOrder 7 = .ok (.aload_n 0, 1) := by decide +kernel
theorem dX10_ofOrder_8 : decode cX10_ofOrder 8 = .ok (.getfield 39, 3) := by decide +kernel
theorem dX10_ofOrder_11 : decode cX10_ofOrder 11 = .ok (.getfield 134, 3) := by decide +kernel
theorem dX10_ofOrder_14 : decode cX10_ofOrder 14 = .ok (.aload_n 0, 1) := by decide +kernel
theorem dX10_ofOrder_15 : decode cX10_ofOrder 15 = .ok (.getfield 39, 3) := by decide +kernel
theorem dX10_ofOrder_18 : decode cX10_ofOrder 18 = .ok (.getfield 150, 3) := by decide +kernel
theorem dX10_ofOrder_21 : decode cX10_ofOrder 21 = .ok (.iconst 1, 1) := by decide +kernel
theorem dX10_ofOrder_22 : decode cX10_ofOrder 22 = .ok (.isub, 1) := by decide +kernel
theorem dX10_ofOrder_23 : decode cX10_ofOrder 23 = .ok (.aload_n 0, 1) := by decide +kernel
theorem dX10_ofOrder_24 : decode cX10_ofOrder 24 = .ok (.getfield 29, 3) := by decide +kernel
theorem dX10_ofOrder_27 : decode cX10_ofOrder 27 = .ok (.iload_n 1, 1) := by decide +kernel
theorem dX10_ofOrder_28 : decode cX10_ofOrder 28 = .ok (.iaload, 1) := by decide +kernel
theorem dX10_ofOrder_29 : decode cX10_ofOrder 29 = .ok (.iastore, 1) := by decide +kernel
theorem dX10_ofOrder_30 : decode cX10_ofOrder 30 = .ok (.iload_n 2, 1) := by decide +kernel
theorem dX10_ofOrder_31 : decode cX10_ofOrder 31 = .ok (.ireturn, 1) := by decide +kernel
theorem dX10_errorOf_0 : decode cX10_errorOf 0 = .ok (.aload_n 0, 1) := by decide +kernel
theorem dX10_errorOf_1 : decode cX10_errorOf 1 = .ok (.getfield 26, 3) := by decide +kernel
theorem dX10_errorOf_4 : decode cX10_errorOf 4 = .ok (.iload_n 1, 1) := by decide +kernel
theorem dX10_errorOf_5 : decode cX10_errorOf 5 = .ok (.iaload, 1) := by decide +kernel
theorem dX10_errorOf_6 : decode cX10_errorOf 6 = .ok (.tableswitch 95 1 8 #[46, 52, 58, 58, 64, 75, 81, 88], 46) := by decide +kernel
theorem dX10_errorOf_52 : decode cX10_errorOf 52 = .ok (.aload_n 0, 1) := by decide +kernel
theorem dX10_errorOf_53 : decode cX10_errorOf 53 = .ok (.iload_n 1, 1) := by decide +kernel
theorem dX10_errorOf_54 : decode cX10_errorOf 54 = .ok (.invokevirtual 343, 3) := by decide +kernel
theorem dX10_errorOf_57 : decode cX10_errorOf 57 = .ok (.ireturn, 1) := by decide +kernel
theorem dX10_errorOf_58 : decode cX10_errorOf 58 = .ok (.aload_n 0, 1) := by decide +kernel
theorem dX10_errorOf_59 : decode cX10_errorOf 59 = .ok (.iload_n 1, 1) := by decide +kernel
theorem dX10_errorOf_60 : decode cX10_errorOf 60 = .ok (.invokevirtual 346, 3) := by decide +kernel
theorem dX10_errorOf_63 : decode cX10_errorOf 63 = .ok (.ireturn, 1) := by decide +kernel
theorem dX10_errorOf_64 : decode cX10_errorOf 64 = .ok (.aload_n 0, 1) := by decide +kernel
theorem dX10_errorOf_65 : decode cX10_errorOf 65 = .ok (.iload_n 1, 1) := by decide +kernel
theorem dX10_errorOf_66 : decode cX10_errorOf 66 = .ok (.invokevirtual 349, 3) := by decide +kernel
theorem dX10_errorOf_69 : decode cX10_errorOf 69 = .ok (.ireturn, 1) := by decide +kernel
theorem dX10_errorOf_70 : decode cX10_errorOf 70 = .ok (.aload_n 0, 1) := by decide +kernel
theorem dX10_errorOf_71 : decode cX10_errorOf 71 = .ok (.aload_n 0, 1) := by decide +kernel
theorem dX10_errorOf_72 : decode cX10_errorOf 72 = .ok (.getfield 17, 3) := by decide +kernel
theorem dX10_errorOf_75 : decode cX10_errorOf 75 = .ok (.iload_n 1, 1) := by decide +kernel
theorem dX10_errorOf_76 : decode cX10_errorOf 76 = .ok (.iaload, 1) := by decide +kernel
theorem dX10_errorOf_77 : decode cX10_errorOf 77 = .ok (.invokevirtual 352, 3) := by decide +kernel
theorem dX10_errorOf_80 : decode cX10_errorOf 80 = .ok (.ireturn, 1) := by decide +kernel
theorem dX10_errorOf_81 : decode cX10_errorOf 81 = .ok (.aload_n 0, 1) := by decide +kernel
theorem dX10_errorOf_82 : decode cX10_errorOf 82 = .ok (.iload_n 1, 1) := by decide +kernel
theorem dX10_errorOf_83 : decode cX10_errorOf 83 = .ok (.invokevirtual 355, 3) := by decide +kernel
theorem dX10_errorOf_86 : decode cX10_errorOf 86 = .ok (.ireturn, 1) := by decide +kernel
theorem dX10_errorOf_87 : decode cX10_errorOf 87 = .ok (.aload_n 0, 1) := by decide +kernel
theorem dX10_errorOf_88 : decode cX10_errorOf 88 = .ok (.iload_n 1, 1) := by decide +kernel
theorem dX10_errorOf_89 : decode cX10_errorOf 89 = .ok (.iconst 1, 1) := by decide +kernel
theorem dX10_errorOf_90 : decode cX10_errorOf 90 = .ok (.invokevirtual 335, 3) := by decide +kernel
theorem dX10_errorOf_93 : decode cX10_errorOf 93 = .ok (.ireturn, 1) := by decide +kernel
theorem dX10_errorOf_94 : decode cX10_errorOf 94 = .ok (.aload_n 0, 1) := by decide +kernel
theorem dX10_errorOf_95 : decode cX10_errorOf 95 = .ok (.iload_n 1, 1) := by decide +kernel
theorem dX10_errorOf_96 : decode cX10_errorOf 96 = .ok (.iconst 2, 1) := by decide +kernel
theorem dX10_errorOf_97 : decode cX10_errorOf 97 = .ok (.invokevirtual 335, 3) := by decide +kernel
theorem dX10_errorOf_100 : decode cX10_errorOf 100 = .ok (.ireturn, 1) := by decide +kernel
theorem dX10_errorOf_101 : decode cX10_errorOf 101 = .ok (.iconst 0, 1) := by decide +kernel
theorem dX10_errorOf_102 : decode cX10_errorOf 102 = .ok (.ireturn, 1) := by decide +kernel
theorem dX10_read_0 : decode cX10_read 0 = .ok (.aload_n 0, 1) := by decide +kernel
theorem dX10_read_1 : decode cX10_read 1 = .ok (.new 32, 3) := by decide +kernel
theorem dX10_read_4 : decode cX10_read 4 = .ok (.dup, 1) := by decide +kernel
theorem dX10_read_5 : decode cX10_read 5 = .ok (.invokespecial 34, 3) := by decide +kernel
theorem dX10_read_8 : decode cX10_read 8 = .ok (.putfield 39, 3) := by decide +kernel
theorem dX10_read_11 : decode cX10_read 11 = .ok (.aload_n 0, 1) := by decide +kernel
theorem dX10_read_12 : decode cX10_read 12 = .ok (.invokevirtual 358, 3) := by decide +kernel
theorem dX10_read_15 : decode cX10_read 15 = .ok (.aload_n 0, 1) := by decide +kernel
theorem dX10_read_16 : decode cX10_read 16 = .ok (.iconst 0, 1) := by decide +kernel
theorem dX10_read_17 : decode cX10_read 17 = .ok (.putfield 236, 3) := by decide +kernel
theorem dX10_read_20 : decode cX10_read 20 = .ok (.aload_n 0, 1) := by decide +kernel
theorem dX10_read_21 : decode cX10_read 21 = .ok (.iconst 0, 1) := by decide +kernel
theorem dX10_read_22 : decode cX10_read 22 = .ok (.putfield 281, 3) := by decide +kernel
theorem dX10_read_25 : decode cX10_read 25 = .ok (.aload_n 0, 1) := by decide +kernel
theorem dX10_read_26 : decode cX10_read 26 = .ok (.invokevirtual 361, 3) := by decide +kernel
theorem dX10_read_29 : decode cX10_read 29 = .ok (.ifCond .ne 18, 3) := by decide +kernel
theorem dX10_read_32 : decode cX10_read 32 = .ok (.aload_n 0, 1) := by decide +kernel
theorem dX10_read_33 : decode cX10_read 33 = .ok (.aload_n 0, 1) := by decide +kernel
theorem dX10_read_34 : decode cX10_read 34 = .ok (.getfield 20, 3) := by decide +kernel
theorem dX10_read_37 : decode cX10_read 37 = .ok (.aload_n 0, 1) := by decide +kernel
theorem dX10_read_38 : decode cX10_read 38 = .ok (.getfield 236, 3) := by decide +kernel
theorem dX10_read_41 : decode cX10_read 41 = .ok (.iaload, 1) := by decide +kernel
theorem dX10_read_42 : decode cX10_read 42 = .ok (.putfield 13, 3) := by decide +kernel
theorem dX10_read_45 : decode cX10_read 45 = .ok (.iconst 1, 1) := by decide +kernel
theorem dX10_read_46 : decode cX10_read 46 = .ok (.ireturn, 1) := by decide +kernel
theorem dX10_read_47 : decode cX10_read 47 = .ok (.aload_n 0, 1) := by decide +kernel
theorem dX10_read_48 : decode cX10_read 48 = .ok (.getfield 236, 3) := by decide +kernel
theorem dX10_read_51 : decode cX10_read 51 = .ok (.istore_n 1, 1) := by decide +kernel
theorem dX10_read_52 : decode cX10_read 52 = .ok (.aload_n 0, 1) := by decide +kernel
theorem dX10_read_53 : decode cX10_read 53 = .ok (.iconst 0, 1) := by decide +kernel
theorem dX10_read_54 : decode cX10_read 54 = .ok (.putfield 236, 3) := by decide +kernel
theorem dX10_read_57 : decode cX10_read 57 = .ok (.aload_n 0, 1) := by decide +kernel
theorem dX10_read_58 : decode cX10_read 58 = .ok (.getfield 236, 3) := by decide +kernel
theorem dX10_read_61 : decode cX10_read 61 = .ok (.iload_n 1, 1) := by decide +kernel
theorem dX10_read_62 : decode cX10_read 62 = .ok (.if_icmp .ge 47, 3) := by decide +kernel
theorem dX10_read_65 : decode cX10_read 65 = .ok (.aload_n 0, 1) := by decide +kernel
theorem dX10_read_66 : decode cX10_read 66 = .ok (.aload_n 0, 1) := by decide +kernel
theorem dX10_read_67 : decode cX10_read 67 = .ok (.getfield 236, 3) := by decide +kernel
theorem dX10_read_70 : decode cX10_read 70 = .ok (.invokevirtual 364, 3) := by decide +kernel
theorem dX10_read_73 : decode cX10_read 73 = .ok (.istore_n 2, 1) := by decide +kernel
theorem dX10_read_74 : decode cX10_read 74 = .ok (.iload_n 2, 1) := by decide +kernel
theorem dX10_read_75 : decode cX10_read 75 = .ok (.ifCond .ne 6, 3) := by decide +kernel
theorem dX10_read_78 : decode cX10_read 78 = .ok (.goto 18, 3) := by decide +kernel
theorem dX10_read_81 : decode cX10_read 81 = .ok (.aload_n 0, 1) := by decide +kernel
theorem dX10_read_82 : decode cX10_read 82 = .ok (.aload_n 0, 1) := by decide +kernel
theorem dX10_read_83 : decode cX10_read 83 = .ok (.getfield 20, 3) := by decide +kernel
theorem dX10_read_86 : decode cX10_read 86 = .ok (.aload_n 0, 1) := by decide +kernel
theorem dX10_read_87 : decode cX10_read 87 = .ok (.getfield 236, 3) := by decide +kernel
theorem dX10_read_90 : decode cX10_read 90 = .ok (.iaload, 1) := by decide +kernel
theorem dX10_read_91 : decode cX10_read 91 = .ok (.putfield 13, 3) := by decide +kernel
theorem dX10_read_94 : decode cX10_read 94 = .ok (.iload_n 2, 1) := by decide +kernel
theorem dX10_read_95 : decode cX10_read 95 = .ok (.ireturn, 1) := by decide +kernel
theorem dX10_read_96 : decode cX10_read 96 = .ok (.aload_n 0, 1) := by decide +kernel
theorem dX10_read_97 : decode cX10_read 97 = .ok (.dup, 1) := by decide +kernel
theorem dX10_read_98 : decode cX10_read 98 = .ok (.getfield 236, 3) := by decide +kernel
theorem dX10_read_101 : decode cX10_read 101 = .ok (.iconst 1, 1) := by decide +kernel
theorem dX10_read_102 : decode cX10_read 102 = .ok (.iadd, 1) := by decide +kernel
theorem dX10_read_103 : decode cX10_read 103 = .ok (.putfield 236, 3) := by decide +kernel
theorem dX10_read_106 : decode cX10_read 106 = .ok (.goto (-49), 3) := by decide +kernel
theorem dX10_read_109 : decode cX10_read 109 = .ok (.iconst 0, 1) := by decide +kernel
theorem dX10_read_110 : decode cX10_read 110 = .ok (.istore_n 2, 1) := by decide +kernel
theorem dX10_read_111 : decode cX10_read 111 = .ok (.iload_n 2, 1) := by decide +kernel
theorem dX10_read_112 : decode cX10_read 112 = .ok (.aload_n 0, 1) := by decide +kernel
theorem dX10_read_113 : decode cX10_read 113 = .ok (.getfield 39, 3) := by decide +kernel
theorem dX10_read_116 : decode cX10_read 116 = .ok (.getfield 287, 3) := by decide +kernel
theorem dX10_read_119 : decode cX10_read 119 = .ok (.if_icmp .ge 48, 3) := by decide +kernel
theorem dX10_read_122 : decode cX10_read 122 = .ok (.aload_n 0, 1) := by decide +kernel
theorem dX10_read_123 : decode cX10_read 123 = .ok (.getfield 39, 3) := by decide +kernel
theorem dX10_read_126 : decode cX10_read 126 = .ok (.getfield 166, 3) := by decide +kernel
theorem dX10_read_129 : decode cX10_read 129 = .ok (.aload_n 0, 1) := by decide +kernel
theorem dX10_read_130 : decode cX10_read 130 = .ok (.getfield 39, 3) := by decide +kernel
theorem dX10_read_133 : decode cX10_read 133 = .ok (.getfield 284, 3) := by decide +kernel
theorem dX10_read_136 : decode cX10_read 136 = .ok (.iload_n 2, 1) := by decide +kernel
theorem dX10_read_137 : decode cX10_read 137 = .ok (.iaload, 1) := by decide +kernel
theorem dX10_read_138 : decode cX10_read 138 = .ok (.aload_n 0, 1) := by decide +kernel
theorem dX10_read_139 : decode cX10_read 139 = .ok (.getfield 29, 3) := by decide +kernel
theorem dX10_read_142 : decode cX10_read 142 = .ok (.aload_n 0, 1) := by decide +kernel
theorem dX10_read_143 : decode cX10_read 143 = .ok (.getfield 39, 3) := by decide +kernel
theorem dX10_read_146 : decode cX10_read 146 = .ok (.getfield 166, 3) := by decide +kernel
theorem dX10_read_149 : decode cX10_read 149 = .ok (.aload_n 0, 1) := by decide +kernel
theorem dX10_read_150 : decode cX10_read 150 = .ok (.getfield 39, 3) := by decide +kernel
theorem dX10_read_153 : decode cX10_read 153 = .ok (.getfield 284, 3) := by decide +kernel
theorem dX10_read_156 : decode cX10_read 156 = .ok (.iload_n 2, 1) := by decide +kernel
theorem dX10_read_157 : decode cX10_read 157 = .ok (.iaload, 1) := by decide +kernel
theorem dX10_read_158 : decode cX10_read 158 = .ok (.iaload, 1) := by decide +kernel
theorem dX10_read_159 : decode cX10_read 159 = .ok (.iaload, 1) := by decide +kernel
theorem dX10_read_160 : decode cX10_read 160 = .ok (.iastore, 1) := by decide +kernel
theorem dX10_read_161 : decode cX10_read 161 = .ok (.iinc 2 1, 3) := by decide +kernel
theorem dX10_read_164 : decode cX10_read 164 = .ok (.goto (-53), 3) := by decide +kernel
theorem dX10_read_167 : decode cX10_read 167 = .ok (.iconst 0, 1) := by decide +kernel
theorem dX10_read_168 : decode cX10_read 168 = .ok (.ireturn, 1) := by decide +kernel
theorem dX10_feed_0 : decode cX10_feed 0 = .ok (.aload_n 0, 1) := by decide +kernel
theorem dX10_feed_1 : decode cX10_feed 1 = .ok (.iconst 0, 1) := by decide +kernel
theorem dX10_feed_2 : decode cX10_feed 2 = .ok (.putfield 60, 3) := by decide +kernel
theorem dX10_feed_5 : decode cX10_feed 5 = .ok (.aload_n 0, 1) := by decide +kernel
theorem dX10_feed_6 : decode cX10_feed 6 = .ok (.getfield 200, 3) := by decide +kernel
theorem dX10_feed_9 : decode cX10_feed 9 = .ok (.sipush 1980, 3) := by decide +kernel
theorem dX10_feed_12 : decode cX10_feed 12 = .ok (.if_icmp .le 9, 3) := by decide +kernel
theorem dX10_feed_15 : decode cX10_feed 15 = .ok (.aload_n 0, 1) := by decide +kernel
theorem dX10_feed_16 : decode cX10_feed 16 = .ok (.iconst 1, 1) := by decide +kernel
theorem dX10_feed_17 : decode cX10_feed 17 = .ok (.invokevirtual 367, 3) := by decide +kernel
theorem dX10_feed_20 : decode cX10_feed 20 = .ok (.ireturn, 1) := by decide +kernel
theorem dX10_feed_21 : decode cX10_feed 21 = .ok (.iconst 5, 1) := by decide +kernel
theorem dX10_feed_22 : decode cX10_feed 22 = .ok (.newarray .int, 2) := by decide +kernel
theorem dX10_feed_24 : decode cX10_feed 24 = .ok (.dup, 1) := by decide +kernel
theorem dX10_feed_25 : decode cX10_feed 25 = .ok (.iconst 0, 1) := by decide +kernel
theorem dX10_feed_26 : decode cX10_feed 26 = .ok (.iload_n 1, 1) := by decide +kernel
theorem dX10_feed_27 : decode cX10_feed 27 = .ok (.iastore, 1) := by decide +kernel
theorem dX10_feed_28 : decode cX10_feed 28 = .ok (.dup, 1) := by decide +kernel
theorem dX10_feed_29 : decode cX10_feed 29 = .ok (.iconst 1, 1) := by decide +kernel
theorem dX10_feed_30 : decode cX10_feed 30 = .ok (.iload_n 2, 1) := by decide +kernel
theorem dX10_feed_31 : decode cX10_feed 31 = .ok (.iastore, 1) := by decide +kernel
theorem dX10_feed_32 : decode cX10_feed 32 = .ok (.dup, 1) := by decide +kernel
theorem dX10_feed_33 : decode cX10_feed 33 = .ok (.iconst 2, 1) := by decide +kernel
theorem dX10_feed_34 : decode cX10_feed 34 = .ok (.iload_n 3, 1) := by decide +kernel
theorem dX10_feed_35 : decode cX10_feed 35 = .ok (.iastore, 1) := by decide +kernel
theorem dX10_feed_36 : decode cX10_feed 36 = .ok (.dup, 1) := by decide +kernel
theorem dX10_feed_37 : decode cX10_feed 37 = .ok (.iconst 3, 1) := by decide +kernel
theorem dX10_feed_38 : decode cX10_feed 38 = .ok (.iload 4, 2) := by decide +kernel
theorem dX10_feed_40 : decode cX10_feed 40 = .ok (.iastore, 1) := by decide +kernel
theorem dX10_feed_41 : decode cX10_feed 41 = .ok (.dup, 1) := by decide +kernel
theorem dX10_feed_42 : decode cX10_feed 42 = .ok (.iconst 4, 1) := by decide +kernel
theorem dX10_feed_43 : decode cX10_feed 43 = .ok (.iload 5, 2) := by decide +kernel
theorem dX10_feed_45 : decode cX10_feed 45 = .ok (.iastore, 1) := by decide +kernel
theorem dX10_feed_46 : decode cX10_feed 46 = .ok (.astore 6, 2) := by decide +kernel
theorem dX10_feed_48 : decode cX10_feed 48 = .ok (.iconst 0, 1) := by decide +kernel
theorem dX10_feed_49 : decode cX10_feed 49 = .ok (.istore 7, 2) := by decide +kernel
theorem dX10_feed_51 : decode cX10_feed 51 = .ok (.iload 7, 2) := by decide +kernel
theorem dX10_feed_53 : decode cX10_feed 53 = .ok (.bipush 20, 2) := by decide +kernel
theorem dX10_feed_55 : decode cX10_feed 55 = .ok (.if_icmp .ge 43, 3) := by decide +kernel
theorem dX10_feed_58 : decode cX10_feed 58 = .ok (.aload_n 0, 1) := by decide +kernel
theorem dX10_feed_59 : decode cX10_feed 59 = .ok (.getfield 9, 3) := by decide +kernel
theorem dX10_feed_62 : decode cX10_feed 62 = .ok (.aload_n 0, 1) := by decide +kernel
theorem dX10_feed_63 : decode cX10_feed 63 = .ok (.getfield 200, 3) := by decide +kernel
theorem dX10_feed_66 : decode cX10_feed 66 = .ok (.iload 7, 2) := by decide +kernel
theorem dX10_feed_68 : decode cX10_feed 68 = .ok (.iadd, 1) := by decide +kernel
theorem dX10_feed_69 : decode cX10_feed 69 = .ok (.aload 6, 2) := by decide +kernel
theorem dX10_feed_71 : decode cX10_feed 71 = .ok (.iload 7, 2) := by decide +kernel
theorem dX10_feed_73 : decode cX10_feed 73 = .ok (.iconst 4, 1) := by decide +kernel
theorem dX10_feed_74 : decode cX10_feed 74 = .ok (.idiv, 1) := by decide +kernel
theorem dX10_feed_75 : decode cX10_feed 75 = .ok (.iaload, 1) := by decide +kernel
theorem dX10_feed_76 : decode cX10_feed 76 = .ok (.bipush 24, 2) := by decide +kernel
theorem dX10_feed_78 : decode cX10_feed 78 = .ok (.bipush 8, 2) := by decide +kernel
theorem dX10_feed_80 : decode cX10_feed 80 = .ok (.iload 7, 2) := by decide +kernel
theorem dX10_feed_82 : decode cX10_feed 82 = .ok (.iconst 4, 1) := by decide +kernel
theorem dX10_feed_83 : decode cX10_feed 83 = .ok (.irem, 1) := by decide +kernel
theorem dX10_feed_84 : decode cX10_feed 84 = .ok (.imul, 1) := by decide +kernel
theorem dX10_feed_85 : decode cX10_feed 85 = .ok (.isub, 1) := by decide +kernel
theorem dX10_feed_86 : decode cX10_feed 86 = .ok (.ishr, 1) := by decide +kernel
theorem dX10_feed_87 : decode cX10_feed 87 = .ok (.sipush 255, 3) := by decide +kernel
theorem dX10_feed_90 : decode cX10_feed 90 = .ok (.iand, 1) := by decide +kernel
theorem dX10_feed_91 : decode cX10_feed 91 = .ok (.iastore, 1) := by decide +kernel
theorem dX10_feed_92 : decode cX10_feed 92 = .ok (.iinc 7 1, 3) := by decide +kernel
theorem dX10_feed_95 : decode cX10_feed 95 = .ok (.goto (-44), 3) := by decide +kernel
theorem dX10_feed_98 : decode cX10_feed 98 = .ok (.aload_n 0, 1) := by decide +kernel
theorem dX10_feed_99 : decode cX10_feed 99 = .ok (.dup, 1) := by decide +kernel
theorem dX10_feed_100 : decode cX10_feed 100 = .ok (.getfield 200, 3) := by decide +kernel
theorem dX10_feed_103 : decode cX10_feed 103 = .ok (.bipush 20, 2) := by decide +kernel
theorem dX10_feed_105 : decode cX10_feed 105 = .ok (.iadd, 1) := by decide +kernel
theorem dX10_feed_106 : decode cX10_feed 106 = .ok (.putfield 200, 3) := by decide +kernel
theorem dX10_feed_109 : decode cX10_feed 109 = .ok (.aload_n 0, 1) := by decide +kernel
theorem dX10_feed_110 : decode cX10_feed 110 = .ok (.getfield 200, 3) := by decide +kernel
theorem dX10_feed_113 : decode cX10_feed 113 = .ok (.ireturn, 1) := by decide +kernel
theorem dX10_trim_0 : decode cX10_trim 0 = .ok (.aload_n 0, 1) := by decide +kernel
theorem dX10_trim_1 : decode cX10_trim 1 = .ok (.iconst 0, 1) := by decide +kernel
theorem dX10_trim_2 : decode cX10_trim 2 = .ok (.putfield 60, 3) := by decide +kernel
theorem dX10_trim_5 : decode cX10_trim 5 = .ok (.iload_n 1, 1) := by decide +kernel
theorem dX10_trim_6 : decode cX10_trim 6 = .ok (.iconst 0, 1) := by decide +kernel
theorem dX10_trim_7 : decode cX10_trim 7 = .ok (.aload_n 0, 1) := by decide +kernel
theorem dX10_trim_8 : decode cX10_trim 8 = .ok (.getfield 200, 3) := by decide +kernel
theorem dX10_trim_11 : decode cX10_trim 11 = .ok (.invokestatic 66, 3) := by decide +kernel
theorem dX10_trim_14 : decode cX10_trim 14 = .ok (.ifCond .ne 9, 3) := by decide +kernel
theorem dX10_trim_17 : decode cX10_trim 17 = .ok (.aload_n 0, 1) := by decide +kernel
theorem dX10_trim_18 : decode cX10_trim 18 = .ok (.iconst 1, 1) := by decide +kernel
theorem dX10_trim_19 : decode cX10_trim 19 = .ok (.invokevirtual 367, 3) := by decide +kernel
theorem dX10_trim_22 : decode cX10_trim 22 = .ok (.ireturn, 1) := by decide +kernel
theorem dX10_trim_23 : decode cX10_trim 23 = .ok (.aload_n 0, 1) := by decide +kernel
theorem dX10_trim_24 : decode cX10_trim 24 = .ok (.iload_n 1, 1) := by decide +kernel
theorem dX10_trim_25 : decode cX10_trim 25 = .ok (.putfield 200, 3) := by decide +kernel
theorem dX10_trim_28 : decode cX10_trim 28 = .ok (.iload_n 1, 1) := by decide +kernel
theorem dX10_trim_29 : decode cX10_trim 29 = .ok (.ireturn, 1) := by decide +kernel
theorem dX10_teach_0 : decode cX10_teach 0 = .ok (.aload_n 0, 1) := by decide +kernel
theorem dX10_teach_1 : decode cX10_teach 1 = .ok (.iconst 0, 1) := by decide +kernel
theorem dX10_teach_2 : decode cX10_teach 2 = .ok (.putfield 60, 3) := by decide +kernel
theorem dX10_teach_5 : decode cX10_teach 5 = .ok (.aload_n 0, 1) := by decide +kernel
theorem dX10_teach_6 : decode cX10_teach 6 = .ok (.iconst (-1), 1) := by decide +kernel
theorem dX10_teach_7 : decode cX10_teach 7 = .ok (.putfield 13, 3) := by decide +kernel
theorem dX10_teach_10 : decode cX10_teach 10 = .ok (.aload_n 0, 1) := by decide +kernel
theorem dX10_teach_11 : decode cX10_teach 11 = .ok (.invokevirtual 370, 3) := by decide +kernel
theorem dX10_teach_14 : decode cX10_teach 14 = .ok (.istore_n 1, 1) := by decide +kernel
theorem dX10_teach_15 : decode cX10_teach 15 = .ok (.aload_n 0, 1) := by decide +kernel
theorem dX10_teach_16 : decode cX10_teach 16 = .ok (.iconst 0, 1) := by decide +kernel
theorem dX10_teach_17 : decode cX10_teach 17 = .ok (.putfield 200, 3) := by decide +kernel
theorem dX10_teach_20 : decode cX10_teach 20 = .ok (.iload_n 1, 1) := by decide +kernel
theorem dX10_teach_21 : decode cX10_teach 21 = .ok (.ifCond .le 5, 3) := by decide +kernel
theorem dX10_teach_24 : decode cX10_teach 24 = .ok (.iload_n 1, 1) := by decide +kernel
theorem dX10_teach_25 : decode cX10_teach 25 = .ok (.ireturn, 1) := by decide +kernel
theorem dX10_teach_26 : decode cX10_teach 26 = .ok (.aload_n 0, 1) := by decide +kernel
theorem dX10_teach_27 : decode cX10_teach 27 = .ok (.aload_n 0, 1) := by decide +kernel
theorem dX10_teach_28 : decode cX10_teach 28 = .ok (.getfield 39, 3) := by decide +kernel
theorem dX10_teach_31 : decode cX10_teach 31 = .ok (.putfield 35, 3) := by decide +kernel
theorem dX10_teach_34 : decode cX10_teach 34 = .ok (.aload_n 0, 1) := by decide +kernel
theorem dX10_teach_35 : decode cX10_teach 35 = .ok (.iconst 0, 1) := by decide +kernel
theorem dX10_teach_36 : decode cX10_teach 36 = .ok (.putfield 163, 3) := by decide +kernel
theorem dX10_teach_39 : decode cX10_teach 39 = .ok (.aload_n 0, 1) := by decide +kernel
theorem dX10_teach_40 : decode cX10_teach 40 = .ok (.iconst 0, 1) := by decide +kernel
theorem dX10_teach_41 : decode cX10_teach 41 = .ok (.putfield 160, 3) := by decide +kernel
theorem dX10_teach_44 : decode cX10_teach 44 = .ok (.aload_n 0, 1) := by decide +kernel
theorem dX10_teach_45 : decode cX10_teach 45 = .ok (.aload_n 0, 1) := by decide +kernel
theorem dX10_teach_46 : decode cX10_teach 46 = .ok (.getfield 35, 3) := by decide +kernel
theorem dX10_teach_49 : decode cX10_teach 49 = .ok (.invokevirtual 373, 3) := by decide +kernel
theorem dX10_teach_52 : decode cX10_teach 52 = .ok (.putfield 115, 3) := by decide +kernel
theorem dX10_teach_55 : decode cX10_teach 55 = .ok (.aload_n 0, 1) := by decide +kernel
theorem dX10_teach_56 : decode cX10_teach 56 = .ok (.iconst (-1), 1) := by decide +kernel
theorem dX10_teach_57 : decode cX10_teach 57 = .ok (.putfield 45, 3) := by decide +kernel
theorem dX10_teach_60 : decode cX10_teach 60 = .ok (.aload_n 0, 1) := by decide +kernel
theorem dX10_teach_61 : decode cX10_teach 61 = .ok (.iconst (-1), 1) := by decide +kernel
theorem dX10_teach_62 : decode cX10_teach 62 = .ok (.putfield 51, 3) := by decide +kernel
theorem dX10_teach_65 : decode cX10_teach 65 = .ok (.iconst 0, 1) := by decide +kernel
theorem dX10_teach_66 : decode cX10_teach 66 = .ok (.ireturn, 1) := by decide +kernel
theorem dX10_ok_0 : decode cX10_ok 0 = .ok (.aload_n 0, 1) := by decide +kernel
theorem dX10_ok_1 : decode cX10_ok 1 = .ok (.iconst 0, 1) := by decide +kernel
theorem dX10_ok_2 : decode cX10_ok 2 = .ok (.putfield 60, 3) := by decide +kernel
theorem dX10_ok_5 : decode cX10_ok 5 = .ok (.iload_n 1, 1) := by decide +kernel
theorem dX10_ok_6 : decode cX10_ok 6 = .ok (.ireturn, 1) := by decide +kernel
theorem dX10_errorAt_0 : decode cX10_errorAt 0 = .ok (.aload_n 0, 1) := by decide +kernel
theorem dX10_errorAt_1 : decode cX10_errorAt 1 = .ok (.aload_n 0, 1) := by decide +kernel
theorem dX10_errorAt_2 : decode cX10_errorAt 2 = .ok (.getfield 13, 3) := by decide +kernel
theorem dX10_errorAt_5 : decode cX10_errorAt 5 = .ok (.invokevirtual 376, 3) := by decide +kernel
theorem dX10_errorAt_8 : decode cX10_errorAt 8 = .ok (.ireturn, 1) := by decide +kernel
theorem dX10_families_0 : decode cX10_families 0 = .ok (.aload_n 0, 1) := by decide +kernel
theorem dX10_families_1 : decode cX10_families 1 = .ok (.aload_n 0, 1) := by decide +kernel
theorem dX10_families_2 : decode cX10_families 2 = .ok (.getfield 35, 3) := by decide +kernel
theorem dX10_families_5 : decode cX10_families 5 = .ok (.getfield 88, 3) := by decide +kernel
theorem dX10_families_8 : decode cX10_families 8 = .ok (.invokevirtual 376, 3) := by decide +kernel
theorem dX10_families_11 : decode cX10_families 11 = .ok (.ireturn, 1) := by decide +kernel
theorem dX10_statements_0 : decode cX10_statements 0 = .ok (.aload_n 0, 1) := by decide +kernel
theorem dX10_statements_1 : decode cX10_statements 1 = .ok (.aload_n 0, 1) := by decide +kernel
theorem dX10_statements_2 : decode cX10_statements 2 = .ok (.getfield 35, 3) := by decide +kernel
theorem dX10_statements_5 : decode cX10_statements 5 = .ok (.getfield 63, 3) := by decide +kernel
theorem dX10_statements_8 : decode cX10_statements 8 = .ok (.invokevirtual 376, 3) := by decide +kernel
theorem dX10_statements_11 : decode cX10_statements 11 = .ok (.ireturn, 1) := by decide +kernel
theorem dX10_orders_0 : decode cX10_orders 0 = .ok (.aload_n 0, 1) := by decide +kernel
theorem dX10_orders_1 : decode cX10_orders 1 = .ok (.aload_n 0, 1) := by decide +kernel
theorem dX10_orders_2 : decode cX10_orders 2 = .ok (.getfield 35, 3) := by decide +kernel
theorem dX10_orders_5 : decode cX10_orders 5 = .ok (.getfield 150, 3) := by decide +kernel
theorem dX10_orders_8 : decode cX10_orders 8 = .ok (.invokevirtual 376, 3) := by decide +kernel
theorem dX10_orders_11 : decode cX10_orders 11 = .ok (.ireturn, 1) := by decide +kernel
theorem dX10_days_0 : decode cX10_days 0 = .ok (.aload_n 0, 1) := by decide +kernel
theorem dX10_days_1 : decode cX10_days 1 = .ok (.aload_n 0, 1) := by decide +kernel
theorem dX10_days_2 : decode cX10_days 2 = .ok (.getfield 163, 3) := by decide +kernel
theorem dX10_days_5 : decode cX10_days 5 = .ok (.invokevirtual 376, 3) := by decide +kernel
theorem dX10_days_8 : decode cX10_days 8 = .ok (.ireturn, 1) := by decide +kernel
theorem dX10_ordersCarriedOut_0 : decode cX10_ordersCarriedOut 0 = .ok (.aload_n 0, 1) := by decide +kernel
theorem dX10_ordersCarriedOut_1 : decode cX10_ordersCarriedOut 1 = .ok (.aload_n 0, 1) := by decide +kernel
theorem dX10_ordersCarriedOut_2 : decode cX10_ordersCarriedOut 2 = .ok (.getfield 160, 3) := by decide +kernel
theorem dX10_ordersCarriedOut_5 : decode cX10_ordersCarriedOut 5 = .ok (.invokevirtual 376, 3) := by decide +kernel
theorem dX10_ordersCarriedOut_8 : decode cX10_ordersCarriedOut 8 = .ok (.ireturn, 1) := by decide +kernel
theorem dX10_tapeBytes_0 : decode cX10_tapeBytes 0 = .ok (.aload_n 0, 1) := by decide +kernel
theorem dX10_tapeBytes_1 : decode cX10_tapeBytes 1 = .ok (.aload_n 0, 1) := by decide +kernel
theorem dX10_tapeBytes_2 : decode cX10_tapeBytes 2 = .ok (.getfield 200, 3) := by decide +kernel
theorem dX10_tapeBytes_5 : decode cX10_tapeBytes 5 = .ok (.invokevirtual 376, 3) := by decide +kernel
theorem dX10_tapeBytes_8 : decode cX10_tapeBytes 8 = .ok (.ireturn, 1) := by decide +kernel
theorem dX10_standing_0 : decode cX10_standing 0 = .ok (.aload_n 0, 1) := by decide +kernel
theorem dX10_standing_1 : decode cX10_standing 1 = .ok (.aload_n 0, 1) := by decide +kernel
theorem dX10_standing_2 : decode cX10_standing 2 = .ok (.getfield 115, 3) := by decide +kernel
theorem dX10_standing_5 : decode cX10_standing 5 = .ok (.invokestatic 106, 3) := by decide +kernel
theorem dX10_standing_8 : decode cX10_standing 8 = .ok (.invokevirtual 376, 3) := by decide +kernel
theorem dX10_standing_11 : decode cX10_standing 11 = .ok (.ireturn, 1) := by decide +kernel
theorem dX10_kindTold_0 : decode cX10_kindTold 0 = .ok (.aload_n 0, 1) := by decide +kernel
theorem dX10_kindTold_1 : decode cX10_kindTold 1 = .ok (.getfield 35, 3) := by decide +kernel
theorem dX10_kindTold_4 : decode cX10_kindTold 4 = .ok (.getfield 332, 3) := by decide +kernel
theorem dX10_kindTold_7 : decode cX10_kindTold 7 = .ok (.iload_n 1, 1) := by decide +kernel
theorem dX10_kindTold_8 : decode cX10_kindTold 8 = .ok (.iaload, 1) := by decide +kernel
theorem dX10_kindTold_9 : decode cX10_kindTold 9 = .ok (.iconst 1, 1) := by decide +kernel
theorem dX10_kindTold_10 : decode cX10_kindTold 10 = .ok (.if_icmp .ne 7, 3) := by decide +kernel
theorem dX10_kindTold_13 : decode cX10_kindTold 13 = .ok (.iconst 0, 1) := by decide +kernel
theorem dX10_kindTold_14 : decode cX10_kindTold 14 = .ok (.goto 39, 3) := by decide +kernel
theorem dX10_kindTold_17 : decode cX10_kindTold 17 = .ok (.aload_n 0, 1) := by decide +kernel
theorem dX10_kindTold_18 : decode cX10_kindTold 18 = .ok (.getfield 35, 3) := by decide +kernel
theorem dX10_kindTold_21 : decode cX10_kindTold 21 = .ok (.getfield 332, 3) := by decide +kernel
theorem dX10_kindTold_24 : decode cX10_kindTold 24 = .ok (.iload_n 1, 1) := by decide +kernel
theorem dX10_kindTold_25 : decode cX10_kindTold 25 = .ok (.iaload, 1) := by decide +kernel
theorem dX10_kindTold_26 : decode cX10_kindTold 26 = .ok (.iconst 4, 1) := by decide +kernel
theorem dX10_kindTold_27 : decode cX10_kindTold 27 = .ok (.if_icmp .ne 7, 3) := by decide +kernel
theorem dX10_kindTold_30 : decode cX10_kindTold 30 = .ok (.iconst 1, 1) := by decide +kernel
theorem dX10_kindTold_31 : decode cX10_kindTold 31 = .ok (.goto 22, 3) := by decide +kernel
theorem dX10_kindTold_34 : decode cX10_kindTold 34 = .ok (.aload_n 0, 1) := by decide +kernel
theorem dX10_kindTold_35 : decode cX10_kindTold 35 = .ok (.getfield 35, 3) := by decide +kernel
theorem dX10_kindTold_38 : decode cX10_kindTold 38 = .ok (.getfield 332, 3) := by decide +kernel
theorem dX10_kindTold_41 : decode cX10_kindTold 41 = .ok (.iload_n 1, 1) := by decide +kernel
theorem dX10_kindTold_42 : decode cX10_kindTold 42 = .ok (.iaload, 1) := by decide +kernel
theorem dX10_kindTold_43 : decode cX10_kindTold 43 = .ok (.bipush 7, 2) := by decide +kernel
theorem dX10_kindTold_45 : decode cX10_kindTold 45 = .ok (.if_icmp .ne 7, 3) := by decide +kernel
theorem dX10_kindTold_48 : decode cX10_kindTold 48 = .ok (.iconst 2, 1) := by decide +kernel
theorem dX10_kindTold_49 : decode cX10_kindTold 49 = .ok (.goto 4, 3) := by decide +kernel
theorem dX10_kindTold_52 : decode cX10_kindTold 52 = .ok (.iconst 3, 1) := by decide +kernel
theorem dX10_kindTold_53 : decode cX10_kindTold 53 = .ok (.ireturn, 1) := by decide +kernel
theorem dX10_kindOf_0 : decode cX10_kindOf 0 = .ok (.aload_n 0, 1) := by decide +kernel
theorem dX10_kindOf_1 : decode cX10_kindOf 1 = .ok (.iconst 0, 1) := by decide +kernel
theorem dX10_kindOf_2 : decode cX10_kindOf 2 = .ok (.putfield 60, 3) := by decide +kernel
theorem dX10_kindOf_5 : decode cX10_kindOf 5 = .ok (.aload_n 0, 1) := by decide +kernel
theorem dX10_kindOf_6 : decode cX10_kindOf 6 = .ok (.iload_n 1, 1) := by decide +kernel
theorem dX10_kindOf_7 : decode cX10_kindOf 7 = .ok (.invokevirtual 379, 3) := by decide +kernel
theorem dX10_kindOf_10 : decode cX10_kindOf 10 = .ok (.ifCond .eq 11, 3) := by decide +kernel
theorem dX10_kindOf_13 : decode cX10_kindOf 13 = .ok (.aload_n 0, 1) := by decide +kernel
theorem dX10_kindOf_14 : decode cX10_kindOf 14 = .ok (.iload_n 1, 1) := by decide +kernel
theorem dX10_kindOf_15 : decode cX10_kindOf 15 = .ok (.invokevirtual 382, 3) := by decide +kernel
theorem dX10_kindOf_18 : decode cX10_kindOf 18 = .ok (.goto 8, 3) := by decide +kernel
theorem dX10_kindOf_21 : decode cX10_kindOf 21 = .ok (.aload_n 0, 1) := by decide +kernel
theorem dX10_kindOf_22 : decode cX10_kindOf 22 = .ok (.iconst 1, 1) := by decide +kernel
theorem dX10_kindOf_23 : decode cX10_kindOf 23 = .ok (.invokevirtual 367, 3) := by decide +kernel
theorem dX10_kindOf_26 : decode cX10_kindOf 26 = .ok (.ireturn, 1) := by decide +kernel
theorem dX10_firstClaimOf_0 : decode cX10_firstClaimOf 0 = .ok (.aload_n 0, 1) := by decide +kernel
theorem dX10_firstClaimOf_1 : decode cX10_firstClaimOf 1 = .ok (.iconst 0, 1) := by decide +kernel
theorem dX10_firstClaimOf_2 : decode cX10_firstClaimOf 2 = .ok (.putfield 60, 3) := by decide +kernel
theorem dX10_firstClaimOf_5 : decode cX10_firstClaimOf 5 = .ok (.aload_n 0, 1) := by decide +kernel
theorem dX10_firstClaimOf_6 : decode cX10_firstClaimOf 6 = .ok (.iload_n 1, 1) := by decide +kernel
theorem dX10_firstClaimOf_7 : decode cX10_firstClaimOf 7 = .ok (.invokevirtual 379, 3) := by decide +kernel
theorem dX10_firstClaimOf_10 : decode cX10_firstClaimOf 10 = .ok (.ifCond .eq 15, 3) := by decide +kernel
theorem dX10_firstClaimOf_13 : decode cX10_firstClaimOf 13 = .ok (.aload_n 0, 1) := by decide +kernel
theorem dX10_firstClaimOf_14 : decode cX10_firstClaimOf 14 = .ok (.getfield 35, 3) := by decide +kernel
theorem dX10_firstClaimOf_17 : decode cX10_firstClaimOf 17 = .ok (.getfield 337, 3) := by decide +kernel
theorem dX10_firstClaimOf_20 : decode cX10_firstClaimOf 20 = .ok (.iload_n 1, 1) := by decide +kernel
theorem dX10_firstClaimOf_21 : decode cX10_firstClaimOf 21 = .ok (.iaload, 1) := by decide +kernel
theorem dX10_firstClaimOf_22 : decode cX10_firstClaimOf 22 = .ok (.goto 8, 3) := by decide +kernel
theorem dX10_firstClaimOf_25 : decode cX10_firstClaimOf 25 = .ok (.aload_n 0, 1) := by decide +kernel
theorem dX10_firstClaimOf_26 : decode cX10_firstClaimOf 26 = .ok (.iconst 1, 1) := by decide +kernel
theorem dX10_firstClaimOf_27 : decode cX10_firstClaimOf 27 = .ok (.invokevirtual 367, 3) := by decide +kernel
theorem dX10_firstClaimOf_30 : decode cX10_firstClaimOf 30 = .ok (.ireturn, 1) := by decide +kernel
theorem dX10_secondClaimOf_0 : decode cX10_secondClaimOf 0 = .ok (.aload_n 0, 1) := by decide +kernel
theorem dX10_secondClaimOf_1 : decode cX10_secondClaimOf 1 = .ok (.iconst 0, 1) := by decide +kernel
theorem dX10_secondClaimOf_2 : decode cX10_secondClaimOf 2 = .ok (.putfield 60, 3) := by decide +kernel
theorem dX10_secondClaimOf_5 : decode cX10_secondClaimOf 5 = .ok (.aload_n 0, 1) := by decide +kernel
theorem dX10_secondClaimOf_6 : decode cX10_secondClaimOf 6 = .ok (.iload_n 1, 1) := by decide +kernel
theorem dX10_secondClaimOf_7 : decode cX10_secondClaimOf 7 = .ok (.invokevirtual 379, 3) := by decide +kernel
theorem dX10_secondClaimOf_10 : decode cX10_secondClaimOf 10 = .ok (.ifCond .eq 15, 3) := by decide +kernel
theorem dX10_secondClaimOf_13 : decode cX10_secondClaimOf 13 = .ok (.aload_n 0, 1) := by decide +kernel
theorem dX10_secondClaimOf_14 : decode cX10_secondClaimOf 14 = .ok (.getfield 35, 3) := by decide +kernel
theorem dX10_secondClaimOf_17 : decode cX10_secondClaimOf 17 = .ok (.getfield 340, 3) := by decide +kernel
theorem dX10_secondClaimOf_20 : decode cX10_secondClaimOf 20 = .ok (.iload_n 1, 1) := by decide +kernel
theorem dX10_secondClaimOf_21 : decode cX10_secondClaimOf 21 = .ok (.iaload, 1) := by decide +kernel
theorem dX10_secondClaimOf_22 : decode cX10_secondClaimOf 22 = .ok (.goto 8, 3) := by decide +kernel
theorem dX10_secondClaimOf_25 : decode cX10_secondClaimOf 25 = .ok (.aload_n 0, 1) := by decide +kernel
theorem dX10_secondClaimOf_26 : decode cX10_secondClaimOf 26 = .ok (.iconst 1, 1) := by decide +kernel
theorem dX10_secondClaimOf_27 : decode cX10_secondClaimOf 27 = .ok (.invokevirtual 367, 3) := by decide +kernel
theorem dX10_secondClaimOf_30 : decode cX10_secondClaimOf 30 = .ok (.ireturn, 1) := by decide +kernel
theorem dX10_stands_0 : decode cX10_stands 0 = .ok (.aload_n 0, 1) := by decide +kernel
theorem dX10_stands_1 : decode cX10_stands 1 = .ok (.iconst 0, 1) := by decide +kernel
theorem dX10_stands_2 : decode cX10_stands 2 = .ok (.putfield 60, 3) := by decide +kernel
theorem dX10_stands_5 : decode cX10_stands 5 = .ok (.aload_n 0, 1) := by decide +kernel
theorem dX10_stands_6 : decode cX10_stands 6 = .ok (.iload_n 1, 1) := by decide +kernel
theorem dX10_stands_7 : decode cX10_stands 7 = .ok (.invokevirtual 379, 3) := by decide +kernel
theorem dX10_stands_10 : decode cX10_stands 10 = .ok (.ifCond .eq 14, 3) := by decide +kernel
theorem dX10_stands_13 : decode cX10_stands 13 = .ok (.aload_n 0, 1) := by decide +kernel
theorem dX10_stands_14 : decode cX10_stands 14 = .ok (.getfield 115, 3) := by decide +kernel
theorem dX10_stands_17 : decode cX10_stands 17 = .ok (.iload_n 1, 1) := by decide +kernel
theorem dX10_stands_18 : decode cX10_stands 18 = .ok (.invokestatic 74, 3) := by decide +kernel
theorem dX10_stands_21 : decode cX10_stands 21 = .ok (.goto 8, 3) := by decide +kernel
theorem dX10_stands_24 : decode cX10_stands 24 = .ok (.aload_n 0, 1) := by decide +kernel
theorem dX10_stands_25 : decode cX10_stands 25 = .ok (.iconst 1, 1) := by decide +kernel
theorem dX10_stands_26 : decode cX10_stands 26 = .ok (.invokevirtual 385, 3) := by decide +kernel
theorem dX10_stands_29 : decode cX10_stands 29 = .ok (.ireturn, 1) := by decide +kernel
theorem dX10_isNeedless_0 : decode cX10_isNeedless 0 = .ok (.aload_n 0, 1) := by decide +kernel
theorem dX10_isNeedless_1 : decode cX10_isNeedless 1 = .ok (.iconst 0, 1) := by decide +kernel
theorem dX10_isNeedless_2 : decode cX10_isNeedless 2 = .ok (.putfield 60, 3) := by decide +kernel
theorem dX10_isNeedless_5 : decode cX10_isNeedless 5 = .ok (.aload_n 0, 1) := by decide +kernel
theorem dX10_isNeedless_6 : decode cX10_isNeedless 6 = .ok (.iload_n 1, 1) := by decide +kernel
theorem dX10_isNeedless_7 : decode cX10_isNeedless 7 = .ok (.invokevirtual 379, 3) := by decide +kernel
theorem dX10_isNeedless_10 : decode cX10_isNeedless 10 = .ok (.ifCond .ne 9, 3) := by decide +kernel
theorem dX10_isNeedless_13 : decode cX10_isNeedless 13 = .ok (.aload_n 0, 1) := by decide +kernel
theorem dX10_isNeedless_14 : decode cX10_isNeedless 14 = .ok (.iconst 1, 1) := by decide +kernel
theorem dX10_isNeedless_15 : decode cX10_isNeedless 15 = .ok (.invokevirtual 385, 3) := by decide +kernel
theorem dX10_isNeedless_18 : decode cX10_isNeedless 18 = .ok (.ireturn, 1) := by decide +kernel
theorem dX10_isNeedless_19 : decode cX10_isNeedless 19 = .ok (.aload_n 0, 1) := by decide +kernel
theorem dX10_isNeedless_20 : decode cX10_isNeedless 20 = .ok (.getfield 115, 3) := by decide +kernel
theorem dX10_isNeedless_23 : decode cX10_isNeedless 23 = .ok (.iload_n 1, 1) := by decide +kernel
theorem dX10_isNeedless_24 : decode cX10_isNeedless 24 = .ok (.invokestatic 74, 3) := by decide +kernel
theorem dX10_isNeedless_27 : decode cX10_isNeedless 27 = .ok (.ifCond .ne 9, 3) := by decide +kernel
theorem dX10_isNeedless_30 : decode cX10_isNeedless 30 = .ok (.aload_n 0, 1) := by decide +kernel
theorem dX10_isNeedless_31 : decode cX10_isNeedless 31 = .ok (.iconst 2, 1) := by decide +kernel
theorem dX10_isNeedless_32 : decode cX10_isNeedless 32 = .ok (.invokevirtual 385, 3) := by decide +kernel
theorem dX10_isNeedless_35 : decode cX10_isNeedless 35 = .ok (.ireturn, 1) := by decide +kernel
theorem dX10_isNeedless_36 : decode cX10_isNeedless 36 = .ok (.aload_n 0, 1) := by decide +kernel
theorem dX10_isNeedless_37 : decode cX10_isNeedless 37 = .ok (.aload_n 0, 1) := by decide +kernel
theorem dX10_isNeedless_38 : decode cX10_isNeedless 38 = .ok (.getfield 115, 3) := by decide +kernel
theorem dX10_isNeedless_41 : decode cX10_isNeedless 41 = .ok (.invokevirtual 182, 3) := by decide +kernel
theorem dX10_isNeedless_44 : decode cX10_isNeedless 44 = .ok (.istore_n 2, 1) := by decide +kernel
theorem dX10_isNeedless_45 : decode cX10_isNeedless 45 = .ok (.aload_n 0, 1) := by decide +kernel
theorem dX10_isNeedless_46 : decode cX10_isNeedless 46 = .ok (.aload_n 0, 1) := by decide +kernel
theorem dX10_isNeedless_47 : decode cX10_isNeedless 47 = .ok (.getfield 115, 3) := by decide +kernel
theorem dX10_isNeedless_50 : decode cX10_isNeedless 50 = .ok (.iconst 1, 1) := by decide +kernel
theorem dX10_isNeedless_51 : decode cX10_isNeedless 51 = .ok (.iload_n 1, 1) := by decide +kernel
theorem dX10_isNeedless_52 : decode cX10_isNeedless 52 = .ok (.ishl, 1) := by decide +kernel
theorem dX10_isNeedless_53 : decode cX10_isNeedless 53 = .ok (.iconst (-1), 1) := by decide +kernel
theorem dX10_isNeedless_54 : decode cX10_isNeedless 54 = .ok (.ixor, 1) := by decide +kernel
theorem dX10_isNeedless_55 : decode cX10_isNeedless 55 = .ok (.iand, 1) := by decide +kernel
theorem dX10_isNeedless_56 : decode cX10_isNeedless 56 = .ok (.invokevirtual 182, 3) := by decide +kernel
theorem dX10_isNeedless_59 : decode cX10_isNeedless 59 = .ok (.iload_n 2, 1) := by decide +kernel
theorem dX10_isNeedless_60 : decode cX10_isNeedless 60 = .ok (.if_icmp .ne 7, 3) := by decide +kernel
theorem dX10_isNeedless_63 : decode cX10_isNeedless 63 = .ok (.iconst 1, 1) := by decide +kernel
theorem dX10_isNeedless_64 : decode cX10_isNeedless 64 = .ok (.goto 4, 3) := by decide +kernel
theorem dX10_isNeedless_67 : decode cX10_isNeedless 67 = .ok (.iconst 0, 1) := by decide +kernel
theorem dX10_isNeedless_68 : decode cX10_isNeedless 68 = .ok (.ireturn, 1) := by decide +kernel
theorem dX10_follows_0 : decode cX10_follows 0 = .ok (.aload_n 0, 1) := by decide +kernel
theorem dX10_follows_1 : decode cX10_follows 1 = .ok (.iconst 0, 1) := by decide +kernel
theorem dX10_follows_2 : decode cX10_follows 2 = .ok (.putfield 60, 3) := by decide +kernel
theorem dX10_follows_5 : decode cX10_follows 5 = .ok (.aload_n 0, 1) := by decide +kernel
theorem dX10_follows_6 : decode cX10_follows 6 = .ok (.iload_n 1, 1) := by decide +kernel
theorem dX10_follows_7 : decode cX10_follows 7 = .ok (.invokevirtual 388, 3) := by decide +kernel
theorem dX10_follows_10 : decode cX10_follows 10 = .ok (.ifCond .eq 20, 3) := by decide +kernel
theorem dX10_follows_13 : decode cX10_follows 13 = .ok (.aload_n 0, 1) := by decide +kernel
theorem dX10_follows_14 : decode cX10_follows 14 = .ok (.iload_n 2, 1) := by decide +kernel
theorem dX10_follows_15 : decode cX10_follows 15 = .ok (.invokevirtual 388, 3) := by decide +kernel
theorem dX10_follows_18 : decode cX10_follows 18 = .ok (.ifCond .eq 12, 3) := by decide +kernel
theorem dX10_follows_21 : decode cX10_follows 21 = .ok (.aload_n 0, 1) := by decide +kernel
theorem dX10_follows_22 : decode cX10_follows 22 = .ok (.iload_n 1, 1) := by decide +kernel
theorem dX10_follows_23 : decode cX10_follows 23 = .ok (.iload_n 2, 1) := by decide +kernel
theorem dX10_follows_24 : decode cX10_follows 24 = .ok (.invokevirtual 189, 3) := by decide +kernel
theorem dX10_follows_27 : decode cX10_follows 27 = .ok (.goto 8, 3) := by decide +kernel
theorem dX10_follows_30 : decode cX10_follows 30 = .ok (.aload_n 0, 1) := by decide +kernel
theorem dX10_follows_31 : decode cX10_follows 31 = .ok (.iconst 1, 1) := by decide +kernel
theorem dX10_follows_32 : decode cX10_follows 32 = .ok (.invokevirtual 385, 3) := by decide +kernel
theorem dX10_follows_35 : decode cX10_follows 35 = .ok (.ireturn, 1) := by decide +kernel
theorem dX10_whatFollowsFrom_0 : decode cX10_whatFollowsFrom 0 = .ok (.aload_n 0, 1) := by decide +kernel
theorem dX10_whatFollowsFrom_1 : decode cX10_whatFollowsFrom 1 = .ok (.iconst 0, 1) := by decide +kernel
theorem dX10_whatFollowsFrom_2 : decode cX10_whatFollowsFrom 2 = .ok (.putfield 60, 3) := by decide +kernel
theorem dX10_whatFollowsFrom_5 : decode cX10_whatFollowsFrom 5 = .ok (.aload_n 0, 1) := by decide +kernel
theorem dX10_whatFollowsFrom_6 : decode cX10_whatFollowsFrom 6 = .ok (.iload_n 1, 1) := by decide +kernel
theorem dX10_whatFollowsFrom_7 : decode cX10_whatFollowsFrom 7 = .ok (.invokevirtual 388, 3) := by decide +kernel
theorem dX10_whatFollowsFrom_10 : decode cX10_whatFollowsFrom 10 = .ok (.ifCond .eq 11, 3) := by decide +kernel
theorem dX10_whatFollowsFrom_13 : decode cX10_whatFollowsFrom 13 = .ok (.aload_n 0, 1) := by decide +kernel
theorem dX10_whatFollowsFrom_14 : decode cX10_whatFollowsFrom 14 = .ok (.iload_n 1, 1) := by decide +kernel
theorem dX10_whatFollowsFrom_15 : decode cX10_whatFollowsFrom 15 = .ok (.invokevirtual 391, 3) := by decide +kernel
theorem dX10_whatFollowsFrom_18 : decode cX10_whatFollowsFrom 18 = .ok (.goto 8, 3) := by decide +kernel
theorem dX10_whatFollowsFrom_21 : decode cX10_whatFollowsFrom 21 = .ok (.aload_n 0, 1) := by decide +kernel
theorem dX10_whatFollowsFrom_22 : decode cX10_whatFollowsFrom 22 = .ok (.iconst 1, 1) := by decide +kernel
theorem dX10_whatFollowsFrom_23 : decode cX10_whatFollowsFrom 23 = .ok (.invokevirtual 367, 3) := by decide +kernel
theorem dX10_whatFollowsFrom_26 : decode cX10_whatFollowsFrom 26 = .ok (.ireturn, 1) := by decide +kernel
theorem dX10_fewestStatementsBetween_0 : decode cX10_fewestStatementsBetween 0 = .ok (.aload_n 0, 1) := by decide +kernel
theorem dX10_fewestStatementsBetween_1 : decode cX10_fewestStatementsBetween 1 = .ok (.iconst 0, 1) := by decide +kernel
theorem dX10_fewestStatementsBetween_2 : decode cX10_fewestStatementsBetween 2 = .ok (.putfield 60, 3) := by decide +kernel
theorem dX10_fewestStatementsBetween_5 : decode cX10_fewestStatementsBetween 5 = .ok (.aload_n 0, 1) := by decide +kernel
theorem dX10_fewestStatementsBetween_6 : decode cX10_fewestStatementsBetween 6 = .ok (.iload_n 1, 1) := by decide +kernel
theorem dX10_fewestStatementsBetween_7 : decode cX10_fewestStatementsBetween 7 = .ok (.invokevirtual 388, 3) := by decide +kernel
theorem dX10_fewestStatementsBetween_10 : decode cX10_fewestStatementsBetween 10 = .ok (.ifCond .eq 11, 3) := by decide +kernel
theorem dX10_fewestStatementsBetween_13 : decode cX10_fewestStatementsBetween 13 = .ok (.aload_n 0, 1) := by decide +kernel
theorem dX10_fewestStatementsBetween_14 : decode cX10_fewestStatementsBetween 14 = .ok (.iload_n 2, 1) := by decide +kernel
theorem dX10_fewestStatementsBetween_15 : decode cX10_fewestStatementsBetween 15 = .ok (.invokevirtual 388, 3) := by decide +kernel
theorem dX10_fewestStatementsBetween_18 : decode cX10_fewestStatementsBetween 18 = .ok (.ifCond .ne 9, 3) := by decide +kernel
theorem dX10_fewestStatementsBetween_21 : decode cX10_fewestStatementsBetween 21 = .ok (.aload_n 0, 1) := by decide +kernel
theorem dX10_fewestStatementsBetween_22 : decode cX10_fewestStatementsBetween 22 = .ok (.iconst 1, 1) := by decide +kernel
theorem dX10_fewestStatementsBetween_23 : decode cX10_fewestStatementsBetween 23 = .ok (.invokevirtual 367, 3) := by decide +kernel
theorem dX10_fewestStatementsBetween_26 : decode cX10_fewestStatementsBetween 26 = .ok (.ireturn, 1) := by decide +kernel
theorem dX10_fewestStatementsBetween_27 : decode cX10_fewestStatementsBetween 27 = .ok (.aload_n 0, 1) := by decide +kernel
theorem dX10_fewestStatementsBetween_28 : decode cX10_fewestStatementsBetween 28 = .ok (.iload_n 1, 1) := by decide +kernel
theorem dX10_fewestStatementsBetween_29 : decode cX10_fewestStatementsBetween 29 = .ok (.iload_n 2, 1) := by decide +kernel
theorem dX10_fewestStatementsBetween_30 : decode cX10_fewestStatementsBetween 30 = .ok (.invokevirtual 189, 3) := by decide +kernel
theorem dX10_fewestStatementsBetween_33 : decode cX10_fewestStatementsBetween 33 = .ok (.ifCond .eq 12, 3) := by decide +kernel
theorem dX10_fewestStatementsBetween_36 : decode cX10_fewestStatementsBetween 36 = .ok (.aload_n 0, 1) := by decide +kernel
theorem dX10_fewestStatementsBetween_37 : decode cX10_fewestStatementsBetween 37 = .ok (.iload_n 1, 1) := by decide +kernel
theorem dX10_fewestStatementsBetween_38 : decode cX10_fewestStatementsBetween 38 = .ok (.iload_n 2, 1) := by decide +kernel
theorem dX10_fewestStatementsBetween_39 : decode cX10_fewestStatementsBetween 39 = .ok (.invokevirtual 394, 3) := by decide +kernel
theorem dX10_fewestStatementsBetween_42 : decode cX10_fewestStatementsBetween 42 = .ok (.goto 8, 3) := by decide +kernel
theorem dX10_fewestStatementsBetween_45 : decode cX10_fewestStatementsBetween 45 = .ok (.aload_n 0, 1) := by decide +kernel
theorem dX10_fewestStatementsBetween_46 : decode cX10_fewestStatementsBetween 46 = .ok (.iconst 2, 1) := by decide +kernel
theorem dX10_fewestStatementsBetween_47 : decode cX10_fewestStatementsBetween 47 = .ok (.invokevirtual 367, 3) := by decide +kernel
theorem dX10_fewestStatementsBetween_50 : decode cX10_fewestStatementsBetween 50 = .ok (.ireturn, 1) := by decide +kernel
theorem dX10_parts_0 : decode cX10_parts 0 = .ok (.aload_n 0, 1) := by decide +kernel
theorem dX10_parts_1 : decode cX10_parts 1 = .ok (.aload_n 0, 1) := by decide +kernel
theorem dX10_parts_2 : decode cX10_parts 2 = .ok (.invokevirtual 179, 3) := by decide +kernel
theorem dX10_parts_5 : decode cX10_parts 5 = .ok (.invokevirtual 376, 3) := by decide +kernel
theorem dX10_parts_8 : decode cX10_parts 8 = .ok (.ireturn, 1) := by decide +kernel
theorem dX10_partOf_0 : decode cX10_partOf 0 = .ok (.aload_n 0, 1) := by decide +kernel
theorem dX10_partOf_1 : decode cX10_partOf 1 = .ok (.iconst 0, 1) := by decide +kernel
theorem dX10_partOf_2 : decode cX10_partOf 2 = .ok (.putfield 60, 3) := by decide +kernel
theorem dX10_partOf_5 : decode cX10_partOf 5 = .ok (.aload_n 0, 1) := by decide +kernel
theorem dX10_partOf_6 : decode cX10_partOf 6 = .ok (.iload_n 1, 1) := by decide +kernel
theorem dX10_partOf_7 : decode cX10_partOf 7 = .ok (.invokevirtual 388, 3) := by decide +kernel
theorem dX10_partOf_10 : decode cX10_partOf 10 = .ok (.ifCond .eq 11, 3) := by decide +kernel
theorem dX10_partOf_13 : decode cX10_partOf 13 = .ok (.aload_n 0, 1) := by decide +kernel
theorem dX10_partOf_14 : decode cX10_partOf 14 = .ok (.iload_n 1, 1) := by decide +kernel
theorem dX10_partOf_15 : decode cX10_partOf 15 = .ok (.invokevirtual 397, 3) := by decide +kernel
theorem dX10_partOf_18 : decode cX10_partOf 18 = .ok (.goto 8, 3) := by decide +kernel
theorem dX10_partOf_21 : decode cX10_partOf 21 = .ok (.aload_n 0, 1) := by decide +kernel
theorem dX10_partOf_22 : decode cX10_partOf 22 = .ok (.iconst 1, 1) := by decide +kernel
theorem dX10_partOf_23 : decode cX10_partOf 23 = .ok (.invokevirtual 367, 3) := by decide +kernel
theorem dX10_partOf_26 : decode cX10_partOf 26 = .ok (.ireturn, 1) := by decide +kernel
theorem dX10_partSize_0 : decode cX10_partSize 0 = .ok (.aload_n 0, 1) := by decide +kernel
theorem dX10_partSize_1 : decode cX10_partSize 1 = .ok (.iconst 0, 1) := by decide +kernel
theorem dX10_partSize_2 : decode cX10_partSize 2 = .ok (.putfield 60, 3) := by decide +kernel
theorem dX10_partSize_5 : decode cX10_partSize 5 = .ok (.aload_n 0, 1) := by decide +kernel
theorem dX10_partSize_6 : decode cX10_partSize 6 = .ok (.iload_n 1, 1) := by decide +kernel
theorem dX10_partSize_7 : decode cX10_partSize 7 = .ok (.invokevirtual 388, 3) := by decide +kernel
theorem dX10_partSize_10 : decode cX10_partSize 10 = .ok (.ifCond .eq 11, 3) := by decide +kernel
theorem dX10_partSize_13 : decode cX10_partSize 13 = .ok (.aload_n 0, 1) := by decide +kernel
theorem dX10_partSize_14 : decode cX10_partSize 14 = .ok (.iload_n 1, 1) := by decide +kernel
theorem dX10_partSize_15 : decode cX10_partSize 15 = .ok (.invokevirtual 400, 3) := by decide +kernel
theorem dX10_partSize_18 : decode cX10_partSize 18 = .ok (.goto 8, 3) := by decide +kernel
theorem dX10_partSize_21 : decode cX10_partSize 21 = .ok (.aload_n 0, 1) := by decide +kernel
theorem dX10_partSize_22 : decode cX10_partSize 22 = .ok (.iconst 1, 1) := by decide +kernel
theorem dX10_partSize_23 : decode cX10_partSize 23 = .ok (.invokevirtual 367, 3) := by decide +kernel
theorem dX10_partSize_26 : decode cX10_partSize 26 = .ok (.ireturn, 1) := by decide +kernel
theorem dX10_isPeacePossible_0 : decode cX10_isPeacePossible 0 = .ok (.aload_n 0, 1) := by decide +kernel
theorem dX10_isPeacePossible_1 : decode cX10_isPeacePossible 1 = .ok (.iconst 0, 1) := by decide +kernel
theorem dX10_isPeacePossible_2 : decode cX10_isPeacePossible 2 = .ok (.putfield 60, 3) := by decide +kernel
theorem dX10_isPeacePossible_5 : decode cX10_isPeacePossible 5 = .ok (.aload_n 0, 1) := by decide +kernel
theorem dX10_isPeacePossible_6 : decode cX10_isPeacePossible 6 = .ok (.aload_n 0, 1) := by decide +kernel
theorem dX10_isPeacePossible_7 : decode cX10_isPeacePossible 7 = .ok (.getfield 115, 3) := by decide +kernel
theorem dX10_isPeacePossible_10 : decode cX10_isPeacePossible 10 = .ok (.invokevirtual 182, 3) := by decide +kernel
theorem dX10_isPeacePossible_13 : decode cX10_isPeacePossible 13 = .ok (.ifCond .le 7, 3) := by decide +kernel
theorem dX10_isPeacePossible_16 : decode cX10_isPeacePossible 16 = .ok (.iconst 1, 1) := by decide +kernel
theorem dX10_isPeacePossible_17 : decode cX10_isPeacePossible 17 = .ok (.goto 4, 3) := by decide +kernel
theorem dX10_isPeacePossible_20 : decode cX10_isPeacePossible 20 = .ok (.iconst 0, 1) := by decide +kernel
theorem dX10_isPeacePossible_21 : decode cX10_isPeacePossible 21 = .ok (.ireturn, 1) := by decide +kernel
theorem dX10_peaces__0 : decode cX10_peaces_ 0 = .ok (.aload_n 0, 1) := by decide +kernel
theorem dX10_peaces__1 : decode cX10_peaces_ 1 = .ok (.aload_n 0, 1) := by decide +kernel
theorem dX10_peaces__2 : decode cX10_peaces_ 2 = .ok (.aload_n 0, 1) := by decide +kernel
theorem dX10_peaces__3 : decode cX10_peaces_ 3 = .ok (.getfield 115, 3) := by decide +kernel
theorem dX10_peaces__6 : decode cX10_peaces_ 6 = .ok (.invokevirtual 182, 3) := by decide +kernel
theorem dX10_peaces__9 : decode cX10_peaces_ 9 = .ok (.invokevirtual 376, 3) := by decide +kernel
theorem dX10_peaces__12 : decode cX10_peaces_ 12 = .ok (.ireturn, 1) := by decide +kernel
theorem dX10_peacesWith_0 : decode cX10_peacesWith 0 = .ok (.aload_n 0, 1) := by decide +kernel
theorem dX10_peacesWith_1 : decode cX10_peacesWith 1 = .ok (.iconst 0, 1) := by decide +kernel
theorem dX10_peacesWith_2 : decode cX10_peacesWith 2 = .ok (.putfield 60, 3) := by decide +kernel
theorem dX10_peacesWith_5 : decode cX10_peacesWith 5 = .ok (.aload_n 0, 1) := by decide +kernel
theorem dX10_peacesWith_6 : decode cX10_peacesWith 6 = .ok (.iload_n 1, 1) := by decide +kernel
theorem dX10_peacesWith_7 : decode cX10_peacesWith 7 = .ok (.invokevirtual 388, 3) := by decide +kernel
theorem dX10_peacesWith_10 : decode cX10_peacesWith 10 = .ok (.ifCond .eq 11, 3) := by decide +kernel
theorem dX10_peacesWith_13 : decode cX10_peacesWith 13 = .ok (.aload_n 0, 1) := by decide +kernel
theorem dX10_peacesWith_14 : decode cX10_peacesWith 14 = .ok (.iload_n 1, 1) := by decide +kernel
theorem dX10_peacesWith_15 : decode cX10_peacesWith 15 = .ok (.invokevirtual 187, 3) := by decide +kernel
theorem dX10_peacesWith_18 : decode cX10_peacesWith 18 = .ok (.goto 8, 3) := by decide +kernel
theorem dX10_peacesWith_21 : decode cX10_peacesWith 21 = .ok (.aload_n 0, 1) := by decide +kernel
theorem dX10_peacesWith_22 : decode cX10_peacesWith 22 = .ok (.iconst 1, 1) := by decide +kernel
theorem dX10_peacesWith_23 : decode cX10_peacesWith 23 = .ok (.invokevirtual 367, 3) := by decide +kernel
theorem dX10_peacesWith_26 : decode cX10_peacesWith 26 = .ok (.ireturn, 1) := by decide +kernel
theorem dX10_isPossible_0 : decode cX10_isPossible 0 = .ok (.aload_n 0, 1) := by decide +kernel
theorem dX10_isPossible_1 : decode cX10_isPossible 1 = .ok (.iconst 0, 1) := by decide +kernel
theorem dX10_isPossible_2 : decode cX10_isPossible 2 = .ok (.putfield 60, 3) := by decide +kernel
theorem dX10_isPossible_5 : decode cX10_isPossible 5 = .ok (.aload_n 0, 1) := by decide +kernel
theorem dX10_isPossible_6 : decode cX10_isPossible 6 = .ok (.iload_n 1, 1) := by decide +kernel
theorem dX10_isPossible_7 : decode cX10_isPossible 7 = .ok (.invokevirtual 388, 3) := by decide +kernel
theorem dX10_isPossible_10 : decode cX10_isPossible 10 = .ok (.ifCond .eq 19, 3) := by decide +kernel
theorem dX10_isPossible_13 : decode cX10_isPossible 13 = .ok (.aload_n 0, 1) := by decide +kernel
theorem dX10_isPossible_14 : decode cX10_isPossible 14 = .ok (.iload_n 1, 1) := by decide +kernel
theorem dX10_isPossible_15 : decode cX10_isPossible 15 = .ok (.invokevirtual 187, 3) := by decide +kernel
theorem dX10_isPossible_18 : decode cX10_isPossible 18 = .ok (.ifCond .le 7, 3) := by decide +kernel
theorem dX10_isPossible_21 : decode cX10_isPossible 21 = .ok (.iconst 1, 1) := by decide +kernel
theorem dX10_isPossible_22 : decode cX10_isPossible 22 = .ok (.goto 12, 3) := by decide +kernel
theorem dX10_isPossible_25 : decode cX10_isPossible 25 = .ok (.iconst 0, 1) := by decide +kernel
theorem dX10_isPossible_26 : decode cX10_isPossible 26 = .ok (.goto 8, 3) := by decide +kernel
theorem dX10_isPossible_29 : decode cX10_isPossible 29 = .ok (.aload_n 0, 1) := by decide +kernel
theorem dX10_isPossible_30 : decode cX10_isPossible 30 = .ok (.iconst 1, 1) := by decide +kernel
theorem dX10_isPossible_31 : decode cX10_isPossible 31 = .ok (.invokevirtual 385, 3) := by decide +kernel
theorem dX10_isPossible_34 : decode cX10_isPossible 34 = .ok (.ireturn, 1) := by decide +kernel
theorem dX10_isSettled_0 : decode cX10_isSettled 0 = .ok (.aload_n 0, 1) := by decide +kernel
theorem dX10_isSettled_1 : decode cX10_isSettled 1 = .ok (.iconst 0, 1) := by decide +kernel
theorem dX10_isSettled_2 : decode cX10_isSettled 2 = .ok (.putfield 60, 3) := by decide +kernel
theorem dX10_isSettled_5 : decode cX10_isSettled 5 = .ok (.aload_n 0, 1) := by decide +kernel
theorem dX10_isSettled_6 : decode cX10_isSettled 6 = .ok (.iload_n 1, 1) := by decide +kernel
theorem dX10_isSettled_7 : decode cX10_isSettled 7 = .ok (.invokevirtual 388, 3) := by decide +kernel
theorem dX10_isSettled_10 : decode cX10_isSettled 10 = .ok (.ifCond .ne 9, 3) := by decide +kernel
theorem dX10_isSettled_13 : decode cX10_isSettled 13 = .ok (.aload_n 0, 1) := by decide +kernel
theorem dX10_isSettled_14 : decode cX10_isSettled 14 = .ok (.iconst 1, 1) := by decide +kernel
theorem dX10_isSettled_15 : decode cX10_isSettled 15 = .ok (.invokevirtual 385, 3) := by decide +kernel
theorem dX10_isSettled_18 : decode cX10_isSettled 18 = .ok (.ireturn, 1) := by decide +kernel
theorem dX10_isSettled_19 : decode cX10_isSettled 19 = .ok (.aload_n 0, 1) := by decide +kernel
theorem dX10_isSettled_20 : decode cX10_isSettled 20 = .ok (.aload_n 0, 1) := by decide +kernel
theorem dX10_isSettled_21 : decode cX10_isSettled 21 = .ok (.getfield 115, 3) := by decide +kernel
theorem dX10_isSettled_24 : decode cX10_isSettled 24 = .ok (.invokevirtual 182, 3) := by decide +kernel
theorem dX10_isSettled_27 : decode cX10_isSettled 27 = .ok (.ifCond .ne 11, 3) := by decide +kernel
theorem dX10_isSettled_30 : decode cX10_isSettled 30 = .ok (.aload_n 0, 1) := by decide +kernel
theorem dX10_isSettled_31 : decode cX10_isSettled 31 = .ok (.iconst 2, 1) := by decide +kernel
theorem dX10_isSettled_32 : decode cX10_isSettled 32 = .ok (.invokevirtual 385, 3) := by decide +kernel
theorem dX10_isSettled_35 : decode cX10_isSettled 35 = .ok (.goto 20, 3) := by decide +kernel
theorem dX10_isSettled_38 : decode cX10_isSettled 38 = .ok (.aload_n 0, 1) := by decide +kernel
theorem dX10_isSettled_39 : decode cX10_isSettled 39 = .ok (.iload_n 1, 1) := by decide +kernel
theorem dX10_isSettled_40 : decode cX10_isSettled 40 = .ok (.invokevirtual 187, 3) := by decide +kernel
theorem dX10_isSettled_43 : decode cX10_isSettled 43 = .ok (.aload_n 0, 1) := by decide +kernel
theorem dX10_isSettled_44 : decode cX10_isSettled 44 = .ok (.getfield 94, 3) := by decide +kernel
theorem dX10_isSettled_47 : decode cX10_isSettled 47 = .ok (.if_icmp .ne 7, 3) := by decide +kernel
theorem dX10_isSettled_50 : decode cX10_isSettled 50 = .ok (.iconst 1, 1) := by decide +kernel
theorem dX10_isSettled_51 : decode cX10_isSettled 51 = .ok (.goto 4, 3) := by decide +kernel
theorem dX10_isSettled_54 : decode cX10_isSettled 54 = .ok (.iconst 0, 1) := by decide +kernel
theorem dX10_isSettled_55 : decode cX10_isSettled 55 = .ok (.ireturn, 1) := by decide +kernel
theorem dX10_ridesInPeace_0 : decode cX10_ridesInPeace 0 = .ok (.aload_n 0, 1) := by decide +kernel
theorem dX10_ridesInPeace_1 : decode cX10_ridesInPeace 1 = .ok (.iconst 0, 1) := by decide +kernel
theorem dX10_ridesInPeace_2 : decode cX10_ridesInPeace 2 = .ok (.putfield 60, 3) := by decide +kernel
theorem dX10_ridesInPeace_5 : decode cX10_ridesInPeace 5 = .ok (.iload_n 1, 1) := by decide +kernel
theorem dX10_ridesInPeace_6 : decode cX10_ridesInPeace 6 = .ok (.iconst 0, 1) := by decide +kernel
theorem dX10_ridesInPeace_7 : decode cX10_ridesInPeace 7 = .ok (.aload_n 0, 1) := by decide +kernel
theorem dX10_ridesInPeace_8 : decode cX10_ridesInPeace 8 = .ok (.getfield 35, 3) := by decide +kernel
theorem dX10_ridesInPeace_11 : decode cX10_ridesInPeace 11 = .ok (.getfield 88, 3) := by decide +kernel
theorem dX10_ridesInPeace_14 : decode cX10_ridesInPeace 14 = .ok (.iconst 1, 1) := by decide +kernel
theorem dX10_ridesInPeace_15 : decode cX10_ridesInPeace 15 = .ok (.isub, 1) := by decide +kernel
theorem dX10_ridesInPeace_16 : decode cX10_ridesInPeace 16 = .ok (.invokestatic 66, 3) := by decide +kernel
theorem dX10_ridesInPeace_19 : decode cX10_ridesInPeace 19 = .ok (.ifCond .ne 9, 3) := by decide +kernel
theorem dX10_ridesInPeace_22 : decode cX10_ridesInPeace 22 = .ok (.aload_n 0, 1) := by decide +kernel
theorem dX10_ridesInPeace_23 : decode cX10_ridesInPeace 23 = .ok (.iconst 1, 1) := by decide +kernel
theorem dX10_ridesInPeace_24 : decode cX10_ridesInPeace 24 = .ok (.invokevirtual 385, 3) := by decide +kernel
theorem dX10_ridesInPeace_27 : decode cX10_ridesInPeace 27 = .ok (.ireturn, 1) := by decide +kernel
theorem dX10_ridesInPeace_28 : decode cX10_ridesInPeace 28 = .ok (.aload_n 0, 1) := by decide +kernel
theorem dX10_ridesInPeace_29 : decode cX10_ridesInPeace 29 = .ok (.aload_n 0, 1) := by decide +kernel
theorem dX10_ridesInPeace_30 : decode cX10_ridesInPeace 30 = .ok (.getfield 115, 3) := by decide +kernel
theorem dX10_ridesInPeace_33 : decode cX10_ridesInPeace 33 = .ok (.invokevirtual 182, 3) := by decide +kernel
theorem dX10_ridesInPeace_36 : decode cX10_ridesInPeace 36 = .ok (.ifCond .ne 11, 3) := by decide +kernel
theorem dX10_ridesInPeace_39 : decode cX10_ridesInPeace 39 = .ok (.aload_n 0, 1) := by decide +kernel
theorem dX10_ridesInPeace_40 : decode cX10_ridesInPeace 40 = .ok (.iconst 2, 1) := by decide +kernel
theorem dX10_ridesInPeace_41 : decode cX10_ridesInPeace 41 = .ok (.invokevirtual 385, 3) := by decide +kernel
theorem dX10_ridesInPeace_44 : decode cX10_ridesInPeace 44 = .ok (.goto 11, 3) := by decide +kernel
theorem dX10_ridesInPeace_47 : decode cX10_ridesInPeace 47 = .ok (.aload_n 0, 1) := by decide +kernel
theorem dX10_ridesInPeace_48 : decode cX10_ridesInPeace 48 = .ok (.getfield 100, 3) := by decide +kernel
theorem dX10_ridesInPeace_51 : decode cX10_ridesInPeace 51 = .ok (.iload_n 1, 1) := by decide +kernel
theorem dX10_ridesInPeace_52 : decode cX10_ridesInPeace 52 = .ok (.invokestatic 74, 3) := by decide +kernel
theorem dX10_ridesInPeace_55 : decode cX10_ridesInPeace 55 = .ok (.ireturn, 1) := by decide +kernel
theorem dX10_ridersInPeace_0 : decode cX10_ridersInPeace 0 = .ok (.aload_n 0, 1) := by decide +kernel
theorem dX10_ridersInPeace_1 : decode cX10_ridersInPeace 1 = .ok (.iconst 0, 1) := by decide +kernel
theorem dX10_ridersInPeace_2 : decode cX10_ridersInPeace 2 = .ok (.putfield 60, 3) := by decide +kernel
theorem dX10_ridersInPeace_5 : decode cX10_ridersInPeace 5 = .ok (.aload_n 0, 1) := by decide +kernel
theorem dX10_ridersInPeace_6 : decode cX10_ridersInPeace 6 = .ok (.aload_n 0, 1) := by decide +kernel
theorem dX10_ridersInPeace_7 : decode cX10_ridersInPeace 7 = .ok (.getfield 115, 3) := by decide +kernel
theorem dX10_ridersInPeace_10 : decode cX10_ridersInPeace 10 = .ok (.invokevirtual 182, 3) := by decide +kernel
theorem dX10_ridersInPeace_13 : decode cX10_ridersInPeace 13 = .ok (.ifCond .ne 11, 3) := by decide +kernel
theorem dX10_ridersInPeace_16 : decode cX10_ridersInPeace 16 = .ok (.aload_n 0, 1) := by decide +kernel
theorem dX10_ridersInPeace_17 : decode cX10_ridersInPeace 17 = .ok (.iconst 1, 1) := by decide +kernel
theorem dX10_ridersInPeace_18 : decode cX10_ridersInPeace 18 = .ok (.invokevirtual 367, 3) := by decide +kernel
theorem dX10_ridersInPeace_21 : decode cX10_ridersInPeace 21 = .ok (.goto 10, 3) := by decide +kernel
theorem dX10_ridersInPeace_24 : decode cX10_ridersInPeace 24 = .ok (.aload_n 0, 1) := by decide +kernel
theorem dX10_ridersInPeace_25 : decode cX10_ridersInPeace 25 = .ok (.getfield 100, 3) := by decide +kernel
theorem dX10_ridersInPeace_28 : decode cX10_ridersInPeace 28 = .ok (.invokestatic 106, 3) := by decide +kernel
theorem dX10_ridersInPeace_31 : decode cX10_ridersInPeace 31 = .ok (.ireturn, 1) := by decide +kernel
theorem dX10_blamed_0 : decode cX10_blamed 0 = .ok (.aload_n 0, 1) := by decide +kernel
theorem dX10_blamed_1 : decode cX10_blamed 1 = .ok (.invokevirtual 127, 3) := by decide +kernel
theorem dX10_blamed_4 : decode cX10_blamed 4 = .ok (.iconst 0, 1) := by decide +kernel
theorem dX10_blamed_5 : decode cX10_blamed 5 = .ok (.istore_n 1, 1) := by decide +kernel
theorem dX10_blamed_6 : decode cX10_blamed 6 = .ok (.aload_n 0, 1) := by decide +kernel
theorem dX10_blamed_7 : decode cX10_blamed 7 = .ok (.iconst 2, 1) := by decide +kernel
theorem dX10_blamed_8 : decode cX10_blamed 8 = .ok (.iload_n 1, 1) := by decide +kernel
theorem dX10_blamed_9 : decode cX10_blamed 9 = .ok (.imul, 1) := by decide +kernel
theorem dX10_blamed_10 : decode cX10_blamed 10 = .ok (.iconst 2, 1) := by decide +kernel
theorem dX10_blamed_11 : decode cX10_blamed 11 = .ok (.iload_n 1, 1) := by decide +kernel
theorem dX10_blamed_12 : decode cX10_blamed 12 = .ok (.imul, 1) := by decide +kernel
theorem dX10_blamed_13 : decode cX10_blamed 13 = .ok (.iconst 1, 1) := by decide +kernel
theorem dX10_blamed_14 : decode cX10_blamed 14 = .ok (.iadd, 1) := by decide +kernel
theorem dX10_blamed_15 : decode cX10_blamed 15 = .ok (.invokevirtual 124, 3) := by decide +kernel
theorem dX10_blamed_18 : decode cX10_blamed 18 = .ok (.ifCond .ne 9, 3) := by decide +kernel
theorem dX10_blamed_21 : decode cX10_blamed 21 = .ok (.iinc 1 1, 3) := by decide +kernel
theorem dX10_blamed_24 : decode cX10_blamed 24 = .ok (.goto (-18), 3) := by decide +kernel
theorem dX10_blamed_27 : decode cX10_blamed 27 = .ok (.iload_n 1, 1) := by decide +kernel
theorem dX10_blamed_28 : decode cX10_blamed 28 = .ok (.ireturn, 1) := by decide +kernel
theorem dX10_blamedFamily_0 : decode cX10_blamedFamily 0 = .ok (.aload_n 0, 1) := by decide +kernel
theorem dX10_blamedFamily_1 : decode cX10_blamedFamily 1 = .ok (.iconst 0, 1) := by decide +kernel
theorem dX10_blamedFamily_2 : decode cX10_blamedFamily 2 = .ok (.putfield 60, 3) := by decide +kernel
theorem dX10_blamedFamily_5 : decode cX10_blamedFamily 5 = .ok (.aload_n 0, 1) := by decide +kernel
theorem dX10_blamedFamily_6 : decode cX10_blamedFamily 6 = .ok (.aload_n 0, 1) := by decide +kernel
theorem dX10_blamedFamily_7 : decode cX10_blamedFamily 7 = .ok (.getfield 115, 3) := by decide +kernel
theorem dX10_blamedFamily_10 : decode cX10_blamedFamily 10 = .ok (.invokevirtual 182, 3) := by decide +kernel
theorem dX10_blamedFamily_13 : decode cX10_blamedFamily 13 = .ok (.ifCond .le 11, 3) := by decide +kernel
theorem dX10_blamedFamily_16 : decode cX10_blamedFamily 16 = .ok (.aload_n 0, 1) := by decide +kernel
theorem dX10_blamedFamily_17 : decode cX10_blamedFamily 17 = .ok (.iconst 1, 1) := by decide +kernel
theorem dX10_blamedFamily_18 : decode cX10_blamedFamily 18 = .ok (.invokevirtual 367, 3) := by decide +kernel
theorem dX10_blamedFamily_21 : decode cX10_blamedFamily 21 = .ok (.goto 7, 3) := by decide +kernel
theorem dX10_blamedFamily_24 : decode cX10_blamedFamily 24 = .ok (.aload_n 0, 1) := by decide +kernel
theorem dX10_blamedFamily_25 : decode cX10_blamedFamily 25 = .ok (.invokevirtual 403, 3) := by decide +kernel
theorem dX10_blamedFamily_28 : decode cX10_blamedFamily 28 = .ok (.ireturn, 1) := by decide +kernel
theorem dX10_turned_0 : decode cX10_turned 0 = .ok (.aload_n 0, 1) := by decide +kernel
theorem dX10_turned_1 : decode cX10_turned 1 = .ok (.dup, 1) := by decide +kernel
theorem dX10_turned_2 : decode cX10_turned 2 = .ok (.getfield 115, 3) := by decide +kernel
theorem dX10_turned_5 : decode cX10_turned 5 = .ok (.iconst 1, 1) := by decide +kernel
theorem dX10_turned_6 : decode cX10_turned 6 = .ok (.iload_n 1, 1) := by decide +kernel
theorem dX10_turned_7 : decode cX10_turned 7 = .ok (.ishl, 1) := by decide +kernel
theorem dX10_turned_8 : decode cX10_turned 8 = .ok (.ixor, 1) := by decide +kernel
theorem dX10_turned_9 : decode cX10_turned 9 = .ok (.putfield 115, 3) := by decide +kernel
theorem dX10_turned_12 : decode cX10_turned 12 = .ok (.aload_n 0, 1) := by decide +kernel
theorem dX10_turned_13 : decode cX10_turned 13 = .ok (.getfield 115, 3) := by decide +kernel
theorem dX10_turned_16 : decode cX10_turned 16 = .ok (.invokestatic 106, 3) := by decide +kernel
theorem dX10_turned_19 : decode cX10_turned 19 = .ok (.ireturn, 1) := by decide +kernel
theorem dX10_breakStatement_0 : decode cX10_breakStatement 0 = .ok (.aload_n 0, 1) := by decide +kernel
theorem dX10_breakStatement_1 : decode cX10_breakStatement 1 = .ok (.iconst 0, 1) := by decide +kernel
theorem dX10_breakStatement_2 : decode cX10_breakStatement 2 = .ok (.putfield 60, 3) := by decide +kernel
theorem dX10_breakStatement_5 : decode cX10_breakStatement 5 = .ok (.aload_n 0, 1) := by decide +kernel
theorem dX10_breakStatement_6 : decode cX10_breakStatement 6 = .ok (.iload_n 1, 1) := by decide +kernel
theorem dX10_breakStatement_7 : decode cX10_breakStatement 7 = .ok (.invokevirtual 379, 3) := by decide +kernel
theorem dX10_breakStatement_10 : decode cX10_breakStatement 10 = .ok (.ifCond .ne 9, 3) := by decide +kernel
theorem dX10_breakStatement_13 : decode cX10_breakStatement 13 = .ok (.aload_n 0, 1) := by decide +kernel
theorem dX10_breakStatement_14 : decode cX10_breakStatement 14 = .ok (.iconst 1, 1) := by decide +kernel
theorem dX10_breakStatement_15 : decode cX10_breakStatement 15 = .ok (.invokevirtual 367, 3) := by decide +kernel
theorem dX10_breakStatement_18 : decode cX10_breakStatement 18 = .ok (.ireturn, 1) := by decide +kernel
theorem dX10_breakStatement_19 : decode cX10_breakStatement 19 = .ok (.aload_n 0, 1) := by decide +kernel
theorem dX10_breakStatement_20 : decode cX10_breakStatement 20 = .ok (.getfield 115, 3) := by decide +kernel
theorem dX10_breakStatement_23 : decode cX10_breakStatement 23 = .ok (.iload_n 1, 1) := by decide +kernel
theorem dX10_breakStatement_24 : decode cX10_breakStatement 24 = .ok (.invokestatic 74, 3) := by decide +kernel
theorem dX10_breakStatement_27 : decode cX10_breakStatement 27 = .ok (.ifCond .eq 11, 3) := by decide +kernel
theorem dX10_breakStatement_30 : decode cX10_breakStatement 30 = .ok (.aload_n 0, 1) := by decide +kernel
theorem dX10_breakStatement_31 : decode cX10_breakStatement 31 = .ok (.iload_n 1, 1) := by decide +kernel
theorem dX10_breakStatement_32 : decode cX10_breakStatement 32 = .ok (.invokevirtual 406, 3) := by decide +kernel
theorem dX10_breakStatement_35 : decode cX10_breakStatement 35 = .ok (.goto 8, 3) := by decide +kernel
theorem dX10_breakStatement_38 : decode cX10_breakStatement 38 = .ok (.aload_n 0, 1) := by decide +kernel
theorem dX10_breakStatement_39 : decode cX10_breakStatement 39 = .ok (.iconst 2, 1) := by decide +kernel
theorem dX10_breakStatement_40 : decode cX10_breakStatement 40 = .ok (.invokevirtual 367, 3) := by decide +kernel
theorem dX10_breakStatement_43 : decode cX10_breakStatement 43 = .ok (.ireturn, 1) := by decide +kernel
theorem dX10_renewStatement_0 : decode cX10_renewStatement 0 = .ok (.aload_n 0, 1) := by decide +kernel
theorem dX10_renewStatement_1 : decode cX10_renewStatement 1 = .ok (.iconst 0, 1) := by decide +kernel
theorem dX10_renewStatement_2 : decode cX10_renewStatement 2 = .ok (.putfield 60, 3) := by decide +kernel
theorem dX10_renewStatement_5 : decode cX10_renewStatement 5 = .ok (.aload_n 0, 1) := by decide +kernel
theorem dX10_renewStatement_6 : decode cX10_renewStatement 6 = .ok (.iload_n 1, 1) := by decide +kernel
theorem dX10_renewStatement_7 : decode cX10_renewStatement 7 = .ok (.invokevirtual 379, 3) := by decide +kernel
theorem dX10_renewStatement_10 : decode cX10_renewStatement 10 = .ok (.ifCond .ne 9, 3) := by decide +kernel
theorem dX10_renewStatement_13 : decode cX10_renewStatement 13 = .ok (.aload_n 0, 1) := by decide +kernel
theorem dX10_renewStatement_14 : decode cX10_renewStatement 14 = .ok (.iconst 1, 1) := by decide +kernel
theorem dX10_renewStatement_15 : decode cX10_renewStatement 15 = .ok (.invokevirtual 367, 3) := by decide +kernel
theorem dX10_renewStatement_18 : decode cX10_renewStatement 18 = .ok (.ireturn, 1) := by decide +kernel
theorem dX10_renewStatement_19 : decode cX10_renewStatement 19 = .ok (.aload_n 0, 1) := by decide +kernel
theorem dX10_renewStatement_20 : decode cX10_renewStatement 20 = .ok (.getfield 115, 3) := by decide +kernel
theorem dX10_renewStatement_23 : decode cX10_renewStatement 23 = .ok (.iload_n 1, 1) := by decide +kernel
theorem dX10_renewStatement_24 : decode cX10_renewStatement 24 = .ok (.invokestatic 74, 3) := by decide +kernel
theorem dX10_renewStatement_27 : decode cX10_renewStatement 27 = .ok (.ifCond .eq 11, 3) := by decide +kernel
theorem dX10_renewStatement_30 : decode cX10_renewStatement 30 = .ok (.aload_n 0, 1) := by decide +kernel
theorem dX10_renewStatement_31 : decode cX10_renewStatement 31 = .ok (.iconst 2, 1) := by decide +kernel
theorem dX10_renewStatement_32 : decode cX10_renewStatement 32 = .ok (.invokevirtual 367, 3) := by decide +kernel
theorem dX10_renewStatement_35 : decode cX10_renewStatement 35 = .ok (.goto 8, 3) := by decide +kernel
theorem dX10_renewStatement_38 : decode cX10_renewStatement 38 = .ok (.aload_n 0, 1) := by decide +kernel
theorem dX10_renewStatement_39 : decode cX10_renewStatement 39 = .ok (.iload_n 1, 1) := by decide +kernel
theorem dX10_renewStatement_40 : decode cX10_renewStatement 40 = .ok (.invokevirtual 406, 3) := by decide +kernel
theorem dX10_renewStatement_43 : decode cX10_renewStatement 43 = .ok (.ireturn, 1) := by decide +kernel
