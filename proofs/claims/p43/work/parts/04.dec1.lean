theorem dX0_init_0 : decode cX0_init 0 = .ok (.aload_n 0, 1) := by decide +kernel
theorem dX0_init_1 : decode cX0_init 1 = .ok (.invokespecial 3, 3) := by decide +kernel
theorem dX0_init_4 : decode cX0_init 4 = .ok (.aload_n 0, 1) := by decide +kernel
theorem dX0_init_5 : decode cX0_init 5 = .ok (.bipush 20, 2) := by decide +kernel
theorem dX0_init_7 : decode cX0_init 7 = .ok (.newarray .int, 2) := by decide +kernel
theorem dX0_init_9 : decode cX0_init 9 = .ok (.putfield 9, 3) := by decide +kernel
theorem dX0_init_12 : decode cX0_init 12 = .ok (.aload_n 0, 1) := by decide +kernel
theorem dX0_init_13 : decode cX0_init 13 = .ok (.bipush 20, 2) := by decide +kernel
theorem dX0_init_15 : decode cX0_init 15 = .ok (.newarray .int, 2) := by decide +kernel
theorem dX0_init_17 : decode cX0_init 17 = .ok (.putfield 15, 3) := by decide +kernel
theorem dX0_init_20 : decode cX0_init 20 = .ok (.aload_n 0, 1) := by decide +kernel
theorem dX0_init_21 : decode cX0_init 21 = .ok (.bipush 20, 2) := by decide +kernel
theorem dX0_init_23 : decode cX0_init 23 = .ok (.newarray .int, 2) := by decide +kernel
theorem dX0_init_25 : decode cX0_init 25 = .ok (.putfield 18, 3) := by decide +kernel
theorem dX0_init_28 : decode cX0_init 28 = .ok (.aload_n 0, 1) := by decide +kernel
theorem dX0_init_29 : decode cX0_init 29 = .ok (.bipush 20, 2) := by decide +kernel
theorem dX0_init_31 : decode cX0_init 31 = .ok (.newarray .int, 2) := by decide +kernel
theorem dX0_init_33 : decode cX0_init 33 = .ok (.putfield 21, 3) := by decide +kernel
theorem dX0_init_36 : decode cX0_init 36 = .ok (.aload_n 0, 1) := by decide +kernel
theorem dX0_init_37 : decode cX0_init 37 = .ok (.bipush 20, 2) := by decide +kernel
theorem dX0_init_39 : decode cX0_init 39 = .ok (.newarray .int, 2) := by decide +kernel
theorem dX0_init_41 : decode cX0_init 41 = .ok (.putfield 24, 3) := by decide +kernel
theorem dX0_init_44 : decode cX0_init 44 = .ok (.aload_n 0, 1) := by decide +kernel
theorem dX0_init_45 : decode cX0_init 45 = .ok (.bipush 16, 2) := by decide +kernel
theorem dX0_init_47 : decode cX0_init 47 = .ok (.newarray .int, 2) := by decide +kernel
theorem dX0_init_49 : decode cX0_init 49 = .ok (.putfield 27, 3) := by decide +kernel
theorem dX0_init_52 : decode cX0_init 52 = .ok (.aload_n 0, 1) := by decide +kernel
theorem dX0_init_53 : decode cX0_init 53 = .ok (.bipush 16, 2) := by decide +kernel
theorem dX0_init_55 : decode cX0_init 55 = .ok (.newarray .int, 2) := by decide +kernel
theorem dX0_init_57 : decode cX0_init 57 = .ok (.putfield 30, 3) := by decide +kernel
theorem dX0_init_60 : decode cX0_init 60 = .ok (.aload_n 0, 1) := by decide +kernel
theorem dX0_init_61 : decode cX0_init 61 = .ok (.bipush 16, 2) := by decide +kernel
theorem dX0_init_63 : decode cX0_init 63 = .ok (.newarray .int, 2) := by decide +kernel
theorem dX0_init_65 : decode cX0_init 65 = .ok (.putfield 33, 3) := by decide +kernel
theorem dX0_init_68 : decode cX0_init 68 = .ok (.aload_n 0, 1) := by decide +kernel
theorem dX0_init_69 : decode cX0_init 69 = .ok (.bipush 16, 2) := by decide +kernel
theorem dX0_init_71 : decode cX0_init 71 = .ok (.newarray .int, 2) := by decide +kernel
theorem dX0_init_73 : decode cX0_init 73 = .ok (.putfield 36, 3) := by decide +kernel
theorem dX0_init_76 : decode cX0_init 76 = .ok (.aload_n 0, 1) := by decide +kernel
theorem dX0_init_77 : decode cX0_init 77 = .ok (.sipush 400, 3) := by decide +kernel
theorem dX0_init_80 : decode cX0_init 80 = .ok (.newarray .int, 2) := by decide +kernel
theorem dX0_init_82 : decode cX0_init 82 = .ok (.putfield 39, 3) := by decide +kernel
theorem dX0_init_85 : decode cX0_init 85 = .ok (.aload_n 0, 1) := by decide +kernel
theorem dX0_init_86 : decode cX0_init 86 = .ok (.sipush 400, 3) := by decide +kernel
theorem dX0_init_89 : decode cX0_init 89 = .ok (.newarray .int, 2) := by decide +kernel
theorem dX0_init_91 : decode cX0_init 91 = .ok (.putfield 42, 3) := by decide +kernel
theorem dX0_init_94 : decode cX0_init 94 = .ok (.aload_n 0, 1) := by decide +kernel
theorem dX0_init_95 : decode cX0_init 95 = .ok (.sipush 400, 3) := by decide +kernel
theorem dX0_init_98 : decode cX0_init 98 = .ok (.newarray .int, 2) := by decide +kernel
theorem dX0_init_100 : decode cX0_init 100 = .ok (.putfield 45, 3) := by decide +kernel
theorem dX0_init_103 : decode cX0_init 103 = .ok (.return_, 1) := by decide +kernel
theorem dX0_clear_0 : decode cX0_clear 0 = .ok (.aload_n 0, 1) := by decide +kernel
theorem dX0_clear_1 : decode cX0_clear 1 = .ok (.iconst 0, 1) := by decide +kernel
theorem dX0_clear_2 : decode cX0_clear 2 = .ok (.putfield 48, 3) := by decide +kernel
theorem dX0_clear_5 : decode cX0_clear 5 = .ok (.aload_n 0, 1) := by decide +kernel
theorem dX0_clear_6 : decode cX0_clear 6 = .ok (.iconst 0, 1) := by decide +kernel
theorem dX0_clear_7 : decode cX0_clear 7 = .ok (.putfield 52, 3) := by decide +kernel
theorem dX0_clear_10 : decode cX0_clear 10 = .ok (.aload_n 0, 1) := by decide +kernel
theorem dX0_clear_11 : decode cX0_clear 11 = .ok (.iconst 0, 1) := by decide +kernel
theorem dX0_clear_12 : decode cX0_clear 12 = .ok (.putfield 55, 3) := by decide +kernel
theorem dX0_clear_15 : decode cX0_clear 15 = .ok (.aload_n 0, 1) := by decide +kernel
theorem dX0_clear_16 : decode cX0_clear 16 = .ok (.iconst 0, 1) := by decide +kernel
theorem dX0_clear_17 : decode cX0_clear 17 = .ok (.putfield 58, 3) := by decide +kernel
theorem dX0_clear_20 : decode cX0_clear 20 = .ok (.return_, 1) := by decide +kernel
theorem dX0_copyFrom_0 : decode cX0_copyFrom 0 = .ok (.aload_n 0, 1) := by decide +kernel
theorem dX0_copyFrom_1 : decode cX0_copyFrom 1 = .ok (.aload_n 1, 1) := by decide +kernel
theorem dX0_copyFrom_2 : decode cX0_copyFrom 2 = .ok (.getfield 48, 3) := by decide +kernel
theorem dX0_copyFrom_5 : decode cX0_copyFrom 5 = .ok (.putfield 48, 3) := by decide +kernel
theorem dX0_copyFrom_8 : decode cX0_copyFrom 8 = .ok (.aload_n 0, 1) := by decide +kernel
theorem dX0_copyFrom_9 : decode cX0_copyFrom 9 = .ok (.aload_n 1, 1) := by decide +kernel
theorem dX0_copyFrom_10 : decode cX0_copyFrom 10 = .ok (.getfield 52, 3) := by decide +kernel
theorem dX0_copyFrom_13 : decode cX0_copyFrom 13 = .ok (.putfield 52, 3) := by decide +kernel
theorem dX0_copyFrom_16 : decode cX0_copyFrom 16 = .ok (.aload_n 0, 1) := by decide +kernel
theorem dX0_copyFrom_17 : decode cX0_copyFrom 17 = .ok (.aload_n 1, 1) := by decide +kernel
theorem dX0_copyFrom_18 : decode cX0_copyFrom 18 = .ok (.getfield 55, 3) := by decide +kernel
theorem dX0_copyFrom_21 : decode cX0_copyFrom 21 = .ok (.putfield 55, 3) := by decide +kernel
theorem dX0_copyFrom_24 : decode cX0_copyFrom 24 = .ok (.aload_n 0, 1) := by decide +kernel
theorem dX0_copyFrom_25 : decode cX0_copyFrom 25 = .ok (.aload_n 1, 1) := by decide +kernel
theorem dX0_copyFrom_26 : decode cX0_copyFrom 26 = .ok (.getfield 58, 3) := by decide +kernel
theorem dX0_copyFrom_29 : decode cX0_copyFrom 29 = .ok (.putfield 58, 3) := by decide +kernel
theorem dX0_copyFrom_32 : decode cX0_copyFrom 32 = .ok (.aload_n 1, 1) := by decide +kernel
theorem dX0_copyFrom_33 : decode cX0_copyFrom 33 = .ok (.getfield 9, 3) := by decide +kernel
theorem dX0_copyFrom_36 : decode cX0_copyFrom 36 = .ok (.aload_n 0, 1) := by decide +kernel
theorem dX0_copyFrom_37 : decode cX0_copyFrom 37 = .ok (.getfield 9, 3) := by decide +kernel
theorem dX0_copyFrom_40 : decode cX0_copyFrom 40 = .ok (.aload_n 0, 1) := by decide +kernel
theorem dX0_copyFrom_41 : decode cX0_copyFrom 41 = .ok (.getfield 52, 3) := by decide +kernel
theorem dX0_copyFrom_44 : decode cX0_copyFrom 44 = .ok (.invokestatic 61, 3) := by decide +kernel
theorem dX0_copyFrom_47 : decode cX0_copyFrom 47 = .ok (.aload_n 1, 1) := by decide +kernel
theorem dX0_copyFrom_48 : decode cX0_copyFrom 48 = .ok (.getfield 15, 3) := by decide +kernel
theorem dX0_copyFrom_51 : decode cX0_copyFrom 51 = .ok (.aload_n 0, 1) := by decide +kernel
theorem dX0_copyFrom_52 : decode cX0_copyFrom 52 = .ok (.getfield 15, 3) := by decide +kernel
theorem dX0_copyFrom_55 : decode cX0_copyFrom 55 = .ok (.aload_n 0, 1) := by decide +kernel
theorem dX0_copyFrom_56 : decode cX0_copyFrom 56 = .ok (.getfield 52, 3) := by decide +kernel
theorem dX0_copyFrom_59 : decode cX0_copyFrom 59 = .ok (.invokestatic 61, 3) := by decide +kernel
theorem dX0_copyFrom_62 : decode cX0_copyFrom 62 = .ok (.aload_n 1, 1) := by decide +kernel
theorem dX0_copyFrom_63 : decode cX0_copyFrom 63 = .ok (.getfield 18, 3) := by decide +kernel
theorem dX0_copyFrom_66 : decode cX0_copyFrom 66 = .ok (.aload_n 0, 1) := by decide +kernel
theorem dX0_copyFrom_67 : decode cX0_copyFrom 67 = .ok (.getfield 18, 3) := by decide +kernel
theorem dX0_copyFrom_70 : decode cX0_copyFrom 70 = .ok (.aload_n 0, 1) := by decide +kernel
theorem dX0_copyFrom_71 : decode cX0_copyFrom 71 = .ok (.getfield 52, 3) := by decide +kernel
theorem dX0_copyFrom_74 : decode cX0_copyFrom 74 = .ok (.invokestatic 61, 3) := by decide +kernel
theorem dX0_copyFrom_77 : decode cX0_copyFrom 77 = .ok (.aload_n 1, 1) := by decide +kernel
theorem dX0_copyFrom_78 : decode cX0_copyFrom 78 = .ok (.getfield 21, 3) := by decide +kernel
theorem dX0_copyFrom_81 : decode cX0_copyFrom 81 = .ok (.aload_n 0, 1) := by decide +kernel
theorem dX0_copyFrom_82 : decode cX0_copyFrom 82 = .ok (.getfield 21, 3) := by decide +kernel
theorem dX0_copyFrom_85 : decode cX0_copyFrom 85 = .ok (.aload_n 0, 1) := by decide +kernel
theorem dX0_copyFrom_86 : decode cX0_copyFrom 86 = .ok (.getfield 52, 3) := by decide +kernel
theorem dX0_copyFrom_89 : decode cX0_copyFrom 89 = .ok (.invokestatic 61, 3) := by decide +kernel
theorem dX0_copyFrom_92 : decode cX0_copyFrom 92 = .ok (.aload_n 1, 1) := by decide +kernel
theorem dX0_copyFrom_93 : decode cX0_copyFrom 93 = .ok (.getfield 24, 3) := by decide +kernel
theorem dX0_copyFrom_96 : decode cX0_copyFrom 96 = .ok (.aload_n 0, 1) := by decide +kernel
theorem dX0_copyFrom_97 : decode cX0_copyFrom 97 = .ok (.getfield 24, 3) := by decide +kernel
theorem dX0_copyFrom_100 : decode cX0_copyFrom 100 = .ok (.aload_n 0, 1) := by decide +kernel
theorem dX0_copyFrom_101 : decode cX0_copyFrom 101 = .ok (.getfield 52, 3) := by decide +kernel
theorem dX0_copyFrom_104 : decode cX0_copyFrom 104 = .ok (.invokestatic 61, 3) := by decide +kernel
theorem dX0_copyFrom_107 : decode cX0_copyFrom 107 = .ok (.aload_n 1, 1) := by decide +kernel
theorem dX0_copyFrom_108 : decode cX0_copyFrom 108 = .ok (.getfield 27, 3) := by decide +kernel
theorem dX0_copyFrom_111 : decode cX0_copyFrom 111 = .ok (.aload_n 0, 1) := by decide +kernel
theorem dX0_copyFrom_112 : decode cX0_copyFrom 112 = .ok (.getfield 27, 3) := by decide +kernel
theorem dX0_copyFrom_115 : decode cX0_copyFrom 115 = .ok (.aload_n 0, 1) := by decide +kernel
theorem dX0_copyFrom_116 : decode cX0_copyFrom 116 = .ok (.getfield 55, 3) := by decide +kernel
theorem dX0_copyFrom_119 : decode cX0_copyFrom 119 = .ok (.invokestatic 61, 3) := by decide +kernel
theorem dX0_copyFrom_122 : decode cX0_copyFrom 122 = .ok (.aload_n 1, 1) := by decide +kernel
theorem dX0_copyFrom_123 : decode cX0_copyFrom 123 = .ok (.getfield 30, 3) := by decide +kernel
theorem dX0_copyFrom_126 : decode cX0_copyFrom 126 = .ok (.aload_n 0, 1) := by decide +kernel
theorem dX0_copyFrom_127 : decode cX0_copyFrom 127 = .ok (.getfield 30, 3) := by decide +kernel
theorem dX0_copyFrom_130 : decode cX0_copyFrom 130 = .ok (.aload_n 0, 1) := by decide +kernel
theorem dX0_copyFrom_131 : decode cX0_copyFrom 131 = .ok (.getfield 55, 3) := by decide +kernel
theorem dX0_copyFrom_134 : decode cX0_copyFrom 134 = .ok (.invokestatic 61, 3) := by decide +kernel
theorem dX0_copyFrom_137 : decode cX0_copyFrom 137 = .ok (.aload_n 1, 1) := by decide +kernel
theorem dX0_copyFrom_138 : decode cX0_copyFrom 138 = .ok (.getfield 33, 3) := by decide +kernel
theorem dX0_copyFrom_141 : decode cX0_copyFrom 141 = .ok (.aload_n 0, 1) := by decide +kernel
theorem dX0_copyFrom_142 : decode cX0_copyFrom 142 = .ok (.getfield 33, 3) := by decide +kernel
theorem dX0_copyFrom_145 : decode cX0_copyFrom 145 = .ok (.aload_n 0, 1) := by decide +kernel
theorem dX0_copyFrom_146 : decode cX0_copyFrom 146 = .ok (.getfield 55, 3) := by decide +kernel
theorem dX0_copyFrom_149 : decode cX0_copyFrom 149 = .ok (.invokestatic 61, 3) := by decide +kernel
theorem dX0_copyFrom_152 : decode cX0_copyFrom 152 = .ok (.aload_n 1, 1) := by decide +kernel
theorem dX0_copyFrom_153 : decode cX0_copyFrom 153 = .ok (.getfield 36, 3) := by decide +kernel
theorem dX0_copyFrom_156 : decode cX0_copyFrom 156 = .ok (.aload_n 0, 1) := by decide +kernel
theorem dX0_copyFrom_157 : decode cX0_copyFrom 157 = .ok (.getfield 36, 3) := by decide +kernel
theorem dX0_copyFrom_160 : decode cX0_copyFrom 160 = .ok (.aload_n 0, 1) := by decide +kernel
theorem dX0_copyFrom_161 : decode cX0_copyFrom 161 = .ok (.getfield 55, 3) := by decide +kernel
theorem dX0_copyFrom_164 : decode cX0_copyFrom 164 = .ok (.invokestatic 61, 3) := by decide +kernel
theorem dX0_copyFrom_167 : decode cX0_copyFrom 167 = .ok (.aload_n 1, 1) := by decide +kernel
theorem dX0_copyFrom_168 : decode cX0_copyFrom 168 = .ok (.getfield 39, 3) := by decide +kernel
theorem dX0_copyFrom_171 : decode cX0_copyFrom 171 = .ok (.aload_n 0, 1) := by decide +kernel
theorem dX0_copyFrom_172 : decode cX0_copyFrom 172 = .ok (.getfield 39, 3) := by decide +kernel
theorem dX0_copyFrom_175 : decode cX0_copyFrom 175 = .ok (.aload_n 0, 1) := by decide +kernel
theorem dX0_copyFrom_176 : decode cX0_copyFrom 176 = .ok (.getfield 58, 3) := by decide +kernel
theorem dX0_copyFrom_179 : decode cX0_copyFrom 179 = .ok (.invokestatic 61, 3) := by decide +kernel
theorem dX0_copyFrom_182 : decode cX0_copyFrom 182 = .ok (.aload_n 1, 1) := by decide +kernel
theorem dX0_copyFrom_183 : decode cX0_copyFrom 183 = .ok (.getfield 42, 3) := by decide +kernel
theorem dX0_copyFrom_186 : decode cX0_copyFrom 186 = .ok (.aload_n 0, 1) := by decide +kernel
theorem dX0_copyFrom_187 : decode cX0_copyFrom 187 = .ok (.getfield 42, 3) := by decide +kernel
theorem dX0_copyFrom_190 : decode cX0_copyFrom 190 = .ok (.aload_n 0, 1) := by decide +kernel
theorem dX0_copyFrom_191 : decode cX0_copyFrom 191 = .ok (.getfield 58, 3) := by decide +kernel
theorem dX0_copyFrom_194 : decode cX0_copyFrom 194 = .ok (.invokestatic 61, 3) := by decide +kernel
theorem dX0_copyFrom_197 : decode cX0_copyFrom 197 = .ok (.aload_n 1, 1) := by decide +kernel
theorem dX0_copyFrom_198 : decode cX0_copyFrom 198 = .ok (.getfield 45, 3) := by decide +kernel
theorem dX0_copyFrom_201 : decode cX0_copyFrom 201 = .ok (.aload_n 0, 1) := by decide +kernel
theorem dX0_copyFrom_202 : decode cX0_copyFrom 202 = .ok (.getfield 45, 3) := by decide +kernel
theorem dX0_copyFrom_205 : decode cX0_copyFrom 205 = .ok (.aload_n 0, 1) := by decide +kernel
theorem dX0_copyFrom_206 : decode cX0_copyFrom 206 = .ok (.getfield 58, 3) := by decide +kernel
theorem dX0_copyFrom_209 : decode cX0_copyFrom 209 = .ok (.invokestatic 61, 3) := by decide +kernel
theorem dX0_copyFrom_212 : decode cX0_copyFrom 212 = .ok (.return_, 1) := by decide +kernel
theorem dX0_copy_0 : decode cX0_copy 0 = .ok (.iconst 0, 1) := by decide +kernel
theorem dX0_copy_1 : decode cX0_copy 1 = .ok (.istore_n 3, 1) := by decide +kernel
theorem dX0_copy_2 : decode cX0_copy 2 = .ok (.iload_n 3, 1) := by decide +kernel
theorem dX0_copy_3 : decode cX0_copy 3 = .ok (.iload_n 2, 1) := by decide +kernel
theorem dX0_copy_4 : decode cX0_copy 4 = .ok (.if_icmp .ge 27, 3) := by decide +kernel
theorem dX0_copy_7 : decode cX0_copy 7 = .ok (.iload_n 3, 1) := by decide +kernel
theorem dX0_copy_8 : decode cX0_copy 8 = .ok (.aload_n 0, 1) := by decide +kernel
theorem dX0_copy_9 : decode cX0_copy 9 = .ok (.arraylength, 1) := by decide +kernel
theorem dX0_copy_10 : decode cX0_copy 10 = .ok (.if_icmp .ge 21, 3) := by decide +kernel
theorem dX0_copy_13 : decode cX0_copy 13 = .ok (.iload_n 3, 1) := by decide +kernel
theorem dX0_copy_14 : decode cX0_copy 14 = .ok (.aload_n 1, 1) := by decide +kernel
theorem dX0_copy_15 : decode cX0_copy 15 = .ok (.arraylength, 1) := by decide +kernel
theorem dX0_copy_16 : decode cX0_copy 16 = .ok (.if_icmp .ge 15, 3) := by decide +kernel
theorem dX0_copy_19 : decode cX0_copy 19 = .ok (.aload_n 1, 1) := by decide +kernel
theorem dX0_copy_20 : decode cX0_copy 20 = .ok (.iload_n 3, 1) := by decide +kernel
theorem dX0_copy_21 : decode cX0_copy 21 = .ok (.aload_n 0, 1) := by decide +kernel
theorem dX0_copy_22 : decode cX0_copy 22 = .ok (.iload_n 3, 1) := by decide +kernel
theorem dX0_copy_23 : decode cX0_copy 23 = .ok (.iaload, 1) := by decide +kernel
theorem dX0_copy_24 : decode cX0_copy 24 = .ok (.iastore, 1) := by decide +kernel
theorem dX0_copy_25 : decode cX0_copy 25 = .ok (.iinc 3 1, 3) := by decide +kernel
theorem dX0_copy_28 : decode cX0_copy 28 = .ok (.goto (-26), 3) := by decide +kernel
theorem dX0_copy_31 : decode cX0_copy 31 = .ok (.return_, 1) := by decide +kernel
theorem dX0_entry_0 : decode cX0_entry 0 = .ok (.iload_n 1, 1) := by decide +kernel
theorem dX0_entry_1 : decode cX0_entry 1 = .ok (.ifCond .lt 15, 3) := by decide +kernel
theorem dX0_entry_4 : decode cX0_entry 4 = .ok (.iload_n 1, 1) := by decide +kernel
theorem dX0_entry_5 : decode cX0_entry 5 = .ok (.aload_n 0, 1) := by decide +kernel
theorem dX0_entry_6 : decode cX0_entry 6 = .ok (.arraylength, 1) := by decide +kernel
theorem dX0_entry_7 : decode cX0_entry 7 = .ok (.if_icmp .ge 9, 3) := by decide +kernel
theorem dX0_entry_10 : decode cX0_entry 10 = .ok (.aload_n 0, 1) := by decide +kernel
theorem dX0_entry_11 : decode cX0_entry 11 = .ok (.iload_n 1, 1) := by decide +kernel
theorem dX0_entry_12 : decode cX0_entry 12 = .ok (.iaload, 1) := by decide +kernel
theorem dX0_entry_13 : decode cX0_entry 13 = .ok (.goto 4, 3) := by decide +kernel
theorem dX0_entry_16 : decode cX0_entry 16 = .ok (.iconst 0, 1) := by decide +kernel
theorem dX0_entry_17 : decode cX0_entry 17 = .ok (.ireturn, 1) := by decide +kernel
theorem dX0_addStatement_0 : decode cX0_addStatement 0 = .ok (.aload_n 0, 1) := by decide +kernel
theorem dX0_addStatement_1 : decode cX0_addStatement 1 = .ok (.getfield 52, 3) := by decide +kernel
theorem dX0_addStatement_4 : decode cX0_addStatement 4 = .ok (.ifCond .lt 98, 3) := by decide +kernel
theorem dX0_addStatement_7 : decode cX0_addStatement 7 = .ok (.aload_n 0, 1) := by decide +kernel
theorem dX0_addStatement_8 : decode cX0_addStatement 8 = .ok (.getfield 52, 3) := by decide +kernel
theorem dX0_addStatement_11 : decode cX0_addStatement 11 = .ok (.bipush 20, 2) := by decide +kernel
theorem dX0_addStatement_13 : decode cX0_addStatement 13 = .ok (.if_icmp .ge 89, 3) := by decide +kernel
theorem dX0_addStatement_16 : decode cX0_addStatement 16 = .ok (.aload_n 0, 1) := by decide +kernel
theorem dX0_addStatement_17 : decode cX0_addStatement 17 = .ok (.getfield 9, 3) := by decide +kernel
theorem dX0_addStatement_20 : decode cX0_addStatement 20 = .ok (.aload_n 0, 1) := by decide +kernel
theorem dX0_addStatement_21 : decode cX0_addStatement 21 = .ok (.getfield 52, 3) := by decide +kernel
theorem dX0_addStatement_24 : decode cX0_addStatement 24 = .ok (.iload_n 1, 1) := by decide +kernel
theorem dX0_addStatement_25 : decode cX0_addStatement 25 = .ok (.iastore, 1) := by decide +kernel
theorem dX0_addStatement_26 : decode cX0_addStatement 26 = .ok (.aload_n 0, 1) := by decide +kernel
theorem dX0_addStatement_27 : decode cX0_addStatement 27 = .ok (.getfield 15, 3) := by decide +kernel
theorem dX0_addStatement_30 : decode cX0_addStatement 30 = .ok (.aload_n 0, 1) := by decide +kernel
theorem dX0_addStatement_31 : decode cX0_addStatement 31 = .ok (.getfield 52, 3) := by decide +kernel
theorem dX0_addStatement_34 : decode cX0_addStatement 34 = .ok (.iload_n 2, 1) := by decide +kernel
theorem dX0_addStatement_35 : decode cX0_addStatement 35 = .ok (.iastore, 1) := by decide +kernel
theorem dX0_addStatement_36 : decode cX0_addStatement 36 = .ok (.aload_n 0, 1) := by decide +kernel
theorem dX0_addStatement_37 : decode cX0_addStatement 37 = .ok (.getfield 18, 3) := by decide +kernel
theorem dX0_addStatement_40 : decode cX0_addStatement 40 = .ok (.aload_n 0, 1) := by decide +kernel
theorem dX0_addStatement_41 : decode cX0_addStatement 41 = .ok (.getfield 52, 3) := by decide +kernel
theorem dX0_addStatement_44 : decode cX0_addStatement 44 = .ok (.iload_n 3, 1) := by decide +kernel
theorem dX0_addStatement_45 : decode cX0_addStatement 45 = .ok (.iastore, 1) := by decide +kernel
theorem dX0_addStatement_46 : decode cX0_addStatement 46 = .ok (.aload_n 0, 1) := by decide +kernel
theorem dX0_addStatement_47 : decode cX0_addStatement 47 = .ok (.getfield 21, 3) := by decide +kernel
theorem dX0_addStatement_50 : decode cX0_addStatement 50 = .ok (.aload_n 0, 1) := by decide +kernel
theorem dX0_addStatement_51 : decode cX0_addStatement 51 = .ok (.getfield 52, 3) := by decide +kernel
theorem dX0_addStatement_54 : decode cX0_addStatement 54 = .ok (.iload_n 1, 1) := by decide +kernel
theorem dX0_addStatement_55 : decode cX0_addStatement 55 = .ok (.ifCond .eq 8, 3) := by decide +kernel
theorem dX0_addStatement_58 : decode cX0_addStatement 58 = .ok (.iload_n 1, 1) := by decide +kernel
theorem dX0_addStatement_59 : decode cX0_addStatement 59 = .ok (.iconst 2, 1) := by decide +kernel
theorem dX0_addStatement_60 : decode cX0_addStatement 60 = .ok (.if_icmp .ne 9, 3) := by decide +kernel
theorem dX0_addStatement_63 : decode cX0_addStatement 63 = .ok (.iload_n 2, 1) := by decide +kernel
theorem dX0_addStatement_64 : decode cX0_addStatement 64 = .ok (.iconst 1, 1) := by decide +kernel
theorem dX0_addStatement_65 : decode cX0_addStatement 65 = .ok (.ixor, 1) := by decide +kernel
theorem dX0_addStatement_66 : decode cX0_addStatement 66 = .ok (.goto 4, 3) := by decide +kernel
theorem dX0_addStatement_69 : decode cX0_addStatement 69 = .ok (.iload_n 2, 1) := by decide +kernel
theorem dX0_addStatement_70 : decode cX0_addStatement 70 = .ok (.iastore, 1) := by decide +kernel
theorem dX0_addStatement_71 : decode cX0_addStatement 71 = .ok (.aload_n 0, 1) := by decide +kernel
theorem dX0_addStatement_72 : decode cX0_addStatement 72 = .ok (.getfield 24, 3) := by decide +kernel
theorem dX0_addStatement_75 : decode cX0_addStatement 75 = .ok (.aload_n 0, 1) := by decide +kernel
theorem dX0_addStatement_76 : decode cX0_addStatement 76 = .ok (.getfield 52, 3) := by decide +kernel
theorem dX0_addStatement_79 : decode cX0_addStatement 79 = .ok (.iload_n 1, 1) := by decide +kernel
theorem dX0_addStatement_80 : decode cX0_addStatement 80 = .ok (.iconst 2, 1) := by decide +kernel
theorem dX0_addStatement_81 : decode cX0_addStatement 81 = .ok (.if_icmp .ne 9, 3) := by decide +kernel
theorem dX0_addStatement_84 : decode cX0_addStatement 84 = .ok (.iload_n 3, 1) := by decide +kernel
theorem dX0_addStatement_85 : decode cX0_addStatement 85 = .ok (.iconst 1, 1) := by decide +kernel
theorem dX0_addStatement_86 : decode cX0_addStatement 86 = .ok (.ixor, 1) := by decide +kernel
theorem dX0_addStatement_87 : decode cX0_addStatement 87 = .ok (.goto 4, 3) := by decide +kernel
theorem dX0_addStatement_90 : decode cX0_addStatement 90 = .ok (.iload_n 3, 1) := by decide +kernel
theorem dX0_addStatement_91 : decode cX0_addStatement 91 = .ok (.iastore, 1) := by decide +kernel
theorem dX0_addStatement_92 : decode cX0_addStatement 92 = .ok (.aload_n 0, 1) := by decide +kernel
theorem dX0_addStatement_93 : decode cX0_addStatement 93 = .ok (.dup, 1) := by decide +kernel
theorem dX0_addStatement_94 : decode cX0_addStatement 94 = .ok (.getfield 52, 3) := by decide +kernel
theorem dX0_addStatement_97 : decode cX0_addStatement 97 = .ok (.iconst 1, 1) := by decide +kernel
theorem dX0_addStatement_98 : decode cX0_addStatement 98 = .ok (.iadd, 1) := by decide +kernel
theorem dX0_addStatement_99 : decode cX0_addStatement 99 = .ok (.putfield 52, 3) := by decide +kernel
theorem dX0_addStatement_102 : decode cX0_addStatement 102 = .ok (.return_, 1) := by decide +kernel
theorem dX0_addOrder_0 : decode cX0_addOrder 0 = .ok (.aload_n 0, 1) := by decide +kernel
theorem dX0_addOrder_1 : decode cX0_addOrder 1 = .ok (.getfield 55, 3) := by decide +kernel
theorem dX0_addOrder_4 : decode cX0_addOrder 4 = .ok (.ifCond .lt 73, 3) := by decide +kernel
theorem dX0_addOrder_7 : decode cX0_addOrder 7 = .ok (.aload_n 0, 1) := by decide +kernel
theorem dX0_addOrder_8 : decode cX0_addOrder 8 = .ok (.getfield 55, 3) := by decide +kernel
theorem dX0_addOrder_11 : decode cX0_addOrder 11 = .ok (.bipush 16, 2) := by decide +kernel
theorem dX0_addOrder_13 : decode cX0_addOrder 13 = .ok (.if_icmp .ge 64, 3) := by decide +kernel
theorem dX0_addOrder_16 : decode cX0_addOrder 16 = .ok (.aload_n 0, 1) := by decide +kernel
theorem dX0_addOrder_17 : decode cX0_addOrder 17 = .ok (.getfield 27, 3) := by decide +kernel
theorem dX0_addOrder_20 : decode cX0_addOrder 20 = .ok (.aload_n 0, 1) := by decide +kernel
theorem dX0_addOrder_21 : decode cX0_addOrder 21 = .ok (.getfield 55, 3) := by decide +kernel
theorem dX0_addOrder_24 : decode cX0_addOrder 24 = .ok (.iload_n 1, 1) := by decide +kernel
theorem dX0_addOrder_25 : decode cX0_addOrder 25 = .ok (.ifCond .eq 7, 3) := by decide +kernel
theorem dX0_addOrder_28 : decode cX0_addOrder 28 = .ok (.iconst 1, 1) := by decide +kernel
theorem dX0_addOrder_29 : decode cX0_addOrder 29 = .ok (.goto 4, 3) := by decide +kernel
theorem dX0_addOrder_32 : decode cX0_addOrder 32 = .ok (.iconst 0, 1) := by decide +kernel
theorem dX0_addOrder_33 : decode cX0_addOrder 33 = .ok (.iastore, 1) := by decide +kernel
theorem dX0_addOrder_34 : decode cX0_addOrder 34 = .ok (.aload_n 0, 1) := by decide +kernel
theorem dX0_addOrder_35 : decode cX0_addOrder 35 = .ok (.getfield 30, 3) := by decide +kernel
theorem dX0_addOrder_38 : decode cX0_addOrder 38 = .ok (.aload_n 0, 1) := by decide +kernel
theorem dX0_addOrder_39 : decode cX0_addOrder 39 = .ok (.getfield 55, 3) := by decide +kernel
theorem dX0_addOrder_42 : decode cX0_addOrder 42 = .ok (.iload_n 2, 1) := by decide +kernel
theorem dX0_addOrder_43 : decode cX0_addOrder 43 = .ok (.iastore, 1) := by decide +kernel
theorem dX0_addOrder_44 : decode cX0_addOrder 44 = .ok (.aload_n 0, 1) := by decide +kernel
theorem dX0_addOrder_45 : decode cX0_addOrder 45 = .ok (.getfield 33, 3) := by decide +kernel
theorem dX0_addOrder_48 : decode cX0_addOrder 48 = .ok (.aload_n 0, 1) := by decide +kernel
theorem dX0_addOrder_49 : decode cX0_addOrder 49 = .ok (.getfield 55, 3) := by decide +kernel
theorem dX0_addOrder_52 : decode cX0_addOrder 52 = .ok (.iload_n 3, 1) := by decide +kernel
theorem dX0_addOrder_53 : decode cX0_addOrder 53 = .ok (.iastore, 1) := by decide +kernel
theorem dX0_addOrder_54 : decode cX0_addOrder 54 = .ok (.aload_n 0, 1) := by decide +kernel
theorem dX0_addOrder_55 : decode cX0_addOrder 55 = .ok (.getfield 36, 3) := by decide +kernel
theorem dX0_addOrder_58 : decode cX0_addOrder 58 = .ok (.aload_n 0, 1) := by decide +kernel
theorem dX0_addOrder_59 : decode cX0_addOrder 59 = .ok (.getfield 55, 3) := by decide +kernel
theorem dX0_addOrder_62 : decode cX0_addOrder 62 = .ok (.aload_n 0, 1) := by decide +kernel
theorem dX0_addOrder_63 : decode cX0_addOrder 63 = .ok (.getfield 58, 3) := by decide +kernel
theorem dX0_addOrder_66 : decode cX0_addOrder 66 = .ok (.iastore, 1) := by decide +kernel
theorem dX0_addOrder_67 : decode cX0_addOrder 67 = .ok (.aload_n 0, 1) := by decide +kernel
theorem dX0_addOrder_68 : decode cX0_addOrder 68 = .ok (.dup, 1) := by decide +kernel
theorem dX0_addOrder_69 : decode cX0_addOrder 69 = .ok (.getfield 55, 3) := by decide +kernel
theorem dX0_addOrder_72 : decode cX0_addOrder 72 = .ok (.iconst 1, 1) := by decide +kernel
theorem dX0_addOrder_73 : decode cX0_addOrder 73 = .ok (.iadd, 1) := by decide +kernel
theorem dX0_addOrder_74 : decode cX0_addOrder 74 = .ok (.putfield 55, 3) := by decide +kernel
theorem dX0_addOrder_77 : decode cX0_addOrder 77 = .ok (.return_, 1) := by decide +kernel
theorem dX0_addCode_0 : decode cX0_addCode 0 = .ok (.aload_n 0, 1) := by decide +kernel
theorem dX0_addCode_1 : decode cX0_addCode 1 = .ok (.getfield 58, 3) := by decide +kernel
theorem dX0_addCode_4 : decode cX0_addCode 4 = .ok (.ifCond .lt 53, 3) := by decide +kernel
theorem dX0_addCode_7 : decode cX0_addCode 7 = .ok (.aload_n 0, 1) := by decide +kernel
theorem dX0_addCode_8 : decode cX0_addCode 8 = .ok (.getfield 58, 3) := by decide +kernel
theorem dX0_addCode_11 : decode cX0_addCode 11 = .ok (.sipush 400, 3) := by decide +kernel
theorem dX0_addCode_14 : decode cX0_addCode 14 = .ok (.if_icmp .ge 43, 3) := by decide +kernel
theorem dX0_addCode_17 : decode cX0_addCode 17 = .ok (.aload_n 0, 1) := by decide +kernel
theorem dX0_addCode_18 : decode cX0_addCode 18 = .ok (.getfield 39, 3) := by decide +kernel
theorem dX0_addCode_21 : decode cX0_addCode 21 = .ok (.aload_n 0, 1) := by decide +kernel
theorem dX0_addCode_22 : decode cX0_addCode 22 = .ok (.getfield 58, 3) := by decide +kernel
theorem dX0_addCode_25 : decode cX0_addCode 25 = .ok (.iload_n 1, 1) := by decide +kernel
theorem dX0_addCode_26 : decode cX0_addCode 26 = .ok (.iastore, 1) := by decide +kernel
theorem dX0_addCode_27 : decode cX0_addCode 27 = .ok (.aload_n 0, 1) := by decide +kernel
theorem dX0_addCode_28 : decode cX0_addCode 28 = .ok (.getfield 42, 3) := by decide +kernel
theorem dX0_addCode_31 : decode cX0_addCode 31 = .ok (.aload_n 0, 1) := by decide +kernel
theorem dX0_addCode_32 : decode cX0_addCode 32 = .ok (.getfield 58, 3) := by decide +kernel
theorem dX0_addCode_35 : decode cX0_addCode 35 = .ok (.iload_n 2, 1) := by decide +kernel
theorem dX0_addCode_36 : decode cX0_addCode 36 = .ok (.iastore, 1) := by decide +kernel
theorem dX0_addCode_37 : decode cX0_addCode 37 = .ok (.aload_n 0, 1) := by decide +kernel
theorem dX0_addCode_38 : decode cX0_addCode 38 = .ok (.getfield 45, 3) := by decide +kernel
theorem dX0_addCode_41 : decode cX0_addCode 41 = .ok (.aload_n 0, 1) := by decide +kernel
theorem dX0_addCode_42 : decode cX0_addCode 42 = .ok (.getfield 58, 3) := by decide +kernel
theorem dX0_addCode_45 : decode cX0_addCode 45 = .ok (.iload_n 3, 1) := by decide +kernel
theorem dX0_addCode_46 : decode cX0_addCode 46 = .ok (.iastore, 1) := by decide +kernel
theorem dX0_addCode_47 : decode cX0_addCode 47 = .ok (.aload_n 0, 1) := by decide +kernel
theorem dX0_addCode_48 : decode cX0_addCode 48 = .ok (.dup, 1) := by decide +kernel
theorem dX0_addCode_49 : decode cX0_addCode 49 = .ok (.getfield 58, 3) := by decide +kernel
theorem dX0_addCode_52 : decode cX0_addCode 52 = .ok (.iconst 1, 1) := by decide +kernel
theorem dX0_addCode_53 : decode cX0_addCode 53 = .ok (.iadd, 1) := by decide +kernel
theorem dX0_addCode_54 : decode cX0_addCode 54 = .ok (.putfield 58, 3) := by decide +kernel
theorem dX0_addCode_57 : decode cX0_addCode 57 = .ok (.return_, 1) := by decide +kernel
theorem dX0_kind_0 : decode cX0_kind 0 = .ok (.aload_n 0, 1) := by decide +kernel
theorem dX0_kind_1 : decode cX0_kind 1 = .ok (.getfield 9, 3) := by decide +kernel
theorem dX0_kind_4 : decode cX0_kind 4 = .ok (.iload_n 1, 1) := by decide +kernel
theorem dX0_kind_5 : decode cX0_kind 5 = .ok (.invokestatic 65, 3) := by decide +kernel
theorem dX0_kind_8 : decode cX0_kind 8 = .ok (.ireturn, 1) := by decide +kernel
theorem dX0_first_0 : decode cX0_first 0 = .ok (.aload_n 0, 1) := by decide +kernel
theorem dX0_first_1 : decode cX0_first 1 = .ok (.getfield 15, 3) := by decide +kernel
theorem dX0_first_4 : decode cX0_first 4 = .ok (.iload_n 1, 1) := by decide +kernel
theorem dX0_first_5 : decode cX0_first 5 = .ok (.invokestatic 65, 3) := by decide +kernel
theorem dX0_first_8 : decode cX0_first 8 = .ok (.ireturn, 1) := by decide +kernel
theorem dX0_second_0 : decode cX0_second 0 = .ok (.aload_n 0, 1) := by decide +kernel
theorem dX0_second_1 : decode cX0_second 1 = .ok (.getfield 18, 3) := by decide +kernel
theorem dX0_second_4 : decode cX0_second 4 = .ok (.iload_n 1, 1) := by decide +kernel
theorem dX0_second_5 : decode cX0_second 5 = .ok (.invokestatic 65, 3) := by decide +kernel
theorem dX0_second_8 : decode cX0_second 8 = .ok (.ireturn, 1) := by decide +kernel
theorem dX0_left_0 : decode cX0_left 0 = .ok (.aload_n 0, 1) := by decide +kernel
theorem dX0_left_1 : decode cX0_left 1 = .ok (.getfield 21, 3) := by decide +kernel
theorem dX0_left_4 : decode cX0_left 4 = .ok (.iload_n 1, 1) := by decide +kernel
theorem dX0_left_5 : decode cX0_left 5 = .ok (.invokestatic 65, 3) := by decide +kernel
theorem dX0_left_8 : decode cX0_left 8 = .ok (.ireturn, 1) := by decide +kernel
theorem dX0_right_0 : decode cX0_right 0 = .ok (.aload_n 0, 1) := by decide +kernel
theorem dX0_right_1 : decode cX0_right 1 = .ok (.getfield 24, 3) := by decide +kernel
theorem dX0_right_4 : decode cX0_right 4 = .ok (.iload_n 1, 1) := by decide +kernel
theorem dX0_right_5 : decode cX0_right 5 = .ok (.invokestatic 65, 3) := by decide +kernel
theorem dX0_right_8 : decode cX0_right 8 = .ok (.ireturn, 1) := by decide +kernel
theorem dX0_renews_0 : decode cX0_renews 0 = .ok (.aload_n 0, 1) := by decide +kernel
theorem dX0_renews_1 : decode cX0_renews 1 = .ok (.getfield 27, 3) := by decide +kernel
theorem dX0_renews_4 : decode cX0_renews 4 = .ok (.iload_n 1, 1) := by decide +kernel
theorem dX0_renews_5 : decode cX0_renews 5 = .ok (.invokestatic 65, 3) := by decide +kernel
theorem dX0_renews_8 : decode cX0_renews 8 = .ok (.iconst 1, 1) := by decide +kernel
theorem dX0_renews_9 : decode cX0_renews 9 = .ok (.if_icmp .ne 7, 3) := by decide +kernel
theorem dX0_renews_12 : decode cX0_renews 12 = .ok (.iconst 1, 1) := by decide +kernel
theorem dX0_renews_13 : decode cX0_renews 13 = .ok (.goto 4, 3) := by decide +kernel
theorem dX0_renews_16 : decode cX0_renews 16 = .ok (.iconst 0, 1) := by decide +kernel
theorem dX0_renews_17 : decode cX0_renews 17 = .ok (.ireturn, 1) := by decide +kernel
theorem dX0_target_0 : decode cX0_target 0 = .ok (.aload_n 0, 1) := by decide +kernel
theorem dX0_target_1 : decode cX0_target 1 = .ok (.getfield 30, 3) := by decide +kernel
theorem dX0_target_4 : decode cX0_target 4 = .ok (.iload_n 1, 1) := by decide +kernel
theorem dX0_target_5 : decode cX0_target 5 = .ok (.invokestatic 65, 3) := by decide +kernel
theorem dX0_target_8 : decode cX0_target 8 = .ok (.ireturn, 1) := by decide +kernel
theorem dX0_codeStart_0 : decode cX0_codeStart 0 = .ok (.aload_n 0, 1) := by decide +kernel
theorem dX0_codeStart_1 : decode cX0_codeStart 1 = .ok (.getfield 33, 3) := by decide +kernel
theorem dX0_codeStart_4 : decode cX0_codeStart 4 = .ok (.iload_n 1, 1) := by decide +kernel
theorem dX0_codeStart_5 : decode cX0_codeStart 5 = .ok (.invokestatic 65, 3) := by decide +kernel
theorem dX0_codeStart_8 : decode cX0_codeStart 8 = .ok (.ireturn, 1) := by decide +kernel
theorem dX0_codeEnd_0 : decode cX0_codeEnd 0 = .ok (.aload_n 0, 1) := by decide +kernel
theorem dX0_codeEnd_1 : decode cX0_codeEnd 1 = .ok (.getfield 36, 3) := by decide +kernel
theorem dX0_codeEnd_4 : decode cX0_codeEnd 4 = .ok (.iload_n 1, 1) := by decide +kernel
theorem dX0_codeEnd_5 : decode cX0_codeEnd 5 = .ok (.invokestatic 65, 3) := by decide +kernel
theorem dX0_codeEnd_8 : decode cX0_codeEnd 8 = .ok (.ireturn, 1) := by decide +kernel
theorem dX0_operation_0 : decode cX0_operation 0 = .ok (.aload_n 0, 1) := by decide +kernel
theorem dX0_operation_1 : decode cX0_operation 1 = .ok (.getfield 39, 3) := by decide +kernel
theorem dX0_operation_4 : decode cX0_operation 4 = .ok (.iload_n 1, 1) := by decide +kernel
theorem dX0_operation_5 : decode cX0_operation 5 = .ok (.invokestatic 65, 3) := by decide +kernel
theorem dX0_operation_8 : decode cX0_operation 8 = .ok (.ireturn, 1) := by decide +kernel
theorem dX0_firstNumber_0 : decode cX0_firstNumber 0 = .ok (.aload_n 0, 1) := by decide +kernel
theorem dX0_firstNumber_1 : decode cX0_firstNumber 1 = .ok (.getfield 42, 3) := by decide +kernel
theorem dX0_firstNumber_4 : decode cX0_firstNumber 4 = .ok (.iload_n 1, 1) := by decide +kernel
theorem dX0_firstNumber_5 : decode cX0_firstNumber 5 = .ok (.invokestatic 65, 3) := by decide +kernel
theorem dX0_firstNumber_8 : decode cX0_firstNumber 8 = .ok (.ireturn, 1) := by decide +kernel
theorem dX0_secondNumber_0 : decode cX0_secondNumber 0 = .ok (.aload_n 0, 1) := by decide +kernel
theorem dX0_secondNumber_1 : decode cX0_secondNumber 1 = .ok (.getfield 45, 3) := by decide +kernel
theorem dX0_secondNumber_4 : decode cX0_secondNumber 4 = .ok (.iload_n 1, 1) := by decide +kernel
theorem dX0_secondNumber_5 : decode cX0_secondNumber 5 = .ok (.invokestatic 65, 3) := by decide +kernel
theorem dX0_secondNumber_8 : decode cX0_secondNumber 8 = .ok (.ireturn, 1) := by decide +kernel
theorem dX1_init_0 : decode cX1_init 0 = .ok (.aload_n 0, 1) := by decide +kernel
theorem dX1_init_1 : decode cX1_init 1 = .ok (.invokespecial 1, 3) := by decide +kernel
theorem dX1_init_4 : decode cX1_init 4 = .ok (.return_, 1) := by decide +kernel
theorem dX1_begin_0 : decode cX1_begin 0 = .ok (.aload_n 0, 1) := by decide +kernel
theorem dX1_begin_1 : decode cX1_begin 1 = .ok (.iconst 0, 1) := by decide +kernel
theorem dX1_begin_2 : decode cX1_begin 2 = .ok (.putfield 7, 3) := by decide +kernel
theorem dX1_begin_5 : decode cX1_begin 5 = .ok (.aload_n 0, 1) := by decide +kernel
theorem dX1_begin_6 : decode cX1_begin 6 = .ok (.iconst 1, 1) := by decide +kernel
theorem dX1_begin_7 : decode cX1_begin 7 = .ok (.iload_n 1, 1) := by decide +kernel
theorem dX1_begin_8 : decode cX1_begin 8 = .ok (.ishl, 1) := by decide +kernel
theorem dX1_begin_9 : decode cX1_begin 9 = .ok (.iconst 1, 1) := by decide +kernel
theorem dX1_begin_10 : decode cX1_begin 10 = .ok (.isub, 1) := by decide +kernel
theorem dX1_begin_11 : decode cX1_begin 11 = .ok (.putfield 13, 3) := by decide +kernel
theorem dX1_begin_14 : decode cX1_begin 14 = .ok (.aload_n 0, 1) := by decide +kernel
theorem dX1_begin_15 : decode cX1_begin 15 = .ok (.iconst 0, 1) := by decide +kernel
theorem dX1_begin_16 : decode cX1_begin 16 = .ok (.putfield 16, 3) := by decide +kernel
theorem dX1_begin_19 : decode cX1_begin 19 = .ok (.return_, 1) := by decide +kernel
theorem dX1_copyFrom_0 : decode cX1_copyFrom 0 = .ok (.aload_n 0, 1) := by decide +kernel
theorem dX1_copyFrom_1 : decode cX1_copyFrom 1 = .ok (.aload_n 1, 1) := by decide +kernel
theorem dX1_copyFrom_2 : decode cX1_copyFrom 2 = .ok (.getfield 7, 3) := by decide +kernel
theorem dX1_copyFrom_5 : decode cX1_copyFrom 5 = .ok (.putfield 7, 3) := by decide +kernel
theorem dX1_copyFrom_8 : decode cX1_copyFrom 8 = .ok (.aload_n 0, 1) := by decide +kernel
theorem dX1_copyFrom_9 : decode cX1_copyFrom 9 = .ok (.aload_n 1, 1) := by decide +kernel
theorem dX1_copyFrom_10 : decode cX1_copyFrom 10 = .ok (.getfield 13, 3) := by decide +kernel
theorem dX1_copyFrom_13 : decode cX1_copyFrom 13 = .ok (.putfield 13, 3) := by decide +kernel
theorem dX1_copyFrom_16 : decode cX1_copyFrom 16 = .ok (.aload_n 0, 1) := by decide +kernel
theorem dX1_copyFrom_17 : decode cX1_copyFrom 17 = .ok (.aload_n 1, 1) := by decide +kernel
theorem dX1_copyFrom_18 : decode cX1_copyFrom 18 = .ok (.getfield 16, 3) := by decide +kernel
theorem dX1_copyFrom_21 : decode cX1_copyFrom 21 = .ok (.putfield 16, 3) := by decide +kernel
theorem dX1_copyFrom_24 : decode cX1_copyFrom 24 = .ok (.return_, 1) := by decide +kernel
theorem dX1_change_0 : decode cX1_change 0 = .ok (.aload_n 0, 1) := by decide +kernel
theorem dX1_change_1 : decode cX1_change 1 = .ok (.getfield 13, 3) := by decide +kernel
theorem dX1_change_4 : decode cX1_change 4 = .ok (.iload_n 1, 1) := by decide +kernel
theorem dX1_change_5 : decode cX1_change 5 = .ok (.invokestatic 19, 3) := by decide +kernel
theorem dX1_change_8 : decode cX1_change 8 = .ok (.iload_n 2, 1) := by decide +kernel
theorem dX1_change_9 : decode cX1_change 9 = .ok (.if_icmp .eq 40, 3) := by decide +kernel
theorem dX1_change_12 : decode cX1_change 12 = .ok (.aload_n 0, 1) := by decide +kernel
theorem dX1_change_13 : decode cX1_change 13 = .ok (.iload_n 2, 1) := by decide +kernel
theorem dX1_change_14 : decode cX1_change 14 = .ok (.ifCond .eq 14, 3) := by decide +kernel
theorem dX1_change_17 : decode cX1_change 17 = .ok (.aload_n 0, 1) := by decide +kernel
theorem dX1_change_18 : decode cX1_change 18 = .ok (.getfield 13, 3) := by decide +kernel
theorem dX1_change_21 : decode cX1_change 21 = .ok (.iload_n 1, 1) := by decide +kernel
theorem dX1_change_22 : decode cX1_change 22 = .ok (.invokestatic 25, 3) := by decide +kernel
theorem dX1_change_25 : decode cX1_change 25 = .ok (.goto 11, 3) := by decide +kernel
theorem dX1_change_28 : decode cX1_change 28 = .ok (.aload_n 0, 1) := by decide +kernel
theorem dX1_change_29 : decode cX1_change 29 = .ok (.getfield 13, 3) := by decide +kernel
theorem dX1_change_32 : decode cX1_change 32 = .ok (.iload_n 1, 1) := by decide +kernel
theorem dX1_change_33 : decode cX1_change 33 = .ok (.invokestatic 29, 3) := by decide +kernel
theorem dX1_change_36 : decode cX1_change 36 = .ok (.putfield 13, 3) := by decide +kernel
theorem dX1_change_39 : decode cX1_change 39 = .ok (.aload_n 0, 1) := by decide +kernel
theorem dX1_change_40 : decode cX1_change 40 = .ok (.dup, 1) := by decide +kernel
theorem dX1_change_41 : decode cX1_change 41 = .ok (.getfield 16, 3) := by decide +kernel
theorem dX1_change_44 : decode cX1_change 44 = .ok (.iconst 1, 1) := by decide +kernel
theorem dX1_change_45 : decode cX1_change 45 = .ok (.iadd, 1) := by decide +kernel
theorem dX1_change_46 : decode cX1_change 46 = .ok (.putfield 16, 3) := by decide +kernel
theorem dX1_change_49 : decode cX1_change 49 = .ok (.return_, 1) := by decide +kernel
theorem dX2_init_0 : decode cX2_init 0 = .ok (.aload_n 0, 1) := by decide +kernel
theorem dX2_init_1 : decode cX2_init 1 = .ok (.invokespecial 3, 3) := by decide +kernel
theorem dX2_init_4 : decode cX2_init 4 = .ok (.aload_n 0, 1) := by decide +kernel
theorem dX2_init_5 : decode cX2_init 5 = .ok (.sipush 400, 3) := by decide +kernel
theorem dX2_init_8 : decode cX2_init 8 = .ok (.newarray .int, 2) := by decide +kernel
theorem dX2_init_10 : decode cX2_init 10 = .ok (.putfield 9, 3) := by decide +kernel
theorem dX2_init_13 : decode cX2_init 13 = .ok (.aload_n 0, 1) := by decide +kernel
theorem dX2_init_14 : decode cX2_init 14 = .ok (.aload_n 1, 1) := by decide +kernel
theorem dX2_init_15 : decode cX2_init 15 = .ok (.putfield 15, 3) := by decide +kernel
theorem dX2_init_18 : decode cX2_init 18 = .ok (.aload_n 0, 1) := by decide +kernel
theorem dX2_init_19 : decode cX2_init 19 = .ok (.aload_n 2, 1) := by decide +kernel
theorem dX2_init_20 : decode cX2_init 20 = .ok (.putfield 19, 3) := by decide +kernel
theorem dX2_init_23 : decode cX2_init 23 = .ok (.aload_n 0, 1) := by decide +kernel
theorem dX2_init_24 : decode cX2_init 24 = .ok (.aload_n 3, 1) := by decide +kernel
theorem dX2_init_25 : decode cX2_init 25 = .ok (.putfield 23, 3) := by decide +kernel
theorem dX2_init_28 : decode cX2_init 28 = .ok (.return_, 1) := by decide +kernel
theorem dX2_letPass_0 : decode cX2_letPass 0 = .ok (.iconst 0, 1) := by decide +kernel
theorem dX2_letPass_1 : decode cX2_letPass 1 = .ok (.istore_n 3, 1) := by decide +kernel
theorem dX2_letPass_2 : decode cX2_letPass 2 = .ok (.iload_n 3, 1) := by decide +kernel
theorem dX2_letPass_3 : decode cX2_letPass 3 = .ok (.iload_n 2, 1) := by decide +kernel
theorem dX2_letPass_4 : decode cX2_letPass 4 = .ok (.if_icmp .ge 72, 3) := by decide +kernel
theorem dX2_letPass_7 : decode cX2_letPass 7 = .ok (.iconst 0, 1) := by decide +kernel
theorem dX2_letPass_8 : decode cX2_letPass 8 = .ok (.istore 4, 2) := by decide +kernel
theorem dX2_letPass_10 : decode cX2_letPass 10 = .ok (.iload 4, 2) := by decide +kernel
theorem dX2_letPass_12 : decode cX2_letPass 12 = .ok (.aload_n 0, 1) := by decide +kernel
theorem dX2_letPass_13 : decode cX2_letPass 13 = .ok (.getfield 15, 3) := by decide +kernel
theorem dX2_letPass_16 : decode cX2_letPass 16 = .ok (.getfield 27, 3) := by decide +kernel
theorem dX2_letPass_19 : decode cX2_letPass 19 = .ok (.if_icmp .ge 41, 3) := by decide +kernel
theorem dX2_letPass_22 : decode cX2_letPass 22 = .ok (.aload_n 0, 1) := by decide +kernel
theorem dX2_letPass_23 : decode cX2_letPass 23 = .ok (.iload 4, 2) := by decide +kernel
theorem dX2_letPass_25 : decode cX2_letPass 25 = .ok (.aload_n 1, 1) := by decide +kernel
theorem dX2_letPass_26 : decode cX2_letPass 26 = .ok (.invokevirtual 33, 3) := by decide +kernel
theorem dX2_letPass_29 : decode cX2_letPass 29 = .ok (.ifCond .eq 25, 3) := by decide +kernel
theorem dX2_letPass_32 : decode cX2_letPass 32 = .ok (.aload_n 1, 1) := by decide +kernel
theorem dX2_letPass_33 : decode cX2_letPass 33 = .ok (.aload_n 0, 1) := by decide +kernel
theorem dX2_letPass_34 : decode cX2_letPass 34 = .ok (.getfield 15, 3) := by decide +kernel
theorem dX2_letPass_37 : decode cX2_letPass 37 = .ok (.iload 4, 2) := by decide +kernel
theorem dX2_letPass_39 : decode cX2_letPass 39 = .ok (.invokevirtual 37, 3) := by decide +kernel
theorem dX2_letPass_42 : decode cX2_letPass 42 = .ok (.aload_n 0, 1) := by decide +kernel
theorem dX2_letPass_43 : decode cX2_letPass 43 = .ok (.getfield 15, 3) := by decide +kernel
theorem dX2_letPass_46 : decode cX2_letPass 46 = .ok (.iload 4, 2) := by decide +kernel
theorem dX2_letPass_48 : decode cX2_letPass 48 = .ok (.invokevirtual 41, 3) := by decide +kernel
theorem dX2_letPass_51 : decode cX2_letPass 51 = .ok (.invokevirtual 45, 3) := by decide +kernel
theorem dX2_letPass_54 : decode cX2_letPass 54 = .ok (.iinc 4 1, 3) := by decide +kernel
theorem dX2_letPass_57 : decode cX2_letPass 57 = .ok (.goto (-47), 3) := by decide +kernel
theorem dX2_letPass_60 : decode cX2_letPass 60 = .ok (.aload_n 1, 1) := by decide +kernel
theorem dX2_letPass_61 : decode cX2_letPass 61 = .ok (.dup, 1) := by decide +kernel
theorem dX2_letPass_62 : decode cX2_letPass 62 = .ok (.getfield 51, 3) := by decide +kernel
theorem dX2_letPass_65 : decode cX2_letPass 65 = .ok (.iconst 1, 1) := by decide +kernel
theorem dX2_letPass_66 : decode cX2_letPass 66 = .ok (.iadd, 1) := by decide +kernel
theorem dX2_letPass_67 : decode cX2_letPass 67 = .ok (.putfield 51, 3) := by decide +kernel
theorem dX2_letPass_70 : decode cX2_letPass 70 = .ok (.iinc 3 1, 3) := by decide +kernel
theorem dX2_letPass_73 : decode cX2_letPass 73 = .ok (.goto (-71), 3) := by decide +kernel
theorem dX2_letPass_76 : decode cX2_letPass 76 = .ok (.return_, 1) := by decide +kernel
theorem dX2_isDue_0 : decode cX2_isDue 0 = .ok (.aload_n 0, 1) := by decide +kernel
theorem dX2_isDue_1 : decode cX2_isDue 1 = .ok (.getfield 15, 3) := by decide +kernel
theorem dX2_isDue_4 : decode cX2_isDue 4 = .ok (.iload_n 1, 1) := by decide +kernel
theorem dX2_isDue_5 : decode cX2_isDue 5 = .ok (.invokevirtual 54, 3) := by decide +kernel
theorem dX2_isDue_8 : decode cX2_isDue 8 = .ok (.istore_n 3, 1) := by decide +kernel
theorem dX2_isDue_9 : decode cX2_isDue 9 = .ok (.aload_n 0, 1) := by decide +kernel
theorem dX2_isDue_10 : decode cX2_isDue 10 = .ok (.getfield 15, 3) := by decide +kernel
theorem dX2_isDue_13 : decode cX2_isDue 13 = .ok (.iload_n 1, 1) := by decide +kernel
theorem dX2_isDue_14 : decode cX2_isDue 14 = .ok (.invokevirtual 57, 3) := by decide +kernel
theorem dX2_isDue_17 : decode cX2_isDue 17 = .ok (.istore 4, 2) := by decide +kernel
theorem dX2_isDue_19 : decode cX2_isDue 19 = .ok (.iload_n 3, 1) := by decide +kernel
theorem dX2_isDue_20 : decode cX2_isDue 20 = .ok (.iload 4, 2) := by decide +kernel
theorem dX2_isDue_22 : decode cX2_isDue 22 = .ok (.if_icmp .lt 5, 3) := by decide +kernel
theorem dX2_isDue_25 : decode cX2_isDue 25 = .ok (.iconst 1, 1) := by decide +kernel
theorem dX2_isDue_26 : decode cX2_isDue 26 = .ok (.ireturn, 1) := by decide +kernel
theorem dX2_isDue_27 : decode cX2_isDue 27 = .ok (.aload_n 0, 1) := by decide +kernel
theorem dX2_isDue_28 : decode cX2_isDue 28 = .ok (.iconst 0, 1) := by decide +kernel
theorem dX2_isDue_29 : decode cX2_isDue 29 = .ok (.putfield 60, 3) := by decide +kernel
theorem dX2_isDue_32 : decode cX2_isDue 32 = .ok (.iload_n 3, 1) := by decide +kernel
theorem dX2_isDue_33 : decode cX2_isDue 33 = .ok (.istore 5, 2) := by decide +kernel
theorem dX2_isDue_35 : decode cX2_isDue 35 = .ok (.iload 5, 2) := by decide +kernel
theorem dX2_isDue_37 : decode cX2_isDue 37 = .ok (.iload 4, 2) := by decide +kernel
theorem dX2_isDue_39 : decode cX2_isDue 39 = .ok (.if_icmp .ge 16, 3) := by decide +kernel
theorem dX2_isDue_42 : decode cX2_isDue 42 = .ok (.aload_n 0, 1) := by decide +kernel
theorem dX2_isDue_43 : decode cX2_isDue 43 = .ok (.iload 5, 2) := by decide +kernel
theorem dX2_isDue_45 : decode cX2_isDue 45 = .ok (.aload_n 2, 1) := by decide +kernel
theorem dX2_isDue_46 : decode cX2_isDue 46 = .ok (.invokevirtual 63, 3) := by decide +kernel
theorem dX2_isDue_49 : decode cX2_isDue 49 = .ok (.iinc 5 1, 3) := by decide +kernel
theorem dX2_isDue_52 : decode cX2_isDue 52 = .ok (.goto (-17), 3) := by decide +kernel
theorem dX2_isDue_55 : decode cX2_isDue 55 = .ok (.aload_n 0, 1) := by decide +kernel
theorem dX2_isDue_56 : decode cX2_isDue 56 = .ok (.invokevirtual 67, 3) := by decide +kernel
theorem dX2_isDue_59 : decode cX2_isDue 59 = .ok (.ifCond .eq 7, 3) := by decide +kernel
theorem dX2_isDue_62 : decode cX2_isDue 62 = .ok (.iconst 1, 1) := by decide +kernel
theorem dX2_isDue_63 : decode cX2_isDue 63 = .ok (.goto 4, 3) := by decide +kernel
theorem dX2_isDue_66 : decode cX2_isDue 66 = .ok (.iconst 0, 1) := by decide +kernel
theorem dX2_isDue_67 : decode cX2_isDue 67 = .ok (.ireturn, 1) := by decide +kernel
theorem dX2_push_0 : decode cX2_push 0 = .ok (.aload_n 0, 1) := by decide +kernel
theorem dX2_push_1 : decode cX2_push 1 = .ok (.getfield 60, 3) := by decide +kernel
theorem dX2_push_4 : decode cX2_push 4 = .ok (.ifCond .lt 35, 3) := by decide +kernel
theorem dX2_push_7 : decode cX2_push 7 = .ok (.aload_n 0, 1) := by decide +kernel
theorem dX2_push_8 : decode cX2_push 8 = .ok (.getfield 60, 3) := by decide +kernel
theorem dX2_push_11 : decode cX2_push 11 = .ok (.aload_n 0, 1) := by decide +kernel
theorem dX2_push_12 : decode cX2_push 12 = .ok (.getfield 9, 3) := by decide +kernel
theorem dX2_push_15 : decode cX2_push 15 = .ok (.arraylength, 1) := by decide +kernel
theorem dX2_push_16 : decode cX2_push 16 = .ok (.if_icmp .ge 23, 3) := by decide +kernel
theorem dX2_push_19 : decode cX2_push 19 = .ok (.aload_n 0, 1) := by decide +kernel
theorem dX2_push_20 : decode cX2_push 20 = .ok (.getfield 9, 3) := by decide +kernel
theorem dX2_push_23 : decode cX2_push 23 = .ok (.aload_n 0, 1) := by decide +kernel
theorem dX2_push_24 : decode cX2_push 24 = .ok (.getfield 60, 3) := by decide +kernel
theorem dX2_push_27 : decode cX2_push 27 = .ok (.iload_n 1, 1) := by decide +kernel
theorem dX2_push_28 : decode cX2_push 28 = .ok (.iastore, 1) := by decide +kernel
theorem dX2_push_29 : decode cX2_push 29 = .ok (.aload_n 0, 1) := by decide +kernel
theorem dX2_push_30 : decode cX2_push 30 = .ok (.dup, 1) := by decide +kernel
theorem dX2_push_31 : decode cX2_push 31 = .ok (.getfield 60, 3) := by decide +kernel
theorem dX2_push_34 : decode cX2_push 34 = .ok (.iconst 1, 1) := by decide +kernel
theorem dX2_push_35 : decode cX2_push 35 = .ok (.iadd, 1) := by decide +kernel
theorem dX2_push_36 : decode cX2_push 36 = .ok (.putfield 60, 3) := by decide +kernel
theorem dX2_push_39 : decode cX2_push 39 = .ok (.return_, 1) := by decide +kernel
theorem dX2_pop_0 : decode cX2_pop 0 = .ok (.aload_n 0, 1) := by decide +kernel
theorem dX2_pop_1 : decode cX2_pop 1 = .ok (.getfield 60, 3) := by decide +kernel
theorem dX2_pop_4 : decode cX2_pop 4 = .ok (.ifCond .le 15, 3) := by decide +kernel
theorem dX2_pop_7 : decode cX2_pop 7 = .ok (.aload_n 0, 1) := by decide +kernel
theorem dX2_pop_8 : decode cX2_pop 8 = .ok (.getfield 60, 3) := by decide +kernel
theorem dX2_pop_11 : decode cX2_pop 11 = .ok (.aload_n 0, 1) := by decide +kernel
theorem dX2_pop_12 : decode cX2_pop 12 = .ok (.getfield 9, 3) := by decide +kernel
theorem dX2_pop_15 : decode cX2_pop 15 = .ok (.arraylength, 1) := by decide +kernel
theorem dX2_pop_16 : decode cX2_pop 16 = .ok (.if_icmp .le 5, 3) := by decide +kernel
theorem dX2_pop_19 : decode cX2_pop 19 = .ok (.iconst 0, 1) := by decide +kernel
theorem dX2_pop_20 : decode cX2_pop 20 = .ok (.ireturn, 1) := by decide +kernel
theorem dX2_pop_21 : decode cX2_pop 21 = .ok (.aload_n 0, 1) := by decide +kernel
theorem dX2_pop_22 : decode cX2_pop 22 = .ok (.dup, 1) := by decide +kernel
theorem dX2_pop_23 : decode cX2_pop 23 = .ok (.getfield 60, 3) := by decide +kernel
theorem dX2_pop_26 : decode cX2_pop 26 = .ok (.iconst 1, 1) := by decide +kernel
theorem dX2_pop_27 : decode cX2_pop 27 = .ok (.isub, 1) := by decide +kernel
theorem dX2_pop_28 : decode cX2_pop 28 = .ok (.putfield 60, 3) := by decide +kernel
theorem dX2_pop_31 : decode cX2_pop 31 = .ok (.aload_n 0, 1) := by decide +kernel
theorem dX2_pop_32 : decode cX2_pop 32 = .ok (.getfield 9, 3) := by decide +kernel
theorem dX2_pop_35 : decode cX2_pop 35 = .ok (.aload_n 0, 1) := by decide +kernel
theorem dX2_pop_36 : decode cX2_pop 36 = .ok (.getfield 60, 3) := by decide +kernel
theorem dX2_pop_39 : decode cX2_pop 39 = .ok (.iaload, 1) := by decide +kernel
theorem dX2_pop_40 : decode cX2_pop 40 = .ok (.ireturn, 1) := by decide +kernel
theorem dX2_reckon_0 : decode cX2_reckon 0 = .ok (.aload_n 0, 1) := by decide +kernel
theorem dX2_reckon_1 : decode cX2_reckon 1 = .ok (.getfield 15, 3) := by decide +kernel
theorem dX2_reckon_4 : decode cX2_reckon 4 = .ok (.iload_n 1, 1) := by decide +kernel
theorem dX2_reckon_5 : decode cX2_reckon 5 = .ok (.invokevirtual 71, 3) := by decide +kernel
theorem dX2_reckon_8 : decode cX2_reckon 8 = .ok (.istore_n 3, 1) := by decide +kernel
theorem dX2_reckon_9 : decode cX2_reckon 9 = .ok (.aload_n 0, 1) := by decide +kernel
theorem dX2_reckon_10 : decode cX2_reckon 10 = .ok (.getfield 15, 3) := by decide +kernel
theorem dX2_reckon_13 : decode cX2_reckon 13 = .ok (.iload_n 1, 1) := by decide +kernel
theorem dX2_reckon_14 : decode cX2_reckon 14 = .ok (.invokevirtual 74, 3) := by decide +kernel
theorem dX2_reckon_17 : decode cX2_reckon 17 = .ok (.istore 4, 2) := by decide +kernel
theorem dX2_reckon_19 : decode cX2_reckon 19 = .ok (.iload_n 3, 1) := by decide +kernel
theorem dX2_reckon_20 : decode cX2_reckon 20 = .ok (.lookupswitch 284 #[(259, 92), (262, 253), (315, 101), (316, 112), (317, 126), (318, 144), (319, 162), (320, 190), (321, 214), (323, 265)], 92) := by decide +kernel
theorem dX2_reckon_112 : decode cX2_reckon 112 = .ok (.aload_n 0, 1) := by decide +kernel
theorem dX2_reckon_113 : decode cX2_reckon 113 = .ok (.iload 4, 2) := by decide +kernel
theorem dX2_reckon_115 : decode cX2_reckon 115 = .ok (.invokevirtual 77, 3) := by decide +kernel
theorem dX2_reckon_118 : decode cX2_reckon 118 = .ok (.goto 206, 3) := by decide +kernel
theorem dX2_reckon_121 : decode cX2_reckon 121 = .ok (.aload_n 0, 1) := by decide +kernel
theorem dX2_reckon_122 : decode cX2_reckon 122 = .ok (.aload_n 2, 1) := by decide +kernel
theorem dX2_reckon_123 : decode cX2_reckon 123 = .ok (.getfield 51, 3) := by decide +kernel
theorem dX2_reckon_126 : decode cX2_reckon 126 = .ok (.invokevirtual 77, 3) := by decide +kernel
theorem dX2_reckon_129 : decode cX2_reckon 129 = .ok (.goto 195, 3) := by decide +kernel
theorem dX2_reckon_132 : decode cX2_reckon 132 = .ok (.aload_n 0, 1) := by decide +kernel
theorem dX2_reckon_133 : decode cX2_reckon 133 = .ok (.aload_n 2, 1) := by decide +kernel
theorem dX2_reckon_134 : decode cX2_reckon 134 = .ok (.getfield 81, 3) := by decide +kernel
theorem dX2_reckon_137 : decode cX2_reckon 137 = .ok (.invokestatic 84, 3) := by decide +kernel
theorem dX2_reckon_140 : decode cX2_reckon 140 = .ok (.invokevirtual 77, 3) := by decide +kernel
theorem dX2_reckon_143 : decode cX2_reckon 143 = .ok (.goto 181, 3) := by decide +kernel
theorem dX2_reckon_146 : decode cX2_reckon 146 = .ok (.aload_n 0, 1) := by decide +kernel
theorem dX2_reckon_147 : decode cX2_reckon 147 = .ok (.aload_n 0, 1) := by decide +kernel
theorem dX2_reckon_148 : decode cX2_reckon 148 = .ok (.getfield 19, 3) := by decide +kernel
theorem dX2_reckon_151 : decode cX2_reckon 151 = .ok (.aload_n 2, 1) := by decide +kernel
theorem dX2_reckon_152 : decode cX2_reckon 152 = .ok (.getfield 81, 3) := by decide +kernel
theorem dX2_reckon_155 : decode cX2_reckon 155 = .ok (.invokevirtual 89, 3) := by decide +kernel
theorem dX2_reckon_158 : decode cX2_reckon 158 = .ok (.invokevirtual 77, 3) := by decide +kernel
theorem dX2_reckon_161 : decode cX2_reckon 161 = .ok (.goto 163, 3) := by decide +kernel
theorem dX2_reckon_164 : decode cX2_reckon 164 = .ok (.aload_n 0, 1) := by decide +kernel
theorem dX2_reckon_165 : decode cX2_reckon 165 = .ok (.aload_n 0, 1) := by decide +kernel
theorem dX2_reckon_166 : decode cX2_reckon 166 = .ok (.getfield 23, 3) := by decide +kernel
theorem dX2_reckon_169 : decode cX2_reckon 169 = .ok (.aload_n 2, 1) := by decide +kernel
theorem dX2_reckon_170 : decode cX2_reckon 170 = .ok (.getfield 81, 3) := by decide +kernel
theorem dX2_reckon_173 : decode cX2_reckon 173 = .ok (.invokevirtual 94, 3) := by decide +kernel
theorem dX2_reckon_176 : decode cX2_reckon 176 = .ok (.invokevirtual 77, 3) := by decide +kernel
theorem dX2_reckon_179 : decode cX2_reckon 179 = .ok (.goto 145, 3) := by decide +kernel
theorem dX2_reckon_182 : decode cX2_reckon 182 = .ok (.aload_n 0, 1) := by decide +kernel
theorem dX2_reckon_183 : decode cX2_reckon 183 = .ok (.aload_n 0, 1) := by decide +kernel
theorem dX2_reckon_184 : decode cX2_reckon 184 = .ok (.getfield 23, 3) := by decide +kernel
theorem dX2_reckon_187 : decode cX2_reckon 187 = .ok (.aload_n 2, 1) := by decide +kernel
theorem dX2_reckon_188 : decode cX2_reckon 188 = .ok (.getfield 81, 3) := by decide +kernel
theorem dX2_reckon_191 : decode cX2_reckon 191 = .ok (.iload 4, 2) := by decide +kernel
theorem dX2_reckon_193 : decode cX2_reckon 193 = .ok (.invokevirtual 99, 3) := by decide +kernel
theorem dX2_reckon_196 : decode cX2_reckon 196 = .ok (.ifCond .le 7, 3) := by decide +kernel
theorem dX2_reckon_199 : decode cX2_reckon 199 = .ok (.iconst 1, 1) := by decide +kernel
theorem dX2_reckon_200 : decode cX2_reckon 200 = .ok (.goto 4, 3) := by decide +kernel
theorem dX2_reckon_203 : decode cX2_reckon 203 = .ok (.iconst 0, 1) := by decide +kernel
theorem dX2_reckon_204 : decode cX2_reckon 204 = .ok (.invokevirtual 77, 3) := by decide +kernel
theorem dX2_reckon_207 : decode cX2_reckon 207 = .ok (.goto 117, 3) := by decide +kernel
theorem dX2_reckon_210 : decode cX2_reckon 210 = .ok (.aload_n 0, 1) := by decide +kernel
theorem dX2_reckon_211 : decode cX2_reckon 211 = .ok (.aload_n 2, 1) := by decide +kernel
theorem dX2_reckon_212 : decode cX2_reckon 212 = .ok (.getfield 81, 3) := by decide +kernel
theorem dX2_reckon_215 : decode cX2_reckon 215 = .ok (.iload 4, 2) := by decide +kernel
theorem dX2_reckon_217 : decode cX2_reckon 217 = .ok (.invokestatic 103, 3) := by decide +kernel
theorem dX2_reckon_220 : decode cX2_reckon 220 = .ok (.ifCond .eq 7, 3) := by decide +kernel
theorem dX2_reckon_223 : decode cX2_reckon 223 = .ok (.iconst 1, 1) := by decide +kernel
theorem dX2_reckon_224 : decode cX2_reckon 224 = .ok (.goto 4, 3) := by decide +kernel
theorem dX2_reckon_227 : decode cX2_reckon 227 = .ok (.iconst 0, 1) := by decide +kernel
theorem dX2_reckon_228 : decode cX2_reckon 228 = .ok (.invokevirtual 77, 3) := by decide +kernel
theorem dX2_reckon_231 : decode cX2_reckon 231 = .ok (.goto 93, 3) := by decide +kernel
theorem dX2_reckon_234 : decode cX2_reckon 234 = .ok (.aload_n 0, 1) := by decide +kernel
theorem dX2_reckon_235 : decode cX2_reckon 235 = .ok (.aload_n 0, 1) := by decide +kernel
theorem dX2_reckon_236 : decode cX2_reckon 236 = .ok (.getfield 19, 3) := by decide +kernel
theorem dX2_reckon_239 : decode cX2_reckon 239 = .ok (.aload_n 2, 1) := by decide +kernel
theorem dX2_reckon_240 : decode cX2_reckon 240 = .ok (.getfield 81, 3) := by decide +kernel
theorem dX2_reckon_243 : decode cX2_reckon 243 = .ok (.aload_n 0, 1) := by decide +kernel
theorem dX2_reckon_244 : decode cX2_reckon 244 = .ok (.getfield 15, 3) := by decide +kernel
theorem dX2_reckon_247 : decode cX2_reckon 247 = .ok (.iload_n 1, 1) := by decide +kernel
theorem dX2_reckon_248 : decode cX2_reckon 248 = .ok (.invokevirtual 107, 3) := by decide +kernel
theorem dX2_reckon_251 : decode cX2_reckon 251 = .ok (.invokevirtual 110, 3) := by decide +kernel
theorem dX2_reckon_254 : decode cX2_reckon 254 = .ok (.iload 4, 2) := by decide +kernel
theorem dX2_reckon_256 : decode cX2_reckon 256 = .ok (.invokestatic 103, 3) := by decide +kernel
theorem dX2_reckon_259 : decode cX2_reckon 259 = .ok (.ifCond .eq 7, 3) := by decide +kernel
theorem dX2_reckon_262 : decode cX2_reckon 262 = .ok (.iconst 1, 1) := by decide +kernel
theorem dX2_reckon_263 : decode cX2_reckon 263 = .ok (.goto 4, 3) := by decide +kernel
theorem dX2_reckon_266 : decode cX2_reckon 266 = .ok (.iconst 0, 1) := by decide +kernel
theorem dX2_reckon_267 : decode cX2_reckon 267 = .ok (.invokevirtual 77, 3) := by decide +kernel
theorem dX2_reckon_270 : decode cX2_reckon 270 = .ok (.goto 54, 3) := by decide +kernel
theorem dX2_reckon_273 : decode cX2_reckon 273 = .ok (.aload_n 0, 1) := by decide +kernel
theorem dX2_reckon_274 : decode cX2_reckon 274 = .ok (.aload_n 0, 1) := by decide +kernel
theorem dX2_reckon_275 : decode cX2_reckon 275 = .ok (.invokevirtual 67, 3) := by decide +kernel
theorem dX2_reckon_278 : decode cX2_reckon 278 = .ok (.ineg, 1) := by decide +kernel
theorem dX2_reckon_279 : decode cX2_reckon 279 = .ok (.invokevirtual 77, 3) := by decide +kernel
theorem dX2_reckon_282 : decode cX2_reckon 282 = .ok (.goto 42, 3) := by decide +kernel
theorem dX2_reckon_285 : decode cX2_reckon 285 = .ok (.aload_n 0, 1) := by decide +kernel
theorem dX2_reckon_286 : decode cX2_reckon 286 = .ok (.aload_n 0, 1) := by decide +kernel
theorem dX2_reckon_287 : decode cX2_reckon 287 = .ok (.invokevirtual 67, 3) := by decide +kernel
theorem dX2_reckon_290 : decode cX2_reckon 290 = .ok (.ifCond .ne 7, 3) := by decide +kernel
theorem dX2_reckon_293 : decode cX2_reckon 293 = .ok (.iconst 1, 1) := by decide +kernel
theorem dX2_reckon_294 : decode cX2_reckon 294 = .ok (.goto 4, 3) := by decide +kernel
theorem dX2_reckon_297 : decode cX2_reckon 297 = .ok (.iconst 0, 1) := by decide +kernel
theorem dX2_reckon_298 : decode cX2_reckon 298 = .ok (.invokevirtual 77, 3) := by decide +kernel
theorem dX2_reckon_301 : decode cX2_reckon 301 = .ok (.goto 23, 3) := by decide +kernel
theorem dX2_reckon_304 : decode cX2_reckon 304 = .ok (.aload_n 0, 1) := by decide +kernel
theorem dX2_reckon_305 : decode cX2_reckon 305 = .ok (.invokevirtual 67, 3) := by decide +kernel
theorem dX2_reckon_308 : decode cX2_reckon 308 = .ok (.istore 5, 2) := by decide +kernel
theorem dX2_reckon_310 : decode cX2_reckon 310 = .ok (.aload_n 0, 1) := by decide +kernel
theorem dX2_reckon_311 : decode cX2_reckon 311 = .ok (.iload_n 3, 1) := by decide +kernel
theorem dX2_reckon_312 : decode cX2_reckon 312 = .ok (.aload_n 0, 1) := by decide +kernel
theorem dX2_reckon_313 : decode cX2_reckon 313 = .ok (.invokevirtual 67, 3) := by decide +kernel
theorem dX2_reckon_316 : decode cX2_reckon 316 = .ok (.iload 5, 2) := by decide +kernel
theorem dX2_reckon_318 : decode cX2_reckon 318 = .ok (.invokestatic 113, 3) := by decide +kernel
theorem dX2_reckon_321 : decode cX2_reckon 321 = .ok (.invokevirtual 77, 3) := by decide +kernel
theorem dX2_reckon_324 : decode cX2_reckon 324 = .ok (.return_, 1) := by decide +kernel
theorem dX2_combine_0 : decode cX2_combine 0 = .ok (.iload_n 0, 1) := by decide +kernel
theorem dX2_combine_1 : decode cX2_combine 1 = .ok (.lookupswitch 119 #[(42, 83), (43, 75), (45, 79), (47, 87), (306, 115), (324, 111), (325, 99), (326, 105)], 75) := by decide +kernel
theorem dX2_combine_76 : decode cX2_combine 76 = .ok (.iload_n 1, 1) := by decide +kernel
theorem dX2_combine_77 : decode cX2_combine 77 = .ok (.iload_n 2, 1) := by decide +kernel
theorem dX2_combine_78 : decode cX2_combine 78 = .ok (.iadd, 1) := by decide +kernel
theorem dX2_combine_79 : decode cX2_combine 79 = .ok (.ireturn, 1) := by decide +kernel
theorem dX2_combine_80 : decode cX2_combine 80 = .ok (.iload_n 1, 1) := by decide +kernel
theorem dX2_combine_81 : decode cX2_combine 81 = .ok (.iload_n 2, 1) := by decide +kernel
theorem dX2_combine_82 : decode cX2_combine 82 = .ok (.isub, 1) := by decide +kernel
theorem dX2_combine_83 : decode cX2_combine 83 = .ok (.ireturn, 1) := by decide +kernel
theorem dX2_combine_84 : decode cX2_combine 84 = .ok (.iload_n 1, 1) := by decide +kernel
theorem dX2_combine_85 : decode cX2_combine 85 = .ok (.iload_n 2, 1) := by decide +kernel
theorem dX2_combine_86 : decode cX2_combine 86 = .ok (.imul, 1) := by decide +kernel
theorem dX2_combine_87 : decode cX2_combine 87 = .ok (.ireturn, 1) := by decide +kernel
theorem dX2_combine_88 : decode cX2_combine 88 = .ok (.iload_n 2, 1) := by decide +kernel
theorem dX2_combine_89 : decode cX2_combine 89 = .ok (.ifCond .ne 7, 3) := by decide +kernel
theorem dX2_combine_92 : decode cX2_combine 92 = .ok (.iconst 0, 1) := by decide +kernel
theorem dX2_combine_93 : decode cX2_combine 93 = .ok (.goto 6, 3) := by decide +kernel
theorem dX2_combine_96 : decode cX2_combine 96 = .ok (.iload_n 1, 1) := by decide +kernel
theorem dX2_combine_97 : decode cX2_combine 97 = .ok (.iload_n 2, 1) := by decide +kernel
theorem dX2_combine_98 : decode cX2_combine 98 = .ok (.idiv, 1) := by decide +kernel
theorem dX2_combine_99 : decode cX2_combine 99 = .ok (.ireturn, 1) := by decide +kernel
theorem dX2_combine_100 : decode cX2_combine 100 = .ok (.iload_n 1, 1) := by decide +kernel
theorem dX2_combine_101 : decode cX2_combine 101 = .ok (.iload_n 2, 1) := by decide +kernel
theorem dX2_combine_102 : decode cX2_combine 102 = .ok (.invokestatic 117, 3) := by decide +kernel
theorem dX2_combine_105 : decode cX2_combine 105 = .ok (.ireturn, 1) := by decide +kernel
theorem dX2_combine_106 : decode cX2_combine 106 = .ok (.iload_n 1, 1) := by decide +kernel
theorem dX2_combine_107 : decode cX2_combine 107 = .ok (.iload_n 2, 1) := by decide +kernel
theorem dX2_combine_108 : decode cX2_combine 108 = .ok (.invokestatic 122, 3) := by decide +kernel
theorem dX2_combine_111 : decode cX2_combine 111 = .ok (.ireturn, 1) := by decide +kernel
theorem dX2_combine_112 : decode cX2_combine 112 = .ok (.iload_n 1, 1) := by decide +kernel
theorem dX2_combine_113 : decode cX2_combine 113 = .ok (.iload_n 2, 1) := by decide +kernel
theorem dX2_combine_114 : decode cX2_combine 114 = .ok (.iand, 1) := by decide +kernel
theorem dX2_combine_115 : decode cX2_combine 115 = .ok (.ireturn, 1) := by decide +kernel
theorem dX2_combine_116 : decode cX2_combine 116 = .ok (.iload_n 1, 1) := by decide +kernel
theorem dX2_combine_117 : decode cX2_combine 117 = .ok (.iload_n 2, 1) := by decide +kernel
theorem dX2_combine_118 : decode cX2_combine 118 = .ok (.ior, 1) := by decide +kernel
theorem dX2_combine_119 : decode cX2_combine 119 = .ok (.ireturn, 1) := by decide +kernel
theorem dX2_combine_120 : decode cX2_combine 120 = .ok (.iload_n 0, 1) := by decide +kernel
theorem dX2_combine_121 : decode cX2_combine 121 = .ok (.iload_n 1, 1) := by decide +kernel
theorem dX2_combine_122 : decode cX2_combine 122 = .ok (.iload_n 2, 1) := by decide +kernel
theorem dX2_combine_123 : decode cX2_combine 123 = .ok (.invokestatic 125, 3) := by decide +kernel
theorem dX2_combine_126 : decode cX2_combine 126 = .ok (.ifCond .eq 7, 3) := by decide +kernel
theorem dX2_combine_129 : decode cX2_combine 129 = .ok (.iconst 1, 1) := by decide +kernel
theorem dX2_combine_130 : decode cX2_combine 130 = .ok (.goto 4, 3) := by decide +kernel
theorem dX2_combine_133 : decode cX2_combine 133 = .ok (.iconst 0, 1) := by decide +kernel
theorem dX2_combine_134 : decode cX2_combine 134 = .ok (.ireturn, 1) := by decide +kernel
theorem dX2_compare_0 : decode cX2_compare 0 = .ok (.iload_n 0, 1) := by decide +kernel
theorem dX2_compare_1 : decode cX2_compare 1 = .ok (.lookupswitch 87 #[(60, 43), (62, 54), (256, 65), (257, 76)], 43) := by decide +kernel
theorem dX2_compare_44 : decode cX2_compare 44 = .ok (.iload_n 1, 1) := by decide +kernel
theorem dX2_compare_45 : decode cX2_compare 45 = .ok (.iload_n 2, 1) := by decide +kernel
theorem dX2_compare_46 : decode cX2_compare 46 = .ok (.if_icmp .ge 7, 3) := by decide +kernel
theorem dX2_compare_49 : decode cX2_compare 49 = .ok (.iconst 1, 1) := by decide +kernel
theorem dX2_compare_50 : decode cX2_compare 50 = .ok (.goto 4, 3) := by decide +kernel
theorem dX2_compare_53 : decode cX2_compare 53 = .ok (.iconst 0, 1) := by decide +kernel
theorem dX2_compare_54 : decode cX2_compare 54 = .ok (.ireturn, 1) := by decide +kernel
theorem dX2_compare_55 : decode cX2_compare 55 = .ok (.iload_n 1, 1) := by decide +kernel
theorem dX2_compare_56 : decode cX2_compare 56 = .ok (.iload_n 2, 1) := by decide +kernel
theorem dX2_compare_57 : decode cX2_compare 57 = .ok (.if_icmp .le 7, 3) := by decide +kernel
theorem dX2_compare_60 : decode cX2_compare 60 = .ok (.iconst 1, 1) := by decide +kernel
theorem dX2_compare_61 : decode cX2_compare 61 = .ok (.goto 4, 3) := by decide +kernel
theorem dX2_compare_64 : decode cX2_compare 64 = .ok (.iconst 0, 1) := by decide +kernel
theorem dX2_compare_65 : decode cX2_compare 65 = .ok (.ireturn, 1) := by decide +kernel
theorem dX2_compare_66 : decode cX2_compare 66 = .ok (.iload_n 1, 1) := by decide +kernel
theorem dX2_compare_67 : decode cX2_compare 67 = .ok (.iload_n 2, 1) := by decide +kernel
theorem dX2_compare_68 : decode cX2_compare 68 = .ok (.if_icmp .gt 7, 3) := by decide +kernel
theorem dX2_compare_71 : decode cX2_compare 71 = .ok (.iconst 1, 1) := by decide +kernel
theorem dX2_compare_72 : decode cX2_compare 72 = .ok (.goto 4, 3) := by decide +kernel
theorem dX2_compare_75 : decode cX2_compare 75 = .ok (.iconst 0, 1) := by decide +kernel
theorem dX2_compare_76 : decode cX2_compare 76 = .ok (.ireturn, 1) := by decide +kernel
theorem dX2_compare_77 : decode cX2_compare 77 = .ok (.iload_n 1, 1) := by decide +kernel
theorem dX2_compare_78 : decode cX2_compare 78 = .ok (.iload_n 2, 1) := by decide +kernel
theorem dX2_compare_79 : decode cX2_compare 79 = .ok (.if_icmp .lt 7, 3) := by decide +kernel
theorem dX2_compare_82 : decode cX2_compare 82 = .ok (.iconst 1, 1) := by decide +kernel
theorem dX2_compare_83 : decode cX2_compare 83 = .ok (.goto 4, 3) := by decide +kernel
theorem dX2_compare_86 : decode cX2_compare 86 = .ok (.iconst 0, 1) := by decide +kernel
theorem dX2_compare_87 : decode cX2_compare 87 = .ok (.ireturn, 1) := by decide +kernel
theorem dX2_compare_88 : decode cX2_compare 88 = .ok (.iload_n 1, 1) := by decide +kernel
theorem dX2_compare_89 : decode cX2_compare 89 = .ok (.iload_n 2, 1) := by decide +kernel
theorem dX2_compare_90 : decode cX2_compare 90 = .ok (.if_icmp .ne 7, 3) := by decide +kernel
theorem dX2_compare_93 : decode cX2_compare 93 = .ok (.iconst 1, 1) := by decide +kernel
theorem dX2_compare_94 : decode cX2_compare 94 = .ok (.goto 4, 3) := by decide +kernel
theorem dX2_compare_97 : decode cX2_compare 97 = .ok (.iconst 0, 1) := by decide +kernel
theorem dX2_compare_98 : decode cX2_compare 98 = .ok (.ireturn, 1) := by decide +kernel
theorem dX3_init_0 : decode cX3_init 0 = .ok (.aload_n 0, 1) := by decide +kernel
theorem dX3_init_1 : decode cX3_init 1 = .ok (.invokespecial 3, 3) := by decide +kernel
theorem dX3_init_4 : decode cX3_init 4 = .ok (.aload_n 0, 1) := by decide +kernel
theorem dX3_init_5 : decode cX3_init 5 = .ok (.bipush 16, 2) := by decide +kernel
theorem dX3_init_7 : decode cX3_init 7 = .ok (.newarray .long, 2) := by decide +kernel
theorem dX3_init_9 : decode cX3_init 9 = .ok (.putfield 11, 3) := by decide +kernel
theorem dX3_init_12 : decode cX3_init 12 = .ok (.aload_n 0, 1) := by decide +kernel
theorem dX3_init_13 : decode cX3_init 13 = .ok (.bipush 16, 2) := by decide +kernel
theorem dX3_init_15 : decode cX3_init 15 = .ok (.newarray .long, 2) := by decide +kernel
theorem dX3_init_17 : decode cX3_init 17 = .ok (.putfield 15, 3) := by decide +kernel
theorem dX3_init_20 : decode cX3_init 20 = .ok (.aload_n 0, 1) := by decide +kernel
theorem dX3_init_21 : decode cX3_init 21 = .ok (.sipush 320, 3) := by decide +kernel
theorem dX3_init_24 : decode cX3_init 24 = .ok (.newarray .long, 2) := by decide +kernel
theorem dX3_init_26 : decode cX3_init 26 = .ok (.putfield 18, 3) := by decide +kernel
theorem dX3_init_29 : decode cX3_init 29 = .ok (.aload_n 0, 1) := by decide +kernel
theorem dX3_init_30 : decode cX3_init 30 = .ok (.iconst 1, 1) := by decide +kernel
theorem dX3_init_31 : decode cX3_init 31 = .ok (.putfield 21, 3) := by decide +kernel
theorem dX3_init_34 : decode cX3_init 34 = .ok (.aload_n 0, 1) := by decide +kernel
theorem dX3_init_35 : decode cX3_init 35 = .ok (.iconst (-1), 1) := by decide +kernel
theorem dX3_init_36 : decode cX3_init 36 = .ok (.putfield 25, 3) := by decide +kernel
theorem dX3_init_39 : decode cX3_init 39 = .ok (.aload_n 0, 1) := by decide +kernel
theorem dX3_init_40 : decode cX3_init 40 = .ok (.aload_n 1, 1) := by decide +kernel
theorem dX3_init_41 : decode cX3_init 41 = .ok (.putfield 28, 3) := by decide +kernel
theorem dX3_init_44 : decode cX3_init 44 = .ok (.return_, 1) := by decide +kernel
theorem dX3_prepare_0 : decode cX3_prepare 0 = .ok (.aload_n 0, 1) := by decide +kernel
theorem dX3_prepare_1 : decode cX3_prepare 1 = .ok (.iconst (-1), 1) := by decide +kernel
theorem dX3_prepare_2 : decode cX3_prepare 2 = .ok (.putfield 25, 3) := by decide +kernel
theorem dX3_prepare_5 : decode cX3_prepare 5 = .ok (.aload_n 0, 1) := by decide +kernel
theorem dX3_prepare_6 : decode cX3_prepare 6 = .ok (.iconst 1, 1) := by decide +kernel
theorem dX3_prepare_7 : decode cX3_prepare 7 = .ok (.aload_n 0, 1) := by decide +kernel
theorem dX3_prepare_8 : decode cX3_prepare 8 = .ok (.getfield 28, 3) := by decide +kernel
theorem dX3_prepare_11 : decode cX3_prepare 11 = .ok (.getfield 32, 3) := by decide +kernel
theorem dX3_prepare_14 : decode cX3_prepare 14 = .ok (.bipush 6, 2) := by decide +kernel
theorem dX3_prepare_16 : decode cX3_prepare 16 = .ok (.isub, 1) := by decide +kernel
theorem dX3_prepare_17 : decode cX3_prepare 17 = .ok (.iconst 0, 1) := by decide +kernel
theorem dX3_prepare_18 : decode cX3_prepare 18 = .ok (.invokestatic 37, 3) := by decide +kernel
theorem dX3_prepare_21 : decode cX3_prepare 21 = .ok (.ishl, 1) := by decide +kernel
theorem dX3_prepare_22 : decode cX3_prepare 22 = .ok (.putfield 21, 3) := by decide +kernel
theorem dX3_prepare_25 : decode cX3_prepare 25 = .ok (.iconst 0, 1) := by decide +kernel
theorem dX3_prepare_26 : decode cX3_prepare 26 = .ok (.istore_n 1, 1) := by decide +kernel
theorem dX3_prepare_27 : decode cX3_prepare 27 = .ok (.iload_n 1, 1) := by decide +kernel
theorem dX3_prepare_28 : decode cX3_prepare 28 = .ok (.aload_n 0, 1) := by decide +kernel
theorem dX3_prepare_29 : decode cX3_prepare 29 = .ok (.getfield 28, 3) := by decide +kernel
theorem dX3_prepare_32 : decode cX3_prepare 32 = .ok (.getfield 43, 3) := by decide +kernel
theorem dX3_prepare_35 : decode cX3_prepare 35 = .ok (.if_icmp .ge 76, 3) := by decide +kernel
theorem dX3_prepare_38 : decode cX3_prepare 38 = .ok (.iconst 0, 1) := by decide +kernel
theorem dX3_prepare_39 : decode cX3_prepare 39 = .ok (.istore_n 2, 1) := by decide +kernel
theorem dX3_prepare_40 : decode cX3_prepare 40 = .ok (.iload_n 2, 1) := by decide +kernel
theorem dX3_prepare_41 : decode cX3_prepare 41 = .ok (.aload_n 0, 1) := by decide +kernel
theorem dX3_prepare_42 : decode cX3_prepare 42 = .ok (.getfield 21, 3) := by decide +kernel
theorem dX3_prepare_45 : decode cX3_prepare 45 = .ok (.if_icmp .ge 60, 3) := by decide +kernel
theorem dX3_prepare_48 : decode cX3_prepare 48 = .ok (.iload_n 1, 1) := by decide +kernel
theorem dX3_prepare_49 : decode cX3_prepare 49 = .ok (.bipush 16, 2) := by decide +kernel
theorem dX3_prepare_51 : decode cX3_prepare 51 = .ok (.imul, 1) := by decide +kernel
theorem dX3_prepare_52 : decode cX3_prepare 52 = .ok (.iload_n 2, 1) := by decide +kernel
theorem dX3_prepare_53 : decode cX3_prepare 53 = .ok (.iadd, 1) := by decide +kernel
theorem dX3_prepare_54 : decode cX3_prepare 54 = .ok (.istore_n 3, 1) := by decide +kernel
theorem dX3_prepare_55 : decode cX3_prepare 55 = .ok (.iload_n 3, 1) := by decide +kernel
theorem dX3_prepare_56 : decode cX3_prepare 56 = .ok (.ifCond .lt 43, 3) := by decide +kernel
theorem dX3_prepare_59 : decode cX3_prepare 59 = .ok (.iload_n 3, 1) := by decide +kernel
theorem dX3_prepare_60 : decode cX3_prepare 60 = .ok (.aload_n 0, 1) := by decide +kernel
theorem dX3_prepare_61 : decode cX3_prepare 61 = .ok (.getfield 18, 3) := by decide +kernel
theorem dX3_prepare_64 : decode cX3_prepare 64 = .ok (.arraylength, 1) := by decide +kernel
theorem dX3_prepare_65 : decode cX3_prepare 65 = .ok (.if_icmp .ge 34, 3) := by decide +kernel
theorem dX3_prepare_68 : decode cX3_prepare 68 = .ok (.aload_n 0, 1) := by decide +kernel
theorem dX3_prepare_69 : decode cX3_prepare 69 = .ok (.getfield 18, 3) := by decide +kernel
theorem dX3_prepare_72 : decode cX3_prepare 72 = .ok (.iload_n 3, 1) := by decide +kernel
theorem dX3_prepare_73 : decode cX3_prepare 73 = .ok (.aload_n 0, 1) := by decide +kernel
theorem dX3_prepare_74 : decode cX3_prepare 74 = .ok (.getfield 28, 3) := by decide +kernel
theorem dX3_prepare_77 : decode cX3_prepare 77 = .ok (.iload_n 1, 1) := by decide +kernel
theorem dX3_prepare_78 : decode cX3_prepare 78 = .ok (.invokevirtual 46, 3) := by decide +kernel
theorem dX3_prepare_81 : decode cX3_prepare 81 = .ok (.iload_n 2, 1) := by decide +kernel
theorem dX3_prepare_82 : decode cX3_prepare 82 = .ok (.invokestatic 50, 3) := by decide +kernel
theorem dX3_prepare_85 : decode cX3_prepare 85 = .ok (.aload_n 0, 1) := by decide +kernel
theorem dX3_prepare_86 : decode cX3_prepare 86 = .ok (.getfield 28, 3) := by decide +kernel
theorem dX3_prepare_89 : decode cX3_prepare 89 = .ok (.iload_n 1, 1) := by decide +kernel
theorem dX3_prepare_90 : decode cX3_prepare 90 = .ok (.invokevirtual 54, 3) := by decide +kernel
theorem dX3_prepare_93 : decode cX3_prepare 93 = .ok (.iload_n 2, 1) := by decide +kernel
theorem dX3_prepare_94 : decode cX3_prepare 94 = .ok (.invokestatic 50, 3) := by decide +kernel
theorem dX3_prepare_97 : decode cX3_prepare 97 = .ok (.lor, 1) := by decide +kernel
theorem dX3_prepare_98 : decode cX3_prepare 98 = .ok (.lastore, 1) := by decide +kernel
theorem dX3_prepare_99 : decode cX3_prepare 99 = .ok (.iinc 2 1, 3) := by decide +kernel
theorem dX3_prepare_102 : decode cX3_prepare 102 = .ok (.goto (-62), 3) := by decide +kernel
theorem dX3_prepare_105 : decode cX3_prepare 105 = .ok (.iinc 1 1, 3) := by decide +kernel
theorem dX3_prepare_108 : decode cX3_prepare 108 = .ok (.goto (-81), 3) := by decide +kernel
theorem dX3_prepare_111 : decode cX3_prepare 111 = .ok (.return_, 1) := by decide +kernel
theorem dX3_count_0 : decode cX3_count 0 = .ok (.aload_n 0, 1) := by decide +kernel
theorem dX3_count_1 : decode cX3_count 1 = .ok (.iload_n 1, 1) := by decide +kernel
theorem dX3_count_2 : decode cX3_count 2 = .ok (.invokevirtual 57, 3) := by decide +kernel
theorem dX3_count_5 : decode cX3_count 5 = .ok (.aload_n 0, 1) := by decide +kernel
theorem dX3_count_6 : decode cX3_count 6 = .ok (.getfield 61, 3) := by decide +kernel
theorem dX3_count_9 : decode cX3_count 9 = .ok (.ireturn, 1) := by decide +kernel
theorem dX3_countWith_0 : decode cX3_countWith 0 = .ok (.aload_n 0, 1) := by decide +kernel
theorem dX3_countWith_1 : decode cX3_countWith 1 = .ok (.iload_n 1, 1) := by decide +kernel
theorem dX3_countWith_2 : decode cX3_countWith 2 = .ok (.invokevirtual 57, 3) := by decide +kernel
theorem dX3_countWith_5 : decode cX3_countWith 5 = .ok (.iconst 0, 1) := by decide +kernel
theorem dX3_countWith_6 : decode cX3_countWith 6 = .ok (.istore_n 3, 1) := by decide +kernel
theorem dX3_countWith_7 : decode cX3_countWith 7 = .ok (.iconst 0, 1) := by decide +kernel
theorem dX3_countWith_8 : decode cX3_countWith 8 = .ok (.istore 4, 2) := by decide +kernel
theorem dX3_countWith_10 : decode cX3_countWith 10 = .ok (.iload 4, 2) := by decide +kernel
theorem dX3_countWith_12 : decode cX3_countWith 12 = .ok (.aload_n 0, 1) := by decide +kernel
theorem dX3_countWith_13 : decode cX3_countWith 13 = .ok (.getfield 21, 3) := by decide +kernel
theorem dX3_countWith_16 : decode cX3_countWith 16 = .ok (.if_icmp .ge 39, 3) := by decide +kernel
theorem dX3_countWith_19 : decode cX3_countWith 19 = .ok (.iload 4, 2) := by decide +kernel
theorem dX3_countWith_21 : decode cX3_countWith 21 = .ok (.aload_n 0, 1) := by decide +kernel
theorem dX3_countWith_22 : decode cX3_countWith 22 = .ok (.getfield 11, 3) := by decide +kernel
theorem dX3_countWith_25 : decode cX3_countWith 25 = .ok (.arraylength, 1) := by decide +kernel
theorem dX3_countWith_26 : decode cX3_countWith 26 = .ok (.if_icmp .ge 29, 3) := by decide +kernel
theorem dX3_countWith_29 : decode cX3_countWith 29 = .ok (.iload_n 3, 1) := by decide +kernel
theorem dX3_countWith_30 : decode cX3_countWith 30 = .ok (.aload_n 0, 1) := by decide +kernel
theorem dX3_countWith_31 : decode cX3_countWith 31 = .ok (.getfield 11, 3) := by decide +kernel
theorem dX3_countWith_34 : decode cX3_countWith 34 = .ok (.iload 4, 2) := by decide +kernel
theorem dX3_countWith_36 : decode cX3_countWith 36 = .ok (.laload, 1) := by decide +kernel
theorem dX3_countWith_37 : decode cX3_countWith 37 = .ok (.iload_n 2, 1) := by decide +kernel
theorem dX3_countWith_38 : decode cX3_countWith 38 = .ok (.iload 4, 2) := by decide +kernel
theorem dX3_countWith_40 : decode cX3_countWith 40 = .ok (.invokestatic 50, 3) := by decide +kernel
theorem dX3_countWith_43 : decode cX3_countWith 43 = .ok (.land, 1) := by decide +kernel
theorem dX3_countWith_44 : decode cX3_countWith 44 = .ok (.invokestatic 64, 3) := by decide +kernel
theorem dX3_countWith_47 : decode cX3_countWith 47 = .ok (.iadd, 1) := by decide +kernel
theorem dX3_countWith_48 : decode cX3_countWith 48 = .ok (.istore_n 3, 1) := by decide +kernel
theorem dX3_countWith_49 : decode cX3_countWith 49 = .ok (.iinc 4 1, 3) := by decide +kernel
theorem dX3_countWith_52 : decode cX3_countWith 52 = .ok (.goto (-42), 3) := by decide +kernel
theorem dX3_countWith_55 : decode cX3_countWith 55 = .ok (.iload_n 3, 1) := by decide +kernel
theorem dX3_countWith_56 : decode cX3_countWith 56 = .ok (.ireturn, 1) := by decide +kernel
theorem dX3_riders_0 : decode cX3_riders 0 = .ok (.aload_n 0, 1) := by decide +kernel
theorem dX3_riders_1 : decode cX3_riders 1 = .ok (.iload_n 1, 1) := by decide +kernel
theorem dX3_riders_2 : decode cX3_riders 2 = .ok (.invokevirtual 57, 3) := by decide +kernel
theorem dX3_riders_5 : decode cX3_riders 5 = .ok (.iconst 0, 1) := by decide +kernel
theorem dX3_riders_6 : decode cX3_riders 6 = .ok (.istore_n 2, 1) := by decide +kernel
theorem dX3_riders_7 : decode cX3_riders 7 = .ok (.iload_n 2, 1) := by decide +kernel
theorem dX3_riders_8 : decode cX3_riders 8 = .ok (.aload_n 0, 1) := by decide +kernel
theorem dX3_riders_9 : decode cX3_riders 9 = .ok (.getfield 21, 3) := by decide +kernel
theorem dX3_riders_12 : decode cX3_riders 12 = .ok (.if_icmp .ge 39, 3) := by decide +kernel
theorem dX3_riders_15 : decode cX3_riders 15 = .ok (.iload_n 2, 1) := by decide +kernel
theorem dX3_riders_16 : decode cX3_riders 16 = .ok (.aload_n 0, 1) := by decide +kernel
theorem dX3_riders_17 : decode cX3_riders 17 = .ok (.getfield 11, 3) := by decide +kernel
theorem dX3_riders_20 : decode cX3_riders 20 = .ok (.arraylength, 1) := by decide +kernel
theorem dX3_riders_21 : decode cX3_riders 21 = .ok (.if_icmp .ge 30, 3) := by decide +kernel
theorem dX3_riders_24 : decode cX3_riders 24 = .ok (.iload_n 2, 1) := by decide +kernel
theorem dX3_riders_25 : decode cX3_riders 25 = .ok (.aload_n 0, 1) := by decide +kernel
theorem dX3_riders_26 : decode cX3_riders 26 = .ok (.getfield 15, 3) := by decide +kernel
theorem dX3_riders_29 : decode cX3_riders 29 = .ok (.arraylength, 1) := by decide +kernel
theorem dX3_riders_30 : decode cX3_riders 30 = .ok (.if_icmp .ge 21, 3) := by decide +kernel
theorem dX3_riders_33 : decode cX3_riders 33 = .ok (.aload_n 0, 1) := by decide +kernel
theorem dX3_riders_34 : decode cX3_riders 34 = .ok (.getfield 15, 3) := by decide +kernel
theorem dX3_riders_37 : decode cX3_riders 37 = .ok (.iload_n 2, 1) := by decide +kernel
theorem dX3_riders_38 : decode cX3_riders 38 = .ok (.aload_n 0, 1) := by decide +kernel
theorem dX3_riders_39 : decode cX3_riders 39 = .ok (.getfield 11, 3) := by decide +kernel
theorem dX3_riders_42 : decode cX3_riders 42 = .ok (.iload_n 2, 1) := by decide +kernel
theorem dX3_riders_43 : decode cX3_riders 43 = .ok (.laload, 1) := by decide +kernel
theorem dX3_riders_44 : decode cX3_riders 44 = .ok (.lastore, 1) := by decide +kernel
theorem dX3_riders_45 : decode cX3_riders 45 = .ok (.iinc 2 1, 3) := by decide +kernel
theorem dX3_riders_48 : decode cX3_riders 48 = .ok (.goto (-41), 3) := by decide +kernel
theorem dX3_riders_51 : decode cX3_riders 51 = .ok (.iconst 0, 1) := by decide +kernel
theorem dX3_riders_52 : decode cX3_riders 52 = .ok (.istore_n 2, 1) := by decide +kernel
theorem dX3_riders_53 : decode cX3_riders 53 = .ok (.iconst 0, 1) := by decide +kernel
theorem dX3_riders_54 : decode cX3_riders 54 = .ok (.istore_n 3, 1) := by decide +kernel
theorem dX3_riders_55 : decode cX3_riders 55 = .ok (.iload_n 3, 1) := by decide +kernel
theorem dX3_riders_56 : decode cX3_riders 56 = .ok (.aload_n 0, 1) := by decide +kernel
theorem dX3_riders_57 : decode cX3_riders 57 = .ok (.getfield 28, 3) := by decide +kernel
theorem dX3_riders_60 : decode cX3_riders 60 = .ok (.getfield 32, 3) := by decide +kernel
theorem dX3_riders_63 : decode cX3_riders 63 = .ok (.if_icmp .ge 23, 3) := by decide +kernel
theorem dX3_riders_66 : decode cX3_riders 66 = .ok (.aload_n 0, 1) := by decide +kernel
theorem dX3_riders_67 : decode cX3_riders 67 = .ok (.iload_n 3, 1) := by decide +kernel
theorem dX3_riders_68 : decode cX3_riders 68 = .ok (.invokevirtual 70, 3) := by decide +kernel
theorem dX3_riders_71 : decode cX3_riders 71 = .ok (.ifCond .eq 9, 3) := by decide +kernel
theorem dX3_riders_74 : decode cX3_riders 74 = .ok (.iload_n 2, 1) := by decide +kernel
theorem dX3_riders_75 : decode cX3_riders 75 = .ok (.iload_n 3, 1) := by decide +kernel
theorem dX3_riders_76 : decode cX3_riders 76 = .ok (.invokestatic 74, 3) := by decide +kernel
theorem dX3_riders_79 : decode cX3_riders 79 = .ok (.istore_n 2, 1) := by decide +kernel
theorem dX3_riders_80 : decode cX3_riders 80 = .ok (.iinc 3 1, 3) := by decide +kernel
theorem dX3_riders_83 : decode cX3_riders 83 = .ok (.goto (-28), 3) := by decide +kernel
theorem dX3_riders_86 : decode cX3_riders 86 = .ok (.iload_n 2, 1) := by decide +kernel
theorem dX3_riders_87 : decode cX3_riders 87 = .ok (.ireturn, 1) := by decide +kernel
theorem dX3_fewestNotHolding_0 : decode cX3_fewestNotHolding 0 = .ok (.iconst 3, 1) := by decide +kernel
theorem dX3_fewestNotHolding_1 : decode cX3_fewestNotHolding 1 = .ok (.istore_n 2, 1) := by decide +kernel
theorem dX3_fewestNotHolding_2 : decode cX3_fewestNotHolding 2 = .ok (.iconst 0, 1) := by decide +kernel
theorem dX3_fewestNotHolding_3 : decode cX3_fewestNotHolding 3 = .ok (.istore_n 3, 1) := by decide +kernel
theorem dX3_fewestNotHolding_4 : decode cX3_fewestNotHolding 4 = .ok (.iload_n 3, 1) := by decide +kernel
theorem dX3_fewestNotHolding_5 : decode cX3_fewestNotHolding 5 = .ok (.aload_n 0, 1) := by decide +kernel
theorem dX3_fewestNotHolding_6 : decode cX3_fewestNotHolding 6 = .ok (.getfield 21, 3) := by decide +kernel
theorem dX3_fewestNotHolding_9 : decode cX3_fewestNotHolding 9 = .ok (.if_icmp .ge 20, 3) := by decide +kernel
theorem dX3_fewestNotHolding_12 : decode cX3_fewestNotHolding 12 = .ok (.iload_n 2, 1) := by decide +kernel
theorem dX3_fewestNotHolding_13 : decode cX3_fewestNotHolding 13 = .ok (.aload_n 0, 1) := by decide +kernel
theorem dX3_fewestNotHolding_14 : decode cX3_fewestNotHolding 14 = .ok (.iload_n 3, 1) := by decide +kernel
theorem dX3_fewestNotHolding_15 : decode cX3_fewestNotHolding 15 = .ok (.iload_n 1, 1) := by decide +kernel
theorem dX3_fewestNotHolding_16 : decode cX3_fewestNotHolding 16 = .ok (.invokevirtual 77, 3) := by decide +kernel
theorem dX3_fewestNotHolding_19 : decode cX3_fewestNotHolding 19 = .ok (.invokestatic 80, 3) := by decide +kernel
theorem dX3_fewestNotHolding_22 : decode cX3_fewestNotHolding 22 = .ok (.istore_n 2, 1) := by decide +kernel
theorem dX3_fewestNotHolding_23 : decode cX3_fewestNotHolding 23 = .ok (.iinc 3 1, 3) := by decide +kernel
theorem dX3_fewestNotHolding_26 : decode cX3_fewestNotHolding 26 = .ok (.goto (-22), 3) := by decide +kernel
theorem dX3_fewestNotHolding_29 : decode cX3_fewestNotHolding 29 = .ok (.iload_n 2, 1) := by decide +kernel
theorem dX3_fewestNotHolding_30 : decode cX3_fewestNotHolding 30 = .ok (.iconst 2, 1) := by decide +kernel
theorem dX3_fewestNotHolding_31 : decode cX3_fewestNotHolding 31 = .ok (.if_icmp .le 7, 3) := by decide +kernel
theorem dX3_fewestNotHolding_34 : decode cX3_fewestNotHolding 34 = .ok (.iconst (-1), 1) := by decide +kernel
theorem dX3_fewestNotHolding_35 : decode cX3_fewestNotHolding 35 = .ok (.goto 4, 3) := by decide +kernel
theorem dX3_fewestNotHolding_38 : decode cX3_fewestNotHolding 38 = .ok (.iload_n 2, 1) := by decide +kernel
theorem dX3_fewestNotHolding_39 : decode cX3_fewestNotHolding 39 = .ok (.ireturn, 1) := by decide +kernel
theorem dX3_fewestNotHoldingIn_0 : decode cX3_fewestNotHoldingIn 0 = .ok (.aload_n 0, 1) := by decide +kernel
theorem dX3_fewestNotHoldingIn_1 : decode cX3_fewestNotHoldingIn 1 = .ok (.iload_n 1, 1) := by decide +kernel
theorem dX3_fewestNotHoldingIn_2 : decode cX3_fewestNotHoldingIn 2 = .ok (.invokevirtual 83, 3) := by decide +kernel
theorem dX3_fewestNotHoldingIn_5 : decode cX3_fewestNotHoldingIn 5 = .ok (.lstore_n 3, 1) := by decide +kernel
theorem dX3_fewestNotHoldingIn_6 : decode cX3_fewestNotHoldingIn 6 = .ok (.lload_n 3, 1) := by decide +kernel
theorem dX3_fewestNotHoldingIn_7 : decode cX3_fewestNotHoldingIn 7 = .ok (.lstore 5, 2) := by decide +kernel
theorem dX3_fewestNotHoldingIn_9 : decode cX3_fewestNotHoldingIn 9 = .ok (.lload_n 3, 1) := by decide +kernel
theorem dX3_fewestNotHoldingIn_10 : decode cX3_fewestNotHoldingIn 10 = .ok (.lstore 7, 2) := by decide +kernel
theorem dX3_fewestNotHoldingIn_12 : decode cX3_fewestNotHoldingIn 12 = .ok (.iconst 0, 1) := by decide +kernel
theorem dX3_fewestNotHoldingIn_13 : decode cX3_fewestNotHoldingIn 13 = .ok (.istore 9, 2) := by decide +kernel
theorem dX3_fewestNotHoldingIn_15 : decode cX3_fewestNotHoldingIn 15 = .ok (.iload 9, 2) := by decide +kernel
theorem dX3_fewestNotHoldingIn_17 : decode cX3_fewestNotHoldingIn 17 = .ok (.aload_n 0, 1) := by decide +kernel
theorem dX3_fewestNotHoldingIn_18 : decode cX3_fewestNotHoldingIn 18 = .ok (.getfield 28, 3) := by decide +kernel
theorem dX3_fewestNotHoldingIn_21 : decode cX3_fewestNotHoldingIn 21 = .ok (.getfield 43, 3) := by decide +kernel
theorem dX3_fewestNotHoldingIn_24 : decode cX3_fewestNotHoldingIn 24 = .ok (.if_icmp .ge 51, 3) := by decide +kernel
theorem dX3_fewestNotHoldingIn_27 : decode cX3_fewestNotHoldingIn 27 = .ok (.iload_n 2, 1) := by decide +kernel
theorem dX3_fewestNotHoldingIn_28 : decode cX3_fewestNotHoldingIn 28 = .ok (.iload 9, 2) := by decide +kernel
theorem dX3_fewestNotHoldingIn_30 : decode cX3_fewestNotHoldingIn 30 = .ok (.invokestatic 87, 3) := by decide +kernel
theorem dX3_fewestNotHoldingIn_33 : decode cX3_fewestNotHoldingIn 33 = .ok (.ifCond .eq 36, 3) := by decide +kernel
theorem dX3_fewestNotHoldingIn_36 : decode cX3_fewestNotHoldingIn 36 = .ok (.aload_n 0, 1) := by decide +kernel
theorem dX3_fewestNotHoldingIn_37 : decode cX3_fewestNotHoldingIn 37 = .ok (.iload 9, 2) := by decide +kernel
theorem dX3_fewestNotHoldingIn_39 : decode cX3_fewestNotHoldingIn 39 = .ok (.iload_n 1, 1) := by decide +kernel
theorem dX3_fewestNotHoldingIn_40 : decode cX3_fewestNotHoldingIn 40 = .ok (.invokevirtual 91, 3) := by decide +kernel
theorem dX3_fewestNotHoldingIn_43 : decode cX3_fewestNotHoldingIn 43 = .ok (.lstore 10, 2) := by decide +kernel
theorem dX3_fewestNotHoldingIn_45 : decode cX3_fewestNotHoldingIn 45 = .ok (.lload 7, 2) := by decide +kernel
theorem dX3_fewestNotHoldingIn_47 : decode cX3_fewestNotHoldingIn 47 = .ok (.lload 10, 2) := by decide +kernel
theorem dX3_fewestNotHoldingIn_49 : decode cX3_fewestNotHoldingIn 49 = .ok (.land, 1) := by decide +kernel
theorem dX3_fewestNotHoldingIn_50 : decode cX3_fewestNotHoldingIn 50 = .ok (.lload 5, 2) := by decide +kernel
theorem dX3_fewestNotHoldingIn_52 : decode cX3_fewestNotHoldingIn 52 = .ok (.lor, 1) := by decide +kernel
theorem dX3_fewestNotHoldingIn_53 : decode cX3_fewestNotHoldingIn 53 = .ok (.lstore 7, 2) := by decide +kernel
theorem dX3_fewestNotHoldingIn_55 : decode cX3_fewestNotHoldingIn 55 = .ok (.lload 5, 2) := by decide +kernel
theorem dX3_fewestNotHoldingIn_57 : decode cX3_fewestNotHoldingIn 57 = .ok (.lload 10, 2) := by decide +kernel
theorem dX3_fewestNotHoldingIn_59 : decode cX3_fewestNotHoldingIn 59 = .ok (.land, 1) := by decide +kernel
theorem dX3_fewestNotHoldingIn_60 : decode cX3_fewestNotHoldingIn 60 = .ok (.lload_n 3, 1) := by decide +kernel
theorem dX3_fewestNotHoldingIn_61 : decode cX3_fewestNotHoldingIn 61 = .ok (.lor, 1) := by decide +kernel
theorem dX3_fewestNotHoldingIn_62 : decode cX3_fewestNotHoldingIn 62 = .ok (.lstore 5, 2) := by decide +kernel
theorem dX3_fewestNotHoldingIn_64 : decode cX3_fewestNotHoldingIn 64 = .ok (.lload_n 3, 1) := by decide +kernel
theorem dX3_fewestNotHoldingIn_65 : decode cX3_fewestNotHoldingIn 65 = .ok (.lload 10, 2) := by decide +kernel
theorem dX3_fewestNotHoldingIn_67 : decode cX3_fewestNotHoldingIn 67 = .ok (.land, 1) := by decide +kernel
theorem dX3_fewestNotHoldingIn_68 : decode cX3_fewestNotHoldingIn 68 = .ok (.lstore_n 3, 1) := by decide +kernel
theorem dX3_fewestNotHoldingIn_69 : decode cX3_fewestNotHoldingIn 69 = .ok (.iinc 9 1, 3) := by decide +kernel
theorem dX3_fewestNotHoldingIn_72 : decode cX3_fewestNotHoldingIn 72 = .ok (.goto (-57), 3) := by decide +kernel
theorem dX3_fewestNotHoldingIn_75 : decode cX3_fewestNotHoldingIn 75 = .ok (.lload_n 3, 1) := by decide +kernel
theorem dX3_fewestNotHoldingIn_76 : decode cX3_fewestNotHoldingIn 76 = .ok (.lconst 0, 1) := by decide +kernel
theorem dX3_fewestNotHoldingIn_77 : decode cX3_fewestNotHoldingIn 77 = .ok (.lcmp, 1) := by decide +kernel
theorem dX3_fewestNotHoldingIn_78 : decode cX3_fewestNotHoldingIn 78 = .ok (.ifCond .eq 5, 3) := by decide +kernel
theorem dX3_fewestNotHoldingIn_81 : decode cX3_fewestNotHoldingIn 81 = .ok (.iconst 0, 1) := by decide +kernel
theorem dX3_fewestNotHoldingIn_82 : decode cX3_fewestNotHoldingIn 82 = .ok (.ireturn, 1) := by decide +kernel
theorem dX3_fewestNotHoldingIn_83 : decode cX3_fewestNotHoldingIn 83 = .ok (.lload 5, 2) := by decide +kernel
theorem dX3_fewestNotHoldingIn_85 : decode cX3_fewestNotHoldingIn 85 = .ok (.lconst 0, 1) := by decide +kernel
theorem dX3_fewestNotHoldingIn_86 : decode cX3_fewestNotHoldingIn 86 = .ok (.lcmp, 1) := by decide +kernel
theorem dX3_fewestNotHoldingIn_87 : decode cX3_fewestNotHoldingIn 87 = .ok (.ifCond .eq 5, 3) := by decide +kernel
theorem dX3_fewestNotHoldingIn_90 : decode cX3_fewestNotHoldingIn 90 = .ok (.iconst 1, 1) := by decide +kernel
theorem dX3_fewestNotHoldingIn_91 : decode cX3_fewestNotHoldingIn 91 = .ok (.ireturn, 1) := by decide +kernel
theorem dX3_fewestNotHoldingIn_92 : decode cX3_fewestNotHoldingIn 92 = .ok (.lload 7, 2) := by decide +kernel
theorem dX3_fewestNotHoldingIn_94 : decode cX3_fewestNotHoldingIn 94 = .ok (.lconst 0, 1) := by decide +kernel
theorem dX3_fewestNotHoldingIn_95 : decode cX3_fewestNotHoldingIn 95 = .ok (.lcmp, 1) := by decide +kernel
theorem dX3_fewestNotHoldingIn_96 : decode cX3_fewestNotHoldingIn 96 = .ok (.ifCond .eq 7, 3) := by decide +kernel
theorem dX3_fewestNotHoldingIn_99 : decode cX3_fewestNotHoldingIn 99 = .ok (.iconst 2, 1) := by decide +kernel
theorem dX3_fewestNotHoldingIn_100 : decode cX3_fewestNotHoldingIn 100 = .ok (.goto 4, 3) := by decide +kernel
theorem dX3_fewestNotHoldingIn_103 : decode cX3_fewestNotHoldingIn 103 = .ok (.iconst 3, 1) := by decide +kernel
theorem dX3_fewestNotHoldingIn_104 : decode cX3_fewestNotHoldingIn 104 = .ok (.ireturn, 1) := by decide +kernel
theorem dX3_narrow_0 : decode cX3_narrow 0 = .ok (.lconst 0, 1) := by decide +kernel
theorem dX3_narrow_1 : decode cX3_narrow 1 = .ok (.lstore_n 2, 1) := by decide +kernel
theorem dX3_narrow_2 : decode cX3_narrow 2 = .ok (.iconst 0, 1) := by decide +kernel
theorem dX3_narrow_3 : decode cX3_narrow 3 = .ok (.istore 4, 2) := by decide +kernel
theorem dX3_narrow_5 : decode cX3_narrow 5 = .ok (.iload 4, 2) := by decide +kernel
theorem dX3_narrow_7 : decode cX3_narrow 7 = .ok (.aload_n 0, 1) := by decide +kernel
theorem dX3_narrow_8 : decode cX3_narrow 8 = .ok (.getfield 21, 3) := by decide +kernel
theorem dX3_narrow_11 : decode cX3_narrow 11 = .ok (.if_icmp .ge 38, 3) := by decide +kernel
theorem dX3_narrow_14 : decode cX3_narrow 14 = .ok (.iload 4, 2) := by decide +kernel
theorem dX3_narrow_16 : decode cX3_narrow 16 = .ok (.aload_n 0, 1) := by decide +kernel
theorem dX3_narrow_17 : decode cX3_narrow 17 = .ok (.getfield 15, 3) := by decide +kernel
theorem dX3_narrow_20 : decode cX3_narrow 20 = .ok (.arraylength, 1) := by decide +kernel
theorem dX3_narrow_21 : decode cX3_narrow 21 = .ok (.if_icmp .ge 28, 3) := by decide +kernel
theorem dX3_narrow_24 : decode cX3_narrow 24 = .ok (.lload_n 2, 1) := by decide +kernel
theorem dX3_narrow_25 : decode cX3_narrow 25 = .ok (.aload_n 0, 1) := by decide +kernel
theorem dX3_narrow_26 : decode cX3_narrow 26 = .ok (.getfield 15, 3) := by decide +kernel
theorem dX3_narrow_29 : decode cX3_narrow 29 = .ok (.iload 4, 2) := by decide +kernel
theorem dX3_narrow_31 : decode cX3_narrow 31 = .ok (.laload, 1) := by decide +kernel
theorem dX3_narrow_32 : decode cX3_narrow 32 = .ok (.iconst 2, 1) := by decide +kernel
theorem dX3_narrow_33 : decode cX3_narrow 33 = .ok (.iload_n 1, 1) := by decide +kernel
theorem dX3_narrow_34 : decode cX3_narrow 34 = .ok (.imul, 1) := by decide +kernel
theorem dX3_narrow_35 : decode cX3_narrow 35 = .ok (.iload 4, 2) := by decide +kernel
theorem dX3_narrow_37 : decode cX3_narrow 37 = .ok (.invokestatic 50, 3) := by decide +kernel
theorem dX3_narrow_40 : decode cX3_narrow 40 = .ok (.land, 1) := by decide +kernel
theorem dX3_narrow_41 : decode cX3_narrow 41 = .ok (.lor, 1) := by decide +kernel
theorem dX3_narrow_42 : decode cX3_narrow 42 = .ok (.lstore_n 2, 1) := by decide +kernel
theorem dX3_narrow_43 : decode cX3_narrow 43 = .ok (.iinc 4 1, 3) := by decide +kernel
theorem dX3_narrow_46 : decode cX3_narrow 46 = .ok (.goto (-41), 3) := by decide +kernel
theorem dX3_narrow_49 : decode cX3_narrow 49 = .ok (.lload_n 2, 1) := by decide +kernel
theorem dX3_narrow_50 : decode cX3_narrow 50 = .ok (.lconst 0, 1) := by decide +kernel
theorem dX3_narrow_51 : decode cX3_narrow 51 = .ok (.lcmp, 1) := by decide +kernel
theorem dX3_narrow_52 : decode cX3_narrow 52 = .ok (.ifCond .ne 5, 3) := by decide +kernel
theorem dX3_narrow_55 : decode cX3_narrow 55 = .ok (.iconst 0, 1) := by decide +kernel
theorem dX3_narrow_56 : decode cX3_narrow 56 = .ok (.ireturn, 1) := by decide +kernel
theorem dX3_narrow_57 : decode cX3_narrow 57 = .ok (.iconst 0, 1) := by decide +kernel
theorem dX3_narrow_58 : decode cX3_narrow 58 = .ok (.istore 4, 2) := by decide +kernel
theorem dX3_narrow_60 : decode cX3_narrow 60 = .ok (.iload 4, 2) := by decide +kernel
theorem dX3_narrow_62 : decode cX3_narrow 62 = .ok (.aload_n 0, 1) := by decide +kernel
theorem dX3_narrow_63 : decode cX3_narrow 63 = .ok (.getfield 21, 3) := by decide +kernel
theorem dX3_narrow_66 : decode cX3_narrow 66 = .ok (.if_icmp .ge 37, 3) := by decide +kernel
theorem dX3_narrow_69 : decode cX3_narrow 69 = .ok (.iload 4, 2) := by decide +kernel
theorem dX3_narrow_71 : decode cX3_narrow 71 = .ok (.aload_n 0, 1) := by decide +kernel
theorem dX3_narrow_72 : decode cX3_narrow 72 = .ok (.getfield 15, 3) := by decide +kernel
theorem dX3_narrow_75 : decode cX3_narrow 75 = .ok (.arraylength, 1) := by decide +kernel
theorem dX3_narrow_76 : decode cX3_narrow 76 = .ok (.if_icmp .ge 27, 3) := by decide +kernel
theorem dX3_narrow_79 : decode cX3_narrow 79 = .ok (.aload_n 0, 1) := by decide +kernel
theorem dX3_narrow_80 : decode cX3_narrow 80 = .ok (.getfield 15, 3) := by decide +kernel
theorem dX3_narrow_83 : decode cX3_narrow 83 = .ok (.iload 4, 2) := by decide +kernel
theorem dX3_narrow_85 : decode cX3_narrow 85 = .ok (.dup2, 1) := by decide +kernel
theorem dX3_narrow_86 : decode cX3_narrow 86 = .ok (.laload, 1) := by decide +kernel
theorem dX3_narrow_87 : decode cX3_narrow 87 = .ok (.iconst 2, 1) := by decide +kernel
theorem dX3_narrow_88 : decode cX3_narrow 88 = .ok (.iload_n 1, 1) := by decide +kernel
theorem dX3_narrow_89 : decode cX3_narrow 89 = .ok (.imul, 1) := by decide +kernel
theorem dX3_narrow_90 : decode cX3_narrow 90 = .ok (.iload 4, 2) := by decide +kernel
theorem dX3_narrow_92 : decode cX3_narrow 92 = .ok (.invokestatic 50, 3) := by decide +kernel
theorem dX3_narrow_95 : decode cX3_narrow 95 = .ok (.land, 1) := by decide +kernel
theorem dX3_narrow_96 : decode cX3_narrow 96 = .ok (.lastore, 1) := by decide +kernel
theorem dX3_narrow_97 : decode cX3_narrow 97 = .ok (.iinc 4 1, 3) := by decide +kernel
theorem dX3_narrow_100 : decode cX3_narrow 100 = .ok (.goto (-40), 3) := by decide +kernel
theorem dX3_narrow_103 : decode cX3_narrow 103 = .ok (.iconst 1, 1) := by decide +kernel
theorem dX3_narrow_104 : decode cX3_narrow 104 = .ok (.ireturn, 1) := by decide +kernel
theorem dX3_look_0 : decode cX3_look 0 = .ok (.iload_n 1, 1) := by decide +kernel
theorem dX3_look_1 : decode cX3_look 1 = .ok (.aload_n 0, 1) := by decide +kernel
theorem dX3_look_2 : decode cX3_look 2 = .ok (.getfield 25, 3) := by decide +kernel
theorem dX3_look_5 : decode cX3_look 5 = .ok (.if_icmp .ne 4, 3) := by decide +kernel
theorem dX3_look_8 : decode cX3_look 8 = .ok (.return_, 1) := by decide +kernel
theorem dX3_look_9 : decode cX3_look 9 = .ok (.aload_n 0, 1) := by decide +kernel
theorem dX3_look_10 : decode cX3_look 10 = .ok (.iload_n 1, 1) := by decide +kernel
theorem dX3_look_11 : decode cX3_look 11 = .ok (.putfield 25, 3) := by decide +kernel
theorem dX3_look_14 : decode cX3_look 14 = .ok (.aload_n 0, 1) := by decide +kernel
theorem dX3_look_15 : decode cX3_look 15 = .ok (.iconst 0, 1) := by decide +kernel
theorem dX3_look_16 : decode cX3_look 16 = .ok (.putfield 61, 3) := by decide +kernel
theorem dX3_look_19 : decode cX3_look 19 = .ok (.iconst 0, 1) := by decide +kernel
theorem dX3_look_20 : decode cX3_look 20 = .ok (.istore_n 2, 1) := by decide +kernel
theorem dX3_look_21 : decode cX3_look 21 = .ok (.iload_n 2, 1) := by decide +kernel
theorem dX3_look_22 : decode cX3_look 22 = .ok (.aload_n 0, 1) := by decide +kernel
theorem dX3_look_23 : decode cX3_look 23 = .ok (.getfield 21, 3) := by decide +kernel
theorem dX3_look_26 : decode cX3_look 26 = .ok (.if_icmp .ge 84, 3) := by decide +kernel
theorem dX3_look_29 : decode cX3_look 29 = .ok (.iload_n 2, 1) := by decide +kernel
theorem dX3_look_30 : decode cX3_look 30 = .ok (.aload_n 0, 1) := by decide +kernel
theorem dX3_look_31 : decode cX3_look 31 = .ok (.getfield 11, 3) := by decide +kernel
theorem dX3_look_34 : decode cX3_look 34 = .ok (.arraylength, 1) := by decide +kernel
theorem dX3_look_35 : decode cX3_look 35 = .ok (.if_icmp .ge 75, 3) := by decide +kernel
theorem dX3_look_38 : decode cX3_look 38 = .ok (.aload_n 0, 1) := by decide +kernel
theorem dX3_look_39 : decode cX3_look 39 = .ok (.iload_n 2, 1) := by decide +kernel
theorem dX3_look_40 : decode cX3_look 40 = .ok (.invokevirtual 83, 3) := by decide +kernel
theorem dX3_look_43 : decode cX3_look 43 = .ok (.lstore_n 3, 1) := by decide +kernel
theorem dX3_look_44 : decode cX3_look 44 = .ok (.iconst 0, 1) := by decide +kernel
theorem dX3_look_45 : decode cX3_look 45 = .ok (.istore 5, 2) := by decide +kernel
theorem dX3_look_47 : decode cX3_look 47 = .ok (.iload 5, 2) := by decide +kernel
theorem dX3_look_49 : decode cX3_look 49 = .ok (.aload_n 0, 1) := by decide +kernel
theorem dX3_look_50 : decode cX3_look 50 = .ok (.getfield 28, 3) := by decide +kernel
theorem dX3_look_53 : decode cX3_look 53 = .ok (.getfield 43, 3) := by decide +kernel
theorem dX3_look_56 : decode cX3_look 56 = .ok (.if_icmp .ge 28, 3) := by decide +kernel
theorem dX3_look_59 : decode cX3_look 59 = .ok (.iload_n 1, 1) := by decide +kernel
theorem dX3_look_60 : decode cX3_look 60 = .ok (.iload 5, 2) := by decide +kernel
theorem dX3_look_62 : decode cX3_look 62 = .ok (.invokestatic 87, 3) := by decide +kernel
theorem dX3_look_65 : decode cX3_look 65 = .ok (.ifCond .eq 13, 3) := by decide +kernel
theorem dX3_look_68 : decode cX3_look 68 = .ok (.lload_n 3, 1) := by decide +kernel
theorem dX3_look_69 : decode cX3_look 69 = .ok (.aload_n 0, 1) := by decide +kernel
theorem dX3_look_70 : decode cX3_look 70 = .ok (.iload 5, 2) := by decide +kernel
theorem dX3_look_72 : decode cX3_look 72 = .ok (.iload_n 2, 1) := by decide +kernel
theorem dX3_look_73 : decode cX3_look 73 = .ok (.invokevirtual 91, 3) := by decide +kernel
theorem dX3_look_76 : decode cX3_look 76 = .ok (.land, 1) := by decide +kernel
theorem dX3_look_77 : decode cX3_look 77 = .ok (.lstore_n 3, 1) := by decide +kernel
theorem dX3_look_78 : decode cX3_look 78 = .ok (.iinc 5 1, 3) := by decide +kernel
theorem dX3_look_81 : decode cX3_look 81 = .ok (.goto (-34), 3) := by decide +kernel
theorem dX3_look_84 : decode cX3_look 84 = .ok (.aload_n 0, 1) := by decide +kernel
theorem dX3_look_85 : decode cX3_look 85 = .ok (.getfield 11, 3) := by decide +kernel
theorem dX3_look_88 : decode cX3_look 88 = .ok (.iload_n 2, 1) := by decide +kernel
theorem dX3_look_89 : decode cX3_look 89 = .ok (.lload_n 3, 1) := by decide +kernel
theorem dX3_look_90 : decode cX3_look 90 = .ok (.lastore, 1) := by decide +kernel
theorem dX3_look_91 : decode cX3_look 91 = .ok (.aload_n 0, 1) := by decide +kernel
theorem dX3_look_92 : decode cX3_look 92 = .ok (.dup, 1) := by decide +kernel
theorem dX3_look_93 : decode cX3_look 93 = .ok (.getfield 61, 3) := by decide +kernel
theorem dX3_look_96 : decode cX3_look 96 = .ok (.lload_n 3, 1) := by decide +kernel
theorem dX3_look_97 : decode cX3_look 97 = .ok (.invokestatic 64, 3) := by decide +kernel
theorem dX3_look_100 : decode cX3_look 100 = .ok (.iadd, 1) := by decide +kernel
theorem dX3_look_101 : decode cX3_look 101 = .ok (.putfield 61, 3) := by decide +kernel
theorem dX3_look_104 : decode cX3_look 104 = .ok (.iinc 2 1, 3) := by decide +kernel
theorem dX3_look_107 : decode cX3_look 107 = .ok (.goto (-86), 3) := by decide +kernel
theorem dX3_look_110 : decode cX3_look 110 = .ok (.return_, 1) := by decide +kernel
theorem dX3_row_0 : decode cX3_row 0 = .ok (.iload_n 1, 1) := by decide +kernel
theorem dX3_row_1 : decode cX3_row 1 = .ok (.bipush 16, 2) := by decide +kernel
theorem dX3_row_3 : decode cX3_row 3 = .ok (.imul, 1) := by decide +kernel
theorem dX3_row_4 : decode cX3_row 4 = .ok (.iload_n 2, 1) := by decide +kernel
theorem dX3_row_5 : decode cX3_row 5 = .ok (.iadd, 1) := by decide +kernel
theorem dX3_row_6 : decode cX3_row 6 = .ok (.istore_n 3, 1) := by decide +kernel
theorem dX3_row_7 : decode cX3_row 7 = .ok (.iload_n 3, 1) := by decide +kernel
theorem dX3_row_8 : decode cX3_row 8 = .ok (.ifCond .lt 21, 3) := by decide +kernel
theorem dX3_row_11 : decode cX3_row 11 = .ok (.iload_n 3, 1) := by decide +kernel
theorem dX3_row_12 : decode cX3_row 12 = .ok (.aload_n 0, 1) := by decide +kernel
theorem dX3_row_13 : decode cX3_row 13 = .ok (.getfield 18, 3) := by decide +kernel
theorem dX3_row_16 : decode cX3_row 16 = .ok (.arraylength, 1) := by decide +kernel
theorem dX3_row_17 : decode cX3_row 17 = .ok (.if_icmp .ge 12, 3) := by decide +kernel
theorem dX3_row_20 : decode cX3_row 20 = .ok (.aload_n 0, 1) := by decide +kernel
theorem dX3_row_21 : decode cX3_row 21 = .ok (.getfield 18, 3) := by decide +kernel
theorem dX3_row_24 : decode cX3_row 24 = .ok (.iload_n 3, 1) := by decide +kernel
theorem dX3_row_25 : decode cX3_row 25 = .ok (.laload, 1) := by decide +kernel
theorem dX3_row_26 : decode cX3_row 26 = .ok (.goto 4, 3) := by decide +kernel
theorem dX3_row_29 : decode cX3_row 29 = .ok (.lconst 0, 1) := by decide +kernel
theorem dX3_row_30 : decode cX3_row 30 = .ok (.lreturn, 1) := by decide +kernel
theorem dX3_allOf_0 : decode cX3_allOf 0 = .ok (.aload_n 0, 1) := by decide +kernel
theorem dX3_allOf_1 : decode cX3_allOf 1 = .ok (.getfield 28, 3) := by decide +kernel
theorem dX3_allOf_4 : decode cX3_allOf 4 = .ok (.getfield 32, 3) := by decide +kernel
theorem dX3_allOf_7 : decode cX3_allOf 7 = .ok (.bipush 6, 2) := by decide +kernel
theorem dX3_allOf_9 : decode cX3_allOf 9 = .ok (.if_icmp .lt 7, 3) := by decide +kernel
theorem dX3_allOf_12 : decode cX3_allOf 12 = .ok (.ldc2_w 94, 3) := by decide +kernel
theorem dX3_allOf_15 : decode cX3_allOf 15 = .ok (.lreturn, 1) := by decide +kernel
theorem dX3_allOf_16 : decode cX3_allOf 16 = .ok (.iload_n 1, 1) := by decide +kernel
theorem dX3_allOf_17 : decode cX3_allOf 17 = .ok (.ifCond .ne 19, 3) := by decide +kernel
theorem dX3_allOf_20 : decode cX3_allOf 20 = .ok (.lconst 1, 1) := by decide +kernel
theorem dX3_allOf_21 : decode cX3_allOf 21 = .ok (.iconst 1, 1) := by decide +kernel
theorem dX3_allOf_22 : decode cX3_allOf 22 = .ok (.aload_n 0, 1) := by decide +kernel
theorem dX3_allOf_23 : decode cX3_allOf 23 = .ok (.getfield 28, 3) := by decide +kernel
theorem dX3_allOf_26 : decode cX3_allOf 26 = .ok (.getfield 32, 3) := by decide +kernel
theorem dX3_allOf_29 : decode cX3_allOf 29 = .ok (.ishl, 1) := by decide +kernel
theorem dX3_allOf_30 : decode cX3_allOf 30 = .ok (.lshl, 1) := by decide +kernel
theorem dX3_allOf_31 : decode cX3_allOf 31 = .ok (.lconst 1, 1) := by decide +kernel
theorem dX3_allOf_32 : decode cX3_allOf 32 = .ok (.lsub, 1) := by decide +kernel
theorem dX3_allOf_33 : decode cX3_allOf 33 = .ok (.goto 4, 3) := by decide +kernel
theorem dX3_allOf_36 : decode cX3_allOf 36 = .ok (.lconst 0, 1) := by decide +kernel
theorem dX3_allOf_37 : decode cX3_allOf 37 = .ok (.lreturn, 1) := by decide +kernel
theorem dX3_holds_0 : decode cX3_holds 0 = .ok (.iload_n 0, 1) := by decide +kernel
theorem dX3_holds_1 : decode cX3_holds 1 = .ok (.iconst 1, 1) := by decide +kernel
theorem dX3_holds_2 : decode cX3_holds 2 = .ok (.ishr, 1) := by decide +kernel
theorem dX3_holds_3 : decode cX3_holds 3 = .ok (.istore_n 2, 1) := by decide +kernel
theorem dX3_holds_4 : decode cX3_holds 4 = .ok (.iload_n 2, 1) := by decide +kernel
theorem dX3_holds_5 : decode cX3_holds 5 = .ok (.ifCond .lt 20, 3) := by decide +kernel
theorem dX3_holds_8 : decode cX3_holds 8 = .ok (.iload_n 2, 1) := by decide +kernel
theorem dX3_holds_9 : decode cX3_holds 9 = .ok (.getstatic 96, 3) := by decide +kernel
theorem dX3_holds_12 : decode cX3_holds 12 = .ok (.arraylength, 1) := by decide +kernel
theorem dX3_holds_13 : decode cX3_holds 13 = .ok (.if_icmp .ge 12, 3) := by decide +kernel
theorem dX3_holds_16 : decode cX3_holds 16 = .ok (.getstatic 96, 3) := by decide +kernel
theorem dX3_holds_19 : decode cX3_holds 19 = .ok (.iload_n 2, 1) := by decide +kernel
theorem dX3_holds_20 : decode cX3_holds 20 = .ok (.laload, 1) := by decide +kernel
theorem dX3_holds_21 : decode cX3_holds 21 = .ok (.lstore_n 3, 1) := by decide +kernel
theorem dX3_holds_22 : decode cX3_holds 22 = .ok (.goto 22, 3) := by decide +kernel
theorem dX3_holds_25 : decode cX3_holds 25 = .ok (.iload_n 1, 1) := by decide +kernel
theorem dX3_holds_26 : decode cX3_holds 26 = .ok (.iload_n 2, 1) := by decide +kernel
theorem dX3_holds_27 : decode cX3_holds 27 = .ok (.bipush 6, 2) := by decide +kernel
theorem dX3_holds_29 : decode cX3_holds 29 = .ok (.isub, 1) := by decide +kernel
theorem dX3_holds_30 : decode cX3_holds 30 = .ok (.invokestatic 87, 3) := by decide +kernel
theorem dX3_holds_33 : decode cX3_holds 33 = .ok (.ifCond .eq 9, 3) := by decide +kernel
theorem dX3_holds_36 : decode cX3_holds 36 = .ok (.ldc2_w 94, 3) := by decide +kernel
theorem dX3_holds_39 : decode cX3_holds 39 = .ok (.goto 4, 3) := by decide +kernel
theorem dX3_holds_42 : decode cX3_holds 42 = .ok (.lconst 0, 1) := by decide +kernel
theorem dX3_holds_43 : decode cX3_holds 43 = .ok (.lstore_n 3, 1) := by decide +kernel
theorem dX3_holds_44 : decode cX3_holds 44 = .ok (.iload_n 0, 1) := by decide +kernel
theorem dX3_holds_45 : decode cX3_holds 45 = .ok (.iconst 1, 1) := by decide +kernel
theorem dX3_holds_46 : decode cX3_holds 46 = .ok (.iand, 1) := by decide +kernel
theorem dX3_holds_47 : decode cX3_holds 47 = .ok (.ifCond .ne 7, 3) := by decide +kernel
theorem dX3_holds_50 : decode cX3_holds 50 = .ok (.lload_n 3, 1) := by decide +kernel
theorem dX3_holds_51 : decode cX3_holds 51 = .ok (.goto 8, 3) := by decide +kernel
theorem dX3_holds_54 : decode cX3_holds 54 = .ok (.lload_n 3, 1) := by decide +kernel
theorem dX3_holds_55 : decode cX3_holds 55 = .ok (.ldc2_w 94, 3) := by decide +kernel
theorem dX3_holds_58 : decode cX3_holds 58 = .ok (.lxor, 1) := by decide +kernel
theorem dX3_holds_59 : decode cX3_holds 59 = .ok (.lreturn, 1) := by decide +kernel
theorem dX4_init_0 : decode cX4_init 0 = .ok (.aload_n 0, 1) := by decide +kernel
theorem dX4_init_1 : decode cX4_init 1 = .ok (.invokespecial 3, 3) := by decide +kernel
theorem dX4_init_4 : decode cX4_init 4 = .ok (.aload_n 0, 1) := by decide +kernel
theorem dX4_init_5 : decode cX4_init 5 = .ok (.bipush 10, 2) := by decide +kernel
theorem dX4_init_7 : decode cX4_init 7 = .ok (.newarray .long, 2) := by decide +kernel
theorem dX4_init_9 : decode cX4_init 9 = .ok (.putfield 9, 3) := by decide +kernel
theorem dX4_init_12 : decode cX4_init 12 = .ok (.aload_n 0, 1) := by decide +kernel
theorem dX4_init_13 : decode cX4_init 13 = .ok (.bipush 20, 2) := by decide +kernel
theorem dX4_init_15 : decode cX4_init 15 = .ok (.newarray .long, 2) := by decide +kernel
theorem dX4_init_17 : decode cX4_init 17 = .ok (.putfield 15, 3) := by decide +kernel
theorem dX4_init_20 : decode cX4_init 20 = .ok (.aload_n 0, 1) := by decide +kernel
theorem dX4_init_21 : decode cX4_init 21 = .ok (.aload_n 1, 1) := by decide +kernel
theorem dX4_init_22 : decode cX4_init 22 = .ok (.putfield 18, 3) := by decide +kernel
theorem dX4_init_25 : decode cX4_init 25 = .ok (.aload_n 0, 1) := by decide +kernel
theorem dX4_init_26 : decode cX4_init 26 = .ok (.aload_n 2, 1) := by decide +kernel
theorem dX4_init_27 : decode cX4_init 27 = .ok (.putfield 22, 3) := by decide +kernel
theorem dX4_init_30 : decode cX4_init 30 = .ok (.return_, 1) := by decide +kernel
theorem dX4_read_0 : decode cX4_read 0 = .ok (.aload_n 0, 1) := by decide +kernel
theorem dX4_read_1 : decode cX4_read 1 = .ok (.iconst 0, 1) := by decide +kernel
theorem dX4_read_2 : decode cX4_read 2 = .ok (.putfield 26, 3) := by decide +kernel
theorem dX4_read_5 : decode cX4_read 5 = .ok (.aload_n 0, 1) := by decide +kernel
theorem dX4_read_6 : decode cX4_read 6 = .ok (.iconst 0, 1) := by decide +kernel
theorem dX4_read_7 : decode cX4_read 7 = .ok (.putfield 30, 3) := by decide +kernel
theorem dX4_read_10 : decode cX4_read 10 = .ok (.aload_n 0, 1) := by decide +kernel
theorem dX4_read_11 : decode cX4_read 11 = .ok (.getfield 22, 3) := by decide +kernel
theorem dX4_read_14 : decode cX4_read 14 = .ok (.invokevirtual 33, 3) := by decide +kernel
theorem dX4_read_17 : decode cX4_read 17 = .ok (.iconst 1, 1) := by decide +kernel
theorem dX4_read_18 : decode cX4_read 18 = .ok (.istore_n 1, 1) := by decide +kernel
theorem dX4_read_19 : decode cX4_read 19 = .ok (.iconst 0, 1) := by decide +kernel
theorem dX4_read_20 : decode cX4_read 20 = .ok (.istore_n 2, 1) := by decide +kernel
theorem dX4_read_21 : decode cX4_read 21 = .ok (.iload_n 2, 1) := by decide +kernel
theorem dX4_read_22 : decode cX4_read 22 = .ok (.sipush 400, 3) := by decide +kernel
theorem dX4_read_25 : decode cX4_read 25 = .ok (.if_icmp .ge 45, 3) := by decide +kernel
theorem dX4_read_28 : decode cX4_read 28 = .ok (.iload_n 1, 1) := by decide +kernel
theorem dX4_read_29 : decode cX4_read 29 = .ok (.ifCond .eq 41, 3) := by decide +kernel
theorem dX4_read_32 : decode cX4_read 32 = .ok (.aload_n 0, 1) := by decide +kernel
theorem dX4_read_33 : decode cX4_read 33 = .ok (.sipush 260, 3) := by decide +kernel
theorem dX4_read_36 : decode cX4_read 36 = .ok (.invokevirtual 38, 3) := by decide +kernel
theorem dX4_read_39 : decode cX4_read 39 = .ok (.ifCond .ne 31, 3) := by decide +kernel
theorem dX4_read_42 : decode cX4_read 42 = .ok (.aload_n 0, 1) := by decide +kernel
theorem dX4_read_43 : decode cX4_read 43 = .ok (.invokevirtual 42, 3) := by decide +kernel
theorem dX4_read_46 : decode cX4_read 46 = .ok (.ifCond .eq 16, 3) := by decide +kernel
theorem dX4_read_49 : decode cX4_read 49 = .ok (.aload_n 0, 1) := by decide +kernel
theorem dX4_read_50 : decode cX4_read 50 = .ok (.bipush 59, 2) := by decide +kernel
theorem dX4_read_52 : decode cX4_read 52 = .ok (.invokevirtual 46, 3) := by decide +kernel
theorem dX4_read_55 : decode cX4_read 55 = .ok (.ifCond .eq 7, 3) := by decide +kernel
theorem dX4_read_58 : decode cX4_read 58 = .ok (.iconst 1, 1) := by decide +kernel
theorem dX4_read_59 : decode cX4_read 59 = .ok (.goto 4, 3) := by decide +kernel
theorem dX4_read_62 : decode cX4_read 62 = .ok (.iconst 0, 1) := by decide +kernel
theorem dX4_read_63 : decode cX4_read 63 = .ok (.istore_n 1, 1) := by decide +kernel
theorem dX4_read_64 : decode cX4_read 64 = .ok (.iinc 2 1, 3) := by decide +kernel
theorem dX4_read_67 : decode cX4_read 67 = .ok (.goto (-46), 3) := by decide +kernel
theorem dX4_read_70 : decode cX4_read 70 = .ok (.iload_n 1, 1) := by decide +kernel
theorem dX4_read_71 : decode cX4_read 71 = .ok (.ifCond .eq 13, 3) := by decide +kernel
theorem dX4_read_74 : decode cX4_read 74 = .ok (.aload_n 0, 1) := by decide +kernel
theorem dX4_read_75 : decode cX4_read 75 = .ok (.sipush 260, 3) := by decide +kernel
theorem dX4_read_78 : decode cX4_read 78 = .ok (.invokevirtual 38, 3) := by decide +kernel
theorem dX4_read_81 : decode cX4_read 81 = .ok (.ifCond .ne 16, 3) := by decide +kernel
theorem dX4_read_84 : decode cX4_read 84 = .ok (.aload_n 0, 1) := by decide +kernel
theorem dX4_read_85 : decode cX4_read 85 = .ok (.iconst 1, 1) := by decide +kernel
theorem dX4_read_86 : decode cX4_read 86 = .ok (.putfield 30, 3) := by decide +kernel
theorem dX4_read_89 : decode cX4_read 89 = .ok (.aload_n 0, 1) := by decide +kernel
theorem dX4_read_90 : decode cX4_read 90 = .ok (.aload_n 0, 1) := by decide +kernel
theorem dX4_read_91 : decode cX4_read 91 = .ok (.getfield 26, 3) := by decide +kernel
theorem dX4_read_94 : decode cX4_read 94 = .ok (.putfield 49, 3) := by decide +kernel
theorem dX4_read_97 : decode cX4_read 97 = .ok (.aload_n 0, 1) := by decide +kernel
theorem dX4_read_98 : decode cX4_read 98 = .ok (.getfield 30, 3) := by decide +kernel
theorem dX4_read_101 : decode cX4_read 101 = .ok (.ireturn, 1) := by decide +kernel
theorem dX4_errorPosition_0 : decode cX4_errorPosition 0 = .ok (.aload_n 0, 1) := by decide +kernel
theorem dX4_errorPosition_1 : decode cX4_errorPosition 1 = .ok (.getfield 30, 3) := by decide +kernel
theorem dX4_errorPosition_4 : decode cX4_errorPosition 4 = .ok (.ifCond .ne 7, 3) := by decide +kernel
theorem dX4_errorPosition_7 : decode cX4_errorPosition 7 = .ok (.iconst (-1), 1) := by decide +kernel
theorem dX4_errorPosition_8 : decode cX4_errorPosition 8 = .ok (.goto 14, 3) := by decide +kernel
theorem dX4_errorPosition_11 : decode cX4_errorPosition 11 = .ok (.aload_n 0, 1) := by decide +kernel
theorem dX4_errorPosition_12 : decode cX4_errorPosition 12 = .ok (.getfield 18, 3) := by decide +kernel
theorem dX4_errorPosition_15 : decode cX4_errorPosition 15 = .ok (.aload_n 0, 1) := by decide +kernel
theorem dX4_errorPosition_16 : decode cX4_errorPosition 16 = .ok (.getfield 49, 3) := by decide +kernel
theorem dX4_errorPosition_19 : decode cX4_errorPosition 19 = .ok (.invokevirtual 52, 3) := by decide +kernel
theorem dX4_errorPosition_22 : decode cX4_errorPosition 22 = .ok (.ireturn, 1) := by decide +kernel
theorem dX4_isNext_0 : decode cX4_isNext 0 = .ok (.aload_n 0, 1) := by decide +kernel
theorem dX4_isNext_1 : decode cX4_isNext 1 = .ok (.getfield 18, 3) := by decide +kernel
theorem dX4_isNext_4 : decode cX4_isNext 4 = .ok (.aload_n 0, 1) := by decide +kernel
theorem dX4_isNext_5 : decode cX4_isNext 5 = .ok (.getfield 26, 3) := by decide +kernel
theorem dX4_isNext_8 : decode cX4_isNext 8 = .ok (.invokevirtual 58, 3) := by decide +kernel
theorem dX4_isNext_11 : decode cX4_isNext 11 = .ok (.iload_n 1, 1) := by decide +kernel
theorem dX4_isNext_12 : decode cX4_isNext 12 = .ok (.if_icmp .ne 7, 3) := by decide +kernel
theorem dX4_isNext_15 : decode cX4_isNext 15 = .ok (.iconst 1, 1) := by decide +kernel
theorem dX4_isNext_16 : decode cX4_isNext 16 = .ok (.goto 4, 3) := by decide +kernel
theorem dX4_isNext_19 : decode cX4_isNext 19 = .ok (.iconst 0, 1) := by decide +kernel
theorem dX4_isNext_20 : decode cX4_isNext 20 = .ok (.ireturn, 1) := by decide +kernel
theorem dX4_take_0 : decode cX4_take 0 = .ok (.aload_n 0, 1) := by decide +kernel
theorem dX4_take_1 : decode cX4_take 1 = .ok (.getfield 18, 3) := by decide +kernel
theorem dX4_take_4 : decode cX4_take 4 = .ok (.aload_n 0, 1) := by decide +kernel
theorem dX4_take_5 : decode cX4_take 5 = .ok (.getfield 26, 3) := by decide +kernel
theorem dX4_take_8 : decode cX4_take 8 = .ok (.invokevirtual 58, 3) := by decide +kernel
theorem dX4_take_11 : decode cX4_take 11 = .ok (.iload_n 1, 1) := by decide +kernel
theorem dX4_take_12 : decode cX4_take 12 = .ok (.if_icmp .eq 5, 3) := by decide +kernel
theorem dX4_take_15 : decode cX4_take 15 = .ok (.iconst 0, 1) := by decide +kernel
theorem dX4_take_16 : decode cX4_take 16 = .ok (.ireturn, 1) := by decide +kernel
theorem dX4_take_17 : decode cX4_take 17 = .ok (.aload_n 0, 1) := by decide +kernel
theorem dX4_take_18 : decode cX4_take 18 = .ok (.dup, 1) := by decide +kernel
theorem dX4_take_19 : decode cX4_take 19 = .ok (.getfield 26, 3) := by decide +kernel
theorem dX4_take_22 : decode cX4_take 22 = .ok (.iconst 1, 1) := by decide +kernel
theorem dX4_take_23 : decode cX4_take 23 = .ok (.iadd, 1) := by decide +kernel
theorem dX4_take_24 : decode cX4_take 24 = .ok (.putfield 26, 3) := by decide +kernel
theorem dX4_take_27 : decode cX4_take 27 = .ok (.iconst 1, 1) := by decide +kernel
theorem dX4_take_28 : decode cX4_take 28 = .ok (.ireturn, 1) := by decide +kernel
theorem dX4_takeDeeper_0 : decode cX4_takeDeeper 0 = .ok (.iload_n 2, 1) := by decide +kernel
theorem dX4_takeDeeper_1 : decode cX4_takeDeeper 1 = .ok (.bipush 8, 2) := by decide +kernel
theorem dX4_takeDeeper_3 : decode cX4_takeDeeper 3 = .ok (.if_icmp .ge 18, 3) := by decide +kernel
theorem dX4_takeDeeper_6 : decode cX4_takeDeeper 6 = .ok (.aload_n 0, 1) := by decide +kernel
theorem dX4_takeDeeper_7 : decode cX4_takeDeeper 7 = .ok (.getfield 18, 3) := by decide +kernel
theorem dX4_takeDeeper_10 : decode cX4_takeDeeper 10 = .ok (.aload_n 0, 1) := by decide +kernel
theorem dX4_takeDeeper_11 : decode cX4_takeDeeper 11 = .ok (.getfield 26, 3) := by decide +kernel
theorem dX4_takeDeeper_14 : decode cX4_takeDeeper 14 = .ok (.invokevirtual 58, 3) := by decide +kernel
theorem dX4_takeDeeper_17 : decode cX4_takeDeeper 17 = .ok (.iload_n 1, 1) := by decide +kernel
theorem dX4_takeDeeper_18 : decode cX4_takeDeeper 18 = .ok (.if_icmp .eq 5, 3) := by decide +kernel
theorem dX4_takeDeeper_21 : decode cX4_takeDeeper 21 = .ok (.iconst 0, 1) := by decide +kernel
theorem dX4_takeDeeper_22 : decode cX4_takeDeeper 22 = .ok (.ireturn, 1) := by decide +kernel
theorem dX4_takeDeeper_23 : decode cX4_takeDeeper 23 = .ok (.aload_n 0, 1) := by decide +kernel
theorem dX4_takeDeeper_24 : decode cX4_takeDeeper 24 = .ok (.dup, 1) := by decide +kernel
theorem dX4_takeDeeper_25 : decode cX4_takeDeeper 25 = .ok (.getfield 26, 3) := by decide +kernel
theorem dX4_takeDeeper_28 : decode cX4_takeDeeper 28 = .ok (.iconst 1, 1) := by decide +kernel
theorem dX4_takeDeeper_29 : decode cX4_takeDeeper 29 = .ok (.iadd, 1) := by decide +kernel
theorem dX4_takeDeeper_30 : decode cX4_takeDeeper 30 = .ok (.putfield 26, 3) := by decide +kernel
theorem dX4_takeDeeper_33 : decode cX4_takeDeeper 33 = .ok (.iconst 1, 1) := by decide +kernel
theorem dX4_takeDeeper_34 : decode cX4_takeDeeper 34 = .ok (.ireturn, 1) := by decide +kernel
theorem dX4_note_0 : decode cX4_note 0 = .ok (.aload_n 0, 1) := by decide +kernel
theorem dX4_note_1 : decode cX4_note 1 = .ok (.getfield 30, 3) := by decide +kernel
theorem dX4_note_4 : decode cX4_note 4 = .ok (.ifCond .ne 16, 3) := by decide +kernel
theorem dX4_note_7 : decode cX4_note 7 = .ok (.aload_n 0, 1) := by decide +kernel
theorem dX4_note_8 : decode cX4_note 8 = .ok (.iload_n 1, 1) := by decide +kernel
theorem dX4_note_9 : decode cX4_note 9 = .ok (.putfield 30, 3) := by decide +kernel
theorem dX4_note_12 : decode cX4_note 12 = .ok (.aload_n 0, 1) := by decide +kernel
theorem dX4_note_13 : decode cX4_note 13 = .ok (.aload_n 0, 1) := by decide +kernel
theorem dX4_note_14 : decode cX4_note 14 = .ok (.getfield 26, 3) := by decide +kernel
theorem dX4_note_17 : decode cX4_note 17 = .ok (.putfield 49, 3) := by decide +kernel
theorem dX4_note_20 : decode cX4_note 20 = .ok (.return_, 1) := by decide +kernel
theorem dX4_find_0 : decode cX4_find 0 = .ok (.iconst 0, 1) := by decide +kernel
theorem dX4_find_1 : decode cX4_find 1 = .ok (.istore 4, 2) := by decide +kernel
theorem dX4_find_3 : decode cX4_find 3 = .ok (.iload 4, 2) := by decide +kernel
theorem dX4_find_5 : decode cX4_find 5 = .ok (.iload_n 1, 1) := by decide +kernel
theorem dX4_find_6 : decode cX4_find 6 = .ok (.if_icmp .ge 28, 3) := by decide +kernel
theorem dX4_find_9 : decode cX4_find 9 = .ok (.iload 4, 2) := by decide +kernel
theorem dX4_find_11 : decode cX4_find 11 = .ok (.aload_n 0, 1) := by decide +kernel
theorem dX4_find_12 : decode cX4_find 12 = .ok (.arraylength, 1) := by decide +kernel
theorem dX4_find_13 : decode cX4_find 13 = .ok (.if_icmp .ge 21, 3) := by decide +kernel
theorem dX4_find_16 : decode cX4_find 16 = .ok (.aload_n 0, 1) := by decide +kernel
theorem dX4_find_17 : decode cX4_find 17 = .ok (.iload 4, 2) := by decide +kernel
theorem dX4_find_19 : decode cX4_find 19 = .ok (.laload, 1) := by decide +kernel
theorem dX4_find_20 : decode cX4_find 20 = .ok (.lload_n 2, 1) := by decide +kernel
theorem dX4_find_21 : decode cX4_find 21 = .ok (.lcmp, 1) := by decide +kernel
theorem dX4_find_22 : decode cX4_find 22 = .ok (.ifCond .ne 6, 3) := by decide +kernel
theorem dX4_find_25 : decode cX4_find 25 = .ok (.iload 4, 2) := by decide +kernel
theorem dX4_find_27 : decode cX4_find 27 = .ok (.ireturn, 1) := by decide +kernel
theorem dX4_find_28 : decode cX4_find 28 = .ok (.iinc 4 1, 3) := by decide +kernel
theorem dX4_find_31 : decode cX4_find 31 = .ok (.goto (-28), 3) := by decide +kernel
theorem dX4_find_34 : decode cX4_find 34 = .ok (.iconst (-1), 1) := by decide +kernel
theorem dX4_find_35 : decode cX4_find 35 = .ok (.ireturn, 1) := by decide +kernel
theorem dX4_readLine_0 : decode cX4_readLine 0 = .ok (.aload_n 0, 1) := by decide +kernel
theorem dX4_readLine_1 : decode cX4_readLine 1 = .ok (.getfield 18, 3) := by decide +kernel
theorem dX4_readLine_4 : decode cX4_readLine 4 = .ok (.aload_n 0, 1) := by decide +kernel
theorem dX4_readLine_5 : decode cX4_readLine 5 = .ok (.getfield 26, 3) := by decide +kernel
theorem dX4_readLine_8 : decode cX4_readLine 8 = .ok (.invokevirtual 58, 3) := by decide +kernel
theorem dX4_readLine_11 : decode cX4_readLine 11 = .ok (.tableswitch 127 300 313 #[69, 74, 127, 127, 86, 127, 127, 98, 127, 110, 127, 127, 122, 122], 69) := by decide +kernel
theorem dX4_readLine_80 : decode cX4_readLine 80 = .ok (.aload_n 0, 1) := by decide +kernel
theorem dX4_readLine_81 : decode cX4_readLine 81 = .ok (.invokevirtual 61, 3) := by decide +kernel
theorem dX4_readLine_84 : decode cX4_readLine 84 = .ok (.ireturn, 1) := by decide +kernel
theorem dX4_readLine_85 : decode cX4_readLine 85 = .ok (.aload_n 0, 1) := by decide +kernel
theorem dX4_readLine_86 : decode cX4_readLine 86 = .ok (.iconst 0, 1) := by decide +kernel
theorem dX4_readLine_87 : decode cX4_readLine 87 = .ok (.sipush 302, 3) := by decide +kernel
theorem dX4_readLine_90 : decode cX4_readLine 90 = .ok (.sipush 303, 3) := by decide +kernel
theorem dX4_readLine_93 : decode cX4_readLine 93 = .ok (.invokevirtual 64, 3) := by decide +kernel
theorem dX4_readLine_96 : decode cX4_readLine 96 = .ok (.ireturn, 1) := by decide +kernel
theorem dX4_readLine_97 : decode cX4_readLine 97 = .ok (.aload_n 0, 1) := by decide +kernel
theorem dX4_readLine_98 : decode cX4_readLine 98 = .ok (.iconst 1, 1) := by decide +kernel
theorem dX4_readLine_99 : decode cX4_readLine 99 = .ok (.sipush 305, 3) := by decide +kernel
theorem dX4_readLine_102 : decode cX4_readLine 102 = .ok (.sipush 306, 3) := by decide +kernel
theorem dX4_readLine_105 : decode cX4_readLine 105 = .ok (.invokevirtual 64, 3) := by decide +kernel
theorem dX4_readLine_108 : decode cX4_readLine 108 = .ok (.ireturn, 1) := by decide +kernel
theorem dX4_readLine_109 : decode cX4_readLine 109 = .ok (.aload_n 0, 1) := by decide +kernel
theorem dX4_readLine_110 : decode cX4_readLine 110 = .ok (.iconst 2, 1) := by decide +kernel
theorem dX4_readLine_111 : decode cX4_readLine 111 = .ok (.sipush 263, 3) := by decide +kernel
theorem dX4_readLine_114 : decode cX4_readLine 114 = .ok (.sipush 308, 3) := by decide +kernel
theorem dX4_readLine_117 : decode cX4_readLine 117 = .ok (.invokevirtual 64, 3) := by decide +kernel
theorem dX4_readLine_120 : decode cX4_readLine 120 = .ok (.ireturn, 1) := by decide +kernel
theorem dX4_readLine_121 : decode cX4_readLine 121 = .ok (.aload_n 0, 1) := by decide +kernel
theorem dX4_readLine_122 : decode cX4_readLine 122 = .ok (.iconst 3, 1) := by decide +kernel
theorem dX4_readLine_123 : decode cX4_readLine 123 = .ok (.sipush 263, 3) := by decide +kernel
theorem dX4_readLine_126 : decode cX4_readLine 126 = .ok (.sipush 263, 3) := by decide +kernel
theorem dX4_readLine_129 : decode cX4_readLine 129 = .ok (.invokevirtual 64, 3) := by decide +kernel
theorem dX4_readLine_132 : decode cX4_readLine 132 = .ok (.ireturn, 1) := by decide +kernel
theorem dX4_readLine_133 : decode cX4_readLine 133 = .ok (.aload_n 0, 1) := by decide +kernel
theorem dX4_readLine_134 : decode cX4_readLine 134 = .ok (.invokevirtual 68, 3) := by decide +kernel
theorem dX4_readLine_137 : decode cX4_readLine 137 = .ok (.ireturn, 1) := by decide +kernel
theorem dX4_readLine_138 : decode cX4_readLine 138 = .ok (.iconst 0, 1) := by decide +kernel
theorem dX4_readLine_139 : decode cX4_readLine 139 = .ok (.ireturn, 1) := by decide +kernel
theorem dX4_readFamily_0 : decode cX4_readFamily 0 = .ok (.aload_n 0, 1) := by decide +kernel
theorem dX4_readFamily_1 : decode cX4_readFamily 1 = .ok (.dup, 1) := by decide +kernel
theorem dX4_readFamily_2 : decode cX4_readFamily 2 = .ok (.getfield 26, 3) := by decide +kernel
theorem dX4_readFamily_5 : decode cX4_readFamily 5 = .ok (.iconst 1, 1) := by decide +kernel
theorem dX4_readFamily_6 : decode cX4_readFamily 6 = .ok (.iadd, 1) := by decide +kernel
theorem dX4_readFamily_7 : decode cX4_readFamily 7 = .ok (.putfield 26, 3) := by decide +kernel
theorem dX4_readFamily_10 : decode cX4_readFamily 10 = .ok (.aload_n 0, 1) := by decide +kernel
theorem dX4_readFamily_11 : decode cX4_readFamily 11 = .ok (.sipush 258, 3) := by decide +kernel
theorem dX4_readFamily_14 : decode cX4_readFamily 14 = .ok (.invokevirtual 38, 3) := by decide +kernel
theorem dX4_readFamily_17 : decode cX4_readFamily 17 = .ok (.ifCond .ne 5, 3) := by decide +kernel
theorem dX4_readFamily_20 : decode cX4_readFamily 20 = .ok (.iconst 0, 1) := by decide +kernel
theorem dX4_readFamily_21 : decode cX4_readFamily 21 = .ok (.ireturn, 1) := by decide +kernel
theorem dX4_readFamily_22 : decode cX4_readFamily 22 = .ok (.aload_n 0, 1) := by decide +kernel
theorem dX4_readFamily_23 : decode cX4_readFamily 23 = .ok (.getfield 18, 3) := by decide +kernel
theorem dX4_readFamily_26 : decode cX4_readFamily 26 = .ok (.aload_n 0, 1) := by decide +kernel
theorem dX4_readFamily_27 : decode cX4_readFamily 27 = .ok (.getfield 26, 3) := by decide +kernel
theorem dX4_readFamily_30 : decode cX4_readFamily 30 = .ok (.invokevirtual 71, 3) := by decide +kernel
theorem dX4_readFamily_33 : decode cX4_readFamily 33 = .ok (.lstore_n 1, 1) := by decide +kernel
theorem dX4_readFamily_34 : decode cX4_readFamily 34 = .ok (.aload_n 0, 1) := by decide +kernel
theorem dX4_readFamily_35 : decode cX4_readFamily 35 = .ok (.getfield 22, 3) := by decide +kernel
theorem dX4_readFamily_38 : decode cX4_readFamily 38 = .ok (.getfield 75, 3) := by decide +kernel
theorem dX4_readFamily_41 : decode cX4_readFamily 41 = .ok (.istore_n 3, 1) := by decide +kernel
theorem dX4_readFamily_42 : decode cX4_readFamily 42 = .ok (.aload_n 0, 1) := by decide +kernel
theorem dX4_readFamily_43 : decode cX4_readFamily 43 = .ok (.getfield 9, 3) := by decide +kernel
theorem dX4_readFamily_46 : decode cX4_readFamily 46 = .ok (.iload_n 3, 1) := by decide +kernel
theorem dX4_readFamily_47 : decode cX4_readFamily 47 = .ok (.lload_n 1, 1) := by decide +kernel
theorem dX4_readFamily_48 : decode cX4_readFamily 48 = .ok (.invokestatic 78, 3) := by decide +kernel
theorem dX4_readFamily_51 : decode cX4_readFamily 51 = .ok (.ifCond .lt 11, 3) := by decide +kernel
theorem dX4_readFamily_54 : decode cX4_readFamily 54 = .ok (.aload_n 0, 1) := by decide +kernel
theorem dX4_readFamily_55 : decode cX4_readFamily 55 = .ok (.iconst 2, 1) := by decide +kernel
theorem dX4_readFamily_56 : decode cX4_readFamily 56 = .ok (.invokevirtual 82, 3) := by decide +kernel
theorem dX4_readFamily_59 : decode cX4_readFamily 59 = .ok (.goto 44, 3) := by decide +kernel
theorem dX4_readFamily_62 : decode cX4_readFamily 62 = .ok (.iload_n 3, 1) := by decide +kernel
theorem dX4_readFamily_63 : decode cX4_readFamily 63 = .ok (.ifCond .lt 35, 3) := by decide +kernel
theorem dX4_readFamily_66 : decode cX4_readFamily 66 = .ok (.iload_n 3, 1) := by decide +kernel
theorem dX4_readFamily_67 : decode cX4_readFamily 67 = .ok (.aload_n 0, 1) := by decide +kernel
theorem dX4_readFamily_68 : decode cX4_readFamily 68 = .ok (.getfield 9, 3) := by decide +kernel
theorem dX4_readFamily_71 : decode cX4_readFamily 71 = .ok (.arraylength, 1) := by decide +kernel
theorem dX4_readFamily_72 : decode cX4_readFamily 72 = .ok (.if_icmp .ge 26, 3) := by decide +kernel
theorem dX4_readFamily_75 : decode cX4_readFamily 75 = .ok (.aload_n 0, 1) := by decide +kernel
theorem dX4_readFamily_76 : decode cX4_readFamily 76 = .ok (.getfield 9, 3) := by decide +kernel
theorem dX4_readFamily_79 : decode cX4_readFamily 79 = .ok (.iload_n 3, 1) := by decide +kernel
theorem dX4_readFamily_80 : decode cX4_readFamily 80 = .ok (.lload_n 1, 1) := by decide +kernel
theorem dX4_readFamily_81 : decode cX4_readFamily 81 = .ok (.lastore, 1) := by decide +kernel
theorem dX4_readFamily_82 : decode cX4_readFamily 82 = .ok (.aload_n 0, 1) := by decide +kernel
theorem dX4_readFamily_83 : decode cX4_readFamily 83 = .ok (.getfield 22, 3) := by decide +kernel
theorem dX4_readFamily_86 : decode cX4_readFamily 86 = .ok (.dup, 1) := by decide +kernel
theorem dX4_readFamily_87 : decode cX4_readFamily 87 = .ok (.getfield 75, 3) := by decide +kernel
theorem dX4_readFamily_90 : decode cX4_readFamily 90 = .ok (.iconst 1, 1) := by decide +kernel
theorem dX4_readFamily_91 : decode cX4_readFamily 91 = .ok (.iadd, 1) := by decide +kernel
theorem dX4_readFamily_92 : decode cX4_readFamily 92 = .ok (.putfield 75, 3) := by decide +kernel
theorem dX4_readFamily_95 : decode cX4_readFamily 95 = .ok (.goto 8, 3) := by decide +kernel
theorem dX4_readFamily_98 : decode cX4_readFamily 98 = .ok (.aload_n 0, 1) := by decide +kernel
theorem dX4_readFamily_99 : decode cX4_readFamily 99 = .ok (.iconst 4, 1) := by decide +kernel
theorem dX4_readFamily_100 : decode cX4_readFamily 100 = .ok (.invokevirtual 82, 3) := by decide +kernel
theorem dX4_readFamily_103 : decode cX4_readFamily 103 = .ok (.aload_n 0, 1) := by decide +kernel
theorem dX4_readFamily_104 : decode cX4_readFamily 104 = .ok (.dup, 1) := by decide +kernel
theorem dX4_readFamily_105 : decode cX4_readFamily 105 = .ok (.getfield 26, 3) := by decide +kernel
theorem dX4_readFamily_108 : decode cX4_readFamily 108 = .ok (.iconst 1, 1) := by decide +kernel
theorem dX4_readFamily_109 : decode cX4_readFamily 109 = .ok (.iadd, 1) := by decide +kernel
theorem dX4_readFamily_110 : decode cX4_readFamily 110 = .ok (.putfield 26, 3) := by decide +kernel
theorem dX4_readFamily_113 : decode cX4_readFamily 113 = .ok (.iconst 1, 1) := by decide +kernel
theorem dX4_readFamily_114 : decode cX4_readFamily 114 = .ok (.ireturn, 1) := by decide +kernel
theorem dX4_readStatement_0 : decode cX4_readStatement 0 = .ok (.aload_n 0, 1) := by decide +kernel
theorem dX4_readStatement_1 : decode cX4_readStatement 1 = .ok (.dup, 1) := by decide +kernel
theorem dX4_readStatement_2 : decode cX4_readStatement 2 = .ok (.getfield 26, 3) := by decide +kernel
theorem dX4_readStatement_5 : decode cX4_readStatement 5 = .ok (.iconst 1, 1) := by decide +kernel
theorem dX4_readStatement_6 : decode cX4_readStatement 6 = .ok (.iadd, 1) := by decide +kernel
theorem dX4_readStatement_7 : decode cX4_readStatement 7 = .ok (.putfield 26, 3) := by decide +kernel
theorem dX4_readStatement_10 : decode cX4_readStatement 10 = .ok (.aload_n 0, 1) := by decide +kernel
theorem dX4_readStatement_11 : decode cX4_readStatement 11 = .ok (.invokevirtual 86, 3) := by decide +kernel
theorem dX4_readStatement_14 : decode cX4_readStatement 14 = .ok (.ifCond .eq 18, 3) := by decide +kernel
theorem dX4_readStatement_17 : decode cX4_readStatement 17 = .ok (.iload_n 2, 1) := by decide +kernel
theorem dX4_readStatement_18 : decode cX4_readStatement 18 = .ok (.sipush 263, 3) := by decide +kernel
theorem dX4_readStatement_21 : decode cX4_readStatement 21 = .ok (.if_icmp .eq 13, 3) := by decide +kernel
theorem dX4_readStatement_24 : decode cX4_readStatement 24 = .ok (.aload_n 0, 1) := by decide +kernel
theorem dX4_readStatement_25 : decode cX4_readStatement 25 = .ok (.iload_n 2, 1) := by decide +kernel
theorem dX4_readStatement_26 : decode cX4_readStatement 26 = .ok (.invokevirtual 46, 3) := by decide +kernel
theorem dX4_readStatement_29 : decode cX4_readStatement 29 = .ok (.ifCond .ne 5, 3) := by decide +kernel
theorem dX4_readStatement_32 : decode cX4_readStatement 32 = .ok (.iconst 0, 1) := by decide +kernel
theorem dX4_readStatement_33 : decode cX4_readStatement 33 = .ok (.ireturn, 1) := by decide +kernel
theorem dX4_readStatement_34 : decode cX4_readStatement 34 = .ok (.aload_n 0, 1) := by decide +kernel
theorem dX4_readStatement_35 : decode cX4_readStatement 35 = .ok (.invokevirtual 89, 3) := by decide +kernel
theorem dX4_readStatement_38 : decode cX4_readStatement 38 = .ok (.istore 4, 2) := by decide +kernel
theorem dX4_readStatement_40 : decode cX4_readStatement 40 = .ok (.iload 4, 2) := by decide +kernel
theorem dX4_readStatement_42 : decode cX4_readStatement 42 = .ok (.ifCond .ge 5, 3) := by decide +kernel
theorem dX4_readStatement_45 : decode cX4_readStatement 45 = .ok (.iconst 0, 1) := by decide +kernel
theorem dX4_readStatement_46 : decode cX4_readStatement 46 = .ok (.ireturn, 1) := by decide +kernel
theorem dX4_readStatement_47 : decode cX4_readStatement 47 = .ok (.iload 4, 2) := by decide +kernel
theorem dX4_readStatement_49 : decode cX4_readStatement 49 = .ok (.istore 5, 2) := by decide +kernel
theorem dX4_readStatement_51 : decode cX4_readStatement 51 = .ok (.iload_n 3, 1) := by decide +kernel
theorem dX4_readStatement_52 : decode cX4_readStatement 52 = .ok (.sipush 263, 3) := by decide +kernel
theorem dX4_readStatement_55 : decode cX4_readStatement 55 = .ok (.if_icmp .eq 21, 3) := by decide +kernel
theorem dX4_readStatement_58 : decode cX4_readStatement 58 = .ok (.aload_n 0, 1) := by decide +kernel
theorem dX4_readStatement_59 : decode cX4_readStatement 59 = .ok (.iload_n 3, 1) := by decide +kernel
theorem dX4_readStatement_60 : decode cX4_readStatement 60 = .ok (.invokevirtual 46, 3) := by decide +kernel
theorem dX4_readStatement_63 : decode cX4_readStatement 63 = .ok (.ifCond .eq 10, 3) := by decide +kernel
theorem dX4_readStatement_66 : decode cX4_readStatement 66 = .ok (.aload_n 0, 1) := by decide +kernel
theorem dX4_readStatement_67 : decode cX4_readStatement 67 = .ok (.invokevirtual 89, 3) := by decide +kernel
theorem dX4_readStatement_70 : decode cX4_readStatement 70 = .ok (.goto 4, 3) := by decide +kernel
theorem dX4_readStatement_73 : decode cX4_readStatement 73 = .ok (.iconst (-1), 1) := by decide +kernel
theorem dX4_readStatement_74 : decode cX4_readStatement 74 = .ok (.istore 5, 2) := by decide +kernel
theorem dX4_readStatement_76 : decode cX4_readStatement 76 = .ok (.iload 5, 2) := by decide +kernel
theorem dX4_readStatement_78 : decode cX4_readStatement 78 = .ok (.ifCond .ge 5, 3) := by decide +kernel
theorem dX4_readStatement_81 : decode cX4_readStatement 81 = .ok (.iconst 0, 1) := by decide +kernel
theorem dX4_readStatement_82 : decode cX4_readStatement 82 = .ok (.ireturn, 1) := by decide +kernel
theorem dX4_readStatement_83 : decode cX4_readStatement 83 = .ok (.aload_n 0, 1) := by decide +kernel
theorem dX4_readStatement_84 : decode cX4_readStatement 84 = .ok (.getfield 22, 3) := by decide +kernel
theorem dX4_readStatement_87 : decode cX4_readStatement 87 = .ok (.iload_n 1, 1) := by decide +kernel
theorem dX4_readStatement_88 : decode cX4_readStatement 88 = .ok (.iload 4, 2) := by decide +kernel
theorem dX4_readStatement_90 : decode cX4_readStatement 90 = .ok (.iload 5, 2) := by decide +kernel
theorem dX4_readStatement_92 : decode cX4_readStatement 92 = .ok (.invokevirtual 93, 3) := by decide +kernel
theorem dX4_readStatement_95 : decode cX4_readStatement 95 = .ok (.iconst 1, 1) := by decide +kernel
theorem dX4_readStatement_96 : decode cX4_readStatement 96 = .ok (.ireturn, 1) := by decide +kernel
theorem dX4_readStatementName_0 : decode cX4_readStatementName 0 = .ok (.aload_n 0, 1) := by decide +kernel
theorem dX4_readStatementName_1 : decode cX4_readStatementName 1 = .ok (.sipush 258, 3) := by decide +kernel
theorem dX4_readStatementName_4 : decode cX4_readStatementName 4 = .ok (.invokevirtual 38, 3) := by decide +kernel
theorem dX4_readStatementName_7 : decode cX4_readStatementName 7 = .ok (.ifCond .ne 5, 3) := by decide +kernel
theorem dX4_readStatementName_10 : decode cX4_readStatementName 10 = .ok (.iconst 0, 1) := by decide +kernel
theorem dX4_readStatementName_11 : decode cX4_readStatementName 11 = .ok (.ireturn, 1) := by decide +kernel
theorem dX4_readStatementName_12 : decode cX4_readStatementName 12 = .ok (.aload_n 0, 1) := by decide +kernel
theorem dX4_readStatementName_13 : decode cX4_readStatementName 13 = .ok (.getfield 18, 3) := by decide +kernel
theorem dX4_readStatementName_16 : decode cX4_readStatementName 16 = .ok (.aload_n 0, 1) := by decide +kernel
theorem dX4_readStatementName_17 : decode cX4_readStatementName 17 = .ok (.getfield 26, 3) := by decide +kernel
theorem dX4_readStatementName_20 : decode cX4_readStatementName 20 = .ok (.invokevirtual 71, 3) := by decide +kernel
theorem dX4_readStatementName_23 : decode cX4_readStatementName 23 = .ok (.lstore_n 1, 1) := by decide +kernel
theorem dX4_readStatementName_24 : decode cX4_readStatementName 24 = .ok (.aload_n 0, 1) := by decide +kernel
theorem dX4_readStatementName_25 : decode cX4_readStatementName 25 = .ok (.getfield 22, 3) := by decide +kernel
theorem dX4_readStatementName_28 : decode cX4_readStatementName 28 = .ok (.getfield 97, 3) := by decide +kernel
theorem dX4_readStatementName_31 : decode cX4_readStatementName 31 = .ok (.istore_n 3, 1) := by decide +kernel
theorem dX4_readStatementName_32 : decode cX4_readStatementName 32 = .ok (.aload_n 0, 1) := by decide +kernel
theorem dX4_readStatementName_33 : decode cX4_readStatementName 33 = .ok (.getfield 15, 3) := by decide +kernel
theorem dX4_readStatementName_36 : decode cX4_readStatementName 36 = .ok (.iload_n 3, 1) := by decide +kernel
theorem dX4_readStatementName_37 : decode cX4_readStatementName 37 = .ok (.lload_n 1, 1) := by decide +kernel
theorem dX4_readStatementName_38 : decode cX4_readStatementName 38 = .ok (.invokestatic 78, 3) := by decide +kernel
theorem dX4_readStatementName_41 : decode cX4_readStatementName 41 = .ok (.ifCond .lt 11, 3) := by decide +kernel
theorem dX4_readStatementName_44 : decode cX4_readStatementName 44 = .ok (.aload_n 0, 1) := by decide +kernel
theorem dX4_readStatementName_45 : decode cX4_readStatementName 45 = .ok (.iconst 2, 1) := by decide +kernel
theorem dX4_readStatementName_46 : decode cX4_readStatementName 46 = .ok (.invokevirtual 82, 3) := by decide +kernel
theorem dX4_readStatementName_49 : decode cX4_readStatementName 49 = .ok (.goto 31, 3) := by decide +kernel
theorem dX4_readStatementName_52 : decode cX4_readStatementName 52 = .ok (.iload_n 3, 1) := by decide +kernel
theorem dX4_readStatementName_53 : decode cX4_readStatementName 53 = .ok (.ifCond .lt 22, 3) := by decide +kernel
theorem dX4_readStatementName_56 : decode cX4_readStatementName 56 = .ok (.iload_n 3, 1) := by decide +kernel
theorem dX4_readStatementName_57 : decode cX4_readStatementName 57 = .ok (.aload_n 0, 1) := by decide +kernel
theorem dX4_readStatementName_58 : decode cX4_readStatementName 58 = .ok (.getfield 15, 3) := by decide +kernel
theorem dX4_readStatementName_61 : decode cX4_readStatementName 61 = .ok (.arraylength, 1) := by decide +kernel
theorem dX4_readStatementName_62 : decode cX4_readStatementName 62 = .ok (.if_icmp .ge 13, 3) := by decide +kernel
theorem dX4_readStatementName_65 : decode cX4_readStatementName 65 = .ok (.aload_n 0, 1) := by decide +kernel
theorem dX4_readStatementName_66 : decode cX4_readStatementName 66 = .ok (.getfield 15, 3) := by decide +kernel
theorem dX4_readStatementName_69 : decode cX4_readStatementName 69 = .ok (.iload_n 3, 1) := by decide +kernel
theorem dX4_readStatementName_70 : decode cX4_readStatementName 70 = .ok (.lload_n 1, 1) := by decide +kernel
theorem dX4_readStatementName_71 : decode cX4_readStatementName 71 = .ok (.lastore, 1) := by decide +kernel
theorem dX4_readStatementName_72 : decode cX4_readStatementName 72 = .ok (.goto 8, 3) := by decide +kernel
theorem dX4_readStatementName_75 : decode cX4_readStatementName 75 = .ok (.aload_n 0, 1) := by decide +kernel
theorem dX4_readStatementName_76 : decode cX4_readStatementName 76 = .ok (.iconst 4, 1) := by decide +kernel
theorem dX4_readStatementName_77 : decode cX4_readStatementName 77 = .ok (.invokevirtual 82, 3) := by decide +kernel
theorem dX4_readStatementName_80 : decode cX4_readStatementName 80 = .ok (.aload_n 0, 1) := by decide +kernel
theorem dX4_readStatementName_81 : decode cX4_readStatementName 81 = .ok (.dup, 1) := by decide +kernel
theorem dX4_readStatementName_82 : decode cX4_readStatementName 82 = .ok (.getfield 26, 3) := by decide +kernel
theorem dX4_readStatementName_85 : decode cX4_readStatementName 85 = .ok (.iconst 1, 1) := by decide +kernel
theorem dX4_readStatementName_86 : decode cX4_readStatementName 86 = .ok (.iadd, 1) := by decide +kernel
theorem dX4_readStatementName_87 : decode cX4_readStatementName 87 = .ok (.putfield 26, 3) := by decide +kernel
theorem dX4_readStatementName_90 : decode cX4_readStatementName 90 = .ok (.iconst 1, 1) := by decide +kernel
theorem dX4_readStatementName_91 : decode cX4_readStatementName 91 = .ok (.ireturn, 1) := by decide +kernel
theorem dX4_readKnownName_0 : decode cX4_readKnownName 0 = .ok (.aload_n 0, 1) := by decide +kernel
theorem dX4_readKnownName_1 : decode cX4_readKnownName 1 = .ok (.getfield 18, 3) := by decide +kernel
theorem dX4_readKnownName_4 : decode cX4_readKnownName 4 = .ok (.aload_n 0, 1) := by decide +kernel
theorem dX4_readKnownName_5 : decode cX4_readKnownName 5 = .ok (.getfield 26, 3) := by decide +kernel
theorem dX4_readKnownName_8 : decode cX4_readKnownName 8 = .ok (.invokevirtual 58, 3) := by decide +kernel
theorem dX4_readKnownName_11 : decode cX4_readKnownName 11 = .ok (.sipush 258, 3) := by decide +kernel
theorem dX4_readKnownName_14 : decode cX4_readKnownName 14 = .ok (.if_icmp .eq 5, 3) := by decide +kernel
theorem dX4_readKnownName_17 : decode cX4_readKnownName 17 = .ok (.iconst (-1), 1) := by decide +kernel
theorem dX4_readKnownName_18 : decode cX4_readKnownName 18 = .ok (.ireturn, 1) := by decide +kernel
theorem dX4_readKnownName_19 : decode cX4_readKnownName 19 = .ok (.aload_n 1, 1) := by decide +kernel
theorem dX4_readKnownName_20 : decode cX4_readKnownName 20 = .ok (.iload_n 2, 1) := by decide +kernel
theorem dX4_readKnownName_21 : decode cX4_readKnownName 21 = .ok (.aload_n 0, 1) := by decide +kernel
theorem dX4_readKnownName_22 : decode cX4_readKnownName 22 = .ok (.getfield 18, 3) := by decide +kernel
theorem dX4_readKnownName_25 : decode cX4_readKnownName 25 = .ok (.aload_n 0, 1) := by decide +kernel
theorem dX4_readKnownName_26 : decode cX4_readKnownName 26 = .ok (.getfield 26, 3) := by decide +kernel
theorem dX4_readKnownName_29 : decode cX4_readKnownName 29 = .ok (.invokevirtual 71, 3) := by decide +kernel
theorem dX4_readKnownName_32 : decode cX4_readKnownName 32 = .ok (.invokestatic 78, 3) := by decide +kernel
theorem dX4_readKnownName_35 : decode cX4_readKnownName 35 = .ok (.istore_n 3, 1) := by decide +kernel
theorem dX4_readKnownName_36 : decode cX4_readKnownName 36 = .ok (.iload_n 3, 1) := by decide +kernel
theorem dX4_readKnownName_37 : decode cX4_readKnownName 37 = .ok (.ifCond .ge 8, 3) := by decide +kernel
theorem dX4_readKnownName_40 : decode cX4_readKnownName 40 = .ok (.aload_n 0, 1) := by decide +kernel
theorem dX4_readKnownName_41 : decode cX4_readKnownName 41 = .ok (.iconst 3, 1) := by decide +kernel
theorem dX4_readKnownName_42 : decode cX4_readKnownName 42 = .ok (.invokevirtual 82, 3) := by decide +kernel
theorem dX4_readKnownName_45 : decode cX4_readKnownName 45 = .ok (.aload_n 0, 1) := by decide +kernel
theorem dX4_readKnownName_46 : decode cX4_readKnownName 46 = .ok (.dup, 1) := by decide +kernel
theorem dX4_readKnownName_47 : decode cX4_readKnownName 47 = .ok (.getfield 26, 3) := by decide +kernel
theorem dX4_readKnownName_50 : decode cX4_readKnownName 50 = .ok (.iconst 1, 1) := by decide +kernel
theorem dX4_readKnownName_51 : decode cX4_readKnownName 51 = .ok (.iadd, 1) := by decide +kernel
theorem dX4_readKnownName_52 : decode cX4_readKnownName 52 = .ok (.putfield 26, 3) := by decide +kernel
theorem dX4_readKnownName_55 : decode cX4_readKnownName 55 = .ok (.iload_n 3, 1) := by decide +kernel
theorem dX4_readKnownName_56 : decode cX4_readKnownName 56 = .ok (.iconst 0, 1) := by decide +kernel
theorem dX4_readKnownName_57 : decode cX4_readKnownName 57 = .ok (.invokestatic 100, 3) := by decide +kernel
theorem dX4_readKnownName_60 : decode cX4_readKnownName 60 = .ok (.ireturn, 1) := by decide +kernel
theorem dX4_readClaim_0 : decode cX4_readClaim 0 = .ok (.aload_n 0, 1) := by decide +kernel
theorem dX4_readClaim_1 : decode cX4_readClaim 1 = .ok (.aload_n 0, 1) := by decide +kernel
theorem dX4_readClaim_2 : decode cX4_readClaim 2 = .ok (.getfield 9, 3) := by decide +kernel
theorem dX4_readClaim_5 : decode cX4_readClaim 5 = .ok (.aload_n 0, 1) := by decide +kernel
theorem dX4_readClaim_6 : decode cX4_readClaim 6 = .ok (.getfield 22, 3) := by decide +kernel
theorem dX4_readClaim_9 : decode cX4_readClaim 9 = .ok (.getfield 75, 3) := by decide +kernel
theorem dX4_readClaim_12 : decode cX4_readClaim 12 = .ok (.invokevirtual 106, 3) := by decide +kernel
theorem dX4_readClaim_15 : decode cX4_readClaim 15 = .ok (.istore_n 1, 1) := by decide +kernel
theorem dX4_readClaim_16 : decode cX4_readClaim 16 = .ok (.iload_n 1, 1) := by decide +kernel
theorem dX4_readClaim_17 : decode cX4_readClaim 17 = .ok (.ifCond .ge 5, 3) := by decide +kernel
theorem dX4_readClaim_20 : decode cX4_readClaim 20 = .ok (.iconst (-1), 1) := by decide +kernel
theorem dX4_readClaim_21 : decode cX4_readClaim 21 = .ok (.ireturn, 1) := by decide +kernel
theorem dX4_readClaim_22 : decode cX4_readClaim 22 = .ok (.aload_n 0, 1) := by decide +kernel
theorem dX4_readClaim_23 : decode cX4_readClaim 23 = .ok (.sipush 310, 3) := by decide +kernel
theorem dX4_readClaim_26 : decode cX4_readClaim 26 = .ok (.invokevirtual 46, 3) := by decide +kernel
theorem dX4_readClaim_29 : decode cX4_readClaim 29 = .ok (.ifCond .eq 7, 3) := by decide +kernel
theorem dX4_readClaim_32 : decode cX4_readClaim 32 = .ok (.iconst 2, 1) := by decide +kernel
theorem dX4_readClaim_33 : decode cX4_readClaim 33 = .ok (.iload_n 1, 1) := by decide +kernel
theorem dX4_readClaim_34 : decode cX4_readClaim 34 = .ok (.imul, 1) := by decide +kernel
theorem dX4_readClaim_35 : decode cX4_readClaim 35 = .ok (.ireturn, 1) := by decide +kernel
theorem dX4_readClaim_36 : decode cX4_readClaim 36 = .ok (.aload_n 0, 1) := by decide +kernel
theorem dX4_readClaim_37 : decode cX4_readClaim 37 = .ok (.sipush 311, 3) := by decide +kernel
theorem dX4_readClaim_40 : decode cX4_readClaim 40 = .ok (.invokevirtual 46, 3) := by decide +kernel
theorem dX4_readClaim_43 : decode cX4_readClaim 43 = .ok (.ifCond .eq 11, 3) := by decide +kernel
theorem dX4_readClaim_46 : decode cX4_readClaim 46 = .ok (.iconst 2, 1) := by decide +kernel
theorem dX4_readClaim_47 : decode cX4_readClaim 47 = .ok (.iload_n 1, 1) := by decide +kernel
theorem dX4_readClaim_48 : decode cX4_readClaim 48 = .ok (.imul, 1) := by decide +kernel
theorem dX4_readClaim_49 : decode cX4_readClaim 49 = .ok (.iconst 1, 1) := by decide +kernel
theorem dX4_readClaim_50 : decode cX4_readClaim 50 = .ok (.iadd, 1) := by decide +kernel
theorem dX4_readClaim_51 : decode cX4_readClaim 51 = .ok (.goto 4, 3) := by decide +kernel
theorem dX4_readClaim_54 : decode cX4_readClaim 54 = .ok (.iconst (-1), 1) := by decide +kernel
theorem dX4_readClaim_55 : decode cX4_readClaim 55 = .ok (.ireturn, 1) := by decide +kernel
theorem dX4_readOrder_0 : decode cX4_readOrder 0 = .ok (.aload_n 0, 1) := by decide +kernel
theorem dX4_readOrder_1 : decode cX4_readOrder 1 = .ok (.sipush 313, 3) := by decide +kernel
theorem dX4_readOrder_4 : decode cX4_readOrder 4 = .ok (.invokevirtual 38, 3) := by decide +kernel
theorem dX4_readOrder_7 : decode cX4_readOrder 7 = .ok (.istore_n 1, 1) := by decide +kernel
theorem dX4_readOrder_8 : decode cX4_readOrder 8 = .ok (.aload_n 0, 1) := by decide +kernel
theorem dX4_readOrder_9 : decode cX4_readOrder 9 = .ok (.getfield 22, 3) := by decide +kernel
theorem dX4_readOrder_12 : decode cX4_readOrder 12 = .ok (.getfield 110, 3) := by decide +kernel
theorem dX4_readOrder_15 : decode cX4_readOrder 15 = .ok (.bipush 16, 2) := by decide +kernel
theorem dX4_readOrder_17 : decode cX4_readOrder 17 = .ok (.if_icmp .lt 8, 3) := by decide +kernel
theorem dX4_readOrder_20 : decode cX4_readOrder 20 = .ok (.aload_n 0, 1) := by decide +kernel
theorem dX4_readOrder_21 : decode cX4_readOrder 21 = .ok (.iconst 4, 1) := by decide +kernel
theorem dX4_readOrder_22 : decode cX4_readOrder 22 = .ok (.invokevirtual 82, 3) := by decide +kernel
theorem dX4_readOrder_25 : decode cX4_readOrder 25 = .ok (.aload_n 0, 1) := by decide +kernel
theorem dX4_readOrder_26 : decode cX4_readOrder 26 = .ok (.dup, 1) := by decide +kernel
theorem dX4_readOrder_27 : decode cX4_readOrder 27 = .ok (.getfield 26, 3) := by decide +kernel
theorem dX4_readOrder_30 : decode cX4_readOrder 30 = .ok (.iconst 1, 1) := by decide +kernel
theorem dX4_readOrder_31 : decode cX4_readOrder 31 = .ok (.iadd, 1) := by decide +kernel
theorem dX4_readOrder_32 : decode cX4_readOrder 32 = .ok (.putfield 26, 3) := by decide +kernel
theorem dX4_readOrder_35 : decode cX4_readOrder 35 = .ok (.aload_n 0, 1) := by decide +kernel
theorem dX4_readOrder_36 : decode cX4_readOrder 36 = .ok (.aload_n 0, 1) := by decide +kernel
theorem dX4_readOrder_37 : decode cX4_readOrder 37 = .ok (.getfield 15, 3) := by decide +kernel
theorem dX4_readOrder_40 : decode cX4_readOrder 40 = .ok (.aload_n 0, 1) := by decide +kernel
theorem dX4_readOrder_41 : decode cX4_readOrder 41 = .ok (.getfield 22, 3) := by decide +kernel
theorem dX4_readOrder_44 : decode cX4_readOrder 44 = .ok (.getfield 97, 3) := by decide +kernel
theorem dX4_readOrder_47 : decode cX4_readOrder 47 = .ok (.invokevirtual 106, 3) := by decide +kernel
theorem dX4_readOrder_50 : decode cX4_readOrder 50 = .ok (.istore_n 2, 1) := by decide +kernel
theorem dX4_readOrder_51 : decode cX4_readOrder 51 = .ok (.iload_n 2, 1) := by decide +kernel
theorem dX4_readOrder_52 : decode cX4_readOrder 52 = .ok (.ifCond .ge 5, 3) := by decide +kernel
theorem dX4_readOrder_55 : decode cX4_readOrder 55 = .ok (.iconst 0, 1) := by decide +kernel
theorem dX4_readOrder_56 : decode cX4_readOrder 56 = .ok (.ireturn, 1) := by decide +kernel
theorem dX4_readOrder_57 : decode cX4_readOrder 57 = .ok (.aload_n 0, 1) := by decide +kernel
theorem dX4_readOrder_58 : decode cX4_readOrder 58 = .ok (.getfield 22, 3) := by decide +kernel
theorem dX4_readOrder_61 : decode cX4_readOrder 61 = .ok (.getfield 113, 3) := by decide +kernel
theorem dX4_readOrder_64 : decode cX4_readOrder 64 = .ok (.istore_n 3, 1) := by decide +kernel
theorem dX4_readOrder_65 : decode cX4_readOrder 65 = .ok (.aload_n 0, 1) := by decide +kernel
theorem dX4_readOrder_66 : decode cX4_readOrder 66 = .ok (.sipush 314, 3) := by decide +kernel
theorem dX4_readOrder_69 : decode cX4_readOrder 69 = .ok (.invokevirtual 46, 3) := by decide +kernel
theorem dX4_readOrder_72 : decode cX4_readOrder 72 = .ok (.ifCond .eq 13, 3) := by decide +kernel
theorem dX4_readOrder_75 : decode cX4_readOrder 75 = .ok (.aload_n 0, 1) := by decide +kernel
theorem dX4_readOrder_76 : decode cX4_readOrder 76 = .ok (.iconst 0, 1) := by decide +kernel
theorem dX4_readOrder_77 : decode cX4_readOrder 77 = .ok (.invokevirtual 116, 3) := by decide +kernel
theorem dX4_readOrder_80 : decode cX4_readOrder 80 = .ok (.ifCond .ne 5, 3) := by decide +kernel
theorem dX4_readOrder_83 : decode cX4_readOrder 83 = .ok (.iconst 0, 1) := by decide +kernel
theorem dX4_readOrder_84 : decode cX4_readOrder 84 = .ok (.ireturn, 1) := by decide +kernel
theorem dX4_readOrder_85 : decode cX4_readOrder 85 = .ok (.aload_n 0, 1) := by decide +kernel
theorem dX4_readOrder_86 : decode cX4_readOrder 86 = .ok (.getfield 22, 3) := by decide +kernel
theorem dX4_readOrder_89 : decode cX4_readOrder 89 = .ok (.iload_n 1, 1) := by decide +kernel
theorem dX4_readOrder_90 : decode cX4_readOrder 90 = .ok (.iload_n 2, 1) := by decide +kernel
theorem dX4_readOrder_91 : decode cX4_readOrder 91 = .ok (.iload_n 3, 1) := by decide +kernel
theorem dX4_readOrder_92 : decode cX4_readOrder 92 = .ok (.invokevirtual 119, 3) := by decide +kernel
theorem dX4_readOrder_95 : decode cX4_readOrder 95 = .ok (.iconst 1, 1) := by decide +kernel
theorem dX4_readOrder_96 : decode cX4_readOrder 96 = .ok (.ireturn, 1) := by decide +kernel
theorem dX4_readTest_0 : decode cX4_readTest 0 = .ok (.aload_n 0, 1) := by decide +kernel
theorem dX4_readTest_1 : decode cX4_readTest 1 = .ok (.iload_n 1, 1) := by decide +kernel
theorem dX4_readTest_2 : decode cX4_readTest 2 = .ok (.invokevirtual 123, 3) := by decide +kernel
theorem dX4_readTest_5 : decode cX4_readTest 5 = .ok (.ifCond .ne 5, 3) := by decide +kernel
theorem dX4_readTest_8 : decode cX4_readTest 8 = .ok (.iconst 0, 1) := by decide +kernel
theorem dX4_readTest_9 : decode cX4_readTest 9 = .ok (.ireturn, 1) := by decide +kernel
theorem dX4_readTest_10 : decode cX4_readTest 10 = .ok (.iconst 0, 1) := by decide +kernel
theorem dX4_readTest_11 : decode cX4_readTest 11 = .ok (.istore_n 2, 1) := by decide +kernel
theorem dX4_readTest_12 : decode cX4_readTest 12 = .ok (.iload_n 2, 1) := by decide +kernel
theorem dX4_readTest_13 : decode cX4_readTest 13 = .ok (.sipush 400, 3) := by decide +kernel
theorem dX4_readTest_16 : decode cX4_readTest 16 = .ok (.if_icmp .ge 41, 3) := by decide +kernel
theorem dX4_readTest_19 : decode cX4_readTest 19 = .ok (.aload_n 0, 1) := by decide +kernel
theorem dX4_readTest_20 : decode cX4_readTest 20 = .ok (.sipush 306, 3) := by decide +kernel
theorem dX4_readTest_23 : decode cX4_readTest 23 = .ok (.invokevirtual 46, 3) := by decide +kernel
theorem dX4_readTest_26 : decode cX4_readTest 26 = .ok (.ifCond .eq 31, 3) := by decide +kernel
theorem dX4_readTest_29 : decode cX4_readTest 29 = .ok (.aload_n 0, 1) := by decide +kernel
theorem dX4_readTest_30 : decode cX4_readTest 30 = .ok (.iload_n 1, 1) := by decide +kernel
theorem dX4_readTest_31 : decode cX4_readTest 31 = .ok (.invokevirtual 123, 3) := by decide +kernel
theorem dX4_readTest_34 : decode cX4_readTest 34 = .ok (.ifCond .ne 5, 3) := by decide +kernel
theorem dX4_readTest_37 : decode cX4_readTest 37 = .ok (.iconst 0, 1) := by decide +kernel
theorem dX4_readTest_38 : decode cX4_readTest 38 = .ok (.ireturn, 1) := by decide +kernel
theorem dX4_readTest_39 : decode cX4_readTest 39 = .ok (.aload_n 0, 1) := by decide +kernel
theorem dX4_readTest_40 : decode cX4_readTest 40 = .ok (.getfield 22, 3) := by decide +kernel
theorem dX4_readTest_43 : decode cX4_readTest 43 = .ok (.sipush 306, 3) := by decide +kernel
theorem dX4_readTest_46 : decode cX4_readTest 46 = .ok (.iconst 0, 1) := by decide +kernel
theorem dX4_readTest_47 : decode cX4_readTest 47 = .ok (.iconst 0, 1) := by decide +kernel
theorem dX4_readTest_48 : decode cX4_readTest 48 = .ok (.invokevirtual 126, 3) := by decide +kernel
theorem dX4_readTest_51 : decode cX4_readTest 51 = .ok (.iinc 2 1, 3) := by decide +kernel
theorem dX4_readTest_54 : decode cX4_readTest 54 = .ok (.goto (-42), 3) := by decide +kernel
theorem dX4_readTest_57 : decode cX4_readTest 57 = .ok (.iconst 1, 1) := by decide +kernel
theorem dX4_readTest_58 : decode cX4_readTest 58 = .ok (.ireturn, 1) := by decide +kernel
theorem dX4_readBoth_0 : decode cX4_readBoth 0 = .ok (.aload_n 0, 1) := by decide +kernel
theorem dX4_readBoth_1 : decode cX4_readBoth 1 = .ok (.iload_n 1, 1) := by decide +kernel
theorem dX4_readBoth_2 : decode cX4_readBoth 2 = .ok (.invokevirtual 129, 3) := by decide +kernel
theorem dX4_readBoth_5 : decode cX4_readBoth 5 = .ok (.ifCond .ne 5, 3) := by decide +kernel
theorem dX4_readBoth_8 : decode cX4_readBoth 8 = .ok (.iconst 0, 1) := by decide +kernel
theorem dX4_readBoth_9 : decode cX4_readBoth 9 = .ok (.ireturn, 1) := by decide +kernel
theorem dX4_readBoth_10 : decode cX4_readBoth 10 = .ok (.iconst 0, 1) := by decide +kernel
theorem dX4_readBoth_11 : decode cX4_readBoth 11 = .ok (.istore_n 2, 1) := by decide +kernel
theorem dX4_readBoth_12 : decode cX4_readBoth 12 = .ok (.iload_n 2, 1) := by decide +kernel
theorem dX4_readBoth_13 : decode cX4_readBoth 13 = .ok (.sipush 400, 3) := by decide +kernel
theorem dX4_readBoth_16 : decode cX4_readBoth 16 = .ok (.if_icmp .ge 41, 3) := by decide +kernel
theorem dX4_readBoth_19 : decode cX4_readBoth 19 = .ok (.aload_n 0, 1) := by decide +kernel
theorem dX4_readBoth_20 : decode cX4_readBoth 20 = .ok (.sipush 324, 3) := by decide +kernel
theorem dX4_readBoth_23 : decode cX4_readBoth 23 = .ok (.invokevirtual 46, 3) := by decide +kernel
theorem dX4_readBoth_26 : decode cX4_readBoth 26 = .ok (.ifCond .eq 31, 3) := by decide +kernel
theorem dX4_readBoth_29 : decode cX4_readBoth 29 = .ok (.aload_n 0, 1) := by decide +kernel
theorem dX4_readBoth_30 : decode cX4_readBoth 30 = .ok (.iload_n 1, 1) := by decide +kernel
theorem dX4_readBoth_31 : decode cX4_readBoth 31 = .ok (.invokevirtual 129, 3) := by decide +kernel
theorem dX4_readBoth_34 : decode cX4_readBoth 34 = .ok (.ifCond .ne 5, 3) := by decide +kernel
theorem dX4_readBoth_37 : decode cX4_readBoth 37 = .ok (.iconst 0, 1) := by decide +kernel
theorem dX4_readBoth_38 : decode cX4_readBoth 38 = .ok (.ireturn, 1) := by decide +kernel
theorem dX4_readBoth_39 : decode cX4_readBoth 39 = .ok (.aload_n 0, 1) := by decide +kernel
theorem dX4_readBoth_40 : decode cX4_readBoth 40 = .ok (.getfield 22, 3) := by decide +kernel
theorem dX4_readBoth_43 : decode cX4_readBoth 43 = .ok (.sipush 324, 3) := by decide +kernel
theorem dX4_readBoth_46 : decode cX4_readBoth 46 = .ok (.iconst 0, 1) := by decide +kernel
theorem dX4_readBoth_47 : decode cX4_readBoth 47 = .ok (.iconst 0, 1) := by decide +kernel
theorem dX4_readBoth_48 : decode cX4_readBoth 48 = .ok (.invokevirtual 126, 3) := by decide +kernel
theorem dX4_readBoth_51 : decode cX4_readBoth 51 = .ok (.iinc 2 1, 3) := by decide +kernel
theorem dX4_readBoth_54 : decode cX4_readBoth 54 = .ok (.goto (-42), 3) := by decide +kernel
theorem dX4_readBoth_57 : decode cX4_readBoth 57 = .ok (.iconst 1, 1) := by decide +kernel
theorem dX4_readBoth_58 : decode cX4_readBoth 58 = .ok (.ireturn, 1) := by decide +kernel
theorem dX4_readSingle_0 : decode cX4_readSingle 0 = .ok (.aload_n 0, 1) := by decide +kernel
theorem dX4_readSingle_1 : decode cX4_readSingle 1 = .ok (.getfield 18, 3) := by decide +kernel
theorem dX4_readSingle_4 : decode cX4_readSingle 4 = .ok (.aload_n 0, 1) := by decide +kernel
theorem dX4_readSingle_5 : decode cX4_readSingle 5 = .ok (.getfield 26, 3) := by decide +kernel
theorem dX4_readSingle_8 : decode cX4_readSingle 8 = .ok (.invokevirtual 58, 3) := by decide +kernel
theorem dX4_readSingle_11 : decode cX4_readSingle 11 = .ok (.lookupswitch 272 #[(91, 86), (319, 121), (320, 158), (321, 206), (323, 49)], 49) := by decide +kernel
theorem dX4_readSingle_60 : decode cX4_readSingle 60 = .ok (.aload_n 0, 1) := by decide +kernel
theorem dX4_readSingle_61 : decode cX4_readSingle 61 = .ok (.sipush 323, 3) := by decide +kernel
theorem dX4_readSingle_64 : decode cX4_readSingle 64 = .ok (.iload_n 1, 1) := by decide +kernel
theorem dX4_readSingle_65 : decode cX4_readSingle 65 = .ok (.invokevirtual 132, 3) := by decide +kernel
theorem dX4_readSingle_68 : decode cX4_readSingle 68 = .ok (.ifCond .eq 13, 3) := by decide +kernel
theorem dX4_readSingle_71 : decode cX4_readSingle 71 = .ok (.aload_n 0, 1) := by decide +kernel
theorem dX4_readSingle_72 : decode cX4_readSingle 72 = .ok (.iload_n 1, 1) := by decide +kernel
theorem dX4_readSingle_73 : decode cX4_readSingle 73 = .ok (.iconst 1, 1) := by decide +kernel
theorem dX4_readSingle_74 : decode cX4_readSingle 74 = .ok (.iadd, 1) := by decide +kernel
theorem dX4_readSingle_75 : decode cX4_readSingle 75 = .ok (.invokevirtual 129, 3) := by decide +kernel
theorem dX4_readSingle_78 : decode cX4_readSingle 78 = .ok (.ifCond .ne 5, 3) := by decide +kernel
theorem dX4_readSingle_81 : decode cX4_readSingle 81 = .ok (.iconst 0, 1) := by decide +kernel
theorem dX4_readSingle_82 : decode cX4_readSingle 82 = .ok (.ireturn, 1) := by decide +kernel
theorem dX4_readSingle_83 : decode cX4_readSingle 83 = .ok (.aload_n 0, 1) := by decide +kernel
theorem dX4_readSingle_84 : decode cX4_readSingle 84 = .ok (.getfield 22, 3) := by decide +kernel
theorem dX4_readSingle_87 : decode cX4_readSingle 87 = .ok (.sipush 323, 3) := by decide +kernel
theorem dX4_readSingle_90 : decode cX4_readSingle 90 = .ok (.iconst 0, 1) := by decide +kernel
theorem dX4_readSingle_91 : decode cX4_readSingle 91 = .ok (.iconst 0, 1) := by decide +kernel
theorem dX4_readSingle_92 : decode cX4_readSingle 92 = .ok (.invokevirtual 126, 3) := by decide +kernel
theorem dX4_readSingle_95 : decode cX4_readSingle 95 = .ok (.iconst 1, 1) := by decide +kernel
theorem dX4_readSingle_96 : decode cX4_readSingle 96 = .ok (.ireturn, 1) := by decide +kernel
theorem dX4_readSingle_97 : decode cX4_readSingle 97 = .ok (.aload_n 0, 1) := by decide +kernel
theorem dX4_readSingle_98 : decode cX4_readSingle 98 = .ok (.bipush 91, 2) := by decide +kernel
theorem dX4_readSingle_100 : decode cX4_readSingle 100 = .ok (.iload_n 1, 1) := by decide +kernel
theorem dX4_readSingle_101 : decode cX4_readSingle 101 = .ok (.invokevirtual 132, 3) := by decide +kernel
theorem dX4_readSingle_104 : decode cX4_readSingle 104 = .ok (.ifCond .eq 26, 3) := by decide +kernel
theorem dX4_readSingle_107 : decode cX4_readSingle 107 = .ok (.aload_n 0, 1) := by decide +kernel
theorem dX4_readSingle_108 : decode cX4_readSingle 108 = .ok (.iload_n 1, 1) := by decide +kernel
theorem dX4_readSingle_109 : decode cX4_readSingle 109 = .ok (.iconst 1, 1) := by decide +kernel
theorem dX4_readSingle_110 : decode cX4_readSingle 110 = .ok (.iadd, 1) := by decide +kernel
theorem dX4_readSingle_111 : decode cX4_readSingle 111 = .ok (.invokevirtual 116, 3) := by decide +kernel
theorem dX4_readSingle_114 : decode cX4_readSingle 114 = .ok (.ifCond .eq 16, 3) := by decide +kernel
theorem dX4_readSingle_117 : decode cX4_readSingle 117 = .ok (.aload_n 0, 1) := by decide +kernel
theorem dX4_readSingle_118 : decode cX4_readSingle 118 = .ok (.bipush 93, 2) := by decide +kernel
theorem dX4_readSingle_120 : decode cX4_readSingle 120 = .ok (.invokevirtual 46, 3) := by decide +kernel
theorem dX4_readSingle_123 : decode cX4_readSingle 123 = .ok (.ifCond .eq 7, 3) := by decide +kernel
theorem dX4_readSingle_126 : decode cX4_readSingle 126 = .ok (.iconst 1, 1) := by decide +kernel
theorem dX4_readSingle_127 : decode cX4_readSingle 127 = .ok (.goto 4, 3) := by decide +kernel
theorem dX4_readSingle_130 : decode cX4_readSingle 130 = .ok (.iconst 0, 1) := by decide +kernel
theorem dX4_readSingle_131 : decode cX4_readSingle 131 = .ok (.ireturn, 1) := by decide +kernel
theorem dX4_readSingle_132 : decode cX4_readSingle 132 = .ok (.aload_n 0, 1) := by decide +kernel
theorem dX4_readSingle_133 : decode cX4_readSingle 133 = .ok (.dup, 1) := by decide +kernel
theorem dX4_readSingle_134 : decode cX4_readSingle 134 = .ok (.getfield 26, 3) := by decide +kernel
theorem dX4_readSingle_137 : decode cX4_readSingle 137 = .ok (.iconst 1, 1) := by decide +kernel
theorem dX4_readSingle_138 : decode cX4_readSingle 138 = .ok (.iadd, 1) := by decide +kernel
theorem dX4_readSingle_139 : decode cX4_readSingle 139 = .ok (.putfield 26, 3) := by decide +kernel
theorem dX4_readSingle_142 : decode cX4_readSingle 142 = .ok (.aload_n 0, 1) := by decide +kernel
theorem dX4_readSingle_143 : decode cX4_readSingle 143 = .ok (.invokevirtual 89, 3) := by decide +kernel
theorem dX4_readSingle_146 : decode cX4_readSingle 146 = .ok (.istore_n 2, 1) := by decide +kernel
theorem dX4_readSingle_147 : decode cX4_readSingle 147 = .ok (.aload_n 0, 1) := by decide +kernel
theorem dX4_readSingle_148 : decode cX4_readSingle 148 = .ok (.getfield 22, 3) := by decide +kernel
theorem dX4_readSingle_151 : decode cX4_readSingle 151 = .ok (.sipush 319, 3) := by decide +kernel
theorem dX4_readSingle_154 : decode cX4_readSingle 154 = .ok (.iload_n 2, 1) := by decide +kernel
theorem dX4_readSingle_155 : decode cX4_readSingle 155 = .ok (.iconst 0, 1) := by decide +kernel
theorem dX4_readSingle_156 : decode cX4_readSingle 156 = .ok (.invokevirtual 126, 3) := by decide +kernel
theorem dX4_readSingle_159 : decode cX4_readSingle 159 = .ok (.iload_n 2, 1) := by decide +kernel
theorem dX4_readSingle_160 : decode cX4_readSingle 160 = .ok (.ifCond .lt 7, 3) := by decide +kernel
theorem dX4_readSingle_163 : decode cX4_readSingle 163 = .ok (.iconst 1, 1) := by decide +kernel
theorem dX4_readSingle_164 : decode cX4_readSingle 164 = .ok (.goto 4, 3) := by decide +kernel
theorem dX4_readSingle_167 : decode cX4_readSingle 167 = .ok (.iconst 0, 1) := by decide +kernel
theorem dX4_readSingle_168 : decode cX4_readSingle 168 = .ok (.ireturn, 1) := by decide +kernel
theorem dX4_readSingle_169 : decode cX4_readSingle 169 = .ok (.aload_n 0, 1) := by decide +kernel
theorem dX4_readSingle_170 : decode cX4_readSingle 170 = .ok (.dup, 1) := by decide +kernel
theorem dX4_readSingle_171 : decode cX4_readSingle 171 = .ok (.getfield 26, 3) := by decide +kernel
theorem dX4_readSingle_174 : decode cX4_readSingle 174 = .ok (.iconst 1, 1) := by decide +kernel
theorem dX4_readSingle_175 : decode cX4_readSingle 175 = .ok (.iadd, 1) := by decide +kernel
theorem dX4_readSingle_176 : decode cX4_readSingle 176 = .ok (.putfield 26, 3) := by decide +kernel
theorem dX4_readSingle_179 : decode cX4_readSingle 179 = .ok (.aload_n 0, 1) := by decide +kernel
theorem dX4_readSingle_180 : decode cX4_readSingle 180 = .ok (.aload_n 0, 1) := by decide +kernel
theorem dX4_readSingle_181 : decode cX4_readSingle 181 = .ok (.getfield 15, 3) := by decide +kernel
theorem dX4_readSingle_184 : decode cX4_readSingle 184 = .ok (.aload_n 0, 1) := by decide +kernel
theorem dX4_readSingle_185 : decode cX4_readSingle 185 = .ok (.getfield 22, 3) := by decide +kernel
theorem dX4_readSingle_188 : decode cX4_readSingle 188 = .ok (.getfield 97, 3) := by decide +kernel
theorem dX4_readSingle_191 : decode cX4_readSingle 191 = .ok (.invokevirtual 106, 3) := by decide +kernel
theorem dX4_readSingle_194 : decode cX4_readSingle 194 = .ok (.istore_n 3, 1) := by decide +kernel
theorem dX4_readSingle_195 : decode cX4_readSingle 195 = .ok (.aload_n 0, 1) := by decide +kernel
theorem dX4_readSingle_196 : decode cX4_readSingle 196 = .ok (.getfield 22, 3) := by decide +kernel
theorem dX4_readSingle_199 : decode cX4_readSingle 199 = .ok (.sipush 320, 3) := by decide +kernel
theorem dX4_readSingle_202 : decode cX4_readSingle 202 = .ok (.iload_n 3, 1) := by decide +kernel
theorem dX4_readSingle_203 : decode cX4_readSingle 203 = .ok (.iconst 0, 1) := by decide +kernel
theorem dX4_readSingle_204 : decode cX4_readSingle 204 = .ok (.invokevirtual 126, 3) := by decide +kernel
theorem dX4_readSingle_207 : decode cX4_readSingle 207 = .ok (.iload_n 3, 1) := by decide +kernel
theorem dX4_readSingle_208 : decode cX4_readSingle 208 = .ok (.ifCond .lt 7, 3) := by decide +kernel
theorem dX4_readSingle_211 : decode cX4_readSingle 211 = .ok (.iconst 1, 1) := by decide +kernel
theorem dX4_readSingle_212 : decode cX4_readSingle 212 = .ok (.goto 4, 3) := by decide +kernel
theorem dX4_readSingle_215 : decode cX4_readSingle 215 = .ok (.iconst 0, 1) := by decide +kernel
theorem dX4_readSingle_216 : decode cX4_readSingle 216 = .ok (.ireturn, 1) := by decide +kernel
theorem dX4_readSingle_217 : decode cX4_readSingle 217 = .ok (.aload_n 0, 1) := by decide +kernel
theorem dX4_readSingle_218 : decode cX4_readSingle 218 = .ok (.dup, 1) := by decide +kernel
theorem dX4_readSingle_219 : decode cX4_readSingle 219 = .ok (.getfield 26, 3) := by decide +kernel
theorem dX4_readSingle_222 : decode cX4_readSingle 222 = .ok (.iconst 1, 1) := by decide +kernel
theorem dX4_readSingle_223 : decode cX4_readSingle 223 = .ok (.iadd, 1) := by decide +kernel
theorem dX4_readSingle_224 : decode cX4_readSingle 224 = .ok (.putfield 26, 3) := by decide +kernel
theorem dX4_readSingle_227 : decode cX4_readSingle 227 = .ok (.aload_n 0, 1) := by decide +kernel
theorem dX4_readSingle_228 : decode cX4_readSingle 228 = .ok (.invokevirtual 89, 3) := by decide +kernel
theorem dX4_readSingle_231 : decode cX4_readSingle 231 = .ok (.istore 4, 2) := by decide +kernel
theorem dX4_readSingle_233 : decode cX4_readSingle 233 = .ok (.iload 4, 2) := by decide +kernel
theorem dX4_readSingle_235 : decode cX4_readSingle 235 = .ok (.ifCond .lt 20, 3) := by decide +kernel
theorem dX4_readSingle_238 : decode cX4_readSingle 238 = .ok (.aload_n 0, 1) := by decide +kernel
theorem dX4_readSingle_239 : decode cX4_readSingle 239 = .ok (.sipush 322, 3) := by decide +kernel
theorem dX4_readSingle_242 : decode cX4_readSingle 242 = .ok (.invokevirtual 46, 3) := by decide +kernel
theorem dX4_readSingle_245 : decode cX4_readSingle 245 = .ok (.ifCond .eq 10, 3) := by decide +kernel
theorem dX4_readSingle_248 : decode cX4_readSingle 248 = .ok (.aload_n 0, 1) := by decide +kernel
