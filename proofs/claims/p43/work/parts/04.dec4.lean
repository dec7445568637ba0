theorem dJ4_toString_0e30d_0 : decode cJ4_toString_0e30d 0 = .ok (.new 18, 3) := by decide +kernel
theorem dJ4_toString_0e30d_3 : decode cJ4_toString_0e30d 3 = .ok (.dup, 1) := by decide +kernel
theorem dJ4_toString_0e30d_4 : decode cJ4_toString_0e30d 4 = .ok (.aload_n 0, 1) := by decide +kernel
theorem dJ4_toString_0e30d_5 : decode cJ4_toString_0e30d 5 = .ok (.invokespecial 137, 3) := by decide +kernel
theorem dJ4_toString_0e30d_8 : decode cJ4_toString_0e30d 8 = .ok (.areturn, 1) := by decide +kernel
theorem dJ4_length_8abf5_0 : decode cJ4_length_8abf5 0 = .ok (.aload_n 0, 1) := by decide +kernel
theorem dJ4_length_8abf5_1 : decode cJ4_length_8abf5 1 = .ok (.invokespecial 343, 3) := by decide +kernel
theorem dJ4_length_8abf5_4 : decode cJ4_length_8abf5 4 = .ok (.ireturn, 1) := by decide +kernel
theorem dJ1_charAt_3b067_0 : decode cJ1_charAt_3b067 0 = .ok (.iload_n 1, 1) := by decide +kernel
theorem dJ1_charAt_3b067_1 : decode cJ1_charAt_3b067 1 = .ok (.aload_n 0, 1) := by decide +kernel
theorem dJ1_charAt_3b067_2 : decode cJ1_charAt_3b067 2 = .ok (.arraylength, 1) := by decide +kernel
theorem dJ1_charAt_3b067_3 : decode cJ1_charAt_3b067 3 = .ok (.invokestatic 9, 3) := by decide +kernel
theorem dJ1_charAt_3b067_6 : decode cJ1_charAt_3b067 6 = .ok (.aload_n 0, 1) := by decide +kernel
theorem dJ1_charAt_3b067_7 : decode cJ1_charAt_3b067 7 = .ok (.iload_n 1, 1) := by decide +kernel
theorem dJ1_charAt_3b067_8 : decode cJ1_charAt_3b067 8 = .ok (.baload, 1) := by decide +kernel
theorem dJ1_charAt_3b067_9 : decode cJ1_charAt_3b067 9 = .ok (.sipush 255, 3) := by decide +kernel
theorem dJ1_charAt_3b067_12 : decode cJ1_charAt_3b067 12 = .ok (.iand, 1) := by decide +kernel
theorem dJ1_charAt_3b067_13 : decode cJ1_charAt_3b067 13 = .ok (.i2c, 1) := by decide +kernel
theorem dJ1_charAt_3b067_14 : decode cJ1_charAt_3b067 14 = .ok (.ireturn, 1) := by decide +kernel
theorem dJ1_inflate_0e8fd_0 : decode cJ1_inflate_0e8fd 0 = .ok (.aload_n 0, 1) := by decide +kernel
theorem dJ1_inflate_0e8fd_1 : decode cJ1_inflate_0e8fd 1 = .ok (.iload_n 1, 1) := by decide +kernel
theorem dJ1_inflate_0e8fd_2 : decode cJ1_inflate_0e8fd 2 = .ok (.aload_n 2, 1) := by decide +kernel
theorem dJ1_inflate_0e8fd_3 : decode cJ1_inflate_0e8fd 3 = .ok (.iload_n 3, 1) := by decide +kernel
theorem dJ1_inflate_0e8fd_4 : decode cJ1_inflate_0e8fd 4 = .ok (.iload 4, 2) := by decide +kernel
theorem dJ1_inflate_0e8fd_6 : decode cJ1_inflate_0e8fd 6 = .ok (.invokestatic 240, 3) := by decide +kernel
theorem dJ1_inflate_0e8fd_9 : decode cJ1_inflate_0e8fd 9 = .ok (.return_, 1) := by decide +kernel
theorem dJ2_newBytesFor_77867_0 : decode cJ2_newBytesFor_77867 0 = .ok (.iload_n 0, 1) := by decide +kernel
theorem dJ2_newBytesFor_77867_1 : decode cJ2_newBytesFor_77867 1 = .ok (.invokestatic 11, 3) := by decide +kernel
theorem dJ2_newBytesFor_77867_4 : decode cJ2_newBytesFor_77867 4 = .ok (.newarray .byte, 2) := by decide +kernel
theorem dJ2_newBytesFor_77867_6 : decode cJ2_newBytesFor_77867 6 = .ok (.areturn, 1) := by decide +kernel
theorem dJ2_newBytesLength_0f7a4_0 : decode cJ2_newBytesLength_0f7a4 0 = .ok (.iload_n 0, 1) := by decide +kernel
theorem dJ2_newBytesLength_0f7a4_1 : decode cJ2_newBytesLength_0f7a4 1 = .ok (.ifCond .ge 11, 3) := by decide +kernel
theorem dJ2_newBytesLength_0f7a4_4 : decode cJ2_newBytesLength_0f7a4 4 = .ok (.new 17, 3) := by decide +kernel
theorem dJ2_newBytesLength_0f7a4_7 : decode cJ2_newBytesLength_0f7a4 7 = .ok (.dup, 1) := by decide +kernel
theorem dJ2_newBytesLength_0f7a4_8 : decode cJ2_newBytesLength_0f7a4 8 = .ok (.invokespecial 19, 3) := by decide +kernel
theorem dJ2_newBytesLength_0f7a4_11 : decode cJ2_newBytesLength_0f7a4 11 = .ok (.athrow, 1) := by decide +kernel
theorem dJ2_newBytesLength_0f7a4_12 : decode cJ2_newBytesLength_0f7a4 12 = .ok (.iload_n 0, 1) := by decide +kernel
theorem dJ2_newBytesLength_0f7a4_13 : decode cJ2_newBytesLength_0f7a4 13 = .ok (.ldc 20, 2) := by decide +kernel
theorem dJ2_newBytesLength_0f7a4_15 : decode cJ2_newBytesLength_0f7a4 15 = .ok (.if_icmp .lt 40, 3) := by decide +kernel
theorem dJ2_newBytesLength_0f7a4_18 : decode cJ2_newBytesLength_0f7a4 18 = .ok (.new 21, 3) := by decide +kernel
theorem dJ2_newBytesLength_0f7a4_21 : decode cJ2_newBytesLength_0f7a4 21 = .ok (.dup, 1) := by decide +kernel
theorem dJ2_newBytesLength_0f7a4_22 : decode cJ2_newBytesLength_0f7a4 22 = .ok (.new 23, 3) := by decide +kernel
theorem dJ2_newBytesLength_0f7a4_25 : decode cJ2_newBytesLength_0f7a4 25 = .ok (.dup, 1) := by decide +kernel
theorem dJ2_newBytesLength_0f7a4_26 : decode cJ2_newBytesLength_0f7a4 26 = .ok (.invokespecial 25, 3) := by decide +kernel
theorem dJ2_newBytesLength_0f7a4_29 : decode cJ2_newBytesLength_0f7a4 29 = .ok (.ldc 26, 2) := by decide +kernel
theorem dJ2_newBytesLength_0f7a4_31 : decode cJ2_newBytesLength_0f7a4 31 = .ok (.invokevirtual 28, 3) := by decide +kernel
theorem dJ2_newBytesLength_0f7a4_34 : decode cJ2_newBytesLength_0f7a4 34 = .ok (.iload_n 0, 1) := by decide +kernel
theorem dJ2_newBytesLength_0f7a4_35 : decode cJ2_newBytesLength_0f7a4 35 = .ok (.invokevirtual 32, 3) := by decide +kernel
theorem dJ2_newBytesLength_0f7a4_38 : decode cJ2_newBytesLength_0f7a4 38 = .ok (.ldc 35, 2) := by decide +kernel
theorem dJ2_newBytesLength_0f7a4_40 : decode cJ2_newBytesLength_0f7a4 40 = .ok (.invokevirtual 28, 3) := by decide +kernel
theorem dJ2_newBytesLength_0f7a4_43 : decode cJ2_newBytesLength_0f7a4 43 = .ok (.ldc 20, 2) := by decide +kernel
theorem dJ2_newBytesLength_0f7a4_45 : decode cJ2_newBytesLength_0f7a4 45 = .ok (.invokevirtual 32, 3) := by decide +kernel
theorem dJ2_newBytesLength_0f7a4_48 : decode cJ2_newBytesLength_0f7a4 48 = .ok (.invokevirtual 37, 3) := by decide +kernel
theorem dJ2_newBytesLength_0f7a4_51 : decode cJ2_newBytesLength_0f7a4 51 = .ok (.invokespecial 41, 3) := by decide +kernel
theorem dJ2_newBytesLength_0f7a4_54 : decode cJ2_newBytesLength_0f7a4 54 = .ok (.athrow, 1) := by decide +kernel
theorem dJ2_newBytesLength_0f7a4_55 : decode cJ2_newBytesLength_0f7a4 55 = .ok (.iload_n 0, 1) := by decide +kernel
theorem dJ2_newBytesLength_0f7a4_56 : decode cJ2_newBytesLength_0f7a4 56 = .ok (.iconst 1, 1) := by decide +kernel
theorem dJ2_newBytesLength_0f7a4_57 : decode cJ2_newBytesLength_0f7a4 57 = .ok (.ishl, 1) := by decide +kernel
theorem dJ2_newBytesLength_0f7a4_58 : decode cJ2_newBytesLength_0f7a4 58 = .ok (.ireturn, 1) := by decide +kernel
theorem dJ2_putChar_b72d1_0 : decode cJ2_putChar_b72d1 0 = .ok (.getstatic 44, 3) := by decide +kernel
theorem dJ2_putChar_b72d1_3 : decode cJ2_putChar_b72d1 3 = .ok (.ifCond .ne 25, 3) := by decide +kernel
theorem dJ2_putChar_b72d1_6 : decode cJ2_putChar_b72d1 6 = .ok (.iload_n 1, 1) := by decide +kernel
theorem dJ2_putChar_b72d1_7 : decode cJ2_putChar_b72d1 7 = .ok (.ifCond .lt 11, 3) := by decide +kernel
theorem dJ2_putChar_b72d1_10 : decode cJ2_putChar_b72d1 10 = .ok (.iload_n 1, 1) := by decide +kernel
theorem dJ2_putChar_b72d1_11 : decode cJ2_putChar_b72d1 11 = .ok (.aload_n 0, 1) := by decide +kernel
theorem dJ2_putChar_b72d1_12 : decode cJ2_putChar_b72d1 12 = .ok (.invokestatic 48, 3) := by decide +kernel
theorem dJ2_putChar_b72d1_15 : decode cJ2_putChar_b72d1 15 = .ok (.if_icmp .lt 13, 3) := by decide +kernel
theorem dJ2_putChar_b72d1_18 : decode cJ2_putChar_b72d1 18 = .ok (.new 52, 3) := by decide +kernel
theorem dJ2_putChar_b72d1_21 : decode cJ2_putChar_b72d1 21 = .ok (.dup, 1) := by decide +kernel
theorem dJ2_putChar_b72d1_22 : decode cJ2_putChar_b72d1 22 = .ok (.ldc 54, 2) := by decide +kernel
theorem dJ2_putChar_b72d1_24 : decode cJ2_putChar_b72d1 24 = .ok (.invokespecial 56, 3) := by decide +kernel
theorem dJ2_putChar_b72d1_27 : decode cJ2_putChar_b72d1 27 = .ok (.athrow, 1) := by decide +kernel
theorem dJ2_putChar_b72d1_28 : decode cJ2_putChar_b72d1 28 = .ok (.iload_n 1, 1) := by decide +kernel
theorem dJ2_putChar_b72d1_29 : decode cJ2_putChar_b72d1 29 = .ok (.iconst 1, 1) := by decide +kernel
theorem dJ2_putChar_b72d1_30 : decode cJ2_putChar_b72d1 30 = .ok (.ishl, 1) := by decide +kernel
theorem dJ2_putChar_b72d1_31 : decode cJ2_putChar_b72d1 31 = .ok (.istore_n 1, 1) := by decide +kernel
theorem dJ2_putChar_b72d1_32 : decode cJ2_putChar_b72d1 32 = .ok (.aload_n 0, 1) := by decide +kernel
theorem dJ2_putChar_b72d1_33 : decode cJ2_putChar_b72d1 33 = .ok (.iload_n 1, 1) := by decide +kernel
theorem dJ2_putChar_b72d1_34 : decode cJ2_putChar_b72d1 34 = .ok (.iinc 1 1, 3) := by decide +kernel
theorem dJ2_putChar_b72d1_37 : decode cJ2_putChar_b72d1 37 = .ok (.iload_n 2, 1) := by decide +kernel
theorem dJ2_putChar_b72d1_38 : decode cJ2_putChar_b72d1 38 = .ok (.getstatic 59, 3) := by decide +kernel
theorem dJ2_putChar_b72d1_41 : decode cJ2_putChar_b72d1 41 = .ok (.ishr, 1) := by decide +kernel
theorem dJ2_putChar_b72d1_42 : decode cJ2_putChar_b72d1 42 = .ok (.i2b, 1) := by decide +kernel
theorem dJ2_putChar_b72d1_43 : decode cJ2_putChar_b72d1 43 = .ok (.bastore, 1) := by decide +kernel
theorem dJ2_putChar_b72d1_44 : decode cJ2_putChar_b72d1 44 = .ok (.aload_n 0, 1) := by decide +kernel
theorem dJ2_putChar_b72d1_45 : decode cJ2_putChar_b72d1 45 = .ok (.iload_n 1, 1) := by decide +kernel
theorem dJ2_putChar_b72d1_46 : decode cJ2_putChar_b72d1 46 = .ok (.iload_n 2, 1) := by decide +kernel
theorem dJ2_putChar_b72d1_47 : decode cJ2_putChar_b72d1 47 = .ok (.getstatic 63, 3) := by decide +kernel
theorem dJ2_putChar_b72d1_50 : decode cJ2_putChar_b72d1 50 = .ok (.ishr, 1) := by decide +kernel
theorem dJ2_putChar_b72d1_51 : decode cJ2_putChar_b72d1 51 = .ok (.i2b, 1) := by decide +kernel
theorem dJ2_putChar_b72d1_52 : decode cJ2_putChar_b72d1 52 = .ok (.bastore, 1) := by decide +kernel
theorem dJ2_putChar_b72d1_53 : decode cJ2_putChar_b72d1 53 = .ok (.return_, 1) := by decide +kernel
theorem dJ2_getChar_3b067_0 : decode cJ2_getChar_3b067 0 = .ok (.getstatic 44, 3) := by decide +kernel
theorem dJ2_getChar_3b067_3 : decode cJ2_getChar_3b067 3 = .ok (.ifCond .ne 25, 3) := by decide +kernel
theorem dJ2_getChar_3b067_6 : decode cJ2_getChar_3b067 6 = .ok (.iload_n 1, 1) := by decide +kernel
theorem dJ2_getChar_3b067_7 : decode cJ2_getChar_3b067 7 = .ok (.ifCond .lt 11, 3) := by decide +kernel
theorem dJ2_getChar_3b067_10 : decode cJ2_getChar_3b067 10 = .ok (.iload_n 1, 1) := by decide +kernel
theorem dJ2_getChar_3b067_11 : decode cJ2_getChar_3b067 11 = .ok (.aload_n 0, 1) := by decide +kernel
theorem dJ2_getChar_3b067_12 : decode cJ2_getChar_3b067 12 = .ok (.invokestatic 48, 3) := by decide +kernel
theorem dJ2_getChar_3b067_15 : decode cJ2_getChar_3b067 15 = .ok (.if_icmp .lt 13, 3) := by decide +kernel
theorem dJ2_getChar_3b067_18 : decode cJ2_getChar_3b067 18 = .ok (.new 52, 3) := by decide +kernel
theorem dJ2_getChar_3b067_21 : decode cJ2_getChar_3b067 21 = .ok (.dup, 1) := by decide +kernel
theorem dJ2_getChar_3b067_22 : decode cJ2_getChar_3b067 22 = .ok (.ldc 54, 2) := by decide +kernel
theorem dJ2_getChar_3b067_24 : decode cJ2_getChar_3b067 24 = .ok (.invokespecial 56, 3) := by decide +kernel
theorem dJ2_getChar_3b067_27 : decode cJ2_getChar_3b067 27 = .ok (.athrow, 1) := by decide +kernel
theorem dJ2_getChar_3b067_28 : decode cJ2_getChar_3b067 28 = .ok (.iload_n 1, 1) := by decide +kernel
theorem dJ2_getChar_3b067_29 : decode cJ2_getChar_3b067 29 = .ok (.iconst 1, 1) := by decide +kernel
theorem dJ2_getChar_3b067_30 : decode cJ2_getChar_3b067 30 = .ok (.ishl, 1) := by decide +kernel
theorem dJ2_getChar_3b067_31 : decode cJ2_getChar_3b067 31 = .ok (.istore_n 1, 1) := by decide +kernel
theorem dJ2_getChar_3b067_32 : decode cJ2_getChar_3b067 32 = .ok (.aload_n 0, 1) := by decide +kernel
theorem dJ2_getChar_3b067_33 : decode cJ2_getChar_3b067 33 = .ok (.iload_n 1, 1) := by decide +kernel
theorem dJ2_getChar_3b067_34 : decode cJ2_getChar_3b067 34 = .ok (.iinc 1 1, 3) := by decide +kernel
theorem dJ2_getChar_3b067_37 : decode cJ2_getChar_3b067 37 = .ok (.baload, 1) := by decide +kernel
theorem dJ2_getChar_3b067_38 : decode cJ2_getChar_3b067 38 = .ok (.sipush 255, 3) := by decide +kernel
theorem dJ2_getChar_3b067_41 : decode cJ2_getChar_3b067 41 = .ok (.iand, 1) := by decide +kernel
theorem dJ2_getChar_3b067_42 : decode cJ2_getChar_3b067 42 = .ok (.getstatic 59, 3) := by decide +kernel
theorem dJ2_getChar_3b067_45 : decode cJ2_getChar_3b067 45 = .ok (.ishl, 1) := by decide +kernel
theorem dJ2_getChar_3b067_46 : decode cJ2_getChar_3b067 46 = .ok (.aload_n 0, 1) := by decide +kernel
theorem dJ2_getChar_3b067_47 : decode cJ2_getChar_3b067 47 = .ok (.iload_n 1, 1) := by decide +kernel
theorem dJ2_getChar_3b067_48 : decode cJ2_getChar_3b067 48 = .ok (.baload, 1) := by decide +kernel
theorem dJ2_getChar_3b067_49 : decode cJ2_getChar_3b067 49 = .ok (.sipush 255, 3) := by decide +kernel
theorem dJ2_getChar_3b067_52 : decode cJ2_getChar_3b067 52 = .ok (.iand, 1) := by decide +kernel
theorem dJ2_getChar_3b067_53 : decode cJ2_getChar_3b067 53 = .ok (.getstatic 63, 3) := by decide +kernel
theorem dJ2_getChar_3b067_56 : decode cJ2_getChar_3b067 56 = .ok (.ishl, 1) := by decide +kernel
theorem dJ2_getChar_3b067_57 : decode cJ2_getChar_3b067 57 = .ok (.ior, 1) := by decide +kernel
theorem dJ2_getChar_3b067_58 : decode cJ2_getChar_3b067 58 = .ok (.i2c, 1) := by decide +kernel
theorem dJ2_getChar_3b067_59 : decode cJ2_getChar_3b067 59 = .ok (.ireturn, 1) := by decide +kernel
theorem dJ2_length_9d52b_0 : decode cJ2_length_9d52b 0 = .ok (.aload_n 0, 1) := by decide +kernel
theorem dJ2_length_9d52b_1 : decode cJ2_length_9d52b 1 = .ok (.arraylength, 1) := by decide +kernel
theorem dJ2_length_9d52b_2 : decode cJ2_length_9d52b 2 = .ok (.iconst 1, 1) := by decide +kernel
theorem dJ2_length_9d52b_3 : decode cJ2_length_9d52b 3 = .ok (.ishr, 1) := by decide +kernel
theorem dJ2_length_9d52b_4 : decode cJ2_length_9d52b 4 = .ok (.ireturn, 1) := by decide +kernel
theorem dJ2_coderFromArrayLen_85cad_0 : decode cJ2_coderFromArrayLen_85cad 0 = .ok (.iload_n 1, 1) := by decide +kernel
theorem dJ2_coderFromArrayLen_85cad_1 : decode cJ2_coderFromArrayLen_85cad 1 = .ok (.aload_n 0, 1) := by decide +kernel
theorem dJ2_coderFromArrayLen_85cad_2 : decode cJ2_coderFromArrayLen_85cad 2 = .ok (.arraylength, 1) := by decide +kernel
theorem dJ2_coderFromArrayLen_85cad_3 : decode cJ2_coderFromArrayLen_85cad 3 = .ok (.isub, 1) := by decide +kernel
theorem dJ2_coderFromArrayLen_85cad_4 : decode cJ2_coderFromArrayLen_85cad 4 = .ok (.bipush 31, 2) := by decide +kernel
theorem dJ2_coderFromArrayLen_85cad_6 : decode cJ2_coderFromArrayLen_85cad 6 = .ok (.iushr, 1) := by decide +kernel
theorem dJ2_coderFromArrayLen_85cad_7 : decode cJ2_coderFromArrayLen_85cad 7 = .ok (.i2b, 1) := by decide +kernel
theorem dJ2_coderFromArrayLen_85cad_8 : decode cJ2_coderFromArrayLen_85cad 8 = .ok (.ireturn, 1) := by decide +kernel
theorem dJ2_compress_39247_0 : decode cJ2_compress_39247 0 = .ok (.iload_n 2, 1) := by decide +kernel
theorem dJ2_compress_39247_1 : decode cJ2_compress_39247 1 = .ok (.newarray .byte, 2) := by decide +kernel
theorem dJ2_compress_39247_3 : decode cJ2_compress_39247 3 = .ok (.astore_n 3, 1) := by decide +kernel
theorem dJ2_compress_39247_4 : decode cJ2_compress_39247 4 = .ok (.aload_n 0, 1) := by decide +kernel
theorem dJ2_compress_39247_5 : decode cJ2_compress_39247 5 = .ok (.iload_n 1, 1) := by decide +kernel
theorem dJ2_compress_39247_6 : decode cJ2_compress_39247 6 = .ok (.aload_n 3, 1) := by decide +kernel
theorem dJ2_compress_39247_7 : decode cJ2_compress_39247 7 = .ok (.iconst 0, 1) := by decide +kernel
theorem dJ2_compress_39247_8 : decode cJ2_compress_39247 8 = .ok (.iload_n 2, 1) := by decide +kernel
theorem dJ2_compress_39247_9 : decode cJ2_compress_39247 9 = .ok (.invokestatic 123, 3) := by decide +kernel
theorem dJ2_compress_39247_12 : decode cJ2_compress_39247 12 = .ok (.istore 4, 2) := by decide +kernel
theorem dJ2_compress_39247_14 : decode cJ2_compress_39247 14 = .ok (.iload 4, 2) := by decide +kernel
theorem dJ2_compress_39247_16 : decode cJ2_compress_39247 16 = .ok (.iload_n 2, 1) := by decide +kernel
theorem dJ2_compress_39247_17 : decode cJ2_compress_39247 17 = .ok (.if_icmp .eq 47, 3) := by decide +kernel
theorem dJ2_compress_39247_20 : decode cJ2_compress_39247 20 = .ok (.aload_n 0, 1) := by decide +kernel
theorem dJ2_compress_39247_21 : decode cJ2_compress_39247 21 = .ok (.iload_n 1, 1) := by decide +kernel
theorem dJ2_compress_39247_22 : decode cJ2_compress_39247 22 = .ok (.iconst 1, 1) := by decide +kernel
theorem dJ2_compress_39247_23 : decode cJ2_compress_39247 23 = .ok (.ishl, 1) := by decide +kernel
theorem dJ2_compress_39247_24 : decode cJ2_compress_39247 24 = .ok (.iload_n 1, 1) := by decide +kernel
theorem dJ2_compress_39247_25 : decode cJ2_compress_39247 25 = .ok (.iload_n 2, 1) := by decide +kernel
theorem dJ2_compress_39247_26 : decode cJ2_compress_39247 26 = .ok (.iadd, 1) := by decide +kernel
theorem dJ2_compress_39247_27 : decode cJ2_compress_39247 27 = .ok (.invokestatic 11, 3) := by decide +kernel
theorem dJ2_compress_39247_30 : decode cJ2_compress_39247 30 = .ok (.invokestatic 126, 3) := by decide +kernel
theorem dJ2_compress_39247_33 : decode cJ2_compress_39247 33 = .ok (.astore 5, 2) := by decide +kernel
theorem dJ2_compress_39247_35 : decode cJ2_compress_39247 35 = .ok (.aload 5, 2) := by decide +kernel
theorem dJ2_compress_39247_37 : decode cJ2_compress_39247 37 = .ok (.iload 4, 2) := by decide +kernel
theorem dJ2_compress_39247_39 : decode cJ2_compress_39247 39 = .ok (.invokestatic 71, 3) := by decide +kernel
theorem dJ2_compress_39247_42 : decode cJ2_compress_39247 42 = .ok (.sipush 255, 3) := by decide +kernel
theorem dJ2_compress_39247_45 : decode cJ2_compress_39247 45 = .ok (.if_icmp .gt 16, 3) := by decide +kernel
theorem dJ2_compress_39247_48 : decode cJ2_compress_39247 48 = .ok (.aload 5, 2) := by decide +kernel
theorem dJ2_compress_39247_50 : decode cJ2_compress_39247 50 = .ok (.iconst 0, 1) := by decide +kernel
theorem dJ2_compress_39247_51 : decode cJ2_compress_39247 51 = .ok (.aload_n 3, 1) := by decide +kernel
theorem dJ2_compress_39247_52 : decode cJ2_compress_39247 52 = .ok (.iconst 0, 1) := by decide +kernel
theorem dJ2_compress_39247_53 : decode cJ2_compress_39247 53 = .ok (.iload_n 2, 1) := by decide +kernel
theorem dJ2_compress_39247_54 : decode cJ2_compress_39247 54 = .ok (.invokestatic 123, 3) := by decide +kernel
theorem dJ2_compress_39247_57 : decode cJ2_compress_39247 57 = .ok (.iload_n 2, 1) := by decide +kernel
theorem dJ2_compress_39247_58 : decode cJ2_compress_39247 58 = .ok (.if_icmp .eq 6, 3) := by decide +kernel
theorem dJ2_compress_39247_61 : decode cJ2_compress_39247 61 = .ok (.aload 5, 2) := by decide +kernel
theorem dJ2_compress_39247_63 : decode cJ2_compress_39247 63 = .ok (.areturn, 1) := by decide +kernel
theorem dJ2_compress_39247_64 : decode cJ2_compress_39247 64 = .ok (.aload_n 3, 1) := by decide +kernel
theorem dJ2_compress_39247_65 : decode cJ2_compress_39247 65 = .ok (.areturn, 1) := by decide +kernel
theorem dJ2_compress_5af95_0 : decode cJ2_compress_5af95 0 = .ok (.iload_n 1, 1) := by decide +kernel
theorem dJ2_compress_5af95_1 : decode cJ2_compress_5af95 1 = .ok (.iload 4, 2) := by decide +kernel
theorem dJ2_compress_5af95_3 : decode cJ2_compress_5af95 3 = .ok (.aload_n 0, 1) := by decide +kernel
theorem dJ2_compress_5af95_4 : decode cJ2_compress_5af95 4 = .ok (.invokestatic 173, 3) := by decide +kernel
theorem dJ2_compress_5af95_7 : decode cJ2_compress_5af95 7 = .ok (.iconst 0, 1) := by decide +kernel
theorem dJ2_compress_5af95_8 : decode cJ2_compress_5af95 8 = .ok (.istore 5, 2) := by decide +kernel
theorem dJ2_compress_5af95_10 : decode cJ2_compress_5af95 10 = .ok (.iload 5, 2) := by decide +kernel
theorem dJ2_compress_5af95_12 : decode cJ2_compress_5af95 12 = .ok (.iload 4, 2) := by decide +kernel
theorem dJ2_compress_5af95_14 : decode cJ2_compress_5af95 14 = .ok (.if_icmp .ge 39, 3) := by decide +kernel
theorem dJ2_compress_5af95_17 : decode cJ2_compress_5af95 17 = .ok (.aload_n 0, 1) := by decide +kernel
theorem dJ2_compress_5af95_18 : decode cJ2_compress_5af95 18 = .ok (.iload_n 1, 1) := by decide +kernel
theorem dJ2_compress_5af95_19 : decode cJ2_compress_5af95 19 = .ok (.invokestatic 71, 3) := by decide +kernel
theorem dJ2_compress_5af95_22 : decode cJ2_compress_5af95 22 = .ok (.istore 6, 2) := by decide +kernel
theorem dJ2_compress_5af95_24 : decode cJ2_compress_5af95 24 = .ok (.iload 6, 2) := by decide +kernel
theorem dJ2_compress_5af95_26 : decode cJ2_compress_5af95 26 = .ok (.sipush 255, 3) := by decide +kernel
theorem dJ2_compress_5af95_29 : decode cJ2_compress_5af95 29 = .ok (.if_icmp .le 6, 3) := by decide +kernel
theorem dJ2_compress_5af95_32 : decode cJ2_compress_5af95 32 = .ok (.iload 5, 2) := by decide +kernel
theorem dJ2_compress_5af95_34 : decode cJ2_compress_5af95 34 = .ok (.ireturn, 1) := by decide +kernel
theorem dJ2_compress_5af95_35 : decode cJ2_compress_5af95 35 = .ok (.aload_n 2, 1) := by decide +kernel
theorem dJ2_compress_5af95_36 : decode cJ2_compress_5af95 36 = .ok (.iload_n 3, 1) := by decide +kernel
theorem dJ2_compress_5af95_37 : decode cJ2_compress_5af95 37 = .ok (.iload 6, 2) := by decide +kernel
theorem dJ2_compress_5af95_39 : decode cJ2_compress_5af95 39 = .ok (.i2b, 1) := by decide +kernel
theorem dJ2_compress_5af95_40 : decode cJ2_compress_5af95 40 = .ok (.bastore, 1) := by decide +kernel
theorem dJ2_compress_5af95_41 : decode cJ2_compress_5af95 41 = .ok (.iinc 1 1, 3) := by decide +kernel
theorem dJ2_compress_5af95_44 : decode cJ2_compress_5af95 44 = .ok (.iinc 3 1, 3) := by decide +kernel
theorem dJ2_compress_5af95_47 : decode cJ2_compress_5af95 47 = .ok (.iinc 5 1, 3) := by decide +kernel
theorem dJ2_compress_5af95_50 : decode cJ2_compress_5af95 50 = .ok (.goto (-40), 3) := by decide +kernel
theorem dJ2_compress_5af95_53 : decode cJ2_compress_5af95 53 = .ok (.iload 4, 2) := by decide +kernel
theorem dJ2_compress_5af95_55 : decode cJ2_compress_5af95 55 = .ok (.ireturn, 1) := by decide +kernel
theorem dJ2_getChars_46870_0 : decode cJ2_getChars_46870 0 = .ok (.iload_n 1, 1) := by decide +kernel
theorem dJ2_getChars_46870_1 : decode cJ2_getChars_46870 1 = .ok (.iload_n 2, 1) := by decide +kernel
theorem dJ2_getChars_46870_2 : decode cJ2_getChars_46870 2 = .ok (.aload_n 3, 1) := by decide +kernel
theorem dJ2_getChars_46870_3 : decode cJ2_getChars_46870 3 = .ok (.invokestatic 96, 3) := by decide +kernel
theorem dJ2_getChars_46870_6 : decode cJ2_getChars_46870 6 = .ok (.iload_n 0, 1) := by decide +kernel
theorem dJ2_getChars_46870_7 : decode cJ2_getChars_46870 7 = .ok (.iload_n 2, 1) := by decide +kernel
theorem dJ2_getChars_46870_8 : decode cJ2_getChars_46870 8 = .ok (.aload_n 3, 1) := by decide +kernel
theorem dJ2_getChars_46870_9 : decode cJ2_getChars_46870 9 = .ok (.invokestatic 393, 3) := by decide +kernel
theorem dJ2_getChars_46870_12 : decode cJ2_getChars_46870 12 = .ok (.istore 4, 2) := by decide +kernel
theorem dJ2_getChars_46870_14 : decode cJ2_getChars_46870 14 = .ok (.getstatic 44, 3) := by decide +kernel
theorem dJ2_getChars_46870_17 : decode cJ2_getChars_46870 17 = .ok (.ifCond .ne 17, 3) := by decide +kernel
theorem dJ2_getChars_46870_20 : decode cJ2_getChars_46870 20 = .ok (.iload_n 1, 1) := by decide +kernel
theorem dJ2_getChars_46870_21 : decode cJ2_getChars_46870 21 = .ok (.iload 4, 2) := by decide +kernel
theorem dJ2_getChars_46870_23 : decode cJ2_getChars_46870 23 = .ok (.if_icmp .eq 11, 3) := by decide +kernel
theorem dJ2_getChars_46870_26 : decode cJ2_getChars_46870 26 = .ok (.new 52, 3) := by decide +kernel
theorem dJ2_getChars_46870_29 : decode cJ2_getChars_46870 29 = .ok (.dup, 1) := by decide +kernel
theorem dJ2_getChars_46870_30 : decode cJ2_getChars_46870 30 = .ok (.invokespecial 66, 3) := by decide +kernel
theorem dJ2_getChars_46870_33 : decode cJ2_getChars_46870 33 = .ok (.athrow, 1) := by decide +kernel
theorem dJ2_getChars_46870_34 : decode cJ2_getChars_46870 34 = .ok (.iload 4, 2) := by decide +kernel
theorem dJ2_getChars_46870_36 : decode cJ2_getChars_46870 36 = .ok (.ireturn, 1) := by decide +kernel
theorem dJ2_putCharsAt_cd4e5_0 : decode cJ2_putCharsAt_cd4e5 0 = .ok (.iload_n 1, 1) := by decide +kernel
theorem dJ2_putCharsAt_cd4e5_1 : decode cJ2_putCharsAt_cd4e5 1 = .ok (.iconst 4, 1) := by decide +kernel
theorem dJ2_putCharsAt_cd4e5_2 : decode cJ2_putCharsAt_cd4e5 2 = .ok (.iadd, 1) := by decide +kernel
theorem dJ2_putCharsAt_cd4e5_3 : decode cJ2_putCharsAt_cd4e5 3 = .ok (.istore 6, 2) := by decide +kernel
theorem dJ2_putCharsAt_cd4e5_5 : decode cJ2_putCharsAt_cd4e5 5 = .ok (.iload_n 1, 1) := by decide +kernel
theorem dJ2_putCharsAt_cd4e5_6 : decode cJ2_putCharsAt_cd4e5 6 = .ok (.iload 6, 2) := by decide +kernel
theorem dJ2_putCharsAt_cd4e5_8 : decode cJ2_putCharsAt_cd4e5 8 = .ok (.aload_n 0, 1) := by decide +kernel
theorem dJ2_putCharsAt_cd4e5_9 : decode cJ2_putCharsAt_cd4e5 9 = .ok (.invokestatic 96, 3) := by decide +kernel
theorem dJ2_putCharsAt_cd4e5_12 : decode cJ2_putCharsAt_cd4e5 12 = .ok (.aload_n 0, 1) := by decide +kernel
theorem dJ2_putCharsAt_cd4e5_13 : decode cJ2_putCharsAt_cd4e5 13 = .ok (.iload_n 1, 1) := by decide +kernel
theorem dJ2_putCharsAt_cd4e5_14 : decode cJ2_putCharsAt_cd4e5 14 = .ok (.iinc 1 1, 3) := by decide +kernel
theorem dJ2_putCharsAt_cd4e5_17 : decode cJ2_putCharsAt_cd4e5 17 = .ok (.iload_n 2, 1) := by decide +kernel
theorem dJ2_putCharsAt_cd4e5_18 : decode cJ2_putCharsAt_cd4e5 18 = .ok (.invokestatic 111, 3) := by decide +kernel
theorem dJ2_putCharsAt_cd4e5_21 : decode cJ2_putCharsAt_cd4e5 21 = .ok (.aload_n 0, 1) := by decide +kernel
theorem dJ2_putCharsAt_cd4e5_22 : decode cJ2_putCharsAt_cd4e5 22 = .ok (.iload_n 1, 1) := by decide +kernel
theorem dJ2_putCharsAt_cd4e5_23 : decode cJ2_putCharsAt_cd4e5 23 = .ok (.iinc 1 1, 3) := by decide +kernel
theorem dJ2_putCharsAt_cd4e5_26 : decode cJ2_putCharsAt_cd4e5 26 = .ok (.iload_n 3, 1) := by decide +kernel
theorem dJ2_putCharsAt_cd4e5_27 : decode cJ2_putCharsAt_cd4e5 27 = .ok (.invokestatic 111, 3) := by decide +kernel
theorem dJ2_putCharsAt_cd4e5_30 : decode cJ2_putCharsAt_cd4e5 30 = .ok (.aload_n 0, 1) := by decide +kernel
theorem dJ2_putCharsAt_cd4e5_31 : decode cJ2_putCharsAt_cd4e5 31 = .ok (.iload_n 1, 1) := by decide +kernel
theorem dJ2_putCharsAt_cd4e5_32 : decode cJ2_putCharsAt_cd4e5 32 = .ok (.iinc 1 1, 3) := by decide +kernel
theorem dJ2_putCharsAt_cd4e5_35 : decode cJ2_putCharsAt_cd4e5 35 = .ok (.iload 4, 2) := by decide +kernel
theorem dJ2_putCharsAt_cd4e5_37 : decode cJ2_putCharsAt_cd4e5 37 = .ok (.invokestatic 111, 3) := by decide +kernel
theorem dJ2_putCharsAt_cd4e5_40 : decode cJ2_putCharsAt_cd4e5 40 = .ok (.aload_n 0, 1) := by decide +kernel
theorem dJ2_putCharsAt_cd4e5_41 : decode cJ2_putCharsAt_cd4e5 41 = .ok (.iload_n 1, 1) := by decide +kernel
theorem dJ2_putCharsAt_cd4e5_42 : decode cJ2_putCharsAt_cd4e5 42 = .ok (.iinc 1 1, 3) := by decide +kernel
theorem dJ2_putCharsAt_cd4e5_45 : decode cJ2_putCharsAt_cd4e5 45 = .ok (.iload 5, 2) := by decide +kernel
theorem dJ2_putCharsAt_cd4e5_47 : decode cJ2_putCharsAt_cd4e5 47 = .ok (.invokestatic 111, 3) := by decide +kernel
theorem dJ2_putCharsAt_cd4e5_50 : decode cJ2_putCharsAt_cd4e5 50 = .ok (.getstatic 44, 3) := by decide +kernel
theorem dJ2_putCharsAt_cd4e5_53 : decode cJ2_putCharsAt_cd4e5 53 = .ok (.ifCond .ne 17, 3) := by decide +kernel
theorem dJ2_putCharsAt_cd4e5_56 : decode cJ2_putCharsAt_cd4e5 56 = .ok (.iload_n 1, 1) := by decide +kernel
theorem dJ2_putCharsAt_cd4e5_57 : decode cJ2_putCharsAt_cd4e5 57 = .ok (.iload 6, 2) := by decide +kernel
theorem dJ2_putCharsAt_cd4e5_59 : decode cJ2_putCharsAt_cd4e5 59 = .ok (.if_icmp .eq 11, 3) := by decide +kernel
theorem dJ2_putCharsAt_cd4e5_62 : decode cJ2_putCharsAt_cd4e5 62 = .ok (.new 52, 3) := by decide +kernel
theorem dJ2_putCharsAt_cd4e5_65 : decode cJ2_putCharsAt_cd4e5 65 = .ok (.dup, 1) := by decide +kernel
theorem dJ2_putCharsAt_cd4e5_66 : decode cJ2_putCharsAt_cd4e5 66 = .ok (.invokespecial 66, 3) := by decide +kernel
theorem dJ2_putCharsAt_cd4e5_69 : decode cJ2_putCharsAt_cd4e5 69 = .ok (.athrow, 1) := by decide +kernel
theorem dJ2_putCharsAt_cd4e5_70 : decode cJ2_putCharsAt_cd4e5 70 = .ok (.iload 6, 2) := by decide +kernel
theorem dJ2_putCharsAt_cd4e5_72 : decode cJ2_putCharsAt_cd4e5 72 = .ok (.ireturn, 1) := by decide +kernel
theorem dJ2_charAt_3b067_0 : decode cJ2_charAt_3b067 0 = .ok (.iload_n 1, 1) := by decide +kernel
theorem dJ2_charAt_3b067_1 : decode cJ2_charAt_3b067 1 = .ok (.aload_n 0, 1) := by decide +kernel
theorem dJ2_charAt_3b067_2 : decode cJ2_charAt_3b067 2 = .ok (.invokestatic 67, 3) := by decide +kernel
theorem dJ2_charAt_3b067_5 : decode cJ2_charAt_3b067 5 = .ok (.aload_n 0, 1) := by decide +kernel
theorem dJ2_charAt_3b067_6 : decode cJ2_charAt_3b067 6 = .ok (.iload_n 1, 1) := by decide +kernel
theorem dJ2_charAt_3b067_7 : decode cJ2_charAt_3b067 7 = .ok (.invokestatic 71, 3) := by decide +kernel
theorem dJ2_charAt_3b067_10 : decode cJ2_charAt_3b067 10 = .ok (.ireturn, 1) := by decide +kernel
theorem dJ2_inflate_0e8fd_0 : decode cJ2_inflate_0e8fd 0 = .ok (.iload_n 3, 1) := by decide +kernel
theorem dJ2_inflate_0e8fd_1 : decode cJ2_inflate_0e8fd 1 = .ok (.iload 4, 2) := by decide +kernel
theorem dJ2_inflate_0e8fd_3 : decode cJ2_inflate_0e8fd 3 = .ok (.aload_n 2, 1) := by decide +kernel
theorem dJ2_inflate_0e8fd_4 : decode cJ2_inflate_0e8fd 4 = .ok (.invokestatic 173, 3) := by decide +kernel
theorem dJ2_inflate_0e8fd_7 : decode cJ2_inflate_0e8fd 7 = .ok (.iconst 0, 1) := by decide +kernel
theorem dJ2_inflate_0e8fd_8 : decode cJ2_inflate_0e8fd 8 = .ok (.istore 5, 2) := by decide +kernel
theorem dJ2_inflate_0e8fd_10 : decode cJ2_inflate_0e8fd 10 = .ok (.iload 5, 2) := by decide +kernel
theorem dJ2_inflate_0e8fd_12 : decode cJ2_inflate_0e8fd 12 = .ok (.iload 4, 2) := by decide +kernel
theorem dJ2_inflate_0e8fd_14 : decode cJ2_inflate_0e8fd 14 = .ok (.if_icmp .ge 27, 3) := by decide +kernel
theorem dJ2_inflate_0e8fd_17 : decode cJ2_inflate_0e8fd 17 = .ok (.aload_n 2, 1) := by decide +kernel
theorem dJ2_inflate_0e8fd_18 : decode cJ2_inflate_0e8fd 18 = .ok (.iload_n 3, 1) := by decide +kernel
theorem dJ2_inflate_0e8fd_19 : decode cJ2_inflate_0e8fd 19 = .ok (.iinc 3 1, 3) := by decide +kernel
theorem dJ2_inflate_0e8fd_22 : decode cJ2_inflate_0e8fd 22 = .ok (.aload_n 0, 1) := by decide +kernel
theorem dJ2_inflate_0e8fd_23 : decode cJ2_inflate_0e8fd 23 = .ok (.iload_n 1, 1) := by decide +kernel
theorem dJ2_inflate_0e8fd_24 : decode cJ2_inflate_0e8fd 24 = .ok (.iinc 1 1, 3) := by decide +kernel
theorem dJ2_inflate_0e8fd_27 : decode cJ2_inflate_0e8fd 27 = .ok (.baload, 1) := by decide +kernel
theorem dJ2_inflate_0e8fd_28 : decode cJ2_inflate_0e8fd 28 = .ok (.sipush 255, 3) := by decide +kernel
theorem dJ2_inflate_0e8fd_31 : decode cJ2_inflate_0e8fd 31 = .ok (.iand, 1) := by decide +kernel
theorem dJ2_inflate_0e8fd_32 : decode cJ2_inflate_0e8fd 32 = .ok (.invokestatic 111, 3) := by decide +kernel
theorem dJ2_inflate_0e8fd_35 : decode cJ2_inflate_0e8fd 35 = .ok (.iinc 5 1, 3) := by decide +kernel
theorem dJ2_inflate_0e8fd_38 : decode cJ2_inflate_0e8fd 38 = .ok (.goto (-28), 3) := by decide +kernel
theorem dJ2_inflate_0e8fd_41 : decode cJ2_inflate_0e8fd 41 = .ok (.return_, 1) := by decide +kernel
theorem dJ2_getChars_ba4f3_0 : decode cJ2_getChars_ba4f3 0 = .ok (.iload_n 1, 1) := by decide +kernel
theorem dJ2_getChars_ba4f3_1 : decode cJ2_getChars_ba4f3 1 = .ok (.istore 5, 2) := by decide +kernel
theorem dJ2_getChars_ba4f3_3 : decode cJ2_getChars_ba4f3 3 = .ok (.iload_n 0, 1) := by decide +kernel
theorem dJ2_getChars_ba4f3_4 : decode cJ2_getChars_ba4f3 4 = .ok (.ifCond .ge 7, 3) := by decide +kernel
theorem dJ2_getChars_ba4f3_7 : decode cJ2_getChars_ba4f3 7 = .ok (.iconst 1, 1) := by decide +kernel
theorem dJ2_getChars_ba4f3_8 : decode cJ2_getChars_ba4f3 8 = .ok (.goto 4, 3) := by decide +kernel
theorem dJ2_getChars_ba4f3_11 : decode cJ2_getChars_ba4f3 11 = .ok (.iconst 0, 1) := by decide +kernel
theorem dJ2_getChars_ba4f3_12 : decode cJ2_getChars_ba4f3 12 = .ok (.istore 6, 2) := by decide +kernel
theorem dJ2_getChars_ba4f3_14 : decode cJ2_getChars_ba4f3 14 = .ok (.iload 6, 2) := by decide +kernel
theorem dJ2_getChars_ba4f3_16 : decode cJ2_getChars_ba4f3 16 = .ok (.ifCond .ne 6, 3) := by decide +kernel
theorem dJ2_getChars_ba4f3_19 : decode cJ2_getChars_ba4f3 19 = .ok (.iload_n 0, 1) := by decide +kernel
theorem dJ2_getChars_ba4f3_20 : decode cJ2_getChars_ba4f3 20 = .ok (.ineg, 1) := by decide +kernel
theorem dJ2_getChars_ba4f3_21 : decode cJ2_getChars_ba4f3 21 = .ok (.istore_n 0, 1) := by decide +kernel
theorem dJ2_getChars_ba4f3_22 : decode cJ2_getChars_ba4f3 22 = .ok (.iload_n 0, 1) := by decide +kernel
theorem dJ2_getChars_ba4f3_23 : decode cJ2_getChars_ba4f3 23 = .ok (.bipush (-100), 2) := by decide +kernel
theorem dJ2_getChars_ba4f3_25 : decode cJ2_getChars_ba4f3 25 = .ok (.if_icmp .gt 51, 3) := by decide +kernel
theorem dJ2_getChars_ba4f3_28 : decode cJ2_getChars_ba4f3 28 = .ok (.iload_n 0, 1) := by decide +kernel
theorem dJ2_getChars_ba4f3_29 : decode cJ2_getChars_ba4f3 29 = .ok (.bipush 100, 2) := by decide +kernel
theorem dJ2_getChars_ba4f3_31 : decode cJ2_getChars_ba4f3 31 = .ok (.idiv, 1) := by decide +kernel
theorem dJ2_getChars_ba4f3_32 : decode cJ2_getChars_ba4f3 32 = .ok (.istore_n 3, 1) := by decide +kernel
theorem dJ2_getChars_ba4f3_33 : decode cJ2_getChars_ba4f3 33 = .ok (.iload_n 3, 1) := by decide +kernel
theorem dJ2_getChars_ba4f3_34 : decode cJ2_getChars_ba4f3 34 = .ok (.bipush 100, 2) := by decide +kernel
theorem dJ2_getChars_ba4f3_36 : decode cJ2_getChars_ba4f3 36 = .ok (.imul, 1) := by decide +kernel
theorem dJ2_getChars_ba4f3_37 : decode cJ2_getChars_ba4f3 37 = .ok (.iload_n 0, 1) := by decide +kernel
theorem dJ2_getChars_ba4f3_38 : decode cJ2_getChars_ba4f3 38 = .ok (.isub, 1) := by decide +kernel
theorem dJ2_getChars_ba4f3_39 : decode cJ2_getChars_ba4f3 39 = .ok (.istore 4, 2) := by decide +kernel
theorem dJ2_getChars_ba4f3_41 : decode cJ2_getChars_ba4f3 41 = .ok (.iload_n 3, 1) := by decide +kernel
theorem dJ2_getChars_ba4f3_42 : decode cJ2_getChars_ba4f3 42 = .ok (.istore_n 0, 1) := by decide +kernel
theorem dJ2_getChars_ba4f3_43 : decode cJ2_getChars_ba4f3 43 = .ok (.aload_n 2, 1) := by decide +kernel
theorem dJ2_getChars_ba4f3_44 : decode cJ2_getChars_ba4f3 44 = .ok (.iinc 5 (-1), 3) := by decide +kernel
theorem dJ2_getChars_ba4f3_47 : decode cJ2_getChars_ba4f3 47 = .ok (.iload 5, 2) := by decide +kernel
theorem dJ2_getChars_ba4f3_49 : decode cJ2_getChars_ba4f3 49 = .ok (.getstatic 403, 3) := by decide +kernel
theorem dJ2_getChars_ba4f3_52 : decode cJ2_getChars_ba4f3 52 = .ok (.iload 4, 2) := by decide +kernel
theorem dJ2_getChars_ba4f3_54 : decode cJ2_getChars_ba4f3 54 = .ok (.baload, 1) := by decide +kernel
theorem dJ2_getChars_ba4f3_55 : decode cJ2_getChars_ba4f3 55 = .ok (.invokestatic 111, 3) := by decide +kernel
theorem dJ2_getChars_ba4f3_58 : decode cJ2_getChars_ba4f3 58 = .ok (.aload_n 2, 1) := by decide +kernel
theorem dJ2_getChars_ba4f3_59 : decode cJ2_getChars_ba4f3 59 = .ok (.iinc 5 (-1), 3) := by decide +kernel
theorem dJ2_getChars_ba4f3_62 : decode cJ2_getChars_ba4f3 62 = .ok (.iload 5, 2) := by decide +kernel
theorem dJ2_getChars_ba4f3_64 : decode cJ2_getChars_ba4f3 64 = .ok (.getstatic 407, 3) := by decide +kernel
theorem dJ2_getChars_ba4f3_67 : decode cJ2_getChars_ba4f3 67 = .ok (.iload 4, 2) := by decide +kernel
theorem dJ2_getChars_ba4f3_69 : decode cJ2_getChars_ba4f3 69 = .ok (.baload, 1) := by decide +kernel
theorem dJ2_getChars_ba4f3_70 : decode cJ2_getChars_ba4f3 70 = .ok (.invokestatic 111, 3) := by decide +kernel
theorem dJ2_getChars_ba4f3_73 : decode cJ2_getChars_ba4f3 73 = .ok (.goto (-51), 3) := by decide +kernel
theorem dJ2_getChars_ba4f3_76 : decode cJ2_getChars_ba4f3 76 = .ok (.aload_n 2, 1) := by decide +kernel
theorem dJ2_getChars_ba4f3_77 : decode cJ2_getChars_ba4f3 77 = .ok (.iinc 5 (-1), 3) := by decide +kernel
theorem dJ2_getChars_ba4f3_80 : decode cJ2_getChars_ba4f3 80 = .ok (.iload 5, 2) := by decide +kernel
theorem dJ2_getChars_ba4f3_82 : decode cJ2_getChars_ba4f3 82 = .ok (.getstatic 403, 3) := by decide +kernel
theorem dJ2_getChars_ba4f3_85 : decode cJ2_getChars_ba4f3 85 = .ok (.iload_n 0, 1) := by decide +kernel
theorem dJ2_getChars_ba4f3_86 : decode cJ2_getChars_ba4f3 86 = .ok (.ineg, 1) := by decide +kernel
theorem dJ2_getChars_ba4f3_87 : decode cJ2_getChars_ba4f3 87 = .ok (.baload, 1) := by decide +kernel
theorem dJ2_getChars_ba4f3_88 : decode cJ2_getChars_ba4f3 88 = .ok (.invokestatic 111, 3) := by decide +kernel
theorem dJ2_getChars_ba4f3_91 : decode cJ2_getChars_ba4f3 91 = .ok (.iload_n 0, 1) := by decide +kernel
theorem dJ2_getChars_ba4f3_92 : decode cJ2_getChars_ba4f3 92 = .ok (.bipush (-9), 2) := by decide +kernel
theorem dJ2_getChars_ba4f3_94 : decode cJ2_getChars_ba4f3 94 = .ok (.if_icmp .ge 18, 3) := by decide +kernel
theorem dJ2_getChars_ba4f3_97 : decode cJ2_getChars_ba4f3 97 = .ok (.aload_n 2, 1) := by decide +kernel
theorem dJ2_getChars_ba4f3_98 : decode cJ2_getChars_ba4f3 98 = .ok (.iinc 5 (-1), 3) := by decide +kernel
theorem dJ2_getChars_ba4f3_101 : decode cJ2_getChars_ba4f3 101 = .ok (.iload 5, 2) := by decide +kernel
theorem dJ2_getChars_ba4f3_103 : decode cJ2_getChars_ba4f3 103 = .ok (.getstatic 407, 3) := by decide +kernel
theorem dJ2_getChars_ba4f3_106 : decode cJ2_getChars_ba4f3 106 = .ok (.iload_n 0, 1) := by decide +kernel
theorem dJ2_getChars_ba4f3_107 : decode cJ2_getChars_ba4f3 107 = .ok (.ineg, 1) := by decide +kernel
theorem dJ2_getChars_ba4f3_108 : decode cJ2_getChars_ba4f3 108 = .ok (.baload, 1) := by decide +kernel
theorem dJ2_getChars_ba4f3_109 : decode cJ2_getChars_ba4f3 109 = .ok (.invokestatic 111, 3) := by decide +kernel
theorem dJ2_getChars_ba4f3_112 : decode cJ2_getChars_ba4f3 112 = .ok (.iload 6, 2) := by decide +kernel
theorem dJ2_getChars_ba4f3_114 : decode cJ2_getChars_ba4f3 114 = .ok (.ifCond .eq 14, 3) := by decide +kernel
theorem dJ2_getChars_ba4f3_117 : decode cJ2_getChars_ba4f3 117 = .ok (.aload_n 2, 1) := by decide +kernel
theorem dJ2_getChars_ba4f3_118 : decode cJ2_getChars_ba4f3 118 = .ok (.iinc 5 (-1), 3) := by decide +kernel
theorem dJ2_getChars_ba4f3_121 : decode cJ2_getChars_ba4f3 121 = .ok (.iload 5, 2) := by decide +kernel
theorem dJ2_getChars_ba4f3_123 : decode cJ2_getChars_ba4f3 123 = .ok (.bipush 45, 2) := by decide +kernel
theorem dJ2_getChars_ba4f3_125 : decode cJ2_getChars_ba4f3 125 = .ok (.invokestatic 111, 3) := by decide +kernel
theorem dJ2_getChars_ba4f3_128 : decode cJ2_getChars_ba4f3 128 = .ok (.iload 5, 2) := by decide +kernel
theorem dJ2_getChars_ba4f3_130 : decode cJ2_getChars_ba4f3 130 = .ok (.ireturn, 1) := by decide +kernel
theorem dJ2_checkIndex_2214a_0 : decode cJ2_checkIndex_2214a 0 = .ok (.iload_n 0, 1) := by decide +kernel
theorem dJ2_checkIndex_2214a_1 : decode cJ2_checkIndex_2214a 1 = .ok (.aload_n 1, 1) := by decide +kernel
theorem dJ2_checkIndex_2214a_2 : decode cJ2_checkIndex_2214a 2 = .ok (.invokestatic 48, 3) := by decide +kernel
theorem dJ2_checkIndex_2214a_5 : decode cJ2_checkIndex_2214a 5 = .ok (.invokestatic 414, 3) := by decide +kernel
theorem dJ2_checkIndex_2214a_8 : decode cJ2_checkIndex_2214a 8 = .ok (.return_, 1) := by decide +kernel
theorem dJ2_checkBoundsBeginEnd_d044e_0 : decode cJ2_checkBoundsBeginEnd_d044e 0 = .ok (.iload_n 0, 1) := by decide +kernel
theorem dJ2_checkBoundsBeginEnd_d044e_1 : decode cJ2_checkBoundsBeginEnd_d044e 1 = .ok (.iload_n 1, 1) := by decide +kernel
theorem dJ2_checkBoundsBeginEnd_d044e_2 : decode cJ2_checkBoundsBeginEnd_d044e 2 = .ok (.aload_n 2, 1) := by decide +kernel
theorem dJ2_checkBoundsBeginEnd_d044e_3 : decode cJ2_checkBoundsBeginEnd_d044e 3 = .ok (.invokestatic 48, 3) := by decide +kernel
theorem dJ2_checkBoundsBeginEnd_d044e_6 : decode cJ2_checkBoundsBeginEnd_d044e 6 = .ok (.invokestatic 241, 3) := by decide +kernel
theorem dJ2_checkBoundsBeginEnd_d044e_9 : decode cJ2_checkBoundsBeginEnd_d044e 9 = .ok (.return_, 1) := by decide +kernel
theorem dJ2_checkBoundsOffCount_d044e_0 : decode cJ2_checkBoundsOffCount_d044e 0 = .ok (.iload_n 0, 1) := by decide +kernel
theorem dJ2_checkBoundsOffCount_d044e_1 : decode cJ2_checkBoundsOffCount_d044e 1 = .ok (.iload_n 1, 1) := by decide +kernel
theorem dJ2_checkBoundsOffCount_d044e_2 : decode cJ2_checkBoundsOffCount_d044e 2 = .ok (.aload_n 2, 1) := by decide +kernel
theorem dJ2_checkBoundsOffCount_d044e_3 : decode cJ2_checkBoundsOffCount_d044e 3 = .ok (.invokestatic 48, 3) := by decide +kernel
theorem dJ2_checkBoundsOffCount_d044e_6 : decode cJ2_checkBoundsOffCount_d044e 6 = .ok (.invokestatic 419, 3) := by decide +kernel
theorem dJ2_checkBoundsOffCount_d044e_9 : decode cJ2_checkBoundsOffCount_d044e 9 = .ok (.pop, 1) := by decide +kernel
theorem dJ2_checkBoundsOffCount_d044e_10 : decode cJ2_checkBoundsOffCount_d044e 10 = .ok (.return_, 1) := by decide +kernel
theorem dJ7_copyOf_9075b_0 : decode cJ7_copyOf_9075b 0 = .ok (.iload_n 1, 1) := by decide +kernel
theorem dJ7_copyOf_9075b_1 : decode cJ7_copyOf_9075b 1 = .ok (.aload_n 0, 1) := by decide +kernel
theorem dJ7_copyOf_9075b_2 : decode cJ7_copyOf_9075b 2 = .ok (.arraylength, 1) := by decide +kernel
theorem dJ7_copyOf_9075b_3 : decode cJ7_copyOf_9075b 3 = .ok (.if_icmp .ne 11, 3) := by decide +kernel
theorem dJ7_copyOf_9075b_6 : decode cJ7_copyOf_9075b 6 = .ok (.aload_n 0, 1) := by decide +kernel
theorem dJ7_copyOf_9075b_7 : decode cJ7_copyOf_9075b 7 = .ok (.invokevirtual 310, 3) := by decide +kernel
theorem dJ7_copyOf_9075b_10 : decode cJ7_copyOf_9075b 10 = .ok (.checkcast 311, 3) := by decide +kernel
theorem dJ7_copyOf_9075b_13 : decode cJ7_copyOf_9075b 13 = .ok (.areturn, 1) := by decide +kernel
theorem dJ7_copyOf_9075b_14 : decode cJ7_copyOf_9075b 14 = .ok (.iload_n 1, 1) := by decide +kernel
theorem dJ7_copyOf_9075b_15 : decode cJ7_copyOf_9075b 15 = .ok (.newarray .byte, 2) := by decide +kernel
theorem dJ7_copyOf_9075b_17 : decode cJ7_copyOf_9075b 17 = .ok (.astore_n 2, 1) := by decide +kernel
theorem dJ7_copyOf_9075b_18 : decode cJ7_copyOf_9075b 18 = .ok (.aload_n 0, 1) := by decide +kernel
theorem dJ7_copyOf_9075b_19 : decode cJ7_copyOf_9075b 19 = .ok (.iconst 0, 1) := by decide +kernel
theorem dJ7_copyOf_9075b_20 : decode cJ7_copyOf_9075b 20 = .ok (.aload_n 2, 1) := by decide +kernel
theorem dJ7_copyOf_9075b_21 : decode cJ7_copyOf_9075b 21 = .ok (.iconst 0, 1) := by decide +kernel
theorem dJ7_copyOf_9075b_22 : decode cJ7_copyOf_9075b 22 = .ok (.aload_n 0, 1) := by decide +kernel
theorem dJ7_copyOf_9075b_23 : decode cJ7_copyOf_9075b 23 = .ok (.arraylength, 1) := by decide +kernel
theorem dJ7_copyOf_9075b_24 : decode cJ7_copyOf_9075b 24 = .ok (.iload_n 1, 1) := by decide +kernel
theorem dJ7_copyOf_9075b_25 : decode cJ7_copyOf_9075b 25 = .ok (.invokestatic 304, 3) := by decide +kernel
theorem dJ7_copyOf_9075b_28 : decode cJ7_copyOf_9075b 28 = .ok (.invokestatic 150, 3) := by decide +kernel
theorem dJ7_copyOf_9075b_31 : decode cJ7_copyOf_9075b 31 = .ok (.aload_n 2, 1) := by decide +kernel
theorem dJ7_copyOf_9075b_32 : decode cJ7_copyOf_9075b 32 = .ok (.areturn, 1) := by decide +kernel
theorem dJ7_checkLength_df160_0 : decode cJ7_checkLength_df160 0 = .ok (.iload_n 1, 1) := by decide +kernel
theorem dJ7_checkLength_df160_1 : decode cJ7_checkLength_df160 1 = .ok (.iload_n 0, 1) := by decide +kernel
theorem dJ7_checkLength_df160_2 : decode cJ7_checkLength_df160 2 = .ok (.if_icmp .ge 35, 3) := by decide +kernel
theorem dJ7_checkLength_df160_5 : decode cJ7_checkLength_df160 5 = .ok (.new 43, 3) := by decide +kernel
theorem dJ7_checkLength_df160_8 : decode cJ7_checkLength_df160 8 = .ok (.dup, 1) := by decide +kernel
theorem dJ7_checkLength_df160_9 : decode cJ7_checkLength_df160 9 = .ok (.new 45, 3) := by decide +kernel
theorem dJ7_checkLength_df160_12 : decode cJ7_checkLength_df160 12 = .ok (.dup, 1) := by decide +kernel
theorem dJ7_checkLength_df160_13 : decode cJ7_checkLength_df160 13 = .ok (.invokespecial 47, 3) := by decide +kernel
theorem dJ7_checkLength_df160_16 : decode cJ7_checkLength_df160 16 = .ok (.iload_n 0, 1) := by decide +kernel
theorem dJ7_checkLength_df160_17 : decode cJ7_checkLength_df160 17 = .ok (.invokevirtual 54, 3) := by decide +kernel
theorem dJ7_checkLength_df160_20 : decode cJ7_checkLength_df160 20 = .ok (.ldc_w 337, 3) := by decide +kernel
theorem dJ7_checkLength_df160_23 : decode cJ7_checkLength_df160 23 = .ok (.invokevirtual 50, 3) := by decide +kernel
theorem dJ7_checkLength_df160_26 : decode cJ7_checkLength_df160 26 = .ok (.iload_n 1, 1) := by decide +kernel
theorem dJ7_checkLength_df160_27 : decode cJ7_checkLength_df160 27 = .ok (.invokevirtual 54, 3) := by decide +kernel
theorem dJ7_checkLength_df160_30 : decode cJ7_checkLength_df160 30 = .ok (.invokevirtual 61, 3) := by decide +kernel
theorem dJ7_checkLength_df160_33 : decode cJ7_checkLength_df160 33 = .ok (.invokespecial 65, 3) := by decide +kernel
theorem dJ7_checkLength_df160_36 : decode cJ7_checkLength_df160 36 = .ok (.athrow, 1) := by decide +kernel
theorem dJ7_checkLength_df160_37 : decode cJ7_checkLength_df160 37 = .ok (.return_, 1) := by decide +kernel
theorem dJ7_copyOfRange_39247_0 : decode cJ7_copyOfRange_39247 0 = .ok (.iload_n 1, 1) := by decide +kernel
theorem dJ7_copyOfRange_39247_1 : decode cJ7_copyOfRange_39247 1 = .ok (.ifCond .ne 9, 3) := by decide +kernel
theorem dJ7_copyOfRange_39247_4 : decode cJ7_copyOfRange_39247 4 = .ok (.iload_n 2, 1) := by decide +kernel
theorem dJ7_copyOfRange_39247_5 : decode cJ7_copyOfRange_39247 5 = .ok (.aload_n 0, 1) := by decide +kernel
theorem dJ7_copyOfRange_39247_6 : decode cJ7_copyOfRange_39247 6 = .ok (.arraylength, 1) := by decide +kernel
theorem dJ7_copyOfRange_39247_7 : decode cJ7_copyOfRange_39247 7 = .ok (.if_icmp .eq 10, 3) := by decide +kernel
theorem dJ7_copyOfRange_39247_10 : decode cJ7_copyOfRange_39247 10 = .ok (.aload_n 0, 1) := by decide +kernel
theorem dJ7_copyOfRange_39247_11 : decode cJ7_copyOfRange_39247 11 = .ok (.iload_n 1, 1) := by decide +kernel
theorem dJ7_copyOfRange_39247_12 : decode cJ7_copyOfRange_39247 12 = .ok (.iload_n 2, 1) := by decide +kernel
theorem dJ7_copyOfRange_39247_13 : decode cJ7_copyOfRange_39247 13 = .ok (.invokestatic 339, 3) := by decide +kernel
theorem dJ7_copyOfRange_39247_16 : decode cJ7_copyOfRange_39247 16 = .ok (.areturn, 1) := by decide +kernel
theorem dJ7_copyOfRange_39247_17 : decode cJ7_copyOfRange_39247 17 = .ok (.aload_n 0, 1) := by decide +kernel
theorem dJ7_copyOfRange_39247_18 : decode cJ7_copyOfRange_39247 18 = .ok (.invokevirtual 310, 3) := by decide +kernel
theorem dJ7_copyOfRange_39247_21 : decode cJ7_copyOfRange_39247 21 = .ok (.checkcast 311, 3) := by decide +kernel
theorem dJ7_copyOfRange_39247_24 : decode cJ7_copyOfRange_39247 24 = .ok (.areturn, 1) := by decide +kernel
theorem dJ7_copyOfRangeByte_39247_0 : decode cJ7_copyOfRangeByte_39247 0 = .ok (.iload_n 1, 1) := by decide +kernel
theorem dJ7_copyOfRangeByte_39247_1 : decode cJ7_copyOfRangeByte_39247 1 = .ok (.iload_n 2, 1) := by decide +kernel
theorem dJ7_copyOfRangeByte_39247_2 : decode cJ7_copyOfRangeByte_39247 2 = .ok (.invokestatic 343, 3) := by decide +kernel
theorem dJ7_copyOfRangeByte_39247_5 : decode cJ7_copyOfRangeByte_39247 5 = .ok (.iload_n 2, 1) := by decide +kernel
theorem dJ7_copyOfRangeByte_39247_6 : decode cJ7_copyOfRangeByte_39247 6 = .ok (.iload_n 1, 1) := by decide +kernel
theorem dJ7_copyOfRangeByte_39247_7 : decode cJ7_copyOfRangeByte_39247 7 = .ok (.isub, 1) := by decide +kernel
theorem dJ7_copyOfRangeByte_39247_8 : decode cJ7_copyOfRangeByte_39247 8 = .ok (.istore_n 3, 1) := by decide +kernel
theorem dJ7_copyOfRangeByte_39247_9 : decode cJ7_copyOfRangeByte_39247 9 = .ok (.iload_n 3, 1) := by decide +kernel
theorem dJ7_copyOfRangeByte_39247_10 : decode cJ7_copyOfRangeByte_39247 10 = .ok (.newarray .byte, 2) := by decide +kernel
theorem dJ7_copyOfRangeByte_39247_12 : decode cJ7_copyOfRangeByte_39247 12 = .ok (.astore 4, 2) := by decide +kernel
theorem dJ7_copyOfRangeByte_39247_14 : decode cJ7_copyOfRangeByte_39247 14 = .ok (.aload_n 0, 1) := by decide +kernel
theorem dJ7_copyOfRangeByte_39247_15 : decode cJ7_copyOfRangeByte_39247 15 = .ok (.iload_n 1, 1) := by decide +kernel
theorem dJ7_copyOfRangeByte_39247_16 : decode cJ7_copyOfRangeByte_39247 16 = .ok (.aload 4, 2) := by decide +kernel
theorem dJ7_copyOfRangeByte_39247_18 : decode cJ7_copyOfRangeByte_39247 18 = .ok (.iconst 0, 1) := by decide +kernel
theorem dJ7_copyOfRangeByte_39247_19 : decode cJ7_copyOfRangeByte_39247 19 = .ok (.aload_n 0, 1) := by decide +kernel
theorem dJ7_copyOfRangeByte_39247_20 : decode cJ7_copyOfRangeByte_39247 20 = .ok (.arraylength, 1) := by decide +kernel
theorem dJ7_copyOfRangeByte_39247_21 : decode cJ7_copyOfRangeByte_39247 21 = .ok (.iload_n 1, 1) := by decide +kernel
theorem dJ7_copyOfRangeByte_39247_22 : decode cJ7_copyOfRangeByte_39247 22 = .ok (.isub, 1) := by decide +kernel
theorem dJ7_copyOfRangeByte_39247_23 : decode cJ7_copyOfRangeByte_39247 23 = .ok (.iload_n 3, 1) := by decide +kernel
theorem dJ7_copyOfRangeByte_39247_24 : decode cJ7_copyOfRangeByte_39247 24 = .ok (.invokestatic 304, 3) := by decide +kernel
theorem dJ7_copyOfRangeByte_39247_27 : decode cJ7_copyOfRangeByte_39247 27 = .ok (.invokestatic 150, 3) := by decide +kernel
theorem dJ7_copyOfRangeByte_39247_30 : decode cJ7_copyOfRangeByte_39247 30 = .ok (.aload 4, 2) := by decide +kernel
theorem dJ7_copyOfRangeByte_39247_32 : decode cJ7_copyOfRangeByte_39247 32 = .ok (.areturn, 1) := by decide +kernel
theorem dJ8_newLength_cabcc_0 : decode cJ8_newLength_cabcc 0 = .ok (.iload_n 0, 1) := by decide +kernel
theorem dJ8_newLength_cabcc_1 : decode cJ8_newLength_cabcc 1 = .ok (.iload_n 1, 1) := by decide +kernel
theorem dJ8_newLength_cabcc_2 : decode cJ8_newLength_cabcc 2 = .ok (.iload_n 2, 1) := by decide +kernel
theorem dJ8_newLength_cabcc_3 : decode cJ8_newLength_cabcc 3 = .ok (.invokestatic 194, 3) := by decide +kernel
theorem dJ8_newLength_cabcc_6 : decode cJ8_newLength_cabcc 6 = .ok (.iadd, 1) := by decide +kernel
theorem dJ8_newLength_cabcc_7 : decode cJ8_newLength_cabcc 7 = .ok (.istore_n 3, 1) := by decide +kernel
theorem dJ8_newLength_cabcc_8 : decode cJ8_newLength_cabcc 8 = .ok (.iconst 0, 1) := by decide +kernel
theorem dJ8_newLength_cabcc_9 : decode cJ8_newLength_cabcc 9 = .ok (.iload_n 3, 1) := by decide +kernel
theorem dJ8_newLength_cabcc_10 : decode cJ8_newLength_cabcc 10 = .ok (.if_icmp .ge 11, 3) := by decide +kernel
theorem dJ8_newLength_cabcc_13 : decode cJ8_newLength_cabcc 13 = .ok (.iload_n 3, 1) := by decide +kernel
theorem dJ8_newLength_cabcc_14 : decode cJ8_newLength_cabcc 14 = .ok (.ldc 200, 2) := by decide +kernel
theorem dJ8_newLength_cabcc_16 : decode cJ8_newLength_cabcc 16 = .ok (.if_icmp .gt 5, 3) := by decide +kernel
theorem dJ8_newLength_cabcc_19 : decode cJ8_newLength_cabcc 19 = .ok (.iload_n 3, 1) := by decide +kernel
theorem dJ8_newLength_cabcc_20 : decode cJ8_newLength_cabcc 20 = .ok (.ireturn, 1) := by decide +kernel
theorem dJ8_newLength_cabcc_21 : decode cJ8_newLength_cabcc 21 = .ok (.iload_n 0, 1) := by decide +kernel
theorem dJ8_newLength_cabcc_22 : decode cJ8_newLength_cabcc 22 = .ok (.iload_n 1, 1) := by decide +kernel
theorem dJ8_newLength_cabcc_23 : decode cJ8_newLength_cabcc 23 = .ok (.invokestatic 201, 3) := by decide +kernel
theorem dJ8_newLength_cabcc_26 : decode cJ8_newLength_cabcc 26 = .ok (.ireturn, 1) := by decide +kernel
theorem dJ8_hugeLength_7cf53_0 : decode cJ8_hugeLength_7cf53 0 = .ok (.iload_n 0, 1) := by decide +kernel
theorem dJ8_hugeLength_7cf53_1 : decode cJ8_hugeLength_7cf53 1 = .ok (.iload_n 1, 1) := by decide +kernel
theorem dJ8_hugeLength_7cf53_2 : decode cJ8_hugeLength_7cf53 2 = .ok (.iadd, 1) := by decide +kernel
theorem dJ8_hugeLength_7cf53_3 : decode cJ8_hugeLength_7cf53 3 = .ok (.istore_n 2, 1) := by decide +kernel
theorem dJ8_hugeLength_7cf53_4 : decode cJ8_hugeLength_7cf53 4 = .ok (.iload_n 2, 1) := by decide +kernel
theorem dJ8_hugeLength_7cf53_5 : decode cJ8_hugeLength_7cf53 5 = .ok (.ifCond .ge 44, 3) := by decide +kernel
theorem dJ8_hugeLength_7cf53_8 : decode cJ8_hugeLength_7cf53 8 = .ok (.new 204, 3) := by decide +kernel
theorem dJ8_hugeLength_7cf53_11 : decode cJ8_hugeLength_7cf53 11 = .ok (.dup, 1) := by decide +kernel
theorem dJ8_hugeLength_7cf53_12 : decode cJ8_hugeLength_7cf53 12 = .ok (.new 89, 3) := by decide +kernel
theorem dJ8_hugeLength_7cf53_15 : decode cJ8_hugeLength_7cf53 15 = .ok (.dup, 1) := by decide +kernel
theorem dJ8_hugeLength_7cf53_16 : decode cJ8_hugeLength_7cf53 16 = .ok (.invokespecial 91, 3) := by decide +kernel
theorem dJ8_hugeLength_7cf53_19 : decode cJ8_hugeLength_7cf53 19 = .ok (.ldc 206, 2) := by decide +kernel
theorem dJ8_hugeLength_7cf53_21 : decode cJ8_hugeLength_7cf53 21 = .ok (.invokevirtual 94, 3) := by decide +kernel
theorem dJ8_hugeLength_7cf53_24 : decode cJ8_hugeLength_7cf53 24 = .ok (.iload_n 0, 1) := by decide +kernel
theorem dJ8_hugeLength_7cf53_25 : decode cJ8_hugeLength_7cf53 25 = .ok (.invokevirtual 98, 3) := by decide +kernel
theorem dJ8_hugeLength_7cf53_28 : decode cJ8_hugeLength_7cf53 28 = .ok (.ldc 208, 2) := by decide +kernel
theorem dJ8_hugeLength_7cf53_30 : decode cJ8_hugeLength_7cf53 30 = .ok (.invokevirtual 94, 3) := by decide +kernel
theorem dJ8_hugeLength_7cf53_33 : decode cJ8_hugeLength_7cf53 33 = .ok (.iload_n 1, 1) := by decide +kernel
theorem dJ8_hugeLength_7cf53_34 : decode cJ8_hugeLength_7cf53 34 = .ok (.invokevirtual 98, 3) := by decide +kernel
theorem dJ8_hugeLength_7cf53_37 : decode cJ8_hugeLength_7cf53 37 = .ok (.ldc 210, 2) := by decide +kernel
theorem dJ8_hugeLength_7cf53_39 : decode cJ8_hugeLength_7cf53 39 = .ok (.invokevirtual 94, 3) := by decide +kernel
theorem dJ8_hugeLength_7cf53_42 : decode cJ8_hugeLength_7cf53 42 = .ok (.invokevirtual 101, 3) := by decide +kernel
theorem dJ8_hugeLength_7cf53_45 : decode cJ8_hugeLength_7cf53 45 = .ok (.invokespecial 212, 3) := by decide +kernel
theorem dJ8_hugeLength_7cf53_48 : decode cJ8_hugeLength_7cf53 48 = .ok (.athrow, 1) := by decide +kernel
theorem dJ8_hugeLength_7cf53_49 : decode cJ8_hugeLength_7cf53 49 = .ok (.iload_n 2, 1) := by decide +kernel
theorem dJ8_hugeLength_7cf53_50 : decode cJ8_hugeLength_7cf53 50 = .ok (.ldc 200, 2) := by decide +kernel
theorem dJ8_hugeLength_7cf53_52 : decode cJ8_hugeLength_7cf53 52 = .ok (.if_icmp .gt 6, 3) := by decide +kernel
theorem dJ8_hugeLength_7cf53_55 : decode cJ8_hugeLength_7cf53 55 = .ok (.ldc 200, 2) := by decide +kernel
theorem dJ8_hugeLength_7cf53_57 : decode cJ8_hugeLength_7cf53 57 = .ok (.ireturn, 1) := by decide +kernel
theorem dJ8_hugeLength_7cf53_58 : decode cJ8_hugeLength_7cf53 58 = .ok (.iload_n 2, 1) := by decide +kernel
theorem dJ8_hugeLength_7cf53_59 : decode cJ8_hugeLength_7cf53 59 = .ok (.ireturn, 1) := by decide +kernel
theorem dJ3_checkIndex_8e157_0 : decode cJ3_checkIndex_8e157 0 = .ok (.iload_n 0, 1) := by decide +kernel
theorem dJ3_checkIndex_8e157_1 : decode cJ3_checkIndex_8e157 1 = .ok (.ifCond .lt 8, 3) := by decide +kernel
theorem dJ3_checkIndex_8e157_4 : decode cJ3_checkIndex_8e157 4 = .ok (.iload_n 0, 1) := by decide +kernel
theorem dJ3_checkIndex_8e157_5 : decode cJ3_checkIndex_8e157 5 = .ok (.iload_n 1, 1) := by decide +kernel
theorem dJ3_checkIndex_8e157_6 : decode cJ3_checkIndex_8e157 6 = .ok (.if_icmp .lt 10, 3) := by decide +kernel
theorem dJ3_checkIndex_8e157_9 : decode cJ3_checkIndex_8e157 9 = .ok (.aload_n 2, 1) := by decide +kernel
theorem dJ3_checkIndex_8e157_10 : decode cJ3_checkIndex_8e157 10 = .ok (.iload_n 0, 1) := by decide +kernel
theorem dJ3_checkIndex_8e157_11 : decode cJ3_checkIndex_8e157 11 = .ok (.iload_n 1, 1) := by decide +kernel
theorem dJ3_checkIndex_8e157_12 : decode cJ3_checkIndex_8e157 12 = .ok (.invokestatic 95, 3) := by decide +kernel
theorem dJ3_checkIndex_8e157_15 : decode cJ3_checkIndex_8e157 15 = .ok (.athrow, 1) := by decide +kernel
theorem dJ3_checkIndex_8e157_16 : decode cJ3_checkIndex_8e157 16 = .ok (.iload_n 0, 1) := by decide +kernel
theorem dJ3_checkIndex_8e157_17 : decode cJ3_checkIndex_8e157 17 = .ok (.ireturn, 1) := by decide +kernel
theorem dJ3_checkFromToIndex_8c36e_0 : decode cJ3_checkFromToIndex_8c36e 0 = .ok (.iload_n 0, 1) := by decide +kernel
theorem dJ3_checkFromToIndex_8c36e_1 : decode cJ3_checkFromToIndex_8c36e 1 = .ok (.ifCond .lt 13, 3) := by decide +kernel
theorem dJ3_checkFromToIndex_8c36e_4 : decode cJ3_checkFromToIndex_8c36e 4 = .ok (.iload_n 0, 1) := by decide +kernel
theorem dJ3_checkFromToIndex_8c36e_5 : decode cJ3_checkFromToIndex_8c36e 5 = .ok (.iload_n 1, 1) := by decide +kernel
theorem dJ3_checkFromToIndex_8c36e_6 : decode cJ3_checkFromToIndex_8c36e 6 = .ok (.if_icmp .gt 8, 3) := by decide +kernel
theorem dJ3_checkFromToIndex_8c36e_9 : decode cJ3_checkFromToIndex_8c36e 9 = .ok (.iload_n 1, 1) := by decide +kernel
theorem dJ3_checkFromToIndex_8c36e_10 : decode cJ3_checkFromToIndex_8c36e 10 = .ok (.iload_n 2, 1) := by decide +kernel
theorem dJ3_checkFromToIndex_8c36e_11 : decode cJ3_checkFromToIndex_8c36e 11 = .ok (.if_icmp .le 11, 3) := by decide +kernel
theorem dJ3_checkFromToIndex_8c36e_14 : decode cJ3_checkFromToIndex_8c36e 14 = .ok (.aload_n 3, 1) := by decide +kernel
theorem dJ3_checkFromToIndex_8c36e_15 : decode cJ3_checkFromToIndex_8c36e 15 = .ok (.iload_n 0, 1) := by decide +kernel
theorem dJ3_checkFromToIndex_8c36e_16 : decode cJ3_checkFromToIndex_8c36e 16 = .ok (.iload_n 1, 1) := by decide +kernel
theorem dJ3_checkFromToIndex_8c36e_17 : decode cJ3_checkFromToIndex_8c36e 17 = .ok (.iload_n 2, 1) := by decide +kernel
theorem dJ3_checkFromToIndex_8c36e_18 : decode cJ3_checkFromToIndex_8c36e 18 = .ok (.invokestatic 99, 3) := by decide +kernel
theorem dJ3_checkFromToIndex_8c36e_21 : decode cJ3_checkFromToIndex_8c36e 21 = .ok (.athrow, 1) := by decide +kernel
theorem dJ3_checkFromToIndex_8c36e_22 : decode cJ3_checkFromToIndex_8c36e 22 = .ok (.iload_n 0, 1) := by decide +kernel
theorem dJ3_checkFromToIndex_8c36e_23 : decode cJ3_checkFromToIndex_8c36e 23 = .ok (.ireturn, 1) := by decide +kernel
theorem dJ3_checkFromIndexSize_8c36e_0 : decode cJ3_checkFromIndexSize_8c36e 0 = .ok (.iload_n 2, 1) := by decide +kernel
theorem dJ3_checkFromIndexSize_8c36e_1 : decode cJ3_checkFromIndexSize_8c36e 1 = .ok (.iload_n 0, 1) := by decide +kernel
theorem dJ3_checkFromIndexSize_8c36e_2 : decode cJ3_checkFromIndexSize_8c36e 2 = .ok (.ior, 1) := by decide +kernel
theorem dJ3_checkFromIndexSize_8c36e_3 : decode cJ3_checkFromIndexSize_8c36e 3 = .ok (.iload_n 1, 1) := by decide +kernel
theorem dJ3_checkFromIndexSize_8c36e_4 : decode cJ3_checkFromIndexSize_8c36e 4 = .ok (.ior, 1) := by decide +kernel
theorem dJ3_checkFromIndexSize_8c36e_5 : decode cJ3_checkFromIndexSize_8c36e 5 = .ok (.ifCond .lt 10, 3) := by decide +kernel
theorem dJ3_checkFromIndexSize_8c36e_8 : decode cJ3_checkFromIndexSize_8c36e 8 = .ok (.iload_n 1, 1) := by decide +kernel
theorem dJ3_checkFromIndexSize_8c36e_9 : decode cJ3_checkFromIndexSize_8c36e 9 = .ok (.iload_n 2, 1) := by decide +kernel
theorem dJ3_checkFromIndexSize_8c36e_10 : decode cJ3_checkFromIndexSize_8c36e 10 = .ok (.iload_n 0, 1) := by decide +kernel
theorem dJ3_checkFromIndexSize_8c36e_11 : decode cJ3_checkFromIndexSize_8c36e 11 = .ok (.isub, 1) := by decide +kernel
theorem dJ3_checkFromIndexSize_8c36e_12 : decode cJ3_checkFromIndexSize_8c36e 12 = .ok (.if_icmp .le 11, 3) := by decide +kernel
theorem dJ3_checkFromIndexSize_8c36e_15 : decode cJ3_checkFromIndexSize_8c36e 15 = .ok (.aload_n 3, 1) := by decide +kernel
theorem dJ3_checkFromIndexSize_8c36e_16 : decode cJ3_checkFromIndexSize_8c36e 16 = .ok (.iload_n 0, 1) := by decide +kernel
theorem dJ3_checkFromIndexSize_8c36e_17 : decode cJ3_checkFromIndexSize_8c36e 17 = .ok (.iload_n 1, 1) := by decide +kernel
theorem dJ3_checkFromIndexSize_8c36e_18 : decode cJ3_checkFromIndexSize_8c36e 18 = .ok (.iload_n 2, 1) := by decide +kernel
theorem dJ3_checkFromIndexSize_8c36e_19 : decode cJ3_checkFromIndexSize_8c36e 19 = .ok (.invokestatic 103, 3) := by decide +kernel
theorem dJ3_checkFromIndexSize_8c36e_22 : decode cJ3_checkFromIndexSize_8c36e 22 = .ok (.athrow, 1) := by decide +kernel
theorem dJ3_checkFromIndexSize_8c36e_23 : decode cJ3_checkFromIndexSize_8c36e 23 = .ok (.iload_n 0, 1) := by decide +kernel
theorem dJ3_checkFromIndexSize_8c36e_24 : decode cJ3_checkFromIndexSize_8c36e 24 = .ok (.ireturn, 1) := by decide +kernel
theorem dL_below_0 : decode cL_below 0 = .ok (.iload_n 0, 1) := by decide +kernel
theorem dL_below_1 : decode cL_below 1 = .ok (.ldc 7, 2) := by decide +kernel
theorem dL_below_3 : decode cL_below 3 = .ok (.iand, 1) := by decide +kernel
theorem dL_below_4 : decode cL_below 4 = .ok (.iload_n 1, 1) := by decide +kernel
theorem dL_below_5 : decode cL_below 5 = .ok (.irem, 1) := by decide +kernel
theorem dL_below_6 : decode cL_below 6 = .ok (.ireturn, 1) := by decide +kernel
theorem dL_cell_0 : decode cL_cell 0 = .ok (.iload_n 1, 1) := by decide +kernel
theorem dL_cell_1 : decode cL_cell 1 = .ok (.aload_n 0, 1) := by decide +kernel
theorem dL_cell_2 : decode cL_cell 2 = .ok (.arraylength, 1) := by decide +kernel
theorem dL_cell_3 : decode cL_cell 3 = .ok (.if_icmp .ge 9, 3) := by decide +kernel
theorem dL_cell_6 : decode cL_cell 6 = .ok (.aload_n 0, 1) := by decide +kernel
theorem dL_cell_7 : decode cL_cell 7 = .ok (.iload_n 1, 1) := by decide +kernel
theorem dL_cell_8 : decode cL_cell 8 = .ok (.iaload, 1) := by decide +kernel
theorem dL_cell_9 : decode cL_cell 9 = .ok (.goto 9, 3) := by decide +kernel
theorem dL_cell_12 : decode cL_cell 12 = .ok (.ldc 8, 2) := by decide +kernel
theorem dL_cell_14 : decode cL_cell 14 = .ok (.iload_n 1, 1) := by decide +kernel
theorem dL_cell_15 : decode cL_cell 15 = .ok (.iconst 3, 1) := by decide +kernel
theorem dL_cell_16 : decode cL_cell 16 = .ok (.iadd, 1) := by decide +kernel
theorem dL_cell_17 : decode cL_cell 17 = .ok (.imul, 1) := by decide +kernel
theorem dL_cell_18 : decode cL_cell 18 = .ok (.ireturn, 1) := by decide +kernel
theorem dL_taught_0 : decode cL_taught 0 = .ok (.iconst 5, 1) := by decide +kernel
theorem dL_taught_1 : decode cL_taught 1 = .ok (.newarray .int, 2) := by decide +kernel
theorem dL_taught_3 : decode cL_taught 3 = .ok (.astore_n 2, 1) := by decide +kernel
theorem dL_taught_4 : decode cL_taught 4 = .ok (.aload_n 0, 1) := by decide +kernel
theorem dL_taught_5 : decode cL_taught 5 = .ok (.iconst 0, 1) := by decide +kernel
theorem dL_taught_6 : decode cL_taught 6 = .ok (.invokevirtual 9, 3) := by decide +kernel
theorem dL_taught_9 : decode cL_taught 9 = .ok (.pop, 1) := by decide +kernel
theorem dL_taught_10 : decode cL_taught 10 = .ok (.iconst 0, 1) := by decide +kernel
theorem dL_taught_11 : decode cL_taught 11 = .ok (.istore_n 3, 1) := by decide +kernel
theorem dL_taught_12 : decode cL_taught 12 = .ok (.iload_n 3, 1) := by decide +kernel
theorem dL_taught_13 : decode cL_taught 13 = .ok (.aload_n 1, 1) := by decide +kernel
theorem dL_taught_14 : decode cL_taught 14 = .ok (.invokevirtual 15, 3) := by decide +kernel
theorem dL_taught_17 : decode cL_taught 17 = .ok (.if_icmp .ge 85, 3) := by decide +kernel
theorem dL_taught_20 : decode cL_taught 20 = .ok (.iconst 0, 1) := by decide +kernel
theorem dL_taught_21 : decode cL_taught 21 = .ok (.istore 4, 2) := by decide +kernel
theorem dL_taught_23 : decode cL_taught 23 = .ok (.iload 4, 2) := by decide +kernel
theorem dL_taught_25 : decode cL_taught 25 = .ok (.bipush 20, 2) := by decide +kernel
theorem dL_taught_27 : decode cL_taught 27 = .ok (.if_icmp .ge 49, 3) := by decide +kernel
theorem dL_taught_30 : decode cL_taught 30 = .ok (.aload_n 2, 1) := by decide +kernel
theorem dL_taught_31 : decode cL_taught 31 = .ok (.iload 4, 2) := by decide +kernel
theorem dL_taught_33 : decode cL_taught 33 = .ok (.iconst 4, 1) := by decide +kernel
theorem dL_taught_34 : decode cL_taught 34 = .ok (.idiv, 1) := by decide +kernel
theorem dL_taught_35 : decode cL_taught 35 = .ok (.aload_n 2, 1) := by decide +kernel
theorem dL_taught_36 : decode cL_taught 36 = .ok (.iload 4, 2) := by decide +kernel
theorem dL_taught_38 : decode cL_taught 38 = .ok (.iconst 4, 1) := by decide +kernel
theorem dL_taught_39 : decode cL_taught 39 = .ok (.idiv, 1) := by decide +kernel
theorem dL_taught_40 : decode cL_taught 40 = .ok (.iaload, 1) := by decide +kernel
theorem dL_taught_41 : decode cL_taught 41 = .ok (.bipush 8, 2) := by decide +kernel
theorem dL_taught_43 : decode cL_taught 43 = .ok (.ishl, 1) := by decide +kernel
theorem dL_taught_44 : decode cL_taught 44 = .ok (.iload_n 3, 1) := by decide +kernel
theorem dL_taught_45 : decode cL_taught 45 = .ok (.iload 4, 2) := by decide +kernel
theorem dL_taught_47 : decode cL_taught 47 = .ok (.iadd, 1) := by decide +kernel
theorem dL_taught_48 : decode cL_taught 48 = .ok (.aload_n 1, 1) := by decide +kernel
theorem dL_taught_49 : decode cL_taught 49 = .ok (.invokevirtual 15, 3) := by decide +kernel
theorem dL_taught_52 : decode cL_taught 52 = .ok (.if_icmp .ge 14, 3) := by decide +kernel
theorem dL_taught_55 : decode cL_taught 55 = .ok (.aload_n 1, 1) := by decide +kernel
theorem dL_taught_56 : decode cL_taught 56 = .ok (.iload_n 3, 1) := by decide +kernel
theorem dL_taught_57 : decode cL_taught 57 = .ok (.iload 4, 2) := by decide +kernel
theorem dL_taught_59 : decode cL_taught 59 = .ok (.iadd, 1) := by decide +kernel
theorem dL_taught_60 : decode cL_taught 60 = .ok (.invokevirtual 21, 3) := by decide +kernel
theorem dL_taught_63 : decode cL_taught 63 = .ok (.goto 5, 3) := by decide +kernel
theorem dL_taught_66 : decode cL_taught 66 = .ok (.bipush 32, 2) := by decide +kernel
theorem dL_taught_68 : decode cL_taught 68 = .ok (.ior, 1) := by decide +kernel
theorem dL_taught_69 : decode cL_taught 69 = .ok (.iastore, 1) := by decide +kernel
theorem dL_taught_70 : decode cL_taught 70 = .ok (.iinc 4 1, 3) := by decide +kernel
theorem dL_taught_73 : decode cL_taught 73 = .ok (.goto (-50), 3) := by decide +kernel
theorem dL_taught_76 : decode cL_taught 76 = .ok (.aload_n 0, 1) := by decide +kernel
theorem dL_taught_77 : decode cL_taught 77 = .ok (.aload_n 2, 1) := by decide +kernel
theorem dL_taught_78 : decode cL_taught 78 = .ok (.iconst 0, 1) := by decide +kernel
theorem dL_taught_79 : decode cL_taught 79 = .ok (.iaload, 1) := by decide +kernel
theorem dL_taught_80 : decode cL_taught 80 = .ok (.aload_n 2, 1) := by decide +kernel
theorem dL_taught_81 : decode cL_taught 81 = .ok (.iconst 1, 1) := by decide +kernel
theorem dL_taught_82 : decode cL_taught 82 = .ok (.iaload, 1) := by decide +kernel
theorem dL_taught_83 : decode cL_taught 83 = .ok (.aload_n 2, 1) := by decide +kernel
theorem dL_taught_84 : decode cL_taught 84 = .ok (.iconst 2, 1) := by decide +kernel
theorem dL_taught_85 : decode cL_taught 85 = .ok (.iaload, 1) := by decide +kernel
theorem dL_taught_86 : decode cL_taught 86 = .ok (.aload_n 2, 1) := by decide +kernel
theorem dL_taught_87 : decode cL_taught 87 = .ok (.iconst 3, 1) := by decide +kernel
theorem dL_taught_88 : decode cL_taught 88 = .ok (.iaload, 1) := by decide +kernel
theorem dL_taught_89 : decode cL_taught 89 = .ok (.aload_n 2, 1) := by decide +kernel
theorem dL_taught_90 : decode cL_taught 90 = .ok (.iconst 4, 1) := by decide +kernel
theorem dL_taught_91 : decode cL_taught 91 = .ok (.iaload, 1) := by decide +kernel
theorem dL_taught_92 : decode cL_taught 92 = .ok (.invokevirtual 25, 3) := by decide +kernel
theorem dL_taught_95 : decode cL_taught 95 = .ok (.pop, 1) := by decide +kernel
theorem dL_taught_96 : decode cL_taught 96 = .ok (.iinc 3 20, 3) := by decide +kernel
theorem dL_taught_99 : decode cL_taught 99 = .ok (.goto (-87), 3) := by decide +kernel
theorem dL_taught_102 : decode cL_taught 102 = .ok (.aload_n 0, 1) := by decide +kernel
theorem dL_taught_103 : decode cL_taught 103 = .ok (.aload_n 1, 1) := by decide +kernel
theorem dL_taught_104 : decode cL_taught 104 = .ok (.invokevirtual 15, 3) := by decide +kernel
theorem dL_taught_107 : decode cL_taught 107 = .ok (.invokevirtual 9, 3) := by decide +kernel
theorem dL_taught_110 : decode cL_taught 110 = .ok (.pop, 1) := by decide +kernel
theorem dL_taught_111 : decode cL_taught 111 = .ok (.aload_n 0, 1) := by decide +kernel
theorem dL_taught_112 : decode cL_taught 112 = .ok (.invokevirtual 29, 3) := by decide +kernel
theorem dL_taught_115 : decode cL_taught 115 = .ok (.ireturn, 1) := by decide +kernel
theorem dL_claim_0 : decode cL_claim 0 = .ok (.new 32, 3) := by decide +kernel
theorem dL_claim_3 : decode cL_claim 3 = .ok (.dup, 1) := by decide +kernel
theorem dL_claim_4 : decode cL_claim 4 = .ok (.invokespecial 34, 3) := by decide +kernel
theorem dL_claim_7 : decode cL_claim 7 = .ok (.ldc 35, 2) := by decide +kernel
theorem dL_claim_9 : decode cL_claim 9 = .ok (.invokevirtual 37, 3) := by decide +kernel
theorem dL_claim_12 : decode cL_claim 12 = .ok (.iload_n 0, 1) := by decide +kernel
theorem dL_claim_13 : decode cL_claim 13 = .ok (.iconst 2, 1) := by decide +kernel
theorem dL_claim_14 : decode cL_claim 14 = .ok (.idiv, 1) := by decide +kernel
theorem dL_claim_15 : decode cL_claim 15 = .ok (.invokevirtual 41, 3) := by decide +kernel
theorem dL_claim_18 : decode cL_claim 18 = .ok (.iload_n 0, 1) := by decide +kernel
theorem dL_claim_19 : decode cL_claim 19 = .ok (.iconst 2, 1) := by decide +kernel
theorem dL_claim_20 : decode cL_claim 20 = .ok (.irem, 1) := by decide +kernel
theorem dL_claim_21 : decode cL_claim 21 = .ok (.ifCond .ne 8, 3) := by decide +kernel
theorem dL_claim_24 : decode cL_claim 24 = .ok (.ldc 44, 2) := by decide +kernel
theorem dL_claim_26 : decode cL_claim 26 = .ok (.goto 5, 3) := by decide +kernel
theorem dL_claim_29 : decode cL_claim 29 = .ok (.ldc 46, 2) := by decide +kernel
theorem dL_claim_31 : decode cL_claim 31 = .ok (.invokevirtual 37, 3) := by decide +kernel
theorem dL_claim_34 : decode cL_claim 34 = .ok (.invokevirtual 48, 3) := by decide +kernel
theorem dL_claim_37 : decode cL_claim 37 = .ok (.areturn, 1) := by decide +kernel
theorem dL_told_0 : decode cL_told 0 = .ok (.new 32, 3) := by decide +kernel
theorem dL_told_3 : decode cL_told 3 = .ok (.dup, 1) := by decide +kernel
theorem dL_told_4 : decode cL_told 4 = .ok (.invokespecial 34, 3) := by decide +kernel
theorem dL_told_7 : decode cL_told 7 = .ok (.ldc 52, 2) := by decide +kernel
theorem dL_told_9 : decode cL_told 9 = .ok (.invokevirtual 37, 3) := by decide +kernel
theorem dL_told_12 : decode cL_told 12 = .ok (.iload_n 1, 1) := by decide +kernel
theorem dL_told_13 : decode cL_told 13 = .ok (.invokevirtual 41, 3) := by decide +kernel
theorem dL_told_16 : decode cL_told 16 = .ok (.ldc 54, 2) := by decide +kernel
theorem dL_told_18 : decode cL_told 18 = .ok (.invokevirtual 37, 3) := by decide +kernel
theorem dL_told_21 : decode cL_told 21 = .ok (.invokevirtual 48, 3) := by decide +kernel
theorem dL_told_24 : decode cL_told 24 = .ok (.astore_n 2, 1) := by decide +kernel
theorem dL_told_25 : decode cL_told 25 = .ok (.aload_n 0, 1) := by decide +kernel
theorem dL_told_26 : decode cL_told 26 = .ok (.iconst 0, 1) := by decide +kernel
theorem dL_told_27 : decode cL_told 27 = .ok (.iaload, 1) := by decide +kernel
theorem dL_told_28 : decode cL_told 28 = .ok (.ifCond .ne 53, 3) := by decide +kernel
theorem dL_told_31 : decode cL_told 31 = .ok (.new 32, 3) := by decide +kernel
theorem dL_told_34 : decode cL_told 34 = .ok (.dup, 1) := by decide +kernel
theorem dL_told_35 : decode cL_told 35 = .ok (.invokespecial 34, 3) := by decide +kernel
theorem dL_told_38 : decode cL_told 38 = .ok (.ldc 56, 2) := by decide +kernel
theorem dL_told_40 : decode cL_told 40 = .ok (.invokevirtual 37, 3) := by decide +kernel
theorem dL_told_43 : decode cL_told 43 = .ok (.aload_n 2, 1) := by decide +kernel
theorem dL_told_44 : decode cL_told 44 = .ok (.invokevirtual 37, 3) := by decide +kernel
theorem dL_told_47 : decode cL_told 47 = .ok (.ldc 58, 2) := by decide +kernel
theorem dL_told_49 : decode cL_told 49 = .ok (.invokevirtual 37, 3) := by decide +kernel
theorem dL_told_52 : decode cL_told 52 = .ok (.aload_n 0, 1) := by decide +kernel
theorem dL_told_53 : decode cL_told 53 = .ok (.iconst 1, 1) := by decide +kernel
theorem dL_told_54 : decode cL_told 54 = .ok (.iaload, 1) := by decide +kernel
theorem dL_told_55 : decode cL_told 55 = .ok (.invokestatic 60, 3) := by decide +kernel
theorem dL_told_58 : decode cL_told 58 = .ok (.invokevirtual 37, 3) := by decide +kernel
theorem dL_told_61 : decode cL_told 61 = .ok (.ldc 66, 2) := by decide +kernel
theorem dL_told_63 : decode cL_told 63 = .ok (.invokevirtual 37, 3) := by decide +kernel
theorem dL_told_66 : decode cL_told 66 = .ok (.aload_n 0, 1) := by decide +kernel
theorem dL_told_67 : decode cL_told 67 = .ok (.iconst 2, 1) := by decide +kernel
theorem dL_told_68 : decode cL_told 68 = .ok (.iaload, 1) := by decide +kernel
theorem dL_told_69 : decode cL_told 69 = .ok (.invokestatic 60, 3) := by decide +kernel
theorem dL_told_72 : decode cL_told 72 = .ok (.invokevirtual 37, 3) := by decide +kernel
theorem dL_told_75 : decode cL_told 75 = .ok (.invokevirtual 48, 3) := by decide +kernel
theorem dL_told_78 : decode cL_told 78 = .ok (.goto 140, 3) := by decide +kernel
theorem dL_told_81 : decode cL_told 81 = .ok (.aload_n 0, 1) := by decide +kernel
theorem dL_told_82 : decode cL_told 82 = .ok (.iconst 0, 1) := by decide +kernel
theorem dL_told_83 : decode cL_told 83 = .ok (.iaload, 1) := by decide +kernel
theorem dL_told_84 : decode cL_told 84 = .ok (.iconst 1, 1) := by decide +kernel
theorem dL_told_85 : decode cL_told 85 = .ok (.if_icmp .ne 53, 3) := by decide +kernel
theorem dL_told_88 : decode cL_told 88 = .ok (.new 32, 3) := by decide +kernel
theorem dL_told_91 : decode cL_told 91 = .ok (.dup, 1) := by decide +kernel
theorem dL_told_92 : decode cL_told 92 = .ok (.invokespecial 34, 3) := by decide +kernel
theorem dL_told_95 : decode cL_told 95 = .ok (.ldc 68, 2) := by decide +kernel
theorem dL_told_97 : decode cL_told 97 = .ok (.invokevirtual 37, 3) := by decide +kernel
theorem dL_told_100 : decode cL_told 100 = .ok (.aload_n 2, 1) := by decide +kernel
theorem dL_told_101 : decode cL_told 101 = .ok (.invokevirtual 37, 3) := by decide +kernel
theorem dL_told_104 : decode cL_told 104 = .ok (.ldc 70, 2) := by decide +kernel
theorem dL_told_106 : decode cL_told 106 = .ok (.invokevirtual 37, 3) := by decide +kernel
theorem dL_told_109 : decode cL_told 109 = .ok (.aload_n 0, 1) := by decide +kernel
theorem dL_told_110 : decode cL_told 110 = .ok (.iconst 1, 1) := by decide +kernel
theorem dL_told_111 : decode cL_told 111 = .ok (.iaload, 1) := by decide +kernel
theorem dL_told_112 : decode cL_told 112 = .ok (.invokestatic 60, 3) := by decide +kernel
theorem dL_told_115 : decode cL_told 115 = .ok (.invokevirtual 37, 3) := by decide +kernel
theorem dL_told_118 : decode cL_told 118 = .ok (.ldc 72, 2) := by decide +kernel
theorem dL_told_120 : decode cL_told 120 = .ok (.invokevirtual 37, 3) := by decide +kernel
theorem dL_told_123 : decode cL_told 123 = .ok (.aload_n 0, 1) := by decide +kernel
theorem dL_told_124 : decode cL_told 124 = .ok (.iconst 2, 1) := by decide +kernel
theorem dL_told_125 : decode cL_told 125 = .ok (.iaload, 1) := by decide +kernel
theorem dL_told_126 : decode cL_told 126 = .ok (.invokestatic 60, 3) := by decide +kernel
theorem dL_told_129 : decode cL_told 129 = .ok (.invokevirtual 37, 3) := by decide +kernel
theorem dL_told_132 : decode cL_told 132 = .ok (.invokevirtual 48, 3) := by decide +kernel
theorem dL_told_135 : decode cL_told 135 = .ok (.goto 83, 3) := by decide +kernel
theorem dL_told_138 : decode cL_told 138 = .ok (.aload_n 0, 1) := by decide +kernel
theorem dL_told_139 : decode cL_told 139 = .ok (.iconst 0, 1) := by decide +kernel
theorem dL_told_140 : decode cL_told 140 = .ok (.iaload, 1) := by decide +kernel
theorem dL_told_141 : decode cL_told 141 = .ok (.iconst 2, 1) := by decide +kernel
theorem dL_told_142 : decode cL_told 142 = .ok (.if_icmp .ne 48, 3) := by decide +kernel
theorem dL_told_145 : decode cL_told 145 = .ok (.new 32, 3) := by decide +kernel
theorem dL_told_148 : decode cL_told 148 = .ok (.dup, 1) := by decide +kernel
theorem dL_told_149 : decode cL_told 149 = .ok (.invokespecial 34, 3) := by decide +kernel
theorem dL_told_152 : decode cL_told 152 = .ok (.ldc 74, 2) := by decide +kernel
theorem dL_told_154 : decode cL_told 154 = .ok (.invokevirtual 37, 3) := by decide +kernel
theorem dL_told_157 : decode cL_told 157 = .ok (.aload_n 2, 1) := by decide +kernel
theorem dL_told_158 : decode cL_told 158 = .ok (.invokevirtual 37, 3) := by decide +kernel
theorem dL_told_161 : decode cL_told 161 = .ok (.aload_n 0, 1) := by decide +kernel
theorem dL_told_162 : decode cL_told 162 = .ok (.iconst 1, 1) := by decide +kernel
theorem dL_told_163 : decode cL_told 163 = .ok (.iaload, 1) := by decide +kernel
theorem dL_told_164 : decode cL_told 164 = .ok (.invokestatic 60, 3) := by decide +kernel
theorem dL_told_167 : decode cL_told 167 = .ok (.invokevirtual 37, 3) := by decide +kernel
theorem dL_told_170 : decode cL_told 170 = .ok (.ldc 76, 2) := by decide +kernel
theorem dL_told_172 : decode cL_told 172 = .ok (.invokevirtual 37, 3) := by decide +kernel
theorem dL_told_175 : decode cL_told 175 = .ok (.aload_n 0, 1) := by decide +kernel
theorem dL_told_176 : decode cL_told 176 = .ok (.iconst 2, 1) := by decide +kernel
theorem dL_told_177 : decode cL_told 177 = .ok (.iaload, 1) := by decide +kernel
theorem dL_told_178 : decode cL_told 178 = .ok (.invokestatic 60, 3) := by decide +kernel
theorem dL_told_181 : decode cL_told 181 = .ok (.invokevirtual 37, 3) := by decide +kernel
theorem dL_told_184 : decode cL_told 184 = .ok (.invokevirtual 48, 3) := by decide +kernel
theorem dL_told_187 : decode cL_told 187 = .ok (.goto 31, 3) := by decide +kernel
theorem dL_told_190 : decode cL_told 190 = .ok (.new 32, 3) := by decide +kernel
theorem dL_told_193 : decode cL_told 193 = .ok (.dup, 1) := by decide +kernel
theorem dL_told_194 : decode cL_told 194 = .ok (.invokespecial 34, 3) := by decide +kernel
theorem dL_told_197 : decode cL_told 197 = .ok (.ldc 78, 2) := by decide +kernel
theorem dL_told_199 : decode cL_told 199 = .ok (.invokevirtual 37, 3) := by decide +kernel
theorem dL_told_202 : decode cL_told 202 = .ok (.aload_n 2, 1) := by decide +kernel
theorem dL_told_203 : decode cL_told 203 = .ok (.invokevirtual 37, 3) := by decide +kernel
theorem dL_told_206 : decode cL_told 206 = .ok (.aload_n 0, 1) := by decide +kernel
theorem dL_told_207 : decode cL_told 207 = .ok (.iconst 1, 1) := by decide +kernel
theorem dL_told_208 : decode cL_told 208 = .ok (.iaload, 1) := by decide +kernel
theorem dL_told_209 : decode cL_told 209 = .ok (.invokestatic 60, 3) := by decide +kernel
theorem dL_told_212 : decode cL_told 212 = .ok (.invokevirtual 37, 3) := by decide +kernel
theorem dL_told_215 : decode cL_told 215 = .ok (.invokevirtual 48, 3) := by decide +kernel
theorem dL_told_218 : decode cL_told 218 = .ok (.areturn, 1) := by decide +kernel
theorem dL_test_0 : decode cL_test 0 = .ok (.aload_n 0, 1) := by decide +kernel
theorem dL_test_1 : decode cL_test 1 = .ok (.iconst 3, 1) := by decide +kernel
theorem dL_test_2 : decode cL_test 2 = .ok (.iaload, 1) := by decide +kernel
theorem dL_test_3 : decode cL_test 3 = .ok (.istore_n 2, 1) := by decide +kernel
theorem dL_test_4 : decode cL_test 4 = .ok (.aload_n 0, 1) := by decide +kernel
theorem dL_test_5 : decode cL_test 5 = .ok (.iconst 2, 1) := by decide +kernel
theorem dL_test_6 : decode cL_test 6 = .ok (.iaload, 1) := by decide +kernel
theorem dL_test_7 : decode cL_test 7 = .ok (.tableswitch 172 0 4 #[33, 36, 58, 85, 116], 33) := by decide +kernel
theorem dL_test_40 : decode cL_test 40 = .ok (.ldc 80, 2) := by decide +kernel
theorem dL_test_42 : decode cL_test 42 = .ok (.areturn, 1) := by decide +kernel
theorem dL_test_43 : decode cL_test 43 = .ok (.new 32, 3) := by decide +kernel
theorem dL_test_46 : decode cL_test 46 = .ok (.dup, 1) := by decide +kernel
theorem dL_test_47 : decode cL_test 47 = .ok (.invokespecial 34, 3) := by decide +kernel
theorem dL_test_50 : decode cL_test 50 = .ok (.ldc 82, 2) := by decide +kernel
theorem dL_test_52 : decode cL_test 52 = .ok (.invokevirtual 37, 3) := by decide +kernel
theorem dL_test_55 : decode cL_test 55 = .ok (.iload_n 2, 1) := by decide +kernel
theorem dL_test_56 : decode cL_test 56 = .ok (.iconst 3, 1) := by decide +kernel
theorem dL_test_57 : decode cL_test 57 = .ok (.irem, 1) := by decide +kernel
theorem dL_test_58 : decode cL_test 58 = .ok (.invokevirtual 41, 3) := by decide +kernel
theorem dL_test_61 : decode cL_test 61 = .ok (.invokevirtual 48, 3) := by decide +kernel
theorem dL_test_64 : decode cL_test 64 = .ok (.areturn, 1) := by decide +kernel
theorem dL_test_65 : decode cL_test 65 = .ok (.new 32, 3) := by decide +kernel
theorem dL_test_68 : decode cL_test 68 = .ok (.dup, 1) := by decide +kernel
theorem dL_test_69 : decode cL_test 69 = .ok (.invokespecial 34, 3) := by decide +kernel
theorem dL_test_72 : decode cL_test 72 = .ok (.ldc 84, 2) := by decide +kernel
theorem dL_test_74 : decode cL_test 74 = .ok (.invokevirtual 37, 3) := by decide +kernel
theorem dL_test_77 : decode cL_test 77 = .ok (.iload_n 2, 1) := by decide +kernel
theorem dL_test_78 : decode cL_test 78 = .ok (.iconst 2, 1) := by decide +kernel
theorem dL_test_79 : decode cL_test 79 = .ok (.iload_n 1, 1) := by decide +kernel
theorem dL_test_80 : decode cL_test 80 = .ok (.imul, 1) := by decide +kernel
theorem dL_test_81 : decode cL_test 81 = .ok (.irem, 1) := by decide +kernel
theorem dL_test_82 : decode cL_test 82 = .ok (.invokestatic 60, 3) := by decide +kernel
theorem dL_test_85 : decode cL_test 85 = .ok (.invokevirtual 37, 3) := by decide +kernel
theorem dL_test_88 : decode cL_test 88 = .ok (.invokevirtual 48, 3) := by decide +kernel
theorem dL_test_91 : decode cL_test 91 = .ok (.areturn, 1) := by decide +kernel
theorem dL_test_92 : decode cL_test 92 = .ok (.new 32, 3) := by decide +kernel
theorem dL_test_95 : decode cL_test 95 = .ok (.dup, 1) := by decide +kernel
theorem dL_test_96 : decode cL_test 96 = .ok (.invokespecial 34, 3) := by decide +kernel
theorem dL_test_99 : decode cL_test 99 = .ok (.ldc 86, 2) := by decide +kernel
theorem dL_test_101 : decode cL_test 101 = .ok (.invokevirtual 37, 3) := by decide +kernel
theorem dL_test_104 : decode cL_test 104 = .ok (.aload_n 0, 1) := by decide +kernel
theorem dL_test_105 : decode cL_test 105 = .ok (.iconst 4, 1) := by decide +kernel
theorem dL_test_106 : decode cL_test 106 = .ok (.iaload, 1) := by decide +kernel
theorem dL_test_107 : decode cL_test 107 = .ok (.invokevirtual 41, 3) := by decide +kernel
theorem dL_test_110 : decode cL_test 110 = .ok (.ldc 88, 2) := by decide +kernel
theorem dL_test_112 : decode cL_test 112 = .ok (.invokevirtual 37, 3) := by decide +kernel
theorem dL_test_115 : decode cL_test 115 = .ok (.iload_n 2, 1) := by decide +kernel
theorem dL_test_116 : decode cL_test 116 = .ok (.invokevirtual 41, 3) := by decide +kernel
theorem dL_test_119 : decode cL_test 119 = .ok (.invokevirtual 48, 3) := by decide +kernel
theorem dL_test_122 : decode cL_test 122 = .ok (.areturn, 1) := by decide +kernel
theorem dL_test_123 : decode cL_test 123 = .ok (.new 32, 3) := by decide +kernel
theorem dL_test_126 : decode cL_test 126 = .ok (.dup, 1) := by decide +kernel
theorem dL_test_127 : decode cL_test 127 = .ok (.invokespecial 34, 3) := by decide +kernel
theorem dL_test_130 : decode cL_test 130 = .ok (.ldc 90, 2) := by decide +kernel
theorem dL_test_132 : decode cL_test 132 = .ok (.invokevirtual 37, 3) := by decide +kernel
theorem dL_test_135 : decode cL_test 135 = .ok (.iload_n 2, 1) := by decide +kernel
theorem dL_test_136 : decode cL_test 136 = .ok (.iconst 2, 1) := by decide +kernel
theorem dL_test_137 : decode cL_test 137 = .ok (.iload_n 1, 1) := by decide +kernel
theorem dL_test_138 : decode cL_test 138 = .ok (.imul, 1) := by decide +kernel
theorem dL_test_139 : decode cL_test 139 = .ok (.irem, 1) := by decide +kernel
theorem dL_test_140 : decode cL_test 140 = .ok (.invokestatic 60, 3) := by decide +kernel
theorem dL_test_143 : decode cL_test 143 = .ok (.invokevirtual 37, 3) := by decide +kernel
theorem dL_test_146 : decode cL_test 146 = .ok (.ldc 92, 2) := by decide +kernel
theorem dL_test_148 : decode cL_test 148 = .ok (.invokevirtual 37, 3) := by decide +kernel
theorem dL_test_151 : decode cL_test 151 = .ok (.aload_n 0, 1) := by decide +kernel
theorem dL_test_152 : decode cL_test 152 = .ok (.iconst 4, 1) := by decide +kernel
theorem dL_test_153 : decode cL_test 153 = .ok (.iaload, 1) := by decide +kernel
theorem dL_test_154 : decode cL_test 154 = .ok (.iconst 2, 1) := by decide +kernel
theorem dL_test_155 : decode cL_test 155 = .ok (.iload_n 1, 1) := by decide +kernel
theorem dL_test_156 : decode cL_test 156 = .ok (.imul, 1) := by decide +kernel
theorem dL_test_157 : decode cL_test 157 = .ok (.irem, 1) := by decide +kernel
theorem dL_test_158 : decode cL_test 158 = .ok (.invokestatic 60, 3) := by decide +kernel
theorem dL_test_161 : decode cL_test 161 = .ok (.invokevirtual 37, 3) := by decide +kernel
theorem dL_test_164 : decode cL_test 164 = .ok (.ldc 94, 2) := by decide +kernel
theorem dL_test_166 : decode cL_test 166 = .ok (.invokevirtual 37, 3) := by decide +kernel
theorem dL_test_169 : decode cL_test 169 = .ok (.aload_n 0, 1) := by decide +kernel
theorem dL_test_170 : decode cL_test 170 = .ok (.iconst 5, 1) := by decide +kernel
theorem dL_test_171 : decode cL_test 171 = .ok (.iaload, 1) := by decide +kernel
theorem dL_test_172 : decode cL_test 172 = .ok (.invokevirtual 41, 3) := by decide +kernel
theorem dL_test_175 : decode cL_test 175 = .ok (.invokevirtual 48, 3) := by decide +kernel
theorem dL_test_178 : decode cL_test 178 = .ok (.areturn, 1) := by decide +kernel
theorem dL_test_179 : decode cL_test 179 = .ok (.new 32, 3) := by decide +kernel
theorem dL_test_182 : decode cL_test 182 = .ok (.dup, 1) := by decide +kernel
theorem dL_test_183 : decode cL_test 183 = .ok (.invokespecial 34, 3) := by decide +kernel
theorem dL_test_186 : decode cL_test 186 = .ok (.ldc 96, 2) := by decide +kernel
theorem dL_test_188 : decode cL_test 188 = .ok (.invokevirtual 37, 3) := by decide +kernel
theorem dL_test_191 : decode cL_test 191 = .ok (.iload_n 2, 1) := by decide +kernel
theorem dL_test_192 : decode cL_test 192 = .ok (.invokevirtual 41, 3) := by decide +kernel
theorem dL_test_195 : decode cL_test 195 = .ok (.ldc 98, 2) := by decide +kernel
theorem dL_test_197 : decode cL_test 197 = .ok (.invokevirtual 37, 3) := by decide +kernel
theorem dL_test_200 : decode cL_test 200 = .ok (.invokevirtual 48, 3) := by decide +kernel
theorem dL_test_203 : decode cL_test 203 = .ok (.areturn, 1) := by decide +kernel
theorem dL_book_0 : decode cL_book 0 = .ok (.new 100, 3) := by decide +kernel
theorem dL_book_3 : decode cL_book 3 = .ok (.dup, 1) := by decide +kernel
theorem dL_book_4 : decode cL_book 4 = .ok (.invokespecial 102, 3) := by decide +kernel
theorem dL_book_7 : decode cL_book 7 = .ok (.astore_n 3, 1) := by decide +kernel
theorem dL_book_8 : decode cL_book 8 = .ok (.aload_n 3, 1) := by decide +kernel
theorem dL_book_9 : decode cL_book 9 = .ok (.iconst 1, 1) := by decide +kernel
theorem dL_book_10 : decode cL_book 10 = .ok (.aload_n 0, 1) := by decide +kernel
theorem dL_book_11 : decode cL_book 11 = .ok (.iconst 0, 1) := by decide +kernel
theorem dL_book_12 : decode cL_book 12 = .ok (.invokestatic 103, 3) := by decide +kernel
theorem dL_book_15 : decode cL_book 15 = .ok (.iload_n 1, 1) := by decide +kernel
theorem dL_book_16 : decode cL_book 16 = .ok (.invokestatic 107, 3) := by decide +kernel
theorem dL_book_19 : decode cL_book 19 = .ok (.iadd, 1) := by decide +kernel
theorem dL_book_20 : decode cL_book 20 = .ok (.putfield 111, 3) := by decide +kernel
theorem dL_book_23 : decode cL_book 23 = .ok (.iconst 0, 1) := by decide +kernel
theorem dL_book_24 : decode cL_book 24 = .ok (.istore 4, 2) := by decide +kernel
theorem dL_book_26 : decode cL_book 26 = .ok (.iload 4, 2) := by decide +kernel
theorem dL_book_28 : decode cL_book 28 = .ok (.aload_n 3, 1) := by decide +kernel
theorem dL_book_29 : decode cL_book 29 = .ok (.getfield 111, 3) := by decide +kernel
theorem dL_book_32 : decode cL_book 32 = .ok (.if_icmp .ge 26, 3) := by decide +kernel
theorem dL_book_35 : decode cL_book 35 = .ok (.aload_n 2, 1) := by decide +kernel
theorem dL_book_36 : decode cL_book 36 = .ok (.ldc 115, 2) := by decide +kernel
theorem dL_book_38 : decode cL_book 38 = .ok (.invokevirtual 37, 3) := by decide +kernel
theorem dL_book_41 : decode cL_book 41 = .ok (.iload 4, 2) := by decide +kernel
theorem dL_book_43 : decode cL_book 43 = .ok (.invokevirtual 41, 3) := by decide +kernel
theorem dL_book_46 : decode cL_book 46 = .ok (.ldc 117, 2) := by decide +kernel
theorem dL_book_48 : decode cL_book 48 = .ok (.invokevirtual 37, 3) := by decide +kernel
theorem dL_book_51 : decode cL_book 51 = .ok (.pop, 1) := by decide +kernel
theorem dL_book_52 : decode cL_book 52 = .ok (.iinc 4 1, 3) := by decide +kernel
theorem dL_book_55 : decode cL_book 55 = .ok (.goto (-29), 3) := by decide +kernel
theorem dL_book_58 : decode cL_book 58 = .ok (.aload_n 0, 1) := by decide +kernel
theorem dL_book_59 : decode cL_book 59 = .ok (.iconst 1, 1) := by decide +kernel
theorem dL_book_60 : decode cL_book 60 = .ok (.invokestatic 103, 3) := by decide +kernel
theorem dL_book_63 : decode cL_book 63 = .ok (.iconst 2, 1) := by decide +kernel
theorem dL_book_64 : decode cL_book 64 = .ok (.aload_n 3, 1) := by decide +kernel
theorem dL_book_65 : decode cL_book 65 = .ok (.getfield 111, 3) := by decide +kernel
theorem dL_book_68 : decode cL_book 68 = .ok (.imul, 1) := by decide +kernel
theorem dL_book_69 : decode cL_book 69 = .ok (.iconst 3, 1) := by decide +kernel
theorem dL_book_70 : decode cL_book 70 = .ok (.iadd, 1) := by decide +kernel
theorem dL_book_71 : decode cL_book 71 = .ok (.invokestatic 107, 3) := by decide +kernel
theorem dL_book_74 : decode cL_book 74 = .ok (.istore 4, 2) := by decide +kernel
theorem dL_book_76 : decode cL_book 76 = .ok (.iconst 0, 1) := by decide +kernel
theorem dL_book_77 : decode cL_book 77 = .ok (.istore 5, 2) := by decide +kernel
theorem dL_book_79 : decode cL_book 79 = .ok (.iload 5, 2) := by decide +kernel
theorem dL_book_81 : decode cL_book 81 = .ok (.iload 4, 2) := by decide +kernel
theorem dL_book_83 : decode cL_book 83 = .ok (.if_icmp .ge 154, 3) := by decide +kernel
theorem dL_book_86 : decode cL_book 86 = .ok (.aload_n 0, 1) := by decide +kernel
theorem dL_book_87 : decode cL_book 87 = .ok (.iconst 2, 1) := by decide +kernel
theorem dL_book_88 : decode cL_book 88 = .ok (.iload 5, 2) := by decide +kernel
theorem dL_book_90 : decode cL_book 90 = .ok (.bipush 12, 2) := by decide +kernel
theorem dL_book_92 : decode cL_book 92 = .ok (.irem, 1) := by decide +kernel
theorem dL_book_93 : decode cL_book 93 = .ok (.iadd, 1) := by decide +kernel
theorem dL_book_94 : decode cL_book 94 = .ok (.invokestatic 103, 3) := by decide +kernel
theorem dL_book_97 : decode cL_book 97 = .ok (.iconst 1, 1) := by decide +kernel
theorem dL_book_98 : decode cL_book 98 = .ok (.iload 5, 2) := by decide +kernel
theorem dL_book_100 : decode cL_book 100 = .ok (.bipush 12, 2) := by decide +kernel
theorem dL_book_102 : decode cL_book 102 = .ok (.idiv, 1) := by decide +kernel
theorem dL_book_103 : decode cL_book 103 = .ok (.iconst 4, 1) := by decide +kernel
theorem dL_book_104 : decode cL_book 104 = .ok (.imul, 1) := by decide +kernel
theorem dL_book_105 : decode cL_book 105 = .ok (.iadd, 1) := by decide +kernel
theorem dL_book_106 : decode cL_book 106 = .ok (.ishr, 1) := by decide +kernel
theorem dL_book_107 : decode cL_book 107 = .ok (.bipush 37, 2) := by decide +kernel
theorem dL_book_109 : decode cL_book 109 = .ok (.iload 5, 2) := by decide +kernel
theorem dL_book_111 : decode cL_book 111 = .ok (.imul, 1) := by decide +kernel
theorem dL_book_112 : decode cL_book 112 = .ok (.iadd, 1) := by decide +kernel
theorem dL_book_113 : decode cL_book 113 = .ok (.istore 6, 2) := by decide +kernel
theorem dL_book_115 : decode cL_book 115 = .ok (.iload 6, 2) := by decide +kernel
theorem dL_book_117 : decode cL_book 117 = .ok (.bipush 9, 2) := by decide +kernel
theorem dL_book_119 : decode cL_book 119 = .ok (.invokestatic 107, 3) := by decide +kernel
theorem dL_book_122 : decode cL_book 122 = .ok (.ifCond .ne 7, 3) := by decide +kernel
theorem dL_book_125 : decode cL_book 125 = .ok (.iconst 3, 1) := by decide +kernel
theorem dL_book_126 : decode cL_book 126 = .ok (.goto 11, 3) := by decide +kernel
theorem dL_book_129 : decode cL_book 129 = .ok (.iload 6, 2) := by decide +kernel
theorem dL_book_131 : decode cL_book 131 = .ok (.iconst 2, 1) := by decide +kernel
theorem dL_book_132 : decode cL_book 132 = .ok (.ishr, 1) := by decide +kernel
theorem dL_book_133 : decode cL_book 133 = .ok (.iconst 3, 1) := by decide +kernel
theorem dL_book_134 : decode cL_book 134 = .ok (.invokestatic 107, 3) := by decide +kernel
theorem dL_book_137 : decode cL_book 137 = .ok (.istore 7, 2) := by decide +kernel
theorem dL_book_139 : decode cL_book 139 = .ok (.iload 6, 2) := by decide +kernel
theorem dL_book_141 : decode cL_book 141 = .ok (.iconst 3, 1) := by decide +kernel
theorem dL_book_142 : decode cL_book 142 = .ok (.ishr, 1) := by decide +kernel
theorem dL_book_143 : decode cL_book 143 = .ok (.iconst 2, 1) := by decide +kernel
theorem dL_book_144 : decode cL_book 144 = .ok (.aload_n 3, 1) := by decide +kernel
theorem dL_book_145 : decode cL_book 145 = .ok (.getfield 111, 3) := by decide +kernel
theorem dL_book_148 : decode cL_book 148 = .ok (.imul, 1) := by decide +kernel
theorem dL_book_149 : decode cL_book 149 = .ok (.invokestatic 107, 3) := by decide +kernel
theorem dL_book_152 : decode cL_book 152 = .ok (.istore 8, 2) := by decide +kernel
theorem dL_book_154 : decode cL_book 154 = .ok (.iconst 4, 1) := by decide +kernel
theorem dL_book_155 : decode cL_book 155 = .ok (.newarray .int, 2) := by decide +kernel
theorem dL_book_157 : decode cL_book 157 = .ok (.dup, 1) := by decide +kernel
theorem dL_book_158 : decode cL_book 158 = .ok (.iconst 0, 1) := by decide +kernel
theorem dL_book_159 : decode cL_book 159 = .ok (.iload 7, 2) := by decide +kernel
theorem dL_book_161 : decode cL_book 161 = .ok (.iastore, 1) := by decide +kernel
theorem dL_book_162 : decode cL_book 162 = .ok (.dup, 1) := by decide +kernel
theorem dL_book_163 : decode cL_book 163 = .ok (.iconst 1, 1) := by decide +kernel
theorem dL_book_164 : decode cL_book 164 = .ok (.iload 8, 2) := by decide +kernel
theorem dL_book_166 : decode cL_book 166 = .ok (.iastore, 1) := by decide +kernel
theorem dL_book_167 : decode cL_book 167 = .ok (.dup, 1) := by decide +kernel
theorem dL_book_168 : decode cL_book 168 = .ok (.iconst 2, 1) := by decide +kernel
theorem dL_book_169 : decode cL_book 169 = .ok (.iload 7, 2) := by decide +kernel
theorem dL_book_171 : decode cL_book 171 = .ok (.iconst 3, 1) := by decide +kernel
theorem dL_book_172 : decode cL_book 172 = .ok (.if_icmp .ne 8, 3) := by decide +kernel
theorem dL_book_175 : decode cL_book 175 = .ok (.iload 8, 2) := by decide +kernel
theorem dL_book_177 : decode cL_book 177 = .ok (.goto 17, 3) := by decide +kernel
theorem dL_book_180 : decode cL_book 180 = .ok (.iload 6, 2) := by decide +kernel
theorem dL_book_182 : decode cL_book 182 = .ok (.bipush 6, 2) := by decide +kernel
theorem dL_book_184 : decode cL_book 184 = .ok (.ishr, 1) := by decide +kernel
theorem dL_book_185 : decode cL_book 185 = .ok (.iconst 2, 1) := by decide +kernel
theorem dL_book_186 : decode cL_book 186 = .ok (.aload_n 3, 1) := by decide +kernel
theorem dL_book_187 : decode cL_book 187 = .ok (.getfield 111, 3) := by decide +kernel
theorem dL_book_190 : decode cL_book 190 = .ok (.imul, 1) := by decide +kernel
theorem dL_book_191 : decode cL_book 191 = .ok (.invokestatic 107, 3) := by decide +kernel
theorem dL_book_194 : decode cL_book 194 = .ok (.iastore, 1) := by decide +kernel
theorem dL_book_195 : decode cL_book 195 = .ok (.dup, 1) := by decide +kernel
theorem dL_book_196 : decode cL_book 196 = .ok (.iconst 3, 1) := by decide +kernel
theorem dL_book_197 : decode cL_book 197 = .ok (.iconst 1, 1) := by decide +kernel
theorem dL_book_198 : decode cL_book 198 = .ok (.iastore, 1) := by decide +kernel
theorem dL_book_199 : decode cL_book 199 = .ok (.astore 9, 2) := by decide +kernel
theorem dL_book_201 : decode cL_book 201 = .ok (.aload_n 2, 1) := by decide +kernel
theorem dL_book_202 : decode cL_book 202 = .ok (.aload 9, 2) := by decide +kernel
theorem dL_book_204 : decode cL_book 204 = .ok (.iload 5, 2) := by decide +kernel
theorem dL_book_206 : decode cL_book 206 = .ok (.invokestatic 119, 3) := by decide +kernel
theorem dL_book_209 : decode cL_book 209 = .ok (.invokevirtual 37, 3) := by decide +kernel
theorem dL_book_212 : decode cL_book 212 = .ok (.ldc 123, 2) := by decide +kernel
theorem dL_book_214 : decode cL_book 214 = .ok (.invokevirtual 37, 3) := by decide +kernel
theorem dL_book_217 : decode cL_book 217 = .ok (.pop, 1) := by decide +kernel
theorem dL_book_218 : decode cL_book 218 = .ok (.aload_n 3, 1) := by decide +kernel
theorem dL_book_219 : decode cL_book 219 = .ok (.aload_n 3, 1) := by decide +kernel
theorem dL_book_220 : decode cL_book 220 = .ok (.getfield 125, 3) := by decide +kernel
theorem dL_book_223 : decode cL_book 223 = .ok (.aload 9, 2) := by decide +kernel
theorem dL_book_225 : decode cL_book 225 = .ok (.invokestatic 129, 3) := by decide +kernel
theorem dL_book_228 : decode cL_book 228 = .ok (.putfield 125, 3) := by decide +kernel
theorem dL_book_231 : decode cL_book 231 = .ok (.iinc 5 1, 3) := by decide +kernel
theorem dL_book_234 : decode cL_book 234 = .ok (.goto (-155), 3) := by decide +kernel
theorem dL_book_237 : decode cL_book 237 = .ok (.iload 4, 2) := by decide +kernel
theorem dL_book_239 : decode cL_book 239 = .ok (.ifCond .ne 7, 3) := by decide +kernel
theorem dL_book_242 : decode cL_book 242 = .ok (.iconst 0, 1) := by decide +kernel
theorem dL_book_243 : decode cL_book 243 = .ok (.goto 14, 3) := by decide +kernel
theorem dL_book_246 : decode cL_book 246 = .ok (.aload_n 0, 1) := by decide +kernel
theorem dL_book_247 : decode cL_book 247 = .ok (.bipush 14, 2) := by decide +kernel
theorem dL_book_249 : decode cL_book 249 = .ok (.invokestatic 103, 3) := by decide +kernel
theorem dL_book_252 : decode cL_book 252 = .ok (.bipush 6, 2) := by decide +kernel
theorem dL_book_254 : decode cL_book 254 = .ok (.invokestatic 107, 3) := by decide +kernel
theorem dL_book_257 : decode cL_book 257 = .ok (.istore 5, 2) := by decide +kernel
theorem dL_book_259 : decode cL_book 259 = .ok (.iload 5, 2) := by decide +kernel
theorem dL_book_261 : decode cL_book 261 = .ok (.ifCond .le 161, 3) := by decide +kernel
theorem dL_book_264 : decode cL_book 264 = .ok (.aload_n 0, 1) := by decide +kernel
theorem dL_book_265 : decode cL_book 265 = .ok (.bipush 15, 2) := by decide +kernel
theorem dL_book_267 : decode cL_book 267 = .ok (.invokestatic 103, 3) := by decide +kernel
theorem dL_book_270 : decode cL_book 270 = .ok (.iload 5, 2) := by decide +kernel
theorem dL_book_272 : decode cL_book 272 = .ok (.ishr, 1) := by decide +kernel
theorem dL_book_273 : decode cL_book 273 = .ok (.bipush 61, 2) := by decide +kernel
theorem dL_book_275 : decode cL_book 275 = .ok (.iload 5, 2) := by decide +kernel
theorem dL_book_277 : decode cL_book 277 = .ok (.imul, 1) := by decide +kernel
theorem dL_book_278 : decode cL_book 278 = .ok (.iadd, 1) := by decide +kernel
theorem dL_book_279 : decode cL_book 279 = .ok (.istore 6, 2) := by decide +kernel
theorem dL_book_281 : decode cL_book 281 = .ok (.bipush 6, 2) := by decide +kernel
theorem dL_book_283 : decode cL_book 283 = .ok (.newarray .int, 2) := by decide +kernel
theorem dL_book_285 : decode cL_book 285 = .ok (.dup, 1) := by decide +kernel
theorem dL_book_286 : decode cL_book 286 = .ok (.iconst 0, 1) := by decide +kernel
theorem dL_book_287 : decode cL_book 287 = .ok (.iconst 1, 1) := by decide +kernel
theorem dL_book_288 : decode cL_book 288 = .ok (.iload 6, 2) := by decide +kernel
theorem dL_book_290 : decode cL_book 290 = .ok (.iconst 2, 1) := by decide +kernel
theorem dL_book_291 : decode cL_book 291 = .ok (.invokestatic 107, 3) := by decide +kernel
theorem dL_book_294 : decode cL_book 294 = .ok (.iadd, 1) := by decide +kernel
theorem dL_book_295 : decode cL_book 295 = .ok (.iastore, 1) := by decide +kernel
theorem dL_book_296 : decode cL_book 296 = .ok (.dup, 1) := by decide +kernel
theorem dL_book_297 : decode cL_book 297 = .ok (.iconst 1, 1) := by decide +kernel
theorem dL_book_298 : decode cL_book 298 = .ok (.iload 6, 2) := by decide +kernel
theorem dL_book_300 : decode cL_book 300 = .ok (.iconst 2, 1) := by decide +kernel
theorem dL_book_301 : decode cL_book 301 = .ok (.ishr, 1) := by decide +kernel
theorem dL_book_302 : decode cL_book 302 = .ok (.iload 4, 2) := by decide +kernel
theorem dL_book_304 : decode cL_book 304 = .ok (.invokestatic 107, 3) := by decide +kernel
theorem dL_book_307 : decode cL_book 307 = .ok (.iastore, 1) := by decide +kernel
theorem dL_book_308 : decode cL_book 308 = .ok (.dup, 1) := by decide +kernel
theorem dL_book_309 : decode cL_book 309 = .ok (.iconst 2, 1) := by decide +kernel
theorem dL_book_310 : decode cL_book 310 = .ok (.iload 6, 2) := by decide +kernel
theorem dL_book_312 : decode cL_book 312 = .ok (.iconst 4, 1) := by decide +kernel
theorem dL_book_313 : decode cL_book 313 = .ok (.ishr, 1) := by decide +kernel
theorem dL_book_314 : decode cL_book 314 = .ok (.bipush 6, 2) := by decide +kernel
theorem dL_book_316 : decode cL_book 316 = .ok (.invokestatic 107, 3) := by decide +kernel
theorem dL_book_319 : decode cL_book 319 = .ok (.iastore, 1) := by decide +kernel
theorem dL_book_320 : decode cL_book 320 = .ok (.dup, 1) := by decide +kernel
theorem dL_book_321 : decode cL_book 321 = .ok (.iconst 3, 1) := by decide +kernel
theorem dL_book_322 : decode cL_book 322 = .ok (.iload 6, 2) := by decide +kernel
theorem dL_book_324 : decode cL_book 324 = .ok (.iconst 3, 1) := by decide +kernel
theorem dL_book_325 : decode cL_book 325 = .ok (.ishr, 1) := by decide +kernel
theorem dL_book_326 : decode cL_book 326 = .ok (.bipush 21, 2) := by decide +kernel
theorem dL_book_328 : decode cL_book 328 = .ok (.invokestatic 107, 3) := by decide +kernel
theorem dL_book_331 : decode cL_book 331 = .ok (.iastore, 1) := by decide +kernel
theorem dL_book_332 : decode cL_book 332 = .ok (.dup, 1) := by decide +kernel
theorem dL_book_333 : decode cL_book 333 = .ok (.iconst 4, 1) := by decide +kernel
theorem dL_book_334 : decode cL_book 334 = .ok (.iload 6, 2) := by decide +kernel
theorem dL_book_336 : decode cL_book 336 = .ok (.iconst 5, 1) := by decide +kernel
theorem dL_book_337 : decode cL_book 337 = .ok (.ishr, 1) := by decide +kernel
theorem dL_book_338 : decode cL_book 338 = .ok (.iload 4, 2) := by decide +kernel
theorem dL_book_340 : decode cL_book 340 = .ok (.invokestatic 107, 3) := by decide +kernel
theorem dL_book_343 : decode cL_book 343 = .ok (.iastore, 1) := by decide +kernel
theorem dL_book_344 : decode cL_book 344 = .ok (.dup, 1) := by decide +kernel
theorem dL_book_345 : decode cL_book 345 = .ok (.iconst 5, 1) := by decide +kernel
theorem dL_book_346 : decode cL_book 346 = .ok (.iload 6, 2) := by decide +kernel
theorem dL_book_348 : decode cL_book 348 = .ok (.bipush 6, 2) := by decide +kernel
theorem dL_book_350 : decode cL_book 350 = .ok (.ishr, 1) := by decide +kernel
theorem dL_book_351 : decode cL_book 351 = .ok (.bipush 8, 2) := by decide +kernel
theorem dL_book_353 : decode cL_book 353 = .ok (.invokestatic 107, 3) := by decide +kernel
theorem dL_book_356 : decode cL_book 356 = .ok (.iastore, 1) := by decide +kernel
theorem dL_book_357 : decode cL_book 357 = .ok (.astore 7, 2) := by decide +kernel
theorem dL_book_359 : decode cL_book 359 = .ok (.aload_n 2, 1) := by decide +kernel
theorem dL_book_360 : decode cL_book 360 = .ok (.aload 7, 2) := by decide +kernel
theorem dL_book_362 : decode cL_book 362 = .ok (.iconst 0, 1) := by decide +kernel
theorem dL_book_363 : decode cL_book 363 = .ok (.iaload, 1) := by decide +kernel
theorem dL_book_364 : decode cL_book 364 = .ok (.iconst 1, 1) := by decide +kernel
theorem dL_book_365 : decode cL_book 365 = .ok (.if_icmp .ne 8, 3) := by decide +kernel
theorem dL_book_368 : decode cL_book 368 = .ok (.ldc 133, 2) := by decide +kernel
theorem dL_book_370 : decode cL_book 370 = .ok (.goto 5, 3) := by decide +kernel
theorem dL_book_373 : decode cL_book 373 = .ok (.ldc 135, 2) := by decide +kernel
theorem dL_book_375 : decode cL_book 375 = .ok (.invokevirtual 37, 3) := by decide +kernel
theorem dL_book_378 : decode cL_book 378 = .ok (.aload 7, 2) := by decide +kernel
theorem dL_book_380 : decode cL_book 380 = .ok (.iconst 1, 1) := by decide +kernel
theorem dL_book_381 : decode cL_book 381 = .ok (.iaload, 1) := by decide +kernel
theorem dL_book_382 : decode cL_book 382 = .ok (.invokevirtual 41, 3) := by decide +kernel
theorem dL_book_385 : decode cL_book 385 = .ok (.aload 7, 2) := by decide +kernel
theorem dL_book_387 : decode cL_book 387 = .ok (.aload_n 3, 1) := by decide +kernel
theorem dL_book_388 : decode cL_book 388 = .ok (.getfield 111, 3) := by decide +kernel
theorem dL_book_391 : decode cL_book 391 = .ok (.invokestatic 137, 3) := by decide +kernel
theorem dL_book_394 : decode cL_book 394 = .ok (.invokevirtual 37, 3) := by decide +kernel
theorem dL_book_397 : decode cL_book 397 = .ok (.ldc 123, 2) := by decide +kernel
theorem dL_book_399 : decode cL_book 399 = .ok (.invokevirtual 37, 3) := by decide +kernel
theorem dL_book_402 : decode cL_book 402 = .ok (.pop, 1) := by decide +kernel
theorem dL_book_403 : decode cL_book 403 = .ok (.aload_n 3, 1) := by decide +kernel
theorem dL_book_404 : decode cL_book 404 = .ok (.aload_n 3, 1) := by decide +kernel
theorem dL_book_405 : decode cL_book 405 = .ok (.getfield 140, 3) := by decide +kernel
theorem dL_book_408 : decode cL_book 408 = .ok (.aload 7, 2) := by decide +kernel
theorem dL_book_410 : decode cL_book 410 = .ok (.invokestatic 129, 3) := by decide +kernel
theorem dL_book_413 : decode cL_book 413 = .ok (.putfield 140, 3) := by decide +kernel
theorem dL_book_416 : decode cL_book 416 = .ok (.iinc 5 (-1), 3) := by decide +kernel
theorem dL_book_419 : decode cL_book 419 = .ok (.goto (-160), 3) := by decide +kernel
theorem dL_book_422 : decode cL_book 422 = .ok (.aload_n 3, 1) := by decide +kernel
theorem dL_book_423 : decode cL_book 423 = .ok (.areturn, 1) := by decide +kernel
theorem dL_act_0 : decode cL_act 0 = .ok (.aload_n 1, 1) := by decide +kernel
theorem dL_act_1 : decode cL_act 1 = .ok (.getfield 125, 3) := by decide +kernel
theorem dL_act_4 : decode cL_act 4 = .ok (.arraylength, 1) := by decide +kernel
theorem dL_act_5 : decode cL_act 5 = .ok (.ifCond .eq 11, 3) := by decide +kernel
theorem dL_act_8 : decode cL_act 8 = .ok (.iload_n 2, 1) := by decide +kernel
theorem dL_act_9 : decode cL_act 9 = .ok (.iconst 3, 1) := by decide +kernel
theorem dL_act_10 : decode cL_act 10 = .ok (.invokestatic 107, 3) := by decide +kernel
theorem dL_act_13 : decode cL_act 13 = .ok (.ifCond .ne 59, 3) := by decide +kernel
theorem dL_act_16 : decode cL_act 16 = .ok (.iconst 1, 1) := by decide +kernel
theorem dL_act_17 : decode cL_act 17 = .ok (.iload_n 2, 1) := by decide +kernel
theorem dL_act_18 : decode cL_act 18 = .ok (.iconst 4, 1) := by decide +kernel
theorem dL_act_19 : decode cL_act 19 = .ok (.ishr, 1) := by decide +kernel
theorem dL_act_20 : decode cL_act 20 = .ok (.iconst 3, 1) := by decide +kernel
theorem dL_act_21 : decode cL_act 21 = .ok (.invokestatic 107, 3) := by decide +kernel
theorem dL_act_24 : decode cL_act 24 = .ok (.iadd, 1) := by decide +kernel
theorem dL_act_25 : decode cL_act 25 = .ok (.istore_n 3, 1) := by decide +kernel
theorem dL_act_26 : decode cL_act 26 = .ok (.aload_n 1, 1) := by decide +kernel
theorem dL_act_27 : decode cL_act 27 = .ok (.getfield 143, 3) := by decide +kernel
theorem dL_act_30 : decode cL_act 30 = .ok (.istore 4, 2) := by decide +kernel
theorem dL_act_32 : decode cL_act 32 = .ok (.iconst 0, 1) := by decide +kernel
theorem dL_act_33 : decode cL_act 33 = .ok (.istore 5, 2) := by decide +kernel
theorem dL_act_35 : decode cL_act 35 = .ok (.iload 5, 2) := by decide +kernel
theorem dL_act_37 : decode cL_act 37 = .ok (.iload_n 3, 1) := by decide +kernel
theorem dL_act_38 : decode cL_act 38 = .ok (.if_icmp .ge 13, 3) := by decide +kernel
theorem dL_act_41 : decode cL_act 41 = .ok (.aload_n 1, 1) := by decide +kernel
theorem dL_act_42 : decode cL_act 42 = .ok (.invokevirtual 146, 3) := by decide +kernel
theorem dL_act_45 : decode cL_act 45 = .ok (.iinc 5 1, 3) := by decide +kernel
theorem dL_act_48 : decode cL_act 48 = .ok (.goto (-13), 3) := by decide +kernel
theorem dL_act_51 : decode cL_act 51 = .ok (.aload_n 0, 1) := by decide +kernel
theorem dL_act_52 : decode cL_act 52 = .ok (.iload_n 3, 1) := by decide +kernel
theorem dL_act_53 : decode cL_act 53 = .ok (.invokevirtual 149, 3) := by decide +kernel
theorem dL_act_56 : decode cL_act 56 = .ok (.aload_n 1, 1) := by decide +kernel
theorem dL_act_57 : decode cL_act 57 = .ok (.getfield 143, 3) := by decide +kernel
theorem dL_act_60 : decode cL_act 60 = .ok (.iload 4, 2) := by decide +kernel
theorem dL_act_62 : decode cL_act 62 = .ok (.isub, 1) := by decide +kernel
theorem dL_act_63 : decode cL_act 63 = .ok (.if_icmp .ne 7, 3) := by decide +kernel
theorem dL_act_66 : decode cL_act 66 = .ok (.iconst 1, 1) := by decide +kernel
theorem dL_act_67 : decode cL_act 67 = .ok (.goto 4, 3) := by decide +kernel
theorem dL_act_70 : decode cL_act 70 = .ok (.iconst 0, 1) := by decide +kernel
theorem dL_act_71 : decode cL_act 71 = .ok (.ireturn, 1) := by decide +kernel
theorem dL_act_72 : decode cL_act 72 = .ok (.iload_n 2, 1) := by decide +kernel
theorem dL_act_73 : decode cL_act 73 = .ok (.iconst 3, 1) := by decide +kernel
theorem dL_act_74 : decode cL_act 74 = .ok (.ishr, 1) := by decide +kernel
theorem dL_act_75 : decode cL_act 75 = .ok (.aload_n 1, 1) := by decide +kernel
theorem dL_act_76 : decode cL_act 76 = .ok (.getfield 125, 3) := by decide +kernel
theorem dL_act_79 : decode cL_act 79 = .ok (.arraylength, 1) := by decide +kernel
theorem dL_act_80 : decode cL_act 80 = .ok (.invokestatic 107, 3) := by decide +kernel
theorem dL_act_83 : decode cL_act 83 = .ok (.istore_n 3, 1) := by decide +kernel
theorem dL_act_84 : decode cL_act 84 = .ok (.iload_n 2, 1) := by decide +kernel
theorem dL_act_85 : decode cL_act 85 = .ok (.bipush 6, 2) := by decide +kernel
theorem dL_act_87 : decode cL_act 87 = .ok (.ishr, 1) := by decide +kernel
theorem dL_act_88 : decode cL_act 88 = .ok (.iconst 2, 1) := by decide +kernel
theorem dL_act_89 : decode cL_act 89 = .ok (.invokestatic 107, 3) := by decide +kernel
theorem dL_act_92 : decode cL_act 92 = .ok (.ifCond .ne 7, 3) := by decide +kernel
theorem dL_act_95 : decode cL_act 95 = .ok (.iconst 1, 1) := by decide +kernel
theorem dL_act_96 : decode cL_act 96 = .ok (.goto 4, 3) := by decide +kernel
theorem dL_act_99 : decode cL_act 99 = .ok (.iconst 0, 1) := by decide +kernel
theorem dL_act_100 : decode cL_act 100 = .ok (.istore 4, 2) := by decide +kernel
theorem dL_act_102 : decode cL_act 102 = .ok (.aload_n 1, 1) := by decide +kernel
theorem dL_act_103 : decode cL_act 103 = .ok (.getfield 125, 3) := by decide +kernel
theorem dL_act_106 : decode cL_act 106 = .ok (.iload_n 3, 1) := by decide +kernel
theorem dL_act_107 : decode cL_act 107 = .ok (.aaload, 1) := by decide +kernel
theorem dL_act_108 : decode cL_act 108 = .ok (.iconst 3, 1) := by decide +kernel
theorem dL_act_109 : decode cL_act 109 = .ok (.iaload, 1) := by decide +kernel
theorem dL_act_110 : decode cL_act 110 = .ok (.iload 4, 2) := by decide +kernel
theorem dL_act_112 : decode cL_act 112 = .ok (.ifCond .eq 7, 3) := by decide +kernel
theorem dL_act_115 : decode cL_act 115 = .ok (.iconst 1, 1) := by decide +kernel
theorem dL_act_116 : decode cL_act 116 = .ok (.goto 4, 3) := by decide +kernel
theorem dL_act_119 : decode cL_act 119 = .ok (.iconst 0, 1) := by decide +kernel
theorem dL_act_120 : decode cL_act 120 = .ok (.if_icmp .ne 7, 3) := by decide +kernel
theorem dL_act_123 : decode cL_act 123 = .ok (.iconst 1, 1) := by decide +kernel
theorem dL_act_124 : decode cL_act 124 = .ok (.goto 4, 3) := by decide +kernel
theorem dL_act_127 : decode cL_act 127 = .ok (.iconst 0, 1) := by decide +kernel
theorem dL_act_128 : decode cL_act 128 = .ok (.istore 5, 2) := by decide +kernel
theorem dL_act_130 : decode cL_act 130 = .ok (.iload 5, 2) := by decide +kernel
theorem dL_act_132 : decode cL_act 132 = .ok (.ifCond .eq 21, 3) := by decide +kernel
theorem dL_act_135 : decode cL_act 135 = .ok (.aload_n 1, 1) := by decide +kernel
theorem dL_act_136 : decode cL_act 136 = .ok (.getfield 125, 3) := by decide +kernel
theorem dL_act_139 : decode cL_act 139 = .ok (.iload_n 3, 1) := by decide +kernel
theorem dL_act_140 : decode cL_act 140 = .ok (.aaload, 1) := by decide +kernel
theorem dL_act_141 : decode cL_act 141 = .ok (.iconst 3, 1) := by decide +kernel
theorem dL_act_142 : decode cL_act 142 = .ok (.iload 4, 2) := by decide +kernel
theorem dL_act_144 : decode cL_act 144 = .ok (.ifCond .eq 7, 3) := by decide +kernel
theorem dL_act_147 : decode cL_act 147 = .ok (.iconst 0, 1) := by decide +kernel
theorem dL_act_148 : decode cL_act 148 = .ok (.goto 4, 3) := by decide +kernel
theorem dL_act_151 : decode cL_act 151 = .ok (.iconst 1, 1) := by decide +kernel
theorem dL_act_152 : decode cL_act 152 = .ok (.iastore, 1) := by decide +kernel
theorem dL_act_153 : decode cL_act 153 = .ok (.iload 4, 2) := by decide +kernel
theorem dL_act_155 : decode cL_act 155 = .ok (.ifCond .eq 11, 3) := by decide +kernel
theorem dL_act_158 : decode cL_act 158 = .ok (.aload_n 0, 1) := by decide +kernel
theorem dL_act_159 : decode cL_act 159 = .ok (.iload_n 3, 1) := by decide +kernel
theorem dL_act_160 : decode cL_act 160 = .ok (.invokevirtual 152, 3) := by decide +kernel
theorem dL_act_163 : decode cL_act 163 = .ok (.goto 8, 3) := by decide +kernel
theorem dL_act_166 : decode cL_act 166 = .ok (.aload_n 0, 1) := by decide +kernel
theorem dL_act_167 : decode cL_act 167 = .ok (.iload_n 3, 1) := by decide +kernel
theorem dL_act_168 : decode cL_act 168 = .ok (.invokevirtual 155, 3) := by decide +kernel
theorem dL_act_171 : decode cL_act 171 = .ok (.aload_n 1, 1) := by decide +kernel
theorem dL_act_172 : decode cL_act 172 = .ok (.invokevirtual 158, 3) := by decide +kernel
theorem dL_act_175 : decode cL_act 175 = .ok (.if_icmp .ne 12, 3) := by decide +kernel
theorem dL_act_178 : decode cL_act 178 = .ok (.iload 5, 2) := by decide +kernel
theorem dL_act_180 : decode cL_act 180 = .ok (.ifCond .eq 7, 3) := by decide +kernel
theorem dL_act_183 : decode cL_act 183 = .ok (.iconst 1, 1) := by decide +kernel
theorem dL_act_184 : decode cL_act 184 = .ok (.goto 4, 3) := by decide +kernel
theorem dL_act_187 : decode cL_act 187 = .ok (.iconst 0, 1) := by decide +kernel
theorem dL_act_188 : decode cL_act 188 = .ok (.ireturn, 1) := by decide +kernel
theorem dL_act_189 : decode cL_act 189 = .ok (.astore 6, 2) := by decide +kernel
theorem dL_act_191 : decode cL_act 191 = .ok (.iload 5, 2) := by decide +kernel
theorem dL_act_193 : decode cL_act 193 = .ok (.ifCond .ne 7, 3) := by decide +kernel
theorem dL_act_196 : decode cL_act 196 = .ok (.iconst 1, 1) := by decide +kernel
theorem dL_act_197 : decode cL_act 197 = .ok (.goto 4, 3) := by decide +kernel
theorem dL_act_200 : decode cL_act 200 = .ok (.iconst 0, 1) := by decide +kernel
theorem dL_act_201 : decode cL_act 201 = .ok (.ireturn, 1) := by decide +kernel
theorem dL_law_0 : decode cL_law 0 = .ok (.new 32, 3) := by decide +kernel
theorem dL_law_3 : decode cL_law 3 = .ok (.dup, 1) := by decide +kernel
theorem dL_law_4 : decode cL_law 4 = .ok (.invokespecial 34, 3) := by decide +kernel
theorem dL_law_7 : decode cL_law 7 = .ok (.astore_n 1, 1) := by decide +kernel
theorem dL_law_8 : decode cL_law 8 = .ok (.aload_n 0, 1) := by decide +kernel
theorem dL_law_9 : decode cL_law 9 = .ok (.iconst 5, 1) := by decide +kernel
theorem dL_law_10 : decode cL_law 10 = .ok (.aload_n 1, 1) := by decide +kernel
theorem dL_law_11 : decode cL_law 11 = .ok (.invokestatic 163, 3) := by decide +kernel
theorem dL_law_14 : decode cL_law 14 = .ok (.astore_n 2, 1) := by decide +kernel
theorem dL_law_15 : decode cL_law 15 = .ok (.new 10, 3) := by decide +kernel
theorem dL_law_18 : decode cL_law 18 = .ok (.dup, 1) := by decide +kernel
theorem dL_law_19 : decode cL_law 19 = .ok (.invokespecial 167, 3) := by decide +kernel
theorem dL_law_22 : decode cL_law 22 = .ok (.astore_n 3, 1) := by decide +kernel
theorem dL_law_23 : decode cL_law 23 = .ok (.aload_n 3, 1) := by decide +kernel
theorem dL_law_24 : decode cL_law 24 = .ok (.aload_n 1, 1) := by decide +kernel
theorem dL_law_25 : decode cL_law 25 = .ok (.invokevirtual 48, 3) := by decide +kernel
theorem dL_law_28 : decode cL_law 28 = .ok (.invokestatic 168, 3) := by decide +kernel
theorem dL_law_31 : decode cL_law 31 = .ok (.ifCond .eq 5, 3) := by decide +kernel
theorem dL_law_34 : decode cL_law 34 = .ok (.iconst 0, 1) := by decide +kernel
theorem dL_law_35 : decode cL_law 35 = .ok (.ireturn, 1) := by decide +kernel
theorem dL_law_36 : decode cL_law 36 = .ok (.iconst 2, 1) := by decide +kernel
theorem dL_law_37 : decode cL_law 37 = .ok (.aload_n 3, 1) := by decide +kernel
theorem dL_law_38 : decode cL_law 38 = .ok (.invokevirtual 172, 3) := by decide +kernel
theorem dL_law_41 : decode cL_law 41 = .ok (.imul, 1) := by decide +kernel
theorem dL_law_42 : decode cL_law 42 = .ok (.istore 4, 2) := by decide +kernel
theorem dL_law_44 : decode cL_law 44 = .ok (.iconst 0, 1) := by decide +kernel
theorem dL_law_45 : decode cL_law 45 = .ok (.istore 5, 2) := by decide +kernel
theorem dL_law_47 : decode cL_law 47 = .ok (.iload 5, 2) := by decide +kernel
theorem dL_law_49 : decode cL_law 49 = .ok (.bipush 6, 2) := by decide +kernel
theorem dL_law_51 : decode cL_law 51 = .ok (.if_icmp .ge 1266, 3) := by decide +kernel
theorem dL_law_54 : decode cL_law 54 = .ok (.aload_n 0, 1) := by decide +kernel
theorem dL_law_55 : decode cL_law 55 = .ok (.iload 5, 2) := by decide +kernel
theorem dL_law_57 : decode cL_law 57 = .ok (.iconst 2, 1) := by decide +kernel
theorem dL_law_58 : decode cL_law 58 = .ok (.iadd, 1) := by decide +kernel
theorem dL_law_59 : decode cL_law 59 = .ok (.invokestatic 103, 3) := by decide +kernel
theorem dL_law_62 : decode cL_law 62 = .ok (.iconst 1, 1) := by decide +kernel
theorem dL_law_63 : decode cL_law 63 = .ok (.ishr, 1) := by decide +kernel
theorem dL_law_64 : decode cL_law 64 = .ok (.bipush 67, 2) := by decide +kernel
theorem dL_law_66 : decode cL_law 66 = .ok (.iload 5, 2) := by decide +kernel
theorem dL_law_68 : decode cL_law 68 = .ok (.imul, 1) := by decide +kernel
theorem dL_law_69 : decode cL_law 69 = .ok (.iadd, 1) := by decide +kernel
theorem dL_law_70 : decode cL_law 70 = .ok (.istore 6, 2) := by decide +kernel
theorem dL_law_72 : decode cL_law 72 = .ok (.aload_n 3, 1) := by decide +kernel
theorem dL_law_73 : decode cL_law 73 = .ok (.aload_n 2, 1) := by decide +kernel
theorem dL_law_74 : decode cL_law 74 = .ok (.iload 6, 2) := by decide +kernel
theorem dL_law_76 : decode cL_law 76 = .ok (.invokestatic 174, 3) := by decide +kernel
theorem dL_law_79 : decode cL_law 79 = .ok (.ifCond .ne 5, 3) := by decide +kernel
theorem dL_law_82 : decode cL_law 82 = .ok (.iconst 0, 1) := by decide +kernel
theorem dL_law_83 : decode cL_law 83 = .ok (.ireturn, 1) := by decide +kernel
theorem dL_law_84 : decode cL_law 84 = .ok (.aload_n 3, 1) := by decide +kernel
theorem dL_law_85 : decode cL_law 85 = .ok (.invokevirtual 178, 3) := by decide +kernel
theorem dL_law_88 : decode cL_law 88 = .ok (.lstore 7, 2) := by decide +kernel
theorem dL_law_90 : decode cL_law 90 = .ok (.aload_n 3, 1) := by decide +kernel
theorem dL_law_91 : decode cL_law 91 = .ok (.invokevirtual 182, 3) := by decide +kernel
theorem dL_law_94 : decode cL_law 94 = .ok (.istore 9, 2) := by decide +kernel
theorem dL_law_96 : decode cL_law 96 = .ok (.iconst 0, 1) := by decide +kernel
theorem dL_law_97 : decode cL_law 97 = .ok (.istore 10, 2) := by decide +kernel
theorem dL_law_99 : decode cL_law 99 = .ok (.iconst 0, 1) := by decide +kernel
theorem dL_law_100 : decode cL_law 100 = .ok (.istore 11, 2) := by decide +kernel
theorem dL_law_102 : decode cL_law 102 = .ok (.iconst 0, 1) := by decide +kernel
theorem dL_law_103 : decode cL_law 103 = .ok (.istore 12, 2) := by decide +kernel
theorem dL_law_105 : decode cL_law 105 = .ok (.iload 12, 2) := by decide +kernel
theorem dL_law_107 : decode cL_law 107 = .ok (.iload 4, 2) := by decide +kernel
theorem dL_law_109 : decode cL_law 109 = .ok (.if_icmp .ge 417, 3) := by decide +kernel
theorem dL_law_112 : decode cL_law 112 = .ok (.iconst 0, 1) := by decide +kernel
theorem dL_law_113 : decode cL_law 113 = .ok (.istore 13, 2) := by decide +kernel
theorem dL_law_115 : decode cL_law 115 = .ok (.iload 10, 2) := by decide +kernel
theorem dL_law_117 : decode cL_law 117 = .ok (.aload_n 3, 1) := by decide +kernel
theorem dL_law_118 : decode cL_law 118 = .ok (.iload 12, 2) := by decide +kernel
theorem dL_law_120 : decode cL_law 120 = .ok (.invokevirtual 185, 3) := by decide +kernel
theorem dL_law_123 : decode cL_law 123 = .ok (.iload 12, 2) := by decide +kernel
theorem dL_law_125 : decode cL_law 125 = .ok (.if_icmp .ne 7, 3) := by decide +kernel
theorem dL_law_128 : decode cL_law 128 = .ok (.iconst 1, 1) := by decide +kernel
theorem dL_law_129 : decode cL_law 129 = .ok (.goto 4, 3) := by decide +kernel
theorem dL_law_132 : decode cL_law 132 = .ok (.iconst 0, 1) := by decide +kernel
theorem dL_law_133 : decode cL_law 133 = .ok (.iadd, 1) := by decide +kernel
theorem dL_law_134 : decode cL_law 134 = .ok (.istore 10, 2) := by decide +kernel
theorem dL_law_136 : decode cL_law 136 = .ok (.iload 11, 2) := by decide +kernel
theorem dL_law_138 : decode cL_law 138 = .ok (.iload 12, 2) := by decide +kernel
theorem dL_law_140 : decode cL_law 140 = .ok (.iconst 2, 1) := by decide +kernel
theorem dL_law_141 : decode cL_law 141 = .ok (.irem, 1) := by decide +kernel
theorem dL_law_142 : decode cL_law 142 = .ok (.ifCond .ne 12, 3) := by decide +kernel
theorem dL_law_145 : decode cL_law 145 = .ok (.aload_n 3, 1) := by decide +kernel
theorem dL_law_146 : decode cL_law 146 = .ok (.iload 12, 2) := by decide +kernel
theorem dL_law_148 : decode cL_law 148 = .ok (.invokevirtual 188, 3) := by decide +kernel
theorem dL_law_151 : decode cL_law 151 = .ok (.goto 4, 3) := by decide +kernel
theorem dL_law_154 : decode cL_law 154 = .ok (.iconst 0, 1) := by decide +kernel
theorem dL_law_155 : decode cL_law 155 = .ok (.iadd, 1) := by decide +kernel
theorem dL_law_156 : decode cL_law 156 = .ok (.istore 11, 2) := by decide +kernel
theorem dL_law_158 : decode cL_law 158 = .ok (.aload_n 3, 1) := by decide +kernel
theorem dL_law_159 : decode cL_law 159 = .ok (.iload 12, 2) := by decide +kernel
theorem dL_law_161 : decode cL_law 161 = .ok (.iload 12, 2) := by decide +kernel
theorem dL_law_163 : decode cL_law 163 = .ok (.invokevirtual 191, 3) := by decide +kernel
theorem dL_law_166 : decode cL_law 166 = .ok (.ifCond .eq 134, 3) := by decide +kernel
theorem dL_law_169 : decode cL_law 169 = .ok (.aload_n 3, 1) := by decide +kernel
theorem dL_law_170 : decode cL_law 170 = .ok (.iload 12, 2) := by decide +kernel
theorem dL_law_172 : decode cL_law 172 = .ok (.iload 12, 2) := by decide +kernel
theorem dL_law_174 : decode cL_law 174 = .ok (.invokevirtual 195, 3) := by decide +kernel
theorem dL_law_177 : decode cL_law 177 = .ok (.ifCond .ne 123, 3) := by decide +kernel
theorem dL_law_180 : decode cL_law 180 = .ok (.aload_n 3, 1) := by decide +kernel
theorem dL_law_181 : decode cL_law 181 = .ok (.iload 12, 2) := by decide +kernel
theorem dL_law_183 : decode cL_law 183 = .ok (.invokevirtual 198, 3) := by decide +kernel
theorem dL_law_186 : decode cL_law 186 = .ok (.aload_n 3, 1) := by decide +kernel
theorem dL_law_187 : decode cL_law 187 = .ok (.iload 12, 2) := by decide +kernel
theorem dL_law_189 : decode cL_law 189 = .ok (.iconst 1, 1) := by decide +kernel
theorem dL_law_190 : decode cL_law 190 = .ok (.ixor, 1) := by decide +kernel
theorem dL_law_191 : decode cL_law 191 = .ok (.invokevirtual 198, 3) := by decide +kernel
theorem dL_law_194 : decode cL_law 194 = .ok (.if_icmp .ne 106, 3) := by decide +kernel
theorem dL_law_197 : decode cL_law 197 = .ok (.aload_n 3, 1) := by decide +kernel
theorem dL_law_198 : decode cL_law 198 = .ok (.aload_n 3, 1) := by decide +kernel
theorem dL_law_199 : decode cL_law 199 = .ok (.iload 12, 2) := by decide +kernel
theorem dL_law_201 : decode cL_law 201 = .ok (.invokevirtual 185, 3) := by decide +kernel
theorem dL_law_204 : decode cL_law 204 = .ok (.invokevirtual 185, 3) := by decide +kernel
theorem dL_law_207 : decode cL_law 207 = .ok (.aload_n 3, 1) := by decide +kernel
theorem dL_law_208 : decode cL_law 208 = .ok (.iload 12, 2) := by decide +kernel
theorem dL_law_210 : decode cL_law 210 = .ok (.invokevirtual 185, 3) := by decide +kernel
theorem dL_law_213 : decode cL_law 213 = .ok (.if_icmp .ne 87, 3) := by decide +kernel
theorem dL_law_216 : decode cL_law 216 = .ok (.aload_n 3, 1) := by decide +kernel
theorem dL_law_217 : decode cL_law 217 = .ok (.iload 12, 2) := by decide +kernel
theorem dL_law_219 : decode cL_law 219 = .ok (.invokevirtual 185, 3) := by decide +kernel
theorem dL_law_222 : decode cL_law 222 = .ok (.iload 12, 2) := by decide +kernel
theorem dL_law_224 : decode cL_law 224 = .ok (.if_icmp .gt 76, 3) := by decide +kernel
theorem dL_law_227 : decode cL_law 227 = .ok (.aload_n 3, 1) := by decide +kernel
theorem dL_law_228 : decode cL_law 228 = .ok (.iload 12, 2) := by decide +kernel
theorem dL_law_230 : decode cL_law 230 = .ok (.invokevirtual 188, 3) := by decide +kernel
theorem dL_law_233 : decode cL_law 233 = .ok (.aload_n 3, 1) := by decide +kernel
theorem dL_law_234 : decode cL_law 234 = .ok (.iload 12, 2) := by decide +kernel
theorem dL_law_236 : decode cL_law 236 = .ok (.iconst 1, 1) := by decide +kernel
theorem dL_law_237 : decode cL_law 237 = .ok (.ixor, 1) := by decide +kernel
theorem dL_law_238 : decode cL_law 238 = .ok (.invokevirtual 188, 3) := by decide +kernel
theorem dL_law_241 : decode cL_law 241 = .ok (.iadd, 1) := by decide +kernel
theorem dL_law_242 : decode cL_law 242 = .ok (.iload 9, 2) := by decide +kernel
theorem dL_law_244 : decode cL_law 244 = .ok (.if_icmp .ne 56, 3) := by decide +kernel
theorem dL_law_247 : decode cL_law 247 = .ok (.aload_n 3, 1) := by decide +kernel
theorem dL_law_248 : decode cL_law 248 = .ok (.iload 12, 2) := by decide +kernel
theorem dL_law_250 : decode cL_law 250 = .ok (.invokevirtual 201, 3) := by decide +kernel
theorem dL_law_253 : decode cL_law 253 = .ok (.aload_n 3, 1) := by decide +kernel
theorem dL_law_254 : decode cL_law 254 = .ok (.iload 12, 2) := by decide +kernel
theorem dL_law_256 : decode cL_law 256 = .ok (.invokevirtual 188, 3) := by decide +kernel
theorem dL_law_259 : decode cL_law 259 = .ok (.ifCond .le 7, 3) := by decide +kernel
theorem dL_law_262 : decode cL_law 262 = .ok (.iconst 1, 1) := by decide +kernel
theorem dL_law_263 : decode cL_law 263 = .ok (.goto 4, 3) := by decide +kernel
theorem dL_law_266 : decode cL_law 266 = .ok (.iconst 0, 1) := by decide +kernel
theorem dL_law_267 : decode cL_law 267 = .ok (.if_icmp .ne 33, 3) := by decide +kernel
theorem dL_law_270 : decode cL_law 270 = .ok (.iload 9, 2) := by decide +kernel
theorem dL_law_272 : decode cL_law 272 = .ok (.ifCond .le 30, 3) := by decide +kernel
theorem dL_law_275 : decode cL_law 275 = .ok (.aload_n 3, 1) := by decide +kernel
theorem dL_law_276 : decode cL_law 276 = .ok (.iload 12, 2) := by decide +kernel
theorem dL_law_278 : decode cL_law 278 = .ok (.invokevirtual 205, 3) := by decide +kernel
theorem dL_law_281 : decode cL_law 281 = .ok (.aload_n 3, 1) := by decide +kernel
theorem dL_law_282 : decode cL_law 282 = .ok (.iload 12, 2) := by decide +kernel
theorem dL_law_284 : decode cL_law 284 = .ok (.invokevirtual 188, 3) := by decide +kernel
theorem dL_law_287 : decode cL_law 287 = .ok (.iload 9, 2) := by decide +kernel
theorem dL_law_289 : decode cL_law 289 = .ok (.if_icmp .ne 7, 3) := by decide +kernel
theorem dL_law_292 : decode cL_law 292 = .ok (.iconst 1, 1) := by decide +kernel
theorem dL_law_293 : decode cL_law 293 = .ok (.goto 4, 3) := by decide +kernel
theorem dL_law_296 : decode cL_law 296 = .ok (.iconst 0, 1) := by decide +kernel
theorem dL_law_297 : decode cL_law 297 = .ok (.if_icmp .eq 5, 3) := by decide +kernel
theorem dL_law_300 : decode cL_law 300 = .ok (.iconst 0, 1) := by decide +kernel
theorem dL_law_301 : decode cL_law 301 = .ok (.ireturn, 1) := by decide +kernel
theorem dL_law_302 : decode cL_law 302 = .ok (.iconst 0, 1) := by decide +kernel
theorem dL_law_303 : decode cL_law 303 = .ok (.istore 14, 2) := by decide +kernel
theorem dL_law_305 : decode cL_law 305 = .ok (.iload 14, 2) := by decide +kernel
theorem dL_law_307 : decode cL_law 307 = .ok (.iload 4, 2) := by decide +kernel
theorem dL_law_309 : decode cL_law 309 = .ok (.if_icmp .ge 198, 3) := by decide +kernel
theorem dL_law_312 : decode cL_law 312 = .ok (.aload_n 3, 1) := by decide +kernel
theorem dL_law_313 : decode cL_law 313 = .ok (.iload 14, 2) := by decide +kernel
theorem dL_law_315 : decode cL_law 315 = .ok (.iload 12, 2) := by decide +kernel
theorem dL_law_317 : decode cL_law 317 = .ok (.invokevirtual 191, 3) := by decide +kernel
theorem dL_law_320 : decode cL_law 320 = .ok (.istore 15, 2) := by decide +kernel
theorem dL_law_322 : decode cL_law 322 = .ok (.iload 13, 2) := by decide +kernel
theorem dL_law_324 : decode cL_law 324 = .ok (.iload 15, 2) := by decide +kernel
theorem dL_law_326 : decode cL_law 326 = .ok (.ifCond .eq 7, 3) := by decide +kernel
theorem dL_law_329 : decode cL_law 329 = .ok (.iconst 1, 1) := by decide +kernel
theorem dL_law_330 : decode cL_law 330 = .ok (.goto 4, 3) := by decide +kernel
theorem dL_law_333 : decode cL_law 333 = .ok (.iconst 0, 1) := by decide +kernel
theorem dL_law_334 : decode cL_law 334 = .ok (.iadd, 1) := by decide +kernel
theorem dL_law_335 : decode cL_law 335 = .ok (.istore 13, 2) := by decide +kernel
theorem dL_law_337 : decode cL_law 337 = .ok (.iload 15, 2) := by decide +kernel
theorem dL_law_339 : decode cL_law 339 = .ok (.aload_n 3, 1) := by decide +kernel
theorem dL_law_340 : decode cL_law 340 = .ok (.iload 12, 2) := by decide +kernel
theorem dL_law_342 : decode cL_law 342 = .ok (.iconst 1, 1) := by decide +kernel
theorem dL_law_343 : decode cL_law 343 = .ok (.ixor, 1) := by decide +kernel
theorem dL_law_344 : decode cL_law 344 = .ok (.iload 14, 2) := by decide +kernel
theorem dL_law_346 : decode cL_law 346 = .ok (.iconst 1, 1) := by decide +kernel
theorem dL_law_347 : decode cL_law 347 = .ok (.ixor, 1) := by decide +kernel
theorem dL_law_348 : decode cL_law 348 = .ok (.invokevirtual 191, 3) := by decide +kernel
theorem dL_law_351 : decode cL_law 351 = .ok (.if_icmp .ne 47, 3) := by decide +kernel
theorem dL_law_354 : decode cL_law 354 = .ok (.aload_n 3, 1) := by decide +kernel
theorem dL_law_355 : decode cL_law 355 = .ok (.iload 14, 2) := by decide +kernel
theorem dL_law_357 : decode cL_law 357 = .ok (.invokevirtual 185, 3) := by decide +kernel
theorem dL_law_360 : decode cL_law 360 = .ok (.aload_n 3, 1) := by decide +kernel
theorem dL_law_361 : decode cL_law 361 = .ok (.iload 12, 2) := by decide +kernel
theorem dL_law_363 : decode cL_law 363 = .ok (.invokevirtual 185, 3) := by decide +kernel
theorem dL_law_366 : decode cL_law 366 = .ok (.if_icmp .ne 7, 3) := by decide +kernel
theorem dL_law_369 : decode cL_law 369 = .ok (.iconst 1, 1) := by decide +kernel
theorem dL_law_370 : decode cL_law 370 = .ok (.goto 4, 3) := by decide +kernel
theorem dL_law_373 : decode cL_law 373 = .ok (.iconst 0, 1) := by decide +kernel
theorem dL_law_374 : decode cL_law 374 = .ok (.iload 15, 2) := by decide +kernel
theorem dL_law_376 : decode cL_law 376 = .ok (.ifCond .eq 18, 3) := by decide +kernel
theorem dL_law_379 : decode cL_law 379 = .ok (.aload_n 3, 1) := by decide +kernel
theorem dL_law_380 : decode cL_law 380 = .ok (.iload 12, 2) := by decide +kernel
theorem dL_law_382 : decode cL_law 382 = .ok (.iload 14, 2) := by decide +kernel
theorem dL_law_384 : decode cL_law 384 = .ok (.invokevirtual 191, 3) := by decide +kernel
theorem dL_law_387 : decode cL_law 387 = .ok (.ifCond .eq 7, 3) := by decide +kernel
theorem dL_law_390 : decode cL_law 390 = .ok (.iconst 1, 1) := by decide +kernel
theorem dL_law_391 : decode cL_law 391 = .ok (.goto 4, 3) := by decide +kernel
theorem dL_law_394 : decode cL_law 394 = .ok (.iconst 0, 1) := by decide +kernel
theorem dL_law_395 : decode cL_law 395 = .ok (.if_icmp .eq 5, 3) := by decide +kernel
theorem dL_law_398 : decode cL_law 398 = .ok (.iconst 0, 1) := by decide +kernel
theorem dL_law_399 : decode cL_law 399 = .ok (.ireturn, 1) := by decide +kernel
theorem dL_law_400 : decode cL_law 400 = .ok (.iload 15, 2) := by decide +kernel
theorem dL_law_402 : decode cL_law 402 = .ok (.ifCond .ne 6, 3) := by decide +kernel
theorem dL_law_405 : decode cL_law 405 = .ok (.goto 96, 3) := by decide +kernel
theorem dL_law_408 : decode cL_law 408 = .ok (.aload_n 3, 1) := by decide +kernel
theorem dL_law_409 : decode cL_law 409 = .ok (.iload 14, 2) := by decide +kernel
theorem dL_law_411 : decode cL_law 411 = .ok (.invokevirtual 188, 3) := by decide +kernel
theorem dL_law_414 : decode cL_law 414 = .ok (.aload_n 3, 1) := by decide +kernel
theorem dL_law_415 : decode cL_law 415 = .ok (.iload 12, 2) := by decide +kernel
theorem dL_law_417 : decode cL_law 417 = .ok (.invokevirtual 188, 3) := by decide +kernel
theorem dL_law_420 : decode cL_law 420 = .ok (.if_icmp .lt 39, 3) := by decide +kernel
theorem dL_law_423 : decode cL_law 423 = .ok (.aload_n 3, 1) := by decide +kernel
theorem dL_law_424 : decode cL_law 424 = .ok (.iload 14, 2) := by decide +kernel
theorem dL_law_426 : decode cL_law 426 = .ok (.iload 12, 2) := by decide +kernel
theorem dL_law_428 : decode cL_law 428 = .ok (.invokevirtual 195, 3) := by decide +kernel
theorem dL_law_431 : decode cL_law 431 = .ok (.aload_n 3, 1) := by decide +kernel
theorem dL_law_432 : decode cL_law 432 = .ok (.iload 12, 2) := by decide +kernel
theorem dL_law_434 : decode cL_law 434 = .ok (.iconst 1, 1) := by decide +kernel
theorem dL_law_435 : decode cL_law 435 = .ok (.ixor, 1) := by decide +kernel
theorem dL_law_436 : decode cL_law 436 = .ok (.iload 14, 2) := by decide +kernel
theorem dL_law_438 : decode cL_law 438 = .ok (.iconst 1, 1) := by decide +kernel
theorem dL_law_439 : decode cL_law 439 = .ok (.ixor, 1) := by decide +kernel
theorem dL_law_440 : decode cL_law 440 = .ok (.invokevirtual 195, 3) := by decide +kernel
theorem dL_law_443 : decode cL_law 443 = .ok (.if_icmp .ne 16, 3) := by decide +kernel
theorem dL_law_446 : decode cL_law 446 = .ok (.aload_n 3, 1) := by decide +kernel
theorem dL_law_447 : decode cL_law 447 = .ok (.iload 14, 2) := by decide +kernel
theorem dL_law_449 : decode cL_law 449 = .ok (.iload 12, 2) := by decide +kernel
theorem dL_law_451 : decode cL_law 451 = .ok (.invokevirtual 195, 3) := by decide +kernel
theorem dL_law_454 : decode cL_law 454 = .ok (.iload 4, 2) := by decide +kernel
theorem dL_law_456 : decode cL_law 456 = .ok (.if_icmp .lt 5, 3) := by decide +kernel
theorem dL_law_459 : decode cL_law 459 = .ok (.iconst 0, 1) := by decide +kernel
theorem dL_law_460 : decode cL_law 460 = .ok (.ireturn, 1) := by decide +kernel
theorem dL_law_461 : decode cL_law 461 = .ok (.iconst 0, 1) := by decide +kernel
theorem dL_law_462 : decode cL_law 462 = .ok (.istore 16, 2) := by decide +kernel
theorem dL_law_464 : decode cL_law 464 = .ok (.iload 16, 2) := by decide +kernel
theorem dL_law_466 : decode cL_law 466 = .ok (.iload 4, 2) := by decide +kernel
theorem dL_law_468 : decode cL_law 468 = .ok (.if_icmp .ge 33, 3) := by decide +kernel
theorem dL_law_471 : decode cL_law 471 = .ok (.aload_n 3, 1) := by decide +kernel
theorem dL_law_472 : decode cL_law 472 = .ok (.iload 16, 2) := by decide +kernel
theorem dL_law_474 : decode cL_law 474 = .ok (.iload 14, 2) := by decide +kernel
theorem dL_law_476 : decode cL_law 476 = .ok (.invokevirtual 191, 3) := by decide +kernel
theorem dL_law_479 : decode cL_law 479 = .ok (.ifCond .eq 16, 3) := by decide +kernel
theorem dL_law_482 : decode cL_law 482 = .ok (.aload_n 3, 1) := by decide +kernel
theorem dL_law_483 : decode cL_law 483 = .ok (.iload 16, 2) := by decide +kernel
theorem dL_law_485 : decode cL_law 485 = .ok (.iload 12, 2) := by decide +kernel
theorem dL_law_487 : decode cL_law 487 = .ok (.invokevirtual 191, 3) := by decide +kernel
theorem dL_law_490 : decode cL_law 490 = .ok (.ifCond .ne 5, 3) := by decide +kernel
theorem dL_law_493 : decode cL_law 493 = .ok (.iconst 0, 1) := by decide +kernel
theorem dL_law_494 : decode cL_law 494 = .ok (.ireturn, 1) := by decide +kernel
theorem dL_law_495 : decode cL_law 495 = .ok (.iinc 16 1, 3) := by decide +kernel
theorem dL_law_498 : decode cL_law 498 = .ok (.goto (-34), 3) := by decide +kernel
theorem dL_law_501 : decode cL_law 501 = .ok (.iinc 14 1, 3) := by decide +kernel
theorem dL_law_504 : decode cL_law 504 = .ok (.goto (-199), 3) := by decide +kernel
theorem dL_law_507 : decode cL_law 507 = .ok (.iload 13, 2) := by decide +kernel
theorem dL_law_509 : decode cL_law 509 = .ok (.aload_n 3, 1) := by decide +kernel
theorem dL_law_510 : decode cL_law 510 = .ok (.iload 12, 2) := by decide +kernel
theorem dL_law_512 : decode cL_law 512 = .ok (.invokevirtual 208, 3) := by decide +kernel
theorem dL_law_515 : decode cL_law 515 = .ok (.if_icmp .eq 5, 3) := by decide +kernel
theorem dL_law_518 : decode cL_law 518 = .ok (.iconst 0, 1) := by decide +kernel
theorem dL_law_519 : decode cL_law 519 = .ok (.ireturn, 1) := by decide +kernel
theorem dL_law_520 : decode cL_law 520 = .ok (.iinc 12 1, 3) := by decide +kernel
theorem dL_law_523 : decode cL_law 523 = .ok (.goto (-418), 3) := by decide +kernel
theorem dL_law_526 : decode cL_law 526 = .ok (.iload 10, 2) := by decide +kernel
theorem dL_law_528 : decode cL_law 528 = .ok (.aload_n 3, 1) := by decide +kernel
theorem dL_law_529 : decode cL_law 529 = .ok (.invokevirtual 211, 3) := by decide +kernel
theorem dL_law_532 : decode cL_law 532 = .ok (.if_icmp .ne 55, 3) := by decide +kernel
theorem dL_law_535 : decode cL_law 535 = .ok (.aload_n 3, 1) := by decide +kernel
theorem dL_law_536 : decode cL_law 536 = .ok (.invokevirtual 214, 3) := by decide +kernel
theorem dL_law_539 : decode cL_law 539 = .ok (.iload 9, 2) := by decide +kernel
theorem dL_law_541 : decode cL_law 541 = .ok (.ifCond .le 7, 3) := by decide +kernel
theorem dL_law_544 : decode cL_law 544 = .ok (.iconst 1, 1) := by decide +kernel
theorem dL_law_545 : decode cL_law 545 = .ok (.goto 4, 3) := by decide +kernel
theorem dL_law_548 : decode cL_law 548 = .ok (.iconst 0, 1) := by decide +kernel
theorem dL_law_549 : decode cL_law 549 = .ok (.if_icmp .ne 38, 3) := by decide +kernel
theorem dL_law_552 : decode cL_law 552 = .ok (.aload_n 3, 1) := by decide +kernel
theorem dL_law_553 : decode cL_law 553 = .ok (.invokevirtual 218, 3) := by decide +kernel
theorem dL_law_556 : decode cL_law 556 = .ok (.iload 9, 2) := by decide +kernel
theorem dL_law_558 : decode cL_law 558 = .ok (.ifCond .ne 7, 3) := by decide +kernel
theorem dL_law_561 : decode cL_law 561 = .ok (.dconst 0, 1) := by decide +kernel
theorem dL_law_562 : decode cL_law 562 = .ok (.goto 10, 3) := by decide +kernel
theorem dL_law_565 : decode cL_law 565 = .ok (.iload 11, 2) := by decide +kernel
theorem dL_law_567 : decode cL_law 567 = .ok (.i2d, 1) := by decide +kernel
theorem dL_law_568 : decode cL_law 568 = .ok (.iload 9, 2) := by decide +kernel
theorem dL_law_570 : decode cL_law 570 = .ok (.i2d, 1) := by decide +kernel
theorem dL_law_571 : decode cL_law 571 = .ok (.ddiv, 1) := by decide +kernel
theorem dL_law_572 : decode cL_law 572 = .ok (.dcmp .l, 1) := by decide +kernel
theorem dL_law_573 : decode cL_law 573 = .ok (.ifCond .ne 14, 3) := by decide +kernel
theorem dL_law_576 : decode cL_law 576 = .ok (.iload 9, 2) := by decide +kernel
theorem dL_law_578 : decode cL_law 578 = .ok (.iconst 1, 1) := by decide +kernel
theorem dL_law_579 : decode cL_law 579 = .ok (.aload_n 3, 1) := by decide +kernel
theorem dL_law_580 : decode cL_law 580 = .ok (.invokevirtual 172, 3) := by decide +kernel
theorem dL_law_583 : decode cL_law 583 = .ok (.ishl, 1) := by decide +kernel
theorem dL_law_584 : decode cL_law 584 = .ok (.if_icmp .le 5, 3) := by decide +kernel
theorem dL_law_587 : decode cL_law 587 = .ok (.iconst 0, 1) := by decide +kernel
theorem dL_law_588 : decode cL_law 588 = .ok (.ireturn, 1) := by decide +kernel
theorem dL_law_589 : decode cL_law 589 = .ok (.iload 9, 2) := by decide +kernel
theorem dL_law_591 : decode cL_law 591 = .ok (.ifCond .le 338, 3) := by decide +kernel
theorem dL_law_594 : decode cL_law 594 = .ok (.iconst 0, 1) := by decide +kernel
theorem dL_law_595 : decode cL_law 595 = .ok (.istore 12, 2) := by decide +kernel
theorem dL_law_597 : decode cL_law 597 = .ok (.iconst 0, 1) := by decide +kernel
theorem dL_law_598 : decode cL_law 598 = .ok (.istore 13, 2) := by decide +kernel
theorem dL_law_600 : decode cL_law 600 = .ok (.iload 13, 2) := by decide +kernel
theorem dL_law_602 : decode cL_law 602 = .ok (.aload_n 3, 1) := by decide +kernel
theorem dL_law_603 : decode cL_law 603 = .ok (.invokevirtual 172, 3) := by decide +kernel
theorem dL_law_606 : decode cL_law 606 = .ok (.if_icmp .ge 28, 3) := by decide +kernel
theorem dL_law_609 : decode cL_law 609 = .ok (.iload 12, 2) := by decide +kernel
theorem dL_law_611 : decode cL_law 611 = .ok (.aload_n 3, 1) := by decide +kernel
theorem dL_law_612 : decode cL_law 612 = .ok (.iload 13, 2) := by decide +kernel
theorem dL_law_614 : decode cL_law 614 = .ok (.invokevirtual 222, 3) := by decide +kernel
theorem dL_law_617 : decode cL_law 617 = .ok (.ifCond .eq 7, 3) := by decide +kernel
theorem dL_law_620 : decode cL_law 620 = .ok (.iconst 1, 1) := by decide +kernel
theorem dL_law_621 : decode cL_law 621 = .ok (.goto 4, 3) := by decide +kernel
theorem dL_law_624 : decode cL_law 624 = .ok (.iconst 0, 1) := by decide +kernel
theorem dL_law_625 : decode cL_law 625 = .ok (.iadd, 1) := by decide +kernel
theorem dL_law_626 : decode cL_law 626 = .ok (.istore 12, 2) := by decide +kernel
theorem dL_law_628 : decode cL_law 628 = .ok (.iinc 13 1, 3) := by decide +kernel
theorem dL_law_631 : decode cL_law 631 = .ok (.goto (-31), 3) := by decide +kernel
theorem dL_law_634 : decode cL_law 634 = .ok (.iconst 0, 1) := by decide +kernel
theorem dL_law_635 : decode cL_law 635 = .ok (.istore 13, 2) := by decide +kernel
theorem dL_law_637 : decode cL_law 637 = .ok (.iload 13, 2) := by decide +kernel
theorem dL_law_639 : decode cL_law 639 = .ok (.aload_n 3, 1) := by decide +kernel
theorem dL_law_640 : decode cL_law 640 = .ok (.invokevirtual 225, 3) := by decide +kernel
theorem dL_law_643 : decode cL_law 643 = .ok (.if_icmp .ge 165, 3) := by decide +kernel
theorem dL_law_646 : decode cL_law 646 = .ok (.aload_n 3, 1) := by decide +kernel
theorem dL_law_647 : decode cL_law 647 = .ok (.aload_n 3, 1) := by decide +kernel
theorem dL_law_648 : decode cL_law 648 = .ok (.iload 13, 2) := by decide +kernel
theorem dL_law_650 : decode cL_law 650 = .ok (.invokevirtual 227, 3) := by decide +kernel
theorem dL_law_653 : decode cL_law 653 = .ok (.iconst 2, 1) := by decide +kernel
theorem dL_law_654 : decode cL_law 654 = .ok (.idiv, 1) := by decide +kernel
theorem dL_law_655 : decode cL_law 655 = .ok (.invokevirtual 222, 3) := by decide +kernel
theorem dL_law_658 : decode cL_law 658 = .ok (.aload_n 3, 1) := by decide +kernel
theorem dL_law_659 : decode cL_law 659 = .ok (.iload 13, 2) := by decide +kernel
theorem dL_law_661 : decode cL_law 661 = .ok (.invokevirtual 227, 3) := by decide +kernel
theorem dL_law_664 : decode cL_law 664 = .ok (.iconst 2, 1) := by decide +kernel
theorem dL_law_665 : decode cL_law 665 = .ok (.irem, 1) := by decide +kernel
theorem dL_law_666 : decode cL_law 666 = .ok (.ifCond .ne 7, 3) := by decide +kernel
theorem dL_law_669 : decode cL_law 669 = .ok (.iconst 1, 1) := by decide +kernel
theorem dL_law_670 : decode cL_law 670 = .ok (.goto 4, 3) := by decide +kernel
theorem dL_law_673 : decode cL_law 673 = .ok (.iconst 0, 1) := by decide +kernel
theorem dL_law_674 : decode cL_law 674 = .ok (.if_icmp .ne 7, 3) := by decide +kernel
theorem dL_law_677 : decode cL_law 677 = .ok (.iconst 1, 1) := by decide +kernel
theorem dL_law_678 : decode cL_law 678 = .ok (.goto 4, 3) := by decide +kernel
theorem dL_law_681 : decode cL_law 681 = .ok (.iconst 0, 1) := by decide +kernel
theorem dL_law_682 : decode cL_law 682 = .ok (.istore 14, 2) := by decide +kernel
theorem dL_law_684 : decode cL_law 684 = .ok (.aload_n 3, 1) := by decide +kernel
theorem dL_law_685 : decode cL_law 685 = .ok (.aload_n 3, 1) := by decide +kernel
theorem dL_law_686 : decode cL_law 686 = .ok (.iload 13, 2) := by decide +kernel
theorem dL_law_688 : decode cL_law 688 = .ok (.invokevirtual 230, 3) := by decide +kernel
theorem dL_law_691 : decode cL_law 691 = .ok (.iconst 2, 1) := by decide +kernel
theorem dL_law_692 : decode cL_law 692 = .ok (.idiv, 1) := by decide +kernel
theorem dL_law_693 : decode cL_law 693 = .ok (.invokevirtual 222, 3) := by decide +kernel
theorem dL_law_696 : decode cL_law 696 = .ok (.aload_n 3, 1) := by decide +kernel
theorem dL_law_697 : decode cL_law 697 = .ok (.iload 13, 2) := by decide +kernel
theorem dL_law_699 : decode cL_law 699 = .ok (.invokevirtual 230, 3) := by decide +kernel
theorem dL_law_702 : decode cL_law 702 = .ok (.iconst 2, 1) := by decide +kernel
theorem dL_law_703 : decode cL_law 703 = .ok (.irem, 1) := by decide +kernel
theorem dL_law_704 : decode cL_law 704 = .ok (.ifCond .ne 7, 3) := by decide +kernel
theorem dL_law_707 : decode cL_law 707 = .ok (.iconst 1, 1) := by decide +kernel
theorem dL_law_708 : decode cL_law 708 = .ok (.goto 4, 3) := by decide +kernel
theorem dL_law_711 : decode cL_law 711 = .ok (.iconst 0, 1) := by decide +kernel
theorem dL_law_712 : decode cL_law 712 = .ok (.if_icmp .ne 7, 3) := by decide +kernel
theorem dL_law_715 : decode cL_law 715 = .ok (.iconst 1, 1) := by decide +kernel
theorem dL_law_716 : decode cL_law 716 = .ok (.goto 4, 3) := by decide +kernel
theorem dL_law_719 : decode cL_law 719 = .ok (.iconst 0, 1) := by decide +kernel
theorem dL_law_720 : decode cL_law 720 = .ok (.istore 15, 2) := by decide +kernel
theorem dL_law_722 : decode cL_law 722 = .ok (.aload_n 3, 1) := by decide +kernel
theorem dL_law_723 : decode cL_law 723 = .ok (.iload 13, 2) := by decide +kernel
theorem dL_law_725 : decode cL_law 725 = .ok (.invokevirtual 233, 3) := by decide +kernel
theorem dL_law_728 : decode cL_law 728 = .ok (.istore 16, 2) := by decide +kernel
theorem dL_law_730 : decode cL_law 730 = .ok (.aload_n 3, 1) := by decide +kernel
theorem dL_law_731 : decode cL_law 731 = .ok (.iload 13, 2) := by decide +kernel
theorem dL_law_733 : decode cL_law 733 = .ok (.invokevirtual 236, 3) := by decide +kernel
theorem dL_law_736 : decode cL_law 736 = .ok (.ifCond .eq 66, 3) := by decide +kernel
theorem dL_law_739 : decode cL_law 739 = .ok (.iload 16, 2) := by decide +kernel
theorem dL_law_741 : decode cL_law 741 = .ok (.ifCond .ne 16, 3) := by decide +kernel
theorem dL_law_744 : decode cL_law 744 = .ok (.iload 14, 2) := by decide +kernel
theorem dL_law_746 : decode cL_law 746 = .ok (.ifCond .eq 56, 3) := by decide +kernel
theorem dL_law_749 : decode cL_law 749 = .ok (.iload 15, 2) := by decide +kernel
theorem dL_law_751 : decode cL_law 751 = .ok (.ifCond .eq 49, 3) := by decide +kernel
theorem dL_law_754 : decode cL_law 754 = .ok (.goto 48, 3) := by decide +kernel
theorem dL_law_757 : decode cL_law 757 = .ok (.iload 16, 2) := by decide +kernel
theorem dL_law_759 : decode cL_law 759 = .ok (.iconst 1, 1) := by decide +kernel
theorem dL_law_760 : decode cL_law 760 = .ok (.if_icmp .ne 16, 3) := by decide +kernel
theorem dL_law_763 : decode cL_law 763 = .ok (.iload 14, 2) := by decide +kernel
theorem dL_law_765 : decode cL_law 765 = .ok (.ifCond .ne 37, 3) := by decide +kernel
theorem dL_law_768 : decode cL_law 768 = .ok (.iload 15, 2) := by decide +kernel
theorem dL_law_770 : decode cL_law 770 = .ok (.ifCond .eq 30, 3) := by decide +kernel
theorem dL_law_773 : decode cL_law 773 = .ok (.goto 29, 3) := by decide +kernel
theorem dL_law_776 : decode cL_law 776 = .ok (.iload 16, 2) := by decide +kernel
theorem dL_law_778 : decode cL_law 778 = .ok (.iconst 2, 1) := by decide +kernel
theorem dL_law_779 : decode cL_law 779 = .ok (.if_icmp .ne 16, 3) := by decide +kernel
theorem dL_law_782 : decode cL_law 782 = .ok (.iload 14, 2) := by decide +kernel
theorem dL_law_784 : decode cL_law 784 = .ok (.ifCond .eq 18, 3) := by decide +kernel
theorem dL_law_787 : decode cL_law 787 = .ok (.iload 15, 2) := by decide +kernel
theorem dL_law_789 : decode cL_law 789 = .ok (.ifCond .ne 11, 3) := by decide +kernel
theorem dL_law_792 : decode cL_law 792 = .ok (.goto 10, 3) := by decide +kernel
theorem dL_law_795 : decode cL_law 795 = .ok (.iload 14, 2) := by decide +kernel
theorem dL_law_797 : decode cL_law 797 = .ok (.ifCond .ne 5, 3) := by decide +kernel
theorem dL_law_800 : decode cL_law 800 = .ok (.iconst 0, 1) := by decide +kernel
theorem dL_law_801 : decode cL_law 801 = .ok (.ireturn, 1) := by decide +kernel
theorem dL_law_802 : decode cL_law 802 = .ok (.iinc 13 1, 3) := by decide +kernel
theorem dL_law_805 : decode cL_law 805 = .ok (.goto (-168), 3) := by decide +kernel
theorem dL_law_808 : decode cL_law 808 = .ok (.aload_n 3, 1) := by decide +kernel
theorem dL_law_809 : decode cL_law 809 = .ok (.invokevirtual 239, 3) := by decide +kernel
theorem dL_law_812 : decode cL_law 812 = .ok (.istore 13, 2) := by decide +kernel
theorem dL_law_814 : decode cL_law 814 = .ok (.iload 12, 2) := by decide +kernel
theorem dL_law_816 : decode cL_law 816 = .ok (.aload_n 3, 1) := by decide +kernel
theorem dL_law_817 : decode cL_law 817 = .ok (.invokevirtual 242, 3) := by decide +kernel
theorem dL_law_820 : decode cL_law 820 = .ok (.if_icmp .ne 40, 3) := by decide +kernel
theorem dL_law_823 : decode cL_law 823 = .ok (.aload_n 3, 1) := by decide +kernel
theorem dL_law_824 : decode cL_law 824 = .ok (.iconst 0, 1) := by decide +kernel
theorem dL_law_825 : decode cL_law 825 = .ok (.invokevirtual 222, 3) := by decide +kernel
theorem dL_law_828 : decode cL_law 828 = .ok (.aload_n 3, 1) := by decide +kernel
theorem dL_law_829 : decode cL_law 829 = .ok (.iconst 0, 1) := by decide +kernel
theorem dL_law_830 : decode cL_law 830 = .ok (.invokevirtual 201, 3) := by decide +kernel
theorem dL_law_833 : decode cL_law 833 = .ok (.if_icmp .ne 27, 3) := by decide +kernel
theorem dL_law_836 : decode cL_law 836 = .ok (.aload_n 3, 1) := by decide +kernel
theorem dL_law_837 : decode cL_law 837 = .ok (.iload 13, 2) := by decide +kernel
theorem dL_law_839 : decode cL_law 839 = .ok (.invokevirtual 188, 3) := by decide +kernel
theorem dL_law_842 : decode cL_law 842 = .ok (.iconst 1, 1) := by decide +kernel
theorem dL_law_843 : decode cL_law 843 = .ok (.if_icmp .lt 17, 3) := by decide +kernel
theorem dL_law_846 : decode cL_law 846 = .ok (.aload_n 3, 1) := by decide +kernel
theorem dL_law_847 : decode cL_law 847 = .ok (.invokevirtual 245, 3) := by decide +kernel
theorem dL_law_850 : decode cL_law 850 = .ok (.ifCond .ne 10, 3) := by decide +kernel
theorem dL_law_853 : decode cL_law 853 = .ok (.aload_n 3, 1) := by decide +kernel
theorem dL_law_854 : decode cL_law 854 = .ok (.invokevirtual 248, 3) := by decide +kernel
theorem dL_law_857 : decode cL_law 857 = .ok (.ifCond .eq 5, 3) := by decide +kernel
theorem dL_law_860 : decode cL_law 860 = .ok (.iconst 0, 1) := by decide +kernel
theorem dL_law_861 : decode cL_law 861 = .ok (.ireturn, 1) := by decide +kernel
theorem dL_law_862 : decode cL_law 862 = .ok (.iconst 0, 1) := by decide +kernel
theorem dL_law_863 : decode cL_law 863 = .ok (.istore 14, 2) := by decide +kernel
theorem dL_law_865 : decode cL_law 865 = .ok (.iload 14, 2) := by decide +kernel
theorem dL_law_867 : decode cL_law 867 = .ok (.iload 4, 2) := by decide +kernel
theorem dL_law_869 : decode cL_law 869 = .ok (.if_icmp .ge 57, 3) := by decide +kernel
theorem dL_law_872 : decode cL_law 872 = .ok (.aload_n 3, 1) := by decide +kernel
theorem dL_law_873 : decode cL_law 873 = .ok (.iload 14, 2) := by decide +kernel
theorem dL_law_875 : decode cL_law 875 = .ok (.invokevirtual 188, 3) := by decide +kernel
theorem dL_law_878 : decode cL_law 878 = .ok (.ifCond .le 42, 3) := by decide +kernel
theorem dL_law_881 : decode cL_law 881 = .ok (.aload_n 3, 1) := by decide +kernel
theorem dL_law_882 : decode cL_law 882 = .ok (.iload 14, 2) := by decide +kernel
theorem dL_law_884 : decode cL_law 884 = .ok (.invokevirtual 188, 3) := by decide +kernel
theorem dL_law_887 : decode cL_law 887 = .ok (.aload_n 3, 1) := by decide +kernel
theorem dL_law_888 : decode cL_law 888 = .ok (.iload 13, 2) := by decide +kernel
theorem dL_law_890 : decode cL_law 890 = .ok (.invokevirtual 188, 3) := by decide +kernel
theorem dL_law_893 : decode cL_law 893 = .ok (.if_icmp .lt 25, 3) := by decide +kernel
theorem dL_law_896 : decode cL_law 896 = .ok (.iload 14, 2) := by decide +kernel
theorem dL_law_898 : decode cL_law 898 = .ok (.iload 13, 2) := by decide +kernel
theorem dL_law_900 : decode cL_law 900 = .ok (.if_icmp .ge 20, 3) := by decide +kernel
theorem dL_law_903 : decode cL_law 903 = .ok (.aload_n 3, 1) := by decide +kernel
theorem dL_law_904 : decode cL_law 904 = .ok (.iload 14, 2) := by decide +kernel
theorem dL_law_906 : decode cL_law 906 = .ok (.invokevirtual 188, 3) := by decide +kernel
theorem dL_law_909 : decode cL_law 909 = .ok (.aload_n 3, 1) := by decide +kernel
theorem dL_law_910 : decode cL_law 910 = .ok (.iload 13, 2) := by decide +kernel
theorem dL_law_912 : decode cL_law 912 = .ok (.invokevirtual 188, 3) := by decide +kernel
theorem dL_law_915 : decode cL_law 915 = .ok (.if_icmp .ne 5, 3) := by decide +kernel
theorem dL_law_918 : decode cL_law 918 = .ok (.iconst 0, 1) := by decide +kernel
theorem dL_law_919 : decode cL_law 919 = .ok (.ireturn, 1) := by decide +kernel
theorem dL_law_920 : decode cL_law 920 = .ok (.iinc 14 1, 3) := by decide +kernel
theorem dL_law_923 : decode cL_law 923 = .ok (.goto (-58), 3) := by decide +kernel
theorem dL_law_926 : decode cL_law 926 = .ok (.goto 94, 3) := by decide +kernel
theorem dL_law_929 : decode cL_law 929 = .ok (.aload_n 3, 1) := by decide +kernel
theorem dL_law_930 : decode cL_law 930 = .ok (.invokevirtual 251, 3) := by decide +kernel
theorem dL_law_933 : decode cL_law 933 = .ok (.istore 12, 2) := by decide +kernel
theorem dL_law_935 : decode cL_law 935 = .ok (.aload_n 3, 1) := by decide +kernel
theorem dL_law_936 : decode cL_law 936 = .ok (.invokevirtual 245, 3) := by decide +kernel
theorem dL_law_939 : decode cL_law 939 = .ok (.istore 13, 2) := by decide +kernel
theorem dL_law_941 : decode cL_law 941 = .ok (.aload_n 3, 1) := by decide +kernel
theorem dL_law_942 : decode cL_law 942 = .ok (.iconst 2, 1) := by decide +kernel
theorem dL_law_943 : decode cL_law 943 = .ok (.iload 12, 2) := by decide +kernel
theorem dL_law_945 : decode cL_law 945 = .ok (.imul, 1) := by decide +kernel
theorem dL_law_946 : decode cL_law 946 = .ok (.invokevirtual 185, 3) := by decide +kernel
theorem dL_law_949 : decode cL_law 949 = .ok (.aload_n 3, 1) := by decide +kernel
theorem dL_law_950 : decode cL_law 950 = .ok (.iconst 2, 1) := by decide +kernel
theorem dL_law_951 : decode cL_law 951 = .ok (.iload 12, 2) := by decide +kernel
theorem dL_law_953 : decode cL_law 953 = .ok (.imul, 1) := by decide +kernel
theorem dL_law_954 : decode cL_law 954 = .ok (.iconst 1, 1) := by decide +kernel
theorem dL_law_955 : decode cL_law 955 = .ok (.iadd, 1) := by decide +kernel
theorem dL_law_956 : decode cL_law 956 = .ok (.invokevirtual 185, 3) := by decide +kernel
theorem dL_law_959 : decode cL_law 959 = .ok (.if_icmp .ne 20, 3) := by decide +kernel
theorem dL_law_962 : decode cL_law 962 = .ok (.iload 13, 2) := by decide +kernel
theorem dL_law_964 : decode cL_law 964 = .ok (.ifCond .eq 15, 3) := by decide +kernel
theorem dL_law_967 : decode cL_law 967 = .ok (.iload 13, 2) := by decide +kernel
theorem dL_law_969 : decode cL_law 969 = .ok (.iconst (-1), 1) := by decide +kernel
theorem dL_law_970 : decode cL_law 970 = .ok (.if_icmp .lt 9, 3) := by decide +kernel
theorem dL_law_973 : decode cL_law 973 = .ok (.iload 13, 2) := by decide +kernel
theorem dL_law_975 : decode cL_law 975 = .ok (.iconst 2, 1) := by decide +kernel
theorem dL_law_976 : decode cL_law 976 = .ok (.if_icmp .le 5, 3) := by decide +kernel
theorem dL_law_979 : decode cL_law 979 = .ok (.iconst 0, 1) := by decide +kernel
theorem dL_law_980 : decode cL_law 980 = .ok (.ireturn, 1) := by decide +kernel
theorem dL_law_981 : decode cL_law 981 = .ok (.iconst 0, 1) := by decide +kernel
theorem dL_law_982 : decode cL_law 982 = .ok (.istore 14, 2) := by decide +kernel
theorem dL_law_984 : decode cL_law 984 = .ok (.iload 14, 2) := by decide +kernel
theorem dL_law_986 : decode cL_law 986 = .ok (.iload 12, 2) := by decide +kernel
theorem dL_law_988 : decode cL_law 988 = .ok (.if_icmp .ge 32, 3) := by decide +kernel
theorem dL_law_991 : decode cL_law 991 = .ok (.aload_n 3, 1) := by decide +kernel
theorem dL_law_992 : decode cL_law 992 = .ok (.iconst 2, 1) := by decide +kernel
theorem dL_law_993 : decode cL_law 993 = .ok (.iload 14, 2) := by decide +kernel
theorem dL_law_995 : decode cL_law 995 = .ok (.imul, 1) := by decide +kernel
theorem dL_law_996 : decode cL_law 996 = .ok (.invokevirtual 185, 3) := by decide +kernel
theorem dL_law_999 : decode cL_law 999 = .ok (.aload_n 3, 1) := by decide +kernel
theorem dL_law_1000 : decode cL_law 1000 = .ok (.iconst 2, 1) := by decide +kernel
theorem dL_law_1001 : decode cL_law 1001 = .ok (.iload 14, 2) := by decide +kernel
theorem dL_law_1003 : decode cL_law 1003 = .ok (.imul, 1) := by decide +kernel
theorem dL_law_1004 : decode cL_law 1004 = .ok (.iconst 1, 1) := by decide +kernel
theorem dL_law_1005 : decode cL_law 1005 = .ok (.iadd, 1) := by decide +kernel
theorem dL_law_1006 : decode cL_law 1006 = .ok (.invokevirtual 185, 3) := by decide +kernel
theorem dL_law_1009 : decode cL_law 1009 = .ok (.if_icmp .ne 5, 3) := by decide +kernel
theorem dL_law_1012 : decode cL_law 1012 = .ok (.iconst 0, 1) := by decide +kernel
theorem dL_law_1013 : decode cL_law 1013 = .ok (.ireturn, 1) := by decide +kernel
theorem dL_law_1014 : decode cL_law 1014 = .ok (.iinc 14 1, 3) := by decide +kernel
theorem dL_law_1017 : decode cL_law 1017 = .ok (.goto (-33), 3) := by decide +kernel
theorem dL_law_1020 : decode cL_law 1020 = .ok (.aload_n 3, 1) := by decide +kernel
theorem dL_law_1021 : decode cL_law 1021 = .ok (.invokevirtual 254, 3) := by decide +kernel
theorem dL_law_1024 : decode cL_law 1024 = .ok (.istore 12, 2) := by decide +kernel
theorem dL_law_1026 : decode cL_law 1026 = .ok (.aload_n 3, 1) := by decide +kernel
theorem dL_law_1027 : decode cL_law 1027 = .ok (.invokevirtual 245, 3) := by decide +kernel
theorem dL_law_1030 : decode cL_law 1030 = .ok (.istore 13, 2) := by decide +kernel
theorem dL_law_1032 : decode cL_law 1032 = .ok (.iconst 0, 1) := by decide +kernel
theorem dL_law_1033 : decode cL_law 1033 = .ok (.istore 14, 2) := by decide +kernel
theorem dL_law_1035 : decode cL_law 1035 = .ok (.iload 14, 2) := by decide +kernel
theorem dL_law_1037 : decode cL_law 1037 = .ok (.aload_n 3, 1) := by decide +kernel
theorem dL_law_1038 : decode cL_law 1038 = .ok (.invokevirtual 225, 3) := by decide +kernel
theorem dL_law_1041 : decode cL_law 1041 = .ok (.if_icmp .ge 96, 3) := by decide +kernel
theorem dL_law_1044 : decode cL_law 1044 = .ok (.aload_n 3, 1) := by decide +kernel
theorem dL_law_1045 : decode cL_law 1045 = .ok (.iload 14, 2) := by decide +kernel
theorem dL_law_1047 : decode cL_law 1047 = .ok (.invokevirtual 236, 3) := by decide +kernel
theorem dL_law_1050 : decode cL_law 1050 = .ok (.ifCond .ne 6, 3) := by decide +kernel
theorem dL_law_1053 : decode cL_law 1053 = .ok (.goto 78, 3) := by decide +kernel
theorem dL_law_1056 : decode cL_law 1056 = .ok (.aload_n 3, 1) := by decide +kernel
theorem dL_law_1057 : decode cL_law 1057 = .ok (.iload 14, 2) := by decide +kernel
theorem dL_law_1059 : decode cL_law 1059 = .ok (.invokevirtual 255, 3) := by decide +kernel
theorem dL_law_1062 : decode cL_law 1062 = .ok (.istore 15, 2) := by decide +kernel
theorem dL_law_1064 : decode cL_law 1064 = .ok (.aload_n 3, 1) := by decide +kernel
theorem dL_law_1065 : decode cL_law 1065 = .ok (.iload 14, 2) := by decide +kernel
theorem dL_law_1067 : decode cL_law 1067 = .ok (.invokevirtual 152, 3) := by decide +kernel
theorem dL_law_1070 : decode cL_law 1070 = .ok (.iload 12, 2) := by decide +kernel
theorem dL_law_1072 : decode cL_law 1072 = .ok (.iconst 1, 1) := by decide +kernel
theorem dL_law_1073 : decode cL_law 1073 = .ok (.isub, 1) := by decide +kernel
theorem dL_law_1074 : decode cL_law 1074 = .ok (.if_icmp .ne 55, 3) := by decide +kernel
theorem dL_law_1077 : decode cL_law 1077 = .ok (.aload_n 3, 1) := by decide +kernel
theorem dL_law_1078 : decode cL_law 1078 = .ok (.invokevirtual 182, 3) := by decide +kernel
theorem dL_law_1081 : decode cL_law 1081 = .ok (.iload 9, 2) := by decide +kernel
theorem dL_law_1083 : decode cL_law 1083 = .ok (.if_icmp .lt 46, 3) := by decide +kernel
theorem dL_law_1086 : decode cL_law 1086 = .ok (.aload_n 3, 1) := by decide +kernel
theorem dL_law_1087 : decode cL_law 1087 = .ok (.invokevirtual 182, 3) := by decide +kernel
theorem dL_law_1090 : decode cL_law 1090 = .ok (.iload 9, 2) := by decide +kernel
theorem dL_law_1092 : decode cL_law 1092 = .ok (.if_icmp .ne 7, 3) := by decide +kernel
theorem dL_law_1095 : decode cL_law 1095 = .ok (.iconst 1, 1) := by decide +kernel
theorem dL_law_1096 : decode cL_law 1096 = .ok (.goto 4, 3) := by decide +kernel
theorem dL_law_1099 : decode cL_law 1099 = .ok (.iconst 0, 1) := by decide +kernel
theorem dL_law_1100 : decode cL_law 1100 = .ok (.iload 15, 2) := by decide +kernel
theorem dL_law_1102 : decode cL_law 1102 = .ok (.if_icmp .ne 27, 3) := by decide +kernel
theorem dL_law_1105 : decode cL_law 1105 = .ok (.iload 13, 2) := by decide +kernel
theorem dL_law_1107 : decode cL_law 1107 = .ok (.iconst 1, 1) := by decide +kernel
theorem dL_law_1108 : decode cL_law 1108 = .ok (.if_icmp .le 10, 3) := by decide +kernel
theorem dL_law_1111 : decode cL_law 1111 = .ok (.aload_n 3, 1) := by decide +kernel
theorem dL_law_1112 : decode cL_law 1112 = .ok (.invokevirtual 182, 3) := by decide +kernel
theorem dL_law_1115 : decode cL_law 1115 = .ok (.ifCond .gt 14, 3) := by decide +kernel
theorem dL_law_1118 : decode cL_law 1118 = .ok (.aload_n 3, 1) := by decide +kernel
theorem dL_law_1119 : decode cL_law 1119 = .ok (.iload 14, 2) := by decide +kernel
theorem dL_law_1121 : decode cL_law 1121 = .ok (.invokevirtual 155, 3) := by decide +kernel
theorem dL_law_1124 : decode cL_law 1124 = .ok (.iload 12, 2) := by decide +kernel
theorem dL_law_1126 : decode cL_law 1126 = .ok (.if_icmp .eq 5, 3) := by decide +kernel
theorem dL_law_1129 : decode cL_law 1129 = .ok (.iconst 0, 1) := by decide +kernel
theorem dL_law_1130 : decode cL_law 1130 = .ok (.ireturn, 1) := by decide +kernel
theorem dL_law_1131 : decode cL_law 1131 = .ok (.iinc 14 1, 3) := by decide +kernel
theorem dL_law_1134 : decode cL_law 1134 = .ok (.goto (-99), 3) := by decide +kernel
theorem dL_law_1137 : decode cL_law 1137 = .ok (.aload_n 3, 1) := by decide +kernel
theorem dL_law_1138 : decode cL_law 1138 = .ok (.invokevirtual 178, 3) := by decide +kernel
theorem dL_law_1141 : decode cL_law 1141 = .ok (.lload 7, 2) := by decide +kernel
theorem dL_law_1143 : decode cL_law 1143 = .ok (.lcmp, 1) := by decide +kernel
theorem dL_law_1144 : decode cL_law 1144 = .ok (.ifCond .eq 5, 3) := by decide +kernel
theorem dL_law_1147 : decode cL_law 1147 = .ok (.iconst 0, 1) := by decide +kernel
theorem dL_law_1148 : decode cL_law 1148 = .ok (.ireturn, 1) := by decide +kernel
theorem dL_law_1149 : decode cL_law 1149 = .ok (.iconst 1, 1) := by decide +kernel
theorem dL_law_1150 : decode cL_law 1150 = .ok (.iload 6, 2) := by decide +kernel
theorem dL_law_1152 : decode cL_law 1152 = .ok (.iconst 4, 1) := by decide +kernel
theorem dL_law_1153 : decode cL_law 1153 = .ok (.ishr, 1) := by decide +kernel
theorem dL_law_1154 : decode cL_law 1154 = .ok (.iconst 4, 1) := by decide +kernel
theorem dL_law_1155 : decode cL_law 1155 = .ok (.invokestatic 107, 3) := by decide +kernel
theorem dL_law_1158 : decode cL_law 1158 = .ok (.iadd, 1) := by decide +kernel
theorem dL_law_1159 : decode cL_law 1159 = .ok (.istore 14, 2) := by decide +kernel
theorem dL_law_1161 : decode cL_law 1161 = .ok (.aload_n 3, 1) := by decide +kernel
theorem dL_law_1162 : decode cL_law 1162 = .ok (.iload 14, 2) := by decide +kernel
theorem dL_law_1164 : decode cL_law 1164 = .ok (.invokevirtual 258, 3) := by decide +kernel
theorem dL_law_1167 : decode cL_law 1167 = .ok (.istore 15, 2) := by decide +kernel
theorem dL_law_1169 : decode cL_law 1169 = .ok (.aload_n 3, 1) := by decide +kernel
theorem dL_law_1170 : decode cL_law 1170 = .ok (.iload 14, 2) := by decide +kernel
theorem dL_law_1172 : decode cL_law 1172 = .ok (.invokevirtual 261, 3) := by decide +kernel
theorem dL_law_1175 : decode cL_law 1175 = .ok (.istore 16, 2) := by decide +kernel
theorem dL_law_1177 : decode cL_law 1177 = .ok (.aload_n 3, 1) := by decide +kernel
theorem dL_law_1178 : decode cL_law 1178 = .ok (.invokevirtual 248, 3) := by decide +kernel
theorem dL_law_1181 : decode cL_law 1181 = .ok (.istore 17, 2) := by decide +kernel
theorem dL_law_1183 : decode cL_law 1183 = .ok (.aload_n 3, 1) := by decide +kernel
theorem dL_law_1184 : decode cL_law 1184 = .ok (.invokevirtual 178, 3) := by decide +kernel
theorem dL_law_1187 : decode cL_law 1187 = .ok (.lload 7, 2) := by decide +kernel
theorem dL_law_1189 : decode cL_law 1189 = .ok (.lcmp, 1) := by decide +kernel
theorem dL_law_1190 : decode cL_law 1190 = .ok (.ifCond .eq 5, 3) := by decide +kernel
theorem dL_law_1193 : decode cL_law 1193 = .ok (.iconst 0, 1) := by decide +kernel
theorem dL_law_1194 : decode cL_law 1194 = .ok (.ireturn, 1) := by decide +kernel
theorem dL_law_1195 : decode cL_law 1195 = .ok (.iconst 0, 1) := by decide +kernel
theorem dL_law_1196 : decode cL_law 1196 = .ok (.istore 18, 2) := by decide +kernel
theorem dL_law_1198 : decode cL_law 1198 = .ok (.iload 18, 2) := by decide +kernel
theorem dL_law_1200 : decode cL_law 1200 = .ok (.iload 14, 2) := by decide +kernel
theorem dL_law_1202 : decode cL_law 1202 = .ok (.if_icmp .ge 89, 3) := by decide +kernel
theorem dL_law_1205 : decode cL_law 1205 = .ok (.aload_n 3, 1) := by decide +kernel
theorem dL_law_1206 : decode cL_law 1206 = .ok (.invokevirtual 214, 3) := by decide +kernel
theorem dL_law_1209 : decode cL_law 1209 = .ok (.ifCond .eq 15, 3) := by decide +kernel
theorem dL_law_1212 : decode cL_law 1212 = .ok (.iload 17, 2) := by decide +kernel
theorem dL_law_1214 : decode cL_law 1214 = .ok (.ifCond .lt 24, 3) := by decide +kernel
theorem dL_law_1217 : decode cL_law 1217 = .ok (.iload 17, 2) := by decide +kernel
theorem dL_law_1219 : decode cL_law 1219 = .ok (.iload 18, 2) := by decide +kernel
theorem dL_law_1221 : decode cL_law 1221 = .ok (.if_icmp .gt 17, 3) := by decide +kernel
theorem dL_law_1224 : decode cL_law 1224 = .ok (.iload 17, 2) := by decide +kernel
theorem dL_law_1226 : decode cL_law 1226 = .ok (.iload 18, 2) := by decide +kernel
theorem dL_law_1228 : decode cL_law 1228 = .ok (.if_icmp .ne 12, 3) := by decide +kernel
theorem dL_law_1231 : decode cL_law 1231 = .ok (.aload_n 3, 1) := by decide +kernel
theorem dL_law_1232 : decode cL_law 1232 = .ok (.invokevirtual 214, 3) := by decide +kernel
theorem dL_law_1235 : decode cL_law 1235 = .ok (.ifCond .ne 5, 3) := by decide +kernel
theorem dL_law_1238 : decode cL_law 1238 = .ok (.iconst 0, 1) := by decide +kernel
theorem dL_law_1239 : decode cL_law 1239 = .ok (.ireturn, 1) := by decide +kernel
theorem dL_law_1240 : decode cL_law 1240 = .ok (.aload_n 3, 1) := by decide +kernel
theorem dL_law_1241 : decode cL_law 1241 = .ok (.invokevirtual 264, 3) := by decide +kernel
theorem dL_law_1244 : decode cL_law 1244 = .ok (.istore 19, 2) := by decide +kernel
theorem dL_law_1246 : decode cL_law 1246 = .ok (.aload_n 3, 1) := by decide +kernel
theorem dL_law_1247 : decode cL_law 1247 = .ok (.iconst 1, 1) := by decide +kernel
theorem dL_law_1248 : decode cL_law 1248 = .ok (.invokevirtual 149, 3) := by decide +kernel
theorem dL_law_1251 : decode cL_law 1251 = .ok (.istore 20, 2) := by decide +kernel
theorem dL_law_1253 : decode cL_law 1253 = .ok (.aload_n 2, 1) := by decide +kernel
theorem dL_law_1254 : decode cL_law 1254 = .ok (.invokevirtual 146, 3) := by decide +kernel
theorem dL_law_1257 : decode cL_law 1257 = .ok (.iload 20, 2) := by decide +kernel
theorem dL_law_1259 : decode cL_law 1259 = .ok (.ifCond .lt 24, 3) := by decide +kernel
theorem dL_law_1262 : decode cL_law 1262 = .ok (.iload 20, 2) := by decide +kernel
theorem dL_law_1264 : decode cL_law 1264 = .ok (.aload_n 3, 1) := by decide +kernel
theorem dL_law_1265 : decode cL_law 1265 = .ok (.invokevirtual 267, 3) := by decide +kernel
theorem dL_law_1268 : decode cL_law 1268 = .ok (.if_icmp .gt 15, 3) := by decide +kernel
theorem dL_law_1271 : decode cL_law 1271 = .ok (.aload_n 3, 1) := by decide +kernel
theorem dL_law_1272 : decode cL_law 1272 = .ok (.invokevirtual 264, 3) := by decide +kernel
theorem dL_law_1275 : decode cL_law 1275 = .ok (.iload 19, 2) := by decide +kernel
theorem dL_law_1277 : decode cL_law 1277 = .ok (.iload 20, 2) := by decide +kernel
theorem dL_law_1279 : decode cL_law 1279 = .ok (.iadd, 1) := by decide +kernel
theorem dL_law_1280 : decode cL_law 1280 = .ok (.if_icmp .eq 5, 3) := by decide +kernel
theorem dL_law_1283 : decode cL_law 1283 = .ok (.iconst 0, 1) := by decide +kernel
theorem dL_law_1284 : decode cL_law 1284 = .ok (.ireturn, 1) := by decide +kernel
theorem dL_law_1285 : decode cL_law 1285 = .ok (.iinc 18 1, 3) := by decide +kernel
theorem dL_law_1288 : decode cL_law 1288 = .ok (.goto (-90), 3) := by decide +kernel
theorem dL_law_1291 : decode cL_law 1291 = .ok (.aload_n 3, 1) := by decide +kernel
theorem dL_law_1292 : decode cL_law 1292 = .ok (.invokevirtual 254, 3) := by decide +kernel
theorem dL_law_1295 : decode cL_law 1295 = .ok (.iload 15, 2) := by decide +kernel
theorem dL_law_1297 : decode cL_law 1297 = .ok (.if_icmp .ne 12, 3) := by decide +kernel
theorem dL_law_1300 : decode cL_law 1300 = .ok (.aload_n 3, 1) := by decide +kernel
theorem dL_law_1301 : decode cL_law 1301 = .ok (.invokevirtual 182, 3) := by decide +kernel
theorem dL_law_1304 : decode cL_law 1304 = .ok (.iload 16, 2) := by decide +kernel
theorem dL_law_1306 : decode cL_law 1306 = .ok (.if_icmp .eq 5, 3) := by decide +kernel
theorem dL_law_1309 : decode cL_law 1309 = .ok (.iconst 0, 1) := by decide +kernel
theorem dL_law_1310 : decode cL_law 1310 = .ok (.ireturn, 1) := by decide +kernel
theorem dL_law_1311 : decode cL_law 1311 = .ok (.iinc 5 1, 3) := by decide +kernel
theorem dL_law_1314 : decode cL_law 1314 = .ok (.goto (-1267), 3) := by decide +kernel
theorem dL_law_1317 : decode cL_law 1317 = .ok (.aload_n 2, 1) := by decide +kernel
theorem dL_law_1318 : decode cL_law 1318 = .ok (.aload_n 3, 1) := by decide +kernel
theorem dL_law_1319 : decode cL_law 1319 = .ok (.invokevirtual 269, 3) := by decide +kernel
theorem dL_law_1322 : decode cL_law 1322 = .ok (.ireturn, 1) := by decide +kernel
