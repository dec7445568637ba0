theorem dX10_passDays_0 : decode cX10_passDays 0 = .ok (.aload_n 0, 1) := by decide +kernel
theorem dX10_passDays_1 : decode cX10_passDays 1 = .ok (.iconst 0, 1) := by decide +kernel
theorem dX10_passDays_2 : decode cX10_passDays 2 = .ok (.putfield 60, 3) := by decide +kernel
theorem dX10_passDays_5 : decode cX10_passDays 5 = .ok (.iload_n 1, 1) := by decide +kernel
theorem dX10_passDays_6 : decode cX10_passDays 6 = .ok (.iconst 1, 1) := by decide +kernel
theorem dX10_passDays_7 : decode cX10_passDays 7 = .ok (.bipush 30, 2) := by decide +kernel
theorem dX10_passDays_9 : decode cX10_passDays 9 = .ok (.invokestatic 66, 3) := by decide +kernel
theorem dX10_passDays_12 : decode cX10_passDays 12 = .ok (.ifCond .ne 9, 3) := by decide +kernel
theorem dX10_passDays_15 : decode cX10_passDays 15 = .ok (.aload_n 0, 1) := by decide +kernel
theorem dX10_passDays_16 : decode cX10_passDays 16 = .ok (.iconst 1, 1) := by decide +kernel
theorem dX10_passDays_17 : decode cX10_passDays 17 = .ok (.invokevirtual 367, 3) := by decide +kernel
theorem dX10_passDays_20 : decode cX10_passDays 20 = .ok (.ireturn, 1) := by decide +kernel
theorem dX10_passDays_21 : decode cX10_passDays 21 = .ok (.aload_n 0, 1) := by decide +kernel
theorem dX10_passDays_22 : decode cX10_passDays 22 = .ok (.getfield 160, 3) := by decide +kernel
theorem dX10_passDays_25 : decode cX10_passDays 25 = .ok (.istore_n 2, 1) := by decide +kernel
theorem dX10_passDays_26 : decode cX10_passDays 26 = .ok (.aload_n 0, 1) := by decide +kernel
theorem dX10_passDays_27 : decode cX10_passDays 27 = .ok (.iload_n 1, 1) := by decide +kernel
theorem dX10_passDays_28 : decode cX10_passDays 28 = .ok (.invokevirtual 409, 3) := by decide +kernel
theorem dX10_passDays_31 : decode cX10_passDays 31 = .ok (.aload_n 0, 1) := by decide +kernel
theorem dX10_passDays_32 : decode cX10_passDays 32 = .ok (.getfield 160, 3) := by decide +kernel
theorem dX10_passDays_35 : decode cX10_passDays 35 = .ok (.iload_n 2, 1) := by decide +kernel
theorem dX10_passDays_36 : decode cX10_passDays 36 = .ok (.isub, 1) := by decide +kernel
theorem dX10_passDays_37 : decode cX10_passDays 37 = .ok (.ireturn, 1) := by decide +kernel
theorem dX10_goBack_0 : decode cX10_goBack 0 = .ok (.aload_n 0, 1) := by decide +kernel
theorem dX10_goBack_1 : decode cX10_goBack 1 = .ok (.iload_n 1, 1) := by decide +kernel
theorem dX10_goBack_2 : decode cX10_goBack 2 = .ok (.putfield 163, 3) := by decide +kernel
theorem dX10_goBack_5 : decode cX10_goBack 5 = .ok (.aload_n 0, 1) := by decide +kernel
theorem dX10_goBack_6 : decode cX10_goBack 6 = .ok (.iload_n 2, 1) := by decide +kernel
theorem dX10_goBack_7 : decode cX10_goBack 7 = .ok (.putfield 160, 3) := by decide +kernel
theorem dX10_goBack_10 : decode cX10_goBack 10 = .ok (.aload_n 0, 1) := by decide +kernel
theorem dX10_goBack_11 : decode cX10_goBack 11 = .ok (.iload_n 3, 1) := by decide +kernel
theorem dX10_goBack_12 : decode cX10_goBack 12 = .ok (.putfield 115, 3) := by decide +kernel
theorem dX10_goBack_15 : decode cX10_goBack 15 = .ok (.return_, 1) := by decide +kernel
theorem dX10_standingAfter_0 : decode cX10_standingAfter 0 = .ok (.aload_n 0, 1) := by decide +kernel
theorem dX10_standingAfter_1 : decode cX10_standingAfter 1 = .ok (.iconst 0, 1) := by decide +kernel
theorem dX10_standingAfter_2 : decode cX10_standingAfter 2 = .ok (.putfield 60, 3) := by decide +kernel
theorem dX10_standingAfter_5 : decode cX10_standingAfter 5 = .ok (.iload_n 1, 1) := by decide +kernel
theorem dX10_standingAfter_6 : decode cX10_standingAfter 6 = .ok (.iconst 1, 1) := by decide +kernel
theorem dX10_standingAfter_7 : decode cX10_standingAfter 7 = .ok (.bipush 30, 2) := by decide +kernel
theorem dX10_standingAfter_9 : decode cX10_standingAfter 9 = .ok (.invokestatic 66, 3) := by decide +kernel
theorem dX10_standingAfter_12 : decode cX10_standingAfter 12 = .ok (.ifCond .ne 9, 3) := by decide +kernel
theorem dX10_standingAfter_15 : decode cX10_standingAfter 15 = .ok (.aload_n 0, 1) := by decide +kernel
theorem dX10_standingAfter_16 : decode cX10_standingAfter 16 = .ok (.iconst 1, 1) := by decide +kernel
theorem dX10_standingAfter_17 : decode cX10_standingAfter 17 = .ok (.invokevirtual 367, 3) := by decide +kernel
theorem dX10_standingAfter_20 : decode cX10_standingAfter 20 = .ok (.ireturn, 1) := by decide +kernel
theorem dX10_standingAfter_21 : decode cX10_standingAfter 21 = .ok (.iconst 3, 1) := by decide +kernel
theorem dX10_standingAfter_22 : decode cX10_standingAfter 22 = .ok (.newarray .int, 2) := by decide +kernel
theorem dX10_standingAfter_24 : decode cX10_standingAfter 24 = .ok (.dup, 1) := by decide +kernel
theorem dX10_standingAfter_25 : decode cX10_standingAfter 25 = .ok (.iconst 0, 1) := by decide +kernel
theorem dX10_standingAfter_26 : decode cX10_standingAfter 26 = .ok (.aload_n 0, 1) := by decide +kernel
theorem dX10_standingAfter_27 : decode cX10_standingAfter 27 = .ok (.getfield 163, 3) := by decide +kernel
theorem dX10_standingAfter_30 : decode cX10_standingAfter 30 = .ok (.iastore, 1) := by decide +kernel
theorem dX10_standingAfter_31 : decode cX10_standingAfter 31 = .ok (.dup, 1) := by decide +kernel
theorem dX10_standingAfter_32 : decode cX10_standingAfter 32 = .ok (.iconst 1, 1) := by decide +kernel
theorem dX10_standingAfter_33 : decode cX10_standingAfter 33 = .ok (.aload_n 0, 1) := by decide +kernel
theorem dX10_standingAfter_34 : decode cX10_standingAfter 34 = .ok (.getfield 160, 3) := by decide +kernel
theorem dX10_standingAfter_37 : decode cX10_standingAfter 37 = .ok (.iastore, 1) := by decide +kernel
theorem dX10_standingAfter_38 : decode cX10_standingAfter 38 = .ok (.dup, 1) := by decide +kernel
theorem dX10_standingAfter_39 : decode cX10_standingAfter 39 = .ok (.iconst 2, 1) := by decide +kernel
theorem dX10_standingAfter_40 : decode cX10_standingAfter 40 = .ok (.aload_n 0, 1) := by decide +kernel
theorem dX10_standingAfter_41 : decode cX10_standingAfter 41 = .ok (.getfield 115, 3) := by decide +kernel
theorem dX10_standingAfter_44 : decode cX10_standingAfter 44 = .ok (.iastore, 1) := by decide +kernel
theorem dX10_standingAfter_45 : decode cX10_standingAfter 45 = .ok (.astore_n 2, 1) := by decide +kernel
theorem dX10_standingAfter_46 : decode cX10_standingAfter 46 = .ok (.aload_n 0, 1) := by decide +kernel
theorem dX10_standingAfter_47 : decode cX10_standingAfter 47 = .ok (.iload_n 1, 1) := by decide +kernel
theorem dX10_standingAfter_48 : decode cX10_standingAfter 48 = .ok (.invokevirtual 409, 3) := by decide +kernel
theorem dX10_standingAfter_51 : decode cX10_standingAfter 51 = .ok (.aload_n 0, 1) := by decide +kernel
theorem dX10_standingAfter_52 : decode cX10_standingAfter 52 = .ok (.getfield 115, 3) := by decide +kernel
theorem dX10_standingAfter_55 : decode cX10_standingAfter 55 = .ok (.invokestatic 106, 3) := by decide +kernel
theorem dX10_standingAfter_58 : decode cX10_standingAfter 58 = .ok (.istore_n 3, 1) := by decide +kernel
theorem dX10_standingAfter_59 : decode cX10_standingAfter 59 = .ok (.aload_n 0, 1) := by decide +kernel
theorem dX10_standingAfter_60 : decode cX10_standingAfter 60 = .ok (.aload_n 2, 1) := by decide +kernel
theorem dX10_standingAfter_61 : decode cX10_standingAfter 61 = .ok (.iconst 0, 1) := by decide +kernel
theorem dX10_standingAfter_62 : decode cX10_standingAfter 62 = .ok (.iaload, 1) := by decide +kernel
theorem dX10_standingAfter_63 : decode cX10_standingAfter 63 = .ok (.aload_n 2, 1) := by decide +kernel
theorem dX10_standingAfter_64 : decode cX10_standingAfter 64 = .ok (.iconst 1, 1) := by decide +kernel
theorem dX10_standingAfter_65 : decode cX10_standingAfter 65 = .ok (.iaload, 1) := by decide +kernel
theorem dX10_standingAfter_66 : decode cX10_standingAfter 66 = .ok (.aload_n 2, 1) := by decide +kernel
theorem dX10_standingAfter_67 : decode cX10_standingAfter 67 = .ok (.iconst 2, 1) := by decide +kernel
theorem dX10_standingAfter_68 : decode cX10_standingAfter 68 = .ok (.iaload, 1) := by decide +kernel
theorem dX10_standingAfter_69 : decode cX10_standingAfter 69 = .ok (.invokevirtual 412, 3) := by decide +kernel
theorem dX10_standingAfter_72 : decode cX10_standingAfter 72 = .ok (.iload_n 3, 1) := by decide +kernel
theorem dX10_standingAfter_73 : decode cX10_standingAfter 73 = .ok (.ireturn, 1) := by decide +kernel
theorem dX10_peacesAfter_0 : decode cX10_peacesAfter 0 = .ok (.aload_n 0, 1) := by decide +kernel
theorem dX10_peacesAfter_1 : decode cX10_peacesAfter 1 = .ok (.iconst 0, 1) := by decide +kernel
theorem dX10_peacesAfter_2 : decode cX10_peacesAfter 2 = .ok (.putfield 60, 3) := by decide +kernel
theorem dX10_peacesAfter_5 : decode cX10_peacesAfter 5 = .ok (.iload_n 1, 1) := by decide +kernel
theorem dX10_peacesAfter_6 : decode cX10_peacesAfter 6 = .ok (.iconst 1, 1) := by decide +kernel
theorem dX10_peacesAfter_7 : decode cX10_peacesAfter 7 = .ok (.bipush 30, 2) := by decide +kernel
theorem dX10_peacesAfter_9 : decode cX10_peacesAfter 9 = .ok (.invokestatic 66, 3) := by decide +kernel
theorem dX10_peacesAfter_12 : decode cX10_peacesAfter 12 = .ok (.ifCond .ne 9, 3) := by decide +kernel
theorem dX10_peacesAfter_15 : decode cX10_peacesAfter 15 = .ok (.aload_n 0, 1) := by decide +kernel
theorem dX10_peacesAfter_16 : decode cX10_peacesAfter 16 = .ok (.iconst 1, 1) := by decide +kernel
theorem dX10_peacesAfter_17 : decode cX10_peacesAfter 17 = .ok (.invokevirtual 367, 3) := by decide +kernel
theorem dX10_peacesAfter_20 : decode cX10_peacesAfter 20 = .ok (.ireturn, 1) := by decide +kernel
theorem dX10_peacesAfter_21 : decode cX10_peacesAfter 21 = .ok (.iconst 3, 1) := by decide +kernel
theorem dX10_peacesAfter_22 : decode cX10_peacesAfter 22 = .ok (.newarray .int, 2) := by decide +kernel
theorem dX10_peacesAfter_24 : decode cX10_peacesAfter 24 = .ok (.dup, 1) := by decide +kernel
theorem dX10_peacesAfter_25 : decode cX10_peacesAfter 25 = .ok (.iconst 0, 1) := by decide +kernel
theorem dX10_peacesAfter_26 : decode cX10_peacesAfter 26 = .ok (.aload_n 0, 1) := by decide +kernel
theorem dX10_peacesAfter_27 : decode cX10_peacesAfter 27 = .ok (.getfield 163, 3) := by decide +kernel
theorem dX10_peacesAfter_30 : decode cX10_peacesAfter 30 = .ok (.iastore, 1) := by decide +kernel
theorem dX10_peacesAfter_31 : decode cX10_peacesAfter 31 = .ok (.dup, 1) := by decide +kernel
theorem dX10_peacesAfter_32 : decode cX10_peacesAfter 32 = .ok (.iconst 1, 1) := by decide +kernel
theorem dX10_peacesAfter_33 : decode cX10_peacesAfter 33 = .ok (.aload_n 0, 1) := by decide +kernel
theorem dX10_peacesAfter_34 : decode cX10_peacesAfter 34 = .ok (.getfield 160, 3) := by decide +kernel
theorem dX10_peacesAfter_37 : decode cX10_peacesAfter 37 = .ok (.iastore, 1) := by decide +kernel
theorem dX10_peacesAfter_38 : decode cX10_peacesAfter 38 = .ok (.dup, 1) := by decide +kernel
theorem dX10_peacesAfter_39 : decode cX10_peacesAfter 39 = .ok (.iconst 2, 1) := by decide +kernel
theorem dX10_peacesAfter_40 : decode cX10_peacesAfter 40 = .ok (.aload_n 0, 1) := by decide +kernel
theorem dX10_peacesAfter_41 : decode cX10_peacesAfter 41 = .ok (.getfield 115, 3) := by decide +kernel
theorem dX10_peacesAfter_44 : decode cX10_peacesAfter 44 = .ok (.iastore, 1) := by decide +kernel
theorem dX10_peacesAfter_45 : decode cX10_peacesAfter 45 = .ok (.astore_n 2, 1) := by decide +kernel
theorem dX10_peacesAfter_46 : decode cX10_peacesAfter 46 = .ok (.aload_n 0, 1) := by decide +kernel
theorem dX10_peacesAfter_47 : decode cX10_peacesAfter 47 = .ok (.iload_n 1, 1) := by decide +kernel
theorem dX10_peacesAfter_48 : decode cX10_peacesAfter 48 = .ok (.invokevirtual 409, 3) := by decide +kernel
theorem dX10_peacesAfter_51 : decode cX10_peacesAfter 51 = .ok (.aload_n 0, 1) := by decide +kernel
theorem dX10_peacesAfter_52 : decode cX10_peacesAfter 52 = .ok (.aload_n 0, 1) := by decide +kernel
theorem dX10_peacesAfter_53 : decode cX10_peacesAfter 53 = .ok (.getfield 115, 3) := by decide +kernel
theorem dX10_peacesAfter_56 : decode cX10_peacesAfter 56 = .ok (.invokevirtual 182, 3) := by decide +kernel
theorem dX10_peacesAfter_59 : decode cX10_peacesAfter 59 = .ok (.istore_n 3, 1) := by decide +kernel
theorem dX10_peacesAfter_60 : decode cX10_peacesAfter 60 = .ok (.aload_n 0, 1) := by decide +kernel
theorem dX10_peacesAfter_61 : decode cX10_peacesAfter 61 = .ok (.aload_n 2, 1) := by decide +kernel
theorem dX10_peacesAfter_62 : decode cX10_peacesAfter 62 = .ok (.iconst 0, 1) := by decide +kernel
theorem dX10_peacesAfter_63 : decode cX10_peacesAfter 63 = .ok (.iaload, 1) := by decide +kernel
theorem dX10_peacesAfter_64 : decode cX10_peacesAfter 64 = .ok (.aload_n 2, 1) := by decide +kernel
theorem dX10_peacesAfter_65 : decode cX10_peacesAfter 65 = .ok (.iconst 1, 1) := by decide +kernel
theorem dX10_peacesAfter_66 : decode cX10_peacesAfter 66 = .ok (.iaload, 1) := by decide +kernel
theorem dX10_peacesAfter_67 : decode cX10_peacesAfter 67 = .ok (.aload_n 2, 1) := by decide +kernel
theorem dX10_peacesAfter_68 : decode cX10_peacesAfter 68 = .ok (.iconst 2, 1) := by decide +kernel
theorem dX10_peacesAfter_69 : decode cX10_peacesAfter 69 = .ok (.iaload, 1) := by decide +kernel
theorem dX10_peacesAfter_70 : decode cX10_peacesAfter 70 = .ok (.invokevirtual 412, 3) := by decide +kernel
theorem dX10_peacesAfter_73 : decode cX10_peacesAfter 73 = .ok (.iload_n 3, 1) := by decide +kernel
theorem dX10_peacesAfter_74 : decode cX10_peacesAfter 74 = .ok (.ireturn, 1) := by decide +kernel
theorem dX10_daysUntilPeace_0 : decode cX10_daysUntilPeace 0 = .ok (.aload_n 0, 1) := by decide +kernel
theorem dX10_daysUntilPeace_1 : decode cX10_daysUntilPeace 1 = .ok (.iconst 0, 1) := by decide +kernel
theorem dX10_daysUntilPeace_2 : decode cX10_daysUntilPeace 2 = .ok (.putfield 60, 3) := by decide +kernel
theorem dX10_daysUntilPeace_5 : decode cX10_daysUntilPeace 5 = .ok (.iconst 3, 1) := by decide +kernel
theorem dX10_daysUntilPeace_6 : decode cX10_daysUntilPeace 6 = .ok (.newarray .int, 2) := by decide +kernel
theorem dX10_daysUntilPeace_8 : decode cX10_daysUntilPeace 8 = .ok (.dup, 1) := by decide +kernel
theorem dX10_daysUntilPeace_9 : decode cX10_daysUntilPeace 9 = .ok (.iconst 0, 1) := by decide +kernel
theorem dX10_daysUntilPeace_10 : decode cX10_daysUntilPeace 10 = .ok (.aload_n 0, 1) := by decide +kernel
theorem dX10_daysUntilPeace_11 : decode cX10_daysUntilPeace 11 = .ok (.getfield 163, 3) := by decide +kernel
theorem dX10_daysUntilPeace_14 : decode cX10_daysUntilPeace 14 = .ok (.iastore, 1) := by decide +kernel
theorem dX10_daysUntilPeace_15 : decode cX10_daysUntilPeace 15 = .ok (.dup, 1) := by decide +kernel
theorem dX10_daysUntilPeace_16 : decode cX10_daysUntilPeace 16 = .ok (.iconst 1, 1) := by decide +kernel
theorem dX10_daysUntilPeace_17 : decode cX10_daysUntilPeace 17 = .ok (.aload_n 0, 1) := by decide +kernel
theorem dX10_daysUntilPeace_18 : decode cX10_daysUntilPeace 18 = .ok (.getfield 160, 3) := by decide +kernel
theorem dX10_daysUntilPeace_21 : decode cX10_daysUntilPeace 21 = .ok (.iastore, 1) := by decide +kernel
theorem dX10_daysUntilPeace_22 : decode cX10_daysUntilPeace 22 = .ok (.dup, 1) := by decide +kernel
theorem dX10_daysUntilPeace_23 : decode cX10_daysUntilPeace 23 = .ok (.iconst 2, 1) := by decide +kernel
theorem dX10_daysUntilPeace_24 : decode cX10_daysUntilPeace 24 = .ok (.aload_n 0, 1) := by decide +kernel
theorem dX10_daysUntilPeace_25 : decode cX10_daysUntilPeace 25 = .ok (.getfield 115, 3) := by decide +kernel
theorem dX10_daysUntilPeace_28 : decode cX10_daysUntilPeace 28 = .ok (.iastore, 1) := by decide +kernel
theorem dX10_daysUntilPeace_29 : decode cX10_daysUntilPeace 29 = .ok (.astore_n 1, 1) := by decide +kernel
theorem dX10_daysUntilPeace_30 : decode cX10_daysUntilPeace 30 = .ok (.iconst 0, 1) := by decide +kernel
theorem dX10_daysUntilPeace_31 : decode cX10_daysUntilPeace 31 = .ok (.istore_n 2, 1) := by decide +kernel
theorem dX10_daysUntilPeace_32 : decode cX10_daysUntilPeace 32 = .ok (.iload_n 2, 1) := by decide +kernel
theorem dX10_daysUntilPeace_33 : decode cX10_daysUntilPeace 33 = .ok (.bipush 30, 2) := by decide +kernel
theorem dX10_daysUntilPeace_35 : decode cX10_daysUntilPeace 35 = .ok (.if_icmp .gt 25, 3) := by decide +kernel
theorem dX10_daysUntilPeace_38 : decode cX10_daysUntilPeace 38 = .ok (.aload_n 0, 1) := by decide +kernel
theorem dX10_daysUntilPeace_39 : decode cX10_daysUntilPeace 39 = .ok (.aload_n 0, 1) := by decide +kernel
theorem dX10_daysUntilPeace_40 : decode cX10_daysUntilPeace 40 = .ok (.getfield 115, 3) := by decide +kernel
theorem dX10_daysUntilPeace_43 : decode cX10_daysUntilPeace 43 = .ok (.invokevirtual 415, 3) := by decide +kernel
theorem dX10_daysUntilPeace_46 : decode cX10_daysUntilPeace 46 = .ok (.ifCond .ne 14, 3) := by decide +kernel
theorem dX10_daysUntilPeace_49 : decode cX10_daysUntilPeace 49 = .ok (.aload_n 0, 1) := by decide +kernel
theorem dX10_daysUntilPeace_50 : decode cX10_daysUntilPeace 50 = .ok (.iconst 1, 1) := by decide +kernel
theorem dX10_daysUntilPeace_51 : decode cX10_daysUntilPeace 51 = .ok (.invokevirtual 409, 3) := by decide +kernel
theorem dX10_daysUntilPeace_54 : decode cX10_daysUntilPeace 54 = .ok (.iinc 2 1, 3) := by decide +kernel
theorem dX10_daysUntilPeace_57 : decode cX10_daysUntilPeace 57 = .ok (.goto (-25), 3) := by decide +kernel
theorem dX10_daysUntilPeace_60 : decode cX10_daysUntilPeace 60 = .ok (.aload_n 0, 1) := by decide +kernel
theorem dX10_daysUntilPeace_61 : decode cX10_daysUntilPeace 61 = .ok (.aload_n 1, 1) := by decide +kernel
theorem dX10_daysUntilPeace_62 : decode cX10_daysUntilPeace 62 = .ok (.iconst 0, 1) := by decide +kernel
theorem dX10_daysUntilPeace_63 : decode cX10_daysUntilPeace 63 = .ok (.iaload, 1) := by decide +kernel
theorem dX10_daysUntilPeace_64 : decode cX10_daysUntilPeace 64 = .ok (.aload_n 1, 1) := by decide +kernel
theorem dX10_daysUntilPeace_65 : decode cX10_daysUntilPeace 65 = .ok (.iconst 1, 1) := by decide +kernel
theorem dX10_daysUntilPeace_66 : decode cX10_daysUntilPeace 66 = .ok (.iaload, 1) := by decide +kernel
theorem dX10_daysUntilPeace_67 : decode cX10_daysUntilPeace 67 = .ok (.aload_n 1, 1) := by decide +kernel
theorem dX10_daysUntilPeace_68 : decode cX10_daysUntilPeace 68 = .ok (.iconst 2, 1) := by decide +kernel
theorem dX10_daysUntilPeace_69 : decode cX10_daysUntilPeace 69 = .ok (.iaload, 1) := by decide +kernel
theorem dX10_daysUntilPeace_70 : decode cX10_daysUntilPeace 70 = .ok (.invokevirtual 412, 3) := by decide +kernel
theorem dX10_daysUntilPeace_73 : decode cX10_daysUntilPeace 73 = .ok (.iload_n 2, 1) := by decide +kernel
theorem dX10_daysUntilPeace_74 : decode cX10_daysUntilPeace 74 = .ok (.bipush 30, 2) := by decide +kernel
theorem dX10_daysUntilPeace_76 : decode cX10_daysUntilPeace 76 = .ok (.if_icmp .le 7, 3) := by decide +kernel
theorem dX10_daysUntilPeace_79 : decode cX10_daysUntilPeace 79 = .ok (.iconst (-1), 1) := by decide +kernel
theorem dX10_daysUntilPeace_80 : decode cX10_daysUntilPeace 80 = .ok (.goto 4, 3) := by decide +kernel
theorem dX10_daysUntilPeace_83 : decode cX10_daysUntilPeace 83 = .ok (.iload_n 2, 1) := by decide +kernel
theorem dX10_daysUntilPeace_84 : decode cX10_daysUntilPeace 84 = .ok (.ireturn, 1) := by decide +kernel
theorem dX10_fewestToBreak_0 : decode cX10_fewestToBreak 0 = .ok (.aload_n 0, 1) := by decide +kernel
theorem dX10_fewestToBreak_1 : decode cX10_fewestToBreak 1 = .ok (.iconst 0, 1) := by decide +kernel
theorem dX10_fewestToBreak_2 : decode cX10_fewestToBreak 2 = .ok (.putfield 60, 3) := by decide +kernel
theorem dX10_fewestToBreak_5 : decode cX10_fewestToBreak 5 = .ok (.aload_n 0, 1) := by decide +kernel
theorem dX10_fewestToBreak_6 : decode cX10_fewestToBreak 6 = .ok (.aload_n 0, 1) := by decide +kernel
theorem dX10_fewestToBreak_7 : decode cX10_fewestToBreak 7 = .ok (.getfield 115, 3) := by decide +kernel
theorem dX10_fewestToBreak_10 : decode cX10_fewestToBreak 10 = .ok (.invokevirtual 415, 3) := by decide +kernel
theorem dX10_fewestToBreak_13 : decode cX10_fewestToBreak 13 = .ok (.ifCond .eq 5, 3) := by decide +kernel
theorem dX10_fewestToBreak_16 : decode cX10_fewestToBreak 16 = .ok (.iconst 0, 1) := by decide +kernel
theorem dX10_fewestToBreak_17 : decode cX10_fewestToBreak 17 = .ok (.ireturn, 1) := by decide +kernel
theorem dX10_fewestToBreak_18 : decode cX10_fewestToBreak 18 = .ok (.iconst 0, 1) := by decide +kernel
theorem dX10_fewestToBreak_19 : decode cX10_fewestToBreak 19 = .ok (.istore_n 1, 1) := by decide +kernel
theorem dX10_fewestToBreak_20 : decode cX10_fewestToBreak 20 = .ok (.iconst 0, 1) := by decide +kernel
theorem dX10_fewestToBreak_21 : decode cX10_fewestToBreak 21 = .ok (.istore_n 2, 1) := by decide +kernel
theorem dX10_fewestToBreak_22 : decode cX10_fewestToBreak 22 = .ok (.iload_n 2, 1) := by decide +kernel
theorem dX10_fewestToBreak_23 : decode cX10_fewestToBreak 23 = .ok (.aload_n 0, 1) := by decide +kernel
theorem dX10_fewestToBreak_24 : decode cX10_fewestToBreak 24 = .ok (.getfield 35, 3) := by decide +kernel
theorem dX10_fewestToBreak_27 : decode cX10_fewestToBreak 27 = .ok (.getfield 63, 3) := by decide +kernel
theorem dX10_fewestToBreak_30 : decode cX10_fewestToBreak 30 = .ok (.if_icmp .ge 90, 3) := by decide +kernel
theorem dX10_fewestToBreak_33 : decode cX10_fewestToBreak 33 = .ok (.aload_n 0, 1) := by decide +kernel
theorem dX10_fewestToBreak_34 : decode cX10_fewestToBreak 34 = .ok (.getfield 115, 3) := by decide +kernel
theorem dX10_fewestToBreak_37 : decode cX10_fewestToBreak 37 = .ok (.iconst 1, 1) := by decide +kernel
theorem dX10_fewestToBreak_38 : decode cX10_fewestToBreak 38 = .ok (.iload_n 2, 1) := by decide +kernel
theorem dX10_fewestToBreak_39 : decode cX10_fewestToBreak 39 = .ok (.ishl, 1) := by decide +kernel
theorem dX10_fewestToBreak_40 : decode cX10_fewestToBreak 40 = .ok (.iconst (-1), 1) := by decide +kernel
theorem dX10_fewestToBreak_41 : decode cX10_fewestToBreak 41 = .ok (.ixor, 1) := by decide +kernel
theorem dX10_fewestToBreak_42 : decode cX10_fewestToBreak 42 = .ok (.iand, 1) := by decide +kernel
theorem dX10_fewestToBreak_43 : decode cX10_fewestToBreak 43 = .ok (.istore_n 3, 1) := by decide +kernel
theorem dX10_fewestToBreak_44 : decode cX10_fewestToBreak 44 = .ok (.iload_n 3, 1) := by decide +kernel
theorem dX10_fewestToBreak_45 : decode cX10_fewestToBreak 45 = .ok (.aload_n 0, 1) := by decide +kernel
theorem dX10_fewestToBreak_46 : decode cX10_fewestToBreak 46 = .ok (.getfield 115, 3) := by decide +kernel
theorem dX10_fewestToBreak_49 : decode cX10_fewestToBreak 49 = .ok (.if_icmp .ne 6, 3) := by decide +kernel
theorem dX10_fewestToBreak_52 : decode cX10_fewestToBreak 52 = .ok (.goto 62, 3) := by decide +kernel
theorem dX10_fewestToBreak_55 : decode cX10_fewestToBreak 55 = .ok (.aload_n 0, 1) := by decide +kernel
theorem dX10_fewestToBreak_56 : decode cX10_fewestToBreak 56 = .ok (.iload_n 3, 1) := by decide +kernel
theorem dX10_fewestToBreak_57 : decode cX10_fewestToBreak 57 = .ok (.invokevirtual 415, 3) := by decide +kernel
theorem dX10_fewestToBreak_60 : decode cX10_fewestToBreak 60 = .ok (.ifCond .eq 5, 3) := by decide +kernel
theorem dX10_fewestToBreak_63 : decode cX10_fewestToBreak 63 = .ok (.iconst 1, 1) := by decide +kernel
theorem dX10_fewestToBreak_64 : decode cX10_fewestToBreak 64 = .ok (.ireturn, 1) := by decide +kernel
theorem dX10_fewestToBreak_65 : decode cX10_fewestToBreak 65 = .ok (.iconst 0, 1) := by decide +kernel
theorem dX10_fewestToBreak_66 : decode cX10_fewestToBreak 66 = .ok (.istore 4, 2) := by decide +kernel
theorem dX10_fewestToBreak_68 : decode cX10_fewestToBreak 68 = .ok (.iload 4, 2) := by decide +kernel
theorem dX10_fewestToBreak_70 : decode cX10_fewestToBreak 70 = .ok (.iload_n 2, 1) := by decide +kernel
theorem dX10_fewestToBreak_71 : decode cX10_fewestToBreak 71 = .ok (.if_icmp .ge 43, 3) := by decide +kernel
theorem dX10_fewestToBreak_74 : decode cX10_fewestToBreak 74 = .ok (.iload_n 1, 1) := by decide +kernel
theorem dX10_fewestToBreak_75 : decode cX10_fewestToBreak 75 = .ok (.ifCond .ne 39, 3) := by decide +kernel
theorem dX10_fewestToBreak_78 : decode cX10_fewestToBreak 78 = .ok (.iload_n 3, 1) := by decide +kernel
theorem dX10_fewestToBreak_79 : decode cX10_fewestToBreak 79 = .ok (.iload 4, 2) := by decide +kernel
theorem dX10_fewestToBreak_81 : decode cX10_fewestToBreak 81 = .ok (.invokestatic 74, 3) := by decide +kernel
theorem dX10_fewestToBreak_84 : decode cX10_fewestToBreak 84 = .ok (.ifCond .eq 22, 3) := by decide +kernel
theorem dX10_fewestToBreak_87 : decode cX10_fewestToBreak 87 = .ok (.aload_n 0, 1) := by decide +kernel
theorem dX10_fewestToBreak_88 : decode cX10_fewestToBreak 88 = .ok (.iload_n 3, 1) := by decide +kernel
theorem dX10_fewestToBreak_89 : decode cX10_fewestToBreak 89 = .ok (.iconst 1, 1) := by decide +kernel
theorem dX10_fewestToBreak_90 : decode cX10_fewestToBreak 90 = .ok (.iload 4, 2) := by decide +kernel
theorem dX10_fewestToBreak_92 : decode cX10_fewestToBreak 92 = .ok (.ishl, 1) := by decide +kernel
theorem dX10_fewestToBreak_93 : decode cX10_fewestToBreak 93 = .ok (.iconst (-1), 1) := by decide +kernel
theorem dX10_fewestToBreak_94 : decode cX10_fewestToBreak 94 = .ok (.ixor, 1) := by decide +kernel
theorem dX10_fewestToBreak_95 : decode cX10_fewestToBreak 95 = .ok (.iand, 1) := by decide +kernel
theorem dX10_fewestToBreak_96 : decode cX10_fewestToBreak 96 = .ok (.invokevirtual 415, 3) := by decide +kernel
theorem dX10_fewestToBreak_99 : decode cX10_fewestToBreak 99 = .ok (.ifCond .eq 7, 3) := by decide +kernel
theorem dX10_fewestToBreak_102 : decode cX10_fewestToBreak 102 = .ok (.iconst 1, 1) := by decide +kernel
theorem dX10_fewestToBreak_103 : decode cX10_fewestToBreak 103 = .ok (.goto 4, 3) := by decide +kernel
theorem dX10_fewestToBreak_106 : decode cX10_fewestToBreak 106 = .ok (.iconst 0, 1) := by decide +kernel
theorem dX10_fewestToBreak_107 : decode cX10_fewestToBreak 107 = .ok (.istore_n 1, 1) := by decide +kernel
theorem dX10_fewestToBreak_108 : decode cX10_fewestToBreak 108 = .ok (.iinc 4 1, 3) := by decide +kernel
theorem dX10_fewestToBreak_111 : decode cX10_fewestToBreak 111 = .ok (.goto (-43), 3) := by decide +kernel
theorem dX10_fewestToBreak_114 : decode cX10_fewestToBreak 114 = .ok (.iinc 2 1, 3) := by decide +kernel
theorem dX10_fewestToBreak_117 : decode cX10_fewestToBreak 117 = .ok (.goto (-95), 3) := by decide +kernel
theorem dX10_fewestToBreak_120 : decode cX10_fewestToBreak 120 = .ok (.iload_n 1, 1) := by decide +kernel
theorem dX10_fewestToBreak_121 : decode cX10_fewestToBreak 121 = .ok (.ifCond .eq 7, 3) := by decide +kernel
theorem dX10_fewestToBreak_124 : decode cX10_fewestToBreak 124 = .ok (.iconst 2, 1) := by decide +kernel
theorem dX10_fewestToBreak_125 : decode cX10_fewestToBreak 125 = .ok (.goto 4, 3) := by decide +kernel
theorem dX10_fewestToBreak_128 : decode cX10_fewestToBreak 128 = .ok (.iconst (-1), 1) := by decide +kernel
theorem dX10_fewestToBreak_129 : decode cX10_fewestToBreak 129 = .ok (.ireturn, 1) := by decide +kernel
theorem dX10_mostTelling_0 : decode cX10_mostTelling 0 = .ok (.iconst (-1), 1) := by decide +kernel
theorem dX10_mostTelling_1 : decode cX10_mostTelling 1 = .ok (.istore_n 1, 1) := by decide +kernel
theorem dX10_mostTelling_2 : decode cX10_mostTelling 2 = .ok (.iconst 0, 1) := by decide +kernel
theorem dX10_mostTelling_3 : decode cX10_mostTelling 3 = .ok (.istore_n 2, 1) := by decide +kernel
theorem dX10_mostTelling_4 : decode cX10_mostTelling 4 = .ok (.iload_n 2, 1) := by decide +kernel
theorem dX10_mostTelling_5 : decode cX10_mostTelling 5 = .ok (.aload_n 0, 1) := by decide +kernel
theorem dX10_mostTelling_6 : decode cX10_mostTelling 6 = .ok (.getfield 35, 3) := by decide +kernel
theorem dX10_mostTelling_9 : decode cX10_mostTelling 9 = .ok (.invokevirtual 70, 3) := by decide +kernel
theorem dX10_mostTelling_12 : decode cX10_mostTelling 12 = .ok (.if_icmp .ge 40, 3) := by decide +kernel
theorem dX10_mostTelling_15 : decode cX10_mostTelling 15 = .ok (.aload_n 0, 1) := by decide +kernel
theorem dX10_mostTelling_16 : decode cX10_mostTelling 16 = .ok (.getfield 48, 3) := by decide +kernel
theorem dX10_mostTelling_19 : decode cX10_mostTelling 19 = .ok (.iload_n 2, 1) := by decide +kernel
theorem dX10_mostTelling_20 : decode cX10_mostTelling 20 = .ok (.iaload, 1) := by decide +kernel
theorem dX10_mostTelling_21 : decode cX10_mostTelling 21 = .ok (.ifCond .le 25, 3) := by decide +kernel
theorem dX10_mostTelling_24 : decode cX10_mostTelling 24 = .ok (.iload_n 1, 1) := by decide +kernel
theorem dX10_mostTelling_25 : decode cX10_mostTelling 25 = .ok (.iconst (-1), 1) := by decide +kernel
theorem dX10_mostTelling_26 : decode cX10_mostTelling 26 = .ok (.if_icmp .eq 18, 3) := by decide +kernel
theorem dX10_mostTelling_29 : decode cX10_mostTelling 29 = .ok (.aload_n 0, 1) := by decide +kernel
theorem dX10_mostTelling_30 : decode cX10_mostTelling 30 = .ok (.getfield 48, 3) := by decide +kernel
theorem dX10_mostTelling_33 : decode cX10_mostTelling 33 = .ok (.iload_n 2, 1) := by decide +kernel
theorem dX10_mostTelling_34 : decode cX10_mostTelling 34 = .ok (.iaload, 1) := by decide +kernel
theorem dX10_mostTelling_35 : decode cX10_mostTelling 35 = .ok (.aload_n 0, 1) := by decide +kernel
theorem dX10_mostTelling_36 : decode cX10_mostTelling 36 = .ok (.getfield 48, 3) := by decide +kernel
theorem dX10_mostTelling_39 : decode cX10_mostTelling 39 = .ok (.iload_n 1, 1) := by decide +kernel
theorem dX10_mostTelling_40 : decode cX10_mostTelling 40 = .ok (.iaload, 1) := by decide +kernel
theorem dX10_mostTelling_41 : decode cX10_mostTelling 41 = .ok (.if_icmp .ge 5, 3) := by decide +kernel
theorem dX10_mostTelling_44 : decode cX10_mostTelling 44 = .ok (.iload_n 2, 1) := by decide +kernel
theorem dX10_mostTelling_45 : decode cX10_mostTelling 45 = .ok (.istore_n 1, 1) := by decide +kernel
theorem dX10_mostTelling_46 : decode cX10_mostTelling 46 = .ok (.iinc 2 1, 3) := by decide +kernel
theorem dX10_mostTelling_49 : decode cX10_mostTelling 49 = .ok (.goto (-45), 3) := by decide +kernel
theorem dX10_mostTelling_52 : decode cX10_mostTelling 52 = .ok (.iload_n 1, 1) := by decide +kernel
theorem dX10_mostTelling_53 : decode cX10_mostTelling 53 = .ok (.ireturn, 1) := by decide +kernel
theorem dX10_mostTellingOath_0 : decode cX10_mostTellingOath 0 = .ok (.aload_n 0, 1) := by decide +kernel
theorem dX10_mostTellingOath_1 : decode cX10_mostTellingOath 1 = .ok (.iconst 0, 1) := by decide +kernel
theorem dX10_mostTellingOath_2 : decode cX10_mostTellingOath 2 = .ok (.putfield 60, 3) := by decide +kernel
theorem dX10_mostTellingOath_5 : decode cX10_mostTellingOath 5 = .ok (.aload_n 0, 1) := by decide +kernel
theorem dX10_mostTellingOath_6 : decode cX10_mostTellingOath 6 = .ok (.aload_n 0, 1) := by decide +kernel
theorem dX10_mostTellingOath_7 : decode cX10_mostTellingOath 7 = .ok (.getfield 115, 3) := by decide +kernel
theorem dX10_mostTellingOath_10 : decode cX10_mostTellingOath 10 = .ok (.invokevirtual 182, 3) := by decide +kernel
theorem dX10_mostTellingOath_13 : decode cX10_mostTellingOath 13 = .ok (.ifCond .eq 13, 3) := by decide +kernel
theorem dX10_mostTellingOath_16 : decode cX10_mostTellingOath 16 = .ok (.aload_n 0, 1) := by decide +kernel
theorem dX10_mostTellingOath_17 : decode cX10_mostTellingOath 17 = .ok (.getfield 35, 3) := by decide +kernel
theorem dX10_mostTellingOath_20 : decode cX10_mostTellingOath 20 = .ok (.getfield 88, 3) := by decide +kernel
theorem dX10_mostTellingOath_23 : decode cX10_mostTellingOath 23 = .ok (.ifCond .ne 11, 3) := by decide +kernel
theorem dX10_mostTellingOath_26 : decode cX10_mostTellingOath 26 = .ok (.aload_n 0, 1) := by decide +kernel
theorem dX10_mostTellingOath_27 : decode cX10_mostTellingOath 27 = .ok (.iconst 1, 1) := by decide +kernel
theorem dX10_mostTellingOath_28 : decode cX10_mostTellingOath 28 = .ok (.invokevirtual 367, 3) := by decide +kernel
theorem dX10_mostTellingOath_31 : decode cX10_mostTellingOath 31 = .ok (.goto 7, 3) := by decide +kernel
theorem dX10_mostTellingOath_34 : decode cX10_mostTellingOath 34 = .ok (.aload_n 0, 1) := by decide +kernel
theorem dX10_mostTellingOath_35 : decode cX10_mostTellingOath 35 = .ok (.invokevirtual 418, 3) := by decide +kernel
theorem dX10_mostTellingOath_38 : decode cX10_mostTellingOath 38 = .ok (.ireturn, 1) := by decide +kernel
theorem dX10_meanRiders_0 : decode cX10_meanRiders 0 = .ok (.aload_n 0, 1) := by decide +kernel
theorem dX10_meanRiders_1 : decode cX10_meanRiders 1 = .ok (.iconst 0, 1) := by decide +kernel
theorem dX10_meanRiders_2 : decode cX10_meanRiders 2 = .ok (.putfield 60, 3) := by decide +kernel
theorem dX10_meanRiders_5 : decode cX10_meanRiders 5 = .ok (.aload_n 0, 1) := by decide +kernel
theorem dX10_meanRiders_6 : decode cX10_meanRiders 6 = .ok (.aload_n 0, 1) := by decide +kernel
theorem dX10_meanRiders_7 : decode cX10_meanRiders 7 = .ok (.getfield 115, 3) := by decide +kernel
theorem dX10_meanRiders_10 : decode cX10_meanRiders 10 = .ok (.invokevirtual 182, 3) := by decide +kernel
theorem dX10_meanRiders_13 : decode cX10_meanRiders 13 = .ok (.ifCond .ne 7, 3) := by decide +kernel
theorem dX10_meanRiders_16 : decode cX10_meanRiders 16 = .ok (.dconst 0, 1) := by decide +kernel
theorem dX10_meanRiders_17 : decode cX10_meanRiders 17 = .ok (.goto 14, 3) := by decide +kernel
theorem dX10_meanRiders_20 : decode cX10_meanRiders 20 = .ok (.aload_n 0, 1) := by decide +kernel
theorem dX10_meanRiders_21 : decode cX10_meanRiders 21 = .ok (.getfield 97, 3) := by decide +kernel
theorem dX10_meanRiders_24 : decode cX10_meanRiders 24 = .ok (.i2d, 1) := by decide +kernel
theorem dX10_meanRiders_25 : decode cX10_meanRiders 25 = .ok (.aload_n 0, 1) := by decide +kernel
theorem dX10_meanRiders_26 : decode cX10_meanRiders 26 = .ok (.getfield 94, 3) := by decide +kernel
theorem dX10_meanRiders_29 : decode cX10_meanRiders 29 = .ok (.i2d, 1) := by decide +kernel
theorem dX10_meanRiders_30 : decode cX10_meanRiders 30 = .ok (.ddiv, 1) := by decide +kernel
theorem dX10_meanRiders_31 : decode cX10_meanRiders 31 = .ok (.dreturn, 1) := by decide +kernel
theorem dX10_digest_0 : decode cX10_digest 0 = .ok (.aload_n 0, 1) := by decide +kernel
theorem dX10_digest_1 : decode cX10_digest 1 = .ok (.iconst 0, 1) := by decide +kernel
theorem dX10_digest_2 : decode cX10_digest 2 = .ok (.putfield 60, 3) := by decide +kernel
theorem dX10_digest_5 : decode cX10_digest 5 = .ok (.bipush 9, 2) := by decide +kernel
theorem dX10_digest_7 : decode cX10_digest 7 = .ok (.newarray .int, 2) := by decide +kernel
theorem dX10_digest_9 : decode cX10_digest 9 = .ok (.dup, 1) := by decide +kernel
theorem dX10_digest_10 : decode cX10_digest 10 = .ok (.iconst 0, 1) := by decide +kernel
theorem dX10_digest_11 : decode cX10_digest 11 = .ok (.aload_n 0, 1) := by decide +kernel
theorem dX10_digest_12 : decode cX10_digest 12 = .ok (.getfield 35, 3) := by decide +kernel
theorem dX10_digest_15 : decode cX10_digest 15 = .ok (.getfield 88, 3) := by decide +kernel
theorem dX10_digest_18 : decode cX10_digest 18 = .ok (.iastore, 1) := by decide +kernel
theorem dX10_digest_19 : decode cX10_digest 19 = .ok (.dup, 1) := by decide +kernel
theorem dX10_digest_20 : decode cX10_digest 20 = .ok (.iconst 1, 1) := by decide +kernel
theorem dX10_digest_21 : decode cX10_digest 21 = .ok (.aload_n 0, 1) := by decide +kernel
theorem dX10_digest_22 : decode cX10_digest 22 = .ok (.getfield 35, 3) := by decide +kernel
theorem dX10_digest_25 : decode cX10_digest 25 = .ok (.getfield 63, 3) := by decide +kernel
theorem dX10_digest_28 : decode cX10_digest 28 = .ok (.iastore, 1) := by decide +kernel
theorem dX10_digest_29 : decode cX10_digest 29 = .ok (.dup, 1) := by decide +kernel
theorem dX10_digest_30 : decode cX10_digest 30 = .ok (.iconst 2, 1) := by decide +kernel
theorem dX10_digest_31 : decode cX10_digest 31 = .ok (.aload_n 0, 1) := by decide +kernel
theorem dX10_digest_32 : decode cX10_digest 32 = .ok (.getfield 35, 3) := by decide +kernel
theorem dX10_digest_35 : decode cX10_digest 35 = .ok (.getfield 150, 3) := by decide +kernel
theorem dX10_digest_38 : decode cX10_digest 38 = .ok (.iastore, 1) := by decide +kernel
theorem dX10_digest_39 : decode cX10_digest 39 = .ok (.dup, 1) := by decide +kernel
theorem dX10_digest_40 : decode cX10_digest 40 = .ok (.iconst 3, 1) := by decide +kernel
theorem dX10_digest_41 : decode cX10_digest 41 = .ok (.aload_n 0, 1) := by decide +kernel
theorem dX10_digest_42 : decode cX10_digest 42 = .ok (.getfield 163, 3) := by decide +kernel
theorem dX10_digest_45 : decode cX10_digest 45 = .ok (.iastore, 1) := by decide +kernel
theorem dX10_digest_46 : decode cX10_digest 46 = .ok (.dup, 1) := by decide +kernel
theorem dX10_digest_47 : decode cX10_digest 47 = .ok (.iconst 4, 1) := by decide +kernel
theorem dX10_digest_48 : decode cX10_digest 48 = .ok (.aload_n 0, 1) := by decide +kernel
theorem dX10_digest_49 : decode cX10_digest 49 = .ok (.getfield 160, 3) := by decide +kernel
theorem dX10_digest_52 : decode cX10_digest 52 = .ok (.iastore, 1) := by decide +kernel
theorem dX10_digest_53 : decode cX10_digest 53 = .ok (.dup, 1) := by decide +kernel
theorem dX10_digest_54 : decode cX10_digest 54 = .ok (.iconst 5, 1) := by decide +kernel
theorem dX10_digest_55 : decode cX10_digest 55 = .ok (.aload_n 0, 1) := by decide +kernel
theorem dX10_digest_56 : decode cX10_digest 56 = .ok (.getfield 200, 3) := by decide +kernel
theorem dX10_digest_59 : decode cX10_digest 59 = .ok (.iastore, 1) := by decide +kernel
theorem dX10_digest_60 : decode cX10_digest 60 = .ok (.dup, 1) := by decide +kernel
theorem dX10_digest_61 : decode cX10_digest 61 = .ok (.bipush 6, 2) := by decide +kernel
theorem dX10_digest_63 : decode cX10_digest 63 = .ok (.aload_n 0, 1) := by decide +kernel
theorem dX10_digest_64 : decode cX10_digest 64 = .ok (.getfield 115, 3) := by decide +kernel
theorem dX10_digest_67 : decode cX10_digest 67 = .ok (.invokestatic 106, 3) := by decide +kernel
theorem dX10_digest_70 : decode cX10_digest 70 = .ok (.iastore, 1) := by decide +kernel
theorem dX10_digest_71 : decode cX10_digest 71 = .ok (.dup, 1) := by decide +kernel
theorem dX10_digest_72 : decode cX10_digest 72 = .ok (.bipush 7, 2) := by decide +kernel
theorem dX10_digest_74 : decode cX10_digest 74 = .ok (.aload_n 0, 1) := by decide +kernel
theorem dX10_digest_75 : decode cX10_digest 75 = .ok (.invokevirtual 179, 3) := by decide +kernel
theorem dX10_digest_78 : decode cX10_digest 78 = .ok (.iastore, 1) := by decide +kernel
theorem dX10_digest_79 : decode cX10_digest 79 = .ok (.dup, 1) := by decide +kernel
theorem dX10_digest_80 : decode cX10_digest 80 = .ok (.bipush 8, 2) := by decide +kernel
theorem dX10_digest_82 : decode cX10_digest 82 = .ok (.aload_n 0, 1) := by decide +kernel
theorem dX10_digest_83 : decode cX10_digest 83 = .ok (.aload_n 0, 1) := by decide +kernel
theorem dX10_digest_84 : decode cX10_digest 84 = .ok (.getfield 115, 3) := by decide +kernel
theorem dX10_digest_87 : decode cX10_digest 87 = .ok (.invokevirtual 182, 3) := by decide +kernel
theorem dX10_digest_90 : decode cX10_digest 90 = .ok (.iastore, 1) := by decide +kernel
theorem dX10_digest_91 : decode cX10_digest 91 = .ok (.astore_n 1, 1) := by decide +kernel
theorem dX10_digest_92 : decode cX10_digest 92 = .ok (.ldc2_w 421, 3) := by decide +kernel
theorem dX10_digest_95 : decode cX10_digest 95 = .ok (.lstore_n 2, 1) := by decide +kernel
theorem dX10_digest_96 : decode cX10_digest 96 = .ok (.aload_n 1, 1) := by decide +kernel
theorem dX10_digest_97 : decode cX10_digest 97 = .ok (.astore 4, 2) := by decide +kernel
theorem dX10_digest_99 : decode cX10_digest 99 = .ok (.aload 4, 2) := by decide +kernel
theorem dX10_digest_101 : decode cX10_digest 101 = .ok (.arraylength, 1) := by decide +kernel
theorem dX10_digest_102 : decode cX10_digest 102 = .ok (.istore 5, 2) := by decide +kernel
theorem dX10_digest_104 : decode cX10_digest 104 = .ok (.iconst 0, 1) := by decide +kernel
theorem dX10_digest_105 : decode cX10_digest 105 = .ok (.istore 6, 2) := by decide +kernel
theorem dX10_digest_107 : decode cX10_digest 107 = .ok (.iload 6, 2) := by decide +kernel
theorem dX10_digest_109 : decode cX10_digest 109 = .ok (.iload 5, 2) := by decide +kernel
theorem dX10_digest_111 : decode cX10_digest 111 = .ok (.if_icmp .ge 26, 3) := by decide +kernel
theorem dX10_digest_114 : decode cX10_digest 114 = .ok (.aload 4, 2) := by decide +kernel
theorem dX10_digest_116 : decode cX10_digest 116 = .ok (.iload 6, 2) := by decide +kernel
theorem dX10_digest_118 : decode cX10_digest 118 = .ok (.iaload, 1) := by decide +kernel
theorem dX10_digest_119 : decode cX10_digest 119 = .ok (.istore 7, 2) := by decide +kernel
theorem dX10_digest_121 : decode cX10_digest 121 = .ok (.lload_n 2, 1) := by decide +kernel
theorem dX10_digest_122 : decode cX10_digest 122 = .ok (.ldc2_w 423, 3) := by decide +kernel
theorem dX10_digest_125 : decode cX10_digest 125 = .ok (.lmul, 1) := by decide +kernel
theorem dX10_digest_126 : decode cX10_digest 126 = .ok (.iload 7, 2) := by decide +kernel
theorem dX10_digest_128 : decode cX10_digest 128 = .ok (.i2l, 1) := by decide +kernel
theorem dX10_digest_129 : decode cX10_digest 129 = .ok (.ladd, 1) := by decide +kernel
theorem dX10_digest_130 : decode cX10_digest 130 = .ok (.lstore_n 2, 1) := by decide +kernel
theorem dX10_digest_131 : decode cX10_digest 131 = .ok (.iinc 6 1, 3) := by decide +kernel
theorem dX10_digest_134 : decode cX10_digest 134 = .ok (.goto (-27), 3) := by decide +kernel
theorem dX10_digest_137 : decode cX10_digest 137 = .ok (.iconst 0, 1) := by decide +kernel
theorem dX10_digest_138 : decode cX10_digest 138 = .ok (.istore 4, 2) := by decide +kernel
theorem dX10_digest_140 : decode cX10_digest 140 = .ok (.iload 4, 2) := by decide +kernel
theorem dX10_digest_142 : decode cX10_digest 142 = .ok (.aload_n 0, 1) := by decide +kernel
theorem dX10_digest_143 : decode cX10_digest 143 = .ok (.getfield 35, 3) := by decide +kernel
theorem dX10_digest_146 : decode cX10_digest 146 = .ok (.getfield 63, 3) := by decide +kernel
theorem dX10_digest_149 : decode cX10_digest 149 = .ok (.if_icmp .ge 80, 3) := by decide +kernel
theorem dX10_digest_152 : decode cX10_digest 152 = .ok (.lload_n 2, 1) := by decide +kernel
theorem dX10_digest_153 : decode cX10_digest 153 = .ok (.ldc2_w 423, 3) := by decide +kernel
theorem dX10_digest_156 : decode cX10_digest 156 = .ok (.lmul, 1) := by decide +kernel
theorem dX10_digest_157 : decode cX10_digest 157 = .ok (.aload_n 0, 1) := by decide +kernel
theorem dX10_digest_158 : decode cX10_digest 158 = .ok (.iload 4, 2) := by decide +kernel
theorem dX10_digest_160 : decode cX10_digest 160 = .ok (.invokevirtual 382, 3) := by decide +kernel
theorem dX10_digest_163 : decode cX10_digest 163 = .ok (.i2l, 1) := by decide +kernel
theorem dX10_digest_164 : decode cX10_digest 164 = .ok (.ladd, 1) := by decide +kernel
theorem dX10_digest_165 : decode cX10_digest 165 = .ok (.ldc2_w 423, 3) := by decide +kernel
theorem dX10_digest_168 : decode cX10_digest 168 = .ok (.lmul, 1) := by decide +kernel
theorem dX10_digest_169 : decode cX10_digest 169 = .ok (.aload_n 0, 1) := by decide +kernel
theorem dX10_digest_170 : decode cX10_digest 170 = .ok (.getfield 35, 3) := by decide +kernel
theorem dX10_digest_173 : decode cX10_digest 173 = .ok (.getfield 337, 3) := by decide +kernel
theorem dX10_digest_176 : decode cX10_digest 176 = .ok (.iload 4, 2) := by decide +kernel
theorem dX10_digest_178 : decode cX10_digest 178 = .ok (.iaload, 1) := by decide +kernel
theorem dX10_digest_179 : decode cX10_digest 179 = .ok (.i2l, 1) := by decide +kernel
theorem dX10_digest_180 : decode cX10_digest 180 = .ok (.ladd, 1) := by decide +kernel
theorem dX10_digest_181 : decode cX10_digest 181 = .ok (.lstore_n 2, 1) := by decide +kernel
theorem dX10_digest_182 : decode cX10_digest 182 = .ok (.lload_n 2, 1) := by decide +kernel
theorem dX10_digest_183 : decode cX10_digest 183 = .ok (.ldc2_w 423, 3) := by decide +kernel
theorem dX10_digest_186 : decode cX10_digest 186 = .ok (.lmul, 1) := by decide +kernel
theorem dX10_digest_187 : decode cX10_digest 187 = .ok (.aload_n 0, 1) := by decide +kernel
theorem dX10_digest_188 : decode cX10_digest 188 = .ok (.getfield 35, 3) := by decide +kernel
theorem dX10_digest_191 : decode cX10_digest 191 = .ok (.getfield 340, 3) := by decide +kernel
theorem dX10_digest_194 : decode cX10_digest 194 = .ok (.iload 4, 2) := by decide +kernel
theorem dX10_digest_196 : decode cX10_digest 196 = .ok (.iaload, 1) := by decide +kernel
theorem dX10_digest_197 : decode cX10_digest 197 = .ok (.i2l, 1) := by decide +kernel
theorem dX10_digest_198 : decode cX10_digest 198 = .ok (.ladd, 1) := by decide +kernel
theorem dX10_digest_199 : decode cX10_digest 199 = .ok (.ldc2_w 423, 3) := by decide +kernel
theorem dX10_digest_202 : decode cX10_digest 202 = .ok (.lmul, 1) := by decide +kernel
theorem dX10_digest_203 : decode cX10_digest 203 = .ok (.aload_n 0, 1) := by decide +kernel
theorem dX10_digest_204 : decode cX10_digest 204 = .ok (.getfield 115, 3) := by decide +kernel
theorem dX10_digest_207 : decode cX10_digest 207 = .ok (.iload 4, 2) := by decide +kernel
theorem dX10_digest_209 : decode cX10_digest 209 = .ok (.invokestatic 74, 3) := by decide +kernel
theorem dX10_digest_212 : decode cX10_digest 212 = .ok (.ifCond .eq 7, 3) := by decide +kernel
theorem dX10_digest_215 : decode cX10_digest 215 = .ok (.iconst 1, 1) := by decide +kernel
theorem dX10_digest_216 : decode cX10_digest 216 = .ok (.goto 4, 3) := by decide +kernel
theorem dX10_digest_219 : decode cX10_digest 219 = .ok (.iconst 0, 1) := by decide +kernel
theorem dX10_digest_220 : decode cX10_digest 220 = .ok (.i2l, 1) := by decide +kernel
theorem dX10_digest_221 : decode cX10_digest 221 = .ok (.ladd, 1) := by decide +kernel
theorem dX10_digest_222 : decode cX10_digest 222 = .ok (.lstore_n 2, 1) := by decide +kernel
theorem dX10_digest_223 : decode cX10_digest 223 = .ok (.iinc 4 1, 3) := by decide +kernel
theorem dX10_digest_226 : decode cX10_digest 226 = .ok (.goto (-86), 3) := by decide +kernel
theorem dX10_digest_229 : decode cX10_digest 229 = .ok (.iconst 0, 1) := by decide +kernel
theorem dX10_digest_230 : decode cX10_digest 230 = .ok (.istore 4, 2) := by decide +kernel
theorem dX10_digest_232 : decode cX10_digest 232 = .ok (.iload 4, 2) := by decide +kernel
theorem dX10_digest_234 : decode cX10_digest 234 = .ok (.aload_n 0, 1) := by decide +kernel
theorem dX10_digest_235 : decode cX10_digest 235 = .ok (.getfield 35, 3) := by decide +kernel
theorem dX10_digest_238 : decode cX10_digest 238 = .ok (.invokevirtual 70, 3) := by decide +kernel
theorem dX10_digest_241 : decode cX10_digest 241 = .ok (.if_icmp .ge 47, 3) := by decide +kernel
theorem dX10_digest_244 : decode cX10_digest 244 = .ok (.lload_n 2, 1) := by decide +kernel
theorem dX10_digest_245 : decode cX10_digest 245 = .ok (.ldc2_w 423, 3) := by decide +kernel
theorem dX10_digest_248 : decode cX10_digest 248 = .ok (.lmul, 1) := by decide +kernel
theorem dX10_digest_249 : decode cX10_digest 249 = .ok (.aload_n 0, 1) := by decide +kernel
theorem dX10_digest_250 : decode cX10_digest 250 = .ok (.iload 4, 2) := by decide +kernel
theorem dX10_digest_252 : decode cX10_digest 252 = .ok (.invokevirtual 391, 3) := by decide +kernel
theorem dX10_digest_255 : decode cX10_digest 255 = .ok (.i2l, 1) := by decide +kernel
theorem dX10_digest_256 : decode cX10_digest 256 = .ok (.ladd, 1) := by decide +kernel
theorem dX10_digest_257 : decode cX10_digest 257 = .ok (.ldc2_w 423, 3) := by decide +kernel
theorem dX10_digest_260 : decode cX10_digest 260 = .ok (.lmul, 1) := by decide +kernel
theorem dX10_digest_261 : decode cX10_digest 261 = .ok (.aload_n 0, 1) := by decide +kernel
theorem dX10_digest_262 : decode cX10_digest 262 = .ok (.iload 4, 2) := by decide +kernel
theorem dX10_digest_264 : decode cX10_digest 264 = .ok (.invokevirtual 397, 3) := by decide +kernel
theorem dX10_digest_267 : decode cX10_digest 267 = .ok (.i2l, 1) := by decide +kernel
theorem dX10_digest_268 : decode cX10_digest 268 = .ok (.ladd, 1) := by decide +kernel
theorem dX10_digest_269 : decode cX10_digest 269 = .ok (.ldc2_w 423, 3) := by decide +kernel
theorem dX10_digest_272 : decode cX10_digest 272 = .ok (.lmul, 1) := by decide +kernel
theorem dX10_digest_273 : decode cX10_digest 273 = .ok (.aload_n 0, 1) := by decide +kernel
theorem dX10_digest_274 : decode cX10_digest 274 = .ok (.iload 4, 2) := by decide +kernel
theorem dX10_digest_276 : decode cX10_digest 276 = .ok (.invokevirtual 187, 3) := by decide +kernel
theorem dX10_digest_279 : decode cX10_digest 279 = .ok (.i2l, 1) := by decide +kernel
theorem dX10_digest_280 : decode cX10_digest 280 = .ok (.ladd, 1) := by decide +kernel
theorem dX10_digest_281 : decode cX10_digest 281 = .ok (.lstore_n 2, 1) := by decide +kernel
theorem dX10_digest_282 : decode cX10_digest 282 = .ok (.iinc 4 1, 3) := by decide +kernel
theorem dX10_digest_285 : decode cX10_digest 285 = .ok (.goto (-53), 3) := by decide +kernel
theorem dX10_digest_288 : decode cX10_digest 288 = .ok (.iconst 0, 1) := by decide +kernel
theorem dX10_digest_289 : decode cX10_digest 289 = .ok (.istore 4, 2) := by decide +kernel
theorem dX10_digest_291 : decode cX10_digest 291 = .ok (.iload 4, 2) := by decide +kernel
theorem dX10_digest_293 : decode cX10_digest 293 = .ok (.aload_n 0, 1) := by decide +kernel
theorem dX10_digest_294 : decode cX10_digest 294 = .ok (.getfield 35, 3) := by decide +kernel
theorem dX10_digest_297 : decode cX10_digest 297 = .ok (.getfield 88, 3) := by decide +kernel
theorem dX10_digest_300 : decode cX10_digest 300 = .ok (.if_icmp .ge 41, 3) := by decide +kernel
theorem dX10_digest_303 : decode cX10_digest 303 = .ok (.aload_n 0, 1) := by decide +kernel
theorem dX10_digest_304 : decode cX10_digest 304 = .ok (.getfield 94, 3) := by decide +kernel
theorem dX10_digest_307 : decode cX10_digest 307 = .ok (.ifCond .le 34, 3) := by decide +kernel
theorem dX10_digest_310 : decode cX10_digest 310 = .ok (.lload_n 2, 1) := by decide +kernel
theorem dX10_digest_311 : decode cX10_digest 311 = .ok (.ldc2_w 423, 3) := by decide +kernel
theorem dX10_digest_314 : decode cX10_digest 314 = .ok (.lmul, 1) := by decide +kernel
theorem dX10_digest_315 : decode cX10_digest 315 = .ok (.aload_n 0, 1) := by decide +kernel
theorem dX10_digest_316 : decode cX10_digest 316 = .ok (.getfield 100, 3) := by decide +kernel
theorem dX10_digest_319 : decode cX10_digest 319 = .ok (.iload 4, 2) := by decide +kernel
theorem dX10_digest_321 : decode cX10_digest 321 = .ok (.invokestatic 74, 3) := by decide +kernel
theorem dX10_digest_324 : decode cX10_digest 324 = .ok (.ifCond .eq 7, 3) := by decide +kernel
theorem dX10_digest_327 : decode cX10_digest 327 = .ok (.iconst 1, 1) := by decide +kernel
theorem dX10_digest_328 : decode cX10_digest 328 = .ok (.goto 4, 3) := by decide +kernel
theorem dX10_digest_331 : decode cX10_digest 331 = .ok (.iconst 0, 1) := by decide +kernel
theorem dX10_digest_332 : decode cX10_digest 332 = .ok (.i2l, 1) := by decide +kernel
theorem dX10_digest_333 : decode cX10_digest 333 = .ok (.ladd, 1) := by decide +kernel
theorem dX10_digest_334 : decode cX10_digest 334 = .ok (.lstore_n 2, 1) := by decide +kernel
theorem dX10_digest_335 : decode cX10_digest 335 = .ok (.iinc 4 1, 3) := by decide +kernel
theorem dX10_digest_338 : decode cX10_digest 338 = .ok (.goto (-47), 3) := by decide +kernel
theorem dX10_digest_341 : decode cX10_digest 341 = .ok (.lload_n 2, 1) := by decide +kernel
theorem dX10_digest_342 : decode cX10_digest 342 = .ok (.lreturn, 1) := by decide +kernel
theorem dJ11_isValidCodePoint_9a6ad_0 : decode cJ11_isValidCodePoint_9a6ad 0 = .ok (.iload_n 0, 1) := by decide +kernel
theorem dJ11_isValidCodePoint_9a6ad_1 : decode cJ11_isValidCodePoint_9a6ad 1 = .ok (.bipush 16, 2) := by decide +kernel
theorem dJ11_isValidCodePoint_9a6ad_3 : decode cJ11_isValidCodePoint_9a6ad 3 = .ok (.iushr, 1) := by decide +kernel
theorem dJ11_isValidCodePoint_9a6ad_4 : decode cJ11_isValidCodePoint_9a6ad 4 = .ok (.istore_n 1, 1) := by decide +kernel
theorem dJ11_isValidCodePoint_9a6ad_5 : decode cJ11_isValidCodePoint_9a6ad 5 = .ok (.iload_n 1, 1) := by decide +kernel
theorem dJ11_isValidCodePoint_9a6ad_6 : decode cJ11_isValidCodePoint_9a6ad 6 = .ok (.bipush 17, 2) := by decide +kernel
theorem dJ11_isValidCodePoint_9a6ad_8 : decode cJ11_isValidCodePoint_9a6ad 8 = .ok (.if_icmp .ge 7, 3) := by decide +kernel
theorem dJ11_isValidCodePoint_9a6ad_11 : decode cJ11_isValidCodePoint_9a6ad 11 = .ok (.iconst 1, 1) := by decide +kernel
theorem dJ11_isValidCodePoint_9a6ad_12 : decode cJ11_isValidCodePoint_9a6ad 12 = .ok (.goto 4, 3) := by decide +kernel
theorem dJ11_isValidCodePoint_9a6ad_15 : decode cJ11_isValidCodePoint_9a6ad 15 = .ok (.iconst 0, 1) := by decide +kernel
theorem dJ11_isValidCodePoint_9a6ad_16 : decode cJ11_isValidCodePoint_9a6ad 16 = .ok (.ireturn, 1) := by decide +kernel
theorem dJ11_highSurrogate_5068e_0 : decode cJ11_highSurrogate_5068e 0 = .ok (.iload_n 0, 1) := by decide +kernel
theorem dJ11_highSurrogate_5068e_1 : decode cJ11_highSurrogate_5068e 1 = .ok (.bipush 10, 2) := by decide +kernel
theorem dJ11_highSurrogate_5068e_3 : decode cJ11_highSurrogate_5068e 3 = .ok (.iushr, 1) := by decide +kernel
theorem dJ11_highSurrogate_5068e_4 : decode cJ11_highSurrogate_5068e 4 = .ok (.ldc 110, 2) := by decide +kernel
theorem dJ11_highSurrogate_5068e_6 : decode cJ11_highSurrogate_5068e 6 = .ok (.iadd, 1) := by decide +kernel
theorem dJ11_highSurrogate_5068e_7 : decode cJ11_highSurrogate_5068e 7 = .ok (.i2c, 1) := by decide +kernel
theorem dJ11_highSurrogate_5068e_8 : decode cJ11_highSurrogate_5068e 8 = .ok (.ireturn, 1) := by decide +kernel
theorem dJ11_lowSurrogate_5068e_0 : decode cJ11_lowSurrogate_5068e 0 = .ok (.iload_n 0, 1) := by decide +kernel
theorem dJ11_lowSurrogate_5068e_1 : decode cJ11_lowSurrogate_5068e 1 = .ok (.sipush 1023, 3) := by decide +kernel
theorem dJ11_lowSurrogate_5068e_4 : decode cJ11_lowSurrogate_5068e 4 = .ok (.iand, 1) := by decide +kernel
theorem dJ11_lowSurrogate_5068e_5 : decode cJ11_lowSurrogate_5068e 5 = .ok (.ldc 76, 2) := by decide +kernel
theorem dJ11_lowSurrogate_5068e_7 : decode cJ11_lowSurrogate_5068e 7 = .ok (.iadd, 1) := by decide +kernel
theorem dJ11_lowSurrogate_5068e_8 : decode cJ11_lowSurrogate_5068e 8 = .ok (.i2c, 1) := by decide +kernel
theorem dJ11_lowSurrogate_5068e_9 : decode cJ11_lowSurrogate_5068e 9 = .ok (.ireturn, 1) := by decide +kernel
theorem dJ6_bitCount_0f7a4_0 : decode cJ6_bitCount_0f7a4 0 = .ok (.iload_n 0, 1) := by decide +kernel
theorem dJ6_bitCount_0f7a4_1 : decode cJ6_bitCount_0f7a4 1 = .ok (.iload_n 0, 1) := by decide +kernel
theorem dJ6_bitCount_0f7a4_2 : decode cJ6_bitCount_0f7a4 2 = .ok (.iconst 1, 1) := by decide +kernel
theorem dJ6_bitCount_0f7a4_3 : decode cJ6_bitCount_0f7a4 3 = .ok (.iushr, 1) := by decide +kernel
theorem dJ6_bitCount_0f7a4_4 : decode cJ6_bitCount_0f7a4 4 = .ok (.ldc_w 265, 3) := by decide +kernel
theorem dJ6_bitCount_0f7a4_7 : decode cJ6_bitCount_0f7a4 7 = .ok (.iand, 1) := by decide +kernel
theorem dJ6_bitCount_0f7a4_8 : decode cJ6_bitCount_0f7a4 8 = .ok (.isub, 1) := by decide +kernel
theorem dJ6_bitCount_0f7a4_9 : decode cJ6_bitCount_0f7a4 9 = .ok (.istore_n 0, 1) := by decide +kernel
theorem dJ6_bitCount_0f7a4_10 : decode cJ6_bitCount_0f7a4 10 = .ok (.iload_n 0, 1) := by decide +kernel
theorem dJ6_bitCount_0f7a4_11 : decode cJ6_bitCount_0f7a4 11 = .ok (.ldc_w 266, 3) := by decide +kernel
theorem dJ6_bitCount_0f7a4_14 : decode cJ6_bitCount_0f7a4 14 = .ok (.iand, 1) := by decide +kernel
theorem dJ6_bitCount_0f7a4_15 : decode cJ6_bitCount_0f7a4 15 = .ok (.iload_n 0, 1) := by decide +kernel
theorem dJ6_bitCount_0f7a4_16 : decode cJ6_bitCount_0f7a4 16 = .ok (.iconst 2, 1) := by decide +kernel
theorem dJ6_bitCount_0f7a4_17 : decode cJ6_bitCount_0f7a4 17 = .ok (.iushr, 1) := by decide +kernel
theorem dJ6_bitCount_0f7a4_18 : decode cJ6_bitCount_0f7a4 18 = .ok (.ldc_w 266, 3) := by decide +kernel
theorem dJ6_bitCount_0f7a4_21 : decode cJ6_bitCount_0f7a4 21 = .ok (.iand, 1) := by decide +kernel
theorem dJ6_bitCount_0f7a4_22 : decode cJ6_bitCount_0f7a4 22 = .ok (.iadd, 1) := by decide +kernel
theorem dJ6_bitCount_0f7a4_23 : decode cJ6_bitCount_0f7a4 23 = .ok (.istore_n 0, 1) := by decide +kernel
theorem dJ6_bitCount_0f7a4_24 : decode cJ6_bitCount_0f7a4 24 = .ok (.iload_n 0, 1) := by decide +kernel
theorem dJ6_bitCount_0f7a4_25 : decode cJ6_bitCount_0f7a4 25 = .ok (.iload_n 0, 1) := by decide +kernel
theorem dJ6_bitCount_0f7a4_26 : decode cJ6_bitCount_0f7a4 26 = .ok (.iconst 4, 1) := by decide +kernel
theorem dJ6_bitCount_0f7a4_27 : decode cJ6_bitCount_0f7a4 27 = .ok (.iushr, 1) := by decide +kernel
theorem dJ6_bitCount_0f7a4_28 : decode cJ6_bitCount_0f7a4 28 = .ok (.iadd, 1) := by decide +kernel
theorem dJ6_bitCount_0f7a4_29 : decode cJ6_bitCount_0f7a4 29 = .ok (.ldc_w 267, 3) := by decide +kernel
theorem dJ6_bitCount_0f7a4_32 : decode cJ6_bitCount_0f7a4 32 = .ok (.iand, 1) := by decide +kernel
theorem dJ6_bitCount_0f7a4_33 : decode cJ6_bitCount_0f7a4 33 = .ok (.istore_n 0, 1) := by decide +kernel
theorem dJ6_bitCount_0f7a4_34 : decode cJ6_bitCount_0f7a4 34 = .ok (.iload_n 0, 1) := by decide +kernel
theorem dJ6_bitCount_0f7a4_35 : decode cJ6_bitCount_0f7a4 35 = .ok (.iload_n 0, 1) := by decide +kernel
theorem dJ6_bitCount_0f7a4_36 : decode cJ6_bitCount_0f7a4 36 = .ok (.bipush 8, 2) := by decide +kernel
theorem dJ6_bitCount_0f7a4_38 : decode cJ6_bitCount_0f7a4 38 = .ok (.iushr, 1) := by decide +kernel
theorem dJ6_bitCount_0f7a4_39 : decode cJ6_bitCount_0f7a4 39 = .ok (.iadd, 1) := by decide +kernel
theorem dJ6_bitCount_0f7a4_40 : decode cJ6_bitCount_0f7a4 40 = .ok (.istore_n 0, 1) := by decide +kernel
theorem dJ6_bitCount_0f7a4_41 : decode cJ6_bitCount_0f7a4 41 = .ok (.iload_n 0, 1) := by decide +kernel
theorem dJ6_bitCount_0f7a4_42 : decode cJ6_bitCount_0f7a4 42 = .ok (.iload_n 0, 1) := by decide +kernel
theorem dJ6_bitCount_0f7a4_43 : decode cJ6_bitCount_0f7a4 43 = .ok (.bipush 16, 2) := by decide +kernel
theorem dJ6_bitCount_0f7a4_45 : decode cJ6_bitCount_0f7a4 45 = .ok (.iushr, 1) := by decide +kernel
theorem dJ6_bitCount_0f7a4_46 : decode cJ6_bitCount_0f7a4 46 = .ok (.iadd, 1) := by decide +kernel
theorem dJ6_bitCount_0f7a4_47 : decode cJ6_bitCount_0f7a4 47 = .ok (.istore_n 0, 1) := by decide +kernel
theorem dJ6_bitCount_0f7a4_48 : decode cJ6_bitCount_0f7a4 48 = .ok (.iload_n 0, 1) := by decide +kernel
theorem dJ6_bitCount_0f7a4_49 : decode cJ6_bitCount_0f7a4 49 = .ok (.bipush 63, 2) := by decide +kernel
theorem dJ6_bitCount_0f7a4_51 : decode cJ6_bitCount_0f7a4 51 = .ok (.iand, 1) := by decide +kernel
theorem dJ6_bitCount_0f7a4_52 : decode cJ6_bitCount_0f7a4 52 = .ok (.ireturn, 1) := by decide +kernel
theorem dJ13_bitCount_95d88_0 : decode cJ13_bitCount_95d88 0 = .ok (.lload_n 0, 1) := by decide +kernel
theorem dJ13_bitCount_95d88_1 : decode cJ13_bitCount_95d88 1 = .ok (.lload_n 0, 1) := by decide +kernel
theorem dJ13_bitCount_95d88_2 : decode cJ13_bitCount_95d88 2 = .ok (.iconst 1, 1) := by decide +kernel
theorem dJ13_bitCount_95d88_3 : decode cJ13_bitCount_95d88 3 = .ok (.lushr, 1) := by decide +kernel
theorem dJ13_bitCount_95d88_4 : decode cJ13_bitCount_95d88 4 = .ok (.ldc2_w 314, 3) := by decide +kernel
theorem dJ13_bitCount_95d88_7 : decode cJ13_bitCount_95d88 7 = .ok (.land, 1) := by decide +kernel
theorem dJ13_bitCount_95d88_8 : decode cJ13_bitCount_95d88 8 = .ok (.lsub, 1) := by decide +kernel
theorem dJ13_bitCount_95d88_9 : decode cJ13_bitCount_95d88 9 = .ok (.lstore_n 0, 1) := by decide +kernel
theorem dJ13_bitCount_95d88_10 : decode cJ13_bitCount_95d88 10 = .ok (.lload_n 0, 1) := by decide +kernel
theorem dJ13_bitCount_95d88_11 : decode cJ13_bitCount_95d88 11 = .ok (.ldc2_w 316, 3) := by decide +kernel
theorem dJ13_bitCount_95d88_14 : decode cJ13_bitCount_95d88 14 = .ok (.land, 1) := by decide +kernel
theorem dJ13_bitCount_95d88_15 : decode cJ13_bitCount_95d88 15 = .ok (.lload_n 0, 1) := by decide +kernel
theorem dJ13_bitCount_95d88_16 : decode cJ13_bitCount_95d88 16 = .ok (.iconst 2, 1) := by decide +kernel
theorem dJ13_bitCount_95d88_17 : decode cJ13_bitCount_95d88 17 = .ok (.lushr, 1) := by decide +kernel
theorem dJ13_bitCount_95d88_18 : decode cJ13_bitCount_95d88 18 = .ok (.ldc2_w 316, 3) := by decide +kernel
theorem dJ13_bitCount_95d88_21 : decode cJ13_bitCount_95d88 21 = .ok (.land, 1) := by decide +kernel
theorem dJ13_bitCount_95d88_22 : decode cJ13_bitCount_95d88 22 = .ok (.ladd, 1) := by decide +kernel
theorem dJ13_bitCount_95d88_23 : decode cJ13_bitCount_95d88 23 = .ok (.lstore_n 0, 1) := by decide +kernel
theorem dJ13_bitCount_95d88_24 : decode cJ13_bitCount_95d88 24 = .ok (.lload_n 0, 1) := by decide +kernel
theorem dJ13_bitCount_95d88_25 : decode cJ13_bitCount_95d88 25 = .ok (.lload_n 0, 1) := by decide +kernel
theorem dJ13_bitCount_95d88_26 : decode cJ13_bitCount_95d88 26 = .ok (.iconst 4, 1) := by decide +kernel
theorem dJ13_bitCount_95d88_27 : decode cJ13_bitCount_95d88 27 = .ok (.lushr, 1) := by decide +kernel
theorem dJ13_bitCount_95d88_28 : decode cJ13_bitCount_95d88 28 = .ok (.ladd, 1) := by decide +kernel
theorem dJ13_bitCount_95d88_29 : decode cJ13_bitCount_95d88 29 = .ok (.ldc2_w 318, 3) := by decide +kernel
theorem dJ13_bitCount_95d88_32 : decode cJ13_bitCount_95d88 32 = .ok (.land, 1) := by decide +kernel
theorem dJ13_bitCount_95d88_33 : decode cJ13_bitCount_95d88 33 = .ok (.lstore_n 0, 1) := by decide +kernel
theorem dJ13_bitCount_95d88_34 : decode cJ13_bitCount_95d88 34 = .ok (.lload_n 0, 1) := by decide +kernel
theorem dJ13_bitCount_95d88_35 : decode cJ13_bitCount_95d88 35 = .ok (.lload_n 0, 1) := by decide +kernel
theorem dJ13_bitCount_95d88_36 : decode cJ13_bitCount_95d88 36 = .ok (.bipush 8, 2) := by decide +kernel
theorem dJ13_bitCount_95d88_38 : decode cJ13_bitCount_95d88 38 = .ok (.lushr, 1) := by decide +kernel
theorem dJ13_bitCount_95d88_39 : decode cJ13_bitCount_95d88 39 = .ok (.ladd, 1) := by decide +kernel
theorem dJ13_bitCount_95d88_40 : decode cJ13_bitCount_95d88 40 = .ok (.lstore_n 0, 1) := by decide +kernel
theorem dJ13_bitCount_95d88_41 : decode cJ13_bitCount_95d88 41 = .ok (.lload_n 0, 1) := by decide +kernel
theorem dJ13_bitCount_95d88_42 : decode cJ13_bitCount_95d88 42 = .ok (.lload_n 0, 1) := by decide +kernel
theorem dJ13_bitCount_95d88_43 : decode cJ13_bitCount_95d88 43 = .ok (.bipush 16, 2) := by decide +kernel
theorem dJ13_bitCount_95d88_45 : decode cJ13_bitCount_95d88 45 = .ok (.lushr, 1) := by decide +kernel
theorem dJ13_bitCount_95d88_46 : decode cJ13_bitCount_95d88 46 = .ok (.ladd, 1) := by decide +kernel
theorem dJ13_bitCount_95d88_47 : decode cJ13_bitCount_95d88 47 = .ok (.lstore_n 0, 1) := by decide +kernel
theorem dJ13_bitCount_95d88_48 : decode cJ13_bitCount_95d88 48 = .ok (.lload_n 0, 1) := by decide +kernel
theorem dJ13_bitCount_95d88_49 : decode cJ13_bitCount_95d88 49 = .ok (.lload_n 0, 1) := by decide +kernel
theorem dJ13_bitCount_95d88_50 : decode cJ13_bitCount_95d88 50 = .ok (.bipush 32, 2) := by decide +kernel
theorem dJ13_bitCount_95d88_52 : decode cJ13_bitCount_95d88 52 = .ok (.lushr, 1) := by decide +kernel
theorem dJ13_bitCount_95d88_53 : decode cJ13_bitCount_95d88 53 = .ok (.ladd, 1) := by decide +kernel
theorem dJ13_bitCount_95d88_54 : decode cJ13_bitCount_95d88 54 = .ok (.lstore_n 0, 1) := by decide +kernel
theorem dJ13_bitCount_95d88_55 : decode cJ13_bitCount_95d88 55 = .ok (.lload_n 0, 1) := by decide +kernel
theorem dJ13_bitCount_95d88_56 : decode cJ13_bitCount_95d88 56 = .ok (.l2i, 1) := by decide +kernel
theorem dJ13_bitCount_95d88_57 : decode cJ13_bitCount_95d88 57 = .ok (.bipush 127, 2) := by decide +kernel
theorem dJ13_bitCount_95d88_59 : decode cJ13_bitCount_95d88 59 = .ok (.iand, 1) := by decide +kernel
theorem dJ13_bitCount_95d88_60 : decode cJ13_bitCount_95d88 60 = .ok (.ireturn, 1) := by decide +kernel
theorem dJ9_max_7cf53_0 : decode cJ9_max_7cf53 0 = .ok (.iload_n 0, 1) := by decide +kernel
theorem dJ9_max_7cf53_1 : decode cJ9_max_7cf53 1 = .ok (.iload_n 1, 1) := by decide +kernel
theorem dJ9_max_7cf53_2 : decode cJ9_max_7cf53 2 = .ok (.if_icmp .lt 7, 3) := by decide +kernel
theorem dJ9_max_7cf53_5 : decode cJ9_max_7cf53 5 = .ok (.iload_n 0, 1) := by decide +kernel
theorem dJ9_max_7cf53_6 : decode cJ9_max_7cf53 6 = .ok (.goto 4, 3) := by decide +kernel
theorem dJ9_max_7cf53_9 : decode cJ9_max_7cf53 9 = .ok (.iload_n 1, 1) := by decide +kernel
theorem dJ9_max_7cf53_10 : decode cJ9_max_7cf53 10 = .ok (.ireturn, 1) := by decide +kernel
theorem dJ9_min_7cf53_0 : decode cJ9_min_7cf53 0 = .ok (.iload_n 0, 1) := by decide +kernel
theorem dJ9_min_7cf53_1 : decode cJ9_min_7cf53 1 = .ok (.iload_n 1, 1) := by decide +kernel
theorem dJ9_min_7cf53_2 : decode cJ9_min_7cf53 2 = .ok (.if_icmp .gt 7, 3) := by decide +kernel
theorem dJ9_min_7cf53_5 : decode cJ9_min_7cf53 5 = .ok (.iload_n 0, 1) := by decide +kernel
theorem dJ9_min_7cf53_6 : decode cJ9_min_7cf53 6 = .ok (.goto 4, 3) := by decide +kernel
theorem dJ9_min_7cf53_9 : decode cJ9_min_7cf53 9 = .ok (.iload_n 1, 1) := by decide +kernel
theorem dJ9_min_7cf53_10 : decode cJ9_min_7cf53 10 = .ok (.ireturn, 1) := by decide +kernel
theorem dJ0_length_8abf5_0 : decode cJ0_length_8abf5 0 = .ok (.aload_n 0, 1) := by decide +kernel
theorem dJ0_length_8abf5_1 : decode cJ0_length_8abf5 1 = .ok (.getfield 9, 3) := by decide +kernel
theorem dJ0_length_8abf5_4 : decode cJ0_length_8abf5 4 = .ok (.arraylength, 1) := by decide +kernel
theorem dJ0_length_8abf5_5 : decode cJ0_length_8abf5 5 = .ok (.aload_n 0, 1) := by decide +kernel
theorem dJ0_length_8abf5_6 : decode cJ0_length_8abf5 6 = .ok (.invokevirtual 335, 3) := by decide +kernel
theorem dJ0_length_8abf5_9 : decode cJ0_length_8abf5 9 = .ok (.ishr, 1) := by decide +kernel
theorem dJ0_length_8abf5_10 : decode cJ0_length_8abf5 10 = .ok (.ireturn, 1) := by decide +kernel
theorem dJ0_charAt_5068e_0 : decode cJ0_charAt_5068e 0 = .ok (.aload_n 0, 1) := by decide +kernel
theorem dJ0_charAt_5068e_1 : decode cJ0_charAt_5068e 1 = .ok (.invokevirtual 492, 3) := by decide +kernel
theorem dJ0_charAt_5068e_4 : decode cJ0_charAt_5068e 4 = .ok (.ifCond .eq 12, 3) := by decide +kernel
theorem dJ0_charAt_5068e_7 : decode cJ0_charAt_5068e 7 = .ok (.aload_n 0, 1) := by decide +kernel
theorem dJ0_charAt_5068e_8 : decode cJ0_charAt_5068e 8 = .ok (.getfield 9, 3) := by decide +kernel
theorem dJ0_charAt_5068e_11 : decode cJ0_charAt_5068e 11 = .ok (.iload_n 1, 1) := by decide +kernel
theorem dJ0_charAt_5068e_12 : decode cJ0_charAt_5068e 12 = .ok (.invokestatic 495, 3) := by decide +kernel
theorem dJ0_charAt_5068e_15 : decode cJ0_charAt_5068e 15 = .ok (.ireturn, 1) := by decide +kernel
theorem dJ0_charAt_5068e_16 : decode cJ0_charAt_5068e 16 = .ok (.aload_n 0, 1) := by decide +kernel
theorem dJ0_charAt_5068e_17 : decode cJ0_charAt_5068e 17 = .ok (.getfield 9, 3) := by decide +kernel
theorem dJ0_charAt_5068e_20 : decode cJ0_charAt_5068e 20 = .ok (.iload_n 1, 1) := by decide +kernel
theorem dJ0_charAt_5068e_21 : decode cJ0_charAt_5068e 21 = .ok (.invokestatic 498, 3) := by decide +kernel
theorem dJ0_charAt_5068e_24 : decode cJ0_charAt_5068e 24 = .ok (.ireturn, 1) := by decide +kernel
theorem dJ0_indexOf_0f7a4_0 : decode cJ0_indexOf_0f7a4 0 = .ok (.aload_n 0, 1) := by decide +kernel
theorem dJ0_indexOf_0f7a4_1 : decode cJ0_indexOf_0f7a4 1 = .ok (.iload_n 1, 1) := by decide +kernel
theorem dJ0_indexOf_0f7a4_2 : decode cJ0_indexOf_0f7a4 2 = .ok (.iconst 0, 1) := by decide +kernel
theorem dJ0_indexOf_0f7a4_3 : decode cJ0_indexOf_0f7a4 3 = .ok (.invokevirtual 633, 3) := by decide +kernel
theorem dJ0_indexOf_0f7a4_6 : decode cJ0_indexOf_0f7a4 6 = .ok (.ireturn, 1) := by decide +kernel
theorem dJ0_indexOf_7cf53_0 : decode cJ0_indexOf_7cf53 0 = .ok (.aload_n 0, 1) := by decide +kernel
theorem dJ0_indexOf_7cf53_1 : decode cJ0_indexOf_7cf53 1 = .ok (.invokevirtual 492, 3) := by decide +kernel
theorem dJ0_indexOf_7cf53_4 : decode cJ0_indexOf_7cf53 4 = .ok (.ifCond .eq 19, 3) := by decide +kernel
theorem dJ0_indexOf_7cf53_7 : decode cJ0_indexOf_7cf53 7 = .ok (.aload_n 0, 1) := by decide +kernel
theorem dJ0_indexOf_7cf53_8 : decode cJ0_indexOf_7cf53 8 = .ok (.getfield 9, 3) := by decide +kernel
theorem dJ0_indexOf_7cf53_11 : decode cJ0_indexOf_7cf53 11 = .ok (.iload_n 1, 1) := by decide +kernel
theorem dJ0_indexOf_7cf53_12 : decode cJ0_indexOf_7cf53 12 = .ok (.iload_n 2, 1) := by decide +kernel
theorem dJ0_indexOf_7cf53_13 : decode cJ0_indexOf_7cf53 13 = .ok (.aload_n 0, 1) := by decide +kernel
theorem dJ0_indexOf_7cf53_14 : decode cJ0_indexOf_7cf53 14 = .ok (.invokevirtual 505, 3) := by decide +kernel
theorem dJ0_indexOf_7cf53_17 : decode cJ0_indexOf_7cf53 17 = .ok (.invokestatic 637, 3) := by decide +kernel
theorem dJ0_indexOf_7cf53_20 : decode cJ0_indexOf_7cf53 20 = .ok (.goto 16, 3) := by decide +kernel
theorem dJ0_indexOf_7cf53_23 : decode cJ0_indexOf_7cf53 23 = .ok (.aload_n 0, 1) := by decide +kernel
theorem dJ0_indexOf_7cf53_24 : decode cJ0_indexOf_7cf53 24 = .ok (.getfield 9, 3) := by decide +kernel
theorem dJ0_indexOf_7cf53_27 : decode cJ0_indexOf_7cf53 27 = .ok (.iload_n 1, 1) := by decide +kernel
theorem dJ0_indexOf_7cf53_28 : decode cJ0_indexOf_7cf53 28 = .ok (.iload_n 2, 1) := by decide +kernel
theorem dJ0_indexOf_7cf53_29 : decode cJ0_indexOf_7cf53 29 = .ok (.aload_n 0, 1) := by decide +kernel
theorem dJ0_indexOf_7cf53_30 : decode cJ0_indexOf_7cf53 30 = .ok (.invokevirtual 505, 3) := by decide +kernel
theorem dJ0_indexOf_7cf53_33 : decode cJ0_indexOf_7cf53 33 = .ok (.invokestatic 640, 3) := by decide +kernel
theorem dJ0_indexOf_7cf53_36 : decode cJ0_indexOf_7cf53 36 = .ok (.ireturn, 1) := by decide +kernel
theorem dJ0_coder_7d493_0 : decode cJ0_coder_7d493 0 = .ok (.getstatic 38, 3) := by decide +kernel
theorem dJ0_coder_7d493_3 : decode cJ0_coder_7d493 3 = .ok (.ifCond .eq 10, 3) := by decide +kernel
theorem dJ0_coder_7d493_6 : decode cJ0_coder_7d493 6 = .ok (.aload_n 0, 1) := by decide +kernel
theorem dJ0_coder_7d493_7 : decode cJ0_coder_7d493 7 = .ok (.getfield 15, 3) := by decide +kernel
theorem dJ0_coder_7d493_10 : decode cJ0_coder_7d493 10 = .ok (.goto 4, 3) := by decide +kernel
theorem dJ0_coder_7d493_13 : decode cJ0_coder_7d493 13 = .ok (.iconst 1, 1) := by decide +kernel
theorem dJ0_coder_7d493_14 : decode cJ0_coder_7d493 14 = .ok (.ireturn, 1) := by decide +kernel
theorem dJ0_isLatin1_aae02_0 : decode cJ0_isLatin1_aae02 0 = .ok (.getstatic 38, 3) := by decide +kernel
theorem dJ0_isLatin1_aae02_3 : decode cJ0_isLatin1_aae02 3 = .ok (.ifCond .eq 14, 3) := by decide +kernel
theorem dJ0_isLatin1_aae02_6 : decode cJ0_isLatin1_aae02 6 = .ok (.aload_n 0, 1) := by decide +kernel
theorem dJ0_isLatin1_aae02_7 : decode cJ0_isLatin1_aae02 7 = .ok (.getfield 15, 3) := by decide +kernel
theorem dJ0_isLatin1_aae02_10 : decode cJ0_isLatin1_aae02 10 = .ok (.ifCond .ne 7, 3) := by decide +kernel
theorem dJ0_isLatin1_aae02_13 : decode cJ0_isLatin1_aae02 13 = .ok (.iconst 1, 1) := by decide +kernel
theorem dJ0_isLatin1_aae02_14 : decode cJ0_isLatin1_aae02 14 = .ok (.goto 4, 3) := by decide +kernel
theorem dJ0_isLatin1_aae02_17 : decode cJ0_isLatin1_aae02 17 = .ok (.iconst 0, 1) := by decide +kernel
theorem dJ0_isLatin1_aae02_18 : decode cJ0_isLatin1_aae02 18 = .ok (.ireturn, 1) := by decide +kernel
theorem dJ0_checkIndex_df160_0 : decode cJ0_checkIndex_df160 0 = .ok (.iload_n 0, 1) := by decide +kernel
theorem dJ0_checkIndex_df160_1 : decode cJ0_checkIndex_df160 1 = .ok (.iload_n 1, 1) := by decide +kernel
theorem dJ0_checkIndex_df160_2 : decode cJ0_checkIndex_df160 2 = .ok (.getstatic 1053, 3) := by decide +kernel
theorem dJ0_checkIndex_df160_5 : decode cJ0_checkIndex_df160 5 = .ok (.invokestatic 1059, 3) := by decide +kernel
theorem dJ0_checkIndex_df160_8 : decode cJ0_checkIndex_df160 8 = .ok (.pop, 1) := by decide +kernel
theorem dJ0_checkIndex_df160_9 : decode cJ0_checkIndex_df160 9 = .ok (.return_, 1) := by decide +kernel
theorem dJ0_checkBoundsBeginEnd_23922_0 : decode cJ0_checkBoundsBeginEnd_23922 0 = .ok (.iload_n 0, 1) := by decide +kernel
theorem dJ0_checkBoundsBeginEnd_23922_1 : decode cJ0_checkBoundsBeginEnd_23922 1 = .ok (.iload_n 1, 1) := by decide +kernel
theorem dJ0_checkBoundsBeginEnd_23922_2 : decode cJ0_checkBoundsBeginEnd_23922 2 = .ok (.iload_n 2, 1) := by decide +kernel
theorem dJ0_checkBoundsBeginEnd_23922_3 : decode cJ0_checkBoundsBeginEnd_23922 3 = .ok (.getstatic 1053, 3) := by decide +kernel
theorem dJ0_checkBoundsBeginEnd_23922_6 : decode cJ0_checkBoundsBeginEnd_23922 6 = .ok (.invokestatic 1062, 3) := by decide +kernel
theorem dJ0_checkBoundsBeginEnd_23922_9 : decode cJ0_checkBoundsBeginEnd_23922 9 = .ok (.pop, 1) := by decide +kernel
theorem dJ0_checkBoundsBeginEnd_23922_10 : decode cJ0_checkBoundsBeginEnd_23922 10 = .ok (.return_, 1) := by decide +kernel
theorem dJ1_charAt_3b067_0 : decode cJ1_charAt_3b067 0 = .ok (.iload_n 1, 1) := by decide +kernel
theorem dJ1_charAt_3b067_1 : decode cJ1_charAt_3b067 1 = .ok (.aload_n 0, 1) := by decide +kernel
theorem dJ1_charAt_3b067_2 : decode cJ1_charAt_3b067 2 = .ok (.arraylength, 1) := by decide +kernel
theorem dJ1_charAt_3b067_3 : decode cJ1_charAt_3b067 3 = .ok (.invokestatic 9, 3) := by decide +kernel
theorem dJ1_charAt_3b067_6 : decode cJ1_charAt_3b067 6 = .ok (.aload_n 0, 1) := by decide +kernel
theorem dJ1_charAt_3b067_7 : decode cJ1_charAt_3b067 7 = .ok (.iload_n 1, 1) := by decide +kernel
theorem dJ1_charAt_3b067_8 : decode cJ1_charAt_3b067 8 = .ok (.baload, 1) := by decide +kernel
theorem dJ1_charAt_3b067_9 : decode cJ1_charAt_3b067 9 = .ok (.sipush 255, 3) := by decide +kernel
theorem dJ1_charAt_3b067_12 : decode cJ1_charAt_3b067 12 = .ok (.iand, 1) := by decide +kernel
theorem dJ1_charAt_3b067_13 : decode cJ1_charAt_3b067 13 = .ok (.i2c, 1) := by decide +kernel
theorem dJ1_charAt_3b067_14 : decode cJ1_charAt_3b067 14 = .ok (.ireturn, 1) := by decide +kernel
theorem dJ1_canEncode_9a6ad_0 : decode cJ1_canEncode_9a6ad 0 = .ok (.iload_n 0, 1) := by decide +kernel
theorem dJ1_canEncode_9a6ad_1 : decode cJ1_canEncode_9a6ad 1 = .ok (.ifCond .lt 14, 3) := by decide +kernel
theorem dJ1_canEncode_9a6ad_4 : decode cJ1_canEncode_9a6ad 4 = .ok (.iload_n 0, 1) := by decide +kernel
theorem dJ1_canEncode_9a6ad_5 : decode cJ1_canEncode_9a6ad 5 = .ok (.sipush 255, 3) := by decide +kernel
theorem dJ1_canEncode_9a6ad_8 : decode cJ1_canEncode_9a6ad 8 = .ok (.if_icmp .gt 7, 3) := by decide +kernel
theorem dJ1_canEncode_9a6ad_11 : decode cJ1_canEncode_9a6ad 11 = .ok (.iconst 1, 1) := by decide +kernel
theorem dJ1_canEncode_9a6ad_12 : decode cJ1_canEncode_9a6ad 12 = .ok (.goto 4, 3) := by decide +kernel
theorem dJ1_canEncode_9a6ad_15 : decode cJ1_canEncode_9a6ad 15 = .ok (.iconst 0, 1) := by decide +kernel
theorem dJ1_canEncode_9a6ad_16 : decode cJ1_canEncode_9a6ad 16 = .ok (.ireturn, 1) := by decide +kernel
theorem dJ1_indexOf_4cfef_0 : decode cJ1_indexOf_4cfef 0 = .ok (.iload_n 1, 1) := by decide +kernel
theorem dJ1_indexOf_4cfef_1 : decode cJ1_indexOf_4cfef 1 = .ok (.invokestatic 88, 3) := by decide +kernel
theorem dJ1_indexOf_4cfef_4 : decode cJ1_indexOf_4cfef 4 = .ok (.ifCond .ne 5, 3) := by decide +kernel
theorem dJ1_indexOf_4cfef_7 : decode cJ1_indexOf_4cfef 7 = .ok (.iconst (-1), 1) := by decide +kernel
theorem dJ1_indexOf_4cfef_8 : decode cJ1_indexOf_4cfef 8 = .ok (.ireturn, 1) := by decide +kernel
theorem dJ1_indexOf_4cfef_9 : decode cJ1_indexOf_4cfef 9 = .ok (.iload_n 2, 1) := by decide +kernel
theorem dJ1_indexOf_4cfef_10 : decode cJ1_indexOf_4cfef 10 = .ok (.iconst 0, 1) := by decide +kernel
theorem dJ1_indexOf_4cfef_11 : decode cJ1_indexOf_4cfef 11 = .ok (.invokestatic 92, 3) := by decide +kernel
theorem dJ1_indexOf_4cfef_14 : decode cJ1_indexOf_4cfef 14 = .ok (.istore_n 2, 1) := by decide +kernel
theorem dJ1_indexOf_4cfef_15 : decode cJ1_indexOf_4cfef 15 = .ok (.iload_n 3, 1) := by decide +kernel
theorem dJ1_indexOf_4cfef_16 : decode cJ1_indexOf_4cfef 16 = .ok (.aload_n 0, 1) := by decide +kernel
theorem dJ1_indexOf_4cfef_17 : decode cJ1_indexOf_4cfef 17 = .ok (.arraylength, 1) := by decide +kernel
theorem dJ1_indexOf_4cfef_18 : decode cJ1_indexOf_4cfef 18 = .ok (.invokestatic 38, 3) := by decide +kernel
theorem dJ1_indexOf_4cfef_21 : decode cJ1_indexOf_4cfef 21 = .ok (.istore_n 3, 1) := by decide +kernel
theorem dJ1_indexOf_4cfef_22 : decode cJ1_indexOf_4cfef 22 = .ok (.iload_n 2, 1) := by decide +kernel
theorem dJ1_indexOf_4cfef_23 : decode cJ1_indexOf_4cfef 23 = .ok (.iload_n 3, 1) := by decide +kernel
theorem dJ1_indexOf_4cfef_24 : decode cJ1_indexOf_4cfef 24 = .ok (.if_icmp .lt 5, 3) := by decide +kernel
theorem dJ1_indexOf_4cfef_27 : decode cJ1_indexOf_4cfef 27 = .ok (.iconst (-1), 1) := by decide +kernel
theorem dJ1_indexOf_4cfef_28 : decode cJ1_indexOf_4cfef 28 = .ok (.ireturn, 1) := by decide +kernel
theorem dJ1_indexOf_4cfef_29 : decode cJ1_indexOf_4cfef 29 = .ok (.aload_n 0, 1) := by decide +kernel
theorem dJ1_indexOf_4cfef_30 : decode cJ1_indexOf_4cfef 30 = .ok (.iload_n 1, 1) := by decide +kernel
theorem dJ1_indexOf_4cfef_31 : decode cJ1_indexOf_4cfef 31 = .ok (.iload_n 2, 1) := by decide +kernel
theorem dJ1_indexOf_4cfef_32 : decode cJ1_indexOf_4cfef 32 = .ok (.iload_n 3, 1) := by decide +kernel
theorem dJ1_indexOf_4cfef_33 : decode cJ1_indexOf_4cfef 33 = .ok (.invokestatic 95, 3) := by decide +kernel
theorem dJ1_indexOf_4cfef_36 : decode cJ1_indexOf_4cfef 36 = .ok (.ireturn, 1) := by decide +kernel
theorem dJ1_indexOfChar_4cfef_0 : decode cJ1_indexOfChar_4cfef 0 = .ok (.iload_n 1, 1) := by decide +kernel
theorem dJ1_indexOfChar_4cfef_1 : decode cJ1_indexOfChar_4cfef 1 = .ok (.i2b, 1) := by decide +kernel
theorem dJ1_indexOfChar_4cfef_2 : decode cJ1_indexOfChar_4cfef 2 = .ok (.istore 4, 2) := by decide +kernel
theorem dJ1_indexOfChar_4cfef_4 : decode cJ1_indexOfChar_4cfef 4 = .ok (.iload_n 2, 1) := by decide +kernel
theorem dJ1_indexOfChar_4cfef_5 : decode cJ1_indexOfChar_4cfef 5 = .ok (.istore 5, 2) := by decide +kernel
theorem dJ1_indexOfChar_4cfef_7 : decode cJ1_indexOfChar_4cfef 7 = .ok (.iload 5, 2) := by decide +kernel
theorem dJ1_indexOfChar_4cfef_9 : decode cJ1_indexOfChar_4cfef 9 = .ok (.iload_n 3, 1) := by decide +kernel
theorem dJ1_indexOfChar_4cfef_10 : decode cJ1_indexOfChar_4cfef 10 = .ok (.if_icmp .ge 21, 3) := by decide +kernel
theorem dJ1_indexOfChar_4cfef_13 : decode cJ1_indexOfChar_4cfef 13 = .ok (.aload_n 0, 1) := by decide +kernel
theorem dJ1_indexOfChar_4cfef_14 : decode cJ1_indexOfChar_4cfef 14 = .ok (.iload 5, 2) := by decide +kernel
theorem dJ1_indexOfChar_4cfef_16 : decode cJ1_indexOfChar_4cfef 16 = .ok (.baload, 1) := by decide +kernel
theorem dJ1_indexOfChar_4cfef_17 : decode cJ1_indexOfChar_4cfef 17 = .ok (.iload 4, 2) := by decide +kernel
theorem dJ1_indexOfChar_4cfef_19 : decode cJ1_indexOfChar_4cfef 19 = .ok (.if_icmp .ne 6, 3) := by decide +kernel
theorem dJ1_indexOfChar_4cfef_22 : decode cJ1_indexOfChar_4cfef 22 = .ok (.iload 5, 2) := by decide +kernel
theorem dJ1_indexOfChar_4cfef_24 : decode cJ1_indexOfChar_4cfef 24 = .ok (.ireturn, 1) := by decide +kernel
theorem dJ1_indexOfChar_4cfef_25 : decode cJ1_indexOfChar_4cfef 25 = .ok (.iinc 5 1, 3) := by decide +kernel
theorem dJ1_indexOfChar_4cfef_28 : decode cJ1_indexOfChar_4cfef 28 = .ok (.goto (-21), 3) := by decide +kernel
theorem dJ1_indexOfChar_4cfef_31 : decode cJ1_indexOfChar_4cfef 31 = .ok (.iconst (-1), 1) := by decide +kernel
theorem dJ1_indexOfChar_4cfef_32 : decode cJ1_indexOfChar_4cfef 32 = .ok (.ireturn, 1) := by decide +kernel
theorem dJ2_getChar_3b067_0 : decode cJ2_getChar_3b067 0 = .ok (.getstatic 44, 3) := by decide +kernel
theorem dJ2_getChar_3b067_3 : decode cJ2_getChar_3b067 3 = .ok (.ifCond .ne 25, 3) := by decide +kernel
theorem dJ2_getChar_3b067_6 : decode cJ2_getChar_3b067 6 = .ok (.iload_n 1, 1) := by decide +kernel
theorem dJ2_getChar_3b067_7 : decode cJ2_getChar_3b067 7 = .ok (.ifCond .lt 11, 3) := by decide +kernel
theorem dJ2_getChar_3b067_10 : decode cJ2_getChar_3b067 10 = .ok (.iload_n 1, 1) := by decide +kernel
theorem dJ2_getChar_3b067_11 : decode cJ2_getChar_3b067 11 = .ok (.aload_n 0, 1) := by decide +kernel
theorem dJ2_getChar_3b067_12 : decode cJ2_getChar_3b067 12 = .ok (.invokestatic 48, 3) := by decide +kernel
theorem dJ2_getChar_3b067_15 : decode cJ2_getChar_3b067 15 = .ok (.if_icmp .lt 13, 3) := by decide +kernel
theorem dJ2_getChar_3b067_18 : decode cJ2_getChar_3b067 18 = .ok (.new 52, 3) := by decide +kernel
theorem dJ2_getChar_3b067_21 : decode cJ2_getChar_3b067 21 = .ok (.dup, 1) := by decide +kernel
theorem dJ2_getChar_3b067_22 : decode cJ2_getChar_3b067 22 = .ok (.ldc 54, 2) := by decide +kernel
theorem dJ2_getChar_3b067_24 : decode cJ2_getChar_3b067 24 = .ok (.invokespecial 56, 3) := by decide +kernel
theorem dJ2_getChar_3b067_27 : decode cJ2_getChar_3b067 27 = .ok (.athrow, 1) := by decide +kernel
theorem dJ2_getChar_3b067_28 : decode cJ2_getChar_3b067 28 = .ok (.iload_n 1, 1) := by decide +kernel
theorem dJ2_getChar_3b067_29 : decode cJ2_getChar_3b067 29 = .ok (.iconst 1, 1) := by decide +kernel
theorem dJ2_getChar_3b067_30 : decode cJ2_getChar_3b067 30 = .ok (.ishl, 1) := by decide +kernel
theorem dJ2_getChar_3b067_31 : decode cJ2_getChar_3b067 31 = .ok (.istore_n 1, 1) := by decide +kernel
theorem dJ2_getChar_3b067_32 : decode cJ2_getChar_3b067 32 = .ok (.aload_n 0, 1) := by decide +kernel
theorem dJ2_getChar_3b067_33 : decode cJ2_getChar_3b067 33 = .ok (.iload_n 1, 1) := by decide +kernel
theorem dJ2_getChar_3b067_34 : decode cJ2_getChar_3b067 34 = .ok (.iinc 1 1, 3) := by decide +kernel
theorem dJ2_getChar_3b067_37 : decode cJ2_getChar_3b067 37 = .ok (.baload, 1) := by decide +kernel
theorem dJ2_getChar_3b067_38 : decode cJ2_getChar_3b067 38 = .ok (.sipush 255, 3) := by decide +kernel
theorem dJ2_getChar_3b067_41 : decode cJ2_getChar_3b067 41 = .ok (.iand, 1) := by decide +kernel
theorem dJ2_getChar_3b067_42 : decode cJ2_getChar_3b067 42 = .ok (.getstatic 59, 3) := by decide +kernel
theorem dJ2_getChar_3b067_45 : decode cJ2_getChar_3b067 45 = .ok (.ishl, 1) := by decide +kernel
theorem dJ2_getChar_3b067_46 : decode cJ2_getChar_3b067 46 = .ok (.aload_n 0, 1) := by decide +kernel
theorem dJ2_getChar_3b067_47 : decode cJ2_getChar_3b067 47 = .ok (.iload_n 1, 1) := by decide +kernel
theorem dJ2_getChar_3b067_48 : decode cJ2_getChar_3b067 48 = .ok (.baload, 1) := by decide +kernel
theorem dJ2_getChar_3b067_49 : decode cJ2_getChar_3b067 49 = .ok (.sipush 255, 3) := by decide +kernel
theorem dJ2_getChar_3b067_52 : decode cJ2_getChar_3b067 52 = .ok (.iand, 1) := by decide +kernel
theorem dJ2_getChar_3b067_53 : decode cJ2_getChar_3b067 53 = .ok (.getstatic 63, 3) := by decide +kernel
theorem dJ2_getChar_3b067_56 : decode cJ2_getChar_3b067 56 = .ok (.ishl, 1) := by decide +kernel
theorem dJ2_getChar_3b067_57 : decode cJ2_getChar_3b067 57 = .ok (.ior, 1) := by decide +kernel
theorem dJ2_getChar_3b067_58 : decode cJ2_getChar_3b067 58 = .ok (.i2c, 1) := by decide +kernel
theorem dJ2_getChar_3b067_59 : decode cJ2_getChar_3b067 59 = .ok (.ireturn, 1) := by decide +kernel
theorem dJ2_length_9d52b_0 : decode cJ2_length_9d52b 0 = .ok (.aload_n 0, 1) := by decide +kernel
theorem dJ2_length_9d52b_1 : decode cJ2_length_9d52b 1 = .ok (.arraylength, 1) := by decide +kernel
theorem dJ2_length_9d52b_2 : decode cJ2_length_9d52b 2 = .ok (.iconst 1, 1) := by decide +kernel
theorem dJ2_length_9d52b_3 : decode cJ2_length_9d52b 3 = .ok (.ishr, 1) := by decide +kernel
theorem dJ2_length_9d52b_4 : decode cJ2_length_9d52b 4 = .ok (.ireturn, 1) := by decide +kernel
theorem dJ2_indexOf_4cfef_0 : decode cJ2_indexOf_4cfef 0 = .ok (.iload_n 2, 1) := by decide +kernel
theorem dJ2_indexOf_4cfef_1 : decode cJ2_indexOf_4cfef 1 = .ok (.iconst 0, 1) := by decide +kernel
theorem dJ2_indexOf_4cfef_2 : decode cJ2_indexOf_4cfef 2 = .ok (.invokestatic 224, 3) := by decide +kernel
theorem dJ2_indexOf_4cfef_5 : decode cJ2_indexOf_4cfef 5 = .ok (.istore_n 2, 1) := by decide +kernel
theorem dJ2_indexOf_4cfef_6 : decode cJ2_indexOf_4cfef 6 = .ok (.iload_n 3, 1) := by decide +kernel
theorem dJ2_indexOf_4cfef_7 : decode cJ2_indexOf_4cfef 7 = .ok (.aload_n 0, 1) := by decide +kernel
theorem dJ2_indexOf_4cfef_8 : decode cJ2_indexOf_4cfef 8 = .ok (.arraylength, 1) := by decide +kernel
theorem dJ2_indexOf_4cfef_9 : decode cJ2_indexOf_4cfef 9 = .ok (.iconst 1, 1) := by decide +kernel
theorem dJ2_indexOf_4cfef_10 : decode cJ2_indexOf_4cfef 10 = .ok (.ishr, 1) := by decide +kernel
theorem dJ2_indexOf_4cfef_11 : decode cJ2_indexOf_4cfef 11 = .ok (.invokestatic 183, 3) := by decide +kernel
theorem dJ2_indexOf_4cfef_14 : decode cJ2_indexOf_4cfef 14 = .ok (.istore_n 3, 1) := by decide +kernel
theorem dJ2_indexOf_4cfef_15 : decode cJ2_indexOf_4cfef 15 = .ok (.iload_n 2, 1) := by decide +kernel
theorem dJ2_indexOf_4cfef_16 : decode cJ2_indexOf_4cfef 16 = .ok (.iload_n 3, 1) := by decide +kernel
theorem dJ2_indexOf_4cfef_17 : decode cJ2_indexOf_4cfef 17 = .ok (.if_icmp .lt 5, 3) := by decide +kernel
theorem dJ2_indexOf_4cfef_20 : decode cJ2_indexOf_4cfef 20 = .ok (.iconst (-1), 1) := by decide +kernel
theorem dJ2_indexOf_4cfef_21 : decode cJ2_indexOf_4cfef 21 = .ok (.ireturn, 1) := by decide +kernel
theorem dJ2_indexOf_4cfef_22 : decode cJ2_indexOf_4cfef 22 = .ok (.iload_n 1, 1) := by decide +kernel
theorem dJ2_indexOf_4cfef_23 : decode cJ2_indexOf_4cfef 23 = .ok (.ldc 227, 2) := by decide +kernel
theorem dJ2_indexOf_4cfef_25 : decode cJ2_indexOf_4cfef 25 = .ok (.if_icmp .ge 11, 3) := by decide +kernel
theorem dJ2_indexOf_4cfef_28 : decode cJ2_indexOf_4cfef 28 = .ok (.aload_n 0, 1) := by decide +kernel
theorem dJ2_indexOf_4cfef_29 : decode cJ2_indexOf_4cfef 29 = .ok (.iload_n 1, 1) := by decide +kernel
theorem dJ2_indexOf_4cfef_30 : decode cJ2_indexOf_4cfef 30 = .ok (.iload_n 2, 1) := by decide +kernel
theorem dJ2_indexOf_4cfef_31 : decode cJ2_indexOf_4cfef 31 = .ok (.iload_n 3, 1) := by decide +kernel
theorem dJ2_indexOf_4cfef_32 : decode cJ2_indexOf_4cfef 32 = .ok (.invokestatic 228, 3) := by decide +kernel
theorem dJ2_indexOf_4cfef_35 : decode cJ2_indexOf_4cfef 35 = .ok (.ireturn, 1) := by decide +kernel
theorem dJ2_indexOf_4cfef_36 : decode cJ2_indexOf_4cfef 36 = .ok (.aload_n 0, 1) := by decide +kernel
theorem dJ2_indexOf_4cfef_37 : decode cJ2_indexOf_4cfef 37 = .ok (.iload_n 1, 1) := by decide +kernel
theorem dJ2_indexOf_4cfef_38 : decode cJ2_indexOf_4cfef 38 = .ok (.iload_n 2, 1) := by decide +kernel
theorem dJ2_indexOf_4cfef_39 : decode cJ2_indexOf_4cfef 39 = .ok (.iload_n 3, 1) := by decide +kernel
theorem dJ2_indexOf_4cfef_40 : decode cJ2_indexOf_4cfef 40 = .ok (.invokestatic 232, 3) := by decide +kernel
theorem dJ2_indexOf_4cfef_43 : decode cJ2_indexOf_4cfef 43 = .ok (.ireturn, 1) := by decide +kernel
theorem dJ2_indexOfChar_4cfef_0 : decode cJ2_indexOfChar_4cfef 0 = .ok (.iload_n 2, 1) := by decide +kernel
theorem dJ2_indexOfChar_4cfef_1 : decode cJ2_indexOfChar_4cfef 1 = .ok (.iload_n 3, 1) := by decide +kernel
theorem dJ2_indexOfChar_4cfef_2 : decode cJ2_indexOfChar_4cfef 2 = .ok (.aload_n 0, 1) := by decide +kernel
theorem dJ2_indexOfChar_4cfef_3 : decode cJ2_indexOfChar_4cfef 3 = .ok (.invokestatic 96, 3) := by decide +kernel
theorem dJ2_indexOfChar_4cfef_6 : decode cJ2_indexOfChar_4cfef 6 = .ok (.aload_n 0, 1) := by decide +kernel
theorem dJ2_indexOfChar_4cfef_7 : decode cJ2_indexOfChar_4cfef 7 = .ok (.iload_n 1, 1) := by decide +kernel
theorem dJ2_indexOfChar_4cfef_8 : decode cJ2_indexOfChar_4cfef 8 = .ok (.iload_n 2, 1) := by decide +kernel
theorem dJ2_indexOfChar_4cfef_9 : decode cJ2_indexOfChar_4cfef 9 = .ok (.iload_n 3, 1) := by decide +kernel
theorem dJ2_indexOfChar_4cfef_10 : decode cJ2_indexOfChar_4cfef 10 = .ok (.invokestatic 244, 3) := by decide +kernel
theorem dJ2_indexOfChar_4cfef_13 : decode cJ2_indexOfChar_4cfef 13 = .ok (.ireturn, 1) := by decide +kernel
theorem dJ2_indexOfCharUnsafe_4cfef_0 : decode cJ2_indexOfCharUnsafe_4cfef 0 = .ok (.iload_n 2, 1) := by decide +kernel
theorem dJ2_indexOfCharUnsafe_4cfef_1 : decode cJ2_indexOfCharUnsafe_4cfef 1 = .ok (.istore 4, 2) := by decide +kernel
theorem dJ2_indexOfCharUnsafe_4cfef_3 : decode cJ2_indexOfCharUnsafe_4cfef 3 = .ok (.iload 4, 2) := by decide +kernel
theorem dJ2_indexOfCharUnsafe_4cfef_5 : decode cJ2_indexOfCharUnsafe_4cfef 5 = .ok (.iload_n 3, 1) := by decide +kernel
theorem dJ2_indexOfCharUnsafe_4cfef_6 : decode cJ2_indexOfCharUnsafe_4cfef 6 = .ok (.if_icmp .ge 22, 3) := by decide +kernel
theorem dJ2_indexOfCharUnsafe_4cfef_9 : decode cJ2_indexOfCharUnsafe_4cfef 9 = .ok (.aload_n 0, 1) := by decide +kernel
theorem dJ2_indexOfCharUnsafe_4cfef_10 : decode cJ2_indexOfCharUnsafe_4cfef 10 = .ok (.iload 4, 2) := by decide +kernel
theorem dJ2_indexOfCharUnsafe_4cfef_12 : decode cJ2_indexOfCharUnsafe_4cfef 12 = .ok (.invokestatic 71, 3) := by decide +kernel
theorem dJ2_indexOfCharUnsafe_4cfef_15 : decode cJ2_indexOfCharUnsafe_4cfef 15 = .ok (.iload_n 1, 1) := by decide +kernel
theorem dJ2_indexOfCharUnsafe_4cfef_16 : decode cJ2_indexOfCharUnsafe_4cfef 16 = .ok (.if_icmp .ne 6, 3) := by decide +kernel
theorem dJ2_indexOfCharUnsafe_4cfef_19 : decode cJ2_indexOfCharUnsafe_4cfef 19 = .ok (.iload 4, 2) := by decide +kernel
theorem dJ2_indexOfCharUnsafe_4cfef_21 : decode cJ2_indexOfCharUnsafe_4cfef 21 = .ok (.ireturn, 1) := by decide +kernel
theorem dJ2_indexOfCharUnsafe_4cfef_22 : decode cJ2_indexOfCharUnsafe_4cfef 22 = .ok (.iinc 4 1, 3) := by decide +kernel
theorem dJ2_indexOfCharUnsafe_4cfef_25 : decode cJ2_indexOfCharUnsafe_4cfef 25 = .ok (.goto (-22), 3) := by decide +kernel
theorem dJ2_indexOfCharUnsafe_4cfef_28 : decode cJ2_indexOfCharUnsafe_4cfef 28 = .ok (.iconst (-1), 1) := by decide +kernel
theorem dJ2_indexOfCharUnsafe_4cfef_29 : decode cJ2_indexOfCharUnsafe_4cfef 29 = .ok (.ireturn, 1) := by decide +kernel
theorem dJ2_indexOfSupplementary_4cfef_0 : decode cJ2_indexOfSupplementary_4cfef 0 = .ok (.iload_n 1, 1) := by decide +kernel
theorem dJ2_indexOfSupplementary_4cfef_1 : decode cJ2_indexOfSupplementary_4cfef 1 = .ok (.invokestatic 164, 3) := by decide +kernel
theorem dJ2_indexOfSupplementary_4cfef_4 : decode cJ2_indexOfSupplementary_4cfef 4 = .ok (.ifCond .eq 65, 3) := by decide +kernel
theorem dJ2_indexOfSupplementary_4cfef_7 : decode cJ2_indexOfSupplementary_4cfef 7 = .ok (.iload_n 1, 1) := by decide +kernel
theorem dJ2_indexOfSupplementary_4cfef_8 : decode cJ2_indexOfSupplementary_4cfef 8 = .ok (.invokestatic 157, 3) := by decide +kernel
theorem dJ2_indexOfSupplementary_4cfef_11 : decode cJ2_indexOfSupplementary_4cfef 11 = .ok (.istore 4, 2) := by decide +kernel
theorem dJ2_indexOfSupplementary_4cfef_13 : decode cJ2_indexOfSupplementary_4cfef 13 = .ok (.iload_n 1, 1) := by decide +kernel
theorem dJ2_indexOfSupplementary_4cfef_14 : decode cJ2_indexOfSupplementary_4cfef 14 = .ok (.invokestatic 161, 3) := by decide +kernel
theorem dJ2_indexOfSupplementary_4cfef_17 : decode cJ2_indexOfSupplementary_4cfef 17 = .ok (.istore 5, 2) := by decide +kernel
theorem dJ2_indexOfSupplementary_4cfef_19 : decode cJ2_indexOfSupplementary_4cfef 19 = .ok (.iload_n 2, 1) := by decide +kernel
theorem dJ2_indexOfSupplementary_4cfef_20 : decode cJ2_indexOfSupplementary_4cfef 20 = .ok (.iload_n 3, 1) := by decide +kernel
theorem dJ2_indexOfSupplementary_4cfef_21 : decode cJ2_indexOfSupplementary_4cfef 21 = .ok (.aload_n 0, 1) := by decide +kernel
theorem dJ2_indexOfSupplementary_4cfef_22 : decode cJ2_indexOfSupplementary_4cfef 22 = .ok (.invokestatic 96, 3) := by decide +kernel
theorem dJ2_indexOfSupplementary_4cfef_25 : decode cJ2_indexOfSupplementary_4cfef 25 = .ok (.iload_n 2, 1) := by decide +kernel
theorem dJ2_indexOfSupplementary_4cfef_26 : decode cJ2_indexOfSupplementary_4cfef 26 = .ok (.istore 6, 2) := by decide +kernel
theorem dJ2_indexOfSupplementary_4cfef_28 : decode cJ2_indexOfSupplementary_4cfef 28 = .ok (.iload 6, 2) := by decide +kernel
theorem dJ2_indexOfSupplementary_4cfef_30 : decode cJ2_indexOfSupplementary_4cfef 30 = .ok (.iload_n 3, 1) := by decide +kernel
theorem dJ2_indexOfSupplementary_4cfef_31 : decode cJ2_indexOfSupplementary_4cfef 31 = .ok (.iconst 1, 1) := by decide +kernel
theorem dJ2_indexOfSupplementary_4cfef_32 : decode cJ2_indexOfSupplementary_4cfef 32 = .ok (.isub, 1) := by decide +kernel
theorem dJ2_indexOfSupplementary_4cfef_33 : decode cJ2_indexOfSupplementary_4cfef 33 = .ok (.if_icmp .ge 36, 3) := by decide +kernel
theorem dJ2_indexOfSupplementary_4cfef_36 : decode cJ2_indexOfSupplementary_4cfef 36 = .ok (.aload_n 0, 1) := by decide +kernel
theorem dJ2_indexOfSupplementary_4cfef_37 : decode cJ2_indexOfSupplementary_4cfef 37 = .ok (.iload 6, 2) := by decide +kernel
theorem dJ2_indexOfSupplementary_4cfef_39 : decode cJ2_indexOfSupplementary_4cfef 39 = .ok (.invokestatic 71, 3) := by decide +kernel
theorem dJ2_indexOfSupplementary_4cfef_42 : decode cJ2_indexOfSupplementary_4cfef 42 = .ok (.iload 4, 2) := by decide +kernel
theorem dJ2_indexOfSupplementary_4cfef_44 : decode cJ2_indexOfSupplementary_4cfef 44 = .ok (.if_icmp .ne 19, 3) := by decide +kernel
theorem dJ2_indexOfSupplementary_4cfef_47 : decode cJ2_indexOfSupplementary_4cfef 47 = .ok (.aload_n 0, 1) := by decide +kernel
theorem dJ2_indexOfSupplementary_4cfef_48 : decode cJ2_indexOfSupplementary_4cfef 48 = .ok (.iload 6, 2) := by decide +kernel
theorem dJ2_indexOfSupplementary_4cfef_50 : decode cJ2_indexOfSupplementary_4cfef 50 = .ok (.iconst 1, 1) := by decide +kernel
theorem dJ2_indexOfSupplementary_4cfef_51 : decode cJ2_indexOfSupplementary_4cfef 51 = .ok (.iadd, 1) := by decide +kernel
theorem dJ2_indexOfSupplementary_4cfef_52 : decode cJ2_indexOfSupplementary_4cfef 52 = .ok (.invokestatic 71, 3) := by decide +kernel
theorem dJ2_indexOfSupplementary_4cfef_55 : decode cJ2_indexOfSupplementary_4cfef 55 = .ok (.iload 5, 2) := by decide +kernel
theorem dJ2_indexOfSupplementary_4cfef_57 : decode cJ2_indexOfSupplementary_4cfef 57 = .ok (.if_icmp .ne 6, 3) := by decide +kernel
theorem dJ2_indexOfSupplementary_4cfef_60 : decode cJ2_indexOfSupplementary_4cfef 60 = .ok (.iload 6, 2) := by decide +kernel
theorem dJ2_indexOfSupplementary_4cfef_62 : decode cJ2_indexOfSupplementary_4cfef 62 = .ok (.ireturn, 1) := by decide +kernel
theorem dJ2_indexOfSupplementary_4cfef_63 : decode cJ2_indexOfSupplementary_4cfef 63 = .ok (.iinc 6 1, 3) := by decide +kernel
theorem dJ2_indexOfSupplementary_4cfef_66 : decode cJ2_indexOfSupplementary_4cfef 66 = .ok (.goto (-38), 3) := by decide +kernel
theorem dJ2_indexOfSupplementary_4cfef_69 : decode cJ2_indexOfSupplementary_4cfef 69 = .ok (.iconst (-1), 1) := by decide +kernel
theorem dJ2_indexOfSupplementary_4cfef_70 : decode cJ2_indexOfSupplementary_4cfef 70 = .ok (.ireturn, 1) := by decide +kernel
theorem dJ2_charAt_3b067_0 : decode cJ2_charAt_3b067 0 = .ok (.iload_n 1, 1) := by decide +kernel
theorem dJ2_charAt_3b067_1 : decode cJ2_charAt_3b067 1 = .ok (.aload_n 0, 1) := by decide +kernel
theorem dJ2_charAt_3b067_2 : decode cJ2_charAt_3b067 2 = .ok (.invokestatic 67, 3) := by decide +kernel
theorem dJ2_charAt_3b067_5 : decode cJ2_charAt_3b067 5 = .ok (.aload_n 0, 1) := by decide +kernel
theorem dJ2_charAt_3b067_6 : decode cJ2_charAt_3b067 6 = .ok (.iload_n 1, 1) := by decide +kernel
theorem dJ2_charAt_3b067_7 : decode cJ2_charAt_3b067 7 = .ok (.invokestatic 71, 3) := by decide +kernel
theorem dJ2_charAt_3b067_10 : decode cJ2_charAt_3b067 10 = .ok (.ireturn, 1) := by decide +kernel
theorem dJ2_checkIndex_2214a_0 : decode cJ2_checkIndex_2214a 0 = .ok (.iload_n 0, 1) := by decide +kernel
theorem dJ2_checkIndex_2214a_1 : decode cJ2_checkIndex_2214a 1 = .ok (.aload_n 1, 1) := by decide +kernel
theorem dJ2_checkIndex_2214a_2 : decode cJ2_checkIndex_2214a 2 = .ok (.invokestatic 48, 3) := by decide +kernel
theorem dJ2_checkIndex_2214a_5 : decode cJ2_checkIndex_2214a 5 = .ok (.invokestatic 414, 3) := by decide +kernel
theorem dJ2_checkIndex_2214a_8 : decode cJ2_checkIndex_2214a 8 = .ok (.return_, 1) := by decide +kernel
theorem dJ2_checkBoundsBeginEnd_d044e_0 : decode cJ2_checkBoundsBeginEnd_d044e 0 = .ok (.iload_n 0, 1) := by decide +kernel
theorem dJ2_checkBoundsBeginEnd_d044e_1 : decode cJ2_checkBoundsBeginEnd_d044e 1 = .ok (.iload_n 1, 1) := by decide +kernel
theorem dJ2_checkBoundsBeginEnd_d044e_2 : decode cJ2_checkBoundsBeginEnd_d044e 2 = .ok (.aload_n 2, 1) := by decide +kernel
theorem dJ2_checkBoundsBeginEnd_d044e_3 : decode cJ2_checkBoundsBeginEnd_d044e 3 = .ok (.invokestatic 48, 3) := by decide +kernel
theorem dJ2_checkBoundsBeginEnd_d044e_6 : decode cJ2_checkBoundsBeginEnd_d044e 6 = .ok (.invokestatic 241, 3) := by decide +kernel
theorem dJ2_checkBoundsBeginEnd_d044e_9 : decode cJ2_checkBoundsBeginEnd_d044e 9 = .ok (.return_, 1) := by decide +kernel
theorem dJ3_checkIndex_8e157_0 : decode cJ3_checkIndex_8e157 0 = .ok (.iload_n 0, 1) := by decide +kernel
theorem dJ3_checkIndex_8e157_1 : decode cJ3_checkIndex_8e157 1 = .ok (.ifCond .lt 8, 3) := by decide +kernel
theorem dJ3_checkIndex_8e157_4 : decode cJ3_checkIndex_8e157 4 = .ok (.iload_n 0, 1) := by decide +kernel
theorem dJ3_checkIndex_8e157_5 : decode cJ3_checkIndex_8e157 5 = .ok (.iload_n 1, 1) := by decide +kernel
theorem dJ3_checkIndex_8e157_6 : decode cJ3_checkIndex_8e157 6 = .ok (.if_icmp .lt 10, 3) := by decide +kernel
theorem dJ3_checkIndex_8e157_9 : decode cJ3_checkIndex_8e157 9 = .ok (.aload_n 2, 1) := by decide +kernel
theorem dJ3_checkIndex_8e157_10 : decode cJ3_checkIndex_8e157 10 = .ok (.iload_n 0, 1) := by decide +kernel
theorem dJ3_checkIndex_8e157_11 : decode cJ3_checkIndex_8e157 11 = .ok (.iload_n 1, 1) := by decide +kernel
theorem dJ3_checkIndex_8e157_12 : decode cJ3_checkIndex_8e157 12 = .ok (.invokestatic 95, 3) := by decide +kernel
theorem dJ3_checkIndex_8e157_15 : decode cJ3_checkIndex_8e157 15 = .ok (.athrow, 1) := by decide +kernel
theorem dJ3_checkIndex_8e157_16 : decode cJ3_checkIndex_8e157 16 = .ok (.iload_n 0, 1) := by decide +kernel
theorem dJ3_checkIndex_8e157_17 : decode cJ3_checkIndex_8e157 17 = .ok (.ireturn, 1) := by decide +kernel
theorem dJ3_checkFromToIndex_8c36e_0 : decode cJ3_checkFromToIndex_8c36e 0 = .ok (.iload_n 0, 1) := by decide +kernel
theorem dJ3_checkFromToIndex_8c36e_1 : decode cJ3_checkFromToIndex_8c36e 1 = .ok (.ifCond .lt 13, 3) := by decide +kernel
theorem dJ3_checkFromToIndex_8c36e_4 : decode cJ3_checkFromToIndex_8c36e 4 = .ok (.iload_n 0, 1) := by decide +kernel
theorem dJ3_checkFromToIndex_8c36e_5 : decode cJ3_checkFromToIndex_8c36e 5 = .ok (.iload_n 1, 1) := by decide +kernel
theorem dJ3_checkFromToIndex_8c36e_6 : decode cJ3_checkFromToIndex_8c36e 6 = .ok (.if_icmp .gt 8, 3) := by decide +kernel
theorem dJ3_checkFromToIndex_8c36e_9 : decode cJ3_checkFromToIndex_8c36e 9 = .ok (.iload_n 1, 1) := by decide +kernel
theorem dJ3_checkFromToIndex_8c36e_10 : decode cJ3_checkFromToIndex_8c36e 10 = .ok (.iload_n 2, 1) := by decide +kernel
theorem dJ3_checkFromToIndex_8c36e_11 : decode cJ3_checkFromToIndex_8c36e 11 = .ok (.if_icmp .le 11, 3) := by decide +kernel
theorem dJ3_checkFromToIndex_8c36e_14 : decode cJ3_checkFromToIndex_8c36e 14 = .ok (.aload_n 3, 1) := by decide +kernel
theorem dJ3_checkFromToIndex_8c36e_15 : decode cJ3_checkFromToIndex_8c36e 15 = .ok (.iload_n 0, 1) := by decide +kernel
theorem dJ3_checkFromToIndex_8c36e_16 : decode cJ3_checkFromToIndex_8c36e 16 = .ok (.iload_n 1, 1) := by decide +kernel
theorem dJ3_checkFromToIndex_8c36e_17 : decode cJ3_checkFromToIndex_8c36e 17 = .ok (.iload_n 2, 1) := by decide +kernel
theorem dJ3_checkFromToIndex_8c36e_18 : decode cJ3_checkFromToIndex_8c36e 18 = .ok (.invokestatic 99, 3) := by decide +kernel
theorem dJ3_checkFromToIndex_8c36e_21 : decode cJ3_checkFromToIndex_8c36e 21 = .ok (.athrow, 1) := by decide +kernel
theorem dJ3_checkFromToIndex_8c36e_22 : decode cJ3_checkFromToIndex_8c36e 22 = .ok (.iload_n 0, 1) := by decide +kernel
theorem dJ3_checkFromToIndex_8c36e_23 : decode cJ3_checkFromToIndex_8c36e 23 = .ok (.ireturn, 1) := by decide +kernel
theorem dL_feed_0 : decode cL_feed 0 = .ok (.aload 6, 2) := by decide +kernel
theorem dL_feed_2 : decode cL_feed 2 = .ok (.iconst 0, 1) := by decide +kernel
theorem dL_feed_3 : decode cL_feed 3 = .ok (.aload_n 0, 1) := by decide +kernel
theorem dL_feed_4 : decode cL_feed 4 = .ok (.iload_n 1, 1) := by decide +kernel
theorem dL_feed_5 : decode cL_feed 5 = .ok (.iload_n 2, 1) := by decide +kernel
theorem dL_feed_6 : decode cL_feed 6 = .ok (.iload_n 3, 1) := by decide +kernel
theorem dL_feed_7 : decode cL_feed 7 = .ok (.iload 4, 2) := by decide +kernel
theorem dL_feed_9 : decode cL_feed 9 = .ok (.iload 5, 2) := by decide +kernel
theorem dL_feed_11 : decode cL_feed 11 = .ok (.invokevirtual 7, 3) := by decide +kernel
theorem dL_feed_14 : decode cL_feed 14 = .ok (.i2l, 1) := by decide +kernel
theorem dL_feed_15 : decode cL_feed 15 = .ok (.lastore, 1) := by decide +kernel
theorem dL_feed_16 : decode cL_feed 16 = .ok (.goto 7, 3) := by decide +kernel
theorem dL_feed_19 : decode cL_feed 19 = .ok (.astore 7, 2) := by decide +kernel
theorem dL_feed_21 : decode cL_feed 21 = .ok (.iconst 1, 1) := by decide +kernel
theorem dL_feed_22 : decode cL_feed 22 = .ok (.ireturn, 1) := by decide +kernel
theorem dL_feed_23 : decode cL_feed 23 = .ok (.iconst 0, 1) := by decide +kernel
theorem dL_feed_24 : decode cL_feed 24 = .ok (.ireturn, 1) := by decide +kernel
theorem dL_trim_0 : decode cL_trim 0 = .ok (.aload_n 2, 1) := by decide +kernel
theorem dL_trim_1 : decode cL_trim 1 = .ok (.iconst 0, 1) := by decide +kernel
theorem dL_trim_2 : decode cL_trim 2 = .ok (.aload_n 0, 1) := by decide +kernel
theorem dL_trim_3 : decode cL_trim 3 = .ok (.iload_n 1, 1) := by decide +kernel
theorem dL_trim_4 : decode cL_trim 4 = .ok (.invokevirtual 15, 3) := by decide +kernel
theorem dL_trim_7 : decode cL_trim 7 = .ok (.i2l, 1) := by decide +kernel
theorem dL_trim_8 : decode cL_trim 8 = .ok (.lastore, 1) := by decide +kernel
theorem dL_trim_9 : decode cL_trim 9 = .ok (.goto 6, 3) := by decide +kernel
theorem dL_trim_12 : decode cL_trim 12 = .ok (.astore_n 3, 1) := by decide +kernel
theorem dL_trim_13 : decode cL_trim 13 = .ok (.iconst 1, 1) := by decide +kernel
theorem dL_trim_14 : decode cL_trim 14 = .ok (.ireturn, 1) := by decide +kernel
theorem dL_trim_15 : decode cL_trim 15 = .ok (.iconst 0, 1) := by decide +kernel
theorem dL_trim_16 : decode cL_trim 16 = .ok (.ireturn, 1) := by decide +kernel
theorem dL_kindOf_0 : decode cL_kindOf 0 = .ok (.aload_n 2, 1) := by decide +kernel
theorem dL_kindOf_1 : decode cL_kindOf 1 = .ok (.iconst 0, 1) := by decide +kernel
theorem dL_kindOf_2 : decode cL_kindOf 2 = .ok (.aload_n 0, 1) := by decide +kernel
theorem dL_kindOf_3 : decode cL_kindOf 3 = .ok (.iload_n 1, 1) := by decide +kernel
theorem dL_kindOf_4 : decode cL_kindOf 4 = .ok (.invokevirtual 21, 3) := by decide +kernel
theorem dL_kindOf_7 : decode cL_kindOf 7 = .ok (.i2l, 1) := by decide +kernel
theorem dL_kindOf_8 : decode cL_kindOf 8 = .ok (.lastore, 1) := by decide +kernel
theorem dL_kindOf_9 : decode cL_kindOf 9 = .ok (.goto 6, 3) := by decide +kernel
theorem dL_kindOf_12 : decode cL_kindOf 12 = .ok (.astore_n 3, 1) := by decide +kernel
theorem dL_kindOf_13 : decode cL_kindOf 13 = .ok (.iconst 1, 1) := by decide +kernel
theorem dL_kindOf_14 : decode cL_kindOf 14 = .ok (.ireturn, 1) := by decide +kernel
theorem dL_kindOf_15 : decode cL_kindOf 15 = .ok (.iconst 0, 1) := by decide +kernel
theorem dL_kindOf_16 : decode cL_kindOf 16 = .ok (.ireturn, 1) := by decide +kernel
theorem dL_firstClaimOf_0 : decode cL_firstClaimOf 0 = .ok (.aload_n 2, 1) := by decide +kernel
theorem dL_firstClaimOf_1 : decode cL_firstClaimOf 1 = .ok (.iconst 0, 1) := by decide +kernel
theorem dL_firstClaimOf_2 : decode cL_firstClaimOf 2 = .ok (.aload_n 0, 1) := by decide +kernel
theorem dL_firstClaimOf_3 : decode cL_firstClaimOf 3 = .ok (.iload_n 1, 1) := by decide +kernel
theorem dL_firstClaimOf_4 : decode cL_firstClaimOf 4 = .ok (.invokevirtual 26, 3) := by decide +kernel
theorem dL_firstClaimOf_7 : decode cL_firstClaimOf 7 = .ok (.i2l, 1) := by decide +kernel
theorem dL_firstClaimOf_8 : decode cL_firstClaimOf 8 = .ok (.lastore, 1) := by decide +kernel
theorem dL_firstClaimOf_9 : decode cL_firstClaimOf 9 = .ok (.goto 6, 3) := by decide +kernel
theorem dL_firstClaimOf_12 : decode cL_firstClaimOf 12 = .ok (.astore_n 3, 1) := by decide +kernel
theorem dL_firstClaimOf_13 : decode cL_firstClaimOf 13 = .ok (.iconst 1, 1) := by decide +kernel
theorem dL_firstClaimOf_14 : decode cL_firstClaimOf 14 = .ok (.ireturn, 1) := by decide +kernel
theorem dL_firstClaimOf_15 : decode cL_firstClaimOf 15 = .ok (.iconst 0, 1) := by decide +kernel
theorem dL_firstClaimOf_16 : decode cL_firstClaimOf 16 = .ok (.ireturn, 1) := by decide +kernel
theorem dL_secondClaimOf_0 : decode cL_secondClaimOf 0 = .ok (.aload_n 2, 1) := by decide +kernel
theorem dL_secondClaimOf_1 : decode cL_secondClaimOf 1 = .ok (.iconst 0, 1) := by decide +kernel
theorem dL_secondClaimOf_2 : decode cL_secondClaimOf 2 = .ok (.aload_n 0, 1) := by decide +kernel
theorem dL_secondClaimOf_3 : decode cL_secondClaimOf 3 = .ok (.iload_n 1, 1) := by decide +kernel
theorem dL_secondClaimOf_4 : decode cL_secondClaimOf 4 = .ok (.invokevirtual 29, 3) := by decide +kernel
theorem dL_secondClaimOf_7 : decode cL_secondClaimOf 7 = .ok (.i2l, 1) := by decide +kernel
theorem dL_secondClaimOf_8 : decode cL_secondClaimOf 8 = .ok (.lastore, 1) := by decide +kernel
theorem dL_secondClaimOf_9 : decode cL_secondClaimOf 9 = .ok (.goto 6, 3) := by decide +kernel
theorem dL_secondClaimOf_12 : decode cL_secondClaimOf 12 = .ok (.astore_n 3, 1) := by decide +kernel
theorem dL_secondClaimOf_13 : decode cL_secondClaimOf 13 = .ok (.iconst 1, 1) := by decide +kernel
theorem dL_secondClaimOf_14 : decode cL_secondClaimOf 14 = .ok (.ireturn, 1) := by decide +kernel
theorem dL_secondClaimOf_15 : decode cL_secondClaimOf 15 = .ok (.iconst 0, 1) := by decide +kernel
theorem dL_secondClaimOf_16 : decode cL_secondClaimOf 16 = .ok (.ireturn, 1) := by decide +kernel
theorem dL_stands_0 : decode cL_stands 0 = .ok (.aload_n 2, 1) := by decide +kernel
theorem dL_stands_1 : decode cL_stands 1 = .ok (.iconst 0, 1) := by decide +kernel
theorem dL_stands_2 : decode cL_stands 2 = .ok (.aload_n 0, 1) := by decide +kernel
theorem dL_stands_3 : decode cL_stands 3 = .ok (.iload_n 1, 1) := by decide +kernel
theorem dL_stands_4 : decode cL_stands 4 = .ok (.invokevirtual 32, 3) := by decide +kernel
theorem dL_stands_7 : decode cL_stands 7 = .ok (.ifCond .eq 7, 3) := by decide +kernel
theorem dL_stands_10 : decode cL_stands 10 = .ok (.lconst 1, 1) := by decide +kernel
theorem dL_stands_11 : decode cL_stands 11 = .ok (.goto 4, 3) := by decide +kernel
theorem dL_stands_14 : decode cL_stands 14 = .ok (.lconst 0, 1) := by decide +kernel
theorem dL_stands_15 : decode cL_stands 15 = .ok (.lastore, 1) := by decide +kernel
theorem dL_stands_16 : decode cL_stands 16 = .ok (.goto 6, 3) := by decide +kernel
theorem dL_stands_19 : decode cL_stands 19 = .ok (.astore_n 3, 1) := by decide +kernel
theorem dL_stands_20 : decode cL_stands 20 = .ok (.iconst 1, 1) := by decide +kernel
theorem dL_stands_21 : decode cL_stands 21 = .ok (.ireturn, 1) := by decide +kernel
theorem dL_stands_22 : decode cL_stands 22 = .ok (.iconst 0, 1) := by decide +kernel
theorem dL_stands_23 : decode cL_stands 23 = .ok (.ireturn, 1) := by decide +kernel
theorem dL_isNeedless_0 : decode cL_isNeedless 0 = .ok (.aload_n 2, 1) := by decide +kernel
theorem dL_isNeedless_1 : decode cL_isNeedless 1 = .ok (.iconst 0, 1) := by decide +kernel
theorem dL_isNeedless_2 : decode cL_isNeedless 2 = .ok (.aload_n 0, 1) := by decide +kernel
theorem dL_isNeedless_3 : decode cL_isNeedless 3 = .ok (.iload_n 1, 1) := by decide +kernel
theorem dL_isNeedless_4 : decode cL_isNeedless 4 = .ok (.invokevirtual 36, 3) := by decide +kernel
theorem dL_isNeedless_7 : decode cL_isNeedless 7 = .ok (.ifCond .eq 7, 3) := by decide +kernel
theorem dL_isNeedless_10 : decode cL_isNeedless 10 = .ok (.lconst 1, 1) := by decide +kernel
theorem dL_isNeedless_11 : decode cL_isNeedless 11 = .ok (.goto 4, 3) := by decide +kernel
theorem dL_isNeedless_14 : decode cL_isNeedless 14 = .ok (.lconst 0, 1) := by decide +kernel
theorem dL_isNeedless_15 : decode cL_isNeedless 15 = .ok (.lastore, 1) := by decide +kernel
theorem dL_isNeedless_16 : decode cL_isNeedless 16 = .ok (.goto 9, 3) := by decide +kernel
theorem dL_isNeedless_19 : decode cL_isNeedless 19 = .ok (.astore_n 3, 1) := by decide +kernel
theorem dL_isNeedless_20 : decode cL_isNeedless 20 = .ok (.iconst 1, 1) := by decide +kernel
theorem dL_isNeedless_21 : decode cL_isNeedless 21 = .ok (.ireturn, 1) := by decide +kernel
theorem dL_isNeedless_22 : decode cL_isNeedless 22 = .ok (.astore_n 3, 1) := by decide +kernel
theorem dL_isNeedless_23 : decode cL_isNeedless 23 = .ok (.iconst 2, 1) := by decide +kernel
theorem dL_isNeedless_24 : decode cL_isNeedless 24 = .ok (.ireturn, 1) := by decide +kernel
theorem dL_isNeedless_25 : decode cL_isNeedless 25 = .ok (.iconst 0, 1) := by decide +kernel
theorem dL_isNeedless_26 : decode cL_isNeedless 26 = .ok (.ireturn, 1) := by decide +kernel
theorem dL_follows_0 : decode cL_follows 0 = .ok (.aload_n 3, 1) := by decide +kernel
theorem dL_follows_1 : decode cL_follows 1 = .ok (.iconst 0, 1) := by decide +kernel
theorem dL_follows_2 : decode cL_follows 2 = .ok (.aload_n 0, 1) := by decide +kernel
theorem dL_follows_3 : decode cL_follows 3 = .ok (.iload_n 1, 1) := by decide +kernel
theorem dL_follows_4 : decode cL_follows 4 = .ok (.iload_n 2, 1) := by decide +kernel
theorem dL_follows_5 : decode cL_follows 5 = .ok (.invokevirtual 39, 3) := by decide +kernel
theorem dL_follows_8 : decode cL_follows 8 = .ok (.ifCond .eq 7, 3) := by decide +kernel
theorem dL_follows_11 : decode cL_follows 11 = .ok (.lconst 1, 1) := by decide +kernel
theorem dL_follows_12 : decode cL_follows 12 = .ok (.goto 4, 3) := by decide +kernel
theorem dL_follows_15 : decode cL_follows 15 = .ok (.lconst 0, 1) := by decide +kernel
theorem dL_follows_16 : decode cL_follows 16 = .ok (.lastore, 1) := by decide +kernel
theorem dL_follows_17 : decode cL_follows 17 = .ok (.goto 7, 3) := by decide +kernel
theorem dL_follows_20 : decode cL_follows 20 = .ok (.astore 4, 2) := by decide +kernel
theorem dL_follows_22 : decode cL_follows 22 = .ok (.iconst 1, 1) := by decide +kernel
theorem dL_follows_23 : decode cL_follows 23 = .ok (.ireturn, 1) := by decide +kernel
theorem dL_follows_24 : decode cL_follows 24 = .ok (.iconst 0, 1) := by decide +kernel
theorem dL_follows_25 : decode cL_follows 25 = .ok (.ireturn, 1) := by decide +kernel
theorem dL_whatFollowsFrom_0 : decode cL_whatFollowsFrom 0 = .ok (.aload_n 2, 1) := by decide +kernel
theorem dL_whatFollowsFrom_1 : decode cL_whatFollowsFrom 1 = .ok (.iconst 0, 1) := by decide +kernel
theorem dL_whatFollowsFrom_2 : decode cL_whatFollowsFrom 2 = .ok (.aload_n 0, 1) := by decide +kernel
theorem dL_whatFollowsFrom_3 : decode cL_whatFollowsFrom 3 = .ok (.iload_n 1, 1) := by decide +kernel
theorem dL_whatFollowsFrom_4 : decode cL_whatFollowsFrom 4 = .ok (.invokevirtual 43, 3) := by decide +kernel
theorem dL_whatFollowsFrom_7 : decode cL_whatFollowsFrom 7 = .ok (.i2l, 1) := by decide +kernel
theorem dL_whatFollowsFrom_8 : decode cL_whatFollowsFrom 8 = .ok (.lastore, 1) := by decide +kernel
theorem dL_whatFollowsFrom_9 : decode cL_whatFollowsFrom 9 = .ok (.goto 6, 3) := by decide +kernel
theorem dL_whatFollowsFrom_12 : decode cL_whatFollowsFrom 12 = .ok (.astore_n 3, 1) := by decide +kernel
theorem dL_whatFollowsFrom_13 : decode cL_whatFollowsFrom 13 = .ok (.iconst 1, 1) := by decide +kernel
theorem dL_whatFollowsFrom_14 : decode cL_whatFollowsFrom 14 = .ok (.ireturn, 1) := by decide +kernel
theorem dL_whatFollowsFrom_15 : decode cL_whatFollowsFrom 15 = .ok (.iconst 0, 1) := by decide +kernel
theorem dL_whatFollowsFrom_16 : decode cL_whatFollowsFrom 16 = .ok (.ireturn, 1) := by decide +kernel
theorem dL_fewestStatementsBetween_0 : decode cL_fewestStatementsBetween 0 = .ok (.aload_n 3, 1) := by decide +kernel
theorem dL_fewestStatementsBetween_1 : decode cL_fewestStatementsBetween 1 = .ok (.iconst 0, 1) := by decide +kernel
theorem dL_fewestStatementsBetween_2 : decode cL_fewestStatementsBetween 2 = .ok (.aload_n 0, 1) := by decide +kernel
theorem dL_fewestStatementsBetween_3 : decode cL_fewestStatementsBetween 3 = .ok (.iload_n 1, 1) := by decide +kernel
theorem dL_fewestStatementsBetween_4 : decode cL_fewestStatementsBetween 4 = .ok (.iload_n 2, 1) := by decide +kernel
theorem dL_fewestStatementsBetween_5 : decode cL_fewestStatementsBetween 5 = .ok (.invokevirtual 46, 3) := by decide +kernel
theorem dL_fewestStatementsBetween_8 : decode cL_fewestStatementsBetween 8 = .ok (.i2l, 1) := by decide +kernel
theorem dL_fewestStatementsBetween_9 : decode cL_fewestStatementsBetween 9 = .ok (.lastore, 1) := by decide +kernel
theorem dL_fewestStatementsBetween_10 : decode cL_fewestStatementsBetween 10 = .ok (.goto 11, 3) := by decide +kernel
theorem dL_fewestStatementsBetween_13 : decode cL_fewestStatementsBetween 13 = .ok (.astore 4, 2) := by decide +kernel
theorem dL_fewestStatementsBetween_15 : decode cL_fewestStatementsBetween 15 = .ok (.iconst 1, 1) := by decide +kernel
theorem dL_fewestStatementsBetween_16 : decode cL_fewestStatementsBetween 16 = .ok (.ireturn, 1) := by decide +kernel
theorem dL_fewestStatementsBetween_17 : decode cL_fewestStatementsBetween 17 = .ok (.astore 4, 2) := by decide +kernel
theorem dL_fewestStatementsBetween_19 : decode cL_fewestStatementsBetween 19 = .ok (.iconst 2, 1) := by decide +kernel
theorem dL_fewestStatementsBetween_20 : decode cL_fewestStatementsBetween 20 = .ok (.ireturn, 1) := by decide +kernel
theorem dL_fewestStatementsBetween_21 : decode cL_fewestStatementsBetween 21 = .ok (.iconst 0, 1) := by decide +kernel
theorem dL_fewestStatementsBetween_22 : decode cL_fewestStatementsBetween 22 = .ok (.ireturn, 1) := by decide +kernel
theorem dL_partOf_0 : decode cL_partOf 0 = .ok (.aload_n 2, 1) := by decide +kernel
theorem dL_partOf_1 : decode cL_partOf 1 = .ok (.iconst 0, 1) := by decide +kernel
theorem dL_partOf_2 : decode cL_partOf 2 = .ok (.aload_n 0, 1) := by decide +kernel
theorem dL_partOf_3 : decode cL_partOf 3 = .ok (.iload_n 1, 1) := by decide +kernel
theorem dL_partOf_4 : decode cL_partOf 4 = .ok (.invokevirtual 50, 3) := by decide +kernel
theorem dL_partOf_7 : decode cL_partOf 7 = .ok (.i2l, 1) := by decide +kernel
theorem dL_partOf_8 : decode cL_partOf 8 = .ok (.lastore, 1) := by decide +kernel
theorem dL_partOf_9 : decode cL_partOf 9 = .ok (.goto 6, 3) := by decide +kernel
theorem dL_partOf_12 : decode cL_partOf 12 = .ok (.astore_n 3, 1) := by decide +kernel
theorem dL_partOf_13 : decode cL_partOf 13 = .ok (.iconst 1, 1) := by decide +kernel
theorem dL_partOf_14 : decode cL_partOf 14 = .ok (.ireturn, 1) := by decide +kernel
theorem dL_partOf_15 : decode cL_partOf 15 = .ok (.iconst 0, 1) := by decide +kernel
theorem dL_partOf_16 : decode cL_partOf 16 = .ok (.ireturn, 1) := by decide +kernel
theorem dL_partSize_0 : decode cL_partSize 0 = .ok (.aload_n 2, 1) := by decide +kernel
theorem dL_partSize_1 : decode cL_partSize 1 = .ok (.iconst 0, 1) := by decide +kernel
theorem dL_partSize_2 : decode cL_partSize 2 = .ok (.aload_n 0, 1) := by decide +kernel
theorem dL_partSize_3 : decode cL_partSize 3 = .ok (.iload_n 1, 1) := by decide +kernel
theorem dL_partSize_4 : decode cL_partSize 4 = .ok (.invokevirtual 53, 3) := by decide +kernel
theorem dL_partSize_7 : decode cL_partSize 7 = .ok (.i2l, 1) := by decide +kernel
theorem dL_partSize_8 : decode cL_partSize 8 = .ok (.lastore, 1) := by decide +kernel
theorem dL_partSize_9 : decode cL_partSize 9 = .ok (.goto 6, 3) := by decide +kernel
theorem dL_partSize_12 : decode cL_partSize 12 = .ok (.astore_n 3, 1) := by decide +kernel
theorem dL_partSize_13 : decode cL_partSize 13 = .ok (.iconst 1, 1) := by decide +kernel
theorem dL_partSize_14 : decode cL_partSize 14 = .ok (.ireturn, 1) := by decide +kernel
theorem dL_partSize_15 : decode cL_partSize 15 = .ok (.iconst 0, 1) := by decide +kernel
theorem dL_partSize_16 : decode cL_partSize 16 = .ok (.ireturn, 1) := by decide +kernel
theorem dL_peacesWith_0 : decode cL_peacesWith 0 = .ok (.aload_n 2, 1) := by decide +kernel
theorem dL_peacesWith_1 : decode cL_peacesWith 1 = .ok (.iconst 0, 1) := by decide +kernel
theorem dL_peacesWith_2 : decode cL_peacesWith 2 = .ok (.aload_n 0, 1) := by decide +kernel
theorem dL_peacesWith_3 : decode cL_peacesWith 3 = .ok (.iload_n 1, 1) := by decide +kernel
theorem dL_peacesWith_4 : decode cL_peacesWith 4 = .ok (.invokevirtual 56, 3) := by decide +kernel
theorem dL_peacesWith_7 : decode cL_peacesWith 7 = .ok (.i2l, 1) := by decide +kernel
theorem dL_peacesWith_8 : decode cL_peacesWith 8 = .ok (.lastore, 1) := by decide +kernel
theorem dL_peacesWith_9 : decode cL_peacesWith 9 = .ok (.goto 6, 3) := by decide +kernel
theorem dL_peacesWith_12 : decode cL_peacesWith 12 = .ok (.astore_n 3, 1) := by decide +kernel
theorem dL_peacesWith_13 : decode cL_peacesWith 13 = .ok (.iconst 1, 1) := by decide +kernel
theorem dL_peacesWith_14 : decode cL_peacesWith 14 = .ok (.ireturn, 1) := by decide +kernel
theorem dL_peacesWith_15 : decode cL_peacesWith 15 = .ok (.iconst 0, 1) := by decide +kernel
theorem dL_peacesWith_16 : decode cL_peacesWith 16 = .ok (.ireturn, 1) := by decide +kernel
theorem dL_isPossible_0 : decode cL_isPossible 0 = .ok (.aload_n 2, 1) := by decide +kernel
theorem dL_isPossible_1 : decode cL_isPossible 1 = .ok (.iconst 0, 1) := by decide +kernel
theorem dL_isPossible_2 : decode cL_isPossible 2 = .ok (.aload_n 0, 1) := by decide +kernel
theorem dL_isPossible_3 : decode cL_isPossible 3 = .ok (.iload_n 1, 1) := by decide +kernel
theorem dL_isPossible_4 : decode cL_isPossible 4 = .ok (.invokevirtual 59, 3) := by decide +kernel
theorem dL_isPossible_7 : decode cL_isPossible 7 = .ok (.ifCond .eq 7, 3) := by decide +kernel
theorem dL_isPossible_10 : decode cL_isPossible 10 = .ok (.lconst 1, 1) := by decide +kernel
theorem dL_isPossible_11 : decode cL_isPossible 11 = .ok (.goto 4, 3) := by decide +kernel
theorem dL_isPossible_14 : decode cL_isPossible 14 = .ok (.lconst 0, 1) := by decide +kernel
theorem dL_isPossible_15 : decode cL_isPossible 15 = .ok (.lastore, 1) := by decide +kernel
theorem dL_isPossible_16 : decode cL_isPossible 16 = .ok (.goto 6, 3) := by decide +kernel
theorem dL_isPossible_19 : decode cL_isPossible 19 = .ok (.astore_n 3, 1) := by decide +kernel
theorem dL_isPossible_20 : decode cL_isPossible 20 = .ok (.iconst 1, 1) := by decide +kernel
theorem dL_isPossible_21 : decode cL_isPossible 21 = .ok (.ireturn, 1) := by decide +kernel
theorem dL_isPossible_22 : decode cL_isPossible 22 = .ok (.iconst 0, 1) := by decide +kernel
theorem dL_isPossible_23 : decode cL_isPossible 23 = .ok (.ireturn, 1) := by decide +kernel
theorem dL_isSettled_0 : decode cL_isSettled 0 = .ok (.aload_n 2, 1) := by decide +kernel
theorem dL_isSettled_1 : decode cL_isSettled 1 = .ok (.iconst 0, 1) := by decide +kernel
theorem dL_isSettled_2 : decode cL_isSettled 2 = .ok (.aload_n 0, 1) := by decide +kernel
theorem dL_isSettled_3 : decode cL_isSettled 3 = .ok (.iload_n 1, 1) := by decide +kernel
theorem dL_isSettled_4 : decode cL_isSettled 4 = .ok (.invokevirtual 62, 3) := by decide +kernel
theorem dL_isSettled_7 : decode cL_isSettled 7 = .ok (.ifCond .eq 7, 3) := by decide +kernel
theorem dL_isSettled_10 : decode cL_isSettled 10 = .ok (.lconst 1, 1) := by decide +kernel
theorem dL_isSettled_11 : decode cL_isSettled 11 = .ok (.goto 4, 3) := by decide +kernel
theorem dL_isSettled_14 : decode cL_isSettled 14 = .ok (.lconst 0, 1) := by decide +kernel
theorem dL_isSettled_15 : decode cL_isSettled 15 = .ok (.lastore, 1) := by decide +kernel
theorem dL_isSettled_16 : decode cL_isSettled 16 = .ok (.goto 9, 3) := by decide +kernel
theorem dL_isSettled_19 : decode cL_isSettled 19 = .ok (.astore_n 3, 1) := by decide +kernel
theorem dL_isSettled_20 : decode cL_isSettled 20 = .ok (.iconst 1, 1) := by decide +kernel
theorem dL_isSettled_21 : decode cL_isSettled 21 = .ok (.ireturn, 1) := by decide +kernel
theorem dL_isSettled_22 : decode cL_isSettled 22 = .ok (.astore_n 3, 1) := by decide +kernel
theorem dL_isSettled_23 : decode cL_isSettled 23 = .ok (.iconst 2, 1) := by decide +kernel
theorem dL_isSettled_24 : decode cL_isSettled 24 = .ok (.ireturn, 1) := by decide +kernel
theorem dL_isSettled_25 : decode cL_isSettled 25 = .ok (.iconst 0, 1) := by decide +kernel
theorem dL_isSettled_26 : decode cL_isSettled 26 = .ok (.ireturn, 1) := by decide +kernel
theorem dL_ridesInPeace_0 : decode cL_ridesInPeace 0 = .ok (.aload_n 2, 1) := by decide +kernel
theorem dL_ridesInPeace_1 : decode cL_ridesInPeace 1 = .ok (.iconst 0, 1) := by decide +kernel
theorem dL_ridesInPeace_2 : decode cL_ridesInPeace 2 = .ok (.aload_n 0, 1) := by decide +kernel
theorem dL_ridesInPeace_3 : decode cL_ridesInPeace 3 = .ok (.iload_n 1, 1) := by decide +kernel
theorem dL_ridesInPeace_4 : decode cL_ridesInPeace 4 = .ok (.invokevirtual 65, 3) := by decide +kernel
theorem dL_ridesInPeace_7 : decode cL_ridesInPeace 7 = .ok (.ifCond .eq 7, 3) := by decide +kernel
theorem dL_ridesInPeace_10 : decode cL_ridesInPeace 10 = .ok (.lconst 1, 1) := by decide +kernel
theorem dL_ridesInPeace_11 : decode cL_ridesInPeace 11 = .ok (.goto 4, 3) := by decide +kernel
theorem dL_ridesInPeace_14 : decode cL_ridesInPeace 14 = .ok (.lconst 0, 1) := by decide +kernel
theorem dL_ridesInPeace_15 : decode cL_ridesInPeace 15 = .ok (.lastore, 1) := by decide +kernel
theorem dL_ridesInPeace_16 : decode cL_ridesInPeace 16 = .ok (.goto 9, 3) := by decide +kernel
theorem dL_ridesInPeace_19 : decode cL_ridesInPeace 19 = .ok (.astore_n 3, 1) := by decide +kernel
theorem dL_ridesInPeace_20 : decode cL_ridesInPeace 20 = .ok (.iconst 1, 1) := by decide +kernel
theorem dL_ridesInPeace_21 : decode cL_ridesInPeace 21 = .ok (.ireturn, 1) := by decide +kernel
theorem dL_ridesInPeace_22 : decode cL_ridesInPeace 22 = .ok (.astore_n 3, 1) := by decide +kernel
theorem dL_ridesInPeace_23 : decode cL_ridesInPeace 23 = .ok (.iconst 2, 1) := by decide +kernel
theorem dL_ridesInPeace_24 : decode cL_ridesInPeace 24 = .ok (.ireturn, 1) := by decide +kernel
theorem dL_ridesInPeace_25 : decode cL_ridesInPeace 25 = .ok (.iconst 0, 1) := by decide +kernel
theorem dL_ridesInPeace_26 : decode cL_ridesInPeace 26 = .ok (.ireturn, 1) := by decide +kernel
theorem dL_ridersInPeace_0 : decode cL_ridersInPeace 0 = .ok (.aload_n 1, 1) := by decide +kernel
theorem dL_ridersInPeace_1 : decode cL_ridersInPeace 1 = .ok (.iconst 0, 1) := by decide +kernel
theorem dL_ridersInPeace_2 : decode cL_ridersInPeace 2 = .ok (.aload_n 0, 1) := by decide +kernel
theorem dL_ridersInPeace_3 : decode cL_ridersInPeace 3 = .ok (.invokevirtual 68, 3) := by decide +kernel
theorem dL_ridersInPeace_6 : decode cL_ridersInPeace 6 = .ok (.i2l, 1) := by decide +kernel
theorem dL_ridersInPeace_7 : decode cL_ridersInPeace 7 = .ok (.lastore, 1) := by decide +kernel
theorem dL_ridersInPeace_8 : decode cL_ridersInPeace 8 = .ok (.goto 6, 3) := by decide +kernel
theorem dL_ridersInPeace_11 : decode cL_ridersInPeace 11 = .ok (.astore_n 2, 1) := by decide +kernel
theorem dL_ridersInPeace_12 : decode cL_ridersInPeace 12 = .ok (.iconst 1, 1) := by decide +kernel
theorem dL_ridersInPeace_13 : decode cL_ridersInPeace 13 = .ok (.ireturn, 1) := by decide +kernel
theorem dL_ridersInPeace_14 : decode cL_ridersInPeace 14 = .ok (.iconst 0, 1) := by decide +kernel
theorem dL_ridersInPeace_15 : decode cL_ridersInPeace 15 = .ok (.ireturn, 1) := by decide +kernel
theorem dL_blamedFamily_0 : decode cL_blamedFamily 0 = .ok (.aload_n 1, 1) := by decide +kernel
theorem dL_blamedFamily_1 : decode cL_blamedFamily 1 = .ok (.iconst 0, 1) := by decide +kernel
theorem dL_blamedFamily_2 : decode cL_blamedFamily 2 = .ok (.aload_n 0, 1) := by decide +kernel
theorem dL_blamedFamily_3 : decode cL_blamedFamily 3 = .ok (.invokevirtual 72, 3) := by decide +kernel
theorem dL_blamedFamily_6 : decode cL_blamedFamily 6 = .ok (.i2l, 1) := by decide +kernel
theorem dL_blamedFamily_7 : decode cL_blamedFamily 7 = .ok (.lastore, 1) := by decide +kernel
theorem dL_blamedFamily_8 : decode cL_blamedFamily 8 = .ok (.goto 6, 3) := by decide +kernel
theorem dL_blamedFamily_11 : decode cL_blamedFamily 11 = .ok (.astore_n 2, 1) := by decide +kernel
theorem dL_blamedFamily_12 : decode cL_blamedFamily 12 = .ok (.iconst 1, 1) := by decide +kernel
theorem dL_blamedFamily_13 : decode cL_blamedFamily 13 = .ok (.ireturn, 1) := by decide +kernel
theorem dL_blamedFamily_14 : decode cL_blamedFamily 14 = .ok (.iconst 0, 1) := by decide +kernel
theorem dL_blamedFamily_15 : decode cL_blamedFamily 15 = .ok (.ireturn, 1) := by decide +kernel
theorem dL_breakStatement_0 : decode cL_breakStatement 0 = .ok (.aload_n 2, 1) := by decide +kernel
theorem dL_breakStatement_1 : decode cL_breakStatement 1 = .ok (.iconst 0, 1) := by decide +kernel
theorem dL_breakStatement_2 : decode cL_breakStatement 2 = .ok (.aload_n 0, 1) := by decide +kernel
theorem dL_breakStatement_3 : decode cL_breakStatement 3 = .ok (.iload_n 1, 1) := by decide +kernel
theorem dL_breakStatement_4 : decode cL_breakStatement 4 = .ok (.invokevirtual 75, 3) := by decide +kernel
theorem dL_breakStatement_7 : decode cL_breakStatement 7 = .ok (.i2l, 1) := by decide +kernel
theorem dL_breakStatement_8 : decode cL_breakStatement 8 = .ok (.lastore, 1) := by decide +kernel
theorem dL_breakStatement_9 : decode cL_breakStatement 9 = .ok (.goto 9, 3) := by decide +kernel
theorem dL_breakStatement_12 : decode cL_breakStatement 12 = .ok (.astore_n 3, 1) := by decide +kernel
theorem dL_breakStatement_13 : decode cL_breakStatement 13 = .ok (.iconst 1, 1) := by decide +kernel
theorem dL_breakStatement_14 : decode cL_breakStatement 14 = .ok (.ireturn, 1) := by decide +kernel
theorem dL_breakStatement_15 : decode cL_breakStatement 15 = .ok (.astore_n 3, 1) := by decide +kernel
theorem dL_breakStatement_16 : decode cL_breakStatement 16 = .ok (.iconst 2, 1) := by decide +kernel
theorem dL_breakStatement_17 : decode cL_breakStatement 17 = .ok (.ireturn, 1) := by decide +kernel
theorem dL_breakStatement_18 : decode cL_breakStatement 18 = .ok (.iconst 0, 1) := by decide +kernel
theorem dL_breakStatement_19 : decode cL_breakStatement 19 = .ok (.ireturn, 1) := by decide +kernel
theorem dL_renewStatement_0 : decode cL_renewStatement 0 = .ok (.aload_n 2, 1) := by decide +kernel
theorem dL_renewStatement_1 : decode cL_renewStatement 1 = .ok (.iconst 0, 1) := by decide +kernel
theorem dL_renewStatement_2 : decode cL_renewStatement 2 = .ok (.aload_n 0, 1) := by decide +kernel
theorem dL_renewStatement_3 : decode cL_renewStatement 3 = .ok (.iload_n 1, 1) := by decide +kernel
theorem dL_renewStatement_4 : decode cL_renewStatement 4 = .ok (.invokevirtual 78, 3) := by decide +kernel
theorem dL_renewStatement_7 : decode cL_renewStatement 7 = .ok (.i2l, 1) := by decide +kernel
theorem dL_renewStatement_8 : decode cL_renewStatement 8 = .ok (.lastore, 1) := by decide +kernel
theorem dL_renewStatement_9 : decode cL_renewStatement 9 = .ok (.goto 9, 3) := by decide +kernel
theorem dL_renewStatement_12 : decode cL_renewStatement 12 = .ok (.astore_n 3, 1) := by decide +kernel
theorem dL_renewStatement_13 : decode cL_renewStatement 13 = .ok (.iconst 1, 1) := by decide +kernel
theorem dL_renewStatement_14 : decode cL_renewStatement 14 = .ok (.ireturn, 1) := by decide +kernel
theorem dL_renewStatement_15 : decode cL_renewStatement 15 = .ok (.astore_n 3, 1) := by decide +kernel
theorem dL_renewStatement_16 : decode cL_renewStatement 16 = .ok (.iconst 2, 1) := by decide +kernel
theorem dL_renewStatement_17 : decode cL_renewStatement 17 = .ok (.ireturn, 1) := by decide +kernel
theorem dL_renewStatement_18 : decode cL_renewStatement 18 = .ok (.iconst 0, 1) := by decide +kernel
theorem dL_renewStatement_19 : decode cL_renewStatement 19 = .ok (.ireturn, 1) := by decide +kernel
theorem dL_passDays_0 : decode cL_passDays 0 = .ok (.aload_n 2, 1) := by decide +kernel
theorem dL_passDays_1 : decode cL_passDays 1 = .ok (.iconst 0, 1) := by decide +kernel
theorem dL_passDays_2 : decode cL_passDays 2 = .ok (.aload_n 0, 1) := by decide +kernel
theorem dL_passDays_3 : decode cL_passDays 3 = .ok (.iload_n 1, 1) := by decide +kernel
theorem dL_passDays_4 : decode cL_passDays 4 = .ok (.invokevirtual 81, 3) := by decide +kernel
theorem dL_passDays_7 : decode cL_passDays 7 = .ok (.i2l, 1) := by decide +kernel
theorem dL_passDays_8 : decode cL_passDays 8 = .ok (.lastore, 1) := by decide +kernel
theorem dL_passDays_9 : decode cL_passDays 9 = .ok (.goto 6, 3) := by decide +kernel
theorem dL_passDays_12 : decode cL_passDays 12 = .ok (.astore_n 3, 1) := by decide +kernel
theorem dL_passDays_13 : decode cL_passDays 13 = .ok (.iconst 1, 1) := by decide +kernel
theorem dL_passDays_14 : decode cL_passDays 14 = .ok (.ireturn, 1) := by decide +kernel
theorem dL_passDays_15 : decode cL_passDays 15 = .ok (.iconst 0, 1) := by decide +kernel
theorem dL_passDays_16 : decode cL_passDays 16 = .ok (.ireturn, 1) := by decide +kernel
theorem dL_standingAfter_0 : decode cL_standingAfter 0 = .ok (.aload_n 2, 1) := by decide +kernel
theorem dL_standingAfter_1 : decode cL_standingAfter 1 = .ok (.iconst 0, 1) := by decide +kernel
theorem dL_standingAfter_2 : decode cL_standingAfter 2 = .ok (.aload_n 0, 1) := by decide +kernel
theorem dL_standingAfter_3 : decode cL_standingAfter 3 = .ok (.iload_n 1, 1) := by decide +kernel
theorem dL_standingAfter_4 : decode cL_standingAfter 4 = .ok (.invokevirtual 84, 3) := by decide +kernel
theorem dL_standingAfter_7 : decode cL_standingAfter 7 = .ok (.i2l, 1) := by decide +kernel
theorem dL_standingAfter_8 : decode cL_standingAfter 8 = .ok (.lastore, 1) := by decide +kernel
theorem dL_standingAfter_9 : decode cL_standingAfter 9 = .ok (.goto 6, 3) := by decide +kernel
theorem dL_standingAfter_12 : decode cL_standingAfter 12 = .ok (.astore_n 3, 1) := by decide +kernel
theorem dL_standingAfter_13 : decode cL_standingAfter 13 = .ok (.iconst 1, 1) := by decide +kernel
theorem dL_standingAfter_14 : decode cL_standingAfter 14 = .ok (.ireturn, 1) := by decide +kernel
theorem dL_standingAfter_15 : decode cL_standingAfter 15 = .ok (.iconst 0, 1) := by decide +kernel
theorem dL_standingAfter_16 : decode cL_standingAfter 16 = .ok (.ireturn, 1) := by decide +kernel
theorem dL_peacesAfter_0 : decode cL_peacesAfter 0 = .ok (.aload_n 2, 1) := by decide +kernel
theorem dL_peacesAfter_1 : decode cL_peacesAfter 1 = .ok (.iconst 0, 1) := by decide +kernel
theorem dL_peacesAfter_2 : decode cL_peacesAfter 2 = .ok (.aload_n 0, 1) := by decide +kernel
theorem dL_peacesAfter_3 : decode cL_peacesAfter 3 = .ok (.iload_n 1, 1) := by decide +kernel
theorem dL_peacesAfter_4 : decode cL_peacesAfter 4 = .ok (.invokevirtual 87, 3) := by decide +kernel
theorem dL_peacesAfter_7 : decode cL_peacesAfter 7 = .ok (.i2l, 1) := by decide +kernel
theorem dL_peacesAfter_8 : decode cL_peacesAfter 8 = .ok (.lastore, 1) := by decide +kernel
theorem dL_peacesAfter_9 : decode cL_peacesAfter 9 = .ok (.goto 6, 3) := by decide +kernel
theorem dL_peacesAfter_12 : decode cL_peacesAfter 12 = .ok (.astore_n 3, 1) := by decide +kernel
theorem dL_peacesAfter_13 : decode cL_peacesAfter 13 = .ok (.iconst 1, 1) := by decide +kernel
theorem dL_peacesAfter_14 : decode cL_peacesAfter 14 = .ok (.ireturn, 1) := by decide +kernel
theorem dL_peacesAfter_15 : decode cL_peacesAfter 15 = .ok (.iconst 0, 1) := by decide +kernel
theorem dL_peacesAfter_16 : decode cL_peacesAfter 16 = .ok (.ireturn, 1) := by decide +kernel
theorem dL_mostTellingOath_0 : decode cL_mostTellingOath 0 = .ok (.aload_n 1, 1) := by decide +kernel
theorem dL_mostTellingOath_1 : decode cL_mostTellingOath 1 = .ok (.iconst 0, 1) := by decide +kernel
theorem dL_mostTellingOath_2 : decode cL_mostTellingOath 2 = .ok (.aload_n 0, 1) := by decide +kernel
theorem dL_mostTellingOath_3 : decode cL_mostTellingOath 3 = .ok (.invokevirtual 90, 3) := by decide +kernel
theorem dL_mostTellingOath_6 : decode cL_mostTellingOath 6 = .ok (.i2l, 1) := by decide +kernel
theorem dL_mostTellingOath_7 : decode cL_mostTellingOath 7 = .ok (.lastore, 1) := by decide +kernel
theorem dL_mostTellingOath_8 : decode cL_mostTellingOath 8 = .ok (.goto 6, 3) := by decide +kernel
theorem dL_mostTellingOath_11 : decode cL_mostTellingOath 11 = .ok (.astore_n 2, 1) := by decide +kernel
theorem dL_mostTellingOath_12 : decode cL_mostTellingOath 12 = .ok (.iconst 1, 1) := by decide +kernel
theorem dL_mostTellingOath_13 : decode cL_mostTellingOath 13 = .ok (.ireturn, 1) := by decide +kernel
theorem dL_mostTellingOath_14 : decode cL_mostTellingOath 14 = .ok (.iconst 0, 1) := by decide +kernel
theorem dL_mostTellingOath_15 : decode cL_mostTellingOath 15 = .ok (.ireturn, 1) := by decide +kernel
theorem dL_law_0 : decode cL_law 0 = .ok (.new 8, 3) := by decide +kernel
theorem dL_law_3 : decode cL_law 3 = .ok (.dup, 1) := by decide +kernel
theorem dL_law_4 : decode cL_law 4 = .ok (.invokespecial 93, 3) := by decide +kernel
theorem dL_law_7 : decode cL_law 7 = .ok (.astore_n 1, 1) := by decide +kernel
theorem dL_law_8 : decode cL_law 8 = .ok (.new 94, 3) := by decide +kernel
theorem dL_law_11 : decode cL_law 11 = .ok (.dup, 1) := by decide +kernel
theorem dL_law_12 : decode cL_law 12 = .ok (.invokespecial 96, 3) := by decide +kernel
theorem dL_law_15 : decode cL_law 15 = .ok (.astore_n 2, 1) := by decide +kernel
theorem dL_law_16 : decode cL_law 16 = .ok (.iconst 1, 1) := by decide +kernel
theorem dL_law_17 : decode cL_law 17 = .ok (.newarray .long, 2) := by decide +kernel
theorem dL_law_19 : decode cL_law 19 = .ok (.astore_n 3, 1) := by decide +kernel
theorem dL_law_20 : decode cL_law 20 = .ok (.iconst 0, 1) := by decide +kernel
theorem dL_law_21 : decode cL_law 21 = .ok (.istore 4, 2) := by decide +kernel
theorem dL_law_23 : decode cL_law 23 = .ok (.iload 4, 2) := by decide +kernel
theorem dL_law_25 : decode cL_law 25 = .ok (.aload_n 0, 1) := by decide +kernel
theorem dL_law_26 : decode cL_law 26 = .ok (.arraylength, 1) := by decide +kernel
theorem dL_law_27 : decode cL_law 27 = .ok (.bipush 6, 2) := by decide +kernel
theorem dL_law_29 : decode cL_law 29 = .ok (.isub, 1) := by decide +kernel
theorem dL_law_30 : decode cL_law 30 = .ok (.if_icmp .gt 1851, 3) := by decide +kernel
theorem dL_law_33 : decode cL_law 33 = .ok (.aload_n 0, 1) := by decide +kernel
theorem dL_law_34 : decode cL_law 34 = .ok (.iload 4, 2) := by decide +kernel
theorem dL_law_36 : decode cL_law 36 = .ok (.iaload, 1) := by decide +kernel
theorem dL_law_37 : decode cL_law 37 = .ok (.bipush 63, 2) := by decide +kernel
theorem dL_law_39 : decode cL_law 39 = .ok (.iand, 1) := by decide +kernel
theorem dL_law_40 : decode cL_law 40 = .ok (.tableswitch 1835 0 39 #[176, 280, 336, 349, 362, 375, 388, 401, 414, 427, 440, 453, 509, 565, 621, 684, 747, 822, 878, 946, 959, 1015, 1071, 1084, 1097, 1153, 1216, 1279, 1342, 1386, 1430, 1486, 1542, 1598, 1654, 1710, 1723, 1736, 1780, 1821], 176) := by decide +kernel
theorem dL_law_216 : decode cL_law 216 = .ok (.aload_n 1, 1) := by decide +kernel
theorem dL_law_217 : decode cL_law 217 = .ok (.aload_n 0, 1) := by decide +kernel
theorem dL_law_218 : decode cL_law 218 = .ok (.iload 4, 2) := by decide +kernel
theorem dL_law_220 : decode cL_law 220 = .ok (.iconst 1, 1) := by decide +kernel
theorem dL_law_221 : decode cL_law 221 = .ok (.iadd, 1) := by decide +kernel
theorem dL_law_222 : decode cL_law 222 = .ok (.iaload, 1) := by decide +kernel
theorem dL_law_223 : decode cL_law 223 = .ok (.aload_n 0, 1) := by decide +kernel
theorem dL_law_224 : decode cL_law 224 = .ok (.iload 4, 2) := by decide +kernel
theorem dL_law_226 : decode cL_law 226 = .ok (.iconst 2, 1) := by decide +kernel
theorem dL_law_227 : decode cL_law 227 = .ok (.iadd, 1) := by decide +kernel
theorem dL_law_228 : decode cL_law 228 = .ok (.iaload, 1) := by decide +kernel
theorem dL_law_229 : decode cL_law 229 = .ok (.aload_n 0, 1) := by decide +kernel
theorem dL_law_230 : decode cL_law 230 = .ok (.iload 4, 2) := by decide +kernel
theorem dL_law_232 : decode cL_law 232 = .ok (.iconst 3, 1) := by decide +kernel
theorem dL_law_233 : decode cL_law 233 = .ok (.iadd, 1) := by decide +kernel
theorem dL_law_234 : decode cL_law 234 = .ok (.iaload, 1) := by decide +kernel
theorem dL_law_235 : decode cL_law 235 = .ok (.aload_n 0, 1) := by decide +kernel
theorem dL_law_236 : decode cL_law 236 = .ok (.iload 4, 2) := by decide +kernel
theorem dL_law_238 : decode cL_law 238 = .ok (.iconst 4, 1) := by decide +kernel
theorem dL_law_239 : decode cL_law 239 = .ok (.iadd, 1) := by decide +kernel
theorem dL_law_240 : decode cL_law 240 = .ok (.iaload, 1) := by decide +kernel
theorem dL_law_241 : decode cL_law 241 = .ok (.aload_n 0, 1) := by decide +kernel
theorem dL_law_242 : decode cL_law 242 = .ok (.iload 4, 2) := by decide +kernel
theorem dL_law_244 : decode cL_law 244 = .ok (.iconst 5, 1) := by decide +kernel
theorem dL_law_245 : decode cL_law 245 = .ok (.iadd, 1) := by decide +kernel
theorem dL_law_246 : decode cL_law 246 = .ok (.iaload, 1) := by decide +kernel
theorem dL_law_247 : decode cL_law 247 = .ok (.aload_n 3, 1) := by decide +kernel
theorem dL_law_248 : decode cL_law 248 = .ok (.invokestatic 97, 3) := by decide +kernel
theorem dL_law_251 : decode cL_law 251 = .ok (.istore 5, 2) := by decide +kernel
theorem dL_law_253 : decode cL_law 253 = .ok (.aload_n 2, 1) := by decide +kernel
theorem dL_law_254 : decode cL_law 254 = .ok (.aload_n 0, 1) := by decide +kernel
theorem dL_law_255 : decode cL_law 255 = .ok (.iload 4, 2) := by decide +kernel
theorem dL_law_257 : decode cL_law 257 = .ok (.iconst 1, 1) := by decide +kernel
theorem dL_law_258 : decode cL_law 258 = .ok (.iadd, 1) := by decide +kernel
theorem dL_law_259 : decode cL_law 259 = .ok (.iaload, 1) := by decide +kernel
theorem dL_law_260 : decode cL_law 260 = .ok (.aload_n 0, 1) := by decide +kernel
theorem dL_law_261 : decode cL_law 261 = .ok (.iload 4, 2) := by decide +kernel
theorem dL_law_263 : decode cL_law 263 = .ok (.iconst 2, 1) := by decide +kernel
theorem dL_law_264 : decode cL_law 264 = .ok (.iadd, 1) := by decide +kernel
theorem dL_law_265 : decode cL_law 265 = .ok (.iaload, 1) := by decide +kernel
theorem dL_law_266 : decode cL_law 266 = .ok (.aload_n 0, 1) := by decide +kernel
theorem dL_law_267 : decode cL_law 267 = .ok (.iload 4, 2) := by decide +kernel
theorem dL_law_269 : decode cL_law 269 = .ok (.iconst 3, 1) := by decide +kernel
theorem dL_law_270 : decode cL_law 270 = .ok (.iadd, 1) := by decide +kernel
theorem dL_law_271 : decode cL_law 271 = .ok (.iaload, 1) := by decide +kernel
theorem dL_law_272 : decode cL_law 272 = .ok (.aload_n 0, 1) := by decide +kernel
theorem dL_law_273 : decode cL_law 273 = .ok (.iload 4, 2) := by decide +kernel
theorem dL_law_275 : decode cL_law 275 = .ok (.iconst 4, 1) := by decide +kernel
theorem dL_law_276 : decode cL_law 276 = .ok (.iadd, 1) := by decide +kernel
theorem dL_law_277 : decode cL_law 277 = .ok (.iaload, 1) := by decide +kernel
theorem dL_law_278 : decode cL_law 278 = .ok (.aload_n 0, 1) := by decide +kernel
theorem dL_law_279 : decode cL_law 279 = .ok (.iload 4, 2) := by decide +kernel
theorem dL_law_281 : decode cL_law 281 = .ok (.iconst 5, 1) := by decide +kernel
theorem dL_law_282 : decode cL_law 282 = .ok (.iadd, 1) := by decide +kernel
theorem dL_law_283 : decode cL_law 283 = .ok (.iaload, 1) := by decide +kernel
theorem dL_law_284 : decode cL_law 284 = .ok (.invokevirtual 102, 3) := by decide +kernel
theorem dL_law_287 : decode cL_law 287 = .ok (.istore 6, 2) := by decide +kernel
theorem dL_law_289 : decode cL_law 289 = .ok (.aload_n 2, 1) := by decide +kernel
theorem dL_law_290 : decode cL_law 290 = .ok (.invokevirtual 103, 3) := by decide +kernel
theorem dL_law_293 : decode cL_law 293 = .ok (.iload 5, 2) := by decide +kernel
theorem dL_law_295 : decode cL_law 295 = .ok (.if_icmp .eq 5, 3) := by decide +kernel
theorem dL_law_298 : decode cL_law 298 = .ok (.iconst 0, 1) := by decide +kernel
theorem dL_law_299 : decode cL_law 299 = .ok (.ireturn, 1) := by decide +kernel
theorem dL_law_300 : decode cL_law 300 = .ok (.iload 5, 2) := by decide +kernel
theorem dL_law_302 : decode cL_law 302 = .ok (.ifCond .ne 15, 3) := by decide +kernel
theorem dL_law_305 : decode cL_law 305 = .ok (.aload_n 3, 1) := by decide +kernel
theorem dL_law_306 : decode cL_law 306 = .ok (.iconst 0, 1) := by decide +kernel
theorem dL_law_307 : decode cL_law 307 = .ok (.laload, 1) := by decide +kernel
theorem dL_law_308 : decode cL_law 308 = .ok (.iload 6, 2) := by decide +kernel
theorem dL_law_310 : decode cL_law 310 = .ok (.i2l, 1) := by decide +kernel
theorem dL_law_311 : decode cL_law 311 = .ok (.lcmp, 1) := by decide +kernel
theorem dL_law_312 : decode cL_law 312 = .ok (.ifCond .eq 5, 3) := by decide +kernel
theorem dL_law_315 : decode cL_law 315 = .ok (.iconst 0, 1) := by decide +kernel
theorem dL_law_316 : decode cL_law 316 = .ok (.ireturn, 1) := by decide +kernel
theorem dL_law_317 : decode cL_law 317 = .ok (.goto 1558, 3) := by decide +kernel
theorem dL_law_320 : decode cL_law 320 = .ok (.aload_n 1, 1) := by decide +kernel
theorem dL_law_321 : decode cL_law 321 = .ok (.aload_n 0, 1) := by decide +kernel
theorem dL_law_322 : decode cL_law 322 = .ok (.iload 4, 2) := by decide +kernel
theorem dL_law_324 : decode cL_law 324 = .ok (.iconst 1, 1) := by decide +kernel
theorem dL_law_325 : decode cL_law 325 = .ok (.iadd, 1) := by decide +kernel
theorem dL_law_326 : decode cL_law 326 = .ok (.iaload, 1) := by decide +kernel
theorem dL_law_327 : decode cL_law 327 = .ok (.aload_n 3, 1) := by decide +kernel
theorem dL_law_328 : decode cL_law 328 = .ok (.invokestatic 106, 3) := by decide +kernel
theorem dL_law_331 : decode cL_law 331 = .ok (.istore 5, 2) := by decide +kernel
theorem dL_law_333 : decode cL_law 333 = .ok (.aload_n 2, 1) := by decide +kernel
theorem dL_law_334 : decode cL_law 334 = .ok (.aload_n 0, 1) := by decide +kernel
theorem dL_law_335 : decode cL_law 335 = .ok (.iload 4, 2) := by decide +kernel
theorem dL_law_337 : decode cL_law 337 = .ok (.iconst 1, 1) := by decide +kernel
theorem dL_law_338 : decode cL_law 338 = .ok (.iadd, 1) := by decide +kernel
theorem dL_law_339 : decode cL_law 339 = .ok (.iaload, 1) := by decide +kernel
theorem dL_law_340 : decode cL_law 340 = .ok (.invokevirtual 109, 3) := by decide +kernel
theorem dL_law_343 : decode cL_law 343 = .ok (.istore 6, 2) := by decide +kernel
theorem dL_law_345 : decode cL_law 345 = .ok (.aload_n 2, 1) := by decide +kernel
theorem dL_law_346 : decode cL_law 346 = .ok (.invokevirtual 103, 3) := by decide +kernel
theorem dL_law_349 : decode cL_law 349 = .ok (.iload 5, 2) := by decide +kernel
theorem dL_law_351 : decode cL_law 351 = .ok (.if_icmp .eq 5, 3) := by decide +kernel
theorem dL_law_354 : decode cL_law 354 = .ok (.iconst 0, 1) := by decide +kernel
theorem dL_law_355 : decode cL_law 355 = .ok (.ireturn, 1) := by decide +kernel
theorem dL_law_356 : decode cL_law 356 = .ok (.iload 5, 2) := by decide +kernel
theorem dL_law_358 : decode cL_law 358 = .ok (.ifCond .ne 15, 3) := by decide +kernel
theorem dL_law_361 : decode cL_law 361 = .ok (.aload_n 3, 1) := by decide +kernel
theorem dL_law_362 : decode cL_law 362 = .ok (.iconst 0, 1) := by decide +kernel
theorem dL_law_363 : decode cL_law 363 = .ok (.laload, 1) := by decide +kernel
theorem dL_law_364 : decode cL_law 364 = .ok (.iload 6, 2) := by decide +kernel
theorem dL_law_366 : decode cL_law 366 = .ok (.i2l, 1) := by decide +kernel
theorem dL_law_367 : decode cL_law 367 = .ok (.lcmp, 1) := by decide +kernel
theorem dL_law_368 : decode cL_law 368 = .ok (.ifCond .eq 5, 3) := by decide +kernel
theorem dL_law_371 : decode cL_law 371 = .ok (.iconst 0, 1) := by decide +kernel
theorem dL_law_372 : decode cL_law 372 = .ok (.ireturn, 1) := by decide +kernel
theorem dL_law_373 : decode cL_law 373 = .ok (.goto 1502, 3) := by decide +kernel
theorem dL_law_376 : decode cL_law 376 = .ok (.aload_n 1, 1) := by decide +kernel
theorem dL_law_377 : decode cL_law 377 = .ok (.invokevirtual 110, 3) := by decide +kernel
theorem dL_law_380 : decode cL_law 380 = .ok (.aload_n 2, 1) := by decide +kernel
theorem dL_law_381 : decode cL_law 381 = .ok (.invokevirtual 113, 3) := by decide +kernel
theorem dL_law_384 : decode cL_law 384 = .ok (.if_icmp .eq 1491, 3) := by decide +kernel
theorem dL_law_387 : decode cL_law 387 = .ok (.iconst 0, 1) := by decide +kernel
theorem dL_law_388 : decode cL_law 388 = .ok (.ireturn, 1) := by decide +kernel
theorem dL_law_389 : decode cL_law 389 = .ok (.aload_n 1, 1) := by decide +kernel
theorem dL_law_390 : decode cL_law 390 = .ok (.invokevirtual 114, 3) := by decide +kernel
theorem dL_law_393 : decode cL_law 393 = .ok (.aload_n 2, 1) := by decide +kernel
theorem dL_law_394 : decode cL_law 394 = .ok (.invokevirtual 117, 3) := by decide +kernel
theorem dL_law_397 : decode cL_law 397 = .ok (.if_icmp .eq 1478, 3) := by decide +kernel
theorem dL_law_400 : decode cL_law 400 = .ok (.iconst 0, 1) := by decide +kernel
theorem dL_law_401 : decode cL_law 401 = .ok (.ireturn, 1) := by decide +kernel
theorem dL_law_402 : decode cL_law 402 = .ok (.aload_n 1, 1) := by decide +kernel
theorem dL_law_403 : decode cL_law 403 = .ok (.invokevirtual 118, 3) := by decide +kernel
theorem dL_law_406 : decode cL_law 406 = .ok (.aload_n 2, 1) := by decide +kernel
theorem dL_law_407 : decode cL_law 407 = .ok (.invokevirtual 121, 3) := by decide +kernel
theorem dL_law_410 : decode cL_law 410 = .ok (.if_icmp .eq 1465, 3) := by decide +kernel
theorem dL_law_413 : decode cL_law 413 = .ok (.iconst 0, 1) := by decide +kernel
theorem dL_law_414 : decode cL_law 414 = .ok (.ireturn, 1) := by decide +kernel
theorem dL_law_415 : decode cL_law 415 = .ok (.aload_n 1, 1) := by decide +kernel
theorem dL_law_416 : decode cL_law 416 = .ok (.invokevirtual 122, 3) := by decide +kernel
theorem dL_law_419 : decode cL_law 419 = .ok (.aload_n 2, 1) := by decide +kernel
theorem dL_law_420 : decode cL_law 420 = .ok (.invokevirtual 125, 3) := by decide +kernel
theorem dL_law_423 : decode cL_law 423 = .ok (.if_icmp .eq 1452, 3) := by decide +kernel
theorem dL_law_426 : decode cL_law 426 = .ok (.iconst 0, 1) := by decide +kernel
theorem dL_law_427 : decode cL_law 427 = .ok (.ireturn, 1) := by decide +kernel
theorem dL_law_428 : decode cL_law 428 = .ok (.aload_n 1, 1) := by decide +kernel
theorem dL_law_429 : decode cL_law 429 = .ok (.invokevirtual 126, 3) := by decide +kernel
theorem dL_law_432 : decode cL_law 432 = .ok (.aload_n 2, 1) := by decide +kernel
theorem dL_law_433 : decode cL_law 433 = .ok (.invokevirtual 129, 3) := by decide +kernel
theorem dL_law_436 : decode cL_law 436 = .ok (.if_icmp .eq 1439, 3) := by decide +kernel
theorem dL_law_439 : decode cL_law 439 = .ok (.iconst 0, 1) := by decide +kernel
theorem dL_law_440 : decode cL_law 440 = .ok (.ireturn, 1) := by decide +kernel
theorem dL_law_441 : decode cL_law 441 = .ok (.aload_n 1, 1) := by decide +kernel
theorem dL_law_442 : decode cL_law 442 = .ok (.invokevirtual 130, 3) := by decide +kernel
theorem dL_law_445 : decode cL_law 445 = .ok (.aload_n 2, 1) := by decide +kernel
theorem dL_law_446 : decode cL_law 446 = .ok (.invokevirtual 133, 3) := by decide +kernel
theorem dL_law_449 : decode cL_law 449 = .ok (.if_icmp .eq 1426, 3) := by decide +kernel
theorem dL_law_452 : decode cL_law 452 = .ok (.iconst 0, 1) := by decide +kernel
theorem dL_law_453 : decode cL_law 453 = .ok (.ireturn, 1) := by decide +kernel
theorem dL_law_454 : decode cL_law 454 = .ok (.aload_n 1, 1) := by decide +kernel
theorem dL_law_455 : decode cL_law 455 = .ok (.invokevirtual 134, 3) := by decide +kernel
theorem dL_law_458 : decode cL_law 458 = .ok (.aload_n 2, 1) := by decide +kernel
theorem dL_law_459 : decode cL_law 459 = .ok (.invokevirtual 137, 3) := by decide +kernel
theorem dL_law_462 : decode cL_law 462 = .ok (.if_icmp .eq 1413, 3) := by decide +kernel
theorem dL_law_465 : decode cL_law 465 = .ok (.iconst 0, 1) := by decide +kernel
theorem dL_law_466 : decode cL_law 466 = .ok (.ireturn, 1) := by decide +kernel
theorem dL_law_467 : decode cL_law 467 = .ok (.aload_n 1, 1) := by decide +kernel
theorem dL_law_468 : decode cL_law 468 = .ok (.invokevirtual 138, 3) := by decide +kernel
theorem dL_law_471 : decode cL_law 471 = .ok (.aload_n 2, 1) := by decide +kernel
theorem dL_law_472 : decode cL_law 472 = .ok (.invokevirtual 141, 3) := by decide +kernel
theorem dL_law_475 : decode cL_law 475 = .ok (.if_icmp .eq 1400, 3) := by decide +kernel
theorem dL_law_478 : decode cL_law 478 = .ok (.iconst 0, 1) := by decide +kernel
theorem dL_law_479 : decode cL_law 479 = .ok (.ireturn, 1) := by decide +kernel
theorem dL_law_480 : decode cL_law 480 = .ok (.aload_n 1, 1) := by decide +kernel
theorem dL_law_481 : decode cL_law 481 = .ok (.invokevirtual 142, 3) := by decide +kernel
theorem dL_law_484 : decode cL_law 484 = .ok (.aload_n 2, 1) := by decide +kernel
theorem dL_law_485 : decode cL_law 485 = .ok (.invokevirtual 145, 3) := by decide +kernel
theorem dL_law_488 : decode cL_law 488 = .ok (.if_icmp .eq 1387, 3) := by decide +kernel
theorem dL_law_491 : decode cL_law 491 = .ok (.iconst 0, 1) := by decide +kernel
theorem dL_law_492 : decode cL_law 492 = .ok (.ireturn, 1) := by decide +kernel
theorem dL_law_493 : decode cL_law 493 = .ok (.aload_n 1, 1) := by decide +kernel
theorem dL_law_494 : decode cL_law 494 = .ok (.aload_n 0, 1) := by decide +kernel
theorem dL_law_495 : decode cL_law 495 = .ok (.iload 4, 2) := by decide +kernel
theorem dL_law_497 : decode cL_law 497 = .ok (.iconst 1, 1) := by decide +kernel
theorem dL_law_498 : decode cL_law 498 = .ok (.iadd, 1) := by decide +kernel
theorem dL_law_499 : decode cL_law 499 = .ok (.iaload, 1) := by decide +kernel
theorem dL_law_500 : decode cL_law 500 = .ok (.aload_n 3, 1) := by decide +kernel
theorem dL_law_501 : decode cL_law 501 = .ok (.invokestatic 146, 3) := by decide +kernel
theorem dL_law_504 : decode cL_law 504 = .ok (.istore 5, 2) := by decide +kernel
theorem dL_law_506 : decode cL_law 506 = .ok (.aload_n 2, 1) := by decide +kernel
theorem dL_law_507 : decode cL_law 507 = .ok (.aload_n 0, 1) := by decide +kernel
theorem dL_law_508 : decode cL_law 508 = .ok (.iload 4, 2) := by decide +kernel
theorem dL_law_510 : decode cL_law 510 = .ok (.iconst 1, 1) := by decide +kernel
theorem dL_law_511 : decode cL_law 511 = .ok (.iadd, 1) := by decide +kernel
theorem dL_law_512 : decode cL_law 512 = .ok (.iaload, 1) := by decide +kernel
theorem dL_law_513 : decode cL_law 513 = .ok (.invokevirtual 148, 3) := by decide +kernel
theorem dL_law_516 : decode cL_law 516 = .ok (.istore 6, 2) := by decide +kernel
theorem dL_law_518 : decode cL_law 518 = .ok (.aload_n 2, 1) := by decide +kernel
theorem dL_law_519 : decode cL_law 519 = .ok (.invokevirtual 103, 3) := by decide +kernel
theorem dL_law_522 : decode cL_law 522 = .ok (.iload 5, 2) := by decide +kernel
theorem dL_law_524 : decode cL_law 524 = .ok (.if_icmp .eq 5, 3) := by decide +kernel
theorem dL_law_527 : decode cL_law 527 = .ok (.iconst 0, 1) := by decide +kernel
theorem dL_law_528 : decode cL_law 528 = .ok (.ireturn, 1) := by decide +kernel
theorem dL_law_529 : decode cL_law 529 = .ok (.iload 5, 2) := by decide +kernel
theorem dL_law_531 : decode cL_law 531 = .ok (.ifCond .ne 15, 3) := by decide +kernel
theorem dL_law_534 : decode cL_law 534 = .ok (.aload_n 3, 1) := by decide +kernel
theorem dL_law_535 : decode cL_law 535 = .ok (.iconst 0, 1) := by decide +kernel
theorem dL_law_536 : decode cL_law 536 = .ok (.laload, 1) := by decide +kernel
theorem dL_law_537 : decode cL_law 537 = .ok (.iload 6, 2) := by decide +kernel
theorem dL_law_539 : decode cL_law 539 = .ok (.i2l, 1) := by decide +kernel
theorem dL_law_540 : decode cL_law 540 = .ok (.lcmp, 1) := by decide +kernel
theorem dL_law_541 : decode cL_law 541 = .ok (.ifCond .eq 5, 3) := by decide +kernel
theorem dL_law_544 : decode cL_law 544 = .ok (.iconst 0, 1) := by decide +kernel
theorem dL_law_545 : decode cL_law 545 = .ok (.ireturn, 1) := by decide +kernel
theorem dL_law_546 : decode cL_law 546 = .ok (.goto 1329, 3) := by decide +kernel
theorem dL_law_549 : decode cL_law 549 = .ok (.aload_n 1, 1) := by decide +kernel
theorem dL_law_550 : decode cL_law 550 = .ok (.aload_n 0, 1) := by decide +kernel
theorem dL_law_551 : decode cL_law 551 = .ok (.iload 4, 2) := by decide +kernel
theorem dL_law_553 : decode cL_law 553 = .ok (.iconst 1, 1) := by decide +kernel
theorem dL_law_554 : decode cL_law 554 = .ok (.iadd, 1) := by decide +kernel
theorem dL_law_555 : decode cL_law 555 = .ok (.iaload, 1) := by decide +kernel
theorem dL_law_556 : decode cL_law 556 = .ok (.aload_n 3, 1) := by decide +kernel
theorem dL_law_557 : decode cL_law 557 = .ok (.invokestatic 149, 3) := by decide +kernel
theorem dL_law_560 : decode cL_law 560 = .ok (.istore 5, 2) := by decide +kernel
theorem dL_law_562 : decode cL_law 562 = .ok (.aload_n 2, 1) := by decide +kernel
theorem dL_law_563 : decode cL_law 563 = .ok (.aload_n 0, 1) := by decide +kernel
theorem dL_law_564 : decode cL_law 564 = .ok (.iload 4, 2) := by decide +kernel
theorem dL_law_566 : decode cL_law 566 = .ok (.iconst 1, 1) := by decide +kernel
theorem dL_law_567 : decode cL_law 567 = .ok (.iadd, 1) := by decide +kernel
theorem dL_law_568 : decode cL_law 568 = .ok (.iaload, 1) := by decide +kernel
theorem dL_law_569 : decode cL_law 569 = .ok (.invokevirtual 151, 3) := by decide +kernel
theorem dL_law_572 : decode cL_law 572 = .ok (.istore 6, 2) := by decide +kernel
theorem dL_law_574 : decode cL_law 574 = .ok (.aload_n 2, 1) := by decide +kernel
theorem dL_law_575 : decode cL_law 575 = .ok (.invokevirtual 103, 3) := by decide +kernel
theorem dL_law_578 : decode cL_law 578 = .ok (.iload 5, 2) := by decide +kernel
theorem dL_law_580 : decode cL_law 580 = .ok (.if_icmp .eq 5, 3) := by decide +kernel
theorem dL_law_583 : decode cL_law 583 = .ok (.iconst 0, 1) := by decide +kernel
theorem dL_law_584 : decode cL_law 584 = .ok (.ireturn, 1) := by decide +kernel
theorem dL_law_585 : decode cL_law 585 = .ok (.iload 5, 2) := by decide +kernel
theorem dL_law_587 : decode cL_law 587 = .ok (.ifCond .ne 15, 3) := by decide +kernel
theorem dL_law_590 : decode cL_law 590 = .ok (.aload_n 3, 1) := by decide +kernel
theorem dL_law_591 : decode cL_law 591 = .ok (.iconst 0, 1) := by decide +kernel
theorem dL_law_592 : decode cL_law 592 = .ok (.laload, 1) := by decide +kernel
theorem dL_law_593 : decode cL_law 593 = .ok (.iload 6, 2) := by decide +kernel
theorem dL_law_595 : decode cL_law 595 = .ok (.i2l, 1) := by decide +kernel
theorem dL_law_596 : decode cL_law 596 = .ok (.lcmp, 1) := by decide +kernel
theorem dL_law_597 : decode cL_law 597 = .ok (.ifCond .eq 5, 3) := by decide +kernel
theorem dL_law_600 : decode cL_law 600 = .ok (.iconst 0, 1) := by decide +kernel
theorem dL_law_601 : decode cL_law 601 = .ok (.ireturn, 1) := by decide +kernel
theorem dL_law_602 : decode cL_law 602 = .ok (.goto 1273, 3) := by decide +kernel
theorem dL_law_605 : decode cL_law 605 = .ok (.aload_n 1, 1) := by decide +kernel
theorem dL_law_606 : decode cL_law 606 = .ok (.aload_n 0, 1) := by decide +kernel
theorem dL_law_607 : decode cL_law 607 = .ok (.iload 4, 2) := by decide +kernel
theorem dL_law_609 : decode cL_law 609 = .ok (.iconst 1, 1) := by decide +kernel
theorem dL_law_610 : decode cL_law 610 = .ok (.iadd, 1) := by decide +kernel
theorem dL_law_611 : decode cL_law 611 = .ok (.iaload, 1) := by decide +kernel
theorem dL_law_612 : decode cL_law 612 = .ok (.aload_n 3, 1) := by decide +kernel
theorem dL_law_613 : decode cL_law 613 = .ok (.invokestatic 152, 3) := by decide +kernel
theorem dL_law_616 : decode cL_law 616 = .ok (.istore 5, 2) := by decide +kernel
theorem dL_law_618 : decode cL_law 618 = .ok (.aload_n 2, 1) := by decide +kernel
theorem dL_law_619 : decode cL_law 619 = .ok (.aload_n 0, 1) := by decide +kernel
theorem dL_law_620 : decode cL_law 620 = .ok (.iload 4, 2) := by decide +kernel
theorem dL_law_622 : decode cL_law 622 = .ok (.iconst 1, 1) := by decide +kernel
theorem dL_law_623 : decode cL_law 623 = .ok (.iadd, 1) := by decide +kernel
theorem dL_law_624 : decode cL_law 624 = .ok (.iaload, 1) := by decide +kernel
theorem dL_law_625 : decode cL_law 625 = .ok (.invokevirtual 154, 3) := by decide +kernel
theorem dL_law_628 : decode cL_law 628 = .ok (.istore 6, 2) := by decide +kernel
theorem dL_law_630 : decode cL_law 630 = .ok (.aload_n 2, 1) := by decide +kernel
theorem dL_law_631 : decode cL_law 631 = .ok (.invokevirtual 103, 3) := by decide +kernel
theorem dL_law_634 : decode cL_law 634 = .ok (.iload 5, 2) := by decide +kernel
theorem dL_law_636 : decode cL_law 636 = .ok (.if_icmp .eq 5, 3) := by decide +kernel
theorem dL_law_639 : decode cL_law 639 = .ok (.iconst 0, 1) := by decide +kernel
theorem dL_law_640 : decode cL_law 640 = .ok (.ireturn, 1) := by decide +kernel
theorem dL_law_641 : decode cL_law 641 = .ok (.iload 5, 2) := by decide +kernel
theorem dL_law_643 : decode cL_law 643 = .ok (.ifCond .ne 15, 3) := by decide +kernel
theorem dL_law_646 : decode cL_law 646 = .ok (.aload_n 3, 1) := by decide +kernel
theorem dL_law_647 : decode cL_law 647 = .ok (.iconst 0, 1) := by decide +kernel
theorem dL_law_648 : decode cL_law 648 = .ok (.laload, 1) := by decide +kernel
theorem dL_law_649 : decode cL_law 649 = .ok (.iload 6, 2) := by decide +kernel
theorem dL_law_651 : decode cL_law 651 = .ok (.i2l, 1) := by decide +kernel
theorem dL_law_652 : decode cL_law 652 = .ok (.lcmp, 1) := by decide +kernel
theorem dL_law_653 : decode cL_law 653 = .ok (.ifCond .eq 5, 3) := by decide +kernel
theorem dL_law_656 : decode cL_law 656 = .ok (.iconst 0, 1) := by decide +kernel
theorem dL_law_657 : decode cL_law 657 = .ok (.ireturn, 1) := by decide +kernel
theorem dL_law_658 : decode cL_law 658 = .ok (.goto 1217, 3) := by decide +kernel
theorem dL_law_661 : decode cL_law 661 = .ok (.aload_n 1, 1) := by decide +kernel
theorem dL_law_662 : decode cL_law 662 = .ok (.aload_n 0, 1) := by decide +kernel
theorem dL_law_663 : decode cL_law 663 = .ok (.iload 4, 2) := by decide +kernel
theorem dL_law_665 : decode cL_law 665 = .ok (.iconst 1, 1) := by decide +kernel
theorem dL_law_666 : decode cL_law 666 = .ok (.iadd, 1) := by decide +kernel
theorem dL_law_667 : decode cL_law 667 = .ok (.iaload, 1) := by decide +kernel
theorem dL_law_668 : decode cL_law 668 = .ok (.aload_n 3, 1) := by decide +kernel
theorem dL_law_669 : decode cL_law 669 = .ok (.invokestatic 155, 3) := by decide +kernel
theorem dL_law_672 : decode cL_law 672 = .ok (.istore 5, 2) := by decide +kernel
theorem dL_law_674 : decode cL_law 674 = .ok (.aload_n 2, 1) := by decide +kernel
theorem dL_law_675 : decode cL_law 675 = .ok (.aload_n 0, 1) := by decide +kernel
theorem dL_law_676 : decode cL_law 676 = .ok (.iload 4, 2) := by decide +kernel
theorem dL_law_678 : decode cL_law 678 = .ok (.iconst 1, 1) := by decide +kernel
theorem dL_law_679 : decode cL_law 679 = .ok (.iadd, 1) := by decide +kernel
theorem dL_law_680 : decode cL_law 680 = .ok (.iaload, 1) := by decide +kernel
theorem dL_law_681 : decode cL_law 681 = .ok (.invokevirtual 157, 3) := by decide +kernel
theorem dL_law_684 : decode cL_law 684 = .ok (.istore 6, 2) := by decide +kernel
theorem dL_law_686 : decode cL_law 686 = .ok (.aload_n 2, 1) := by decide +kernel
theorem dL_law_687 : decode cL_law 687 = .ok (.invokevirtual 103, 3) := by decide +kernel
theorem dL_law_690 : decode cL_law 690 = .ok (.iload 5, 2) := by decide +kernel
theorem dL_law_692 : decode cL_law 692 = .ok (.if_icmp .eq 5, 3) := by decide +kernel
theorem dL_law_695 : decode cL_law 695 = .ok (.iconst 0, 1) := by decide +kernel
theorem dL_law_696 : decode cL_law 696 = .ok (.ireturn, 1) := by decide +kernel
theorem dL_law_697 : decode cL_law 697 = .ok (.iload 5, 2) := by decide +kernel
theorem dL_law_699 : decode cL_law 699 = .ok (.ifCond .ne 22, 3) := by decide +kernel
theorem dL_law_702 : decode cL_law 702 = .ok (.aload_n 3, 1) := by decide +kernel
theorem dL_law_703 : decode cL_law 703 = .ok (.iconst 0, 1) := by decide +kernel
theorem dL_law_704 : decode cL_law 704 = .ok (.laload, 1) := by decide +kernel
theorem dL_law_705 : decode cL_law 705 = .ok (.iload 6, 2) := by decide +kernel
theorem dL_law_707 : decode cL_law 707 = .ok (.ifCond .eq 7, 3) := by decide +kernel
theorem dL_law_710 : decode cL_law 710 = .ok (.lconst 1, 1) := by decide +kernel
theorem dL_law_711 : decode cL_law 711 = .ok (.goto 4, 3) := by decide +kernel
theorem dL_law_714 : decode cL_law 714 = .ok (.lconst 0, 1) := by decide +kernel
theorem dL_law_715 : decode cL_law 715 = .ok (.lcmp, 1) := by decide +kernel
theorem dL_law_716 : decode cL_law 716 = .ok (.ifCond .eq 5, 3) := by decide +kernel
theorem dL_law_719 : decode cL_law 719 = .ok (.iconst 0, 1) := by decide +kernel
theorem dL_law_720 : decode cL_law 720 = .ok (.ireturn, 1) := by decide +kernel
theorem dL_law_721 : decode cL_law 721 = .ok (.goto 1154, 3) := by decide +kernel
theorem dL_law_724 : decode cL_law 724 = .ok (.aload_n 1, 1) := by decide +kernel
theorem dL_law_725 : decode cL_law 725 = .ok (.aload_n 0, 1) := by decide +kernel
theorem dL_law_726 : decode cL_law 726 = .ok (.iload 4, 2) := by decide +kernel
theorem dL_law_728 : decode cL_law 728 = .ok (.iconst 1, 1) := by decide +kernel
theorem dL_law_729 : decode cL_law 729 = .ok (.iadd, 1) := by decide +kernel
theorem dL_law_730 : decode cL_law 730 = .ok (.iaload, 1) := by decide +kernel
theorem dL_law_731 : decode cL_law 731 = .ok (.aload_n 3, 1) := by decide +kernel
theorem dL_law_732 : decode cL_law 732 = .ok (.invokestatic 158, 3) := by decide +kernel
theorem dL_law_735 : decode cL_law 735 = .ok (.istore 5, 2) := by decide +kernel
theorem dL_law_737 : decode cL_law 737 = .ok (.aload_n 2, 1) := by decide +kernel
theorem dL_law_738 : decode cL_law 738 = .ok (.aload_n 0, 1) := by decide +kernel
theorem dL_law_739 : decode cL_law 739 = .ok (.iload 4, 2) := by decide +kernel
theorem dL_law_741 : decode cL_law 741 = .ok (.iconst 1, 1) := by decide +kernel
theorem dL_law_742 : decode cL_law 742 = .ok (.iadd, 1) := by decide +kernel
theorem dL_law_743 : decode cL_law 743 = .ok (.iaload, 1) := by decide +kernel
theorem dL_law_744 : decode cL_law 744 = .ok (.invokevirtual 160, 3) := by decide +kernel
theorem dL_law_747 : decode cL_law 747 = .ok (.istore 6, 2) := by decide +kernel
theorem dL_law_749 : decode cL_law 749 = .ok (.aload_n 2, 1) := by decide +kernel
theorem dL_law_750 : decode cL_law 750 = .ok (.invokevirtual 103, 3) := by decide +kernel
theorem dL_law_753 : decode cL_law 753 = .ok (.iload 5, 2) := by decide +kernel
theorem dL_law_755 : decode cL_law 755 = .ok (.if_icmp .eq 5, 3) := by decide +kernel
theorem dL_law_758 : decode cL_law 758 = .ok (.iconst 0, 1) := by decide +kernel
theorem dL_law_759 : decode cL_law 759 = .ok (.ireturn, 1) := by decide +kernel
theorem dL_law_760 : decode cL_law 760 = .ok (.iload 5, 2) := by decide +kernel
theorem dL_law_762 : decode cL_law 762 = .ok (.ifCond .ne 22, 3) := by decide +kernel
theorem dL_law_765 : decode cL_law 765 = .ok (.aload_n 3, 1) := by decide +kernel
theorem dL_law_766 : decode cL_law 766 = .ok (.iconst 0, 1) := by decide +kernel
theorem dL_law_767 : decode cL_law 767 = .ok (.laload, 1) := by decide +kernel
theorem dL_law_768 : decode cL_law 768 = .ok (.iload 6, 2) := by decide +kernel
theorem dL_law_770 : decode cL_law 770 = .ok (.ifCond .eq 7, 3) := by decide +kernel
theorem dL_law_773 : decode cL_law 773 = .ok (.lconst 1, 1) := by decide +kernel
theorem dL_law_774 : decode cL_law 774 = .ok (.goto 4, 3) := by decide +kernel
theorem dL_law_777 : decode cL_law 777 = .ok (.lconst 0, 1) := by decide +kernel
theorem dL_law_778 : decode cL_law 778 = .ok (.lcmp, 1) := by decide +kernel
theorem dL_law_779 : decode cL_law 779 = .ok (.ifCond .eq 5, 3) := by decide +kernel
theorem dL_law_782 : decode cL_law 782 = .ok (.iconst 0, 1) := by decide +kernel
theorem dL_law_783 : decode cL_law 783 = .ok (.ireturn, 1) := by decide +kernel
theorem dL_law_784 : decode cL_law 784 = .ok (.goto 1091, 3) := by decide +kernel
theorem dL_law_787 : decode cL_law 787 = .ok (.aload_n 1, 1) := by decide +kernel
theorem dL_law_788 : decode cL_law 788 = .ok (.aload_n 0, 1) := by decide +kernel
theorem dL_law_789 : decode cL_law 789 = .ok (.iload 4, 2) := by decide +kernel
theorem dL_law_791 : decode cL_law 791 = .ok (.iconst 1, 1) := by decide +kernel
theorem dL_law_792 : decode cL_law 792 = .ok (.iadd, 1) := by decide +kernel
theorem dL_law_793 : decode cL_law 793 = .ok (.iaload, 1) := by decide +kernel
theorem dL_law_794 : decode cL_law 794 = .ok (.aload_n 0, 1) := by decide +kernel
theorem dL_law_795 : decode cL_law 795 = .ok (.iload 4, 2) := by decide +kernel
theorem dL_law_797 : decode cL_law 797 = .ok (.iconst 2, 1) := by decide +kernel
theorem dL_law_798 : decode cL_law 798 = .ok (.iadd, 1) := by decide +kernel
theorem dL_law_799 : decode cL_law 799 = .ok (.iaload, 1) := by decide +kernel
theorem dL_law_800 : decode cL_law 800 = .ok (.aload_n 3, 1) := by decide +kernel
theorem dL_law_801 : decode cL_law 801 = .ok (.invokestatic 161, 3) := by decide +kernel
theorem dL_law_804 : decode cL_law 804 = .ok (.istore 5, 2) := by decide +kernel
theorem dL_law_806 : decode cL_law 806 = .ok (.aload_n 2, 1) := by decide +kernel
theorem dL_law_807 : decode cL_law 807 = .ok (.aload_n 0, 1) := by decide +kernel
theorem dL_law_808 : decode cL_law 808 = .ok (.iload 4, 2) := by decide +kernel
theorem dL_law_810 : decode cL_law 810 = .ok (.iconst 1, 1) := by decide +kernel
theorem dL_law_811 : decode cL_law 811 = .ok (.iadd, 1) := by decide +kernel
theorem dL_law_812 : decode cL_law 812 = .ok (.iaload, 1) := by decide +kernel
theorem dL_law_813 : decode cL_law 813 = .ok (.aload_n 0, 1) := by decide +kernel
theorem dL_law_814 : decode cL_law 814 = .ok (.iload 4, 2) := by decide +kernel
theorem dL_law_816 : decode cL_law 816 = .ok (.iconst 2, 1) := by decide +kernel
theorem dL_law_817 : decode cL_law 817 = .ok (.iadd, 1) := by decide +kernel
theorem dL_law_818 : decode cL_law 818 = .ok (.iaload, 1) := by decide +kernel
theorem dL_law_819 : decode cL_law 819 = .ok (.invokevirtual 164, 3) := by decide +kernel
theorem dL_law_822 : decode cL_law 822 = .ok (.istore 6, 2) := by decide +kernel
theorem dL_law_824 : decode cL_law 824 = .ok (.aload_n 2, 1) := by decide +kernel
theorem dL_law_825 : decode cL_law 825 = .ok (.invokevirtual 103, 3) := by decide +kernel
theorem dL_law_828 : decode cL_law 828 = .ok (.iload 5, 2) := by decide +kernel
theorem dL_law_830 : decode cL_law 830 = .ok (.if_icmp .eq 5, 3) := by decide +kernel
theorem dL_law_833 : decode cL_law 833 = .ok (.iconst 0, 1) := by decide +kernel
theorem dL_law_834 : decode cL_law 834 = .ok (.ireturn, 1) := by decide +kernel
theorem dL_law_835 : decode cL_law 835 = .ok (.iload 5, 2) := by decide +kernel
theorem dL_law_837 : decode cL_law 837 = .ok (.ifCond .ne 22, 3) := by decide +kernel
theorem dL_law_840 : decode cL_law 840 = .ok (.aload_n 3, 1) := by decide +kernel
theorem dL_law_841 : decode cL_law 841 = .ok (.iconst 0, 1) := by decide +kernel
theorem dL_law_842 : decode cL_law 842 = .ok (.laload, 1) := by decide +kernel
theorem dL_law_843 : decode cL_law 843 = .ok (.iload 6, 2) := by decide +kernel
theorem dL_law_845 : decode cL_law 845 = .ok (.ifCond .eq 7, 3) := by decide +kernel
theorem dL_law_848 : decode cL_law 848 = .ok (.lconst 1, 1) := by decide +kernel
theorem dL_law_849 : decode cL_law 849 = .ok (.goto 4, 3) := by decide +kernel
theorem dL_law_852 : decode cL_law 852 = .ok (.lconst 0, 1) := by decide +kernel
theorem dL_law_853 : decode cL_law 853 = .ok (.lcmp, 1) := by decide +kernel
theorem dL_law_854 : decode cL_law 854 = .ok (.ifCond .eq 5, 3) := by decide +kernel
theorem dL_law_857 : decode cL_law 857 = .ok (.iconst 0, 1) := by decide +kernel
theorem dL_law_858 : decode cL_law 858 = .ok (.ireturn, 1) := by decide +kernel
theorem dL_law_859 : decode cL_law 859 = .ok (.goto 1016, 3) := by decide +kernel
theorem dL_law_862 : decode cL_law 862 = .ok (.aload_n 1, 1) := by decide +kernel
theorem dL_law_863 : decode cL_law 863 = .ok (.aload_n 0, 1) := by decide +kernel
theorem dL_law_864 : decode cL_law 864 = .ok (.iload 4, 2) := by decide +kernel
theorem dL_law_866 : decode cL_law 866 = .ok (.iconst 1, 1) := by decide +kernel
theorem dL_law_867 : decode cL_law 867 = .ok (.iadd, 1) := by decide +kernel
theorem dL_law_868 : decode cL_law 868 = .ok (.iaload, 1) := by decide +kernel
theorem dL_law_869 : decode cL_law 869 = .ok (.aload_n 3, 1) := by decide +kernel
theorem dL_law_870 : decode cL_law 870 = .ok (.invokestatic 165, 3) := by decide +kernel
theorem dL_law_873 : decode cL_law 873 = .ok (.istore 5, 2) := by decide +kernel
theorem dL_law_875 : decode cL_law 875 = .ok (.aload_n 2, 1) := by decide +kernel
theorem dL_law_876 : decode cL_law 876 = .ok (.aload_n 0, 1) := by decide +kernel
theorem dL_law_877 : decode cL_law 877 = .ok (.iload 4, 2) := by decide +kernel
theorem dL_law_879 : decode cL_law 879 = .ok (.iconst 1, 1) := by decide +kernel
theorem dL_law_880 : decode cL_law 880 = .ok (.iadd, 1) := by decide +kernel
theorem dL_law_881 : decode cL_law 881 = .ok (.iaload, 1) := by decide +kernel
theorem dL_law_882 : decode cL_law 882 = .ok (.invokevirtual 167, 3) := by decide +kernel
theorem dL_law_885 : decode cL_law 885 = .ok (.istore 6, 2) := by decide +kernel
theorem dL_law_887 : decode cL_law 887 = .ok (.aload_n 2, 1) := by decide +kernel
theorem dL_law_888 : decode cL_law 888 = .ok (.invokevirtual 103, 3) := by decide +kernel
theorem dL_law_891 : decode cL_law 891 = .ok (.iload 5, 2) := by decide +kernel
theorem dL_law_893 : decode cL_law 893 = .ok (.if_icmp .eq 5, 3) := by decide +kernel
theorem dL_law_896 : decode cL_law 896 = .ok (.iconst 0, 1) := by decide +kernel
theorem dL_law_897 : decode cL_law 897 = .ok (.ireturn, 1) := by decide +kernel
theorem dL_law_898 : decode cL_law 898 = .ok (.iload 5, 2) := by decide +kernel
theorem dL_law_900 : decode cL_law 900 = .ok (.ifCond .ne 15, 3) := by decide +kernel
theorem dL_law_903 : decode cL_law 903 = .ok (.aload_n 3, 1) := by decide +kernel
theorem dL_law_904 : decode cL_law 904 = .ok (.iconst 0, 1) := by decide +kernel
theorem dL_law_905 : decode cL_law 905 = .ok (.laload, 1) := by decide +kernel
theorem dL_law_906 : decode cL_law 906 = .ok (.iload 6, 2) := by decide +kernel
theorem dL_law_908 : decode cL_law 908 = .ok (.i2l, 1) := by decide +kernel
theorem dL_law_909 : decode cL_law 909 = .ok (.lcmp, 1) := by decide +kernel
theorem dL_law_910 : decode cL_law 910 = .ok (.ifCond .eq 5, 3) := by decide +kernel
theorem dL_law_913 : decode cL_law 913 = .ok (.iconst 0, 1) := by decide +kernel
theorem dL_law_914 : decode cL_law 914 = .ok (.ireturn, 1) := by decide +kernel
theorem dL_law_915 : decode cL_law 915 = .ok (.goto 960, 3) := by decide +kernel
theorem dL_law_918 : decode cL_law 918 = .ok (.aload_n 1, 1) := by decide +kernel
theorem dL_law_919 : decode cL_law 919 = .ok (.aload_n 0, 1) := by decide +kernel
theorem dL_law_920 : decode cL_law 920 = .ok (.iload 4, 2) := by decide +kernel
theorem dL_law_922 : decode cL_law 922 = .ok (.iconst 1, 1) := by decide +kernel
theorem dL_law_923 : decode cL_law 923 = .ok (.iadd, 1) := by decide +kernel
theorem dL_law_924 : decode cL_law 924 = .ok (.iaload, 1) := by decide +kernel
theorem dL_law_925 : decode cL_law 925 = .ok (.aload_n 0, 1) := by decide +kernel
theorem dL_law_926 : decode cL_law 926 = .ok (.iload 4, 2) := by decide +kernel
theorem dL_law_928 : decode cL_law 928 = .ok (.iconst 2, 1) := by decide +kernel
theorem dL_law_929 : decode cL_law 929 = .ok (.iadd, 1) := by decide +kernel
theorem dL_law_930 : decode cL_law 930 = .ok (.iaload, 1) := by decide +kernel
theorem dL_law_931 : decode cL_law 931 = .ok (.aload_n 3, 1) := by decide +kernel
theorem dL_law_932 : decode cL_law 932 = .ok (.invokestatic 168, 3) := by decide +kernel
theorem dL_law_935 : decode cL_law 935 = .ok (.istore 5, 2) := by decide +kernel
theorem dL_law_937 : decode cL_law 937 = .ok (.aload_n 2, 1) := by decide +kernel
theorem dL_law_938 : decode cL_law 938 = .ok (.aload_n 0, 1) := by decide +kernel
theorem dL_law_939 : decode cL_law 939 = .ok (.iload 4, 2) := by decide +kernel
theorem dL_law_941 : decode cL_law 941 = .ok (.iconst 1, 1) := by decide +kernel
theorem dL_law_942 : decode cL_law 942 = .ok (.iadd, 1) := by decide +kernel
theorem dL_law_943 : decode cL_law 943 = .ok (.iaload, 1) := by decide +kernel
theorem dL_law_944 : decode cL_law 944 = .ok (.aload_n 0, 1) := by decide +kernel
theorem dL_law_945 : decode cL_law 945 = .ok (.iload 4, 2) := by decide +kernel
theorem dL_law_947 : decode cL_law 947 = .ok (.iconst 2, 1) := by decide +kernel
theorem dL_law_948 : decode cL_law 948 = .ok (.iadd, 1) := by decide +kernel
theorem dL_law_949 : decode cL_law 949 = .ok (.iaload, 1) := by decide +kernel
theorem dL_law_950 : decode cL_law 950 = .ok (.invokevirtual 170, 3) := by decide +kernel
theorem dL_law_953 : decode cL_law 953 = .ok (.istore 6, 2) := by decide +kernel
theorem dL_law_955 : decode cL_law 955 = .ok (.aload_n 2, 1) := by decide +kernel
theorem dL_law_956 : decode cL_law 956 = .ok (.invokevirtual 103, 3) := by decide +kernel
theorem dL_law_959 : decode cL_law 959 = .ok (.iload 5, 2) := by decide +kernel
theorem dL_law_961 : decode cL_law 961 = .ok (.if_icmp .eq 5, 3) := by decide +kernel
theorem dL_law_964 : decode cL_law 964 = .ok (.iconst 0, 1) := by decide +kernel
theorem dL_law_965 : decode cL_law 965 = .ok (.ireturn, 1) := by decide +kernel
theorem dL_law_966 : decode cL_law 966 = .ok (.iload 5, 2) := by decide +kernel
theorem dL_law_968 : decode cL_law 968 = .ok (.ifCond .ne 15, 3) := by decide +kernel
theorem dL_law_971 : decode cL_law 971 = .ok (.aload_n 3, 1) := by decide +kernel
theorem dL_law_972 : decode cL_law 972 = .ok (.iconst 0, 1) := by decide +kernel
theorem dL_law_973 : decode cL_law 973 = .ok (.laload, 1) := by decide +kernel
theorem dL_law_974 : decode cL_law 974 = .ok (.iload 6, 2) := by decide +kernel
theorem dL_law_976 : decode cL_law 976 = .ok (.i2l, 1) := by decide +kernel
theorem dL_law_977 : decode cL_law 977 = .ok (.lcmp, 1) := by decide +kernel
theorem dL_law_978 : decode cL_law 978 = .ok (.ifCond .eq 5, 3) := by decide +kernel
theorem dL_law_981 : decode cL_law 981 = .ok (.iconst 0, 1) := by decide +kernel
theorem dL_law_982 : decode cL_law 982 = .ok (.ireturn, 1) := by decide +kernel
theorem dL_law_983 : decode cL_law 983 = .ok (.goto 892, 3) := by decide +kernel
theorem dL_law_986 : decode cL_law 986 = .ok (.aload_n 1, 1) := by decide +kernel
theorem dL_law_987 : decode cL_law 987 = .ok (.invokevirtual 171, 3) := by decide +kernel
theorem dL_law_990 : decode cL_law 990 = .ok (.aload_n 2, 1) := by decide +kernel
theorem dL_law_991 : decode cL_law 991 = .ok (.invokevirtual 174, 3) := by decide +kernel
theorem dL_law_994 : decode cL_law 994 = .ok (.if_icmp .eq 881, 3) := by decide +kernel
theorem dL_law_997 : decode cL_law 997 = .ok (.iconst 0, 1) := by decide +kernel
theorem dL_law_998 : decode cL_law 998 = .ok (.ireturn, 1) := by decide +kernel
theorem dL_law_999 : decode cL_law 999 = .ok (.aload_n 1, 1) := by decide +kernel
theorem dL_law_1000 : decode cL_law 1000 = .ok (.aload_n 0, 1) := by decide +kernel
theorem dL_law_1001 : decode cL_law 1001 = .ok (.iload 4, 2) := by decide +kernel
theorem dL_law_1003 : decode cL_law 1003 = .ok (.iconst 1, 1) := by decide +kernel
theorem dL_law_1004 : decode cL_law 1004 = .ok (.iadd, 1) := by decide +kernel
theorem dL_law_1005 : decode cL_law 1005 = .ok (.iaload, 1) := by decide +kernel
theorem dL_law_1006 : decode cL_law 1006 = .ok (.aload_n 3, 1) := by decide +kernel
theorem dL_law_1007 : decode cL_law 1007 = .ok (.invokestatic 175, 3) := by decide +kernel
theorem dL_law_1010 : decode cL_law 1010 = .ok (.istore 5, 2) := by decide +kernel
theorem dL_law_1012 : decode cL_law 1012 = .ok (.aload_n 2, 1) := by decide +kernel
theorem dL_law_1013 : decode cL_law 1013 = .ok (.aload_n 0, 1) := by decide +kernel
theorem dL_law_1014 : decode cL_law 1014 = .ok (.iload 4, 2) := by decide +kernel
theorem dL_law_1016 : decode cL_law 1016 = .ok (.iconst 1, 1) := by decide +kernel
theorem dL_law_1017 : decode cL_law 1017 = .ok (.iadd, 1) := by decide +kernel
theorem dL_law_1018 : decode cL_law 1018 = .ok (.iaload, 1) := by decide +kernel
theorem dL_law_1019 : decode cL_law 1019 = .ok (.invokevirtual 177, 3) := by decide +kernel
theorem dL_law_1022 : decode cL_law 1022 = .ok (.istore 6, 2) := by decide +kernel
theorem dL_law_1024 : decode cL_law 1024 = .ok (.aload_n 2, 1) := by decide +kernel
theorem dL_law_1025 : decode cL_law 1025 = .ok (.invokevirtual 103, 3) := by decide +kernel
theorem dL_law_1028 : decode cL_law 1028 = .ok (.iload 5, 2) := by decide +kernel
theorem dL_law_1030 : decode cL_law 1030 = .ok (.if_icmp .eq 5, 3) := by decide +kernel
theorem dL_law_1033 : decode cL_law 1033 = .ok (.iconst 0, 1) := by decide +kernel
theorem dL_law_1034 : decode cL_law 1034 = .ok (.ireturn, 1) := by decide +kernel
theorem dL_law_1035 : decode cL_law 1035 = .ok (.iload 5, 2) := by decide +kernel
theorem dL_law_1037 : decode cL_law 1037 = .ok (.ifCond .ne 15, 3) := by decide +kernel
theorem dL_law_1040 : decode cL_law 1040 = .ok (.aload_n 3, 1) := by decide +kernel
theorem dL_law_1041 : decode cL_law 1041 = .ok (.iconst 0, 1) := by decide +kernel
theorem dL_law_1042 : decode cL_law 1042 = .ok (.laload, 1) := by decide +kernel
theorem dL_law_1043 : decode cL_law 1043 = .ok (.iload 6, 2) := by decide +kernel
theorem dL_law_1045 : decode cL_law 1045 = .ok (.i2l, 1) := by decide +kernel
theorem dL_law_1046 : decode cL_law 1046 = .ok (.lcmp, 1) := by decide +kernel
theorem dL_law_1047 : decode cL_law 1047 = .ok (.ifCond .eq 5, 3) := by decide +kernel
theorem dL_law_1050 : decode cL_law 1050 = .ok (.iconst 0, 1) := by decide +kernel
theorem dL_law_1051 : decode cL_law 1051 = .ok (.ireturn, 1) := by decide +kernel
theorem dL_law_1052 : decode cL_law 1052 = .ok (.goto 823, 3) := by decide +kernel
theorem dL_law_1055 : decode cL_law 1055 = .ok (.aload_n 1, 1) := by decide +kernel
theorem dL_law_1056 : decode cL_law 1056 = .ok (.aload_n 0, 1) := by decide +kernel
theorem dL_law_1057 : decode cL_law 1057 = .ok (.iload 4, 2) := by decide +kernel
theorem dL_law_1059 : decode cL_law 1059 = .ok (.iconst 1, 1) := by decide +kernel
theorem dL_law_1060 : decode cL_law 1060 = .ok (.iadd, 1) := by decide +kernel
theorem dL_law_1061 : decode cL_law 1061 = .ok (.iaload, 1) := by decide +kernel
theorem dL_law_1062 : decode cL_law 1062 = .ok (.aload_n 3, 1) := by decide +kernel
theorem dL_law_1063 : decode cL_law 1063 = .ok (.invokestatic 178, 3) := by decide +kernel
theorem dL_law_1066 : decode cL_law 1066 = .ok (.istore 5, 2) := by decide +kernel
theorem dL_law_1068 : decode cL_law 1068 = .ok (.aload_n 2, 1) := by decide +kernel
theorem dL_law_1069 : decode cL_law 1069 = .ok (.aload_n 0, 1) := by decide +kernel
theorem dL_law_1070 : decode cL_law 1070 = .ok (.iload 4, 2) := by decide +kernel
theorem dL_law_1072 : decode cL_law 1072 = .ok (.iconst 1, 1) := by decide +kernel
theorem dL_law_1073 : decode cL_law 1073 = .ok (.iadd, 1) := by decide +kernel
theorem dL_law_1074 : decode cL_law 1074 = .ok (.iaload, 1) := by decide +kernel
theorem dL_law_1075 : decode cL_law 1075 = .ok (.invokevirtual 180, 3) := by decide +kernel
theorem dL_law_1078 : decode cL_law 1078 = .ok (.istore 6, 2) := by decide +kernel
theorem dL_law_1080 : decode cL_law 1080 = .ok (.aload_n 2, 1) := by decide +kernel
theorem dL_law_1081 : decode cL_law 1081 = .ok (.invokevirtual 103, 3) := by decide +kernel
theorem dL_law_1084 : decode cL_law 1084 = .ok (.iload 5, 2) := by decide +kernel
theorem dL_law_1086 : decode cL_law 1086 = .ok (.if_icmp .eq 5, 3) := by decide +kernel
theorem dL_law_1089 : decode cL_law 1089 = .ok (.iconst 0, 1) := by decide +kernel
theorem dL_law_1090 : decode cL_law 1090 = .ok (.ireturn, 1) := by decide +kernel
theorem dL_law_1091 : decode cL_law 1091 = .ok (.iload 5, 2) := by decide +kernel
theorem dL_law_1093 : decode cL_law 1093 = .ok (.ifCond .ne 15, 3) := by decide +kernel
theorem dL_law_1096 : decode cL_law 1096 = .ok (.aload_n 3, 1) := by decide +kernel
theorem dL_law_1097 : decode cL_law 1097 = .ok (.iconst 0, 1) := by decide +kernel
theorem dL_law_1098 : decode cL_law 1098 = .ok (.laload, 1) := by decide +kernel
theorem dL_law_1099 : decode cL_law 1099 = .ok (.iload 6, 2) := by decide +kernel
theorem dL_law_1101 : decode cL_law 1101 = .ok (.i2l, 1) := by decide +kernel
theorem dL_law_1102 : decode cL_law 1102 = .ok (.lcmp, 1) := by decide +kernel
theorem dL_law_1103 : decode cL_law 1103 = .ok (.ifCond .eq 5, 3) := by decide +kernel
theorem dL_law_1106 : decode cL_law 1106 = .ok (.iconst 0, 1) := by decide +kernel
theorem dL_law_1107 : decode cL_law 1107 = .ok (.ireturn, 1) := by decide +kernel
theorem dL_law_1108 : decode cL_law 1108 = .ok (.goto 767, 3) := by decide +kernel
theorem dL_law_1111 : decode cL_law 1111 = .ok (.aload_n 1, 1) := by decide +kernel
theorem dL_law_1112 : decode cL_law 1112 = .ok (.invokevirtual 181, 3) := by decide +kernel
theorem dL_law_1115 : decode cL_law 1115 = .ok (.aload_n 2, 1) := by decide +kernel
theorem dL_law_1116 : decode cL_law 1116 = .ok (.invokevirtual 185, 3) := by decide +kernel
theorem dL_law_1119 : decode cL_law 1119 = .ok (.if_icmp .eq 756, 3) := by decide +kernel
theorem dL_law_1122 : decode cL_law 1122 = .ok (.iconst 0, 1) := by decide +kernel
theorem dL_law_1123 : decode cL_law 1123 = .ok (.ireturn, 1) := by decide +kernel
theorem dL_law_1124 : decode cL_law 1124 = .ok (.aload_n 1, 1) := by decide +kernel
theorem dL_law_1125 : decode cL_law 1125 = .ok (.invokevirtual 186, 3) := by decide +kernel
theorem dL_law_1128 : decode cL_law 1128 = .ok (.aload_n 2, 1) := by decide +kernel
theorem dL_law_1129 : decode cL_law 1129 = .ok (.invokevirtual 189, 3) := by decide +kernel
theorem dL_law_1132 : decode cL_law 1132 = .ok (.if_icmp .eq 743, 3) := by decide +kernel
theorem dL_law_1135 : decode cL_law 1135 = .ok (.iconst 0, 1) := by decide +kernel
theorem dL_law_1136 : decode cL_law 1136 = .ok (.ireturn, 1) := by decide +kernel
theorem dL_law_1137 : decode cL_law 1137 = .ok (.aload_n 1, 1) := by decide +kernel
theorem dL_law_1138 : decode cL_law 1138 = .ok (.aload_n 0, 1) := by decide +kernel
theorem dL_law_1139 : decode cL_law 1139 = .ok (.iload 4, 2) := by decide +kernel
theorem dL_law_1141 : decode cL_law 1141 = .ok (.iconst 1, 1) := by decide +kernel
theorem dL_law_1142 : decode cL_law 1142 = .ok (.iadd, 1) := by decide +kernel
theorem dL_law_1143 : decode cL_law 1143 = .ok (.iaload, 1) := by decide +kernel
theorem dL_law_1144 : decode cL_law 1144 = .ok (.aload_n 3, 1) := by decide +kernel
theorem dL_law_1145 : decode cL_law 1145 = .ok (.invokestatic 190, 3) := by decide +kernel
theorem dL_law_1148 : decode cL_law 1148 = .ok (.istore 5, 2) := by decide +kernel
theorem dL_law_1150 : decode cL_law 1150 = .ok (.aload_n 2, 1) := by decide +kernel
theorem dL_law_1151 : decode cL_law 1151 = .ok (.aload_n 0, 1) := by decide +kernel
theorem dL_law_1152 : decode cL_law 1152 = .ok (.iload 4, 2) := by decide +kernel
theorem dL_law_1154 : decode cL_law 1154 = .ok (.iconst 1, 1) := by decide +kernel
theorem dL_law_1155 : decode cL_law 1155 = .ok (.iadd, 1) := by decide +kernel
theorem dL_law_1156 : decode cL_law 1156 = .ok (.iaload, 1) := by decide +kernel
theorem dL_law_1157 : decode cL_law 1157 = .ok (.invokevirtual 192, 3) := by decide +kernel
theorem dL_law_1160 : decode cL_law 1160 = .ok (.istore 6, 2) := by decide +kernel
theorem dL_law_1162 : decode cL_law 1162 = .ok (.aload_n 2, 1) := by decide +kernel
theorem dL_law_1163 : decode cL_law 1163 = .ok (.invokevirtual 103, 3) := by decide +kernel
theorem dL_law_1166 : decode cL_law 1166 = .ok (.iload 5, 2) := by decide +kernel
theorem dL_law_1168 : decode cL_law 1168 = .ok (.if_icmp .eq 5, 3) := by decide +kernel
theorem dL_law_1171 : decode cL_law 1171 = .ok (.iconst 0, 1) := by decide +kernel
theorem dL_law_1172 : decode cL_law 1172 = .ok (.ireturn, 1) := by decide +kernel
theorem dL_law_1173 : decode cL_law 1173 = .ok (.iload 5, 2) := by decide +kernel
theorem dL_law_1175 : decode cL_law 1175 = .ok (.ifCond .ne 15, 3) := by decide +kernel
theorem dL_law_1178 : decode cL_law 1178 = .ok (.aload_n 3, 1) := by decide +kernel
theorem dL_law_1179 : decode cL_law 1179 = .ok (.iconst 0, 1) := by decide +kernel
theorem dL_law_1180 : decode cL_law 1180 = .ok (.laload, 1) := by decide +kernel
theorem dL_law_1181 : decode cL_law 1181 = .ok (.iload 6, 2) := by decide +kernel
theorem dL_law_1183 : decode cL_law 1183 = .ok (.i2l, 1) := by decide +kernel
theorem dL_law_1184 : decode cL_law 1184 = .ok (.lcmp, 1) := by decide +kernel
theorem dL_law_1185 : decode cL_law 1185 = .ok (.ifCond .eq 5, 3) := by decide +kernel
theorem dL_law_1188 : decode cL_law 1188 = .ok (.iconst 0, 1) := by decide +kernel
theorem dL_law_1189 : decode cL_law 1189 = .ok (.ireturn, 1) := by decide +kernel
theorem dL_law_1190 : decode cL_law 1190 = .ok (.goto 685, 3) := by decide +kernel
theorem dL_law_1193 : decode cL_law 1193 = .ok (.aload_n 1, 1) := by decide +kernel
theorem dL_law_1194 : decode cL_law 1194 = .ok (.aload_n 0, 1) := by decide +kernel
theorem dL_law_1195 : decode cL_law 1195 = .ok (.iload 4, 2) := by decide +kernel
theorem dL_law_1197 : decode cL_law 1197 = .ok (.iconst 1, 1) := by decide +kernel
theorem dL_law_1198 : decode cL_law 1198 = .ok (.iadd, 1) := by decide +kernel
theorem dL_law_1199 : decode cL_law 1199 = .ok (.iaload, 1) := by decide +kernel
theorem dL_law_1200 : decode cL_law 1200 = .ok (.aload_n 3, 1) := by decide +kernel
theorem dL_law_1201 : decode cL_law 1201 = .ok (.invokestatic 193, 3) := by decide +kernel
theorem dL_law_1204 : decode cL_law 1204 = .ok (.istore 5, 2) := by decide +kernel
theorem dL_law_1206 : decode cL_law 1206 = .ok (.aload_n 2, 1) := by decide +kernel
theorem dL_law_1207 : decode cL_law 1207 = .ok (.aload_n 0, 1) := by decide +kernel
theorem dL_law_1208 : decode cL_law 1208 = .ok (.iload 4, 2) := by decide +kernel
theorem dL_law_1210 : decode cL_law 1210 = .ok (.iconst 1, 1) := by decide +kernel
theorem dL_law_1211 : decode cL_law 1211 = .ok (.iadd, 1) := by decide +kernel
theorem dL_law_1212 : decode cL_law 1212 = .ok (.iaload, 1) := by decide +kernel
theorem dL_law_1213 : decode cL_law 1213 = .ok (.invokevirtual 195, 3) := by decide +kernel
theorem dL_law_1216 : decode cL_law 1216 = .ok (.istore 6, 2) := by decide +kernel
theorem dL_law_1218 : decode cL_law 1218 = .ok (.aload_n 2, 1) := by decide +kernel
theorem dL_law_1219 : decode cL_law 1219 = .ok (.invokevirtual 103, 3) := by decide +kernel
theorem dL_law_1222 : decode cL_law 1222 = .ok (.iload 5, 2) := by decide +kernel
theorem dL_law_1224 : decode cL_law 1224 = .ok (.if_icmp .eq 5, 3) := by decide +kernel
theorem dL_law_1227 : decode cL_law 1227 = .ok (.iconst 0, 1) := by decide +kernel
theorem dL_law_1228 : decode cL_law 1228 = .ok (.ireturn, 1) := by decide +kernel
theorem dL_law_1229 : decode cL_law 1229 = .ok (.iload 5, 2) := by decide +kernel
theorem dL_law_1231 : decode cL_law 1231 = .ok (.ifCond .ne 22, 3) := by decide +kernel
theorem dL_law_1234 : decode cL_law 1234 = .ok (.aload_n 3, 1) := by decide +kernel
theorem dL_law_1235 : decode cL_law 1235 = .ok (.iconst 0, 1) := by decide +kernel
theorem dL_law_1236 : decode cL_law 1236 = .ok (.laload, 1) := by decide +kernel
theorem dL_law_1237 : decode cL_law 1237 = .ok (.iload 6, 2) := by decide +kernel
theorem dL_law_1239 : decode cL_law 1239 = .ok (.ifCond .eq 7, 3) := by decide +kernel
theorem dL_law_1242 : decode cL_law 1242 = .ok (.lconst 1, 1) := by decide +kernel
theorem dL_law_1243 : decode cL_law 1243 = .ok (.goto 4, 3) := by decide +kernel
theorem dL_law_1246 : decode cL_law 1246 = .ok (.lconst 0, 1) := by decide +kernel
theorem dL_law_1247 : decode cL_law 1247 = .ok (.lcmp, 1) := by decide +kernel
theorem dL_law_1248 : decode cL_law 1248 = .ok (.ifCond .eq 5, 3) := by decide +kernel
theorem dL_law_1251 : decode cL_law 1251 = .ok (.iconst 0, 1) := by decide +kernel
theorem dL_law_1252 : decode cL_law 1252 = .ok (.ireturn, 1) := by decide +kernel
theorem dL_law_1253 : decode cL_law 1253 = .ok (.goto 622, 3) := by decide +kernel
theorem dL_law_1256 : decode cL_law 1256 = .ok (.aload_n 1, 1) := by decide +kernel
theorem dL_law_1257 : decode cL_law 1257 = .ok (.aload_n 0, 1) := by decide +kernel
theorem dL_law_1258 : decode cL_law 1258 = .ok (.iload 4, 2) := by decide +kernel
theorem dL_law_1260 : decode cL_law 1260 = .ok (.iconst 1, 1) := by decide +kernel
theorem dL_law_1261 : decode cL_law 1261 = .ok (.iadd, 1) := by decide +kernel
theorem dL_law_1262 : decode cL_law 1262 = .ok (.iaload, 1) := by decide +kernel
theorem dL_law_1263 : decode cL_law 1263 = .ok (.aload_n 3, 1) := by decide +kernel
theorem dL_law_1264 : decode cL_law 1264 = .ok (.invokestatic 196, 3) := by decide +kernel
theorem dL_law_1267 : decode cL_law 1267 = .ok (.istore 5, 2) := by decide +kernel
theorem dL_law_1269 : decode cL_law 1269 = .ok (.aload_n 2, 1) := by decide +kernel
theorem dL_law_1270 : decode cL_law 1270 = .ok (.aload_n 0, 1) := by decide +kernel
theorem dL_law_1271 : decode cL_law 1271 = .ok (.iload 4, 2) := by decide +kernel
theorem dL_law_1273 : decode cL_law 1273 = .ok (.iconst 1, 1) := by decide +kernel
theorem dL_law_1274 : decode cL_law 1274 = .ok (.iadd, 1) := by decide +kernel
theorem dL_law_1275 : decode cL_law 1275 = .ok (.iaload, 1) := by decide +kernel
theorem dL_law_1276 : decode cL_law 1276 = .ok (.invokevirtual 198, 3) := by decide +kernel
theorem dL_law_1279 : decode cL_law 1279 = .ok (.istore 6, 2) := by decide +kernel
theorem dL_law_1281 : decode cL_law 1281 = .ok (.aload_n 2, 1) := by decide +kernel
theorem dL_law_1282 : decode cL_law 1282 = .ok (.invokevirtual 103, 3) := by decide +kernel
theorem dL_law_1285 : decode cL_law 1285 = .ok (.iload 5, 2) := by decide +kernel
theorem dL_law_1287 : decode cL_law 1287 = .ok (.if_icmp .eq 5, 3) := by decide +kernel
theorem dL_law_1290 : decode cL_law 1290 = .ok (.iconst 0, 1) := by decide +kernel
theorem dL_law_1291 : decode cL_law 1291 = .ok (.ireturn, 1) := by decide +kernel
theorem dL_law_1292 : decode cL_law 1292 = .ok (.iload 5, 2) := by decide +kernel
theorem dL_law_1294 : decode cL_law 1294 = .ok (.ifCond .ne 22, 3) := by decide +kernel
theorem dL_law_1297 : decode cL_law 1297 = .ok (.aload_n 3, 1) := by decide +kernel
theorem dL_law_1298 : decode cL_law 1298 = .ok (.iconst 0, 1) := by decide +kernel
theorem dL_law_1299 : decode cL_law 1299 = .ok (.laload, 1) := by decide +kernel
theorem dL_law_1300 : decode cL_law 1300 = .ok (.iload 6, 2) := by decide +kernel
theorem dL_law_1302 : decode cL_law 1302 = .ok (.ifCond .eq 7, 3) := by decide +kernel
theorem dL_law_1305 : decode cL_law 1305 = .ok (.lconst 1, 1) := by decide +kernel
theorem dL_law_1306 : decode cL_law 1306 = .ok (.goto 4, 3) := by decide +kernel
theorem dL_law_1309 : decode cL_law 1309 = .ok (.lconst 0, 1) := by decide +kernel
theorem dL_law_1310 : decode cL_law 1310 = .ok (.lcmp, 1) := by decide +kernel
theorem dL_law_1311 : decode cL_law 1311 = .ok (.ifCond .eq 5, 3) := by decide +kernel
theorem dL_law_1314 : decode cL_law 1314 = .ok (.iconst 0, 1) := by decide +kernel
theorem dL_law_1315 : decode cL_law 1315 = .ok (.ireturn, 1) := by decide +kernel
theorem dL_law_1316 : decode cL_law 1316 = .ok (.goto 559, 3) := by decide +kernel
theorem dL_law_1319 : decode cL_law 1319 = .ok (.aload_n 1, 1) := by decide +kernel
theorem dL_law_1320 : decode cL_law 1320 = .ok (.aload_n 0, 1) := by decide +kernel
theorem dL_law_1321 : decode cL_law 1321 = .ok (.iload 4, 2) := by decide +kernel
theorem dL_law_1323 : decode cL_law 1323 = .ok (.iconst 1, 1) := by decide +kernel
theorem dL_law_1324 : decode cL_law 1324 = .ok (.iadd, 1) := by decide +kernel
theorem dL_law_1325 : decode cL_law 1325 = .ok (.iaload, 1) := by decide +kernel
theorem dL_law_1326 : decode cL_law 1326 = .ok (.aload_n 3, 1) := by decide +kernel
theorem dL_law_1327 : decode cL_law 1327 = .ok (.invokestatic 199, 3) := by decide +kernel
theorem dL_law_1330 : decode cL_law 1330 = .ok (.istore 5, 2) := by decide +kernel
theorem dL_law_1332 : decode cL_law 1332 = .ok (.aload_n 2, 1) := by decide +kernel
theorem dL_law_1333 : decode cL_law 1333 = .ok (.aload_n 0, 1) := by decide +kernel
theorem dL_law_1334 : decode cL_law 1334 = .ok (.iload 4, 2) := by decide +kernel
theorem dL_law_1336 : decode cL_law 1336 = .ok (.iconst 1, 1) := by decide +kernel
theorem dL_law_1337 : decode cL_law 1337 = .ok (.iadd, 1) := by decide +kernel
theorem dL_law_1338 : decode cL_law 1338 = .ok (.iaload, 1) := by decide +kernel
theorem dL_law_1339 : decode cL_law 1339 = .ok (.invokevirtual 201, 3) := by decide +kernel
theorem dL_law_1342 : decode cL_law 1342 = .ok (.istore 6, 2) := by decide +kernel
theorem dL_law_1344 : decode cL_law 1344 = .ok (.aload_n 2, 1) := by decide +kernel
theorem dL_law_1345 : decode cL_law 1345 = .ok (.invokevirtual 103, 3) := by decide +kernel
theorem dL_law_1348 : decode cL_law 1348 = .ok (.iload 5, 2) := by decide +kernel
theorem dL_law_1350 : decode cL_law 1350 = .ok (.if_icmp .eq 5, 3) := by decide +kernel
theorem dL_law_1353 : decode cL_law 1353 = .ok (.iconst 0, 1) := by decide +kernel
theorem dL_law_1354 : decode cL_law 1354 = .ok (.ireturn, 1) := by decide +kernel
theorem dL_law_1355 : decode cL_law 1355 = .ok (.iload 5, 2) := by decide +kernel
theorem dL_law_1357 : decode cL_law 1357 = .ok (.ifCond .ne 22, 3) := by decide +kernel
theorem dL_law_1360 : decode cL_law 1360 = .ok (.aload_n 3, 1) := by decide +kernel
theorem dL_law_1361 : decode cL_law 1361 = .ok (.iconst 0, 1) := by decide +kernel
theorem dL_law_1362 : decode cL_law 1362 = .ok (.laload, 1) := by decide +kernel
theorem dL_law_1363 : decode cL_law 1363 = .ok (.iload 6, 2) := by decide +kernel
theorem dL_law_1365 : decode cL_law 1365 = .ok (.ifCond .eq 7, 3) := by decide +kernel
theorem dL_law_1368 : decode cL_law 1368 = .ok (.lconst 1, 1) := by decide +kernel
theorem dL_law_1369 : decode cL_law 1369 = .ok (.goto 4, 3) := by decide +kernel
theorem dL_law_1372 : decode cL_law 1372 = .ok (.lconst 0, 1) := by decide +kernel
theorem dL_law_1373 : decode cL_law 1373 = .ok (.lcmp, 1) := by decide +kernel
theorem dL_law_1374 : decode cL_law 1374 = .ok (.ifCond .eq 5, 3) := by decide +kernel
theorem dL_law_1377 : decode cL_law 1377 = .ok (.iconst 0, 1) := by decide +kernel
theorem dL_law_1378 : decode cL_law 1378 = .ok (.ireturn, 1) := by decide +kernel
theorem dL_law_1379 : decode cL_law 1379 = .ok (.goto 496, 3) := by decide +kernel
theorem dL_law_1382 : decode cL_law 1382 = .ok (.aload_n 1, 1) := by decide +kernel
theorem dL_law_1383 : decode cL_law 1383 = .ok (.aload_n 3, 1) := by decide +kernel
theorem dL_law_1384 : decode cL_law 1384 = .ok (.invokestatic 202, 3) := by decide +kernel
theorem dL_law_1387 : decode cL_law 1387 = .ok (.istore 5, 2) := by decide +kernel
theorem dL_law_1389 : decode cL_law 1389 = .ok (.aload_n 2, 1) := by decide +kernel
theorem dL_law_1390 : decode cL_law 1390 = .ok (.invokevirtual 205, 3) := by decide +kernel
theorem dL_law_1393 : decode cL_law 1393 = .ok (.istore 6, 2) := by decide +kernel
theorem dL_law_1395 : decode cL_law 1395 = .ok (.aload_n 2, 1) := by decide +kernel
theorem dL_law_1396 : decode cL_law 1396 = .ok (.invokevirtual 103, 3) := by decide +kernel
theorem dL_law_1399 : decode cL_law 1399 = .ok (.iload 5, 2) := by decide +kernel
theorem dL_law_1401 : decode cL_law 1401 = .ok (.if_icmp .eq 5, 3) := by decide +kernel
theorem dL_law_1404 : decode cL_law 1404 = .ok (.iconst 0, 1) := by decide +kernel
theorem dL_law_1405 : decode cL_law 1405 = .ok (.ireturn, 1) := by decide +kernel
theorem dL_law_1406 : decode cL_law 1406 = .ok (.iload 5, 2) := by decide +kernel
theorem dL_law_1408 : decode cL_law 1408 = .ok (.ifCond .ne 15, 3) := by decide +kernel
theorem dL_law_1411 : decode cL_law 1411 = .ok (.aload_n 3, 1) := by decide +kernel
theorem dL_law_1412 : decode cL_law 1412 = .ok (.iconst 0, 1) := by decide +kernel
theorem dL_law_1413 : decode cL_law 1413 = .ok (.laload, 1) := by decide +kernel
theorem dL_law_1414 : decode cL_law 1414 = .ok (.iload 6, 2) := by decide +kernel
theorem dL_law_1416 : decode cL_law 1416 = .ok (.i2l, 1) := by decide +kernel
theorem dL_law_1417 : decode cL_law 1417 = .ok (.lcmp, 1) := by decide +kernel
theorem dL_law_1418 : decode cL_law 1418 = .ok (.ifCond .eq 5, 3) := by decide +kernel
theorem dL_law_1421 : decode cL_law 1421 = .ok (.iconst 0, 1) := by decide +kernel
theorem dL_law_1422 : decode cL_law 1422 = .ok (.ireturn, 1) := by decide +kernel
theorem dL_law_1423 : decode cL_law 1423 = .ok (.goto 452, 3) := by decide +kernel
theorem dL_law_1426 : decode cL_law 1426 = .ok (.aload_n 1, 1) := by decide +kernel
theorem dL_law_1427 : decode cL_law 1427 = .ok (.aload_n 3, 1) := by decide +kernel
theorem dL_law_1428 : decode cL_law 1428 = .ok (.invokestatic 206, 3) := by decide +kernel
theorem dL_law_1431 : decode cL_law 1431 = .ok (.istore 5, 2) := by decide +kernel
theorem dL_law_1433 : decode cL_law 1433 = .ok (.aload_n 2, 1) := by decide +kernel
theorem dL_law_1434 : decode cL_law 1434 = .ok (.invokevirtual 208, 3) := by decide +kernel
theorem dL_law_1437 : decode cL_law 1437 = .ok (.istore 6, 2) := by decide +kernel
theorem dL_law_1439 : decode cL_law 1439 = .ok (.aload_n 2, 1) := by decide +kernel
theorem dL_law_1440 : decode cL_law 1440 = .ok (.invokevirtual 103, 3) := by decide +kernel
theorem dL_law_1443 : decode cL_law 1443 = .ok (.iload 5, 2) := by decide +kernel
theorem dL_law_1445 : decode cL_law 1445 = .ok (.if_icmp .eq 5, 3) := by decide +kernel
theorem dL_law_1448 : decode cL_law 1448 = .ok (.iconst 0, 1) := by decide +kernel
theorem dL_law_1449 : decode cL_law 1449 = .ok (.ireturn, 1) := by decide +kernel
theorem dL_law_1450 : decode cL_law 1450 = .ok (.iload 5, 2) := by decide +kernel
theorem dL_law_1452 : decode cL_law 1452 = .ok (.ifCond .ne 15, 3) := by decide +kernel
theorem dL_law_1455 : decode cL_law 1455 = .ok (.aload_n 3, 1) := by decide +kernel
theorem dL_law_1456 : decode cL_law 1456 = .ok (.iconst 0, 1) := by decide +kernel
theorem dL_law_1457 : decode cL_law 1457 = .ok (.laload, 1) := by decide +kernel
theorem dL_law_1458 : decode cL_law 1458 = .ok (.iload 6, 2) := by decide +kernel
theorem dL_law_1460 : decode cL_law 1460 = .ok (.i2l, 1) := by decide +kernel
theorem dL_law_1461 : decode cL_law 1461 = .ok (.lcmp, 1) := by decide +kernel
theorem dL_law_1462 : decode cL_law 1462 = .ok (.ifCond .eq 5, 3) := by decide +kernel
theorem dL_law_1465 : decode cL_law 1465 = .ok (.iconst 0, 1) := by decide +kernel
theorem dL_law_1466 : decode cL_law 1466 = .ok (.ireturn, 1) := by decide +kernel
theorem dL_law_1467 : decode cL_law 1467 = .ok (.goto 408, 3) := by decide +kernel
theorem dL_law_1470 : decode cL_law 1470 = .ok (.aload_n 1, 1) := by decide +kernel
theorem dL_law_1471 : decode cL_law 1471 = .ok (.aload_n 0, 1) := by decide +kernel
theorem dL_law_1472 : decode cL_law 1472 = .ok (.iload 4, 2) := by decide +kernel
theorem dL_law_1474 : decode cL_law 1474 = .ok (.iconst 1, 1) := by decide +kernel
theorem dL_law_1475 : decode cL_law 1475 = .ok (.iadd, 1) := by decide +kernel
theorem dL_law_1476 : decode cL_law 1476 = .ok (.iaload, 1) := by decide +kernel
theorem dL_law_1477 : decode cL_law 1477 = .ok (.aload_n 3, 1) := by decide +kernel
theorem dL_law_1478 : decode cL_law 1478 = .ok (.invokestatic 209, 3) := by decide +kernel
theorem dL_law_1481 : decode cL_law 1481 = .ok (.istore 5, 2) := by decide +kernel
theorem dL_law_1483 : decode cL_law 1483 = .ok (.aload_n 2, 1) := by decide +kernel
theorem dL_law_1484 : decode cL_law 1484 = .ok (.aload_n 0, 1) := by decide +kernel
theorem dL_law_1485 : decode cL_law 1485 = .ok (.iload 4, 2) := by decide +kernel
theorem dL_law_1487 : decode cL_law 1487 = .ok (.iconst 1, 1) := by decide +kernel
theorem dL_law_1488 : decode cL_law 1488 = .ok (.iadd, 1) := by decide +kernel
theorem dL_law_1489 : decode cL_law 1489 = .ok (.iaload, 1) := by decide +kernel
theorem dL_law_1490 : decode cL_law 1490 = .ok (.invokevirtual 211, 3) := by decide +kernel
theorem dL_law_1493 : decode cL_law 1493 = .ok (.istore 6, 2) := by decide +kernel
theorem dL_law_1495 : decode cL_law 1495 = .ok (.aload_n 2, 1) := by decide +kernel
theorem dL_law_1496 : decode cL_law 1496 = .ok (.invokevirtual 103, 3) := by decide +kernel
theorem dL_law_1499 : decode cL_law 1499 = .ok (.iload 5, 2) := by decide +kernel
theorem dL_law_1501 : decode cL_law 1501 = .ok (.if_icmp .eq 5, 3) := by decide +kernel
theorem dL_law_1504 : decode cL_law 1504 = .ok (.iconst 0, 1) := by decide +kernel
theorem dL_law_1505 : decode cL_law 1505 = .ok (.ireturn, 1) := by decide +kernel
theorem dL_law_1506 : decode cL_law 1506 = .ok (.iload 5, 2) := by decide +kernel
theorem dL_law_1508 : decode cL_law 1508 = .ok (.ifCond .ne 15, 3) := by decide +kernel
theorem dL_law_1511 : decode cL_law 1511 = .ok (.aload_n 3, 1) := by decide +kernel
theorem dL_law_1512 : decode cL_law 1512 = .ok (.iconst 0, 1) := by decide +kernel
theorem dL_law_1513 : decode cL_law 1513 = .ok (.laload, 1) := by decide +kernel
theorem dL_law_1514 : decode cL_law 1514 = .ok (.iload 6, 2) := by decide +kernel
theorem dL_law_1516 : decode cL_law 1516 = .ok (.i2l, 1) := by decide +kernel
theorem dL_law_1517 : decode cL_law 1517 = .ok (.lcmp, 1) := by decide +kernel
theorem dL_law_1518 : decode cL_law 1518 = .ok (.ifCond .eq 5, 3) := by decide +kernel
theorem dL_law_1521 : decode cL_law 1521 = .ok (.iconst 0, 1) := by decide +kernel
theorem dL_law_1522 : decode cL_law 1522 = .ok (.ireturn, 1) := by decide +kernel
theorem dL_law_1523 : decode cL_law 1523 = .ok (.goto 352, 3) := by decide +kernel
theorem dL_law_1526 : decode cL_law 1526 = .ok (.aload_n 1, 1) := by decide +kernel
theorem dL_law_1527 : decode cL_law 1527 = .ok (.aload_n 0, 1) := by decide +kernel
theorem dL_law_1528 : decode cL_law 1528 = .ok (.iload 4, 2) := by decide +kernel
theorem dL_law_1530 : decode cL_law 1530 = .ok (.iconst 1, 1) := by decide +kernel
theorem dL_law_1531 : decode cL_law 1531 = .ok (.iadd, 1) := by decide +kernel
theorem dL_law_1532 : decode cL_law 1532 = .ok (.iaload, 1) := by decide +kernel
theorem dL_law_1533 : decode cL_law 1533 = .ok (.aload_n 3, 1) := by decide +kernel
theorem dL_law_1534 : decode cL_law 1534 = .ok (.invokestatic 212, 3) := by decide +kernel
theorem dL_law_1537 : decode cL_law 1537 = .ok (.istore 5, 2) := by decide +kernel
theorem dL_law_1539 : decode cL_law 1539 = .ok (.aload_n 2, 1) := by decide +kernel
theorem dL_law_1540 : decode cL_law 1540 = .ok (.aload_n 0, 1) := by decide +kernel
theorem dL_law_1541 : decode cL_law 1541 = .ok (.iload 4, 2) := by decide +kernel
theorem dL_law_1543 : decode cL_law 1543 = .ok (.iconst 1, 1) := by decide +kernel
theorem dL_law_1544 : decode cL_law 1544 = .ok (.iadd, 1) := by decide +kernel
theorem dL_law_1545 : decode cL_law 1545 = .ok (.iaload, 1) := by decide +kernel
theorem dL_law_1546 : decode cL_law 1546 = .ok (.invokevirtual 214, 3) := by decide +kernel
theorem dL_law_1549 : decode cL_law 1549 = .ok (.istore 6, 2) := by decide +kernel
theorem dL_law_1551 : decode cL_law 1551 = .ok (.aload_n 2, 1) := by decide +kernel
theorem dL_law_1552 : decode cL_law 1552 = .ok (.invokevirtual 103, 3) := by decide +kernel
theorem dL_law_1555 : decode cL_law 1555 = .ok (.iload 5, 2) := by decide +kernel
theorem dL_law_1557 : decode cL_law 1557 = .ok (.if_icmp .eq 5, 3) := by decide +kernel
theorem dL_law_1560 : decode cL_law 1560 = .ok (.iconst 0, 1) := by decide +kernel
theorem dL_law_1561 : decode cL_law 1561 = .ok (.ireturn, 1) := by decide +kernel
theorem dL_law_1562 : decode cL_law 1562 = .ok (.iload 5, 2) := by decide +kernel
theorem dL_law_1564 : decode cL_law 1564 = .ok (.ifCond .ne 15, 3) := by decide +kernel
theorem dL_law_1567 : decode cL_law 1567 = .ok (.aload_n 3, 1) := by decide +kernel
theorem dL_law_1568 : decode cL_law 1568 = .ok (.iconst 0, 1) := by decide +kernel
theorem dL_law_1569 : decode cL_law 1569 = .ok (.laload, 1) := by decide +kernel
theorem dL_law_1570 : decode cL_law 1570 = .ok (.iload 6, 2) := by decide +kernel
theorem dL_law_1572 : decode cL_law 1572 = .ok (.i2l, 1) := by decide +kernel
theorem dL_law_1573 : decode cL_law 1573 = .ok (.lcmp, 1) := by decide +kernel
theorem dL_law_1574 : decode cL_law 1574 = .ok (.ifCond .eq 5, 3) := by decide +kernel
theorem dL_law_1577 : decode cL_law 1577 = .ok (.iconst 0, 1) := by decide +kernel
theorem dL_law_1578 : decode cL_law 1578 = .ok (.ireturn, 1) := by decide +kernel
theorem dL_law_1579 : decode cL_law 1579 = .ok (.goto 296, 3) := by decide +kernel
theorem dL_law_1582 : decode cL_law 1582 = .ok (.aload_n 1, 1) := by decide +kernel
theorem dL_law_1583 : decode cL_law 1583 = .ok (.aload_n 0, 1) := by decide +kernel
theorem dL_law_1584 : decode cL_law 1584 = .ok (.iload 4, 2) := by decide +kernel
theorem dL_law_1586 : decode cL_law 1586 = .ok (.iconst 1, 1) := by decide +kernel
theorem dL_law_1587 : decode cL_law 1587 = .ok (.iadd, 1) := by decide +kernel
theorem dL_law_1588 : decode cL_law 1588 = .ok (.iaload, 1) := by decide +kernel
theorem dL_law_1589 : decode cL_law 1589 = .ok (.aload_n 3, 1) := by decide +kernel
theorem dL_law_1590 : decode cL_law 1590 = .ok (.invokestatic 215, 3) := by decide +kernel
theorem dL_law_1593 : decode cL_law 1593 = .ok (.istore 5, 2) := by decide +kernel
theorem dL_law_1595 : decode cL_law 1595 = .ok (.aload_n 2, 1) := by decide +kernel
theorem dL_law_1596 : decode cL_law 1596 = .ok (.aload_n 0, 1) := by decide +kernel
theorem dL_law_1597 : decode cL_law 1597 = .ok (.iload 4, 2) := by decide +kernel
theorem dL_law_1599 : decode cL_law 1599 = .ok (.iconst 1, 1) := by decide +kernel
theorem dL_law_1600 : decode cL_law 1600 = .ok (.iadd, 1) := by decide +kernel
theorem dL_law_1601 : decode cL_law 1601 = .ok (.iaload, 1) := by decide +kernel
theorem dL_law_1602 : decode cL_law 1602 = .ok (.invokevirtual 217, 3) := by decide +kernel
theorem dL_law_1605 : decode cL_law 1605 = .ok (.istore 6, 2) := by decide +kernel
theorem dL_law_1607 : decode cL_law 1607 = .ok (.aload_n 2, 1) := by decide +kernel
theorem dL_law_1608 : decode cL_law 1608 = .ok (.invokevirtual 103, 3) := by decide +kernel
theorem dL_law_1611 : decode cL_law 1611 = .ok (.iload 5, 2) := by decide +kernel
theorem dL_law_1613 : decode cL_law 1613 = .ok (.if_icmp .eq 5, 3) := by decide +kernel
theorem dL_law_1616 : decode cL_law 1616 = .ok (.iconst 0, 1) := by decide +kernel
theorem dL_law_1617 : decode cL_law 1617 = .ok (.ireturn, 1) := by decide +kernel
theorem dL_law_1618 : decode cL_law 1618 = .ok (.iload 5, 2) := by decide +kernel
theorem dL_law_1620 : decode cL_law 1620 = .ok (.ifCond .ne 15, 3) := by decide +kernel
theorem dL_law_1623 : decode cL_law 1623 = .ok (.aload_n 3, 1) := by decide +kernel
theorem dL_law_1624 : decode cL_law 1624 = .ok (.iconst 0, 1) := by decide +kernel
theorem dL_law_1625 : decode cL_law 1625 = .ok (.laload, 1) := by decide +kernel
theorem dL_law_1626 : decode cL_law 1626 = .ok (.iload 6, 2) := by decide +kernel
theorem dL_law_1628 : decode cL_law 1628 = .ok (.i2l, 1) := by decide +kernel
theorem dL_law_1629 : decode cL_law 1629 = .ok (.lcmp, 1) := by decide +kernel
theorem dL_law_1630 : decode cL_law 1630 = .ok (.ifCond .eq 5, 3) := by decide +kernel
theorem dL_law_1633 : decode cL_law 1633 = .ok (.iconst 0, 1) := by decide +kernel
theorem dL_law_1634 : decode cL_law 1634 = .ok (.ireturn, 1) := by decide +kernel
theorem dL_law_1635 : decode cL_law 1635 = .ok (.goto 240, 3) := by decide +kernel
theorem dL_law_1638 : decode cL_law 1638 = .ok (.aload_n 1, 1) := by decide +kernel
theorem dL_law_1639 : decode cL_law 1639 = .ok (.aload_n 0, 1) := by decide +kernel
theorem dL_law_1640 : decode cL_law 1640 = .ok (.iload 4, 2) := by decide +kernel
theorem dL_law_1642 : decode cL_law 1642 = .ok (.iconst 1, 1) := by decide +kernel
theorem dL_law_1643 : decode cL_law 1643 = .ok (.iadd, 1) := by decide +kernel
theorem dL_law_1644 : decode cL_law 1644 = .ok (.iaload, 1) := by decide +kernel
theorem dL_law_1645 : decode cL_law 1645 = .ok (.aload_n 3, 1) := by decide +kernel
theorem dL_law_1646 : decode cL_law 1646 = .ok (.invokestatic 218, 3) := by decide +kernel
theorem dL_law_1649 : decode cL_law 1649 = .ok (.istore 5, 2) := by decide +kernel
theorem dL_law_1651 : decode cL_law 1651 = .ok (.aload_n 2, 1) := by decide +kernel
theorem dL_law_1652 : decode cL_law 1652 = .ok (.aload_n 0, 1) := by decide +kernel
theorem dL_law_1653 : decode cL_law 1653 = .ok (.iload 4, 2) := by decide +kernel
theorem dL_law_1655 : decode cL_law 1655 = .ok (.iconst 1, 1) := by decide +kernel
theorem dL_law_1656 : decode cL_law 1656 = .ok (.iadd, 1) := by decide +kernel
theorem dL_law_1657 : decode cL_law 1657 = .ok (.iaload, 1) := by decide +kernel
theorem dL_law_1658 : decode cL_law 1658 = .ok (.invokevirtual 220, 3) := by decide +kernel
theorem dL_law_1661 : decode cL_law 1661 = .ok (.istore 6, 2) := by decide +kernel
theorem dL_law_1663 : decode cL_law 1663 = .ok (.aload_n 2, 1) := by decide +kernel
theorem dL_law_1664 : decode cL_law 1664 = .ok (.invokevirtual 103, 3) := by decide +kernel
theorem dL_law_1667 : decode cL_law 1667 = .ok (.iload 5, 2) := by decide +kernel
theorem dL_law_1669 : decode cL_law 1669 = .ok (.if_icmp .eq 5, 3) := by decide +kernel
theorem dL_law_1672 : decode cL_law 1672 = .ok (.iconst 0, 1) := by decide +kernel
theorem dL_law_1673 : decode cL_law 1673 = .ok (.ireturn, 1) := by decide +kernel
theorem dL_law_1674 : decode cL_law 1674 = .ok (.iload 5, 2) := by decide +kernel
theorem dL_law_1676 : decode cL_law 1676 = .ok (.ifCond .ne 15, 3) := by decide +kernel
theorem dL_law_1679 : decode cL_law 1679 = .ok (.aload_n 3, 1) := by decide +kernel
theorem dL_law_1680 : decode cL_law 1680 = .ok (.iconst 0, 1) := by decide +kernel
theorem dL_law_1681 : decode cL_law 1681 = .ok (.laload, 1) := by decide +kernel
theorem dL_law_1682 : decode cL_law 1682 = .ok (.iload 6, 2) := by decide +kernel
theorem dL_law_1684 : decode cL_law 1684 = .ok (.i2l, 1) := by decide +kernel
theorem dL_law_1685 : decode cL_law 1685 = .ok (.lcmp, 1) := by decide +kernel
theorem dL_law_1686 : decode cL_law 1686 = .ok (.ifCond .eq 5, 3) := by decide +kernel
theorem dL_law_1689 : decode cL_law 1689 = .ok (.iconst 0, 1) := by decide +kernel
theorem dL_law_1690 : decode cL_law 1690 = .ok (.ireturn, 1) := by decide +kernel
theorem dL_law_1691 : decode cL_law 1691 = .ok (.goto 184, 3) := by decide +kernel
theorem dL_law_1694 : decode cL_law 1694 = .ok (.aload_n 1, 1) := by decide +kernel
theorem dL_law_1695 : decode cL_law 1695 = .ok (.aload_n 0, 1) := by decide +kernel
theorem dL_law_1696 : decode cL_law 1696 = .ok (.iload 4, 2) := by decide +kernel
theorem dL_law_1698 : decode cL_law 1698 = .ok (.iconst 1, 1) := by decide +kernel
theorem dL_law_1699 : decode cL_law 1699 = .ok (.iadd, 1) := by decide +kernel
theorem dL_law_1700 : decode cL_law 1700 = .ok (.iaload, 1) := by decide +kernel
theorem dL_law_1701 : decode cL_law 1701 = .ok (.aload_n 3, 1) := by decide +kernel
theorem dL_law_1702 : decode cL_law 1702 = .ok (.invokestatic 221, 3) := by decide +kernel
theorem dL_law_1705 : decode cL_law 1705 = .ok (.istore 5, 2) := by decide +kernel
theorem dL_law_1707 : decode cL_law 1707 = .ok (.aload_n 2, 1) := by decide +kernel
theorem dL_law_1708 : decode cL_law 1708 = .ok (.aload_n 0, 1) := by decide +kernel
theorem dL_law_1709 : decode cL_law 1709 = .ok (.iload 4, 2) := by decide +kernel
theorem dL_law_1711 : decode cL_law 1711 = .ok (.iconst 1, 1) := by decide +kernel
theorem dL_law_1712 : decode cL_law 1712 = .ok (.iadd, 1) := by decide +kernel
theorem dL_law_1713 : decode cL_law 1713 = .ok (.iaload, 1) := by decide +kernel
theorem dL_law_1714 : decode cL_law 1714 = .ok (.invokevirtual 223, 3) := by decide +kernel
theorem dL_law_1717 : decode cL_law 1717 = .ok (.istore 6, 2) := by decide +kernel
theorem dL_law_1719 : decode cL_law 1719 = .ok (.aload_n 2, 1) := by decide +kernel
theorem dL_law_1720 : decode cL_law 1720 = .ok (.invokevirtual 103, 3) := by decide +kernel
theorem dL_law_1723 : decode cL_law 1723 = .ok (.iload 5, 2) := by decide +kernel
theorem dL_law_1725 : decode cL_law 1725 = .ok (.if_icmp .eq 5, 3) := by decide +kernel
theorem dL_law_1728 : decode cL_law 1728 = .ok (.iconst 0, 1) := by decide +kernel
theorem dL_law_1729 : decode cL_law 1729 = .ok (.ireturn, 1) := by decide +kernel
theorem dL_law_1730 : decode cL_law 1730 = .ok (.iload 5, 2) := by decide +kernel
theorem dL_law_1732 : decode cL_law 1732 = .ok (.ifCond .ne 15, 3) := by decide +kernel
theorem dL_law_1735 : decode cL_law 1735 = .ok (.aload_n 3, 1) := by decide +kernel
theorem dL_law_1736 : decode cL_law 1736 = .ok (.iconst 0, 1) := by decide +kernel
theorem dL_law_1737 : decode cL_law 1737 = .ok (.laload, 1) := by decide +kernel
theorem dL_law_1738 : decode cL_law 1738 = .ok (.iload 6, 2) := by decide +kernel
theorem dL_law_1740 : decode cL_law 1740 = .ok (.i2l, 1) := by decide +kernel
theorem dL_law_1741 : decode cL_law 1741 = .ok (.lcmp, 1) := by decide +kernel
theorem dL_law_1742 : decode cL_law 1742 = .ok (.ifCond .eq 5, 3) := by decide +kernel
theorem dL_law_1745 : decode cL_law 1745 = .ok (.iconst 0, 1) := by decide +kernel
theorem dL_law_1746 : decode cL_law 1746 = .ok (.ireturn, 1) := by decide +kernel
theorem dL_law_1747 : decode cL_law 1747 = .ok (.goto 128, 3) := by decide +kernel
theorem dL_law_1750 : decode cL_law 1750 = .ok (.aload_n 1, 1) := by decide +kernel
theorem dL_law_1751 : decode cL_law 1751 = .ok (.invokevirtual 224, 3) := by decide +kernel
theorem dL_law_1754 : decode cL_law 1754 = .ok (.aload_n 2, 1) := by decide +kernel
theorem dL_law_1755 : decode cL_law 1755 = .ok (.invokevirtual 227, 3) := by decide +kernel
theorem dL_law_1758 : decode cL_law 1758 = .ok (.if_icmp .eq 117, 3) := by decide +kernel
theorem dL_law_1761 : decode cL_law 1761 = .ok (.iconst 0, 1) := by decide +kernel
theorem dL_law_1762 : decode cL_law 1762 = .ok (.ireturn, 1) := by decide +kernel
theorem dL_law_1763 : decode cL_law 1763 = .ok (.aload_n 1, 1) := by decide +kernel
theorem dL_law_1764 : decode cL_law 1764 = .ok (.invokevirtual 228, 3) := by decide +kernel
theorem dL_law_1767 : decode cL_law 1767 = .ok (.aload_n 2, 1) := by decide +kernel
theorem dL_law_1768 : decode cL_law 1768 = .ok (.invokevirtual 231, 3) := by decide +kernel
theorem dL_law_1771 : decode cL_law 1771 = .ok (.if_icmp .eq 104, 3) := by decide +kernel
theorem dL_law_1774 : decode cL_law 1774 = .ok (.iconst 0, 1) := by decide +kernel
theorem dL_law_1775 : decode cL_law 1775 = .ok (.ireturn, 1) := by decide +kernel
theorem dL_law_1776 : decode cL_law 1776 = .ok (.aload_n 1, 1) := by decide +kernel
theorem dL_law_1777 : decode cL_law 1777 = .ok (.aload_n 3, 1) := by decide +kernel
theorem dL_law_1778 : decode cL_law 1778 = .ok (.invokestatic 232, 3) := by decide +kernel
theorem dL_law_1781 : decode cL_law 1781 = .ok (.istore 5, 2) := by decide +kernel
theorem dL_law_1783 : decode cL_law 1783 = .ok (.aload_n 2, 1) := by decide +kernel
theorem dL_law_1784 : decode cL_law 1784 = .ok (.invokevirtual 234, 3) := by decide +kernel
theorem dL_law_1787 : decode cL_law 1787 = .ok (.istore 6, 2) := by decide +kernel
theorem dL_law_1789 : decode cL_law 1789 = .ok (.aload_n 2, 1) := by decide +kernel
theorem dL_law_1790 : decode cL_law 1790 = .ok (.invokevirtual 103, 3) := by decide +kernel
theorem dL_law_1793 : decode cL_law 1793 = .ok (.iload 5, 2) := by decide +kernel
theorem dL_law_1795 : decode cL_law 1795 = .ok (.if_icmp .eq 5, 3) := by decide +kernel
theorem dL_law_1798 : decode cL_law 1798 = .ok (.iconst 0, 1) := by decide +kernel
theorem dL_law_1799 : decode cL_law 1799 = .ok (.ireturn, 1) := by decide +kernel
theorem dL_law_1800 : decode cL_law 1800 = .ok (.iload 5, 2) := by decide +kernel
theorem dL_law_1802 : decode cL_law 1802 = .ok (.ifCond .ne 15, 3) := by decide +kernel
theorem dL_law_1805 : decode cL_law 1805 = .ok (.aload_n 3, 1) := by decide +kernel
theorem dL_law_1806 : decode cL_law 1806 = .ok (.iconst 0, 1) := by decide +kernel
theorem dL_law_1807 : decode cL_law 1807 = .ok (.laload, 1) := by decide +kernel
theorem dL_law_1808 : decode cL_law 1808 = .ok (.iload 6, 2) := by decide +kernel
theorem dL_law_1810 : decode cL_law 1810 = .ok (.i2l, 1) := by decide +kernel
theorem dL_law_1811 : decode cL_law 1811 = .ok (.lcmp, 1) := by decide +kernel
theorem dL_law_1812 : decode cL_law 1812 = .ok (.ifCond .eq 5, 3) := by decide +kernel
theorem dL_law_1815 : decode cL_law 1815 = .ok (.iconst 0, 1) := by decide +kernel
theorem dL_law_1816 : decode cL_law 1816 = .ok (.ireturn, 1) := by decide +kernel
theorem dL_law_1817 : decode cL_law 1817 = .ok (.goto 58, 3) := by decide +kernel
theorem dL_law_1820 : decode cL_law 1820 = .ok (.aload_n 1, 1) := by decide +kernel
theorem dL_law_1821 : decode cL_law 1821 = .ok (.invokevirtual 235, 3) := by decide +kernel
theorem dL_law_1824 : decode cL_law 1824 = .ok (.dstore 5, 2) := by decide +kernel
theorem dL_law_1826 : decode cL_law 1826 = .ok (.aload_n 2, 1) := by decide +kernel
theorem dL_law_1827 : decode cL_law 1827 = .ok (.invokevirtual 239, 3) := by decide +kernel
theorem dL_law_1830 : decode cL_law 1830 = .ok (.dstore 7, 2) := by decide +kernel
theorem dL_law_1832 : decode cL_law 1832 = .ok (.dload 5, 2) := by decide +kernel
theorem dL_law_1834 : decode cL_law 1834 = .ok (.dload 7, 2) := by decide +kernel
theorem dL_law_1836 : decode cL_law 1836 = .ok (.dcmp .l, 1) := by decide +kernel
theorem dL_law_1837 : decode cL_law 1837 = .ok (.ifCond .eq 21, 3) := by decide +kernel
theorem dL_law_1840 : decode cL_law 1840 = .ok (.dload 5, 2) := by decide +kernel
theorem dL_law_1842 : decode cL_law 1842 = .ok (.dload 5, 2) := by decide +kernel
theorem dL_law_1844 : decode cL_law 1844 = .ok (.dcmp .l, 1) := by decide +kernel
theorem dL_law_1845 : decode cL_law 1845 = .ok (.ifCond .eq 11, 3) := by decide +kernel
theorem dL_law_1848 : decode cL_law 1848 = .ok (.dload 7, 2) := by decide +kernel
theorem dL_law_1850 : decode cL_law 1850 = .ok (.dload 7, 2) := by decide +kernel
theorem dL_law_1852 : decode cL_law 1852 = .ok (.dcmp .l, 1) := by decide +kernel
theorem dL_law_1853 : decode cL_law 1853 = .ok (.ifCond .ne 5, 3) := by decide +kernel
theorem dL_law_1856 : decode cL_law 1856 = .ok (.iconst 0, 1) := by decide +kernel
theorem dL_law_1857 : decode cL_law 1857 = .ok (.ireturn, 1) := by decide +kernel
theorem dL_law_1858 : decode cL_law 1858 = .ok (.goto 17, 3) := by decide +kernel
theorem dL_law_1861 : decode cL_law 1861 = .ok (.aload_n 1, 1) := by decide +kernel
theorem dL_law_1862 : decode cL_law 1862 = .ok (.invokevirtual 240, 3) := by decide +kernel
theorem dL_law_1865 : decode cL_law 1865 = .ok (.aload_n 2, 1) := by decide +kernel
theorem dL_law_1866 : decode cL_law 1866 = .ok (.invokevirtual 244, 3) := by decide +kernel
theorem dL_law_1869 : decode cL_law 1869 = .ok (.lcmp, 1) := by decide +kernel
theorem dL_law_1870 : decode cL_law 1870 = .ok (.ifCond .eq 5, 3) := by decide +kernel
theorem dL_law_1873 : decode cL_law 1873 = .ok (.iconst 0, 1) := by decide +kernel
theorem dL_law_1874 : decode cL_law 1874 = .ok (.ireturn, 1) := by decide +kernel
theorem dL_law_1875 : decode cL_law 1875 = .ok (.iinc 4 6, 3) := by decide +kernel
theorem dL_law_1878 : decode cL_law 1878 = .ok (.goto (-1855), 3) := by decide +kernel
theorem dL_law_1881 : decode cL_law 1881 = .ok (.iconst 1, 1) := by decide +kernel
theorem dL_law_1882 : decode cL_law 1882 = .ok (.ireturn, 1) := by decide +kernel
