theorem dX6_help_23 : decode cX6_help 23 = .ok (.getfield 19, 3) := by decide +kernel
theorem dX6_help_26 : decode cX6_help 26 = .ok (.iload_n 3, 1) := by decide +kernel
theorem dX6_help_27 : decode cX6_help 27 = .ok (.aaload, 1) := by decide +kernel
theorem dX6_help_28 : decode cX6_help 28 = .ok (.invokevirtual 171, 3) := by decide +kernel
theorem dX6_help_31 : decode cX6_help 31 = .ok (.istore 4, 2) := by decide +kernel
theorem dX6_help_33 : decode cX6_help 33 = .ok (.iload 4, 2) := by decide +kernel
theorem dX6_help_35 : decode cX6_help 35 = .ok (.aload_n 0, 1) := by decide +kernel
theorem dX6_help_36 : decode cX6_help 36 = .ok (.getfield 19, 3) := by decide +kernel
theorem dX6_help_39 : decode cX6_help 39 = .ok (.iload_n 1, 1) := by decide +kernel
theorem dX6_help_40 : decode cX6_help 40 = .ok (.aaload, 1) := by decide +kernel
theorem dX6_help_41 : decode cX6_help 41 = .ok (.getfield 99, 3) := by decide +kernel
theorem dX6_help_44 : decode cX6_help 44 = .ok (.iand, 1) := by decide +kernel
theorem dX6_help_45 : decode cX6_help 45 = .ok (.aload_n 0, 1) := by decide +kernel
theorem dX6_help_46 : decode cX6_help 46 = .ok (.getfield 19, 3) := by decide +kernel
theorem dX6_help_49 : decode cX6_help 49 = .ok (.iload_n 3, 1) := by decide +kernel
theorem dX6_help_50 : decode cX6_help 50 = .ok (.aaload, 1) := by decide +kernel
theorem dX6_help_51 : decode cX6_help 51 = .ok (.getfield 99, 3) := by decide +kernel
theorem dX6_help_54 : decode cX6_help 54 = .ok (.iconst (-1), 1) := by decide +kernel
theorem dX6_help_55 : decode cX6_help 55 = .ok (.ixor, 1) := by decide +kernel
theorem dX6_help_56 : decode cX6_help 56 = .ok (.iand, 1) := by decide +kernel
theorem dX6_help_57 : decode cX6_help 57 = .ok (.ifCond .eq 6, 3) := by decide +kernel
theorem dX6_help_60 : decode cX6_help 60 = .ok (.iinc 2 1, 3) := by decide +kernel
theorem dX6_help_63 : decode cX6_help 63 = .ok (.iinc 3 1, 3) := by decide +kernel
theorem dX6_help_66 : decode cX6_help 66 = .ok (.goto (-52), 3) := by decide +kernel
theorem dX6_help_69 : decode cX6_help 69 = .ok (.iload_n 2, 1) := by decide +kernel
theorem dX6_help_70 : decode cX6_help 70 = .ok (.ireturn, 1) := by decide +kernel
theorem dX6_reading_0 : decode cX6_reading 0 = .ok (.aload_n 0, 1) := by decide +kernel
theorem dX6_reading_1 : decode cX6_reading 1 = .ok (.iload_n 1, 1) := by decide +kernel
theorem dX6_reading_2 : decode cX6_reading 2 = .ok (.invokevirtual 93, 3) := by decide +kernel
theorem dX6_reading_5 : decode cX6_reading 5 = .ok (.ifCond .eq 13, 3) := by decide +kernel
theorem dX6_reading_8 : decode cX6_reading 8 = .ok (.iload_n 2, 1) := by decide +kernel
theorem dX6_reading_9 : decode cX6_reading 9 = .ok (.ifCond .lt 9, 3) := by decide +kernel
theorem dX6_reading_12 : decode cX6_reading 12 = .ok (.iload_n 2, 1) := by decide +kernel
theorem dX6_reading_13 : decode cX6_reading 13 = .ok (.bipush 6, 2) := by decide +kernel
theorem dX6_reading_15 : decode cX6_reading 15 = .ok (.if_icmp .lt 5, 3) := by decide +kernel
theorem dX6_reading_18 : decode cX6_reading 18 = .ok (.iconst (-1), 1) := by decide +kernel
theorem dX6_reading_19 : decode cX6_reading 19 = .ok (.ireturn, 1) := by decide +kernel
theorem dX6_reading_20 : decode cX6_reading 20 = .ok (.aload_n 0, 1) := by decide +kernel
theorem dX6_reading_21 : decode cX6_reading 21 = .ok (.getfield 26, 3) := by decide +kernel
theorem dX6_reading_24 : decode cX6_reading 24 = .ok (.iload_n 1, 1) := by decide +kernel
theorem dX6_reading_25 : decode cX6_reading 25 = .ok (.iload_n 2, 1) := by decide +kernel
theorem dX6_reading_26 : decode cX6_reading 26 = .ok (.iload_n 3, 1) := by decide +kernel
theorem dX6_reading_27 : decode cX6_reading 27 = .ok (.invokevirtual 174, 3) := by decide +kernel
theorem dX6_reading_30 : decode cX6_reading 30 = .ok (.ifCond .eq 15, 3) := by decide +kernel
theorem dX6_reading_33 : decode cX6_reading 33 = .ok (.aload_n 0, 1) := by decide +kernel
theorem dX6_reading_34 : decode cX6_reading 34 = .ok (.getfield 26, 3) := by decide +kernel
theorem dX6_reading_37 : decode cX6_reading 37 = .ok (.getfield 90, 3) := by decide +kernel
theorem dX6_reading_40 : decode cX6_reading 40 = .ok (.iconst 1, 1) := by decide +kernel
theorem dX6_reading_41 : decode cX6_reading 41 = .ok (.isub, 1) := by decide +kernel
theorem dX6_reading_42 : decode cX6_reading 42 = .ok (.goto 5, 3) := by decide +kernel
theorem dX6_reading_45 : decode cX6_reading 45 = .ok (.bipush (-4), 2) := by decide +kernel
theorem dX6_reading_47 : decode cX6_reading 47 = .ok (.ireturn, 1) := by decide +kernel
theorem dX6_back_0 : decode cX6_back 0 = .ok (.iload_n 1, 1) := by decide +kernel
theorem dX6_back_1 : decode cX6_back 1 = .ok (.ifCond .lt 14, 3) := by decide +kernel
theorem dX6_back_4 : decode cX6_back 4 = .ok (.iload_n 1, 1) := by decide +kernel
theorem dX6_back_5 : decode cX6_back 5 = .ok (.aload_n 0, 1) := by decide +kernel
theorem dX6_back_6 : decode cX6_back 6 = .ok (.getfield 26, 3) := by decide +kernel
theorem dX6_back_9 : decode cX6_back 9 = .ok (.getfield 90, 3) := by decide +kernel
theorem dX6_back_12 : decode cX6_back 12 = .ok (.if_icmp .le 6, 3) := by decide +kernel
theorem dX6_back_15 : decode cX6_back 15 = .ok (.bipush (-2), 2) := by decide +kernel
theorem dX6_back_17 : decode cX6_back 17 = .ok (.ireturn, 1) := by decide +kernel
theorem dX6_back_18 : decode cX6_back 18 = .ok (.aload_n 0, 1) := by decide +kernel
theorem dX6_back_19 : decode cX6_back 19 = .ok (.getfield 26, 3) := by decide +kernel
theorem dX6_back_22 : decode cX6_back 22 = .ok (.dup, 1) := by decide +kernel
theorem dX6_back_23 : decode cX6_back 23 = .ok (.getfield 90, 3) := by decide +kernel
theorem dX6_back_26 : decode cX6_back 26 = .ok (.iload_n 1, 1) := by decide +kernel
theorem dX6_back_27 : decode cX6_back 27 = .ok (.isub, 1) := by decide +kernel
theorem dX6_back_28 : decode cX6_back 28 = .ok (.putfield 90, 3) := by decide +kernel
theorem dX6_back_31 : decode cX6_back 31 = .ok (.aload_n 0, 1) := by decide +kernel
theorem dX6_back_32 : decode cX6_back 32 = .ok (.getfield 26, 3) := by decide +kernel
theorem dX6_back_35 : decode cX6_back 35 = .ok (.getfield 90, 3) := by decide +kernel
theorem dX6_back_38 : decode cX6_back 38 = .ok (.ireturn, 1) := by decide +kernel
theorem dX6_told_0 : decode cX6_told 0 = .ok (.aload_n 0, 1) := by decide +kernel
theorem dX6_told_1 : decode cX6_told 1 = .ok (.iload_n 1, 1) := by decide +kernel
theorem dX6_told_2 : decode cX6_told 2 = .ok (.iload_n 2, 1) := by decide +kernel
theorem dX6_told_3 : decode cX6_told 3 = .ok (.iload_n 3, 1) := by decide +kernel
theorem dX6_told_4 : decode cX6_told 4 = .ok (.iload 4, 2) := by decide +kernel
theorem dX6_told_6 : decode cX6_told 6 = .ok (.iload 5, 2) := by decide +kernel
theorem dX6_told_8 : decode cX6_told 8 = .ok (.iload 6, 2) := by decide +kernel
theorem dX6_told_10 : decode cX6_told 10 = .ok (.invokevirtual 178, 3) := by decide +kernel
theorem dX6_told_13 : decode cX6_told 13 = .ok (.istore 7, 2) := by decide +kernel
theorem dX6_told_15 : decode cX6_told 15 = .ok (.iload 7, 2) := by decide +kernel
theorem dX6_told_17 : decode cX6_told 17 = .ok (.ifCond .eq 6, 3) := by decide +kernel
theorem dX6_told_20 : decode cX6_told 20 = .ok (.iload 7, 2) := by decide +kernel
theorem dX6_told_22 : decode cX6_told 22 = .ok (.ireturn, 1) := by decide +kernel
theorem dX6_told_23 : decode cX6_told 23 = .ok (.aload_n 0, 1) := by decide +kernel
theorem dX6_told_24 : decode cX6_told 24 = .ok (.getfield 19, 3) := by decide +kernel
theorem dX6_told_27 : decode cX6_told 27 = .ok (.iload_n 1, 1) := by decide +kernel
theorem dX6_told_28 : decode cX6_told 28 = .ok (.aaload, 1) := by decide +kernel
theorem dX6_told_29 : decode cX6_told 29 = .ok (.invokevirtual 108, 3) := by decide +kernel
theorem dX6_told_32 : decode cX6_told 32 = .ok (.istore 8, 2) := by decide +kernel
theorem dX6_told_34 : decode cX6_told 34 = .ok (.iconst 0, 1) := by decide +kernel
theorem dX6_told_35 : decode cX6_told 35 = .ok (.istore 9, 2) := by decide +kernel
theorem dX6_told_37 : decode cX6_told 37 = .ok (.bipush (-9), 2) := by decide +kernel
theorem dX6_told_39 : decode cX6_told 39 = .ok (.istore 10, 2) := by decide +kernel
theorem dX6_told_41 : decode cX6_told 41 = .ok (.bipush 63, 2) := by decide +kernel
theorem dX6_told_43 : decode cX6_told 43 = .ok (.istore 11, 2) := by decide +kernel
theorem dX6_told_45 : decode cX6_told 45 = .ok (.iload 11, 2) := by decide +kernel
theorem dX6_told_47 : decode cX6_told 47 = .ok (.ifCond .lt 30, 3) := by decide +kernel
theorem dX6_told_50 : decode cX6_told 50 = .ok (.aload_n 0, 1) := by decide +kernel
theorem dX6_told_51 : decode cX6_told 51 = .ok (.iload_n 1, 1) := by decide +kernel
theorem dX6_told_52 : decode cX6_told 52 = .ok (.iload 11, 2) := by decide +kernel
theorem dX6_told_54 : decode cX6_told 54 = .ok (.iload 8, 2) := by decide +kernel
theorem dX6_told_56 : decode cX6_told 56 = .ok (.iload 5, 2) := by decide +kernel
theorem dX6_told_58 : decode cX6_told 58 = .ok (.invokevirtual 182, 3) := by decide +kernel
theorem dX6_told_61 : decode cX6_told 61 = .ok (.ifCond .eq 10, 3) := by decide +kernel
theorem dX6_told_64 : decode cX6_told 64 = .ok (.iinc 9 1, 3) := by decide +kernel
theorem dX6_told_67 : decode cX6_told 67 = .ok (.iload 11, 2) := by decide +kernel
theorem dX6_told_69 : decode cX6_told 69 = .ok (.istore 10, 2) := by decide +kernel
theorem dX6_told_71 : decode cX6_told 71 = .ok (.iinc 11 (-1), 3) := by decide +kernel
theorem dX6_told_74 : decode cX6_told 74 = .ok (.goto (-29), 3) := by decide +kernel
theorem dX6_told_77 : decode cX6_told 77 = .ok (.iload 6, 2) := by decide +kernel
theorem dX6_told_79 : decode cX6_told 79 = .ok (.ifCond .ne 8, 3) := by decide +kernel
theorem dX6_told_82 : decode cX6_told 82 = .ok (.iload 9, 2) := by decide +kernel
theorem dX6_told_84 : decode cX6_told 84 = .ok (.goto 5, 3) := by decide +kernel
theorem dX6_told_87 : decode cX6_told 87 = .ok (.iload 10, 2) := by decide +kernel
theorem dX6_told_89 : decode cX6_told 89 = .ok (.ireturn, 1) := by decide +kernel
theorem dX6_kinds_0 : decode cX6_kinds 0 = .ok (.aload_n 0, 1) := by decide +kernel
theorem dX6_kinds_1 : decode cX6_kinds 1 = .ok (.iload_n 1, 1) := by decide +kernel
theorem dX6_kinds_2 : decode cX6_kinds 2 = .ok (.iload_n 2, 1) := by decide +kernel
theorem dX6_kinds_3 : decode cX6_kinds 3 = .ok (.iload_n 3, 1) := by decide +kernel
theorem dX6_kinds_4 : decode cX6_kinds 4 = .ok (.iload 4, 2) := by decide +kernel
theorem dX6_kinds_6 : decode cX6_kinds 6 = .ok (.iload 5, 2) := by decide +kernel
theorem dX6_kinds_8 : decode cX6_kinds 8 = .ok (.iconst 0, 1) := by decide +kernel
theorem dX6_kinds_9 : decode cX6_kinds 9 = .ok (.invokevirtual 178, 3) := by decide +kernel
theorem dX6_kinds_12 : decode cX6_kinds 12 = .ok (.istore 6, 2) := by decide +kernel
theorem dX6_kinds_14 : decode cX6_kinds 14 = .ok (.iload 6, 2) := by decide +kernel
theorem dX6_kinds_16 : decode cX6_kinds 16 = .ok (.ifCond .eq 6, 3) := by decide +kernel
theorem dX6_kinds_19 : decode cX6_kinds 19 = .ok (.iload 6, 2) := by decide +kernel
theorem dX6_kinds_21 : decode cX6_kinds 21 = .ok (.ireturn, 1) := by decide +kernel
theorem dX6_kinds_22 : decode cX6_kinds 22 = .ok (.aload_n 0, 1) := by decide +kernel
theorem dX6_kinds_23 : decode cX6_kinds 23 = .ok (.getfield 19, 3) := by decide +kernel
theorem dX6_kinds_26 : decode cX6_kinds 26 = .ok (.iload_n 1, 1) := by decide +kernel
theorem dX6_kinds_27 : decode cX6_kinds 27 = .ok (.aaload, 1) := by decide +kernel
theorem dX6_kinds_28 : decode cX6_kinds 28 = .ok (.astore 7, 2) := by decide +kernel
theorem dX6_kinds_30 : decode cX6_kinds 30 = .ok (.iconst 0, 1) := by decide +kernel
theorem dX6_kinds_31 : decode cX6_kinds 31 = .ok (.istore 8, 2) := by decide +kernel
theorem dX6_kinds_33 : decode cX6_kinds 33 = .ok (.iconst 0, 1) := by decide +kernel
theorem dX6_kinds_34 : decode cX6_kinds 34 = .ok (.istore 9, 2) := by decide +kernel
theorem dX6_kinds_36 : decode cX6_kinds 36 = .ok (.iload 9, 2) := by decide +kernel
theorem dX6_kinds_38 : decode cX6_kinds 38 = .ok (.iconst 3, 1) := by decide +kernel
theorem dX6_kinds_39 : decode cX6_kinds 39 = .ok (.if_icmp .ge 43, 3) := by decide +kernel
theorem dX6_kinds_42 : decode cX6_kinds 42 = .ok (.aload_n 0, 1) := by decide +kernel
theorem dX6_kinds_43 : decode cX6_kinds 43 = .ok (.iload_n 1, 1) := by decide +kernel
theorem dX6_kinds_44 : decode cX6_kinds 44 = .ok (.aload 7, 2) := by decide +kernel
theorem dX6_kinds_46 : decode cX6_kinds 46 = .ok (.getfield 99, 3) := by decide +kernel
theorem dX6_kinds_49 : decode cX6_kinds 49 = .ok (.iload 9, 2) := by decide +kernel
theorem dX6_kinds_51 : decode cX6_kinds 51 = .ok (.aload 7, 2) := by decide +kernel
theorem dX6_kinds_53 : decode cX6_kinds 53 = .ok (.getfield 105, 3) := by decide +kernel
theorem dX6_kinds_56 : decode cX6_kinds 56 = .ok (.invokestatic 186, 3) := by decide +kernel
theorem dX6_kinds_59 : decode cX6_kinds 59 = .ok (.iload 5, 2) := by decide +kernel
theorem dX6_kinds_61 : decode cX6_kinds 61 = .ok (.invokevirtual 182, 3) := by decide +kernel
theorem dX6_kinds_64 : decode cX6_kinds 64 = .ok (.ifCond .eq 12, 3) := by decide +kernel
theorem dX6_kinds_67 : decode cX6_kinds 67 = .ok (.iload 8, 2) := by decide +kernel
theorem dX6_kinds_69 : decode cX6_kinds 69 = .ok (.iconst 1, 1) := by decide +kernel
theorem dX6_kinds_70 : decode cX6_kinds 70 = .ok (.iload 9, 2) := by decide +kernel
theorem dX6_kinds_72 : decode cX6_kinds 72 = .ok (.ishl, 1) := by decide +kernel
theorem dX6_kinds_73 : decode cX6_kinds 73 = .ok (.ior, 1) := by decide +kernel
theorem dX6_kinds_74 : decode cX6_kinds 74 = .ok (.istore 8, 2) := by decide +kernel
theorem dX6_kinds_76 : decode cX6_kinds 76 = .ok (.iinc 9 1, 3) := by decide +kernel
theorem dX6_kinds_79 : decode cX6_kinds 79 = .ok (.goto (-43), 3) := by decide +kernel
theorem dX6_kinds_82 : decode cX6_kinds 82 = .ok (.iload 8, 2) := by decide +kernel
theorem dX6_kinds_84 : decode cX6_kinds 84 = .ok (.ireturn, 1) := by decide +kernel
theorem dX6_wears_0 : decode cX6_wears 0 = .ok (.aload_n 0, 1) := by decide +kernel
theorem dX6_wears_1 : decode cX6_wears 1 = .ok (.iload_n 1, 1) := by decide +kernel
theorem dX6_wears_2 : decode cX6_wears 2 = .ok (.iload_n 2, 1) := by decide +kernel
theorem dX6_wears_3 : decode cX6_wears 3 = .ok (.iload_n 3, 1) := by decide +kernel
theorem dX6_wears_4 : decode cX6_wears 4 = .ok (.iload 4, 2) := by decide +kernel
theorem dX6_wears_6 : decode cX6_wears 6 = .ok (.iload 5, 2) := by decide +kernel
theorem dX6_wears_8 : decode cX6_wears 8 = .ok (.iconst 0, 1) := by decide +kernel
theorem dX6_wears_9 : decode cX6_wears 9 = .ok (.invokevirtual 178, 3) := by decide +kernel
theorem dX6_wears_12 : decode cX6_wears 12 = .ok (.istore 6, 2) := by decide +kernel
theorem dX6_wears_14 : decode cX6_wears 14 = .ok (.iload 6, 2) := by decide +kernel
theorem dX6_wears_16 : decode cX6_wears 16 = .ok (.ifCond .eq 6, 3) := by decide +kernel
theorem dX6_wears_19 : decode cX6_wears 19 = .ok (.iload 6, 2) := by decide +kernel
theorem dX6_wears_21 : decode cX6_wears 21 = .ok (.ireturn, 1) := by decide +kernel
theorem dX6_wears_22 : decode cX6_wears 22 = .ok (.aload_n 0, 1) := by decide +kernel
theorem dX6_wears_23 : decode cX6_wears 23 = .ok (.getfield 19, 3) := by decide +kernel
theorem dX6_wears_26 : decode cX6_wears 26 = .ok (.iload_n 1, 1) := by decide +kernel
theorem dX6_wears_27 : decode cX6_wears 27 = .ok (.aaload, 1) := by decide +kernel
theorem dX6_wears_28 : decode cX6_wears 28 = .ok (.astore 7, 2) := by decide +kernel
theorem dX6_wears_30 : decode cX6_wears 30 = .ok (.iconst 0, 1) := by decide +kernel
theorem dX6_wears_31 : decode cX6_wears 31 = .ok (.istore 8, 2) := by decide +kernel
theorem dX6_wears_33 : decode cX6_wears 33 = .ok (.iconst 1, 1) := by decide +kernel
theorem dX6_wears_34 : decode cX6_wears 34 = .ok (.istore 9, 2) := by decide +kernel
theorem dX6_wears_36 : decode cX6_wears 36 = .ok (.iload 9, 2) := by decide +kernel
theorem dX6_wears_38 : decode cX6_wears 38 = .ok (.bipush 9, 2) := by decide +kernel
theorem dX6_wears_40 : decode cX6_wears 40 = .ok (.if_icmp .gt 43, 3) := by decide +kernel
theorem dX6_wears_43 : decode cX6_wears 43 = .ok (.aload_n 0, 1) := by decide +kernel
theorem dX6_wears_44 : decode cX6_wears 44 = .ok (.iload_n 1, 1) := by decide +kernel
theorem dX6_wears_45 : decode cX6_wears 45 = .ok (.aload 7, 2) := by decide +kernel
theorem dX6_wears_47 : decode cX6_wears 47 = .ok (.getfield 99, 3) := by decide +kernel
theorem dX6_wears_50 : decode cX6_wears 50 = .ok (.aload 7, 2) := by decide +kernel
theorem dX6_wears_52 : decode cX6_wears 52 = .ok (.getfield 96, 3) := by decide +kernel
theorem dX6_wears_55 : decode cX6_wears 55 = .ok (.iload 9, 2) := by decide +kernel
theorem dX6_wears_57 : decode cX6_wears 57 = .ok (.invokestatic 186, 3) := by decide +kernel
theorem dX6_wears_60 : decode cX6_wears 60 = .ok (.iload 5, 2) := by decide +kernel
theorem dX6_wears_62 : decode cX6_wears 62 = .ok (.invokevirtual 182, 3) := by decide +kernel
theorem dX6_wears_65 : decode cX6_wears 65 = .ok (.ifCond .eq 12, 3) := by decide +kernel
theorem dX6_wears_68 : decode cX6_wears 68 = .ok (.iload 8, 2) := by decide +kernel
theorem dX6_wears_70 : decode cX6_wears 70 = .ok (.iconst 1, 1) := by decide +kernel
theorem dX6_wears_71 : decode cX6_wears 71 = .ok (.iload 9, 2) := by decide +kernel
theorem dX6_wears_73 : decode cX6_wears 73 = .ok (.ishl, 1) := by decide +kernel
theorem dX6_wears_74 : decode cX6_wears 74 = .ok (.ior, 1) := by decide +kernel
theorem dX6_wears_75 : decode cX6_wears 75 = .ok (.istore 8, 2) := by decide +kernel
theorem dX6_wears_77 : decode cX6_wears 77 = .ok (.iinc 9 1, 3) := by decide +kernel
theorem dX6_wears_80 : decode cX6_wears 80 = .ok (.goto (-44), 3) := by decide +kernel
theorem dX6_wears_83 : decode cX6_wears 83 = .ok (.iload 8, 2) := by decide +kernel
theorem dX6_wears_85 : decode cX6_wears 85 = .ok (.ireturn, 1) := by decide +kernel
theorem dX6_odds_0 : decode cX6_odds 0 = .ok (.aload_n 0, 1) := by decide +kernel
theorem dX6_odds_1 : decode cX6_odds 1 = .ok (.iload_n 1, 1) := by decide +kernel
theorem dX6_odds_2 : decode cX6_odds 2 = .ok (.iload_n 2, 1) := by decide +kernel
theorem dX6_odds_3 : decode cX6_odds 3 = .ok (.iload_n 3, 1) := by decide +kernel
theorem dX6_odds_4 : decode cX6_odds 4 = .ok (.iload 4, 2) := by decide +kernel
theorem dX6_odds_6 : decode cX6_odds 6 = .ok (.iload 5, 2) := by decide +kernel
theorem dX6_odds_8 : decode cX6_odds 8 = .ok (.iload 6, 2) := by decide +kernel
theorem dX6_odds_10 : decode cX6_odds 10 = .ok (.invokevirtual 178, 3) := by decide +kernel
theorem dX6_odds_13 : decode cX6_odds 13 = .ok (.ifCond .eq 7, 3) := by decide +kernel
theorem dX6_odds_16 : decode cX6_odds 16 = .ok (.ldc2_w 189, 3) := by decide +kernel
theorem dX6_odds_19 : decode cX6_odds 19 = .ok (.lreturn, 1) := by decide +kernel
theorem dX6_odds_20 : decode cX6_odds 20 = .ok (.aload_n 0, 1) := by decide +kernel
theorem dX6_odds_21 : decode cX6_odds 21 = .ok (.getfield 33, 3) := by decide +kernel
theorem dX6_odds_24 : decode cX6_odds 24 = .ok (.aload_n 0, 1) := by decide +kernel
theorem dX6_odds_25 : decode cX6_odds 25 = .ok (.getfield 19, 3) := by decide +kernel
theorem dX6_odds_28 : decode cX6_odds 28 = .ok (.aload_n 0, 1) := by decide +kernel
theorem dX6_odds_29 : decode cX6_odds 29 = .ok (.getfield 55, 3) := by decide +kernel
theorem dX6_odds_32 : decode cX6_odds 32 = .ok (.invokevirtual 122, 3) := by decide +kernel
theorem dX6_odds_35 : decode cX6_odds 35 = .ok (.aload_n 0, 1) := by decide +kernel
theorem dX6_odds_36 : decode cX6_odds 36 = .ok (.getfield 33, 3) := by decide +kernel
theorem dX6_odds_39 : decode cX6_odds 39 = .ok (.aload_n 0, 1) := by decide +kernel
theorem dX6_odds_40 : decode cX6_odds 40 = .ok (.getfield 51, 3) := by decide +kernel
theorem dX6_odds_43 : decode cX6_odds 43 = .ok (.iload 5, 2) := by decide +kernel
theorem dX6_odds_45 : decode cX6_odds 45 = .ok (.invokevirtual 126, 3) := by decide +kernel
theorem dX6_odds_48 : decode cX6_odds 48 = .ok (.bipush (-9), 2) := by decide +kernel
theorem dX6_odds_50 : decode cX6_odds 50 = .ok (.if_icmp .eq 7, 3) := by decide +kernel
theorem dX6_odds_53 : decode cX6_odds 53 = .ok (.ldc2_w 189, 3) := by decide +kernel
theorem dX6_odds_56 : decode cX6_odds 56 = .ok (.lreturn, 1) := by decide +kernel
theorem dX6_odds_57 : decode cX6_odds 57 = .ok (.aload_n 0, 1) := by decide +kernel
theorem dX6_odds_58 : decode cX6_odds 58 = .ok (.getfield 19, 3) := by decide +kernel
theorem dX6_odds_61 : decode cX6_odds 61 = .ok (.iload_n 1, 1) := by decide +kernel
theorem dX6_odds_62 : decode cX6_odds 62 = .ok (.aaload, 1) := by decide +kernel
theorem dX6_odds_63 : decode cX6_odds 63 = .ok (.getfield 102, 3) := by decide +kernel
theorem dX6_odds_66 : decode cX6_odds 66 = .ok (.bipush 6, 2) := by decide +kernel
theorem dX6_odds_68 : decode cX6_odds 68 = .ok (.if_icmp .ne 5, 3) := by decide +kernel
theorem dX6_odds_71 : decode cX6_odds 71 = .ok (.lconst 1, 1) := by decide +kernel
theorem dX6_odds_72 : decode cX6_odds 72 = .ok (.lreturn, 1) := by decide +kernel
theorem dX6_odds_73 : decode cX6_odds 73 = .ok (.lconst 1, 1) := by decide +kernel
theorem dX6_odds_74 : decode cX6_odds 74 = .ok (.aload_n 0, 1) := by decide +kernel
theorem dX6_odds_75 : decode cX6_odds 75 = .ok (.getfield 33, 3) := by decide +kernel
theorem dX6_odds_78 : decode cX6_odds 78 = .ok (.iload_n 1, 1) := by decide +kernel
theorem dX6_odds_79 : decode cX6_odds 79 = .ok (.aload_n 0, 1) := by decide +kernel
theorem dX6_odds_80 : decode cX6_odds 80 = .ok (.getfield 19, 3) := by decide +kernel
theorem dX6_odds_83 : decode cX6_odds 83 = .ok (.iload_n 1, 1) := by decide +kernel
theorem dX6_odds_84 : decode cX6_odds 84 = .ok (.aaload, 1) := by decide +kernel
theorem dX6_odds_85 : decode cX6_odds 85 = .ok (.invokevirtual 171, 3) := by decide +kernel
theorem dX6_odds_88 : decode cX6_odds 88 = .ok (.invokevirtual 191, 3) := by decide +kernel
theorem dX6_odds_91 : decode cX6_odds 91 = .ok (.lshl, 1) := by decide +kernel
theorem dX6_odds_92 : decode cX6_odds 92 = .ok (.lstore 7, 2) := by decide +kernel
theorem dX6_odds_94 : decode cX6_odds 94 = .ok (.iload 6, 2) := by decide +kernel
theorem dX6_odds_96 : decode cX6_odds 96 = .ok (.ifCond .ne 10, 3) := by decide +kernel
theorem dX6_odds_99 : decode cX6_odds 99 = .ok (.lload 7, 2) := by decide +kernel
theorem dX6_odds_101 : decode cX6_odds 101 = .ok (.lconst 1, 1) := by decide +kernel
theorem dX6_odds_102 : decode cX6_odds 102 = .ok (.lsub, 1) := by decide +kernel
theorem dX6_odds_103 : decode cX6_odds 103 = .ok (.goto 5, 3) := by decide +kernel
theorem dX6_odds_106 : decode cX6_odds 106 = .ok (.lload 7, 2) := by decide +kernel
theorem dX6_odds_108 : decode cX6_odds 108 = .ok (.lreturn, 1) := by decide +kernel
theorem dX6_couldBe_0 : decode cX6_couldBe 0 = .ok (.aload_n 0, 1) := by decide +kernel
theorem dX6_couldBe_1 : decode cX6_couldBe 1 = .ok (.getfield 33, 3) := by decide +kernel
theorem dX6_couldBe_4 : decode cX6_couldBe 4 = .ok (.aload_n 0, 1) := by decide +kernel
theorem dX6_couldBe_5 : decode cX6_couldBe 5 = .ok (.getfield 19, 3) := by decide +kernel
theorem dX6_couldBe_8 : decode cX6_couldBe 8 = .ok (.aload_n 0, 1) := by decide +kernel
theorem dX6_couldBe_9 : decode cX6_couldBe 9 = .ok (.getfield 55, 3) := by decide +kernel
theorem dX6_couldBe_12 : decode cX6_couldBe 12 = .ok (.invokevirtual 122, 3) := by decide +kernel
theorem dX6_couldBe_15 : decode cX6_couldBe 15 = .ok (.aload_n 0, 1) := by decide +kernel
theorem dX6_couldBe_16 : decode cX6_couldBe 16 = .ok (.getfield 33, 3) := by decide +kernel
theorem dX6_couldBe_19 : decode cX6_couldBe 19 = .ok (.iload_n 1, 1) := by decide +kernel
theorem dX6_couldBe_20 : decode cX6_couldBe 20 = .ok (.iload_n 2, 1) := by decide +kernel
theorem dX6_couldBe_21 : decode cX6_couldBe 21 = .ok (.iload_n 3, 1) := by decide +kernel
theorem dX6_couldBe_22 : decode cX6_couldBe 22 = .ok (.invokevirtual 194, 3) := by decide +kernel
theorem dX6_couldBe_25 : decode cX6_couldBe 25 = .ok (.aload_n 0, 1) := by decide +kernel
theorem dX6_couldBe_26 : decode cX6_couldBe 26 = .ok (.getfield 33, 3) := by decide +kernel
theorem dX6_couldBe_29 : decode cX6_couldBe 29 = .ok (.aload_n 0, 1) := by decide +kernel
theorem dX6_couldBe_30 : decode cX6_couldBe 30 = .ok (.getfield 51, 3) := by decide +kernel
theorem dX6_couldBe_33 : decode cX6_couldBe 33 = .ok (.iload 4, 2) := by decide +kernel
theorem dX6_couldBe_35 : decode cX6_couldBe 35 = .ok (.invokevirtual 126, 3) := by decide +kernel
theorem dX6_couldBe_38 : decode cX6_couldBe 38 = .ok (.bipush (-9), 2) := by decide +kernel
theorem dX6_couldBe_40 : decode cX6_couldBe 40 = .ok (.if_icmp .ne 21, 3) := by decide +kernel
theorem dX6_couldBe_43 : decode cX6_couldBe 43 = .ok (.aload_n 0, 1) := by decide +kernel
theorem dX6_couldBe_44 : decode cX6_couldBe 44 = .ok (.getfield 26, 3) := by decide +kernel
theorem dX6_couldBe_47 : decode cX6_couldBe 47 = .ok (.aload_n 0, 1) := by decide +kernel
theorem dX6_couldBe_48 : decode cX6_couldBe 48 = .ok (.getfield 33, 3) := by decide +kernel
theorem dX6_couldBe_51 : decode cX6_couldBe 51 = .ok (.invokevirtual 198, 3) := by decide +kernel
theorem dX6_couldBe_54 : decode cX6_couldBe 54 = .ok (.ifCond .eq 7, 3) := by decide +kernel
theorem dX6_couldBe_57 : decode cX6_couldBe 57 = .ok (.iconst 1, 1) := by decide +kernel
theorem dX6_couldBe_58 : decode cX6_couldBe 58 = .ok (.goto 4, 3) := by decide +kernel
theorem dX6_couldBe_61 : decode cX6_couldBe 61 = .ok (.iconst 0, 1) := by decide +kernel
theorem dX6_couldBe_62 : decode cX6_couldBe 62 = .ok (.ireturn, 1) := by decide +kernel
theorem dX6_refusalOfReadLoans_0 : decode cX6_refusalOfReadLoans 0 = .ok (.aload_n 0, 1) := by decide +kernel
theorem dX6_refusalOfReadLoans_1 : decode cX6_refusalOfReadLoans 1 = .ok (.iconst 0, 1) := by decide +kernel
theorem dX6_refusalOfReadLoans_2 : decode cX6_refusalOfReadLoans 2 = .ok (.putfield 62, 3) := by decide +kernel
theorem dX6_refusalOfReadLoans_5 : decode cX6_refusalOfReadLoans 5 = .ok (.aload_n 0, 1) := by decide +kernel
theorem dX6_refusalOfReadLoans_6 : decode cX6_refusalOfReadLoans 6 = .ok (.iload_n 1, 1) := by decide +kernel
theorem dX6_refusalOfReadLoans_7 : decode cX6_refusalOfReadLoans 7 = .ok (.invokevirtual 93, 3) := by decide +kernel
theorem dX6_refusalOfReadLoans_10 : decode cX6_refusalOfReadLoans 10 = .ok (.ifCond .eq 10, 3) := by decide +kernel
theorem dX6_refusalOfReadLoans_13 : decode cX6_refusalOfReadLoans 13 = .ok (.iload_n 2, 1) := by decide +kernel
theorem dX6_refusalOfReadLoans_14 : decode cX6_refusalOfReadLoans 14 = .ok (.invokestatic 67, 3) := by decide +kernel
theorem dX6_refusalOfReadLoans_17 : decode cX6_refusalOfReadLoans 17 = .ok (.ifCond .ne 5, 3) := by decide +kernel
theorem dX6_refusalOfReadLoans_20 : decode cX6_refusalOfReadLoans 20 = .ok (.iconst (-1), 1) := by decide +kernel
theorem dX6_refusalOfReadLoans_21 : decode cX6_refusalOfReadLoans 21 = .ok (.ireturn, 1) := by decide +kernel
theorem dX6_refusalOfReadLoans_22 : decode cX6_refusalOfReadLoans 22 = .ok (.iload_n 3, 1) := by decide +kernel
theorem dX6_refusalOfReadLoans_23 : decode cX6_refusalOfReadLoans 23 = .ok (.invokestatic 71, 3) := by decide +kernel
theorem dX6_refusalOfReadLoans_26 : decode cX6_refusalOfReadLoans 26 = .ok (.ifCond .eq 22, 3) := by decide +kernel
theorem dX6_refusalOfReadLoans_29 : decode cX6_refusalOfReadLoans 29 = .ok (.iload 5, 2) := by decide +kernel
theorem dX6_refusalOfReadLoans_31 : decode cX6_refusalOfReadLoans 31 = .ok (.invokestatic 112, 3) := by decide +kernel
theorem dX6_refusalOfReadLoans_34 : decode cX6_refusalOfReadLoans 34 = .ok (.ifCond .eq 14, 3) := by decide +kernel
theorem dX6_refusalOfReadLoans_37 : decode cX6_refusalOfReadLoans 37 = .ok (.iload 6, 2) := by decide +kernel
theorem dX6_refusalOfReadLoans_39 : decode cX6_refusalOfReadLoans 39 = .ok (.ifCond .lt 9, 3) := by decide +kernel
theorem dX6_refusalOfReadLoans_42 : decode cX6_refusalOfReadLoans 42 = .ok (.iload 6, 2) := by decide +kernel
theorem dX6_refusalOfReadLoans_44 : decode cX6_refusalOfReadLoans 44 = .ok (.iconst 1, 1) := by decide +kernel
theorem dX6_refusalOfReadLoans_45 : decode cX6_refusalOfReadLoans 45 = .ok (.if_icmp .le 6, 3) := by decide +kernel
theorem dX6_refusalOfReadLoans_48 : decode cX6_refusalOfReadLoans 48 = .ok (.bipush (-2), 2) := by decide +kernel
theorem dX6_refusalOfReadLoans_50 : decode cX6_refusalOfReadLoans 50 = .ok (.ireturn, 1) := by decide +kernel
theorem dX6_refusalOfReadLoans_51 : decode cX6_refusalOfReadLoans 51 = .ok (.aload_n 0, 1) := by decide +kernel
theorem dX6_refusalOfReadLoans_52 : decode cX6_refusalOfReadLoans 52 = .ok (.iload_n 2, 1) := by decide +kernel
theorem dX6_refusalOfReadLoans_53 : decode cX6_refusalOfReadLoans 53 = .ok (.iload_n 3, 1) := by decide +kernel
theorem dX6_refusalOfReadLoans_54 : decode cX6_refusalOfReadLoans 54 = .ok (.iload 4, 2) := by decide +kernel
theorem dX6_refusalOfReadLoans_56 : decode cX6_refusalOfReadLoans 56 = .ok (.iload 5, 2) := by decide +kernel
theorem dX6_refusalOfReadLoans_58 : decode cX6_refusalOfReadLoans 58 = .ok (.invokevirtual 118, 3) := by decide +kernel
theorem dX6_refusalOfReadLoans_61 : decode cX6_refusalOfReadLoans 61 = .ok (.ireturn, 1) := by decide +kernel
theorem dX6_sheet_0 : decode cX6_sheet 0 = .ok (.aload_n 0, 1) := by decide +kernel
theorem dX6_sheet_1 : decode cX6_sheet 1 = .ok (.iconst 0, 1) := by decide +kernel
theorem dX6_sheet_2 : decode cX6_sheet 2 = .ok (.putfield 62, 3) := by decide +kernel
theorem dX6_sheet_5 : decode cX6_sheet 5 = .ok (.iload_n 1, 1) := by decide +kernel
theorem dX6_sheet_6 : decode cX6_sheet 6 = .ok (.invokestatic 67, 3) := by decide +kernel
theorem dX6_sheet_9 : decode cX6_sheet 9 = .ok (.ifCond .ne 5, 3) := by decide +kernel
theorem dX6_sheet_12 : decode cX6_sheet 12 = .ok (.iconst (-1), 1) := by decide +kernel
theorem dX6_sheet_13 : decode cX6_sheet 13 = .ok (.ireturn, 1) := by decide +kernel
theorem dX6_sheet_14 : decode cX6_sheet 14 = .ok (.iload_n 2, 1) := by decide +kernel
theorem dX6_sheet_15 : decode cX6_sheet 15 = .ok (.invokestatic 71, 3) := by decide +kernel
theorem dX6_sheet_18 : decode cX6_sheet 18 = .ok (.ifCond .eq 9, 3) := by decide +kernel
theorem dX6_sheet_21 : decode cX6_sheet 21 = .ok (.iload_n 3, 1) := by decide +kernel
theorem dX6_sheet_22 : decode cX6_sheet 22 = .ok (.bipush 60, 2) := by decide +kernel
theorem dX6_sheet_24 : decode cX6_sheet 24 = .ok (.if_icmp .le 6, 3) := by decide +kernel
theorem dX6_sheet_27 : decode cX6_sheet 27 = .ok (.bipush (-2), 2) := by decide +kernel
theorem dX6_sheet_29 : decode cX6_sheet 29 = .ok (.ireturn, 1) := by decide +kernel
theorem dX6_sheet_30 : decode cX6_sheet 30 = .ok (.iload_n 3, 1) := by decide +kernel
theorem dX6_sheet_31 : decode cX6_sheet 31 = .ok (.ifCond .ge 9, 3) := by decide +kernel
theorem dX6_sheet_34 : decode cX6_sheet 34 = .ok (.aload_n 0, 1) := by decide +kernel
theorem dX6_sheet_35 : decode cX6_sheet 35 = .ok (.iconst 4, 1) := by decide +kernel
theorem dX6_sheet_36 : decode cX6_sheet 36 = .ok (.invokevirtual 78, 3) := by decide +kernel
theorem dX6_sheet_39 : decode cX6_sheet 39 = .ok (.ireturn, 1) := by decide +kernel
theorem dX6_sheet_40 : decode cX6_sheet 40 = .ok (.aload_n 0, 1) := by decide +kernel
theorem dX6_sheet_41 : decode cX6_sheet 41 = .ok (.getfield 13, 3) := by decide +kernel
theorem dX6_sheet_44 : decode cX6_sheet 44 = .ok (.iload_n 1, 1) := by decide +kernel
theorem dX6_sheet_45 : decode cX6_sheet 45 = .ok (.aaload, 1) := by decide +kernel
theorem dX6_sheet_46 : decode cX6_sheet 46 = .ok (.iload_n 2, 1) := by decide +kernel
theorem dX6_sheet_47 : decode cX6_sheet 47 = .ok (.iload_n 3, 1) := by decide +kernel
theorem dX6_sheet_48 : decode cX6_sheet 48 = .ok (.invokevirtual 202, 3) := by decide +kernel
theorem dX6_sheet_51 : decode cX6_sheet 51 = .ok (.iconst 1, 1) := by decide +kernel
theorem dX6_sheet_52 : decode cX6_sheet 52 = .ok (.ireturn, 1) := by decide +kernel
theorem dX6_lose_0 : decode cX6_lose 0 = .ok (.iload_n 1, 1) := by decide +kernel
theorem dX6_lose_1 : decode cX6_lose 1 = .ok (.invokestatic 67, 3) := by decide +kernel
theorem dX6_lose_4 : decode cX6_lose 4 = .ok (.ifCond .ne 5, 3) := by decide +kernel
theorem dX6_lose_7 : decode cX6_lose 7 = .ok (.iconst (-1), 1) := by decide +kernel
theorem dX6_lose_8 : decode cX6_lose 8 = .ok (.ireturn, 1) := by decide +kernel
theorem dX6_lose_9 : decode cX6_lose 9 = .ok (.aload_n 0, 1) := by decide +kernel
theorem dX6_lose_10 : decode cX6_lose 10 = .ok (.getfield 13, 3) := by decide +kernel
theorem dX6_lose_13 : decode cX6_lose 13 = .ok (.iload_n 1, 1) := by decide +kernel
theorem dX6_lose_14 : decode cX6_lose 14 = .ok (.aaload, 1) := by decide +kernel
theorem dX6_lose_15 : decode cX6_lose 15 = .ok (.getfield 206, 3) := by decide +kernel
theorem dX6_lose_18 : decode cX6_lose 18 = .ok (.ifCond .eq 7, 3) := by decide +kernel
theorem dX6_lose_21 : decode cX6_lose 21 = .ok (.iconst 1, 1) := by decide +kernel
theorem dX6_lose_22 : decode cX6_lose 22 = .ok (.goto 4, 3) := by decide +kernel
theorem dX6_lose_25 : decode cX6_lose 25 = .ok (.iconst 0, 1) := by decide +kernel
theorem dX6_lose_26 : decode cX6_lose 26 = .ok (.istore_n 2, 1) := by decide +kernel
theorem dX6_lose_27 : decode cX6_lose 27 = .ok (.aload_n 0, 1) := by decide +kernel
theorem dX6_lose_28 : decode cX6_lose 28 = .ok (.getfield 13, 3) := by decide +kernel
theorem dX6_lose_31 : decode cX6_lose 31 = .ok (.iload_n 1, 1) := by decide +kernel
theorem dX6_lose_32 : decode cX6_lose 32 = .ok (.aaload, 1) := by decide +kernel
theorem dX6_lose_33 : decode cX6_lose 33 = .ok (.iconst 0, 1) := by decide +kernel
theorem dX6_lose_34 : decode cX6_lose 34 = .ok (.putfield 206, 3) := by decide +kernel
theorem dX6_lose_37 : decode cX6_lose 37 = .ok (.iload_n 2, 1) := by decide +kernel
theorem dX6_lose_38 : decode cX6_lose 38 = .ok (.ireturn, 1) := by decide +kernel
theorem dX6_put_0 : decode cX6_put 0 = .ok (.aload_n 0, 1) := by decide +kernel
theorem dX6_put_1 : decode cX6_put 1 = .ok (.iconst 0, 1) := by decide +kernel
theorem dX6_put_2 : decode cX6_put 2 = .ok (.putfield 62, 3) := by decide +kernel
theorem dX6_put_5 : decode cX6_put 5 = .ok (.iload_n 1, 1) := by decide +kernel
theorem dX6_put_6 : decode cX6_put 6 = .ok (.invokestatic 67, 3) := by decide +kernel
theorem dX6_put_9 : decode cX6_put 9 = .ok (.ifCond .ne 5, 3) := by decide +kernel
theorem dX6_put_12 : decode cX6_put 12 = .ok (.iconst (-1), 1) := by decide +kernel
theorem dX6_put_13 : decode cX6_put 13 = .ok (.ireturn, 1) := by decide +kernel
theorem dX6_put_14 : decode cX6_put 14 = .ok (.aload_n 0, 1) := by decide +kernel
theorem dX6_put_15 : decode cX6_put 15 = .ok (.getfield 13, 3) := by decide +kernel
theorem dX6_put_18 : decode cX6_put 18 = .ok (.iload_n 1, 1) := by decide +kernel
theorem dX6_put_19 : decode cX6_put 19 = .ok (.aaload, 1) := by decide +kernel
theorem dX6_put_20 : decode cX6_put 20 = .ok (.astore 4, 2) := by decide +kernel
theorem dX6_put_22 : decode cX6_put 22 = .ok (.aload 4, 2) := by decide +kernel
theorem dX6_put_24 : decode cX6_put 24 = .ok (.aload 4, 2) := by decide +kernel
theorem dX6_put_26 : decode cX6_put 26 = .ok (.getfield 210, 3) := by decide +kernel
theorem dX6_put_29 : decode cX6_put 29 = .ok (.iload_n 2, 1) := by decide +kernel
theorem dX6_put_30 : decode cX6_put 30 = .ok (.iconst 1, 1) := by decide +kernel
theorem dX6_put_31 : decode cX6_put 31 = .ok (.invokevirtual 74, 3) := by decide +kernel
theorem dX6_put_34 : decode cX6_put 34 = .ok (.istore 5, 2) := by decide +kernel
theorem dX6_put_36 : decode cX6_put 36 = .ok (.iload 5, 2) := by decide +kernel
theorem dX6_put_38 : decode cX6_put 38 = .ok (.ifCond .eq 10, 3) := by decide +kernel
theorem dX6_put_41 : decode cX6_put 41 = .ok (.aload_n 0, 1) := by decide +kernel
theorem dX6_put_42 : decode cX6_put 42 = .ok (.iload 5, 2) := by decide +kernel
theorem dX6_put_44 : decode cX6_put 44 = .ok (.invokevirtual 78, 3) := by decide +kernel
theorem dX6_put_47 : decode cX6_put 47 = .ok (.ireturn, 1) := by decide +kernel
theorem dX6_put_48 : decode cX6_put 48 = .ok (.aload 4, 2) := by decide +kernel
theorem dX6_put_50 : decode cX6_put 50 = .ok (.getfield 213, 3) := by decide +kernel
theorem dX6_put_53 : decode cX6_put 53 = .ok (.iload_n 2, 1) := by decide +kernel
theorem dX6_put_54 : decode cX6_put 54 = .ok (.aload 4, 2) := by decide +kernel
theorem dX6_put_56 : decode cX6_put 56 = .ok (.getfield 210, 3) := by decide +kernel
theorem dX6_put_59 : decode cX6_put 59 = .ok (.iload_n 3, 1) := by decide +kernel
theorem dX6_put_60 : decode cX6_put 60 = .ok (.invokestatic 216, 3) := by decide +kernel
theorem dX6_put_63 : decode cX6_put 63 = .ok (.iastore, 1) := by decide +kernel
theorem dX6_put_64 : decode cX6_put 64 = .ok (.iconst 1, 1) := by decide +kernel
theorem dX6_put_65 : decode cX6_put 65 = .ok (.ireturn, 1) := by decide +kernel
theorem dX6_cell_0 : decode cX6_cell 0 = .ok (.aload_n 0, 1) := by decide +kernel
theorem dX6_cell_1 : decode cX6_cell 1 = .ok (.iconst 0, 1) := by decide +kernel
theorem dX6_cell_2 : decode cX6_cell 2 = .ok (.putfield 62, 3) := by decide +kernel
theorem dX6_cell_5 : decode cX6_cell 5 = .ok (.iload_n 1, 1) := by decide +kernel
theorem dX6_cell_6 : decode cX6_cell 6 = .ok (.invokestatic 67, 3) := by decide +kernel
theorem dX6_cell_9 : decode cX6_cell 9 = .ok (.ifCond .eq 10, 3) := by decide +kernel
theorem dX6_cell_12 : decode cX6_cell 12 = .ok (.iload_n 3, 1) := by decide +kernel
theorem dX6_cell_13 : decode cX6_cell 13 = .ok (.invokestatic 71, 3) := by decide +kernel
theorem dX6_cell_16 : decode cX6_cell 16 = .ok (.ifCond .ne 7, 3) := by decide +kernel
theorem dX6_cell_19 : decode cX6_cell 19 = .ok (.ldc2_w 189, 3) := by decide +kernel
theorem dX6_cell_22 : decode cX6_cell 22 = .ok (.lreturn, 1) := by decide +kernel
theorem dX6_cell_23 : decode cX6_cell 23 = .ok (.aload_n 0, 1) := by decide +kernel
theorem dX6_cell_24 : decode cX6_cell 24 = .ok (.aload_n 0, 1) := by decide +kernel
theorem dX6_cell_25 : decode cX6_cell 25 = .ok (.getfield 13, 3) := by decide +kernel
theorem dX6_cell_28 : decode cX6_cell 28 = .ok (.iload_n 1, 1) := by decide +kernel
theorem dX6_cell_29 : decode cX6_cell 29 = .ok (.aaload, 1) := by decide +kernel
theorem dX6_cell_30 : decode cX6_cell 30 = .ok (.iload_n 3, 1) := by decide +kernel
theorem dX6_cell_31 : decode cX6_cell 31 = .ok (.iload_n 2, 1) := by decide +kernel
theorem dX6_cell_32 : decode cX6_cell 32 = .ok (.iconst 1, 1) := by decide +kernel
theorem dX6_cell_33 : decode cX6_cell 33 = .ok (.invokevirtual 74, 3) := by decide +kernel
theorem dX6_cell_36 : decode cX6_cell 36 = .ok (.putfield 62, 3) := by decide +kernel
theorem dX6_cell_39 : decode cX6_cell 39 = .ok (.aload_n 0, 1) := by decide +kernel
theorem dX6_cell_40 : decode cX6_cell 40 = .ok (.getfield 62, 3) := by decide +kernel
theorem dX6_cell_43 : decode cX6_cell 43 = .ok (.ifCond .ne 18, 3) := by decide +kernel
theorem dX6_cell_46 : decode cX6_cell 46 = .ok (.aload_n 0, 1) := by decide +kernel
theorem dX6_cell_47 : decode cX6_cell 47 = .ok (.getfield 13, 3) := by decide +kernel
theorem dX6_cell_50 : decode cX6_cell 50 = .ok (.iload_n 1, 1) := by decide +kernel
theorem dX6_cell_51 : decode cX6_cell 51 = .ok (.aaload, 1) := by decide +kernel
theorem dX6_cell_52 : decode cX6_cell 52 = .ok (.getfield 213, 3) := by decide +kernel
theorem dX6_cell_55 : decode cX6_cell 55 = .ok (.iload_n 2, 1) := by decide +kernel
theorem dX6_cell_56 : decode cX6_cell 56 = .ok (.iaload, 1) := by decide +kernel
theorem dX6_cell_57 : decode cX6_cell 57 = .ok (.i2l, 1) := by decide +kernel
theorem dX6_cell_58 : decode cX6_cell 58 = .ok (.goto 6, 3) := by decide +kernel
theorem dX6_cell_61 : decode cX6_cell 61 = .ok (.ldc2_w 189, 3) := by decide +kernel
theorem dX6_cell_64 : decode cX6_cell 64 = .ok (.lreturn, 1) := by decide +kernel
theorem dX6_copy_0 : decode cX6_copy 0 = .ok (.aload_n 0, 1) := by decide +kernel
theorem dX6_copy_1 : decode cX6_copy 1 = .ok (.iconst 0, 1) := by decide +kernel
theorem dX6_copy_2 : decode cX6_copy 2 = .ok (.putfield 62, 3) := by decide +kernel
theorem dX6_copy_5 : decode cX6_copy 5 = .ok (.iload_n 1, 1) := by decide +kernel
theorem dX6_copy_6 : decode cX6_copy 6 = .ok (.invokestatic 67, 3) := by decide +kernel
theorem dX6_copy_9 : decode cX6_copy 9 = .ok (.ifCond .eq 10, 3) := by decide +kernel
theorem dX6_copy_12 : decode cX6_copy 12 = .ok (.iload_n 3, 1) := by decide +kernel
theorem dX6_copy_13 : decode cX6_copy 13 = .ok (.invokestatic 67, 3) := by decide +kernel
theorem dX6_copy_16 : decode cX6_copy 16 = .ok (.ifCond .ne 5, 3) := by decide +kernel
theorem dX6_copy_19 : decode cX6_copy 19 = .ok (.iconst (-1), 1) := by decide +kernel
theorem dX6_copy_20 : decode cX6_copy 20 = .ok (.ireturn, 1) := by decide +kernel
theorem dX6_copy_21 : decode cX6_copy 21 = .ok (.aload_n 0, 1) := by decide +kernel
theorem dX6_copy_22 : decode cX6_copy 22 = .ok (.getfield 13, 3) := by decide +kernel
theorem dX6_copy_25 : decode cX6_copy 25 = .ok (.iload_n 1, 1) := by decide +kernel
theorem dX6_copy_26 : decode cX6_copy 26 = .ok (.aaload, 1) := by decide +kernel
theorem dX6_copy_27 : decode cX6_copy 27 = .ok (.astore 6, 2) := by decide +kernel
theorem dX6_copy_29 : decode cX6_copy 29 = .ok (.aload_n 0, 1) := by decide +kernel
theorem dX6_copy_30 : decode cX6_copy 30 = .ok (.getfield 13, 3) := by decide +kernel
theorem dX6_copy_33 : decode cX6_copy 33 = .ok (.iload_n 3, 1) := by decide +kernel
theorem dX6_copy_34 : decode cX6_copy 34 = .ok (.aaload, 1) := by decide +kernel
theorem dX6_copy_35 : decode cX6_copy 35 = .ok (.astore 7, 2) := by decide +kernel
theorem dX6_copy_37 : decode cX6_copy 37 = .ok (.aload 6, 2) := by decide +kernel
theorem dX6_copy_39 : decode cX6_copy 39 = .ok (.getfield 206, 3) := by decide +kernel
theorem dX6_copy_42 : decode cX6_copy 42 = .ok (.ifCond .eq 11, 3) := by decide +kernel
theorem dX6_copy_45 : decode cX6_copy 45 = .ok (.aload 7, 2) := by decide +kernel
theorem dX6_copy_47 : decode cX6_copy 47 = .ok (.getfield 206, 3) := by decide +kernel
theorem dX6_copy_50 : decode cX6_copy 50 = .ok (.ifCond .ne 9, 3) := by decide +kernel
theorem dX6_copy_53 : decode cX6_copy 53 = .ok (.aload_n 0, 1) := by decide +kernel
theorem dX6_copy_54 : decode cX6_copy 54 = .ok (.iconst 1, 1) := by decide +kernel
theorem dX6_copy_55 : decode cX6_copy 55 = .ok (.invokevirtual 78, 3) := by decide +kernel
theorem dX6_copy_58 : decode cX6_copy 58 = .ok (.ireturn, 1) := by decide +kernel
theorem dX6_copy_59 : decode cX6_copy 59 = .ok (.aload 6, 2) := by decide +kernel
theorem dX6_copy_61 : decode cX6_copy 61 = .ok (.getfield 210, 3) := by decide +kernel
theorem dX6_copy_64 : decode cX6_copy 64 = .ok (.aload 7, 2) := by decide +kernel
theorem dX6_copy_66 : decode cX6_copy 66 = .ok (.getfield 210, 3) := by decide +kernel
theorem dX6_copy_69 : decode cX6_copy 69 = .ok (.if_icmp .eq 9, 3) := by decide +kernel
theorem dX6_copy_72 : decode cX6_copy 72 = .ok (.aload_n 0, 1) := by decide +kernel
theorem dX6_copy_73 : decode cX6_copy 73 = .ok (.iconst 2, 1) := by decide +kernel
theorem dX6_copy_74 : decode cX6_copy 74 = .ok (.invokevirtual 78, 3) := by decide +kernel
theorem dX6_copy_77 : decode cX6_copy 77 = .ok (.ireturn, 1) := by decide +kernel
theorem dX6_copy_78 : decode cX6_copy 78 = .ok (.aload 6, 2) := by decide +kernel
theorem dX6_copy_80 : decode cX6_copy 80 = .ok (.iload_n 2, 1) := by decide +kernel
theorem dX6_copy_81 : decode cX6_copy 81 = .ok (.iload 5, 2) := by decide +kernel
theorem dX6_copy_83 : decode cX6_copy 83 = .ok (.invokevirtual 219, 3) := by decide +kernel
theorem dX6_copy_86 : decode cX6_copy 86 = .ok (.ifCond .eq 15, 3) := by decide +kernel
theorem dX6_copy_89 : decode cX6_copy 89 = .ok (.aload 7, 2) := by decide +kernel
theorem dX6_copy_91 : decode cX6_copy 91 = .ok (.iload 4, 2) := by decide +kernel
theorem dX6_copy_93 : decode cX6_copy 93 = .ok (.iload 5, 2) := by decide +kernel
theorem dX6_copy_95 : decode cX6_copy 95 = .ok (.invokevirtual 219, 3) := by decide +kernel
theorem dX6_copy_98 : decode cX6_copy 98 = .ok (.ifCond .ne 9, 3) := by decide +kernel
theorem dX6_copy_101 : decode cX6_copy 101 = .ok (.aload_n 0, 1) := by decide +kernel
theorem dX6_copy_102 : decode cX6_copy 102 = .ok (.iconst 3, 1) := by decide +kernel
theorem dX6_copy_103 : decode cX6_copy 103 = .ok (.invokevirtual 78, 3) := by decide +kernel
theorem dX6_copy_106 : decode cX6_copy 106 = .ok (.ireturn, 1) := by decide +kernel
theorem dX6_copy_107 : decode cX6_copy 107 = .ok (.aload 6, 2) := by decide +kernel
theorem dX6_copy_109 : decode cX6_copy 109 = .ok (.getfield 213, 3) := by decide +kernel
theorem dX6_copy_112 : decode cX6_copy 112 = .ok (.iload_n 2, 1) := by decide +kernel
theorem dX6_copy_113 : decode cX6_copy 113 = .ok (.aload 7, 2) := by decide +kernel
theorem dX6_copy_115 : decode cX6_copy 115 = .ok (.getfield 213, 3) := by decide +kernel
theorem dX6_copy_118 : decode cX6_copy 118 = .ok (.iload 4, 2) := by decide +kernel
theorem dX6_copy_120 : decode cX6_copy 120 = .ok (.iload 5, 2) := by decide +kernel
theorem dX6_copy_122 : decode cX6_copy 122 = .ok (.invokestatic 223, 3) := by decide +kernel
theorem dX6_copy_125 : decode cX6_copy 125 = .ok (.iload 5, 2) := by decide +kernel
theorem dX6_copy_127 : decode cX6_copy 127 = .ok (.ireturn, 1) := by decide +kernel
theorem dX6_tell_0 : decode cX6_tell 0 = .ok (.aload_n 0, 1) := by decide +kernel
theorem dX6_tell_1 : decode cX6_tell 1 = .ok (.iload_n 1, 1) := by decide +kernel
theorem dX6_tell_2 : decode cX6_tell 2 = .ok (.invokevirtual 93, 3) := by decide +kernel
theorem dX6_tell_5 : decode cX6_tell 5 = .ok (.ifCond .ne 5, 3) := by decide +kernel
theorem dX6_tell_8 : decode cX6_tell 8 = .ok (.iconst (-1), 1) := by decide +kernel
theorem dX6_tell_9 : decode cX6_tell 9 = .ok (.ireturn, 1) := by decide +kernel
theorem dX6_tell_10 : decode cX6_tell 10 = .ok (.aload_n 0, 1) := by decide +kernel
theorem dX6_tell_11 : decode cX6_tell 11 = .ok (.getfield 19, 3) := by decide +kernel
theorem dX6_tell_14 : decode cX6_tell 14 = .ok (.iload_n 1, 1) := by decide +kernel
theorem dX6_tell_15 : decode cX6_tell 15 = .ok (.aaload, 1) := by decide +kernel
theorem dX6_tell_16 : decode cX6_tell 16 = .ok (.getfield 96, 3) := by decide +kernel
theorem dX6_tell_19 : decode cX6_tell 19 = .ok (.lookupswitch 47 #[(1, 36), (2, 25)], 25) := by decide +kernel
theorem dX6_tell_44 : decode cX6_tell 44 = .ok (.aload_n 0, 1) := by decide +kernel
theorem dX6_tell_45 : decode cX6_tell 45 = .ok (.aload_n 0, 1) := by decide +kernel
theorem dX6_tell_46 : decode cX6_tell 46 = .ok (.getfield 19, 3) := by decide +kernel
theorem dX6_tell_49 : decode cX6_tell 49 = .ok (.iload_n 1, 1) := by decide +kernel
theorem dX6_tell_50 : decode cX6_tell 50 = .ok (.aaload, 1) := by decide +kernel
theorem dX6_tell_51 : decode cX6_tell 51 = .ok (.invokevirtual 229, 3) := by decide +kernel
theorem dX6_tell_54 : decode cX6_tell 54 = .ok (.ireturn, 1) := by decide +kernel
theorem dX6_tell_55 : decode cX6_tell 55 = .ok (.aload_n 0, 1) := by decide +kernel
theorem dX6_tell_56 : decode cX6_tell 56 = .ok (.aload_n 0, 1) := by decide +kernel
theorem dX6_tell_57 : decode cX6_tell 57 = .ok (.getfield 19, 3) := by decide +kernel
theorem dX6_tell_60 : decode cX6_tell 60 = .ok (.iload_n 1, 1) := by decide +kernel
theorem dX6_tell_61 : decode cX6_tell 61 = .ok (.aaload, 1) := by decide +kernel
theorem dX6_tell_62 : decode cX6_tell 62 = .ok (.invokevirtual 233, 3) := by decide +kernel
theorem dX6_tell_65 : decode cX6_tell 65 = .ok (.ireturn, 1) := by decide +kernel
theorem dX6_tell_66 : decode cX6_tell 66 = .ok (.aload_n 0, 1) := by decide +kernel
theorem dX6_tell_67 : decode cX6_tell 67 = .ok (.aload_n 0, 1) := by decide +kernel
theorem dX6_tell_68 : decode cX6_tell 68 = .ok (.getfield 19, 3) := by decide +kernel
theorem dX6_tell_71 : decode cX6_tell 71 = .ok (.iload_n 1, 1) := by decide +kernel
theorem dX6_tell_72 : decode cX6_tell 72 = .ok (.aaload, 1) := by decide +kernel
theorem dX6_tell_73 : decode cX6_tell 73 = .ok (.invokevirtual 236, 3) := by decide +kernel
theorem dX6_tell_76 : decode cX6_tell 76 = .ok (.ireturn, 1) := by decide +kernel
theorem dX6_hand_0 : decode cX6_hand 0 = .ok (.aload_n 0, 1) := by decide +kernel
theorem dX6_hand_1 : decode cX6_hand 1 = .ok (.iload_n 1, 1) := by decide +kernel
theorem dX6_hand_2 : decode cX6_hand 2 = .ok (.invokevirtual 93, 3) := by decide +kernel
theorem dX6_hand_5 : decode cX6_hand 5 = .ok (.ifCond .ne 5, 3) := by decide +kernel
theorem dX6_hand_8 : decode cX6_hand 8 = .ok (.iconst (-1), 1) := by decide +kernel
theorem dX6_hand_9 : decode cX6_hand 9 = .ok (.ireturn, 1) := by decide +kernel
theorem dX6_hand_10 : decode cX6_hand 10 = .ok (.aload_n 0, 1) := by decide +kernel
theorem dX6_hand_11 : decode cX6_hand 11 = .ok (.getfield 19, 3) := by decide +kernel
theorem dX6_hand_14 : decode cX6_hand 14 = .ok (.iload_n 1, 1) := by decide +kernel
theorem dX6_hand_15 : decode cX6_hand 15 = .ok (.aaload, 1) := by decide +kernel
theorem dX6_hand_16 : decode cX6_hand 16 = .ok (.getfield 96, 3) := by decide +kernel
theorem dX6_hand_19 : decode cX6_hand 19 = .ok (.iconst 2, 1) := by decide +kernel
theorem dX6_hand_20 : decode cX6_hand 20 = .ok (.if_icmp .ne 11, 3) := by decide +kernel
theorem dX6_hand_23 : decode cX6_hand 23 = .ok (.aload_n 0, 1) := by decide +kernel
theorem dX6_hand_24 : decode cX6_hand 24 = .ok (.iconst 5, 1) := by decide +kernel
theorem dX6_hand_25 : decode cX6_hand 25 = .ok (.invokevirtual 239, 3) := by decide +kernel
theorem dX6_hand_28 : decode cX6_hand 28 = .ok (.bipush 40, 2) := by decide +kernel
theorem dX6_hand_30 : decode cX6_hand 30 = .ok (.ireturn, 1) := by decide +kernel
theorem dX6_hand_31 : decode cX6_hand 31 = .ok (.aload_n 0, 1) := by decide +kernel
theorem dX6_hand_32 : decode cX6_hand 32 = .ok (.iconst 4, 1) := by decide +kernel
theorem dX6_hand_33 : decode cX6_hand 33 = .ok (.invokevirtual 239, 3) := by decide +kernel
theorem dX6_hand_36 : decode cX6_hand 36 = .ok (.iload_n 1, 1) := by decide +kernel
theorem dX6_hand_37 : decode cX6_hand 37 = .ok (.ireturn, 1) := by decide +kernel
theorem dX6_as_0 : decode cX6_as 0 = .ok (.aload_n 0, 1) := by decide +kernel
theorem dX6_as_1 : decode cX6_as 1 = .ok (.iconst 0, 1) := by decide +kernel
theorem dX6_as_2 : decode cX6_as 2 = .ok (.putfield 62, 3) := by decide +kernel
theorem dX6_as_5 : decode cX6_as 5 = .ok (.aload_n 0, 1) := by decide +kernel
theorem dX6_as_6 : decode cX6_as 6 = .ok (.iload_n 1, 1) := by decide +kernel
theorem dX6_as_7 : decode cX6_as 7 = .ok (.invokevirtual 93, 3) := by decide +kernel
theorem dX6_as_10 : decode cX6_as 10 = .ok (.ifCond .ne 5, 3) := by decide +kernel
theorem dX6_as_13 : decode cX6_as 13 = .ok (.iconst (-1), 1) := by decide +kernel
theorem dX6_as_14 : decode cX6_as 14 = .ok (.ireturn, 1) := by decide +kernel
theorem dX6_as_15 : decode cX6_as 15 = .ok (.iload_n 2, 1) := by decide +kernel
theorem dX6_as_16 : decode cX6_as 16 = .ok (.ifCond .lt 8, 3) := by decide +kernel
theorem dX6_as_19 : decode cX6_as 19 = .ok (.iload_n 2, 1) := by decide +kernel
theorem dX6_as_20 : decode cX6_as 20 = .ok (.iconst 3, 1) := by decide +kernel
theorem dX6_as_21 : decode cX6_as 21 = .ok (.if_icmp .lt 6, 3) := by decide +kernel
theorem dX6_as_24 : decode cX6_as 24 = .ok (.bipush (-2), 2) := by decide +kernel
theorem dX6_as_26 : decode cX6_as 26 = .ok (.ireturn, 1) := by decide +kernel
theorem dX6_as_27 : decode cX6_as 27 = .ok (.aload_n 0, 1) := by decide +kernel
theorem dX6_as_28 : decode cX6_as 28 = .ok (.getfield 19, 3) := by decide +kernel
theorem dX6_as_31 : decode cX6_as 31 = .ok (.iload_n 1, 1) := by decide +kernel
theorem dX6_as_32 : decode cX6_as 32 = .ok (.aaload, 1) := by decide +kernel
theorem dX6_as_33 : decode cX6_as 33 = .ok (.getfield 96, 3) := by decide +kernel
theorem dX6_as_36 : decode cX6_as 36 = .ok (.iload_n 2, 1) := by decide +kernel
theorem dX6_as_37 : decode cX6_as 37 = .ok (.if_icmp .lt 7, 3) := by decide +kernel
theorem dX6_as_40 : decode cX6_as 40 = .ok (.iconst 1, 1) := by decide +kernel
theorem dX6_as_41 : decode cX6_as 41 = .ok (.goto 8, 3) := by decide +kernel
theorem dX6_as_44 : decode cX6_as 44 = .ok (.aload_n 0, 1) := by decide +kernel
theorem dX6_as_45 : decode cX6_as 45 = .ok (.iconst 2, 1) := by decide +kernel
theorem dX6_as_46 : decode cX6_as 46 = .ok (.invokevirtual 78, 3) := by decide +kernel
theorem dX6_as_49 : decode cX6_as 49 = .ok (.ireturn, 1) := by decide +kernel
theorem dX6_trace_0 : decode cX6_trace 0 = .ok (.aload_n 0, 1) := by decide +kernel
theorem dX6_trace_1 : decode cX6_trace 1 = .ok (.getfield 59, 3) := by decide +kernel
theorem dX6_trace_4 : decode cX6_trace 4 = .ok (.ireturn, 1) := by decide +kernel
theorem dX6_fault_0 : decode cX6_fault 0 = .ok (.aload_n 0, 1) := by decide +kernel
theorem dX6_fault_1 : decode cX6_fault 1 = .ok (.getfield 62, 3) := by decide +kernel
theorem dX6_fault_4 : decode cX6_fault 4 = .ok (.ireturn, 1) := by decide +kernel
theorem dX6_many_0 : decode cX6_many 0 = .ok (.iload_n 1, 1) := by decide +kernel
theorem dX6_many_1 : decode cX6_many 1 = .ok (.lookupswitch 40 #[(0, 27), (1, 32)], 27) := by decide +kernel
theorem dX6_many_28 : decode cX6_many 28 = .ok (.aload_n 0, 1) := by decide +kernel
theorem dX6_many_29 : decode cX6_many 29 = .ok (.getfield 55, 3) := by decide +kernel
theorem dX6_many_32 : decode cX6_many 32 = .ok (.ireturn, 1) := by decide +kernel
theorem dX6_many_33 : decode cX6_many 33 = .ok (.aload_n 0, 1) := by decide +kernel
theorem dX6_many_34 : decode cX6_many 34 = .ok (.getfield 26, 3) := by decide +kernel
theorem dX6_many_37 : decode cX6_many 37 = .ok (.getfield 90, 3) := by decide +kernel
theorem dX6_many_40 : decode cX6_many 40 = .ok (.ireturn, 1) := by decide +kernel
theorem dX6_many_41 : decode cX6_many 41 = .ok (.bipush (-2), 2) := by decide +kernel
theorem dX6_many_43 : decode cX6_many 43 = .ok (.ireturn, 1) := by decide +kernel
theorem dX6_tellingOfChildhood_0 : decode cX6_tellingOfChildhood 0 = .ok (.aload_n 0, 1) := by decide +kernel
theorem dX6_tellingOfChildhood_1 : decode cX6_tellingOfChildhood 1 = .ok (.iconst 1, 1) := by decide +kernel
theorem dX6_tellingOfChildhood_2 : decode cX6_tellingOfChildhood 2 = .ok (.invokevirtual 239, 3) := by decide +kernel
theorem dX6_tellingOfChildhood_5 : decode cX6_tellingOfChildhood 5 = .ok (.aload_n 1, 1) := by decide +kernel
theorem dX6_tellingOfChildhood_6 : decode cX6_tellingOfChildhood 6 = .ok (.getfield 105, 3) := by decide +kernel
theorem dX6_tellingOfChildhood_9 : decode cX6_tellingOfChildhood 9 = .ok (.ireturn, 1) := by decide +kernel
theorem dX6_tellingOfSad_0 : decode cX6_tellingOfSad 0 = .ok (.aload_n 0, 1) := by decide +kernel
theorem dX6_tellingOfSad_1 : decode cX6_tellingOfSad 1 = .ok (.iconst 2, 1) := by decide +kernel
theorem dX6_tellingOfSad_2 : decode cX6_tellingOfSad 2 = .ok (.invokevirtual 239, 3) := by decide +kernel
theorem dX6_tellingOfSad_5 : decode cX6_tellingOfSad 5 = .ok (.aload_n 0, 1) := by decide +kernel
theorem dX6_tellingOfSad_6 : decode cX6_tellingOfSad 6 = .ok (.aload_n 1, 1) := by decide +kernel
theorem dX6_tellingOfSad_7 : decode cX6_tellingOfSad 7 = .ok (.invokevirtual 236, 3) := by decide +kernel
theorem dX6_tellingOfSad_10 : decode cX6_tellingOfSad 10 = .ok (.bipush 100, 2) := by decide +kernel
theorem dX6_tellingOfSad_12 : decode cX6_tellingOfSad 12 = .ok (.iadd, 1) := by decide +kernel
theorem dX6_tellingOfSad_13 : decode cX6_tellingOfSad 13 = .ok (.ireturn, 1) := by decide +kernel
theorem dX6_tellingOfTwin_0 : decode cX6_tellingOfTwin 0 = .ok (.aload_n 0, 1) := by decide +kernel
theorem dX6_tellingOfTwin_1 : decode cX6_tellingOfTwin 1 = .ok (.iconst 3, 1) := by decide +kernel
theorem dX6_tellingOfTwin_2 : decode cX6_tellingOfTwin 2 = .ok (.invokevirtual 239, 3) := by decide +kernel
theorem dX6_tellingOfTwin_5 : decode cX6_tellingOfTwin 5 = .ok (.aload_n 0, 1) := by decide +kernel
theorem dX6_tellingOfTwin_6 : decode cX6_tellingOfTwin 6 = .ok (.aload_n 1, 1) := by decide +kernel
theorem dX6_tellingOfTwin_7 : decode cX6_tellingOfTwin 7 = .ok (.invokevirtual 233, 3) := by decide +kernel
theorem dX6_tellingOfTwin_10 : decode cX6_tellingOfTwin 10 = .ok (.istore_n 2, 1) := by decide +kernel
theorem dX6_tellingOfTwin_11 : decode cX6_tellingOfTwin 11 = .ok (.iload_n 2, 1) := by decide +kernel
theorem dX6_tellingOfTwin_12 : decode cX6_tellingOfTwin 12 = .ok (.aload_n 0, 1) := by decide +kernel
theorem dX6_tellingOfTwin_13 : decode cX6_tellingOfTwin 13 = .ok (.aload_n 1, 1) := by decide +kernel
theorem dX6_tellingOfTwin_14 : decode cX6_tellingOfTwin 14 = .ok (.invokevirtual 236, 3) := by decide +kernel
theorem dX6_tellingOfTwin_17 : decode cX6_tellingOfTwin 17 = .ok (.iadd, 1) := by decide +kernel
theorem dX6_tellingOfTwin_18 : decode cX6_tellingOfTwin 18 = .ok (.ireturn, 1) := by decide +kernel
theorem dX6_leaveInTrace_0 : decode cX6_leaveInTrace 0 = .ok (.aload_n 0, 1) := by decide +kernel
theorem dX6_leaveInTrace_1 : decode cX6_leaveInTrace 1 = .ok (.bipush 31, 2) := by decide +kernel
theorem dX6_leaveInTrace_3 : decode cX6_leaveInTrace 3 = .ok (.aload_n 0, 1) := by decide +kernel
theorem dX6_leaveInTrace_4 : decode cX6_leaveInTrace 4 = .ok (.getfield 59, 3) := by decide +kernel
theorem dX6_leaveInTrace_7 : decode cX6_leaveInTrace 7 = .ok (.imul, 1) := by decide +kernel
theorem dX6_leaveInTrace_8 : decode cX6_leaveInTrace 8 = .ok (.iload_n 1, 1) := by decide +kernel
theorem dX6_leaveInTrace_9 : decode cX6_leaveInTrace 9 = .ok (.iadd, 1) := by decide +kernel
theorem dX6_leaveInTrace_10 : decode cX6_leaveInTrace 10 = .ok (.putfield 59, 3) := by decide +kernel
theorem dX6_leaveInTrace_13 : decode cX6_leaveInTrace 13 = .ok (.return_, 1) := by decide +kernel
theorem dX6_faultAnswer_0 : decode cX6_faultAnswer 0 = .ok (.aload_n 0, 1) := by decide +kernel
theorem dX6_faultAnswer_1 : decode cX6_faultAnswer 1 = .ok (.iload_n 1, 1) := by decide +kernel
theorem dX6_faultAnswer_2 : decode cX6_faultAnswer 2 = .ok (.putfield 62, 3) := by decide +kernel
theorem dX6_faultAnswer_5 : decode cX6_faultAnswer 5 = .ok (.bipush (-10), 2) := by decide +kernel
theorem dX6_faultAnswer_7 : decode cX6_faultAnswer 7 = .ok (.iload_n 1, 1) := by decide +kernel
theorem dX6_faultAnswer_8 : decode cX6_faultAnswer 8 = .ok (.isub, 1) := by decide +kernel
theorem dX6_faultAnswer_9 : decode cX6_faultAnswer 9 = .ok (.ireturn, 1) := by decide +kernel
theorem dX6_takeRow_0 : decode cX6_takeRow 0 = .ok (.aload_n 0, 1) := by decide +kernel
theorem dX6_takeRow_1 : decode cX6_takeRow 1 = .ok (.getfield 13, 3) := by decide +kernel
theorem dX6_takeRow_4 : decode cX6_takeRow 4 = .ok (.iload_n 1, 1) := by decide +kernel
theorem dX6_takeRow_5 : decode cX6_takeRow 5 = .ok (.aaload, 1) := by decide +kernel
theorem dX6_takeRow_6 : decode cX6_takeRow 6 = .ok (.iload_n 2, 1) := by decide +kernel
theorem dX6_takeRow_7 : decode cX6_takeRow 7 = .ok (.iload_n 3, 1) := by decide +kernel
theorem dX6_takeRow_8 : decode cX6_takeRow 8 = .ok (.iconst 2, 1) := by decide +kernel
theorem dX6_takeRow_9 : decode cX6_takeRow 9 = .ok (.iload 4, 2) := by decide +kernel
theorem dX6_takeRow_11 : decode cX6_takeRow 11 = .ok (.imul, 1) := by decide +kernel
theorem dX6_takeRow_12 : decode cX6_takeRow 12 = .ok (.invokevirtual 74, 3) := by decide +kernel
theorem dX6_takeRow_15 : decode cX6_takeRow 15 = .ok (.istore 5, 2) := by decide +kernel
theorem dX6_takeRow_17 : decode cX6_takeRow 17 = .ok (.iload 5, 2) := by decide +kernel
theorem dX6_takeRow_19 : decode cX6_takeRow 19 = .ok (.ifCond .eq 10, 3) := by decide +kernel
theorem dX6_takeRow_22 : decode cX6_takeRow 22 = .ok (.aload_n 0, 1) := by decide +kernel
theorem dX6_takeRow_23 : decode cX6_takeRow 23 = .ok (.iload 5, 2) := by decide +kernel
theorem dX6_takeRow_25 : decode cX6_takeRow 25 = .ok (.invokevirtual 78, 3) := by decide +kernel
theorem dX6_takeRow_28 : decode cX6_takeRow 28 = .ok (.ireturn, 1) := by decide +kernel
theorem dX6_takeRow_29 : decode cX6_takeRow 29 = .ok (.iconst 0, 1) := by decide +kernel
theorem dX6_takeRow_30 : decode cX6_takeRow 30 = .ok (.istore 6, 2) := by decide +kernel
theorem dX6_takeRow_32 : decode cX6_takeRow 32 = .ok (.iload 6, 2) := by decide +kernel
theorem dX6_takeRow_34 : decode cX6_takeRow 34 = .ok (.iconst 2, 1) := by decide +kernel
theorem dX6_takeRow_35 : decode cX6_takeRow 35 = .ok (.iload 4, 2) := by decide +kernel
theorem dX6_takeRow_37 : decode cX6_takeRow 37 = .ok (.imul, 1) := by decide +kernel
theorem dX6_takeRow_38 : decode cX6_takeRow 38 = .ok (.if_icmp .ge 45, 3) := by decide +kernel
theorem dX6_takeRow_41 : decode cX6_takeRow 41 = .ok (.aload_n 0, 1) := by decide +kernel
theorem dX6_takeRow_42 : decode cX6_takeRow 42 = .ok (.getfield 13, 3) := by decide +kernel
theorem dX6_takeRow_45 : decode cX6_takeRow 45 = .ok (.iload_n 1, 1) := by decide +kernel
theorem dX6_takeRow_46 : decode cX6_takeRow 46 = .ok (.aaload, 1) := by decide +kernel
theorem dX6_takeRow_47 : decode cX6_takeRow 47 = .ok (.getfield 213, 3) := by decide +kernel
theorem dX6_takeRow_50 : decode cX6_takeRow 50 = .ok (.iload_n 3, 1) := by decide +kernel
theorem dX6_takeRow_51 : decode cX6_takeRow 51 = .ok (.iload 6, 2) := by decide +kernel
theorem dX6_takeRow_53 : decode cX6_takeRow 53 = .ok (.iadd, 1) := by decide +kernel
theorem dX6_takeRow_54 : decode cX6_takeRow 54 = .ok (.iaload, 1) := by decide +kernel
theorem dX6_takeRow_55 : decode cX6_takeRow 55 = .ok (.istore 7, 2) := by decide +kernel
theorem dX6_takeRow_57 : decode cX6_takeRow 57 = .ok (.aload_n 0, 1) := by decide +kernel
theorem dX6_takeRow_58 : decode cX6_takeRow 58 = .ok (.iload 7, 2) := by decide +kernel
theorem dX6_takeRow_60 : decode cX6_takeRow 60 = .ok (.invokevirtual 93, 3) := by decide +kernel
theorem dX6_takeRow_63 : decode cX6_takeRow 63 = .ok (.ifCond .ne 5, 3) := by decide +kernel
theorem dX6_takeRow_66 : decode cX6_takeRow 66 = .ok (.iconst (-1), 1) := by decide +kernel
theorem dX6_takeRow_67 : decode cX6_takeRow 67 = .ok (.ireturn, 1) := by decide +kernel
theorem dX6_takeRow_68 : decode cX6_takeRow 68 = .ok (.aload_n 0, 1) := by decide +kernel
theorem dX6_takeRow_69 : decode cX6_takeRow 69 = .ok (.getfield 51, 3) := by decide +kernel
theorem dX6_takeRow_72 : decode cX6_takeRow 72 = .ok (.iload 6, 2) := by decide +kernel
theorem dX6_takeRow_74 : decode cX6_takeRow 74 = .ok (.iload 7, 2) := by decide +kernel
theorem dX6_takeRow_76 : decode cX6_takeRow 76 = .ok (.iastore, 1) := by decide +kernel
theorem dX6_takeRow_77 : decode cX6_takeRow 77 = .ok (.iinc 6 1, 3) := by decide +kernel
theorem dX6_takeRow_80 : decode cX6_takeRow 80 = .ok (.goto (-48), 3) := by decide +kernel
theorem dX6_takeRow_83 : decode cX6_takeRow 83 = .ok (.iconst 0, 1) := by decide +kernel
theorem dX6_takeRow_84 : decode cX6_takeRow 84 = .ok (.ireturn, 1) := by decide +kernel
theorem dX6_isPerson_0 : decode cX6_isPerson 0 = .ok (.iload_n 1, 1) := by decide +kernel
theorem dX6_isPerson_1 : decode cX6_isPerson 1 = .ok (.ifCond .lt 15, 3) := by decide +kernel
theorem dX6_isPerson_4 : decode cX6_isPerson 4 = .ok (.iload_n 1, 1) := by decide +kernel
theorem dX6_isPerson_5 : decode cX6_isPerson 5 = .ok (.aload_n 0, 1) := by decide +kernel
theorem dX6_isPerson_6 : decode cX6_isPerson 6 = .ok (.getfield 55, 3) := by decide +kernel
theorem dX6_isPerson_9 : decode cX6_isPerson 9 = .ok (.if_icmp .ge 7, 3) := by decide +kernel
theorem dX6_isPerson_12 : decode cX6_isPerson 12 = .ok (.iconst 1, 1) := by decide +kernel
theorem dX6_isPerson_13 : decode cX6_isPerson 13 = .ok (.goto 4, 3) := by decide +kernel
theorem dX6_isPerson_16 : decode cX6_isPerson 16 = .ok (.iconst 0, 1) := by decide +kernel
theorem dX6_isPerson_17 : decode cX6_isPerson 17 = .ok (.ireturn, 1) := by decide +kernel
theorem dX6_isSheet_0 : decode cX6_isSheet 0 = .ok (.iload_n 0, 1) := by decide +kernel
theorem dX6_isSheet_1 : decode cX6_isSheet 1 = .ok (.ifCond .lt 12, 3) := by decide +kernel
theorem dX6_isSheet_4 : decode cX6_isSheet 4 = .ok (.iload_n 0, 1) := by decide +kernel
theorem dX6_isSheet_5 : decode cX6_isSheet 5 = .ok (.iconst 4, 1) := by decide +kernel
theorem dX6_isSheet_6 : decode cX6_isSheet 6 = .ok (.if_icmp .ge 7, 3) := by decide +kernel
theorem dX6_isSheet_9 : decode cX6_isSheet 9 = .ok (.iconst 1, 1) := by decide +kernel
theorem dX6_isSheet_10 : decode cX6_isSheet 10 = .ok (.goto 4, 3) := by decide +kernel
theorem dX6_isSheet_13 : decode cX6_isSheet 13 = .ok (.iconst 0, 1) := by decide +kernel
theorem dX6_isSheet_14 : decode cX6_isSheet 14 = .ok (.ireturn, 1) := by decide +kernel
theorem dX6_isLane_0 : decode cX6_isLane 0 = .ok (.iload_n 0, 1) := by decide +kernel
theorem dX6_isLane_1 : decode cX6_isLane 1 = .ok (.ifCond .lt 12, 3) := by decide +kernel
theorem dX6_isLane_4 : decode cX6_isLane 4 = .ok (.iload_n 0, 1) := by decide +kernel
theorem dX6_isLane_5 : decode cX6_isLane 5 = .ok (.iconst 3, 1) := by decide +kernel
theorem dX6_isLane_6 : decode cX6_isLane 6 = .ok (.if_icmp .ge 7, 3) := by decide +kernel
theorem dX6_isLane_9 : decode cX6_isLane 9 = .ok (.iconst 1, 1) := by decide +kernel
theorem dX6_isLane_10 : decode cX6_isLane 10 = .ok (.goto 4, 3) := by decide +kernel
theorem dX6_isLane_13 : decode cX6_isLane 13 = .ok (.iconst 0, 1) := by decide +kernel
theorem dX6_isLane_14 : decode cX6_isLane 14 = .ok (.ireturn, 1) := by decide +kernel
theorem dX6_isLoanCount_0 : decode cX6_isLoanCount 0 = .ok (.iload_n 0, 1) := by decide +kernel
theorem dX6_isLoanCount_1 : decode cX6_isLoanCount 1 = .ok (.ifCond .lt 13, 3) := by decide +kernel
theorem dX6_isLoanCount_4 : decode cX6_isLoanCount 4 = .ok (.iload_n 0, 1) := by decide +kernel
theorem dX6_isLoanCount_5 : decode cX6_isLoanCount 5 = .ok (.bipush 20, 2) := by decide +kernel
theorem dX6_isLoanCount_7 : decode cX6_isLoanCount 7 = .ok (.if_icmp .gt 7, 3) := by decide +kernel
theorem dX6_isLoanCount_10 : decode cX6_isLoanCount 10 = .ok (.iconst 1, 1) := by decide +kernel
theorem dX6_isLoanCount_11 : decode cX6_isLoanCount 11 = .ok (.goto 4, 3) := by decide +kernel
theorem dX6_isLoanCount_14 : decode cX6_isLoanCount 14 = .ok (.iconst 0, 1) := by decide +kernel
theorem dX6_isLoanCount_15 : decode cX6_isLoanCount 15 = .ok (.ireturn, 1) := by decide +kernel
theorem dX6_isLoanQuestion_0 : decode cX6_isLoanQuestion 0 = .ok (.iload_n 0, 1) := by decide +kernel
theorem dX6_isLoanQuestion_1 : decode cX6_isLoanQuestion 1 = .ok (.ifCond .lt 10, 3) := by decide +kernel
theorem dX6_isLoanQuestion_4 : decode cX6_isLoanQuestion 4 = .ok (.iload_n 0, 1) := by decide +kernel
theorem dX6_isLoanQuestion_5 : decode cX6_isLoanQuestion 5 = .ok (.iconst 3, 1) := by decide +kernel
theorem dX6_isLoanQuestion_6 : decode cX6_isLoanQuestion 6 = .ok (.if_icmp .gt 5, 3) := by decide +kernel
theorem dX6_isLoanQuestion_9 : decode cX6_isLoanQuestion 9 = .ok (.iconst 1, 1) := by decide +kernel
theorem dX6_isLoanQuestion_10 : decode cX6_isLoanQuestion 10 = .ok (.ireturn, 1) := by decide +kernel
theorem dX6_isLoanQuestion_11 : decode cX6_isLoanQuestion 11 = .ok (.iload_n 0, 1) := by decide +kernel
theorem dX6_isLoanQuestion_12 : decode cX6_isLoanQuestion 12 = .ok (.bipush 10, 2) := by decide +kernel
theorem dX6_isLoanQuestion_14 : decode cX6_isLoanQuestion 14 = .ok (.if_icmp .lt 22, 3) := by decide +kernel
theorem dX6_isLoanQuestion_17 : decode cX6_isLoanQuestion 17 = .ok (.iload_n 0, 1) := by decide +kernel
theorem dX6_isLoanQuestion_18 : decode cX6_isLoanQuestion 18 = .ok (.bipush 40, 2) := by decide +kernel
theorem dX6_isLoanQuestion_20 : decode cX6_isLoanQuestion 20 = .ok (.if_icmp .ge 16, 3) := by decide +kernel
theorem dX6_isLoanQuestion_23 : decode cX6_isLoanQuestion 23 = .ok (.iload_n 0, 1) := by decide +kernel
theorem dX6_isLoanQuestion_24 : decode cX6_isLoanQuestion 24 = .ok (.bipush 10, 2) := by decide +kernel
theorem dX6_isLoanQuestion_26 : decode cX6_isLoanQuestion 26 = .ok (.irem, 1) := by decide +kernel
theorem dX6_isLoanQuestion_27 : decode cX6_isLoanQuestion 27 = .ok (.bipush 6, 2) := by decide +kernel
theorem dX6_isLoanQuestion_29 : decode cX6_isLoanQuestion 29 = .ok (.if_icmp .ge 7, 3) := by decide +kernel
theorem dX6_isLoanQuestion_32 : decode cX6_isLoanQuestion 32 = .ok (.iconst 1, 1) := by decide +kernel
theorem dX6_isLoanQuestion_33 : decode cX6_isLoanQuestion 33 = .ok (.goto 4, 3) := by decide +kernel
theorem dX6_isLoanQuestion_36 : decode cX6_isLoanQuestion 36 = .ok (.iconst 0, 1) := by decide +kernel
theorem dX6_isLoanQuestion_37 : decode cX6_isLoanQuestion 37 = .ok (.ireturn, 1) := by decide +kernel
theorem dX6_lastsOf_0 : decode cX6_lastsOf 0 = .ok (.iload_n 0, 1) := by decide +kernel
theorem dX6_lastsOf_1 : decode cX6_lastsOf 1 = .ok (.lookupswitch 37 #[(1, 33), (2, 27)], 27) := by decide +kernel
theorem dX6_lastsOf_28 : decode cX6_lastsOf 28 = .ok (.iconst 2, 1) := by decide +kernel
theorem dX6_lastsOf_29 : decode cX6_lastsOf 29 = .ok (.iload_n 1, 1) := by decide +kernel
theorem dX6_lastsOf_30 : decode cX6_lastsOf 30 = .ok (.iconst 1, 1) := by decide +kernel
theorem dX6_lastsOf_31 : decode cX6_lastsOf 31 = .ok (.iadd, 1) := by decide +kernel
theorem dX6_lastsOf_32 : decode cX6_lastsOf 32 = .ok (.imul, 1) := by decide +kernel
theorem dX6_lastsOf_33 : decode cX6_lastsOf 33 = .ok (.ireturn, 1) := by decide +kernel
theorem dX6_lastsOf_34 : decode cX6_lastsOf 34 = .ok (.iload_n 1, 1) := by decide +kernel
theorem dX6_lastsOf_35 : decode cX6_lastsOf 35 = .ok (.iconst 1, 1) := by decide +kernel
theorem dX6_lastsOf_36 : decode cX6_lastsOf 36 = .ok (.iadd, 1) := by decide +kernel
theorem dX6_lastsOf_37 : decode cX6_lastsOf 37 = .ok (.ireturn, 1) := by decide +kernel
theorem dX6_lastsOf_38 : decode cX6_lastsOf 38 = .ok (.iload_n 1, 1) := by decide +kernel
theorem dX6_lastsOf_39 : decode cX6_lastsOf 39 = .ok (.ireturn, 1) := by decide +kernel
theorem dX6_cutToLane_0 : decode cX6_cutToLane 0 = .ok (.iload_n 0, 1) := by decide +kernel
theorem dX6_cutToLane_1 : decode cX6_cutToLane 1 = .ok (.lookupswitch 33 #[(0, 27), (1, 30)], 27) := by decide +kernel
theorem dX6_cutToLane_28 : decode cX6_cutToLane 28 = .ok (.iload_n 1, 1) := by decide +kernel
theorem dX6_cutToLane_29 : decode cX6_cutToLane 29 = .ok (.i2b, 1) := by decide +kernel
theorem dX6_cutToLane_30 : decode cX6_cutToLane 30 = .ok (.ireturn, 1) := by decide +kernel
theorem dX6_cutToLane_31 : decode cX6_cutToLane 31 = .ok (.iload_n 1, 1) := by decide +kernel
theorem dX6_cutToLane_32 : decode cX6_cutToLane 32 = .ok (.i2s, 1) := by decide +kernel
theorem dX6_cutToLane_33 : decode cX6_cutToLane 33 = .ok (.ireturn, 1) := by decide +kernel
theorem dX6_cutToLane_34 : decode cX6_cutToLane 34 = .ok (.iload_n 1, 1) := by decide +kernel
theorem dX6_cutToLane_35 : decode cX6_cutToLane 35 = .ok (.ireturn, 1) := by decide +kernel
theorem dX6_firstFaultOfText_0 : decode cX6_firstFaultOfText 0 = .ok (.iconst 0, 1) := by decide +kernel
theorem dX6_firstFaultOfText_1 : decode cX6_firstFaultOfText 1 = .ok (.istore_n 3, 1) := by decide +kernel
theorem dX6_firstFaultOfText_2 : decode cX6_firstFaultOfText 2 = .ok (.iconst 0, 1) := by decide +kernel
theorem dX6_firstFaultOfText_3 : decode cX6_firstFaultOfText 3 = .ok (.istore 4, 2) := by decide +kernel
theorem dX6_firstFaultOfText_5 : decode cX6_firstFaultOfText 5 = .ok (.iload 4, 2) := by decide +kernel
theorem dX6_firstFaultOfText_7 : decode cX6_firstFaultOfText 7 = .ok (.iload_n 2, 1) := by decide +kernel
theorem dX6_firstFaultOfText_8 : decode cX6_firstFaultOfText 8 = .ok (.if_icmp .ge 37, 3) := by decide +kernel
theorem dX6_firstFaultOfText_11 : decode cX6_firstFaultOfText 11 = .ok (.aload_n 0, 1) := by decide +kernel
theorem dX6_firstFaultOfText_12 : decode cX6_firstFaultOfText 12 = .ok (.getfield 213, 3) := by decide +kernel
theorem dX6_firstFaultOfText_15 : decode cX6_firstFaultOfText 15 = .ok (.iload_n 1, 1) := by decide +kernel
theorem dX6_firstFaultOfText_16 : decode cX6_firstFaultOfText 16 = .ok (.iload 4, 2) := by decide +kernel
theorem dX6_firstFaultOfText_18 : decode cX6_firstFaultOfText 18 = .ok (.iadd, 1) := by decide +kernel
theorem dX6_firstFaultOfText_19 : decode cX6_firstFaultOfText 19 = .ok (.iaload, 1) := by decide +kernel
theorem dX6_firstFaultOfText_20 : decode cX6_firstFaultOfText 20 = .ok (.istore 5, 2) := by decide +kernel
theorem dX6_firstFaultOfText_22 : decode cX6_firstFaultOfText 22 = .ok (.iload 4, 2) := by decide +kernel
theorem dX6_firstFaultOfText_24 : decode cX6_firstFaultOfText 24 = .ok (.iload_n 3, 1) := by decide +kernel
theorem dX6_firstFaultOfText_25 : decode cX6_firstFaultOfText 25 = .ok (.iload 5, 2) := by decide +kernel
theorem dX6_firstFaultOfText_27 : decode cX6_firstFaultOfText 27 = .ok (.invokestatic 243, 3) := by decide +kernel
theorem dX6_firstFaultOfText_30 : decode cX6_firstFaultOfText 30 = .ok (.ifCond .ne 6, 3) := by decide +kernel
theorem dX6_firstFaultOfText_33 : decode cX6_firstFaultOfText 33 = .ok (.iload 4, 2) := by decide +kernel
theorem dX6_firstFaultOfText_35 : decode cX6_firstFaultOfText 35 = .ok (.ireturn, 1) := by decide +kernel
theorem dX6_firstFaultOfText_36 : decode cX6_firstFaultOfText 36 = .ok (.iload 5, 2) := by decide +kernel
theorem dX6_firstFaultOfText_38 : decode cX6_firstFaultOfText 38 = .ok (.istore_n 3, 1) := by decide +kernel
theorem dX6_firstFaultOfText_39 : decode cX6_firstFaultOfText 39 = .ok (.iinc 4 1, 3) := by decide +kernel
theorem dX6_firstFaultOfText_42 : decode cX6_firstFaultOfText 42 = .ok (.goto (-37), 3) := by decide +kernel
theorem dX6_firstFaultOfText_45 : decode cX6_firstFaultOfText 45 = .ok (.iload_n 2, 1) := by decide +kernel
theorem dX6_firstFaultOfText_46 : decode cX6_firstFaultOfText 46 = .ok (.bipush 6, 2) := by decide +kernel
theorem dX6_firstFaultOfText_48 : decode cX6_firstFaultOfText 48 = .ok (.irem, 1) := by decide +kernel
theorem dX6_firstFaultOfText_49 : decode cX6_firstFaultOfText 49 = .ok (.iconst 1, 1) := by decide +kernel
theorem dX6_firstFaultOfText_50 : decode cX6_firstFaultOfText 50 = .ok (.if_icmp .ne 13, 3) := by decide +kernel
theorem dX6_firstFaultOfText_53 : decode cX6_firstFaultOfText 53 = .ok (.iload_n 2, 1) := by decide +kernel
theorem dX6_firstFaultOfText_54 : decode cX6_firstFaultOfText 54 = .ok (.bipush 12, 2) := by decide +kernel
theorem dX6_firstFaultOfText_56 : decode cX6_firstFaultOfText 56 = .ok (.if_icmp .le 7, 3) := by decide +kernel
theorem dX6_firstFaultOfText_59 : decode cX6_firstFaultOfText 59 = .ok (.iconst 1, 1) := by decide +kernel
theorem dX6_firstFaultOfText_60 : decode cX6_firstFaultOfText 60 = .ok (.goto 4, 3) := by decide +kernel
theorem dX6_firstFaultOfText_63 : decode cX6_firstFaultOfText 63 = .ok (.iconst 0, 1) := by decide +kernel
theorem dX6_firstFaultOfText_64 : decode cX6_firstFaultOfText 64 = .ok (.istore 4, 2) := by decide +kernel
theorem dX6_firstFaultOfText_66 : decode cX6_firstFaultOfText 66 = .ok (.iload 4, 2) := by decide +kernel
theorem dX6_firstFaultOfText_68 : decode cX6_firstFaultOfText 68 = .ok (.ifCond .eq 8, 3) := by decide +kernel
theorem dX6_firstFaultOfText_71 : decode cX6_firstFaultOfText 71 = .ok (.bipush (-9), 2) := by decide +kernel
theorem dX6_firstFaultOfText_73 : decode cX6_firstFaultOfText 73 = .ok (.goto 4, 3) := by decide +kernel
theorem dX6_firstFaultOfText_76 : decode cX6_firstFaultOfText 76 = .ok (.iload_n 2, 1) := by decide +kernel
theorem dX6_firstFaultOfText_77 : decode cX6_firstFaultOfText 77 = .ok (.ireturn, 1) := by decide +kernel
theorem dX6_textGoesOn_0 : decode cX6_textGoesOn 0 = .ok (.iload_n 0, 1) := by decide +kernel
theorem dX6_textGoesOn_1 : decode cX6_textGoesOn 1 = .ok (.ifCond .ne 15, 3) := by decide +kernel
theorem dX6_textGoesOn_4 : decode cX6_textGoesOn 4 = .ok (.iload_n 2, 1) := by decide +kernel
theorem dX6_textGoesOn_5 : decode cX6_textGoesOn 5 = .ok (.bipush 107, 2) := by decide +kernel
theorem dX6_textGoesOn_7 : decode cX6_textGoesOn 7 = .ok (.if_icmp .ne 7, 3) := by decide +kernel
theorem dX6_textGoesOn_10 : decode cX6_textGoesOn 10 = .ok (.iconst 1, 1) := by decide +kernel
theorem dX6_textGoesOn_11 : decode cX6_textGoesOn 11 = .ok (.goto 4, 3) := by decide +kernel
theorem dX6_textGoesOn_14 : decode cX6_textGoesOn 14 = .ok (.iconst 0, 1) := by decide +kernel
theorem dX6_textGoesOn_15 : decode cX6_textGoesOn 15 = .ok (.ireturn, 1) := by decide +kernel
theorem dX6_textGoesOn_16 : decode cX6_textGoesOn 16 = .ok (.iload_n 0, 1) := by decide +kernel
theorem dX6_textGoesOn_17 : decode cX6_textGoesOn 17 = .ok (.bipush 36, 2) := by decide +kernel
theorem dX6_textGoesOn_19 : decode cX6_textGoesOn 19 = .ok (.if_icmp .le 5, 3) := by decide +kernel
theorem dX6_textGoesOn_22 : decode cX6_textGoesOn 22 = .ok (.iconst 0, 1) := by decide +kernel
theorem dX6_textGoesOn_23 : decode cX6_textGoesOn 23 = .ok (.ireturn, 1) := by decide +kernel
theorem dX6_textGoesOn_24 : decode cX6_textGoesOn 24 = .ok (.iload_n 0, 1) := by decide +kernel
theorem dX6_textGoesOn_25 : decode cX6_textGoesOn 25 = .ok (.iconst 1, 1) := by decide +kernel
theorem dX6_textGoesOn_26 : decode cX6_textGoesOn 26 = .ok (.isub, 1) := by decide +kernel
theorem dX6_textGoesOn_27 : decode cX6_textGoesOn 27 = .ok (.bipush 6, 2) := by decide +kernel
theorem dX6_textGoesOn_29 : decode cX6_textGoesOn 29 = .ok (.irem, 1) := by decide +kernel
theorem dX6_textGoesOn_30 : decode cX6_textGoesOn 30 = .ok (.tableswitch 135 0 4 #[34, 46, 70, 88, 117], 34) := by decide +kernel
theorem dX6_textGoesOn_64 : decode cX6_textGoesOn 64 = .ok (.iload_n 2, 1) := by decide +kernel
theorem dX6_textGoesOn_65 : decode cX6_textGoesOn 65 = .ok (.bipush 59, 2) := by decide +kernel
theorem dX6_textGoesOn_67 : decode cX6_textGoesOn 67 = .ok (.if_icmp .ne 7, 3) := by decide +kernel
theorem dX6_textGoesOn_70 : decode cX6_textGoesOn 70 = .ok (.iconst 1, 1) := by decide +kernel
theorem dX6_textGoesOn_71 : decode cX6_textGoesOn 71 = .ok (.goto 4, 3) := by decide +kernel
theorem dX6_textGoesOn_74 : decode cX6_textGoesOn 74 = .ok (.iconst 0, 1) := by decide +kernel
theorem dX6_textGoesOn_75 : decode cX6_textGoesOn 75 = .ok (.ireturn, 1) := by decide +kernel
theorem dX6_textGoesOn_76 : decode cX6_textGoesOn 76 = .ok (.iload_n 2, 1) := by decide +kernel
theorem dX6_textGoesOn_77 : decode cX6_textGoesOn 77 = .ok (.bipush 99, 2) := by decide +kernel
theorem dX6_textGoesOn_79 : decode cX6_textGoesOn 79 = .ok (.if_icmp .eq 15, 3) := by decide +kernel
theorem dX6_textGoesOn_82 : decode cX6_textGoesOn 82 = .ok (.iload_n 2, 1) := by decide +kernel
theorem dX6_textGoesOn_83 : decode cX6_textGoesOn 83 = .ok (.bipush 115, 2) := by decide +kernel
theorem dX6_textGoesOn_85 : decode cX6_textGoesOn 85 = .ok (.if_icmp .eq 9, 3) := by decide +kernel
theorem dX6_textGoesOn_88 : decode cX6_textGoesOn 88 = .ok (.iload_n 2, 1) := by decide +kernel
theorem dX6_textGoesOn_89 : decode cX6_textGoesOn 89 = .ok (.bipush 116, 2) := by decide +kernel
theorem dX6_textGoesOn_91 : decode cX6_textGoesOn 91 = .ok (.if_icmp .ne 7, 3) := by decide +kernel
theorem dX6_textGoesOn_94 : decode cX6_textGoesOn 94 = .ok (.iconst 1, 1) := by decide +kernel
theorem dX6_textGoesOn_95 : decode cX6_textGoesOn 95 = .ok (.goto 4, 3) := by decide +kernel
theorem dX6_textGoesOn_98 : decode cX6_textGoesOn 98 = .ok (.iconst 0, 1) := by decide +kernel
theorem dX6_textGoesOn_99 : decode cX6_textGoesOn 99 = .ok (.ireturn, 1) := by decide +kernel
theorem dX6_textGoesOn_100 : decode cX6_textGoesOn 100 = .ok (.iload_n 2, 1) := by decide +kernel
theorem dX6_textGoesOn_101 : decode cX6_textGoesOn 101 = .ok (.bipush 48, 2) := by decide +kernel
theorem dX6_textGoesOn_103 : decode cX6_textGoesOn 103 = .ok (.if_icmp .lt 13, 3) := by decide +kernel
theorem dX6_textGoesOn_106 : decode cX6_textGoesOn 106 = .ok (.iload_n 2, 1) := by decide +kernel
theorem dX6_textGoesOn_107 : decode cX6_textGoesOn 107 = .ok (.bipush 54, 2) := by decide +kernel
theorem dX6_textGoesOn_109 : decode cX6_textGoesOn 109 = .ok (.if_icmp .gt 7, 3) := by decide +kernel
theorem dX6_textGoesOn_112 : decode cX6_textGoesOn 112 = .ok (.iconst 1, 1) := by decide +kernel
theorem dX6_textGoesOn_113 : decode cX6_textGoesOn 113 = .ok (.goto 4, 3) := by decide +kernel
theorem dX6_textGoesOn_116 : decode cX6_textGoesOn 116 = .ok (.iconst 0, 1) := by decide +kernel
theorem dX6_textGoesOn_117 : decode cX6_textGoesOn 117 = .ok (.ireturn, 1) := by decide +kernel
theorem dX6_textGoesOn_118 : decode cX6_textGoesOn 118 = .ok (.iload_n 2, 1) := by decide +kernel
theorem dX6_textGoesOn_119 : decode cX6_textGoesOn 119 = .ok (.bipush 48, 2) := by decide +kernel
theorem dX6_textGoesOn_121 : decode cX6_textGoesOn 121 = .ok (.if_icmp .lt 24, 3) := by decide +kernel
theorem dX6_textGoesOn_124 : decode cX6_textGoesOn 124 = .ok (.iload_n 2, 1) := by decide +kernel
theorem dX6_textGoesOn_125 : decode cX6_textGoesOn 125 = .ok (.iload_n 1, 1) := by decide +kernel
theorem dX6_textGoesOn_126 : decode cX6_textGoesOn 126 = .ok (.bipush 54, 2) := by decide +kernel
theorem dX6_textGoesOn_128 : decode cX6_textGoesOn 128 = .ok (.if_icmp .ne 8, 3) := by decide +kernel
theorem dX6_textGoesOn_131 : decode cX6_textGoesOn 131 = .ok (.bipush 51, 2) := by decide +kernel
theorem dX6_textGoesOn_133 : decode cX6_textGoesOn 133 = .ok (.goto 5, 3) := by decide +kernel
theorem dX6_textGoesOn_136 : decode cX6_textGoesOn 136 = .ok (.bipush 57, 2) := by decide +kernel
theorem dX6_textGoesOn_138 : decode cX6_textGoesOn 138 = .ok (.if_icmp .gt 7, 3) := by decide +kernel
theorem dX6_textGoesOn_141 : decode cX6_textGoesOn 141 = .ok (.iconst 1, 1) := by decide +kernel
theorem dX6_textGoesOn_142 : decode cX6_textGoesOn 142 = .ok (.goto 4, 3) := by decide +kernel
theorem dX6_textGoesOn_145 : decode cX6_textGoesOn 145 = .ok (.iconst 0, 1) := by decide +kernel
theorem dX6_textGoesOn_146 : decode cX6_textGoesOn 146 = .ok (.ireturn, 1) := by decide +kernel
theorem dX6_textGoesOn_147 : decode cX6_textGoesOn 147 = .ok (.iload_n 2, 1) := by decide +kernel
theorem dX6_textGoesOn_148 : decode cX6_textGoesOn 148 = .ok (.bipush 48, 2) := by decide +kernel
theorem dX6_textGoesOn_150 : decode cX6_textGoesOn 150 = .ok (.if_icmp .lt 13, 3) := by decide +kernel
theorem dX6_textGoesOn_153 : decode cX6_textGoesOn 153 = .ok (.iload_n 2, 1) := by decide +kernel
theorem dX6_textGoesOn_154 : decode cX6_textGoesOn 154 = .ok (.bipush 54, 2) := by decide +kernel
theorem dX6_textGoesOn_156 : decode cX6_textGoesOn 156 = .ok (.if_icmp .gt 7, 3) := by decide +kernel
theorem dX6_textGoesOn_159 : decode cX6_textGoesOn 159 = .ok (.iconst 1, 1) := by decide +kernel
theorem dX6_textGoesOn_160 : decode cX6_textGoesOn 160 = .ok (.goto 4, 3) := by decide +kernel
theorem dX6_textGoesOn_163 : decode cX6_textGoesOn 163 = .ok (.iconst 0, 1) := by decide +kernel
theorem dX6_textGoesOn_164 : decode cX6_textGoesOn 164 = .ok (.ireturn, 1) := by decide +kernel
theorem dX6_textGoesOn_165 : decode cX6_textGoesOn 165 = .ok (.iload_n 2, 1) := by decide +kernel
theorem dX6_textGoesOn_166 : decode cX6_textGoesOn 166 = .ok (.bipush 49, 2) := by decide +kernel
theorem dX6_textGoesOn_168 : decode cX6_textGoesOn 168 = .ok (.if_icmp .lt 13, 3) := by decide +kernel
theorem dX6_textGoesOn_171 : decode cX6_textGoesOn 171 = .ok (.iload_n 2, 1) := by decide +kernel
theorem dX6_textGoesOn_172 : decode cX6_textGoesOn 172 = .ok (.bipush 57, 2) := by decide +kernel
theorem dX6_textGoesOn_174 : decode cX6_textGoesOn 174 = .ok (.if_icmp .gt 7, 3) := by decide +kernel
theorem dX6_textGoesOn_177 : decode cX6_textGoesOn 177 = .ok (.iconst 1, 1) := by decide +kernel
theorem dX6_textGoesOn_178 : decode cX6_textGoesOn 178 = .ok (.goto 4, 3) := by decide +kernel
theorem dX6_textGoesOn_181 : decode cX6_textGoesOn 181 = .ok (.iconst 0, 1) := by decide +kernel
theorem dX6_textGoesOn_182 : decode cX6_textGoesOn 182 = .ok (.ireturn, 1) := by decide +kernel
theorem dX7_init_0 : decode cX7_init 0 = .ok (.aload_n 0, 1) := by decide +kernel
theorem dX7_init_1 : decode cX7_init 1 = .ok (.invokespecial 1, 3) := by decide +kernel
theorem dX7_init_4 : decode cX7_init 4 = .ok (.aload_n 0, 1) := by decide +kernel
theorem dX7_init_5 : decode cX7_init 5 = .ok (.bipush 6, 2) := by decide +kernel
theorem dX7_init_7 : decode cX7_init 7 = .ok (.newarray .int, 2) := by decide +kernel
theorem dX7_init_9 : decode cX7_init 9 = .ok (.putfield 7, 3) := by decide +kernel
theorem dX7_init_12 : decode cX7_init 12 = .ok (.aload_n 0, 1) := by decide +kernel
theorem dX7_init_13 : decode cX7_init 13 = .ok (.bipush 6, 2) := by decide +kernel
theorem dX7_init_15 : decode cX7_init 15 = .ok (.newarray .int, 2) := by decide +kernel
theorem dX7_init_17 : decode cX7_init 17 = .ok (.putfield 13, 3) := by decide +kernel
theorem dX7_init_20 : decode cX7_init 20 = .ok (.aload_n 0, 1) := by decide +kernel
theorem dX7_init_21 : decode cX7_init 21 = .ok (.bipush 6, 2) := by decide +kernel
theorem dX7_init_23 : decode cX7_init 23 = .ok (.newarray .int, 2) := by decide +kernel
theorem dX7_init_25 : decode cX7_init 25 = .ok (.putfield 16, 3) := by decide +kernel
theorem dX7_init_28 : decode cX7_init 28 = .ok (.aload_n 0, 1) := by decide +kernel
theorem dX7_init_29 : decode cX7_init 29 = .ok (.bipush 6, 2) := by decide +kernel
theorem dX7_init_31 : decode cX7_init 31 = .ok (.newarray .int, 2) := by decide +kernel
theorem dX7_init_33 : decode cX7_init 33 = .ok (.putfield 19, 3) := by decide +kernel
theorem dX7_init_36 : decode cX7_init 36 = .ok (.aload_n 0, 1) := by decide +kernel
theorem dX7_init_37 : decode cX7_init 37 = .ok (.bipush 6, 2) := by decide +kernel
theorem dX7_init_39 : decode cX7_init 39 = .ok (.newarray .int, 2) := by decide +kernel
theorem dX7_init_41 : decode cX7_init 41 = .ok (.putfield 22, 3) := by decide +kernel
theorem dX7_init_44 : decode cX7_init 44 = .ok (.aload_n 0, 1) := by decide +kernel
theorem dX7_init_45 : decode cX7_init 45 = .ok (.bipush 6, 2) := by decide +kernel
theorem dX7_init_47 : decode cX7_init 47 = .ok (.newarray .int, 2) := by decide +kernel
theorem dX7_init_49 : decode cX7_init 49 = .ok (.putfield 25, 3) := by decide +kernel
theorem dX7_init_52 : decode cX7_init 52 = .ok (.aload_n 0, 1) := by decide +kernel
theorem dX7_init_53 : decode cX7_init 53 = .ok (.bipush 6, 2) := by decide +kernel
theorem dX7_init_55 : decode cX7_init 55 = .ok (.newarray .int, 2) := by decide +kernel
theorem dX7_init_57 : decode cX7_init 57 = .ok (.putfield 28, 3) := by decide +kernel
theorem dX7_init_60 : decode cX7_init 60 = .ok (.aload_n 0, 1) := by decide +kernel
theorem dX7_init_61 : decode cX7_init 61 = .ok (.bipush 6, 2) := by decide +kernel
theorem dX7_init_63 : decode cX7_init 63 = .ok (.newarray .int, 2) := by decide +kernel
theorem dX7_init_65 : decode cX7_init 65 = .ok (.putfield 31, 3) := by decide +kernel
theorem dX7_init_68 : decode cX7_init 68 = .ok (.aload_n 0, 1) := by decide +kernel
theorem dX7_init_69 : decode cX7_init 69 = .ok (.bipush 6, 2) := by decide +kernel
theorem dX7_init_71 : decode cX7_init 71 = .ok (.newarray .int, 2) := by decide +kernel
theorem dX7_init_73 : decode cX7_init 73 = .ok (.putfield 34, 3) := by decide +kernel
theorem dX7_init_76 : decode cX7_init 76 = .ok (.aload_n 0, 1) := by decide +kernel
theorem dX7_init_77 : decode cX7_init 77 = .ok (.bipush 6, 2) := by decide +kernel
theorem dX7_init_79 : decode cX7_init 79 = .ok (.newarray .int, 2) := by decide +kernel
theorem dX7_init_81 : decode cX7_init 81 = .ok (.putfield 37, 3) := by decide +kernel
theorem dX7_init_84 : decode cX7_init 84 = .ok (.aload_n 0, 1) := by decide +kernel
theorem dX7_init_85 : decode cX7_init 85 = .ok (.bipush 6, 2) := by decide +kernel
theorem dX7_init_87 : decode cX7_init 87 = .ok (.newarray .int, 2) := by decide +kernel
theorem dX7_init_89 : decode cX7_init 89 = .ok (.putfield 40, 3) := by decide +kernel
theorem dX7_init_92 : decode cX7_init 92 = .ok (.aload_n 0, 1) := by decide +kernel
theorem dX7_init_93 : decode cX7_init 93 = .ok (.bipush 6, 2) := by decide +kernel
theorem dX7_init_95 : decode cX7_init 95 = .ok (.newarray .int, 2) := by decide +kernel
theorem dX7_init_97 : decode cX7_init 97 = .ok (.putfield 43, 3) := by decide +kernel
theorem dX7_init_100 : decode cX7_init 100 = .ok (.aload_n 0, 1) := by decide +kernel
theorem dX7_init_101 : decode cX7_init 101 = .ok (.bipush 6, 2) := by decide +kernel
theorem dX7_init_103 : decode cX7_init 103 = .ok (.newarray .int, 2) := by decide +kernel
theorem dX7_init_105 : decode cX7_init 105 = .ok (.putfield 46, 3) := by decide +kernel
theorem dX7_init_108 : decode cX7_init 108 = .ok (.aload_n 0, 1) := by decide +kernel
theorem dX7_init_109 : decode cX7_init 109 = .ok (.iconst 3, 1) := by decide +kernel
theorem dX7_init_110 : decode cX7_init 110 = .ok (.newarray .int, 2) := by decide +kernel
theorem dX7_init_112 : decode cX7_init 112 = .ok (.putfield 49, 3) := by decide +kernel
theorem dX7_init_115 : decode cX7_init 115 = .ok (.aload_n 0, 1) := by decide +kernel
theorem dX7_init_116 : decode cX7_init 116 = .ok (.bipush 6, 2) := by decide +kernel
theorem dX7_init_118 : decode cX7_init 118 = .ok (.newarray .int, 2) := by decide +kernel
theorem dX7_init_120 : decode cX7_init 120 = .ok (.putfield 52, 3) := by decide +kernel
theorem dX7_init_123 : decode cX7_init 123 = .ok (.aload_n 0, 1) := by decide +kernel
theorem dX7_init_124 : decode cX7_init 124 = .ok (.bipush 8, 2) := by decide +kernel
theorem dX7_init_126 : decode cX7_init 126 = .ok (.newarray .int, 2) := by decide +kernel
theorem dX7_init_128 : decode cX7_init 128 = .ok (.putfield 55, 3) := by decide +kernel
theorem dX7_init_131 : decode cX7_init 131 = .ok (.aload_n 0, 1) := by decide +kernel
theorem dX7_init_132 : decode cX7_init 132 = .ok (.bipush 8, 2) := by decide +kernel
theorem dX7_init_134 : decode cX7_init 134 = .ok (.newarray .int, 2) := by decide +kernel
theorem dX7_init_136 : decode cX7_init 136 = .ok (.putfield 58, 3) := by decide +kernel
theorem dX7_init_139 : decode cX7_init 139 = .ok (.aload_n 0, 1) := by decide +kernel
theorem dX7_init_140 : decode cX7_init 140 = .ok (.bipush 8, 2) := by decide +kernel
theorem dX7_init_142 : decode cX7_init 142 = .ok (.newarray .boolean, 2) := by decide +kernel
theorem dX7_init_144 : decode cX7_init 144 = .ok (.putfield 61, 3) := by decide +kernel
theorem dX7_init_147 : decode cX7_init 147 = .ok (.aload_n 0, 1) := by decide +kernel
theorem dX7_init_148 : decode cX7_init 148 = .ok (.iconst 4, 1) := by decide +kernel
theorem dX7_init_149 : decode cX7_init 149 = .ok (.newarray .int, 2) := by decide +kernel
theorem dX7_init_151 : decode cX7_init 151 = .ok (.putfield 65, 3) := by decide +kernel
theorem dX7_init_154 : decode cX7_init 154 = .ok (.aload_n 0, 1) := by decide +kernel
theorem dX7_init_155 : decode cX7_init 155 = .ok (.iconst 4, 1) := by decide +kernel
theorem dX7_init_156 : decode cX7_init 156 = .ok (.newarray .int, 2) := by decide +kernel
theorem dX7_init_158 : decode cX7_init 158 = .ok (.putfield 68, 3) := by decide +kernel
theorem dX7_init_161 : decode cX7_init 161 = .ok (.aload_n 0, 1) := by decide +kernel
theorem dX7_init_162 : decode cX7_init 162 = .ok (.sipush 240, 3) := by decide +kernel
theorem dX7_init_165 : decode cX7_init 165 = .ok (.newarray .int, 2) := by decide +kernel
theorem dX7_init_167 : decode cX7_init 167 = .ok (.putfield 71, 3) := by decide +kernel
theorem dX7_init_170 : decode cX7_init 170 = .ok (.aload_n 0, 1) := by decide +kernel
theorem dX7_init_171 : decode cX7_init 171 = .ok (.bipush 60, 2) := by decide +kernel
theorem dX7_init_173 : decode cX7_init 173 = .ok (.newarray .int, 2) := by decide +kernel
theorem dX7_init_175 : decode cX7_init 175 = .ok (.putfield 74, 3) := by decide +kernel
theorem dX7_init_178 : decode cX7_init 178 = .ok (.iconst 0, 1) := by decide +kernel
theorem dX7_init_179 : decode cX7_init 179 = .ok (.istore_n 1, 1) := by decide +kernel
theorem dX7_init_180 : decode cX7_init 180 = .ok (.iload_n 1, 1) := by decide +kernel
theorem dX7_init_181 : decode cX7_init 181 = .ok (.iconst 4, 1) := by decide +kernel
theorem dX7_init_182 : decode cX7_init 182 = .ok (.if_icmp .ge 16, 3) := by decide +kernel
theorem dX7_init_185 : decode cX7_init 185 = .ok (.aload_n 0, 1) := by decide +kernel
theorem dX7_init_186 : decode cX7_init 186 = .ok (.getfield 65, 3) := by decide +kernel
theorem dX7_init_189 : decode cX7_init 189 = .ok (.iload_n 1, 1) := by decide +kernel
theorem dX7_init_190 : decode cX7_init 190 = .ok (.iconst (-1), 1) := by decide +kernel
theorem dX7_init_191 : decode cX7_init 191 = .ok (.iastore, 1) := by decide +kernel
theorem dX7_init_192 : decode cX7_init 192 = .ok (.iinc 1 1, 3) := by decide +kernel
theorem dX7_init_195 : decode cX7_init 195 = .ok (.goto (-15), 3) := by decide +kernel
theorem dX7_init_198 : decode cX7_init 198 = .ok (.return_, 1) := by decide +kernel
theorem dX7_in_0 : decode cX7_in 0 = .ok (.lload_n 0, 1) := by decide +kernel
theorem dX7_in_1 : decode cX7_in 1 = .ok (.lload_n 2, 1) := by decide +kernel
theorem dX7_in_2 : decode cX7_in 2 = .ok (.lcmp, 1) := by decide +kernel
theorem dX7_in_3 : decode cX7_in 3 = .ok (.ifCond .lt 14, 3) := by decide +kernel
theorem dX7_in_6 : decode cX7_in 6 = .ok (.lload_n 0, 1) := by decide +kernel
theorem dX7_in_7 : decode cX7_in 7 = .ok (.lload 4, 2) := by decide +kernel
theorem dX7_in_9 : decode cX7_in 9 = .ok (.lcmp, 1) := by decide +kernel
theorem dX7_in_10 : decode cX7_in 10 = .ok (.ifCond .gt 7, 3) := by decide +kernel
theorem dX7_in_13 : decode cX7_in 13 = .ok (.iconst 1, 1) := by decide +kernel
theorem dX7_in_14 : decode cX7_in 14 = .ok (.goto 4, 3) := by decide +kernel
theorem dX7_in_17 : decode cX7_in 17 = .ok (.iconst 0, 1) := by decide +kernel
theorem dX7_in_18 : decode cX7_in 18 = .ok (.ireturn, 1) := by decide +kernel
theorem dX7_lost_0 : decode cX7_lost 0 = .ok (.ldc2_w 77, 3) := by decide +kernel
theorem dX7_lost_3 : decode cX7_lost 3 = .ok (.lreturn, 1) := by decide +kernel
theorem dX7_isIn_0 : decode cX7_isIn 0 = .ok (.iload_n 0, 1) := by decide +kernel
theorem dX7_isIn_1 : decode cX7_isIn 1 = .ok (.iload_n 1, 1) := by decide +kernel
theorem dX7_isIn_2 : decode cX7_isIn 2 = .ok (.ishr, 1) := by decide +kernel
theorem dX7_isIn_3 : decode cX7_isIn 3 = .ok (.iconst 1, 1) := by decide +kernel
theorem dX7_isIn_4 : decode cX7_isIn 4 = .ok (.iand, 1) := by decide +kernel
theorem dX7_isIn_5 : decode cX7_isIn 5 = .ok (.iconst 1, 1) := by decide +kernel
theorem dX7_isIn_6 : decode cX7_isIn 6 = .ok (.if_icmp .ne 7, 3) := by decide +kernel
theorem dX7_isIn_9 : decode cX7_isIn 9 = .ok (.iconst 1, 1) := by decide +kernel
theorem dX7_isIn_10 : decode cX7_isIn 10 = .ok (.goto 4, 3) := by decide +kernel
theorem dX7_isIn_13 : decode cX7_isIn 13 = .ok (.iconst 0, 1) := by decide +kernel
theorem dX7_isIn_14 : decode cX7_isIn 14 = .ok (.ireturn, 1) := by decide +kernel
theorem dX7_refused_0 : decode cX7_refused 0 = .ok (.aload_n 0, 1) := by decide +kernel
theorem dX7_refused_1 : decode cX7_refused 1 = .ok (.iconst 0, 1) := by decide +kernel
theorem dX7_refused_2 : decode cX7_refused 2 = .ok (.putfield 79, 3) := by decide +kernel
theorem dX7_refused_5 : decode cX7_refused 5 = .ok (.iload_n 1, 1) := by decide +kernel
theorem dX7_refused_6 : decode cX7_refused 6 = .ok (.ireturn, 1) := by decide +kernel
theorem dX7_failed_0 : decode cX7_failed 0 = .ok (.aload_n 0, 1) := by decide +kernel
theorem dX7_failed_1 : decode cX7_failed 1 = .ok (.iload_n 1, 1) := by decide +kernel
theorem dX7_failed_2 : decode cX7_failed 2 = .ok (.putfield 79, 3) := by decide +kernel
theorem dX7_failed_5 : decode cX7_failed 5 = .ok (.bipush (-10), 2) := by decide +kernel
theorem dX7_failed_7 : decode cX7_failed 7 = .ok (.iload_n 1, 1) := by decide +kernel
theorem dX7_failed_8 : decode cX7_failed 8 = .ok (.isub, 1) := by decide +kernel
theorem dX7_failed_9 : decode cX7_failed 9 = .ok (.ireturn, 1) := by decide +kernel
theorem dX7_failedLong_0 : decode cX7_failedLong 0 = .ok (.aload_n 0, 1) := by decide +kernel
theorem dX7_failedLong_1 : decode cX7_failedLong 1 = .ok (.iload_n 1, 1) := by decide +kernel
theorem dX7_failedLong_2 : decode cX7_failedLong 2 = .ok (.putfield 79, 3) := by decide +kernel
theorem dX7_failedLong_5 : decode cX7_failedLong 5 = .ok (.invokestatic 83, 3) := by decide +kernel
theorem dX7_failedLong_8 : decode cX7_failedLong 8 = .ok (.lreturn, 1) := by decide +kernel
theorem dX7_noPerson_0 : decode cX7_noPerson 0 = .ok (.iload_n 1, 1) := by decide +kernel
theorem dX7_noPerson_1 : decode cX7_noPerson 1 = .ok (.i2l, 1) := by decide +kernel
theorem dX7_noPerson_2 : decode cX7_noPerson 2 = .ok (.lconst 0, 1) := by decide +kernel
theorem dX7_noPerson_3 : decode cX7_noPerson 3 = .ok (.aload_n 0, 1) := by decide +kernel
theorem dX7_noPerson_4 : decode cX7_noPerson 4 = .ok (.getfield 87, 3) := by decide +kernel
theorem dX7_noPerson_7 : decode cX7_noPerson 7 = .ok (.i2l, 1) := by decide +kernel
theorem dX7_noPerson_8 : decode cX7_noPerson 8 = .ok (.lconst 1, 1) := by decide +kernel
theorem dX7_noPerson_9 : decode cX7_noPerson 9 = .ok (.lsub, 1) := by decide +kernel
theorem dX7_noPerson_10 : decode cX7_noPerson 10 = .ok (.invokestatic 90, 3) := by decide +kernel
theorem dX7_noPerson_13 : decode cX7_noPerson 13 = .ok (.ifCond .ne 7, 3) := by decide +kernel
theorem dX7_noPerson_16 : decode cX7_noPerson 16 = .ok (.iconst 1, 1) := by decide +kernel
theorem dX7_noPerson_17 : decode cX7_noPerson 17 = .ok (.goto 4, 3) := by decide +kernel
theorem dX7_noPerson_20 : decode cX7_noPerson 20 = .ok (.iconst 0, 1) := by decide +kernel
theorem dX7_noPerson_21 : decode cX7_noPerson 21 = .ok (.ireturn, 1) := by decide +kernel
theorem dX7_codeAt_0 : decode cX7_codeAt 0 = .ok (.aload_n 0, 1) := by decide +kernel
theorem dX7_codeAt_1 : decode cX7_codeAt 1 = .ok (.getfield 94, 3) := by decide +kernel
theorem dX7_codeAt_4 : decode cX7_codeAt 4 = .ok (.iload_n 2, 1) := by decide +kernel
theorem dX7_codeAt_5 : decode cX7_codeAt 5 = .ok (.if_icmp .ge 17, 3) := by decide +kernel
theorem dX7_codeAt_8 : decode cX7_codeAt 8 = .ok (.aload_n 0, 1) := by decide +kernel
theorem dX7_codeAt_9 : decode cX7_codeAt 9 = .ok (.getfield 71, 3) := by decide +kernel
theorem dX7_codeAt_12 : decode cX7_codeAt 12 = .ok (.iload_n 1, 1) := by decide +kernel
theorem dX7_codeAt_13 : decode cX7_codeAt 13 = .ok (.aload_n 0, 1) := by decide +kernel
theorem dX7_codeAt_14 : decode cX7_codeAt 14 = .ok (.getfield 94, 3) := by decide +kernel
theorem dX7_codeAt_17 : decode cX7_codeAt 17 = .ok (.iadd, 1) := by decide +kernel
theorem dX7_codeAt_18 : decode cX7_codeAt 18 = .ok (.iaload, 1) := by decide +kernel
theorem dX7_codeAt_19 : decode cX7_codeAt 19 = .ok (.goto 5, 3) := by decide +kernel
theorem dX7_codeAt_22 : decode cX7_codeAt 22 = .ok (.bipush (-9), 2) := by decide +kernel
theorem dX7_codeAt_24 : decode cX7_codeAt 24 = .ok (.ireturn, 1) := by decide +kernel
theorem dX7_figure_0 : decode cX7_figure 0 = .ok (.aload_n 0, 1) := by decide +kernel
theorem dX7_figure_1 : decode cX7_figure 1 = .ok (.iload_n 1, 1) := by decide +kernel
theorem dX7_figure_2 : decode cX7_figure 2 = .ok (.iload_n 2, 1) := by decide +kernel
theorem dX7_figure_3 : decode cX7_figure 3 = .ok (.invokevirtual 97, 3) := by decide +kernel
theorem dX7_figure_6 : decode cX7_figure 6 = .ok (.bipush 48, 2) := by decide +kernel
theorem dX7_figure_8 : decode cX7_figure 8 = .ok (.isub, 1) := by decide +kernel
theorem dX7_figure_9 : decode cX7_figure 9 = .ok (.istore 5, 2) := by decide +kernel
theorem dX7_figure_11 : decode cX7_figure 11 = .ok (.iload 5, 2) := by decide +kernel
theorem dX7_figure_13 : decode cX7_figure 13 = .ok (.i2l, 1) := by decide +kernel
theorem dX7_figure_14 : decode cX7_figure 14 = .ok (.iload_n 3, 1) := by decide +kernel
theorem dX7_figure_15 : decode cX7_figure 15 = .ok (.i2l, 1) := by decide +kernel
theorem dX7_figure_16 : decode cX7_figure 16 = .ok (.iload 4, 2) := by decide +kernel
theorem dX7_figure_18 : decode cX7_figure 18 = .ok (.i2l, 1) := by decide +kernel
theorem dX7_figure_19 : decode cX7_figure 19 = .ok (.invokestatic 90, 3) := by decide +kernel
theorem dX7_figure_22 : decode cX7_figure 22 = .ok (.istore 6, 2) := by decide +kernel
theorem dX7_figure_24 : decode cX7_figure 24 = .ok (.aload_n 0, 1) := by decide +kernel
theorem dX7_figure_25 : decode cX7_figure 25 = .ok (.dup, 1) := by decide +kernel
theorem dX7_figure_26 : decode cX7_figure 26 = .ok (.getfield 94, 3) := by decide +kernel
theorem dX7_figure_29 : decode cX7_figure 29 = .ok (.iload 6, 2) := by decide +kernel
theorem dX7_figure_31 : decode cX7_figure 31 = .ok (.ifCond .eq 7, 3) := by decide +kernel
theorem dX7_figure_34 : decode cX7_figure 34 = .ok (.iconst 1, 1) := by decide +kernel
theorem dX7_figure_35 : decode cX7_figure 35 = .ok (.goto 4, 3) := by decide +kernel
theorem dX7_figure_38 : decode cX7_figure 38 = .ok (.iconst 0, 1) := by decide +kernel
theorem dX7_figure_39 : decode cX7_figure 39 = .ok (.iadd, 1) := by decide +kernel
theorem dX7_figure_40 : decode cX7_figure 40 = .ok (.putfield 94, 3) := by decide +kernel
theorem dX7_figure_43 : decode cX7_figure 43 = .ok (.iload 6, 2) := by decide +kernel
theorem dX7_figure_45 : decode cX7_figure 45 = .ok (.ifCond .eq 8, 3) := by decide +kernel
theorem dX7_figure_48 : decode cX7_figure 48 = .ok (.iload 5, 2) := by decide +kernel
theorem dX7_figure_50 : decode cX7_figure 50 = .ok (.goto 5, 3) := by decide +kernel
theorem dX7_figure_53 : decode cX7_figure 53 = .ok (.bipush (-9), 2) := by decide +kernel
theorem dX7_figure_55 : decode cX7_figure 55 = .ok (.ireturn, 1) := by decide +kernel
theorem dX7_readsPerson_0 : decode cX7_readsPerson 0 = .ok (.aload_n 0, 1) := by decide +kernel
theorem dX7_readsPerson_1 : decode cX7_readsPerson 1 = .ok (.getfield 101, 3) := by decide +kernel
theorem dX7_readsPerson_4 : decode cX7_readsPerson 4 = .ok (.bipush 6, 2) := by decide +kernel
theorem dX7_readsPerson_6 : decode cX7_readsPerson 6 = .ok (.if_icmp .eq 14, 3) := by decide +kernel
theorem dX7_readsPerson_9 : decode cX7_readsPerson 9 = .ok (.aload_n 0, 1) := by decide +kernel
theorem dX7_readsPerson_10 : decode cX7_readsPerson 10 = .ok (.iload_n 1, 1) := by decide +kernel
theorem dX7_readsPerson_11 : decode cX7_readsPerson 11 = .ok (.iload_n 2, 1) := by decide +kernel
theorem dX7_readsPerson_12 : decode cX7_readsPerson 12 = .ok (.invokevirtual 97, 3) := by decide +kernel
theorem dX7_readsPerson_15 : decode cX7_readsPerson 15 = .ok (.bipush 59, 2) := by decide +kernel
theorem dX7_readsPerson_17 : decode cX7_readsPerson 17 = .ok (.if_icmp .eq 5, 3) := by decide +kernel
theorem dX7_readsPerson_20 : decode cX7_readsPerson 20 = .ok (.iconst 0, 1) := by decide +kernel
theorem dX7_readsPerson_21 : decode cX7_readsPerson 21 = .ok (.ireturn, 1) := by decide +kernel
theorem dX7_readsPerson_22 : decode cX7_readsPerson 22 = .ok (.aload_n 0, 1) := by decide +kernel
theorem dX7_readsPerson_23 : decode cX7_readsPerson 23 = .ok (.dup, 1) := by decide +kernel
theorem dX7_readsPerson_24 : decode cX7_readsPerson 24 = .ok (.getfield 94, 3) := by decide +kernel
theorem dX7_readsPerson_27 : decode cX7_readsPerson 27 = .ok (.iconst 1, 1) := by decide +kernel
theorem dX7_readsPerson_28 : decode cX7_readsPerson 28 = .ok (.iadd, 1) := by decide +kernel
theorem dX7_readsPerson_29 : decode cX7_readsPerson 29 = .ok (.putfield 94, 3) := by decide +kernel
theorem dX7_readsPerson_32 : decode cX7_readsPerson 32 = .ok (.aload_n 0, 1) := by decide +kernel
theorem dX7_readsPerson_33 : decode cX7_readsPerson 33 = .ok (.iload_n 1, 1) := by decide +kernel
theorem dX7_readsPerson_34 : decode cX7_readsPerson 34 = .ok (.iload_n 2, 1) := by decide +kernel
theorem dX7_readsPerson_35 : decode cX7_readsPerson 35 = .ok (.invokevirtual 97, 3) := by decide +kernel
theorem dX7_readsPerson_38 : decode cX7_readsPerson 38 = .ok (.istore_n 3, 1) := by decide +kernel
theorem dX7_readsPerson_39 : decode cX7_readsPerson 39 = .ok (.iload_n 3, 1) := by decide +kernel
theorem dX7_readsPerson_40 : decode cX7_readsPerson 40 = .ok (.bipush 99, 2) := by decide +kernel
theorem dX7_readsPerson_42 : decode cX7_readsPerson 42 = .ok (.if_icmp .eq 17, 3) := by decide +kernel
theorem dX7_readsPerson_45 : decode cX7_readsPerson 45 = .ok (.iload_n 3, 1) := by decide +kernel
theorem dX7_readsPerson_46 : decode cX7_readsPerson 46 = .ok (.bipush 115, 2) := by decide +kernel
theorem dX7_readsPerson_48 : decode cX7_readsPerson 48 = .ok (.if_icmp .eq 11, 3) := by decide +kernel
theorem dX7_readsPerson_51 : decode cX7_readsPerson 51 = .ok (.iload_n 3, 1) := by decide +kernel
theorem dX7_readsPerson_52 : decode cX7_readsPerson 52 = .ok (.bipush 116, 2) := by decide +kernel
theorem dX7_readsPerson_54 : decode cX7_readsPerson 54 = .ok (.if_icmp .eq 5, 3) := by decide +kernel
theorem dX7_readsPerson_57 : decode cX7_readsPerson 57 = .ok (.iconst 0, 1) := by decide +kernel
theorem dX7_readsPerson_58 : decode cX7_readsPerson 58 = .ok (.ireturn, 1) := by decide +kernel
theorem dX7_readsPerson_59 : decode cX7_readsPerson 59 = .ok (.aload_n 0, 1) := by decide +kernel
theorem dX7_readsPerson_60 : decode cX7_readsPerson 60 = .ok (.dup, 1) := by decide +kernel
theorem dX7_readsPerson_61 : decode cX7_readsPerson 61 = .ok (.getfield 94, 3) := by decide +kernel
theorem dX7_readsPerson_64 : decode cX7_readsPerson 64 = .ok (.iconst 1, 1) := by decide +kernel
theorem dX7_readsPerson_65 : decode cX7_readsPerson 65 = .ok (.iadd, 1) := by decide +kernel
theorem dX7_readsPerson_66 : decode cX7_readsPerson 66 = .ok (.putfield 94, 3) := by decide +kernel
theorem dX7_readsPerson_69 : decode cX7_readsPerson 69 = .ok (.aload_n 0, 1) := by decide +kernel
theorem dX7_readsPerson_70 : decode cX7_readsPerson 70 = .ok (.iload_n 1, 1) := by decide +kernel
theorem dX7_readsPerson_71 : decode cX7_readsPerson 71 = .ok (.iload_n 2, 1) := by decide +kernel
theorem dX7_readsPerson_72 : decode cX7_readsPerson 72 = .ok (.iconst 0, 1) := by decide +kernel
theorem dX7_readsPerson_73 : decode cX7_readsPerson 73 = .ok (.bipush 6, 2) := by decide +kernel
theorem dX7_readsPerson_75 : decode cX7_readsPerson 75 = .ok (.invokevirtual 104, 3) := by decide +kernel
theorem dX7_readsPerson_78 : decode cX7_readsPerson 78 = .ok (.istore 4, 2) := by decide +kernel
theorem dX7_readsPerson_80 : decode cX7_readsPerson 80 = .ok (.iload 4, 2) := by decide +kernel
theorem dX7_readsPerson_82 : decode cX7_readsPerson 82 = .ok (.ifCond .ge 8, 3) := by decide +kernel
theorem dX7_readsPerson_85 : decode cX7_readsPerson 85 = .ok (.bipush (-9), 2) := by decide +kernel
theorem dX7_readsPerson_87 : decode cX7_readsPerson 87 = .ok (.goto 23, 3) := by decide +kernel
theorem dX7_readsPerson_90 : decode cX7_readsPerson 90 = .ok (.aload_n 0, 1) := by decide +kernel
theorem dX7_readsPerson_91 : decode cX7_readsPerson 91 = .ok (.iload_n 1, 1) := by decide +kernel
theorem dX7_readsPerson_92 : decode cX7_readsPerson 92 = .ok (.iload_n 2, 1) := by decide +kernel
theorem dX7_readsPerson_93 : decode cX7_readsPerson 93 = .ok (.iconst 0, 1) := by decide +kernel
theorem dX7_readsPerson_94 : decode cX7_readsPerson 94 = .ok (.iload 4, 2) := by decide +kernel
theorem dX7_readsPerson_96 : decode cX7_readsPerson 96 = .ok (.bipush 6, 2) := by decide +kernel
theorem dX7_readsPerson_98 : decode cX7_readsPerson 98 = .ok (.if_icmp .ne 7, 3) := by decide +kernel
theorem dX7_readsPerson_101 : decode cX7_readsPerson 101 = .ok (.iconst 3, 1) := by decide +kernel
theorem dX7_readsPerson_102 : decode cX7_readsPerson 102 = .ok (.goto 5, 3) := by decide +kernel
theorem dX7_readsPerson_105 : decode cX7_readsPerson 105 = .ok (.bipush 9, 2) := by decide +kernel
theorem dX7_readsPerson_107 : decode cX7_readsPerson 107 = .ok (.invokevirtual 104, 3) := by decide +kernel
theorem dX7_readsPerson_110 : decode cX7_readsPerson 110 = .ok (.istore 5, 2) := by decide +kernel
theorem dX7_readsPerson_112 : decode cX7_readsPerson 112 = .ok (.iload 5, 2) := by decide +kernel
theorem dX7_readsPerson_114 : decode cX7_readsPerson 114 = .ok (.ifCond .ge 8, 3) := by decide +kernel
theorem dX7_readsPerson_117 : decode cX7_readsPerson 117 = .ok (.bipush (-9), 2) := by decide +kernel
theorem dX7_readsPerson_119 : decode cX7_readsPerson 119 = .ok (.goto 12, 3) := by decide +kernel
theorem dX7_readsPerson_122 : decode cX7_readsPerson 122 = .ok (.aload_n 0, 1) := by decide +kernel
theorem dX7_readsPerson_123 : decode cX7_readsPerson 123 = .ok (.iload_n 1, 1) := by decide +kernel
theorem dX7_readsPerson_124 : decode cX7_readsPerson 124 = .ok (.iload_n 2, 1) := by decide +kernel
theorem dX7_readsPerson_125 : decode cX7_readsPerson 125 = .ok (.iconst 0, 1) := by decide +kernel
theorem dX7_readsPerson_126 : decode cX7_readsPerson 126 = .ok (.bipush 6, 2) := by decide +kernel
theorem dX7_readsPerson_128 : decode cX7_readsPerson 128 = .ok (.invokevirtual 104, 3) := by decide +kernel
theorem dX7_readsPerson_131 : decode cX7_readsPerson 131 = .ok (.istore 6, 2) := by decide +kernel
theorem dX7_readsPerson_133 : decode cX7_readsPerson 133 = .ok (.iload 6, 2) := by decide +kernel
theorem dX7_readsPerson_135 : decode cX7_readsPerson 135 = .ok (.ifCond .ge 8, 3) := by decide +kernel
theorem dX7_readsPerson_138 : decode cX7_readsPerson 138 = .ok (.bipush (-9), 2) := by decide +kernel
theorem dX7_readsPerson_140 : decode cX7_readsPerson 140 = .ok (.goto 12, 3) := by decide +kernel
theorem dX7_readsPerson_143 : decode cX7_readsPerson 143 = .ok (.aload_n 0, 1) := by decide +kernel
theorem dX7_readsPerson_144 : decode cX7_readsPerson 144 = .ok (.iload_n 1, 1) := by decide +kernel
theorem dX7_readsPerson_145 : decode cX7_readsPerson 145 = .ok (.iload_n 2, 1) := by decide +kernel
theorem dX7_readsPerson_146 : decode cX7_readsPerson 146 = .ok (.iconst 1, 1) := by decide +kernel
theorem dX7_readsPerson_147 : decode cX7_readsPerson 147 = .ok (.bipush 9, 2) := by decide +kernel
theorem dX7_readsPerson_149 : decode cX7_readsPerson 149 = .ok (.invokevirtual 104, 3) := by decide +kernel
theorem dX7_readsPerson_152 : decode cX7_readsPerson 152 = .ok (.istore 7, 2) := by decide +kernel
theorem dX7_readsPerson_154 : decode cX7_readsPerson 154 = .ok (.iload 7, 2) := by decide +kernel
theorem dX7_readsPerson_156 : decode cX7_readsPerson 156 = .ok (.ifCond .ge 5, 3) := by decide +kernel
theorem dX7_readsPerson_159 : decode cX7_readsPerson 159 = .ok (.iconst 0, 1) := by decide +kernel
theorem dX7_readsPerson_160 : decode cX7_readsPerson 160 = .ok (.ireturn, 1) := by decide +kernel
theorem dX7_readsPerson_161 : decode cX7_readsPerson 161 = .ok (.aload_n 0, 1) := by decide +kernel
theorem dX7_readsPerson_162 : decode cX7_readsPerson 162 = .ok (.getfield 22, 3) := by decide +kernel
theorem dX7_readsPerson_165 : decode cX7_readsPerson 165 = .ok (.aload_n 0, 1) := by decide +kernel
theorem dX7_readsPerson_166 : decode cX7_readsPerson 166 = .ok (.getfield 101, 3) := by decide +kernel
theorem dX7_readsPerson_169 : decode cX7_readsPerson 169 = .ok (.iload_n 3, 1) := by decide +kernel
theorem dX7_readsPerson_170 : decode cX7_readsPerson 170 = .ok (.bipush 99, 2) := by decide +kernel
theorem dX7_readsPerson_172 : decode cX7_readsPerson 172 = .ok (.if_icmp .ne 7, 3) := by decide +kernel
theorem dX7_readsPerson_175 : decode cX7_readsPerson 175 = .ok (.iconst 0, 1) := by decide +kernel
theorem dX7_readsPerson_176 : decode cX7_readsPerson 176 = .ok (.goto 14, 3) := by decide +kernel
theorem dX7_readsPerson_179 : decode cX7_readsPerson 179 = .ok (.iload_n 3, 1) := by decide +kernel
theorem dX7_readsPerson_180 : decode cX7_readsPerson 180 = .ok (.bipush 115, 2) := by decide +kernel
theorem dX7_readsPerson_182 : decode cX7_readsPerson 182 = .ok (.if_icmp .ne 7, 3) := by decide +kernel
theorem dX7_readsPerson_185 : decode cX7_readsPerson 185 = .ok (.iconst 1, 1) := by decide +kernel
theorem dX7_readsPerson_186 : decode cX7_readsPerson 186 = .ok (.goto 4, 3) := by decide +kernel
theorem dX7_readsPerson_189 : decode cX7_readsPerson 189 = .ok (.iconst 2, 1) := by decide +kernel
theorem dX7_readsPerson_190 : decode cX7_readsPerson 190 = .ok (.iastore, 1) := by decide +kernel
theorem dX7_readsPerson_191 : decode cX7_readsPerson 191 = .ok (.aload_n 0, 1) := by decide +kernel
theorem dX7_readsPerson_192 : decode cX7_readsPerson 192 = .ok (.getfield 25, 3) := by decide +kernel
theorem dX7_readsPerson_195 : decode cX7_readsPerson 195 = .ok (.aload_n 0, 1) := by decide +kernel
theorem dX7_readsPerson_196 : decode cX7_readsPerson 196 = .ok (.getfield 101, 3) := by decide +kernel
theorem dX7_readsPerson_199 : decode cX7_readsPerson 199 = .ok (.bipush 10, 2) := by decide +kernel
theorem dX7_readsPerson_201 : decode cX7_readsPerson 201 = .ok (.iload 4, 2) := by decide +kernel
theorem dX7_readsPerson_203 : decode cX7_readsPerson 203 = .ok (.imul, 1) := by decide +kernel
theorem dX7_readsPerson_204 : decode cX7_readsPerson 204 = .ok (.iload 5, 2) := by decide +kernel
theorem dX7_readsPerson_206 : decode cX7_readsPerson 206 = .ok (.iadd, 1) := by decide +kernel
theorem dX7_readsPerson_207 : decode cX7_readsPerson 207 = .ok (.iastore, 1) := by decide +kernel
theorem dX7_readsPerson_208 : decode cX7_readsPerson 208 = .ok (.aload_n 0, 1) := by decide +kernel
theorem dX7_readsPerson_209 : decode cX7_readsPerson 209 = .ok (.getfield 28, 3) := by decide +kernel
theorem dX7_readsPerson_212 : decode cX7_readsPerson 212 = .ok (.aload_n 0, 1) := by decide +kernel
theorem dX7_readsPerson_213 : decode cX7_readsPerson 213 = .ok (.getfield 101, 3) := by decide +kernel
theorem dX7_readsPerson_216 : decode cX7_readsPerson 216 = .ok (.iload 6, 2) := by decide +kernel
theorem dX7_readsPerson_218 : decode cX7_readsPerson 218 = .ok (.iastore, 1) := by decide +kernel
theorem dX7_readsPerson_219 : decode cX7_readsPerson 219 = .ok (.aload_n 0, 1) := by decide +kernel
theorem dX7_readsPerson_220 : decode cX7_readsPerson 220 = .ok (.getfield 31, 3) := by decide +kernel
theorem dX7_readsPerson_223 : decode cX7_readsPerson 223 = .ok (.aload_n 0, 1) := by decide +kernel
theorem dX7_readsPerson_224 : decode cX7_readsPerson 224 = .ok (.getfield 101, 3) := by decide +kernel
theorem dX7_readsPerson_227 : decode cX7_readsPerson 227 = .ok (.iload 7, 2) := by decide +kernel
theorem dX7_readsPerson_229 : decode cX7_readsPerson 229 = .ok (.iastore, 1) := by decide +kernel
theorem dX7_readsPerson_230 : decode cX7_readsPerson 230 = .ok (.aload_n 0, 1) := by decide +kernel
theorem dX7_readsPerson_231 : decode cX7_readsPerson 231 = .ok (.dup, 1) := by decide +kernel
theorem dX7_readsPerson_232 : decode cX7_readsPerson 232 = .ok (.getfield 101, 3) := by decide +kernel
theorem dX7_readsPerson_235 : decode cX7_readsPerson 235 = .ok (.iconst 1, 1) := by decide +kernel
theorem dX7_readsPerson_236 : decode cX7_readsPerson 236 = .ok (.iadd, 1) := by decide +kernel
theorem dX7_readsPerson_237 : decode cX7_readsPerson 237 = .ok (.putfield 101, 3) := by decide +kernel
theorem dX7_readsPerson_240 : decode cX7_readsPerson 240 = .ok (.iconst 1, 1) := by decide +kernel
theorem dX7_readsPerson_241 : decode cX7_readsPerson 241 = .ok (.ireturn, 1) := by decide +kernel
theorem dX7_readsCounter_0 : decode cX7_readsCounter 0 = .ok (.aload_n 0, 1) := by decide +kernel
theorem dX7_readsCounter_1 : decode cX7_readsCounter 1 = .ok (.iconst 0, 1) := by decide +kernel
theorem dX7_readsCounter_2 : decode cX7_readsCounter 2 = .ok (.putfield 94, 3) := by decide +kernel
theorem dX7_readsCounter_5 : decode cX7_readsCounter 5 = .ok (.aload_n 0, 1) := by decide +kernel
theorem dX7_readsCounter_6 : decode cX7_readsCounter 6 = .ok (.iconst 0, 1) := by decide +kernel
theorem dX7_readsCounter_7 : decode cX7_readsCounter 7 = .ok (.putfield 101, 3) := by decide +kernel
theorem dX7_readsCounter_10 : decode cX7_readsCounter 10 = .ok (.aload_n 0, 1) := by decide +kernel
theorem dX7_readsCounter_11 : decode cX7_readsCounter 11 = .ok (.iload_n 1, 1) := by decide +kernel
theorem dX7_readsCounter_12 : decode cX7_readsCounter 12 = .ok (.iload_n 2, 1) := by decide +kernel
theorem dX7_readsCounter_13 : decode cX7_readsCounter 13 = .ok (.invokevirtual 97, 3) := by decide +kernel
theorem dX7_readsCounter_16 : decode cX7_readsCounter 16 = .ok (.bipush 107, 2) := by decide +kernel
theorem dX7_readsCounter_18 : decode cX7_readsCounter 18 = .ok (.if_icmp .ne 7, 3) := by decide +kernel
theorem dX7_readsCounter_21 : decode cX7_readsCounter 21 = .ok (.iconst 1, 1) := by decide +kernel
theorem dX7_readsCounter_22 : decode cX7_readsCounter 22 = .ok (.goto 4, 3) := by decide +kernel
theorem dX7_readsCounter_25 : decode cX7_readsCounter 25 = .ok (.iconst 0, 1) := by decide +kernel
theorem dX7_readsCounter_26 : decode cX7_readsCounter 26 = .ok (.istore_n 3, 1) := by decide +kernel
theorem dX7_readsCounter_27 : decode cX7_readsCounter 27 = .ok (.aload_n 0, 1) := by decide +kernel
theorem dX7_readsCounter_28 : decode cX7_readsCounter 28 = .ok (.dup, 1) := by decide +kernel
theorem dX7_readsCounter_29 : decode cX7_readsCounter 29 = .ok (.getfield 94, 3) := by decide +kernel
theorem dX7_readsCounter_32 : decode cX7_readsCounter 32 = .ok (.iload_n 3, 1) := by decide +kernel
theorem dX7_readsCounter_33 : decode cX7_readsCounter 33 = .ok (.ifCond .eq 7, 3) := by decide +kernel
theorem dX7_readsCounter_36 : decode cX7_readsCounter 36 = .ok (.iconst 1, 1) := by decide +kernel
theorem dX7_readsCounter_37 : decode cX7_readsCounter 37 = .ok (.goto 4, 3) := by decide +kernel
theorem dX7_readsCounter_40 : decode cX7_readsCounter 40 = .ok (.iconst 0, 1) := by decide +kernel
theorem dX7_readsCounter_41 : decode cX7_readsCounter 41 = .ok (.iadd, 1) := by decide +kernel
theorem dX7_readsCounter_42 : decode cX7_readsCounter 42 = .ok (.putfield 94, 3) := by decide +kernel
theorem dX7_readsCounter_45 : decode cX7_readsCounter 45 = .ok (.iload_n 3, 1) := by decide +kernel
theorem dX7_readsCounter_46 : decode cX7_readsCounter 46 = .ok (.ifCond .eq 29, 3) := by decide +kernel
theorem dX7_readsCounter_49 : decode cX7_readsCounter 49 = .ok (.aload_n 0, 1) := by decide +kernel
theorem dX7_readsCounter_50 : decode cX7_readsCounter 50 = .ok (.getfield 101, 3) := by decide +kernel
theorem dX7_readsCounter_53 : decode cX7_readsCounter 53 = .ok (.iconst 2, 1) := by decide +kernel
theorem dX7_readsCounter_54 : decode cX7_readsCounter 54 = .ok (.if_icmp .lt 11, 3) := by decide +kernel
theorem dX7_readsCounter_57 : decode cX7_readsCounter 57 = .ok (.aload_n 0, 1) := by decide +kernel
theorem dX7_readsCounter_58 : decode cX7_readsCounter 58 = .ok (.getfield 94, 3) := by decide +kernel
theorem dX7_readsCounter_61 : decode cX7_readsCounter 61 = .ok (.iload_n 2, 1) := by decide +kernel
theorem dX7_readsCounter_62 : decode cX7_readsCounter 62 = .ok (.if_icmp .ge 13, 3) := by decide +kernel
theorem dX7_readsCounter_65 : decode cX7_readsCounter 65 = .ok (.aload_n 0, 1) := by decide +kernel
theorem dX7_readsCounter_66 : decode cX7_readsCounter 66 = .ok (.iload_n 1, 1) := by decide +kernel
theorem dX7_readsCounter_67 : decode cX7_readsCounter 67 = .ok (.iload_n 2, 1) := by decide +kernel
theorem dX7_readsCounter_68 : decode cX7_readsCounter 68 = .ok (.invokevirtual 108, 3) := by decide +kernel
theorem dX7_readsCounter_71 : decode cX7_readsCounter 71 = .ok (.istore_n 3, 1) := by decide +kernel
theorem dX7_readsCounter_72 : decode cX7_readsCounter 72 = .ok (.goto (-27), 3) := by decide +kernel
theorem dX7_readsCounter_75 : decode cX7_readsCounter 75 = .ok (.iload_n 3, 1) := by decide +kernel
theorem dX7_readsCounter_76 : decode cX7_readsCounter 76 = .ok (.ireturn, 1) := by decide +kernel
theorem dX7_cellsBarred_0 : decode cX7_cellsBarred 0 = .ok (.aload_n 0, 1) := by decide +kernel
theorem dX7_cellsBarred_1 : decode cX7_cellsBarred 1 = .ok (.getfield 65, 3) := by decide +kernel
theorem dX7_cellsBarred_4 : decode cX7_cellsBarred 4 = .ok (.iload_n 1, 1) := by decide +kernel
theorem dX7_cellsBarred_5 : decode cX7_cellsBarred 5 = .ok (.iaload, 1) := by decide +kernel
theorem dX7_cellsBarred_6 : decode cX7_cellsBarred 6 = .ok (.ifCond .lt 19, 3) := by decide +kernel
theorem dX7_cellsBarred_9 : decode cX7_cellsBarred 9 = .ok (.aload_n 0, 1) := by decide +kernel
theorem dX7_cellsBarred_10 : decode cX7_cellsBarred 10 = .ok (.getfield 68, 3) := by decide +kernel
theorem dX7_cellsBarred_13 : decode cX7_cellsBarred 13 = .ok (.iload_n 1, 1) := by decide +kernel
theorem dX7_cellsBarred_14 : decode cX7_cellsBarred 14 = .ok (.iaload, 1) := by decide +kernel
theorem dX7_cellsBarred_15 : decode cX7_cellsBarred 15 = .ok (.iload_n 2, 1) := by decide +kernel
theorem dX7_cellsBarred_16 : decode cX7_cellsBarred 16 = .ok (.if_icmp .eq 9, 3) := by decide +kernel
theorem dX7_cellsBarred_19 : decode cX7_cellsBarred 19 = .ok (.aload_n 0, 1) := by decide +kernel
theorem dX7_cellsBarred_20 : decode cX7_cellsBarred 20 = .ok (.iconst 2, 1) := by decide +kernel
theorem dX7_cellsBarred_21 : decode cX7_cellsBarred 21 = .ok (.invokevirtual 112, 3) := by decide +kernel
theorem dX7_cellsBarred_24 : decode cX7_cellsBarred 24 = .ok (.ireturn, 1) := by decide +kernel
theorem dX7_cellsBarred_25 : decode cX7_cellsBarred 25 = .ok (.aload_n 0, 1) := by decide +kernel
theorem dX7_cellsBarred_26 : decode cX7_cellsBarred 26 = .ok (.getfield 65, 3) := by decide +kernel
theorem dX7_cellsBarred_29 : decode cX7_cellsBarred 29 = .ok (.iload_n 1, 1) := by decide +kernel
theorem dX7_cellsBarred_30 : decode cX7_cellsBarred 30 = .ok (.iaload, 1) := by decide +kernel
theorem dX7_cellsBarred_31 : decode cX7_cellsBarred 31 = .ok (.ifCond .ge 9, 3) := by decide +kernel
theorem dX7_cellsBarred_34 : decode cX7_cellsBarred 34 = .ok (.aload_n 0, 1) := by decide +kernel
theorem dX7_cellsBarred_35 : decode cX7_cellsBarred 35 = .ok (.iconst 1, 1) := by decide +kernel
theorem dX7_cellsBarred_36 : decode cX7_cellsBarred 36 = .ok (.invokevirtual 112, 3) := by decide +kernel
theorem dX7_cellsBarred_39 : decode cX7_cellsBarred 39 = .ok (.ireturn, 1) := by decide +kernel
theorem dX7_cellsBarred_40 : decode cX7_cellsBarred 40 = .ok (.lload 4, 2) := by decide +kernel
theorem dX7_cellsBarred_42 : decode cX7_cellsBarred 42 = .ok (.lconst 0, 1) := by decide +kernel
theorem dX7_cellsBarred_43 : decode cX7_cellsBarred 43 = .ok (.lcmp, 1) := by decide +kernel
theorem dX7_cellsBarred_44 : decode cX7_cellsBarred 44 = .ok (.ifCond .ge 9, 3) := by decide +kernel
theorem dX7_cellsBarred_47 : decode cX7_cellsBarred 47 = .ok (.aload_n 0, 1) := by decide +kernel
theorem dX7_cellsBarred_48 : decode cX7_cellsBarred 48 = .ok (.iconst 4, 1) := by decide +kernel
theorem dX7_cellsBarred_49 : decode cX7_cellsBarred 49 = .ok (.invokevirtual 112, 3) := by decide +kernel
theorem dX7_cellsBarred_52 : decode cX7_cellsBarred 52 = .ok (.ireturn, 1) := by decide +kernel
theorem dX7_cellsBarred_53 : decode cX7_cellsBarred 53 = .ok (.iload_n 3, 1) := by decide +kernel
theorem dX7_cellsBarred_54 : decode cX7_cellsBarred 54 = .ok (.lload 4, 2) := by decide +kernel
theorem dX7_cellsBarred_56 : decode cX7_cellsBarred 56 = .ok (.aload_n 0, 1) := by decide +kernel
theorem dX7_cellsBarred_57 : decode cX7_cellsBarred 57 = .ok (.getfield 65, 3) := by decide +kernel
theorem dX7_cellsBarred_60 : decode cX7_cellsBarred 60 = .ok (.iload_n 1, 1) := by decide +kernel
theorem dX7_cellsBarred_61 : decode cX7_cellsBarred 61 = .ok (.iaload, 1) := by decide +kernel
theorem dX7_cellsBarred_62 : decode cX7_cellsBarred 62 = .ok (.invokestatic 116, 3) := by decide +kernel
theorem dX7_cellsBarred_65 : decode cX7_cellsBarred 65 = .ok (.ifCond .eq 11, 3) := by decide +kernel
theorem dX7_cellsBarred_68 : decode cX7_cellsBarred 68 = .ok (.aload_n 0, 1) := by decide +kernel
theorem dX7_cellsBarred_69 : decode cX7_cellsBarred 69 = .ok (.iconst 3, 1) := by decide +kernel
theorem dX7_cellsBarred_70 : decode cX7_cellsBarred 70 = .ok (.invokevirtual 112, 3) := by decide +kernel
theorem dX7_cellsBarred_73 : decode cX7_cellsBarred 73 = .ok (.goto 4, 3) := by decide +kernel
theorem dX7_cellsBarred_76 : decode cX7_cellsBarred 76 = .ok (.iconst 0, 1) := by decide +kernel
theorem dX7_cellsBarred_77 : decode cX7_cellsBarred 77 = .ok (.ireturn, 1) := by decide +kernel
theorem dX7_counter_0 : decode cX7_counter 0 = .ok (.iload_n 1, 1) := by decide +kernel
theorem dX7_counter_1 : decode cX7_counter 1 = .ok (.invokestatic 120, 3) := by decide +kernel
theorem dX7_counter_4 : decode cX7_counter 4 = .ok (.ifCond .eq 9, 3) := by decide +kernel
theorem dX7_counter_7 : decode cX7_counter 7 = .ok (.aload_n 0, 1) := by decide +kernel
theorem dX7_counter_8 : decode cX7_counter 8 = .ok (.iconst (-1), 1) := by decide +kernel
theorem dX7_counter_9 : decode cX7_counter 9 = .ok (.invokevirtual 124, 3) := by decide +kernel
theorem dX7_counter_12 : decode cX7_counter 12 = .ok (.ireturn, 1) := by decide +kernel
theorem dX7_counter_13 : decode cX7_counter 13 = .ok (.iload_n 2, 1) := by decide +kernel
theorem dX7_counter_14 : decode cX7_counter 14 = .ok (.i2l, 1) := by decide +kernel
theorem dX7_counter_15 : decode cX7_counter 15 = .ok (.lconst 0, 1) := by decide +kernel
theorem dX7_counter_16 : decode cX7_counter 16 = .ok (.ldc2_w 127, 3) := by decide +kernel
theorem dX7_counter_19 : decode cX7_counter 19 = .ok (.invokestatic 90, 3) := by decide +kernel
theorem dX7_counter_22 : decode cX7_counter 22 = .ok (.ifCond .ne 10, 3) := by decide +kernel
theorem dX7_counter_25 : decode cX7_counter 25 = .ok (.aload_n 0, 1) := by decide +kernel
theorem dX7_counter_26 : decode cX7_counter 26 = .ok (.bipush (-2), 2) := by decide +kernel
theorem dX7_counter_28 : decode cX7_counter 28 = .ok (.invokevirtual 124, 3) := by decide +kernel
theorem dX7_counter_31 : decode cX7_counter 31 = .ok (.ireturn, 1) := by decide +kernel
theorem dX7_counter_32 : decode cX7_counter 32 = .ok (.aload_n 0, 1) := by decide +kernel
theorem dX7_counter_33 : decode cX7_counter 33 = .ok (.iload_n 1, 1) := by decide +kernel
theorem dX7_counter_34 : decode cX7_counter 34 = .ok (.iload_n 2, 1) := by decide +kernel
theorem dX7_counter_35 : decode cX7_counter 35 = .ok (.iload_n 3, 1) := by decide +kernel
theorem dX7_counter_36 : decode cX7_counter 36 = .ok (.iload 4, 2) := by decide +kernel
theorem dX7_counter_38 : decode cX7_counter 38 = .ok (.i2l, 1) := by decide +kernel
theorem dX7_counter_39 : decode cX7_counter 39 = .ok (.invokevirtual 129, 3) := by decide +kernel
theorem dX7_counter_42 : decode cX7_counter 42 = .ok (.istore 5, 2) := by decide +kernel
theorem dX7_counter_44 : decode cX7_counter 44 = .ok (.iload 5, 2) := by decide +kernel
theorem dX7_counter_46 : decode cX7_counter 46 = .ok (.ifCond .ge 6, 3) := by decide +kernel
theorem dX7_counter_49 : decode cX7_counter 49 = .ok (.iload 5, 2) := by decide +kernel
theorem dX7_counter_51 : decode cX7_counter 51 = .ok (.ireturn, 1) := by decide +kernel
theorem dX7_counter_52 : decode cX7_counter 52 = .ok (.aload_n 0, 1) := by decide +kernel
theorem dX7_counter_53 : decode cX7_counter 53 = .ok (.bipush 60, 2) := by decide +kernel
theorem dX7_counter_55 : decode cX7_counter 55 = .ok (.iload_n 1, 1) := by decide +kernel
theorem dX7_counter_56 : decode cX7_counter 56 = .ok (.imul, 1) := by decide +kernel
theorem dX7_counter_57 : decode cX7_counter 57 = .ok (.iload_n 3, 1) := by decide +kernel
theorem dX7_counter_58 : decode cX7_counter 58 = .ok (.iadd, 1) := by decide +kernel
theorem dX7_counter_59 : decode cX7_counter 59 = .ok (.iload 4, 2) := by decide +kernel
theorem dX7_counter_61 : decode cX7_counter 61 = .ok (.invokevirtual 133, 3) := by decide +kernel
theorem dX7_counter_64 : decode cX7_counter 64 = .ok (.ifCond .ne 15, 3) := by decide +kernel
theorem dX7_counter_67 : decode cX7_counter 67 = .ok (.aload_n 0, 1) := by decide +kernel
theorem dX7_counter_68 : decode cX7_counter 68 = .ok (.bipush (-100), 2) := by decide +kernel
theorem dX7_counter_70 : decode cX7_counter 70 = .ok (.aload_n 0, 1) := by decide +kernel
theorem dX7_counter_71 : decode cX7_counter 71 = .ok (.getfield 94, 3) := by decide +kernel
theorem dX7_counter_74 : decode cX7_counter 74 = .ok (.isub, 1) := by decide +kernel
theorem dX7_counter_75 : decode cX7_counter 75 = .ok (.invokevirtual 124, 3) := by decide +kernel
theorem dX7_counter_78 : decode cX7_counter 78 = .ok (.ireturn, 1) := by decide +kernel
theorem dX7_counter_79 : decode cX7_counter 79 = .ok (.aload_n 0, 1) := by decide +kernel
theorem dX7_counter_80 : decode cX7_counter 80 = .ok (.aload_n 0, 1) := by decide +kernel
theorem dX7_counter_81 : decode cX7_counter 81 = .ok (.getfield 101, 3) := by decide +kernel
theorem dX7_counter_84 : decode cX7_counter 84 = .ok (.putfield 87, 3) := by decide +kernel
theorem dX7_counter_87 : decode cX7_counter 87 = .ok (.iconst 0, 1) := by decide +kernel
theorem dX7_counter_88 : decode cX7_counter 88 = .ok (.istore 6, 2) := by decide +kernel
theorem dX7_counter_90 : decode cX7_counter 90 = .ok (.iload 6, 2) := by decide +kernel
theorem dX7_counter_92 : decode cX7_counter 92 = .ok (.aload_n 0, 1) := by decide +kernel
theorem dX7_counter_93 : decode cX7_counter 93 = .ok (.getfield 87, 3) := by decide +kernel
theorem dX7_counter_96 : decode cX7_counter 96 = .ok (.if_icmp .ge 65, 3) := by decide +kernel
theorem dX7_counter_99 : decode cX7_counter 99 = .ok (.aload_n 0, 1) := by decide +kernel
theorem dX7_counter_100 : decode cX7_counter 100 = .ok (.getfield 7, 3) := by decide +kernel
theorem dX7_counter_103 : decode cX7_counter 103 = .ok (.iload 6, 2) := by decide +kernel
theorem dX7_counter_105 : decode cX7_counter 105 = .ok (.aload_n 0, 1) := by decide +kernel
theorem dX7_counter_106 : decode cX7_counter 106 = .ok (.getfield 22, 3) := by decide +kernel
theorem dX7_counter_109 : decode cX7_counter 109 = .ok (.iload 6, 2) := by decide +kernel
theorem dX7_counter_111 : decode cX7_counter 111 = .ok (.iaload, 1) := by decide +kernel
theorem dX7_counter_112 : decode cX7_counter 112 = .ok (.iastore, 1) := by decide +kernel
theorem dX7_counter_113 : decode cX7_counter 113 = .ok (.aload_n 0, 1) := by decide +kernel
theorem dX7_counter_114 : decode cX7_counter 114 = .ok (.getfield 13, 3) := by decide +kernel
theorem dX7_counter_117 : decode cX7_counter 117 = .ok (.iload 6, 2) := by decide +kernel
theorem dX7_counter_119 : decode cX7_counter 119 = .ok (.aload_n 0, 1) := by decide +kernel
theorem dX7_counter_120 : decode cX7_counter 120 = .ok (.getfield 25, 3) := by decide +kernel
theorem dX7_counter_123 : decode cX7_counter 123 = .ok (.iload 6, 2) := by decide +kernel
theorem dX7_counter_125 : decode cX7_counter 125 = .ok (.iaload, 1) := by decide +kernel
theorem dX7_counter_126 : decode cX7_counter 126 = .ok (.iastore, 1) := by decide +kernel
theorem dX7_counter_127 : decode cX7_counter 127 = .ok (.aload_n 0, 1) := by decide +kernel
theorem dX7_counter_128 : decode cX7_counter 128 = .ok (.getfield 16, 3) := by decide +kernel
theorem dX7_counter_131 : decode cX7_counter 131 = .ok (.iload 6, 2) := by decide +kernel
theorem dX7_counter_133 : decode cX7_counter 133 = .ok (.aload_n 0, 1) := by decide +kernel
theorem dX7_counter_134 : decode cX7_counter 134 = .ok (.getfield 28, 3) := by decide +kernel
theorem dX7_counter_137 : decode cX7_counter 137 = .ok (.iload 6, 2) := by decide +kernel
theorem dX7_counter_139 : decode cX7_counter 139 = .ok (.iaload, 1) := by decide +kernel
theorem dX7_counter_140 : decode cX7_counter 140 = .ok (.iastore, 1) := by decide +kernel
theorem dX7_counter_141 : decode cX7_counter 141 = .ok (.aload_n 0, 1) := by decide +kernel
theorem dX7_counter_142 : decode cX7_counter 142 = .ok (.getfield 19, 3) := by decide +kernel
theorem dX7_counter_145 : decode cX7_counter 145 = .ok (.iload 6, 2) := by decide +kernel
theorem dX7_counter_147 : decode cX7_counter 147 = .ok (.aload_n 0, 1) := by decide +kernel
theorem dX7_counter_148 : decode cX7_counter 148 = .ok (.getfield 31, 3) := by decide +kernel
theorem dX7_counter_151 : decode cX7_counter 151 = .ok (.iload 6, 2) := by decide +kernel
theorem dX7_counter_153 : decode cX7_counter 153 = .ok (.iaload, 1) := by decide +kernel
theorem dX7_counter_154 : decode cX7_counter 154 = .ok (.iastore, 1) := by decide +kernel
theorem dX7_counter_155 : decode cX7_counter 155 = .ok (.iinc 6 1, 3) := by decide +kernel
theorem dX7_counter_158 : decode cX7_counter 158 = .ok (.goto (-68), 3) := by decide +kernel
theorem dX7_counter_161 : decode cX7_counter 161 = .ok (.aload_n 0, 1) := by decide +kernel
theorem dX7_counter_162 : decode cX7_counter 162 = .ok (.iconst 0, 1) := by decide +kernel
theorem dX7_counter_163 : decode cX7_counter 163 = .ok (.putfield 136, 3) := by decide +kernel
theorem dX7_counter_166 : decode cX7_counter 166 = .ok (.aload_n 0, 1) := by decide +kernel
theorem dX7_counter_167 : decode cX7_counter 167 = .ok (.aload_n 0, 1) := by decide +kernel
theorem dX7_counter_168 : decode cX7_counter 168 = .ok (.getfield 87, 3) := by decide +kernel
theorem dX7_counter_171 : decode cX7_counter 171 = .ok (.invokevirtual 124, 3) := by decide +kernel
theorem dX7_counter_174 : decode cX7_counter 174 = .ok (.ireturn, 1) := by decide +kernel
theorem dX7_lastsOf_0 : decode cX7_lastsOf 0 = .ok (.aload_n 0, 1) := by decide +kernel
theorem dX7_lastsOf_1 : decode cX7_lastsOf 1 = .ok (.getfield 19, 3) := by decide +kernel
theorem dX7_lastsOf_4 : decode cX7_lastsOf 4 = .ok (.iload_n 1, 1) := by decide +kernel
theorem dX7_lastsOf_5 : decode cX7_lastsOf 5 = .ok (.iaload, 1) := by decide +kernel
theorem dX7_lastsOf_6 : decode cX7_lastsOf 6 = .ok (.istore_n 2, 1) := by decide +kernel
theorem dX7_lastsOf_7 : decode cX7_lastsOf 7 = .ok (.aload_n 0, 1) := by decide +kernel
theorem dX7_lastsOf_8 : decode cX7_lastsOf 8 = .ok (.getfield 7, 3) := by decide +kernel
theorem dX7_lastsOf_11 : decode cX7_lastsOf 11 = .ok (.iload_n 1, 1) := by decide +kernel
theorem dX7_lastsOf_12 : decode cX7_lastsOf 12 = .ok (.iaload, 1) := by decide +kernel
theorem dX7_lastsOf_13 : decode cX7_lastsOf 13 = .ok (.ifCond .ne 7, 3) := by decide +kernel
theorem dX7_lastsOf_16 : decode cX7_lastsOf 16 = .ok (.iload_n 2, 1) := by decide +kernel
theorem dX7_lastsOf_17 : decode cX7_lastsOf 17 = .ok (.goto 24, 3) := by decide +kernel
theorem dX7_lastsOf_20 : decode cX7_lastsOf 20 = .ok (.aload_n 0, 1) := by decide +kernel
theorem dX7_lastsOf_21 : decode cX7_lastsOf 21 = .ok (.getfield 7, 3) := by decide +kernel
theorem dX7_lastsOf_24 : decode cX7_lastsOf 24 = .ok (.iload_n 1, 1) := by decide +kernel
theorem dX7_lastsOf_25 : decode cX7_lastsOf 25 = .ok (.iaload, 1) := by decide +kernel
theorem dX7_lastsOf_26 : decode cX7_lastsOf 26 = .ok (.iconst 1, 1) := by decide +kernel
theorem dX7_lastsOf_27 : decode cX7_lastsOf 27 = .ok (.if_icmp .ne 9, 3) := by decide +kernel
theorem dX7_lastsOf_30 : decode cX7_lastsOf 30 = .ok (.iload_n 2, 1) := by decide +kernel
theorem dX7_lastsOf_31 : decode cX7_lastsOf 31 = .ok (.iconst 1, 1) := by decide +kernel
theorem dX7_lastsOf_32 : decode cX7_lastsOf 32 = .ok (.iadd, 1) := by decide +kernel
theorem dX7_lastsOf_33 : decode cX7_lastsOf 33 = .ok (.goto 8, 3) := by decide +kernel
theorem dX7_lastsOf_36 : decode cX7_lastsOf 36 = .ok (.iconst 2, 1) := by decide +kernel
theorem dX7_lastsOf_37 : decode cX7_lastsOf 37 = .ok (.iload_n 2, 1) := by decide +kernel
theorem dX7_lastsOf_38 : decode cX7_lastsOf 38 = .ok (.iconst 1, 1) := by decide +kernel
theorem dX7_lastsOf_39 : decode cX7_lastsOf 39 = .ok (.iadd, 1) := by decide +kernel
theorem dX7_lastsOf_40 : decode cX7_lastsOf 40 = .ok (.imul, 1) := by decide +kernel
theorem dX7_lastsOf_41 : decode cX7_lastsOf 41 = .ok (.ireturn, 1) := by decide +kernel
theorem dX7_ofPerson_0 : decode cX7_ofPerson 0 = .ok (.aload_n 0, 1) := by decide +kernel
theorem dX7_ofPerson_1 : decode cX7_ofPerson 1 = .ok (.iload_n 1, 1) := by decide +kernel
theorem dX7_ofPerson_2 : decode cX7_ofPerson 2 = .ok (.invokevirtual 139, 3) := by decide +kernel
theorem dX7_ofPerson_5 : decode cX7_ofPerson 5 = .ok (.ifCond .eq 5, 3) := by decide +kernel
theorem dX7_ofPerson_8 : decode cX7_ofPerson 8 = .ok (.iconst (-1), 1) := by decide +kernel
theorem dX7_ofPerson_9 : decode cX7_ofPerson 9 = .ok (.ireturn, 1) := by decide +kernel
theorem dX7_ofPerson_10 : decode cX7_ofPerson 10 = .ok (.iload_n 2, 1) := by decide +kernel
theorem dX7_ofPerson_11 : decode cX7_ofPerson 11 = .ok (.tableswitch 67 0 4 #[33, 40, 47, 54, 61], 33) := by decide +kernel
theorem dX7_ofPerson_44 : decode cX7_ofPerson 44 = .ok (.aload_n 0, 1) := by decide +kernel
theorem dX7_ofPerson_45 : decode cX7_ofPerson 45 = .ok (.getfield 7, 3) := by decide +kernel
theorem dX7_ofPerson_48 : decode cX7_ofPerson 48 = .ok (.iload_n 1, 1) := by decide +kernel
theorem dX7_ofPerson_49 : decode cX7_ofPerson 49 = .ok (.iaload, 1) := by decide +kernel
theorem dX7_ofPerson_50 : decode cX7_ofPerson 50 = .ok (.ireturn, 1) := by decide +kernel
theorem dX7_ofPerson_51 : decode cX7_ofPerson 51 = .ok (.aload_n 0, 1) := by decide +kernel
theorem dX7_ofPerson_52 : decode cX7_ofPerson 52 = .ok (.getfield 13, 3) := by decide +kernel
theorem dX7_ofPerson_55 : decode cX7_ofPerson 55 = .ok (.iload_n 1, 1) := by decide +kernel
theorem dX7_ofPerson_56 : decode cX7_ofPerson 56 = .ok (.iaload, 1) := by decide +kernel
theorem dX7_ofPerson_57 : decode cX7_ofPerson 57 = .ok (.ireturn, 1) := by decide +kernel
theorem dX7_ofPerson_58 : decode cX7_ofPerson 58 = .ok (.aload_n 0, 1) := by decide +kernel
theorem dX7_ofPerson_59 : decode cX7_ofPerson 59 = .ok (.getfield 16, 3) := by decide +kernel
theorem dX7_ofPerson_62 : decode cX7_ofPerson 62 = .ok (.iload_n 1, 1) := by decide +kernel
theorem dX7_ofPerson_63 : decode cX7_ofPerson 63 = .ok (.iaload, 1) := by decide +kernel
