theorem dX7_ofPerson_64 : decode cX7_ofPerson 64 = .ok (.ireturn, 1) := by decide +kernel
theorem dX7_ofPerson_65 : decode cX7_ofPerson 65 = .ok (.aload_n 0, 1) := by decide +kernel
theorem dX7_ofPerson_66 : decode cX7_ofPerson 66 = .ok (.getfield 19, 3) := by decide +kernel
theorem dX7_ofPerson_69 : decode cX7_ofPerson 69 = .ok (.iload_n 1, 1) := by decide +kernel
theorem dX7_ofPerson_70 : decode cX7_ofPerson 70 = .ok (.iaload, 1) := by decide +kernel
theorem dX7_ofPerson_71 : decode cX7_ofPerson 71 = .ok (.ireturn, 1) := by decide +kernel
theorem dX7_ofPerson_72 : decode cX7_ofPerson 72 = .ok (.aload_n 0, 1) := by decide +kernel
theorem dX7_ofPerson_73 : decode cX7_ofPerson 73 = .ok (.iload_n 1, 1) := by decide +kernel
theorem dX7_ofPerson_74 : decode cX7_ofPerson 74 = .ok (.invokevirtual 142, 3) := by decide +kernel
theorem dX7_ofPerson_77 : decode cX7_ofPerson 77 = .ok (.ireturn, 1) := by decide +kernel
theorem dX7_ofPerson_78 : decode cX7_ofPerson 78 = .ok (.bipush (-2), 2) := by decide +kernel
theorem dX7_ofPerson_80 : decode cX7_ofPerson 80 = .ok (.ireturn, 1) := by decide +kernel
theorem dX7_live_0 : decode cX7_live 0 = .ok (.aload_n 0, 1) := by decide +kernel
theorem dX7_live_1 : decode cX7_live 1 = .ok (.iload_n 1, 1) := by decide +kernel
theorem dX7_live_2 : decode cX7_live 2 = .ok (.invokevirtual 139, 3) := by decide +kernel
theorem dX7_live_5 : decode cX7_live 5 = .ok (.ifCond .eq 5, 3) := by decide +kernel
theorem dX7_live_8 : decode cX7_live 8 = .ok (.iconst (-1), 1) := by decide +kernel
theorem dX7_live_9 : decode cX7_live 9 = .ok (.ireturn, 1) := by decide +kernel
theorem dX7_live_10 : decode cX7_live 10 = .ok (.iload_n 2, 1) := by decide +kernel
theorem dX7_live_11 : decode cX7_live 11 = .ok (.i2l, 1) := by decide +kernel
theorem dX7_live_12 : decode cX7_live 12 = .ok (.lconst 0, 1) := by decide +kernel
theorem dX7_live_13 : decode cX7_live 13 = .ok (.ldc2_w 145, 3) := by decide +kernel
theorem dX7_live_16 : decode cX7_live 16 = .ok (.invokestatic 90, 3) := by decide +kernel
theorem dX7_live_19 : decode cX7_live 19 = .ok (.ifCond .ne 6, 3) := by decide +kernel
theorem dX7_live_22 : decode cX7_live 22 = .ok (.bipush (-2), 2) := by decide +kernel
theorem dX7_live_24 : decode cX7_live 24 = .ok (.ireturn, 1) := by decide +kernel
theorem dX7_live_25 : decode cX7_live 25 = .ok (.aload_n 0, 1) := by decide +kernel
theorem dX7_live_26 : decode cX7_live 26 = .ok (.getfield 13, 3) := by decide +kernel
theorem dX7_live_29 : decode cX7_live 29 = .ok (.iload_n 1, 1) := by decide +kernel
theorem dX7_live_30 : decode cX7_live 30 = .ok (.iaload, 1) := by decide +kernel
theorem dX7_live_31 : decode cX7_live 31 = .ok (.istore_n 3, 1) := by decide +kernel
theorem dX7_live_32 : decode cX7_live 32 = .ok (.aload_n 0, 1) := by decide +kernel
theorem dX7_live_33 : decode cX7_live 33 = .ok (.getfield 13, 3) := by decide +kernel
theorem dX7_live_36 : decode cX7_live 36 = .ok (.iload_n 1, 1) := by decide +kernel
theorem dX7_live_37 : decode cX7_live 37 = .ok (.iload_n 2, 1) := by decide +kernel
theorem dX7_live_38 : decode cX7_live 38 = .ok (.iastore, 1) := by decide +kernel
theorem dX7_live_39 : decode cX7_live 39 = .ok (.iload_n 3, 1) := by decide +kernel
theorem dX7_live_40 : decode cX7_live 40 = .ok (.ireturn, 1) := by decide +kernel
theorem dX7_want_0 : decode cX7_want 0 = .ok (.aload_n 0, 1) := by decide +kernel
theorem dX7_want_1 : decode cX7_want 1 = .ok (.iload_n 1, 1) := by decide +kernel
theorem dX7_want_2 : decode cX7_want 2 = .ok (.invokevirtual 139, 3) := by decide +kernel
theorem dX7_want_5 : decode cX7_want 5 = .ok (.ifCond .eq 5, 3) := by decide +kernel
theorem dX7_want_8 : decode cX7_want 8 = .ok (.iconst (-1), 1) := by decide +kernel
theorem dX7_want_9 : decode cX7_want 9 = .ok (.ireturn, 1) := by decide +kernel
theorem dX7_want_10 : decode cX7_want 10 = .ok (.iload_n 2, 1) := by decide +kernel
theorem dX7_want_11 : decode cX7_want 11 = .ok (.i2l, 1) := by decide +kernel
theorem dX7_want_12 : decode cX7_want 12 = .ok (.lconst 0, 1) := by decide +kernel
theorem dX7_want_13 : decode cX7_want 13 = .ok (.ldc2_w 147, 3) := by decide +kernel
theorem dX7_want_16 : decode cX7_want 16 = .ok (.invokestatic 90, 3) := by decide +kernel
theorem dX7_want_19 : decode cX7_want 19 = .ok (.ifCond .ne 6, 3) := by decide +kernel
theorem dX7_want_22 : decode cX7_want 22 = .ok (.bipush (-2), 2) := by decide +kernel
theorem dX7_want_24 : decode cX7_want 24 = .ok (.ireturn, 1) := by decide +kernel
theorem dX7_want_25 : decode cX7_want 25 = .ok (.aload_n 0, 1) := by decide +kernel
theorem dX7_want_26 : decode cX7_want 26 = .ok (.getfield 16, 3) := by decide +kernel
theorem dX7_want_29 : decode cX7_want 29 = .ok (.iload_n 1, 1) := by decide +kernel
theorem dX7_want_30 : decode cX7_want 30 = .ok (.iaload, 1) := by decide +kernel
theorem dX7_want_31 : decode cX7_want 31 = .ok (.istore_n 3, 1) := by decide +kernel
theorem dX7_want_32 : decode cX7_want 32 = .ok (.aload_n 0, 1) := by decide +kernel
theorem dX7_want_33 : decode cX7_want 33 = .ok (.getfield 16, 3) := by decide +kernel
theorem dX7_want_36 : decode cX7_want 36 = .ok (.iload_n 1, 1) := by decide +kernel
theorem dX7_want_37 : decode cX7_want 37 = .ok (.iload_n 2, 1) := by decide +kernel
theorem dX7_want_38 : decode cX7_want 38 = .ok (.iastore, 1) := by decide +kernel
theorem dX7_want_39 : decode cX7_want 39 = .ok (.iload_n 3, 1) := by decide +kernel
theorem dX7_want_40 : decode cX7_want 40 = .ok (.ireturn, 1) := by decide +kernel
theorem dX7_isMended_0 : decode cX7_isMended 0 = .ok (.aload_n 0, 1) := by decide +kernel
theorem dX7_isMended_1 : decode cX7_isMended 1 = .ok (.getfield 16, 3) := by decide +kernel
theorem dX7_isMended_4 : decode cX7_isMended 4 = .ok (.iload_n 1, 1) := by decide +kernel
theorem dX7_isMended_5 : decode cX7_isMended 5 = .ok (.iaload, 1) := by decide +kernel
theorem dX7_isMended_6 : decode cX7_isMended 6 = .ok (.bipush 6, 2) := by decide +kernel
theorem dX7_isMended_8 : decode cX7_isMended 8 = .ok (.if_icmp .eq 21, 3) := by decide +kernel
theorem dX7_isMended_11 : decode cX7_isMended 11 = .ok (.aload_n 0, 1) := by decide +kernel
theorem dX7_isMended_12 : decode cX7_isMended 12 = .ok (.getfield 43, 3) := by decide +kernel
theorem dX7_isMended_15 : decode cX7_isMended 15 = .ok (.iload_n 1, 1) := by decide +kernel
theorem dX7_isMended_16 : decode cX7_isMended 16 = .ok (.iaload, 1) := by decide +kernel
theorem dX7_isMended_17 : decode cX7_isMended 17 = .ok (.aload_n 0, 1) := by decide +kernel
theorem dX7_isMended_18 : decode cX7_isMended 18 = .ok (.getfield 16, 3) := by decide +kernel
theorem dX7_isMended_21 : decode cX7_isMended 21 = .ok (.iload_n 1, 1) := by decide +kernel
theorem dX7_isMended_22 : decode cX7_isMended 22 = .ok (.iaload, 1) := by decide +kernel
theorem dX7_isMended_23 : decode cX7_isMended 23 = .ok (.invokestatic 149, 3) := by decide +kernel
theorem dX7_isMended_26 : decode cX7_isMended 26 = .ok (.ifCond .eq 7, 3) := by decide +kernel
theorem dX7_isMended_29 : decode cX7_isMended 29 = .ok (.iconst 1, 1) := by decide +kernel
theorem dX7_isMended_30 : decode cX7_isMended 30 = .ok (.goto 4, 3) := by decide +kernel
theorem dX7_isMended_33 : decode cX7_isMended 33 = .ok (.iconst 0, 1) := by decide +kernel
theorem dX7_isMended_34 : decode cX7_isMended 34 = .ok (.ireturn, 1) := by decide +kernel
theorem dX7_mendedNow_0 : decode cX7_mendedNow 0 = .ok (.iconst 0, 1) := by decide +kernel
theorem dX7_mendedNow_1 : decode cX7_mendedNow 1 = .ok (.istore_n 1, 1) := by decide +kernel
theorem dX7_mendedNow_2 : decode cX7_mendedNow 2 = .ok (.iconst 0, 1) := by decide +kernel
theorem dX7_mendedNow_3 : decode cX7_mendedNow 3 = .ok (.istore_n 2, 1) := by decide +kernel
theorem dX7_mendedNow_4 : decode cX7_mendedNow 4 = .ok (.iload_n 2, 1) := by decide +kernel
theorem dX7_mendedNow_5 : decode cX7_mendedNow 5 = .ok (.aload_n 0, 1) := by decide +kernel
theorem dX7_mendedNow_6 : decode cX7_mendedNow 6 = .ok (.getfield 87, 3) := by decide +kernel
theorem dX7_mendedNow_9 : decode cX7_mendedNow 9 = .ok (.if_icmp .ge 27, 3) := by decide +kernel
theorem dX7_mendedNow_12 : decode cX7_mendedNow 12 = .ok (.iload_n 1, 1) := by decide +kernel
theorem dX7_mendedNow_13 : decode cX7_mendedNow 13 = .ok (.aload_n 0, 1) := by decide +kernel
theorem dX7_mendedNow_14 : decode cX7_mendedNow 14 = .ok (.iload_n 2, 1) := by decide +kernel
theorem dX7_mendedNow_15 : decode cX7_mendedNow 15 = .ok (.invokevirtual 152, 3) := by decide +kernel
theorem dX7_mendedNow_18 : decode cX7_mendedNow 18 = .ok (.ifCond .eq 9, 3) := by decide +kernel
theorem dX7_mendedNow_21 : decode cX7_mendedNow 21 = .ok (.iconst 1, 1) := by decide +kernel
theorem dX7_mendedNow_22 : decode cX7_mendedNow 22 = .ok (.iload_n 2, 1) := by decide +kernel
theorem dX7_mendedNow_23 : decode cX7_mendedNow 23 = .ok (.ishl, 1) := by decide +kernel
theorem dX7_mendedNow_24 : decode cX7_mendedNow 24 = .ok (.goto 4, 3) := by decide +kernel
theorem dX7_mendedNow_27 : decode cX7_mendedNow 27 = .ok (.iconst 0, 1) := by decide +kernel
theorem dX7_mendedNow_28 : decode cX7_mendedNow 28 = .ok (.ior, 1) := by decide +kernel
theorem dX7_mendedNow_29 : decode cX7_mendedNow 29 = .ok (.istore_n 1, 1) := by decide +kernel
theorem dX7_mendedNow_30 : decode cX7_mendedNow 30 = .ok (.iinc 2 1, 3) := by decide +kernel
theorem dX7_mendedNow_33 : decode cX7_mendedNow 33 = .ok (.goto (-29), 3) := by decide +kernel
theorem dX7_mendedNow_36 : decode cX7_mendedNow 36 = .ok (.iload_n 1, 1) := by decide +kernel
theorem dX7_mendedNow_37 : decode cX7_mendedNow 37 = .ok (.ireturn, 1) := by decide +kernel
theorem dX7_everybody_0 : decode cX7_everybody 0 = .ok (.iconst 1, 1) := by decide +kernel
theorem dX7_everybody_1 : decode cX7_everybody 1 = .ok (.aload_n 0, 1) := by decide +kernel
theorem dX7_everybody_2 : decode cX7_everybody 2 = .ok (.getfield 87, 3) := by decide +kernel
theorem dX7_everybody_5 : decode cX7_everybody 5 = .ok (.ishl, 1) := by decide +kernel
theorem dX7_everybody_6 : decode cX7_everybody 6 = .ok (.iconst 1, 1) := by decide +kernel
theorem dX7_everybody_7 : decode cX7_everybody 7 = .ok (.isub, 1) := by decide +kernel
theorem dX7_everybody_8 : decode cX7_everybody 8 = .ok (.ireturn, 1) := by decide +kernel
theorem dX7_sees_0 : decode cX7_sees 0 = .ok (.aload_n 0, 1) := by decide +kernel
theorem dX7_sees_1 : decode cX7_sees 1 = .ok (.getfield 34, 3) := by decide +kernel
theorem dX7_sees_4 : decode cX7_sees 4 = .ok (.iload_n 1, 1) := by decide +kernel
theorem dX7_sees_5 : decode cX7_sees 5 = .ok (.iaload, 1) := by decide +kernel
theorem dX7_sees_6 : decode cX7_sees 6 = .ok (.istore_n 2, 1) := by decide +kernel
theorem dX7_sees_7 : decode cX7_sees 7 = .ok (.aload_n 0, 1) := by decide +kernel
theorem dX7_sees_8 : decode cX7_sees 8 = .ok (.getfield 43, 3) := by decide +kernel
theorem dX7_sees_11 : decode cX7_sees 11 = .ok (.iload_n 1, 1) := by decide +kernel
theorem dX7_sees_12 : decode cX7_sees 12 = .ok (.dup2, 1) := by decide +kernel
theorem dX7_sees_13 : decode cX7_sees 13 = .ok (.iaload, 1) := by decide +kernel
theorem dX7_sees_14 : decode cX7_sees 14 = .ok (.aload_n 0, 1) := by decide +kernel
theorem dX7_sees_15 : decode cX7_sees 15 = .ok (.getfield 37, 3) := by decide +kernel
theorem dX7_sees_18 : decode cX7_sees 18 = .ok (.iload_n 2, 1) := by decide +kernel
theorem dX7_sees_19 : decode cX7_sees 19 = .ok (.iaload, 1) := by decide +kernel
theorem dX7_sees_20 : decode cX7_sees 20 = .ok (.ior, 1) := by decide +kernel
theorem dX7_sees_21 : decode cX7_sees 21 = .ok (.iastore, 1) := by decide +kernel
theorem dX7_sees_22 : decode cX7_sees 22 = .ok (.aload_n 0, 1) := by decide +kernel
theorem dX7_sees_23 : decode cX7_sees 23 = .ok (.getfield 46, 3) := by decide +kernel
theorem dX7_sees_26 : decode cX7_sees 26 = .ok (.iload_n 1, 1) := by decide +kernel
theorem dX7_sees_27 : decode cX7_sees 27 = .ok (.dup2, 1) := by decide +kernel
theorem dX7_sees_28 : decode cX7_sees 28 = .ok (.iaload, 1) := by decide +kernel
theorem dX7_sees_29 : decode cX7_sees 29 = .ok (.aload_n 0, 1) := by decide +kernel
theorem dX7_sees_30 : decode cX7_sees 30 = .ok (.getfield 37, 3) := by decide +kernel
theorem dX7_sees_33 : decode cX7_sees 33 = .ok (.iload_n 2, 1) := by decide +kernel
theorem dX7_sees_34 : decode cX7_sees 34 = .ok (.iaload, 1) := by decide +kernel
theorem dX7_sees_35 : decode cX7_sees 35 = .ok (.aload_n 0, 1) := by decide +kernel
theorem dX7_sees_36 : decode cX7_sees 36 = .ok (.getfield 16, 3) := by decide +kernel
theorem dX7_sees_39 : decode cX7_sees 39 = .ok (.iload_n 1, 1) := by decide +kernel
theorem dX7_sees_40 : decode cX7_sees 40 = .ok (.iaload, 1) := by decide +kernel
theorem dX7_sees_41 : decode cX7_sees 41 = .ok (.invokestatic 149, 3) := by decide +kernel
theorem dX7_sees_44 : decode cX7_sees 44 = .ok (.ifCond .eq 9, 3) := by decide +kernel
theorem dX7_sees_47 : decode cX7_sees 47 = .ok (.iconst 1, 1) := by decide +kernel
theorem dX7_sees_48 : decode cX7_sees 48 = .ok (.iload_n 2, 1) := by decide +kernel
theorem dX7_sees_49 : decode cX7_sees 49 = .ok (.ishl, 1) := by decide +kernel
theorem dX7_sees_50 : decode cX7_sees 50 = .ok (.goto 4, 3) := by decide +kernel
theorem dX7_sees_53 : decode cX7_sees 53 = .ok (.iconst 0, 1) := by decide +kernel
theorem dX7_sees_54 : decode cX7_sees 54 = .ok (.ior, 1) := by decide +kernel
theorem dX7_sees_55 : decode cX7_sees 55 = .ok (.iastore, 1) := by decide +kernel
theorem dX7_sees_56 : decode cX7_sees 56 = .ok (.return_, 1) := by decide +kernel
theorem dX7_begin_0 : decode cX7_begin 0 = .ok (.iconst 0, 1) := by decide +kernel
theorem dX7_begin_1 : decode cX7_begin 1 = .ok (.istore_n 1, 1) := by decide +kernel
theorem dX7_begin_2 : decode cX7_begin 2 = .ok (.iload_n 1, 1) := by decide +kernel
theorem dX7_begin_3 : decode cX7_begin 3 = .ok (.aload_n 0, 1) := by decide +kernel
theorem dX7_begin_4 : decode cX7_begin 4 = .ok (.getfield 87, 3) := by decide +kernel
theorem dX7_begin_7 : decode cX7_begin 7 = .ok (.if_icmp .ge 49, 3) := by decide +kernel
theorem dX7_begin_10 : decode cX7_begin 10 = .ok (.aload_n 0, 1) := by decide +kernel
theorem dX7_begin_11 : decode cX7_begin 11 = .ok (.getfield 34, 3) := by decide +kernel
theorem dX7_begin_14 : decode cX7_begin 14 = .ok (.iload_n 1, 1) := by decide +kernel
theorem dX7_begin_15 : decode cX7_begin 15 = .ok (.iload_n 1, 1) := by decide +kernel
theorem dX7_begin_16 : decode cX7_begin 16 = .ok (.iastore, 1) := by decide +kernel
theorem dX7_begin_17 : decode cX7_begin 17 = .ok (.aload_n 0, 1) := by decide +kernel
theorem dX7_begin_18 : decode cX7_begin 18 = .ok (.getfield 37, 3) := by decide +kernel
theorem dX7_begin_21 : decode cX7_begin 21 = .ok (.iload_n 1, 1) := by decide +kernel
theorem dX7_begin_22 : decode cX7_begin 22 = .ok (.aload_n 0, 1) := by decide +kernel
theorem dX7_begin_23 : decode cX7_begin 23 = .ok (.getfield 13, 3) := by decide +kernel
theorem dX7_begin_26 : decode cX7_begin 26 = .ok (.iload_n 1, 1) := by decide +kernel
theorem dX7_begin_27 : decode cX7_begin 27 = .ok (.iaload, 1) := by decide +kernel
theorem dX7_begin_28 : decode cX7_begin 28 = .ok (.iastore, 1) := by decide +kernel
theorem dX7_begin_29 : decode cX7_begin 29 = .ok (.aload_n 0, 1) := by decide +kernel
theorem dX7_begin_30 : decode cX7_begin 30 = .ok (.getfield 40, 3) := by decide +kernel
theorem dX7_begin_33 : decode cX7_begin 33 = .ok (.iload_n 1, 1) := by decide +kernel
theorem dX7_begin_34 : decode cX7_begin 34 = .ok (.iconst 0, 1) := by decide +kernel
theorem dX7_begin_35 : decode cX7_begin 35 = .ok (.iastore, 1) := by decide +kernel
theorem dX7_begin_36 : decode cX7_begin 36 = .ok (.aload_n 0, 1) := by decide +kernel
theorem dX7_begin_37 : decode cX7_begin 37 = .ok (.getfield 43, 3) := by decide +kernel
theorem dX7_begin_40 : decode cX7_begin 40 = .ok (.iload_n 1, 1) := by decide +kernel
theorem dX7_begin_41 : decode cX7_begin 41 = .ok (.iconst 0, 1) := by decide +kernel
theorem dX7_begin_42 : decode cX7_begin 42 = .ok (.iastore, 1) := by decide +kernel
theorem dX7_begin_43 : decode cX7_begin 43 = .ok (.aload_n 0, 1) := by decide +kernel
theorem dX7_begin_44 : decode cX7_begin 44 = .ok (.getfield 46, 3) := by decide +kernel
theorem dX7_begin_47 : decode cX7_begin 47 = .ok (.iload_n 1, 1) := by decide +kernel
theorem dX7_begin_48 : decode cX7_begin 48 = .ok (.iconst 0, 1) := by decide +kernel
theorem dX7_begin_49 : decode cX7_begin 49 = .ok (.iastore, 1) := by decide +kernel
theorem dX7_begin_50 : decode cX7_begin 50 = .ok (.iinc 1 1, 3) := by decide +kernel
theorem dX7_begin_53 : decode cX7_begin 53 = .ok (.goto (-51), 3) := by decide +kernel
theorem dX7_begin_56 : decode cX7_begin 56 = .ok (.iconst 0, 1) := by decide +kernel
theorem dX7_begin_57 : decode cX7_begin 57 = .ok (.istore_n 1, 1) := by decide +kernel
theorem dX7_begin_58 : decode cX7_begin 58 = .ok (.iload_n 1, 1) := by decide +kernel
theorem dX7_begin_59 : decode cX7_begin 59 = .ok (.aload_n 0, 1) := by decide +kernel
theorem dX7_begin_60 : decode cX7_begin 60 = .ok (.getfield 87, 3) := by decide +kernel
theorem dX7_begin_63 : decode cX7_begin 63 = .ok (.if_icmp .ge 14, 3) := by decide +kernel
theorem dX7_begin_66 : decode cX7_begin 66 = .ok (.aload_n 0, 1) := by decide +kernel
theorem dX7_begin_67 : decode cX7_begin 67 = .ok (.iload_n 1, 1) := by decide +kernel
theorem dX7_begin_68 : decode cX7_begin 68 = .ok (.invokevirtual 155, 3) := by decide +kernel
theorem dX7_begin_71 : decode cX7_begin 71 = .ok (.iinc 1 1, 3) := by decide +kernel
theorem dX7_begin_74 : decode cX7_begin 74 = .ok (.goto (-16), 3) := by decide +kernel
theorem dX7_begin_77 : decode cX7_begin 77 = .ok (.aload_n 0, 1) := by decide +kernel
theorem dX7_begin_78 : decode cX7_begin 78 = .ok (.bipush (-9), 2) := by decide +kernel
theorem dX7_begin_80 : decode cX7_begin 80 = .ok (.putfield 159, 3) := by decide +kernel
theorem dX7_begin_83 : decode cX7_begin 83 = .ok (.aload_n 0, 1) := by decide +kernel
theorem dX7_begin_84 : decode cX7_begin 84 = .ok (.bipush (-9), 2) := by decide +kernel
theorem dX7_begin_86 : decode cX7_begin 86 = .ok (.putfield 162, 3) := by decide +kernel
theorem dX7_begin_89 : decode cX7_begin 89 = .ok (.return_, 1) := by decide +kernel
theorem dX7_canLend_0 : decode cX7_canLend 0 = .ok (.iload_n 1, 1) := by decide +kernel
theorem dX7_canLend_1 : decode cX7_canLend 1 = .ok (.iload_n 2, 1) := by decide +kernel
theorem dX7_canLend_2 : decode cX7_canLend 2 = .ok (.if_icmp .eq 35, 3) := by decide +kernel
theorem dX7_canLend_5 : decode cX7_canLend 5 = .ok (.aload_n 0, 1) := by decide +kernel
theorem dX7_canLend_6 : decode cX7_canLend 6 = .ok (.getfield 37, 3) := by decide +kernel
theorem dX7_canLend_9 : decode cX7_canLend 9 = .ok (.aload_n 0, 1) := by decide +kernel
theorem dX7_canLend_10 : decode cX7_canLend 10 = .ok (.getfield 34, 3) := by decide +kernel
theorem dX7_canLend_13 : decode cX7_canLend 13 = .ok (.iload_n 1, 1) := by decide +kernel
theorem dX7_canLend_14 : decode cX7_canLend 14 = .ok (.iaload, 1) := by decide +kernel
theorem dX7_canLend_15 : decode cX7_canLend 15 = .ok (.iaload, 1) := by decide +kernel
theorem dX7_canLend_16 : decode cX7_canLend 16 = .ok (.ifCond .eq 21, 3) := by decide +kernel
theorem dX7_canLend_19 : decode cX7_canLend 19 = .ok (.aload_n 0, 1) := by decide +kernel
theorem dX7_canLend_20 : decode cX7_canLend 20 = .ok (.getfield 37, 3) := by decide +kernel
theorem dX7_canLend_23 : decode cX7_canLend 23 = .ok (.aload_n 0, 1) := by decide +kernel
theorem dX7_canLend_24 : decode cX7_canLend 24 = .ok (.getfield 34, 3) := by decide +kernel
theorem dX7_canLend_27 : decode cX7_canLend 27 = .ok (.iload_n 2, 1) := by decide +kernel
theorem dX7_canLend_28 : decode cX7_canLend 28 = .ok (.iaload, 1) := by decide +kernel
theorem dX7_canLend_29 : decode cX7_canLend 29 = .ok (.iaload, 1) := by decide +kernel
theorem dX7_canLend_30 : decode cX7_canLend 30 = .ok (.ifCond .eq 7, 3) := by decide +kernel
theorem dX7_canLend_33 : decode cX7_canLend 33 = .ok (.iconst 1, 1) := by decide +kernel
theorem dX7_canLend_34 : decode cX7_canLend 34 = .ok (.goto 4, 3) := by decide +kernel
theorem dX7_canLend_37 : decode cX7_canLend 37 = .ok (.iconst 0, 1) := by decide +kernel
theorem dX7_canLend_38 : decode cX7_canLend 38 = .ok (.ireturn, 1) := by decide +kernel
theorem dX7_wearsOff_0 : decode cX7_wearsOff 0 = .ok (.aload_n 0, 1) := by decide +kernel
theorem dX7_wearsOff_1 : decode cX7_wearsOff 1 = .ok (.getfield 40, 3) := by decide +kernel
theorem dX7_wearsOff_4 : decode cX7_wearsOff 4 = .ok (.iload_n 1, 1) := by decide +kernel
theorem dX7_wearsOff_5 : decode cX7_wearsOff 5 = .ok (.dup2, 1) := by decide +kernel
theorem dX7_wearsOff_6 : decode cX7_wearsOff 6 = .ok (.iaload, 1) := by decide +kernel
theorem dX7_wearsOff_7 : decode cX7_wearsOff 7 = .ok (.iconst 1, 1) := by decide +kernel
theorem dX7_wearsOff_8 : decode cX7_wearsOff 8 = .ok (.iadd, 1) := by decide +kernel
theorem dX7_wearsOff_9 : decode cX7_wearsOff 9 = .ok (.iastore, 1) := by decide +kernel
theorem dX7_wearsOff_10 : decode cX7_wearsOff 10 = .ok (.aload_n 0, 1) := by decide +kernel
theorem dX7_wearsOff_11 : decode cX7_wearsOff 11 = .ok (.getfield 40, 3) := by decide +kernel
theorem dX7_wearsOff_14 : decode cX7_wearsOff 14 = .ok (.iload_n 1, 1) := by decide +kernel
theorem dX7_wearsOff_15 : decode cX7_wearsOff 15 = .ok (.iaload, 1) := by decide +kernel
theorem dX7_wearsOff_16 : decode cX7_wearsOff 16 = .ok (.aload_n 0, 1) := by decide +kernel
theorem dX7_wearsOff_17 : decode cX7_wearsOff 17 = .ok (.iload_n 1, 1) := by decide +kernel
theorem dX7_wearsOff_18 : decode cX7_wearsOff 18 = .ok (.invokevirtual 142, 3) := by decide +kernel
theorem dX7_wearsOff_21 : decode cX7_wearsOff 21 = .ok (.if_icmp .le 20, 3) := by decide +kernel
theorem dX7_wearsOff_24 : decode cX7_wearsOff 24 = .ok (.aload_n 0, 1) := by decide +kernel
theorem dX7_wearsOff_25 : decode cX7_wearsOff 25 = .ok (.getfield 37, 3) := by decide +kernel
theorem dX7_wearsOff_28 : decode cX7_wearsOff 28 = .ok (.iload_n 1, 1) := by decide +kernel
theorem dX7_wearsOff_29 : decode cX7_wearsOff 29 = .ok (.dup2, 1) := by decide +kernel
theorem dX7_wearsOff_30 : decode cX7_wearsOff 30 = .ok (.iaload, 1) := by decide +kernel
theorem dX7_wearsOff_31 : decode cX7_wearsOff 31 = .ok (.aload_n 0, 1) := by decide +kernel
theorem dX7_wearsOff_32 : decode cX7_wearsOff 32 = .ok (.getfield 37, 3) := by decide +kernel
theorem dX7_wearsOff_35 : decode cX7_wearsOff 35 = .ok (.iload_n 1, 1) := by decide +kernel
theorem dX7_wearsOff_36 : decode cX7_wearsOff 36 = .ok (.iaload, 1) := by decide +kernel
theorem dX7_wearsOff_37 : decode cX7_wearsOff 37 = .ok (.iconst 1, 1) := by decide +kernel
theorem dX7_wearsOff_38 : decode cX7_wearsOff 38 = .ok (.isub, 1) := by decide +kernel
theorem dX7_wearsOff_39 : decode cX7_wearsOff 39 = .ok (.iand, 1) := by decide +kernel
theorem dX7_wearsOff_40 : decode cX7_wearsOff 40 = .ok (.iastore, 1) := by decide +kernel
theorem dX7_wearsOff_41 : decode cX7_wearsOff 41 = .ok (.return_, 1) := by decide +kernel
theorem dX7_lend_0 : decode cX7_lend 0 = .ok (.aload_n 0, 1) := by decide +kernel
theorem dX7_lend_1 : decode cX7_lend 1 = .ok (.getfield 34, 3) := by decide +kernel
theorem dX7_lend_4 : decode cX7_lend 4 = .ok (.iload_n 1, 1) := by decide +kernel
theorem dX7_lend_5 : decode cX7_lend 5 = .ok (.iaload, 1) := by decide +kernel
theorem dX7_lend_6 : decode cX7_lend 6 = .ok (.istore_n 3, 1) := by decide +kernel
theorem dX7_lend_7 : decode cX7_lend 7 = .ok (.aload_n 0, 1) := by decide +kernel
theorem dX7_lend_8 : decode cX7_lend 8 = .ok (.getfield 34, 3) := by decide +kernel
theorem dX7_lend_11 : decode cX7_lend 11 = .ok (.iload_n 1, 1) := by decide +kernel
theorem dX7_lend_12 : decode cX7_lend 12 = .ok (.aload_n 0, 1) := by decide +kernel
theorem dX7_lend_13 : decode cX7_lend 13 = .ok (.getfield 34, 3) := by decide +kernel
theorem dX7_lend_16 : decode cX7_lend 16 = .ok (.iload_n 2, 1) := by decide +kernel
theorem dX7_lend_17 : decode cX7_lend 17 = .ok (.iaload, 1) := by decide +kernel
theorem dX7_lend_18 : decode cX7_lend 18 = .ok (.iastore, 1) := by decide +kernel
theorem dX7_lend_19 : decode cX7_lend 19 = .ok (.aload_n 0, 1) := by decide +kernel
theorem dX7_lend_20 : decode cX7_lend 20 = .ok (.getfield 34, 3) := by decide +kernel
theorem dX7_lend_23 : decode cX7_lend 23 = .ok (.iload_n 2, 1) := by decide +kernel
theorem dX7_lend_24 : decode cX7_lend 24 = .ok (.iload_n 3, 1) := by decide +kernel
theorem dX7_lend_25 : decode cX7_lend 25 = .ok (.iastore, 1) := by decide +kernel
theorem dX7_lend_26 : decode cX7_lend 26 = .ok (.aload_n 0, 1) := by decide +kernel
theorem dX7_lend_27 : decode cX7_lend 27 = .ok (.aload_n 0, 1) := by decide +kernel
theorem dX7_lend_28 : decode cX7_lend 28 = .ok (.getfield 34, 3) := by decide +kernel
theorem dX7_lend_31 : decode cX7_lend 31 = .ok (.iload_n 1, 1) := by decide +kernel
theorem dX7_lend_32 : decode cX7_lend 32 = .ok (.iaload, 1) := by decide +kernel
theorem dX7_lend_33 : decode cX7_lend 33 = .ok (.invokevirtual 165, 3) := by decide +kernel
theorem dX7_lend_36 : decode cX7_lend 36 = .ok (.aload_n 0, 1) := by decide +kernel
theorem dX7_lend_37 : decode cX7_lend 37 = .ok (.aload_n 0, 1) := by decide +kernel
theorem dX7_lend_38 : decode cX7_lend 38 = .ok (.getfield 34, 3) := by decide +kernel
theorem dX7_lend_41 : decode cX7_lend 41 = .ok (.iload_n 2, 1) := by decide +kernel
theorem dX7_lend_42 : decode cX7_lend 42 = .ok (.iaload, 1) := by decide +kernel
theorem dX7_lend_43 : decode cX7_lend 43 = .ok (.invokevirtual 165, 3) := by decide +kernel
theorem dX7_lend_46 : decode cX7_lend 46 = .ok (.aload_n 0, 1) := by decide +kernel
theorem dX7_lend_47 : decode cX7_lend 47 = .ok (.iload_n 1, 1) := by decide +kernel
theorem dX7_lend_48 : decode cX7_lend 48 = .ok (.invokevirtual 155, 3) := by decide +kernel
theorem dX7_lend_51 : decode cX7_lend 51 = .ok (.aload_n 0, 1) := by decide +kernel
theorem dX7_lend_52 : decode cX7_lend 52 = .ok (.iload_n 2, 1) := by decide +kernel
theorem dX7_lend_53 : decode cX7_lend 53 = .ok (.invokevirtual 155, 3) := by decide +kernel
theorem dX7_lend_56 : decode cX7_lend 56 = .ok (.return_, 1) := by decide +kernel
theorem dX7_goLoans_0 : decode cX7_goLoans 0 = .ok (.aload_n 0, 1) := by decide +kernel
theorem dX7_goLoans_1 : decode cX7_goLoans 1 = .ok (.invokevirtual 168, 3) := by decide +kernel
theorem dX7_goLoans_4 : decode cX7_goLoans 4 = .ok (.aload_n 0, 1) := by decide +kernel
theorem dX7_goLoans_5 : decode cX7_goLoans 5 = .ok (.invokevirtual 171, 3) := by decide +kernel
theorem dX7_goLoans_8 : decode cX7_goLoans 8 = .ok (.aload_n 0, 1) := by decide +kernel
theorem dX7_goLoans_9 : decode cX7_goLoans 9 = .ok (.invokevirtual 175, 3) := by decide +kernel
theorem dX7_goLoans_12 : decode cX7_goLoans 12 = .ok (.if_icmp .ne 7, 3) := by decide +kernel
theorem dX7_goLoans_15 : decode cX7_goLoans 15 = .ok (.iconst 1, 1) := by decide +kernel
theorem dX7_goLoans_16 : decode cX7_goLoans 16 = .ok (.goto 4, 3) := by decide +kernel
theorem dX7_goLoans_19 : decode cX7_goLoans 19 = .ok (.iconst 0, 1) := by decide +kernel
theorem dX7_goLoans_20 : decode cX7_goLoans 20 = .ok (.istore_n 3, 1) := by decide +kernel
theorem dX7_goLoans_21 : decode cX7_goLoans 21 = .ok (.iconst 0, 1) := by decide +kernel
theorem dX7_goLoans_22 : decode cX7_goLoans 22 = .ok (.istore 4, 2) := by decide +kernel
theorem dX7_goLoans_24 : decode cX7_goLoans 24 = .ok (.iload 4, 2) := by decide +kernel
theorem dX7_goLoans_26 : decode cX7_goLoans 26 = .ok (.iload_n 2, 1) := by decide +kernel
theorem dX7_goLoans_27 : decode cX7_goLoans 27 = .ok (.if_icmp .ge 107, 3) := by decide +kernel
theorem dX7_goLoans_30 : decode cX7_goLoans 30 = .ok (.aload_n 0, 1) := by decide +kernel
theorem dX7_goLoans_31 : decode cX7_goLoans 31 = .ok (.getfield 159, 3) := by decide +kernel
theorem dX7_goLoans_34 : decode cX7_goLoans 34 = .ok (.ifCond .ge 100, 3) := by decide +kernel
theorem dX7_goLoans_37 : decode cX7_goLoans 37 = .ok (.aload_n 0, 1) := by decide +kernel
theorem dX7_goLoans_38 : decode cX7_goLoans 38 = .ok (.getfield 71, 3) := by decide +kernel
theorem dX7_goLoans_41 : decode cX7_goLoans 41 = .ok (.iload_n 1, 1) := by decide +kernel
theorem dX7_goLoans_42 : decode cX7_goLoans 42 = .ok (.iconst 2, 1) := by decide +kernel
theorem dX7_goLoans_43 : decode cX7_goLoans 43 = .ok (.iload 4, 2) := by decide +kernel
theorem dX7_goLoans_45 : decode cX7_goLoans 45 = .ok (.imul, 1) := by decide +kernel
theorem dX7_goLoans_46 : decode cX7_goLoans 46 = .ok (.iadd, 1) := by decide +kernel
theorem dX7_goLoans_47 : decode cX7_goLoans 47 = .ok (.iaload, 1) := by decide +kernel
theorem dX7_goLoans_48 : decode cX7_goLoans 48 = .ok (.istore 5, 2) := by decide +kernel
theorem dX7_goLoans_50 : decode cX7_goLoans 50 = .ok (.aload_n 0, 1) := by decide +kernel
theorem dX7_goLoans_51 : decode cX7_goLoans 51 = .ok (.getfield 71, 3) := by decide +kernel
theorem dX7_goLoans_54 : decode cX7_goLoans 54 = .ok (.iload_n 1, 1) := by decide +kernel
theorem dX7_goLoans_55 : decode cX7_goLoans 55 = .ok (.iconst 2, 1) := by decide +kernel
theorem dX7_goLoans_56 : decode cX7_goLoans 56 = .ok (.iload 4, 2) := by decide +kernel
theorem dX7_goLoans_58 : decode cX7_goLoans 58 = .ok (.imul, 1) := by decide +kernel
theorem dX7_goLoans_59 : decode cX7_goLoans 59 = .ok (.iadd, 1) := by decide +kernel
theorem dX7_goLoans_60 : decode cX7_goLoans 60 = .ok (.iconst 1, 1) := by decide +kernel
theorem dX7_goLoans_61 : decode cX7_goLoans 61 = .ok (.iadd, 1) := by decide +kernel
theorem dX7_goLoans_62 : decode cX7_goLoans 62 = .ok (.iaload, 1) := by decide +kernel
theorem dX7_goLoans_63 : decode cX7_goLoans 63 = .ok (.istore 6, 2) := by decide +kernel
theorem dX7_goLoans_65 : decode cX7_goLoans 65 = .ok (.aload_n 0, 1) := by decide +kernel
theorem dX7_goLoans_66 : decode cX7_goLoans 66 = .ok (.iload 5, 2) := by decide +kernel
theorem dX7_goLoans_68 : decode cX7_goLoans 68 = .ok (.iload 6, 2) := by decide +kernel
theorem dX7_goLoans_70 : decode cX7_goLoans 70 = .ok (.invokevirtual 178, 3) := by decide +kernel
theorem dX7_goLoans_73 : decode cX7_goLoans 73 = .ok (.ifCond .eq 49, 3) := by decide +kernel
theorem dX7_goLoans_76 : decode cX7_goLoans 76 = .ok (.aload_n 0, 1) := by decide +kernel
theorem dX7_goLoans_77 : decode cX7_goLoans 77 = .ok (.iload 5, 2) := by decide +kernel
theorem dX7_goLoans_79 : decode cX7_goLoans 79 = .ok (.iload 6, 2) := by decide +kernel
theorem dX7_goLoans_81 : decode cX7_goLoans 81 = .ok (.invokevirtual 181, 3) := by decide +kernel
theorem dX7_goLoans_84 : decode cX7_goLoans 84 = .ok (.aload_n 0, 1) := by decide +kernel
theorem dX7_goLoans_85 : decode cX7_goLoans 85 = .ok (.iload_n 3, 1) := by decide +kernel
theorem dX7_goLoans_86 : decode cX7_goLoans 86 = .ok (.ifCond .ne 26, 3) := by decide +kernel
theorem dX7_goLoans_89 : decode cX7_goLoans 89 = .ok (.aload_n 0, 1) := by decide +kernel
theorem dX7_goLoans_90 : decode cX7_goLoans 90 = .ok (.getfield 162, 3) := by decide +kernel
theorem dX7_goLoans_93 : decode cX7_goLoans 93 = .ok (.ifCond .ge 19, 3) := by decide +kernel
theorem dX7_goLoans_96 : decode cX7_goLoans 96 = .ok (.aload_n 0, 1) := by decide +kernel
theorem dX7_goLoans_97 : decode cX7_goLoans 97 = .ok (.invokevirtual 171, 3) := by decide +kernel
theorem dX7_goLoans_100 : decode cX7_goLoans 100 = .ok (.aload_n 0, 1) := by decide +kernel
theorem dX7_goLoans_101 : decode cX7_goLoans 101 = .ok (.invokevirtual 175, 3) := by decide +kernel
theorem dX7_goLoans_104 : decode cX7_goLoans 104 = .ok (.if_icmp .ne 8, 3) := by decide +kernel
theorem dX7_goLoans_107 : decode cX7_goLoans 107 = .ok (.iload 4, 2) := by decide +kernel
theorem dX7_goLoans_109 : decode cX7_goLoans 109 = .ok (.goto 7, 3) := by decide +kernel
theorem dX7_goLoans_112 : decode cX7_goLoans 112 = .ok (.aload_n 0, 1) := by decide +kernel
theorem dX7_goLoans_113 : decode cX7_goLoans 113 = .ok (.getfield 162, 3) := by decide +kernel
theorem dX7_goLoans_116 : decode cX7_goLoans 116 = .ok (.putfield 162, 3) := by decide +kernel
theorem dX7_goLoans_119 : decode cX7_goLoans 119 = .ok (.goto 9, 3) := by decide +kernel
theorem dX7_goLoans_122 : decode cX7_goLoans 122 = .ok (.aload_n 0, 1) := by decide +kernel
theorem dX7_goLoans_123 : decode cX7_goLoans 123 = .ok (.iload 4, 2) := by decide +kernel
theorem dX7_goLoans_125 : decode cX7_goLoans 125 = .ok (.putfield 159, 3) := by decide +kernel
theorem dX7_goLoans_128 : decode cX7_goLoans 128 = .ok (.iinc 4 1, 3) := by decide +kernel
theorem dX7_goLoans_131 : decode cX7_goLoans 131 = .ok (.goto (-107), 3) := by decide +kernel
theorem dX7_goLoans_134 : decode cX7_goLoans 134 = .ok (.return_, 1) := by decide +kernel
theorem dX7_homeBy_0 : decode cX7_homeBy 0 = .ok (.iconst 0, 1) := by decide +kernel
theorem dX7_homeBy_1 : decode cX7_homeBy 1 = .ok (.istore_n 1, 1) := by decide +kernel
theorem dX7_homeBy_2 : decode cX7_homeBy 2 = .ok (.iconst 0, 1) := by decide +kernel
theorem dX7_homeBy_3 : decode cX7_homeBy 3 = .ok (.istore_n 2, 1) := by decide +kernel
theorem dX7_homeBy_4 : decode cX7_homeBy 4 = .ok (.iconst 0, 1) := by decide +kernel
theorem dX7_homeBy_5 : decode cX7_homeBy 5 = .ok (.istore_n 3, 1) := by decide +kernel
theorem dX7_homeBy_6 : decode cX7_homeBy 6 = .ok (.iload_n 3, 1) := by decide +kernel
theorem dX7_homeBy_7 : decode cX7_homeBy 7 = .ok (.aload_n 0, 1) := by decide +kernel
theorem dX7_homeBy_8 : decode cX7_homeBy 8 = .ok (.getfield 87, 3) := by decide +kernel
theorem dX7_homeBy_11 : decode cX7_homeBy 11 = .ok (.if_icmp .ge 56, 3) := by decide +kernel
theorem dX7_homeBy_14 : decode cX7_homeBy 14 = .ok (.iload_n 2, 1) := by decide +kernel
theorem dX7_homeBy_15 : decode cX7_homeBy 15 = .ok (.iload_n 1, 1) := by decide +kernel
theorem dX7_homeBy_16 : decode cX7_homeBy 16 = .ok (.iload_n 3, 1) := by decide +kernel
theorem dX7_homeBy_17 : decode cX7_homeBy 17 = .ok (.invokestatic 149, 3) := by decide +kernel
theorem dX7_homeBy_20 : decode cX7_homeBy 20 = .ok (.ifCond .eq 7, 3) := by decide +kernel
theorem dX7_homeBy_23 : decode cX7_homeBy 23 = .ok (.iconst 0, 1) := by decide +kernel
theorem dX7_homeBy_24 : decode cX7_homeBy 24 = .ok (.goto 4, 3) := by decide +kernel
theorem dX7_homeBy_27 : decode cX7_homeBy 27 = .ok (.iconst 1, 1) := by decide +kernel
theorem dX7_homeBy_28 : decode cX7_homeBy 28 = .ok (.iadd, 1) := by decide +kernel
theorem dX7_homeBy_29 : decode cX7_homeBy 29 = .ok (.istore_n 2, 1) := by decide +kernel
theorem dX7_homeBy_30 : decode cX7_homeBy 30 = .ok (.iload_n 3, 1) := by decide +kernel
theorem dX7_homeBy_31 : decode cX7_homeBy 31 = .ok (.istore 4, 2) := by decide +kernel
theorem dX7_homeBy_33 : decode cX7_homeBy 33 = .ok (.iload_n 1, 1) := by decide +kernel
theorem dX7_homeBy_34 : decode cX7_homeBy 34 = .ok (.iload 4, 2) := by decide +kernel
theorem dX7_homeBy_36 : decode cX7_homeBy 36 = .ok (.invokestatic 149, 3) := by decide +kernel
theorem dX7_homeBy_39 : decode cX7_homeBy 39 = .ok (.ifCond .ne 22, 3) := by decide +kernel
theorem dX7_homeBy_42 : decode cX7_homeBy 42 = .ok (.iload_n 1, 1) := by decide +kernel
theorem dX7_homeBy_43 : decode cX7_homeBy 43 = .ok (.iconst 1, 1) := by decide +kernel
theorem dX7_homeBy_44 : decode cX7_homeBy 44 = .ok (.iload 4, 2) := by decide +kernel
theorem dX7_homeBy_46 : decode cX7_homeBy 46 = .ok (.ishl, 1) := by decide +kernel
theorem dX7_homeBy_47 : decode cX7_homeBy 47 = .ok (.ior, 1) := by decide +kernel
theorem dX7_homeBy_48 : decode cX7_homeBy 48 = .ok (.istore_n 1, 1) := by decide +kernel
theorem dX7_homeBy_49 : decode cX7_homeBy 49 = .ok (.aload_n 0, 1) := by decide +kernel
theorem dX7_homeBy_50 : decode cX7_homeBy 50 = .ok (.getfield 34, 3) := by decide +kernel
theorem dX7_homeBy_53 : decode cX7_homeBy 53 = .ok (.iload 4, 2) := by decide +kernel
theorem dX7_homeBy_55 : decode cX7_homeBy 55 = .ok (.iaload, 1) := by decide +kernel
theorem dX7_homeBy_56 : decode cX7_homeBy 56 = .ok (.istore 4, 2) := by decide +kernel
theorem dX7_homeBy_58 : decode cX7_homeBy 58 = .ok (.goto (-25), 3) := by decide +kernel
theorem dX7_homeBy_61 : decode cX7_homeBy 61 = .ok (.iinc 3 1, 3) := by decide +kernel
theorem dX7_homeBy_64 : decode cX7_homeBy 64 = .ok (.goto (-58), 3) := by decide +kernel
theorem dX7_homeBy_67 : decode cX7_homeBy 67 = .ok (.aload_n 0, 1) := by decide +kernel
theorem dX7_homeBy_68 : decode cX7_homeBy 68 = .ok (.getfield 87, 3) := by decide +kernel
theorem dX7_homeBy_71 : decode cX7_homeBy 71 = .ok (.iload_n 2, 1) := by decide +kernel
theorem dX7_homeBy_72 : decode cX7_homeBy 72 = .ok (.isub, 1) := by decide +kernel
theorem dX7_homeBy_73 : decode cX7_homeBy 73 = .ok (.ireturn, 1) := by decide +kernel
theorem dX7_pairsBarred_0 : decode cX7_pairsBarred 0 = .ok (.aload_n 0, 1) := by decide +kernel
theorem dX7_pairsBarred_1 : decode cX7_pairsBarred 1 = .ok (.iload_n 1, 1) := by decide +kernel
theorem dX7_pairsBarred_2 : decode cX7_pairsBarred 2 = .ok (.iload_n 2, 1) := by decide +kernel
theorem dX7_pairsBarred_3 : decode cX7_pairsBarred 3 = .ok (.iload_n 3, 1) := by decide +kernel
theorem dX7_pairsBarred_4 : decode cX7_pairsBarred 4 = .ok (.ldc2_w 127, 3) := by decide +kernel
theorem dX7_pairsBarred_7 : decode cX7_pairsBarred 7 = .ok (.iload 4, 2) := by decide +kernel
theorem dX7_pairsBarred_9 : decode cX7_pairsBarred 9 = .ok (.i2l, 1) := by decide +kernel
theorem dX7_pairsBarred_10 : decode cX7_pairsBarred 10 = .ok (.lmul, 1) := by decide +kernel
theorem dX7_pairsBarred_11 : decode cX7_pairsBarred 11 = .ok (.invokevirtual 129, 3) := by decide +kernel
theorem dX7_pairsBarred_14 : decode cX7_pairsBarred 14 = .ok (.istore 5, 2) := by decide +kernel
theorem dX7_pairsBarred_16 : decode cX7_pairsBarred 16 = .ok (.iload 5, 2) := by decide +kernel
theorem dX7_pairsBarred_18 : decode cX7_pairsBarred 18 = .ok (.ifCond .ge 6, 3) := by decide +kernel
theorem dX7_pairsBarred_21 : decode cX7_pairsBarred 21 = .ok (.iload 5, 2) := by decide +kernel
theorem dX7_pairsBarred_23 : decode cX7_pairsBarred 23 = .ok (.ireturn, 1) := by decide +kernel
theorem dX7_pairsBarred_24 : decode cX7_pairsBarred 24 = .ok (.iconst 0, 1) := by decide +kernel
theorem dX7_pairsBarred_25 : decode cX7_pairsBarred 25 = .ok (.istore 6, 2) := by decide +kernel
theorem dX7_pairsBarred_27 : decode cX7_pairsBarred 27 = .ok (.iload 6, 2) := by decide +kernel
theorem dX7_pairsBarred_29 : decode cX7_pairsBarred 29 = .ok (.iconst 2, 1) := by decide +kernel
theorem dX7_pairsBarred_30 : decode cX7_pairsBarred 30 = .ok (.iload 4, 2) := by decide +kernel
theorem dX7_pairsBarred_32 : decode cX7_pairsBarred 32 = .ok (.imul, 1) := by decide +kernel
theorem dX7_pairsBarred_33 : decode cX7_pairsBarred 33 = .ok (.if_icmp .ge 36, 3) := by decide +kernel
theorem dX7_pairsBarred_36 : decode cX7_pairsBarred 36 = .ok (.aload_n 0, 1) := by decide +kernel
theorem dX7_pairsBarred_37 : decode cX7_pairsBarred 37 = .ok (.aload_n 0, 1) := by decide +kernel
theorem dX7_pairsBarred_38 : decode cX7_pairsBarred 38 = .ok (.getfield 71, 3) := by decide +kernel
theorem dX7_pairsBarred_41 : decode cX7_pairsBarred 41 = .ok (.bipush 60, 2) := by decide +kernel
theorem dX7_pairsBarred_43 : decode cX7_pairsBarred 43 = .ok (.iload_n 1, 1) := by decide +kernel
theorem dX7_pairsBarred_44 : decode cX7_pairsBarred 44 = .ok (.imul, 1) := by decide +kernel
theorem dX7_pairsBarred_45 : decode cX7_pairsBarred 45 = .ok (.iload_n 3, 1) := by decide +kernel
theorem dX7_pairsBarred_46 : decode cX7_pairsBarred 46 = .ok (.iadd, 1) := by decide +kernel
theorem dX7_pairsBarred_47 : decode cX7_pairsBarred 47 = .ok (.iload 6, 2) := by decide +kernel
theorem dX7_pairsBarred_49 : decode cX7_pairsBarred 49 = .ok (.iadd, 1) := by decide +kernel
theorem dX7_pairsBarred_50 : decode cX7_pairsBarred 50 = .ok (.iaload, 1) := by decide +kernel
theorem dX7_pairsBarred_51 : decode cX7_pairsBarred 51 = .ok (.invokevirtual 139, 3) := by decide +kernel
theorem dX7_pairsBarred_54 : decode cX7_pairsBarred 54 = .ok (.ifCond .eq 9, 3) := by decide +kernel
theorem dX7_pairsBarred_57 : decode cX7_pairsBarred 57 = .ok (.aload_n 0, 1) := by decide +kernel
theorem dX7_pairsBarred_58 : decode cX7_pairsBarred 58 = .ok (.iconst (-1), 1) := by decide +kernel
theorem dX7_pairsBarred_59 : decode cX7_pairsBarred 59 = .ok (.invokevirtual 124, 3) := by decide +kernel
theorem dX7_pairsBarred_62 : decode cX7_pairsBarred 62 = .ok (.ireturn, 1) := by decide +kernel
theorem dX7_pairsBarred_63 : decode cX7_pairsBarred 63 = .ok (.iinc 6 1, 3) := by decide +kernel
theorem dX7_pairsBarred_66 : decode cX7_pairsBarred 66 = .ok (.goto (-39), 3) := by decide +kernel
theorem dX7_pairsBarred_69 : decode cX7_pairsBarred 69 = .ok (.aload_n 0, 1) := by decide +kernel
theorem dX7_pairsBarred_70 : decode cX7_pairsBarred 70 = .ok (.iconst 0, 1) := by decide +kernel
theorem dX7_pairsBarred_71 : decode cX7_pairsBarred 71 = .ok (.invokevirtual 124, 3) := by decide +kernel
theorem dX7_pairsBarred_74 : decode cX7_pairsBarred 74 = .ok (.ireturn, 1) := by decide +kernel
theorem dX7_loans_0 : decode cX7_loans 0 = .ok (.iload_n 1, 1) := by decide +kernel
theorem dX7_loans_1 : decode cX7_loans 1 = .ok (.invokestatic 120, 3) := by decide +kernel
theorem dX7_loans_4 : decode cX7_loans 4 = .ok (.ifCond .eq 9, 3) := by decide +kernel
theorem dX7_loans_7 : decode cX7_loans 7 = .ok (.aload_n 0, 1) := by decide +kernel
theorem dX7_loans_8 : decode cX7_loans 8 = .ok (.iconst (-1), 1) := by decide +kernel
theorem dX7_loans_9 : decode cX7_loans 9 = .ok (.invokevirtual 124, 3) := by decide +kernel
theorem dX7_loans_12 : decode cX7_loans 12 = .ok (.ireturn, 1) := by decide +kernel
theorem dX7_loans_13 : decode cX7_loans 13 = .ok (.iload 5, 2) := by decide +kernel
theorem dX7_loans_15 : decode cX7_loans 15 = .ok (.i2l, 1) := by decide +kernel
theorem dX7_loans_16 : decode cX7_loans 16 = .ok (.lconst 0, 1) := by decide +kernel
theorem dX7_loans_17 : decode cX7_loans 17 = .ok (.ldc2_w 185, 3) := by decide +kernel
theorem dX7_loans_20 : decode cX7_loans 20 = .ok (.invokestatic 90, 3) := by decide +kernel
theorem dX7_loans_23 : decode cX7_loans 23 = .ok (.ifCond .ne 48, 3) := by decide +kernel
theorem dX7_loans_26 : decode cX7_loans 26 = .ok (.iload 5, 2) := by decide +kernel
theorem dX7_loans_28 : decode cX7_loans 28 = .ok (.i2l, 1) := by decide +kernel
theorem dX7_loans_29 : decode cX7_loans 29 = .ok (.ldc2_w 187, 3) := by decide +kernel
theorem dX7_loans_32 : decode cX7_loans 32 = .ok (.ldc2_w 189, 3) := by decide +kernel
theorem dX7_loans_35 : decode cX7_loans 35 = .ok (.invokestatic 90, 3) := by decide +kernel
theorem dX7_loans_38 : decode cX7_loans 38 = .ok (.ifCond .ne 33, 3) := by decide +kernel
theorem dX7_loans_41 : decode cX7_loans 41 = .ok (.iload 5, 2) := by decide +kernel
theorem dX7_loans_43 : decode cX7_loans 43 = .ok (.i2l, 1) := by decide +kernel
theorem dX7_loans_44 : decode cX7_loans 44 = .ok (.ldc2_w 191, 3) := by decide +kernel
theorem dX7_loans_47 : decode cX7_loans 47 = .ok (.ldc2_w 193, 3) := by decide +kernel
theorem dX7_loans_50 : decode cX7_loans 50 = .ok (.invokestatic 90, 3) := by decide +kernel
theorem dX7_loans_53 : decode cX7_loans 53 = .ok (.ifCond .ne 18, 3) := by decide +kernel
theorem dX7_loans_56 : decode cX7_loans 56 = .ok (.iload 5, 2) := by decide +kernel
theorem dX7_loans_58 : decode cX7_loans 58 = .ok (.i2l, 1) := by decide +kernel
theorem dX7_loans_59 : decode cX7_loans 59 = .ok (.ldc2_w 195, 3) := by decide +kernel
theorem dX7_loans_62 : decode cX7_loans 62 = .ok (.ldc2_w 197, 3) := by decide +kernel
theorem dX7_loans_65 : decode cX7_loans 65 = .ok (.invokestatic 90, 3) := by decide +kernel
theorem dX7_loans_68 : decode cX7_loans 68 = .ok (.ifCond .eq 7, 3) := by decide +kernel
theorem dX7_loans_71 : decode cX7_loans 71 = .ok (.iconst 1, 1) := by decide +kernel
theorem dX7_loans_72 : decode cX7_loans 72 = .ok (.goto 4, 3) := by decide +kernel
theorem dX7_loans_75 : decode cX7_loans 75 = .ok (.iconst 0, 1) := by decide +kernel
theorem dX7_loans_76 : decode cX7_loans 76 = .ok (.istore 6, 2) := by decide +kernel
theorem dX7_loans_78 : decode cX7_loans 78 = .ok (.iload_n 2, 1) := by decide +kernel
theorem dX7_loans_79 : decode cX7_loans 79 = .ok (.i2l, 1) := by decide +kernel
theorem dX7_loans_80 : decode cX7_loans 80 = .ok (.lconst 0, 1) := by decide +kernel
theorem dX7_loans_81 : decode cX7_loans 81 = .ok (.ldc2_w 127, 3) := by decide +kernel
theorem dX7_loans_84 : decode cX7_loans 84 = .ok (.invokestatic 90, 3) := by decide +kernel
theorem dX7_loans_87 : decode cX7_loans 87 = .ok (.ifCond .eq 21, 3) := by decide +kernel
theorem dX7_loans_90 : decode cX7_loans 90 = .ok (.iload 4, 2) := by decide +kernel
theorem dX7_loans_92 : decode cX7_loans 92 = .ok (.i2l, 1) := by decide +kernel
theorem dX7_loans_93 : decode cX7_loans 93 = .ok (.lconst 0, 1) := by decide +kernel
theorem dX7_loans_94 : decode cX7_loans 94 = .ok (.ldc2_w 191, 3) := by decide +kernel
theorem dX7_loans_97 : decode cX7_loans 97 = .ok (.invokestatic 90, 3) := by decide +kernel
theorem dX7_loans_100 : decode cX7_loans 100 = .ok (.ifCond .eq 8, 3) := by decide +kernel
theorem dX7_loans_103 : decode cX7_loans 103 = .ok (.iload 6, 2) := by decide +kernel
theorem dX7_loans_105 : decode cX7_loans 105 = .ok (.ifCond .ne 10, 3) := by decide +kernel
theorem dX7_loans_108 : decode cX7_loans 108 = .ok (.aload_n 0, 1) := by decide +kernel
theorem dX7_loans_109 : decode cX7_loans 109 = .ok (.bipush (-2), 2) := by decide +kernel
theorem dX7_loans_111 : decode cX7_loans 111 = .ok (.invokevirtual 124, 3) := by decide +kernel
theorem dX7_loans_114 : decode cX7_loans 114 = .ok (.ireturn, 1) := by decide +kernel
theorem dX7_loans_115 : decode cX7_loans 115 = .ok (.aload_n 0, 1) := by decide +kernel
theorem dX7_loans_116 : decode cX7_loans 116 = .ok (.getfield 87, 3) := by decide +kernel
theorem dX7_loans_119 : decode cX7_loans 119 = .ok (.ifCond .ne 10, 3) := by decide +kernel
theorem dX7_loans_122 : decode cX7_loans 122 = .ok (.aload_n 0, 1) := by decide +kernel
theorem dX7_loans_123 : decode cX7_loans 123 = .ok (.bipush (-3), 2) := by decide +kernel
theorem dX7_loans_125 : decode cX7_loans 125 = .ok (.invokevirtual 124, 3) := by decide +kernel
theorem dX7_loans_128 : decode cX7_loans 128 = .ok (.ireturn, 1) := by decide +kernel
theorem dX7_loans_129 : decode cX7_loans 129 = .ok (.aload_n 0, 1) := by decide +kernel
theorem dX7_loans_130 : decode cX7_loans 130 = .ok (.iload_n 1, 1) := by decide +kernel
theorem dX7_loans_131 : decode cX7_loans 131 = .ok (.iload_n 2, 1) := by decide +kernel
theorem dX7_loans_132 : decode cX7_loans 132 = .ok (.iload_n 3, 1) := by decide +kernel
theorem dX7_loans_133 : decode cX7_loans 133 = .ok (.iload 4, 2) := by decide +kernel
theorem dX7_loans_135 : decode cX7_loans 135 = .ok (.invokevirtual 199, 3) := by decide +kernel
theorem dX7_loans_138 : decode cX7_loans 138 = .ok (.istore 7, 2) := by decide +kernel
theorem dX7_loans_140 : decode cX7_loans 140 = .ok (.iload 7, 2) := by decide +kernel
theorem dX7_loans_142 : decode cX7_loans 142 = .ok (.ifCond .ge 6, 3) := by decide +kernel
theorem dX7_loans_145 : decode cX7_loans 145 = .ok (.iload 7, 2) := by decide +kernel
theorem dX7_loans_147 : decode cX7_loans 147 = .ok (.ireturn, 1) := by decide +kernel
theorem dX7_loans_148 : decode cX7_loans 148 = .ok (.aload_n 0, 1) := by decide +kernel
theorem dX7_loans_149 : decode cX7_loans 149 = .ok (.bipush 60, 2) := by decide +kernel
theorem dX7_loans_151 : decode cX7_loans 151 = .ok (.iload_n 1, 1) := by decide +kernel
theorem dX7_loans_152 : decode cX7_loans 152 = .ok (.imul, 1) := by decide +kernel
theorem dX7_loans_153 : decode cX7_loans 153 = .ok (.iload_n 3, 1) := by decide +kernel
theorem dX7_loans_154 : decode cX7_loans 154 = .ok (.iadd, 1) := by decide +kernel
theorem dX7_loans_155 : decode cX7_loans 155 = .ok (.iload 4, 2) := by decide +kernel
theorem dX7_loans_157 : decode cX7_loans 157 = .ok (.invokevirtual 202, 3) := by decide +kernel
theorem dX7_loans_160 : decode cX7_loans 160 = .ok (.iload 5, 2) := by decide +kernel
theorem dX7_loans_162 : decode cX7_loans 162 = .ok (.iconst 1, 1) := by decide +kernel
theorem dX7_loans_163 : decode cX7_loans 163 = .ok (.if_icmp .ne 8, 3) := by decide +kernel
theorem dX7_loans_166 : decode cX7_loans 166 = .ok (.aload_n 0, 1) := by decide +kernel
theorem dX7_loans_167 : decode cX7_loans 167 = .ok (.getfield 159, 3) := by decide +kernel
theorem dX7_loans_170 : decode cX7_loans 170 = .ok (.ireturn, 1) := by decide +kernel
theorem dX7_loans_171 : decode cX7_loans 171 = .ok (.aload_n 0, 1) := by decide +kernel
theorem dX7_loans_172 : decode cX7_loans 172 = .ok (.getfield 159, 3) := by decide +kernel
theorem dX7_loans_175 : decode cX7_loans 175 = .ok (.ifCond .lt 11, 3) := by decide +kernel
theorem dX7_loans_178 : decode cX7_loans 178 = .ok (.bipush (-100), 2) := by decide +kernel
theorem dX7_loans_180 : decode cX7_loans 180 = .ok (.aload_n 0, 1) := by decide +kernel
theorem dX7_loans_181 : decode cX7_loans 181 = .ok (.getfield 159, 3) := by decide +kernel
theorem dX7_loans_184 : decode cX7_loans 184 = .ok (.isub, 1) := by decide +kernel
theorem dX7_loans_185 : decode cX7_loans 185 = .ok (.ireturn, 1) := by decide +kernel
theorem dX7_loans_186 : decode cX7_loans 186 = .ok (.iload 5, 2) := by decide +kernel
theorem dX7_loans_188 : decode cX7_loans 188 = .ok (.bipush 9, 2) := by decide +kernel
theorem dX7_loans_190 : decode cX7_loans 190 = .ok (.if_icmp .le 66, 3) := by decide +kernel
theorem dX7_loans_193 : decode cX7_loans 193 = .ok (.iload 5, 2) := by decide +kernel
theorem dX7_loans_195 : decode cX7_loans 195 = .ok (.bipush 10, 2) := by decide +kernel
theorem dX7_loans_197 : decode cX7_loans 197 = .ok (.irem, 1) := by decide +kernel
theorem dX7_loans_198 : decode cX7_loans 198 = .ok (.istore 8, 2) := by decide +kernel
theorem dX7_loans_200 : decode cX7_loans 200 = .ok (.aload_n 0, 1) := by decide +kernel
theorem dX7_loans_201 : decode cX7_loans 201 = .ok (.iload 8, 2) := by decide +kernel
theorem dX7_loans_203 : decode cX7_loans 203 = .ok (.invokevirtual 139, 3) := by decide +kernel
theorem dX7_loans_206 : decode cX7_loans 206 = .ok (.ifCond .eq 8, 3) := by decide +kernel
theorem dX7_loans_209 : decode cX7_loans 209 = .ok (.bipush (-9), 2) := by decide +kernel
theorem dX7_loans_211 : decode cX7_loans 211 = .ok (.goto 44, 3) := by decide +kernel
theorem dX7_loans_214 : decode cX7_loans 214 = .ok (.iload 5, 2) := by decide +kernel
theorem dX7_loans_216 : decode cX7_loans 216 = .ok (.bipush 20, 2) := by decide +kernel
theorem dX7_loans_218 : decode cX7_loans 218 = .ok (.if_icmp .ge 13, 3) := by decide +kernel
theorem dX7_loans_221 : decode cX7_loans 221 = .ok (.aload_n 0, 1) := by decide +kernel
theorem dX7_loans_222 : decode cX7_loans 222 = .ok (.getfield 34, 3) := by decide +kernel
theorem dX7_loans_225 : decode cX7_loans 225 = .ok (.iload 8, 2) := by decide +kernel
theorem dX7_loans_227 : decode cX7_loans 227 = .ok (.iaload, 1) := by decide +kernel
theorem dX7_loans_228 : decode cX7_loans 228 = .ok (.goto 27, 3) := by decide +kernel
theorem dX7_loans_231 : decode cX7_loans 231 = .ok (.iload 5, 2) := by decide +kernel
theorem dX7_loans_233 : decode cX7_loans 233 = .ok (.bipush 30, 2) := by decide +kernel
theorem dX7_loans_235 : decode cX7_loans 235 = .ok (.if_icmp .ge 13, 3) := by decide +kernel
theorem dX7_loans_238 : decode cX7_loans 238 = .ok (.aload_n 0, 1) := by decide +kernel
theorem dX7_loans_239 : decode cX7_loans 239 = .ok (.getfield 43, 3) := by decide +kernel
theorem dX7_loans_242 : decode cX7_loans 242 = .ok (.iload 8, 2) := by decide +kernel
theorem dX7_loans_244 : decode cX7_loans 244 = .ok (.iaload, 1) := by decide +kernel
theorem dX7_loans_245 : decode cX7_loans 245 = .ok (.goto 10, 3) := by decide +kernel
theorem dX7_loans_248 : decode cX7_loans 248 = .ok (.aload_n 0, 1) := by decide +kernel
theorem dX7_loans_249 : decode cX7_loans 249 = .ok (.getfield 37, 3) := by decide +kernel
theorem dX7_loans_252 : decode cX7_loans 252 = .ok (.iload 8, 2) := by decide +kernel
theorem dX7_loans_254 : decode cX7_loans 254 = .ok (.iaload, 1) := by decide +kernel
theorem dX7_loans_255 : decode cX7_loans 255 = .ok (.ireturn, 1) := by decide +kernel
theorem dX7_loans_256 : decode cX7_loans 256 = .ok (.iload 5, 2) := by decide +kernel
theorem dX7_loans_258 : decode cX7_loans 258 = .ok (.ifCond .ne 10, 3) := by decide +kernel
theorem dX7_loans_261 : decode cX7_loans 261 = .ok (.aload_n 0, 1) := by decide +kernel
theorem dX7_loans_262 : decode cX7_loans 262 = .ok (.invokevirtual 171, 3) := by decide +kernel
theorem dX7_loans_265 : decode cX7_loans 265 = .ok (.goto 20, 3) := by decide +kernel
theorem dX7_loans_268 : decode cX7_loans 268 = .ok (.iload 5, 2) := by decide +kernel
theorem dX7_loans_270 : decode cX7_loans 270 = .ok (.iconst 2, 1) := by decide +kernel
theorem dX7_loans_271 : decode cX7_loans 271 = .ok (.if_icmp .ne 10, 3) := by decide +kernel
theorem dX7_loans_274 : decode cX7_loans 274 = .ok (.aload_n 0, 1) := by decide +kernel
theorem dX7_loans_275 : decode cX7_loans 275 = .ok (.getfield 162, 3) := by decide +kernel
theorem dX7_loans_278 : decode cX7_loans 278 = .ok (.goto 7, 3) := by decide +kernel
theorem dX7_loans_281 : decode cX7_loans 281 = .ok (.aload_n 0, 1) := by decide +kernel
theorem dX7_loans_282 : decode cX7_loans 282 = .ok (.invokevirtual 205, 3) := by decide +kernel
theorem dX7_loans_285 : decode cX7_loans 285 = .ok (.ireturn, 1) := by decide +kernel
theorem dX7_isRow_0 : decode cX7_isRow 0 = .ok (.aload_n 0, 1) := by decide +kernel
theorem dX7_isRow_1 : decode cX7_isRow 1 = .ok (.invokevirtual 168, 3) := by decide +kernel
theorem dX7_isRow_4 : decode cX7_isRow 4 = .ok (.iload_n 1, 1) := by decide +kernel
theorem dX7_isRow_5 : decode cX7_isRow 5 = .ok (.istore 4, 2) := by decide +kernel
theorem dX7_isRow_7 : decode cX7_isRow 7 = .ok (.iconst 1, 1) := by decide +kernel
theorem dX7_isRow_8 : decode cX7_isRow 8 = .ok (.istore 5, 2) := by decide +kernel
theorem dX7_isRow_10 : decode cX7_isRow 10 = .ok (.iload_n 2, 1) := by decide +kernel
theorem dX7_isRow_11 : decode cX7_isRow 11 = .ok (.iconst 1, 1) := by decide +kernel
theorem dX7_isRow_12 : decode cX7_isRow 12 = .ok (.isub, 1) := by decide +kernel
theorem dX7_isRow_13 : decode cX7_isRow 13 = .ok (.istore 6, 2) := by decide +kernel
theorem dX7_isRow_15 : decode cX7_isRow 15 = .ok (.iload 6, 2) := by decide +kernel
theorem dX7_isRow_17 : decode cX7_isRow 17 = .ok (.ifCond .lt 28, 3) := by decide +kernel
theorem dX7_isRow_20 : decode cX7_isRow 20 = .ok (.aload_n 0, 1) := by decide +kernel
theorem dX7_isRow_21 : decode cX7_isRow 21 = .ok (.getfield 49, 3) := by decide +kernel
theorem dX7_isRow_24 : decode cX7_isRow 24 = .ok (.iload 6, 2) := by decide +kernel
theorem dX7_isRow_26 : decode cX7_isRow 26 = .ok (.iload 4, 2) := by decide +kernel
theorem dX7_isRow_28 : decode cX7_isRow 28 = .ok (.bipush 36, 2) := by decide +kernel
theorem dX7_isRow_30 : decode cX7_isRow 30 = .ok (.irem, 1) := by decide +kernel
theorem dX7_isRow_31 : decode cX7_isRow 31 = .ok (.iastore, 1) := by decide +kernel
theorem dX7_isRow_32 : decode cX7_isRow 32 = .ok (.iload 4, 2) := by decide +kernel
theorem dX7_isRow_34 : decode cX7_isRow 34 = .ok (.bipush 36, 2) := by decide +kernel
theorem dX7_isRow_36 : decode cX7_isRow 36 = .ok (.idiv, 1) := by decide +kernel
theorem dX7_isRow_37 : decode cX7_isRow 37 = .ok (.istore 4, 2) := by decide +kernel
theorem dX7_isRow_39 : decode cX7_isRow 39 = .ok (.iinc 6 (-1), 3) := by decide +kernel
theorem dX7_isRow_42 : decode cX7_isRow 42 = .ok (.goto (-27), 3) := by decide +kernel
theorem dX7_isRow_45 : decode cX7_isRow 45 = .ok (.iconst 0, 1) := by decide +kernel
theorem dX7_isRow_46 : decode cX7_isRow 46 = .ok (.istore 6, 2) := by decide +kernel
theorem dX7_isRow_48 : decode cX7_isRow 48 = .ok (.iload 6, 2) := by decide +kernel
theorem dX7_isRow_50 : decode cX7_isRow 50 = .ok (.iload_n 2, 1) := by decide +kernel
theorem dX7_isRow_51 : decode cX7_isRow 51 = .ok (.if_icmp .ge 85, 3) := by decide +kernel
theorem dX7_isRow_54 : decode cX7_isRow 54 = .ok (.iload 5, 2) := by decide +kernel
theorem dX7_isRow_56 : decode cX7_isRow 56 = .ok (.ifCond .eq 80, 3) := by decide +kernel
theorem dX7_isRow_59 : decode cX7_isRow 59 = .ok (.aload_n 0, 1) := by decide +kernel
theorem dX7_isRow_60 : decode cX7_isRow 60 = .ok (.getfield 49, 3) := by decide +kernel
theorem dX7_isRow_63 : decode cX7_isRow 63 = .ok (.iload 6, 2) := by decide +kernel
theorem dX7_isRow_65 : decode cX7_isRow 65 = .ok (.iaload, 1) := by decide +kernel
theorem dX7_isRow_66 : decode cX7_isRow 66 = .ok (.bipush 6, 2) := by decide +kernel
theorem dX7_isRow_68 : decode cX7_isRow 68 = .ok (.idiv, 1) := by decide +kernel
theorem dX7_isRow_69 : decode cX7_isRow 69 = .ok (.istore 7, 2) := by decide +kernel
theorem dX7_isRow_71 : decode cX7_isRow 71 = .ok (.aload_n 0, 1) := by decide +kernel
theorem dX7_isRow_72 : decode cX7_isRow 72 = .ok (.getfield 49, 3) := by decide +kernel
theorem dX7_isRow_75 : decode cX7_isRow 75 = .ok (.iload 6, 2) := by decide +kernel
theorem dX7_isRow_77 : decode cX7_isRow 77 = .ok (.iaload, 1) := by decide +kernel
theorem dX7_isRow_78 : decode cX7_isRow 78 = .ok (.bipush 6, 2) := by decide +kernel
theorem dX7_isRow_80 : decode cX7_isRow 80 = .ok (.irem, 1) := by decide +kernel
theorem dX7_isRow_81 : decode cX7_isRow 81 = .ok (.istore 8, 2) := by decide +kernel
theorem dX7_isRow_83 : decode cX7_isRow 83 = .ok (.iload 7, 2) := by decide +kernel
theorem dX7_isRow_85 : decode cX7_isRow 85 = .ok (.iload 8, 2) := by decide +kernel
theorem dX7_isRow_87 : decode cX7_isRow 87 = .ok (.if_icmp .ge 27, 3) := by decide +kernel
theorem dX7_isRow_90 : decode cX7_isRow 90 = .ok (.iload 8, 2) := by decide +kernel
theorem dX7_isRow_92 : decode cX7_isRow 92 = .ok (.aload_n 0, 1) := by decide +kernel
theorem dX7_isRow_93 : decode cX7_isRow 93 = .ok (.getfield 87, 3) := by decide +kernel
theorem dX7_isRow_96 : decode cX7_isRow 96 = .ok (.if_icmp .ge 18, 3) := by decide +kernel
theorem dX7_isRow_99 : decode cX7_isRow 99 = .ok (.aload_n 0, 1) := by decide +kernel
theorem dX7_isRow_100 : decode cX7_isRow 100 = .ok (.iload 7, 2) := by decide +kernel
theorem dX7_isRow_102 : decode cX7_isRow 102 = .ok (.iload 8, 2) := by decide +kernel
theorem dX7_isRow_104 : decode cX7_isRow 104 = .ok (.invokevirtual 178, 3) := by decide +kernel
theorem dX7_isRow_107 : decode cX7_isRow 107 = .ok (.ifCond .eq 7, 3) := by decide +kernel
theorem dX7_isRow_110 : decode cX7_isRow 110 = .ok (.iconst 1, 1) := by decide +kernel
theorem dX7_isRow_111 : decode cX7_isRow 111 = .ok (.goto 4, 3) := by decide +kernel
theorem dX7_isRow_114 : decode cX7_isRow 114 = .ok (.iconst 0, 1) := by decide +kernel
theorem dX7_isRow_115 : decode cX7_isRow 115 = .ok (.istore 5, 2) := by decide +kernel
theorem dX7_isRow_117 : decode cX7_isRow 117 = .ok (.iload 5, 2) := by decide +kernel
theorem dX7_isRow_119 : decode cX7_isRow 119 = .ok (.ifCond .eq 11, 3) := by decide +kernel
theorem dX7_isRow_122 : decode cX7_isRow 122 = .ok (.aload_n 0, 1) := by decide +kernel
theorem dX7_isRow_123 : decode cX7_isRow 123 = .ok (.iload 7, 2) := by decide +kernel
theorem dX7_isRow_125 : decode cX7_isRow 125 = .ok (.iload 8, 2) := by decide +kernel
theorem dX7_isRow_127 : decode cX7_isRow 127 = .ok (.invokevirtual 181, 3) := by decide +kernel
theorem dX7_isRow_130 : decode cX7_isRow 130 = .ok (.iinc 6 1, 3) := by decide +kernel
theorem dX7_isRow_133 : decode cX7_isRow 133 = .ok (.goto (-85), 3) := by decide +kernel
theorem dX7_isRow_136 : decode cX7_isRow 136 = .ok (.iload 5, 2) := by decide +kernel
theorem dX7_isRow_138 : decode cX7_isRow 138 = .ok (.ifCond .eq 18, 3) := by decide +kernel
theorem dX7_isRow_141 : decode cX7_isRow 141 = .ok (.iload_n 3, 1) := by decide +kernel
theorem dX7_isRow_142 : decode cX7_isRow 142 = .ok (.aload_n 0, 1) := by decide +kernel
theorem dX7_isRow_143 : decode cX7_isRow 143 = .ok (.invokevirtual 171, 3) := by decide +kernel
theorem dX7_isRow_146 : decode cX7_isRow 146 = .ok (.iconst (-1), 1) := by decide +kernel
theorem dX7_isRow_147 : decode cX7_isRow 147 = .ok (.ixor, 1) := by decide +kernel
theorem dX7_isRow_148 : decode cX7_isRow 148 = .ok (.iand, 1) := by decide +kernel
theorem dX7_isRow_149 : decode cX7_isRow 149 = .ok (.ifCond .ne 7, 3) := by decide +kernel
theorem dX7_isRow_152 : decode cX7_isRow 152 = .ok (.iconst 1, 1) := by decide +kernel
theorem dX7_isRow_153 : decode cX7_isRow 153 = .ok (.goto 4, 3) := by decide +kernel
theorem dX7_isRow_156 : decode cX7_isRow 156 = .ok (.iconst 0, 1) := by decide +kernel
theorem dX7_isRow_157 : decode cX7_isRow 157 = .ok (.ireturn, 1) := by decide +kernel
theorem dX7_fewest_0 : decode cX7_fewest 0 = .ok (.aload_n 0, 1) := by decide +kernel
theorem dX7_fewest_1 : decode cX7_fewest 1 = .ok (.getfield 87, 3) := by decide +kernel
theorem dX7_fewest_4 : decode cX7_fewest 4 = .ok (.ifCond .ne 6, 3) := by decide +kernel
theorem dX7_fewest_7 : decode cX7_fewest 7 = .ok (.bipush (-3), 2) := by decide +kernel
theorem dX7_fewest_9 : decode cX7_fewest 9 = .ok (.ireturn, 1) := by decide +kernel
theorem dX7_fewest_10 : decode cX7_fewest 10 = .ok (.iload_n 1, 1) := by decide +kernel
theorem dX7_fewest_11 : decode cX7_fewest 11 = .ok (.i2l, 1) := by decide +kernel
theorem dX7_fewest_12 : decode cX7_fewest 12 = .ok (.lconst 0, 1) := by decide +kernel
theorem dX7_fewest_13 : decode cX7_fewest 13 = .ok (.aload_n 0, 1) := by decide +kernel
theorem dX7_fewest_14 : decode cX7_fewest 14 = .ok (.invokevirtual 175, 3) := by decide +kernel
theorem dX7_fewest_17 : decode cX7_fewest 17 = .ok (.i2l, 1) := by decide +kernel
theorem dX7_fewest_18 : decode cX7_fewest 18 = .ok (.invokestatic 90, 3) := by decide +kernel
theorem dX7_fewest_21 : decode cX7_fewest 21 = .ok (.ifCond .eq 17, 3) := by decide +kernel
theorem dX7_fewest_24 : decode cX7_fewest 24 = .ok (.iload_n 2, 1) := by decide +kernel
theorem dX7_fewest_25 : decode cX7_fewest 25 = .ok (.i2l, 1) := by decide +kernel
theorem dX7_fewest_26 : decode cX7_fewest 26 = .ok (.ldc2_w 208, 3) := by decide +kernel
theorem dX7_fewest_29 : decode cX7_fewest 29 = .ok (.ldc2_w 127, 3) := by decide +kernel
theorem dX7_fewest_32 : decode cX7_fewest 32 = .ok (.invokestatic 90, 3) := by decide +kernel
theorem dX7_fewest_35 : decode cX7_fewest 35 = .ok (.ifCond .ne 6, 3) := by decide +kernel
theorem dX7_fewest_38 : decode cX7_fewest 38 = .ok (.bipush (-2), 2) := by decide +kernel
theorem dX7_fewest_40 : decode cX7_fewest 40 = .ok (.ireturn, 1) := by decide +kernel
theorem dX7_fewest_41 : decode cX7_fewest 41 = .ok (.iconst 1, 1) := by decide +kernel
theorem dX7_fewest_42 : decode cX7_fewest 42 = .ok (.istore_n 3, 1) := by decide +kernel
theorem dX7_fewest_43 : decode cX7_fewest 43 = .ok (.iconst 0, 1) := by decide +kernel
theorem dX7_fewest_44 : decode cX7_fewest 44 = .ok (.istore 4, 2) := by decide +kernel
theorem dX7_fewest_46 : decode cX7_fewest 46 = .ok (.iload 4, 2) := by decide +kernel
theorem dX7_fewest_48 : decode cX7_fewest 48 = .ok (.iconst 4, 1) := by decide +kernel
theorem dX7_fewest_49 : decode cX7_fewest 49 = .ok (.if_icmp .ge 84, 3) := by decide +kernel
theorem dX7_fewest_52 : decode cX7_fewest 52 = .ok (.iconst 0, 1) := by decide +kernel
theorem dX7_fewest_53 : decode cX7_fewest 53 = .ok (.istore 5, 2) := by decide +kernel
theorem dX7_fewest_55 : decode cX7_fewest 55 = .ok (.iload 5, 2) := by decide +kernel
theorem dX7_fewest_57 : decode cX7_fewest 57 = .ok (.iload_n 3, 1) := by decide +kernel
theorem dX7_fewest_58 : decode cX7_fewest 58 = .ok (.if_icmp .ge 64, 3) := by decide +kernel
theorem dX7_fewest_61 : decode cX7_fewest 61 = .ok (.aload_n 0, 1) := by decide +kernel
theorem dX7_fewest_62 : decode cX7_fewest 62 = .ok (.iload 5, 2) := by decide +kernel
theorem dX7_fewest_64 : decode cX7_fewest 64 = .ok (.iload 4, 2) := by decide +kernel
theorem dX7_fewest_66 : decode cX7_fewest 66 = .ok (.iload_n 1, 1) := by decide +kernel
theorem dX7_fewest_67 : decode cX7_fewest 67 = .ok (.invokevirtual 210, 3) := by decide +kernel
theorem dX7_fewest_70 : decode cX7_fewest 70 = .ok (.ifCond .eq 46, 3) := by decide +kernel
theorem dX7_fewest_73 : decode cX7_fewest 73 = .ok (.iload_n 2, 1) := by decide +kernel
theorem dX7_fewest_74 : decode cX7_fewest 74 = .ok (.ifCond .ge 8, 3) := by decide +kernel
theorem dX7_fewest_77 : decode cX7_fewest 77 = .ok (.iload 4, 2) := by decide +kernel
theorem dX7_fewest_79 : decode cX7_fewest 79 = .ok (.goto 36, 3) := by decide +kernel
theorem dX7_fewest_82 : decode cX7_fewest 82 = .ok (.iload_n 2, 1) := by decide +kernel
theorem dX7_fewest_83 : decode cX7_fewest 83 = .ok (.iload 4, 2) := by decide +kernel
theorem dX7_fewest_85 : decode cX7_fewest 85 = .ok (.if_icmp .ge 28, 3) := by decide +kernel
theorem dX7_fewest_88 : decode cX7_fewest 88 = .ok (.bipush 10, 2) := by decide +kernel
theorem dX7_fewest_90 : decode cX7_fewest 90 = .ok (.aload_n 0, 1) := by decide +kernel
theorem dX7_fewest_91 : decode cX7_fewest 91 = .ok (.getfield 49, 3) := by decide +kernel
theorem dX7_fewest_94 : decode cX7_fewest 94 = .ok (.iload_n 2, 1) := by decide +kernel
theorem dX7_fewest_95 : decode cX7_fewest 95 = .ok (.iaload, 1) := by decide +kernel
theorem dX7_fewest_96 : decode cX7_fewest 96 = .ok (.bipush 6, 2) := by decide +kernel
theorem dX7_fewest_98 : decode cX7_fewest 98 = .ok (.idiv, 1) := by decide +kernel
theorem dX7_fewest_99 : decode cX7_fewest 99 = .ok (.imul, 1) := by decide +kernel
theorem dX7_fewest_100 : decode cX7_fewest 100 = .ok (.aload_n 0, 1) := by decide +kernel
theorem dX7_fewest_101 : decode cX7_fewest 101 = .ok (.getfield 49, 3) := by decide +kernel
theorem dX7_fewest_104 : decode cX7_fewest 104 = .ok (.iload_n 2, 1) := by decide +kernel
theorem dX7_fewest_105 : decode cX7_fewest 105 = .ok (.iaload, 1) := by decide +kernel
theorem dX7_fewest_106 : decode cX7_fewest 106 = .ok (.bipush 6, 2) := by decide +kernel
theorem dX7_fewest_108 : decode cX7_fewest 108 = .ok (.irem, 1) := by decide +kernel
theorem dX7_fewest_109 : decode cX7_fewest 109 = .ok (.iadd, 1) := by decide +kernel
theorem dX7_fewest_110 : decode cX7_fewest 110 = .ok (.goto 5, 3) := by decide +kernel
theorem dX7_fewest_113 : decode cX7_fewest 113 = .ok (.bipush (-9), 2) := by decide +kernel
theorem dX7_fewest_115 : decode cX7_fewest 115 = .ok (.ireturn, 1) := by decide +kernel
theorem dX7_fewest_116 : decode cX7_fewest 116 = .ok (.iinc 5 1, 3) := by decide +kernel
theorem dX7_fewest_119 : decode cX7_fewest 119 = .ok (.goto (-64), 3) := by decide +kernel
theorem dX7_fewest_122 : decode cX7_fewest 122 = .ok (.iload_n 3, 1) := by decide +kernel
theorem dX7_fewest_123 : decode cX7_fewest 123 = .ok (.bipush 36, 2) := by decide +kernel
theorem dX7_fewest_125 : decode cX7_fewest 125 = .ok (.imul, 1) := by decide +kernel
theorem dX7_fewest_126 : decode cX7_fewest 126 = .ok (.istore_n 3, 1) := by decide +kernel
theorem dX7_fewest_127 : decode cX7_fewest 127 = .ok (.iinc 4 1, 3) := by decide +kernel
theorem dX7_fewest_130 : decode cX7_fewest 130 = .ok (.goto (-84), 3) := by decide +kernel
theorem dX7_fewest_133 : decode cX7_fewest 133 = .ok (.bipush (-9), 2) := by decide +kernel
theorem dX7_fewest_135 : decode cX7_fewest 135 = .ok (.ireturn, 1) := by decide +kernel
theorem dX7_matchBy_0 : decode cX7_matchBy 0 = .ok (.iload_n 1, 1) := by decide +kernel
theorem dX7_matchBy_1 : decode cX7_matchBy 1 = .ok (.istore_n 2, 1) := by decide +kernel
theorem dX7_matchBy_2 : decode cX7_matchBy 2 = .ok (.iconst 0, 1) := by decide +kernel
theorem dX7_matchBy_3 : decode cX7_matchBy 3 = .ok (.istore_n 3, 1) := by decide +kernel
theorem dX7_matchBy_4 : decode cX7_matchBy 4 = .ok (.iconst 0, 1) := by decide +kernel
theorem dX7_matchBy_5 : decode cX7_matchBy 5 = .ok (.istore 4, 2) := by decide +kernel
theorem dX7_matchBy_7 : decode cX7_matchBy 7 = .ok (.aload_n 0, 1) := by decide +kernel
theorem dX7_matchBy_8 : decode cX7_matchBy 8 = .ok (.getfield 87, 3) := by decide +kernel
theorem dX7_matchBy_11 : decode cX7_matchBy 11 = .ok (.iconst 1, 1) := by decide +kernel
theorem dX7_matchBy_12 : decode cX7_matchBy 12 = .ok (.isub, 1) := by decide +kernel
theorem dX7_matchBy_13 : decode cX7_matchBy 13 = .ok (.istore 5, 2) := by decide +kernel
theorem dX7_matchBy_15 : decode cX7_matchBy 15 = .ok (.iload 5, 2) := by decide +kernel
theorem dX7_matchBy_17 : decode cX7_matchBy 17 = .ok (.ifCond .lt 102, 3) := by decide +kernel
theorem dX7_matchBy_20 : decode cX7_matchBy 20 = .ok (.iload_n 2, 1) := by decide +kernel
theorem dX7_matchBy_21 : decode cX7_matchBy 21 = .ok (.aload_n 0, 1) := by decide +kernel
theorem dX7_matchBy_22 : decode cX7_matchBy 22 = .ok (.getfield 87, 3) := by decide +kernel
theorem dX7_matchBy_25 : decode cX7_matchBy 25 = .ok (.irem, 1) := by decide +kernel
theorem dX7_matchBy_26 : decode cX7_matchBy 26 = .ok (.istore 6, 2) := by decide +kernel
theorem dX7_matchBy_28 : decode cX7_matchBy 28 = .ok (.iload_n 2, 1) := by decide +kernel
theorem dX7_matchBy_29 : decode cX7_matchBy 29 = .ok (.aload_n 0, 1) := by decide +kernel
theorem dX7_matchBy_30 : decode cX7_matchBy 30 = .ok (.getfield 87, 3) := by decide +kernel
theorem dX7_matchBy_33 : decode cX7_matchBy 33 = .ok (.idiv, 1) := by decide +kernel
theorem dX7_matchBy_34 : decode cX7_matchBy 34 = .ok (.istore_n 2, 1) := by decide +kernel
theorem dX7_matchBy_35 : decode cX7_matchBy 35 = .ok (.aload_n 0, 1) := by decide +kernel
theorem dX7_matchBy_36 : decode cX7_matchBy 36 = .ok (.getfield 16, 3) := by decide +kernel
theorem dX7_matchBy_39 : decode cX7_matchBy 39 = .ok (.iload 5, 2) := by decide +kernel
theorem dX7_matchBy_41 : decode cX7_matchBy 41 = .ok (.iaload, 1) := by decide +kernel
theorem dX7_matchBy_42 : decode cX7_matchBy 42 = .ok (.bipush 6, 2) := by decide +kernel
theorem dX7_matchBy_44 : decode cX7_matchBy 44 = .ok (.if_icmp .eq 31, 3) := by decide +kernel
theorem dX7_matchBy_47 : decode cX7_matchBy 47 = .ok (.aload_n 0, 1) := by decide +kernel
theorem dX7_matchBy_48 : decode cX7_matchBy 48 = .ok (.getfield 13, 3) := by decide +kernel
theorem dX7_matchBy_51 : decode cX7_matchBy 51 = .ok (.iload 5, 2) := by decide +kernel
theorem dX7_matchBy_53 : decode cX7_matchBy 53 = .ok (.iaload, 1) := by decide +kernel
theorem dX7_matchBy_54 : decode cX7_matchBy 54 = .ok (.aload_n 0, 1) := by decide +kernel
theorem dX7_matchBy_55 : decode cX7_matchBy 55 = .ok (.getfield 13, 3) := by decide +kernel
theorem dX7_matchBy_58 : decode cX7_matchBy 58 = .ok (.iload 6, 2) := by decide +kernel
theorem dX7_matchBy_60 : decode cX7_matchBy 60 = .ok (.iaload, 1) := by decide +kernel
theorem dX7_matchBy_61 : decode cX7_matchBy 61 = .ok (.ior, 1) := by decide +kernel
theorem dX7_matchBy_62 : decode cX7_matchBy 62 = .ok (.aload_n 0, 1) := by decide +kernel
theorem dX7_matchBy_63 : decode cX7_matchBy 63 = .ok (.getfield 16, 3) := by decide +kernel
theorem dX7_matchBy_66 : decode cX7_matchBy 66 = .ok (.iload 5, 2) := by decide +kernel
theorem dX7_matchBy_68 : decode cX7_matchBy 68 = .ok (.iaload, 1) := by decide +kernel
theorem dX7_matchBy_69 : decode cX7_matchBy 69 = .ok (.invokestatic 149, 3) := by decide +kernel
theorem dX7_matchBy_72 : decode cX7_matchBy 72 = .ok (.ifCond .eq 7, 3) := by decide +kernel
theorem dX7_matchBy_75 : decode cX7_matchBy 75 = .ok (.iconst 1, 1) := by decide +kernel
theorem dX7_matchBy_76 : decode cX7_matchBy 76 = .ok (.goto 4, 3) := by decide +kernel
theorem dX7_matchBy_79 : decode cX7_matchBy 79 = .ok (.iconst 0, 1) := by decide +kernel
theorem dX7_matchBy_80 : decode cX7_matchBy 80 = .ok (.istore 7, 2) := by decide +kernel
theorem dX7_matchBy_82 : decode cX7_matchBy 82 = .ok (.iload 4, 2) := by decide +kernel
theorem dX7_matchBy_84 : decode cX7_matchBy 84 = .ok (.iload 7, 2) := by decide +kernel
theorem dX7_matchBy_86 : decode cX7_matchBy 86 = .ok (.ifCond .eq 7, 3) := by decide +kernel
theorem dX7_matchBy_89 : decode cX7_matchBy 89 = .ok (.iconst 1, 1) := by decide +kernel
theorem dX7_matchBy_90 : decode cX7_matchBy 90 = .ok (.goto 4, 3) := by decide +kernel
theorem dX7_matchBy_93 : decode cX7_matchBy 93 = .ok (.iconst 0, 1) := by decide +kernel
theorem dX7_matchBy_94 : decode cX7_matchBy 94 = .ok (.iadd, 1) := by decide +kernel
theorem dX7_matchBy_95 : decode cX7_matchBy 95 = .ok (.istore 4, 2) := by decide +kernel
theorem dX7_matchBy_97 : decode cX7_matchBy 97 = .ok (.iload_n 3, 1) := by decide +kernel
theorem dX7_matchBy_98 : decode cX7_matchBy 98 = .ok (.iconst 1, 1) := by decide +kernel
theorem dX7_matchBy_99 : decode cX7_matchBy 99 = .ok (.iload 6, 2) := by decide +kernel
theorem dX7_matchBy_101 : decode cX7_matchBy 101 = .ok (.ishl, 1) := by decide +kernel
theorem dX7_matchBy_102 : decode cX7_matchBy 102 = .ok (.ior, 1) := by decide +kernel
theorem dX7_matchBy_103 : decode cX7_matchBy 103 = .ok (.istore_n 3, 1) := by decide +kernel
theorem dX7_matchBy_104 : decode cX7_matchBy 104 = .ok (.aload_n 0, 1) := by decide +kernel
theorem dX7_matchBy_105 : decode cX7_matchBy 105 = .ok (.getfield 52, 3) := by decide +kernel
theorem dX7_matchBy_108 : decode cX7_matchBy 108 = .ok (.iload 5, 2) := by decide +kernel
theorem dX7_matchBy_110 : decode cX7_matchBy 110 = .ok (.iload 6, 2) := by decide +kernel
theorem dX7_matchBy_112 : decode cX7_matchBy 112 = .ok (.iastore, 1) := by decide +kernel
theorem dX7_matchBy_113 : decode cX7_matchBy 113 = .ok (.iinc 5 (-1), 3) := by decide +kernel
theorem dX7_matchBy_116 : decode cX7_matchBy 116 = .ok (.goto (-101), 3) := by decide +kernel
theorem dX7_matchBy_119 : decode cX7_matchBy 119 = .ok (.iload_n 3, 1) := by decide +kernel
theorem dX7_matchBy_120 : decode cX7_matchBy 120 = .ok (.aload_n 0, 1) := by decide +kernel
theorem dX7_matchBy_121 : decode cX7_matchBy 121 = .ok (.invokevirtual 175, 3) := by decide +kernel
theorem dX7_matchBy_124 : decode cX7_matchBy 124 = .ok (.if_icmp .ne 8, 3) := by decide +kernel
theorem dX7_matchBy_127 : decode cX7_matchBy 127 = .ok (.iload 4, 2) := by decide +kernel
theorem dX7_matchBy_129 : decode cX7_matchBy 129 = .ok (.goto 5, 3) := by decide +kernel
theorem dX7_matchBy_132 : decode cX7_matchBy 132 = .ok (.bipush (-9), 2) := by decide +kernel
theorem dX7_matchBy_134 : decode cX7_matchBy 134 = .ok (.ireturn, 1) := by decide +kernel
theorem dX7_match_0 : decode cX7_match 0 = .ok (.iload_n 1, 1) := by decide +kernel
theorem dX7_match_1 : decode cX7_match 1 = .ok (.iconst (-1), 1) := by decide +kernel
theorem dX7_match_2 : decode cX7_match 2 = .ok (.if_icmp .ge 5, 3) := by decide +kernel
theorem dX7_match_5 : decode cX7_match 5 = .ok (.iconst (-1), 1) := by decide +kernel
theorem dX7_match_6 : decode cX7_match 6 = .ok (.ireturn, 1) := by decide +kernel
theorem dX7_match_7 : decode cX7_match 7 = .ok (.aload_n 0, 1) := by decide +kernel
theorem dX7_match_8 : decode cX7_match 8 = .ok (.getfield 87, 3) := by decide +kernel
theorem dX7_match_11 : decode cX7_match 11 = .ok (.ifCond .ne 6, 3) := by decide +kernel
theorem dX7_match_14 : decode cX7_match 14 = .ok (.bipush (-3), 2) := by decide +kernel
theorem dX7_match_16 : decode cX7_match 16 = .ok (.ireturn, 1) := by decide +kernel
theorem dX7_match_17 : decode cX7_match 17 = .ok (.iconst 1, 1) := by decide +kernel
theorem dX7_match_18 : decode cX7_match 18 = .ok (.istore_n 2, 1) := by decide +kernel
theorem dX7_match_19 : decode cX7_match 19 = .ok (.iconst 0, 1) := by decide +kernel
theorem dX7_match_20 : decode cX7_match 20 = .ok (.istore_n 3, 1) := by decide +kernel
theorem dX7_match_21 : decode cX7_match 21 = .ok (.iload_n 3, 1) := by decide +kernel
theorem dX7_match_22 : decode cX7_match 22 = .ok (.aload_n 0, 1) := by decide +kernel
theorem dX7_match_23 : decode cX7_match 23 = .ok (.getfield 87, 3) := by decide +kernel
theorem dX7_match_26 : decode cX7_match 26 = .ok (.if_icmp .ge 16, 3) := by decide +kernel
theorem dX7_match_29 : decode cX7_match 29 = .ok (.iload_n 2, 1) := by decide +kernel
theorem dX7_match_30 : decode cX7_match 30 = .ok (.aload_n 0, 1) := by decide +kernel
theorem dX7_match_31 : decode cX7_match 31 = .ok (.getfield 87, 3) := by decide +kernel
theorem dX7_match_34 : decode cX7_match 34 = .ok (.imul, 1) := by decide +kernel
theorem dX7_match_35 : decode cX7_match 35 = .ok (.istore_n 2, 1) := by decide +kernel
theorem dX7_match_36 : decode cX7_match 36 = .ok (.iinc 3 1, 3) := by decide +kernel
theorem dX7_match_39 : decode cX7_match 39 = .ok (.goto (-18), 3) := by decide +kernel
theorem dX7_match_42 : decode cX7_match 42 = .ok (.iconst 0, 1) := by decide +kernel
theorem dX7_match_43 : decode cX7_match 43 = .ok (.istore_n 3, 1) := by decide +kernel
theorem dX7_match_44 : decode cX7_match 44 = .ok (.iconst (-1), 1) := by decide +kernel
theorem dX7_match_45 : decode cX7_match 45 = .ok (.istore 4, 2) := by decide +kernel
theorem dX7_match_47 : decode cX7_match 47 = .ok (.iconst 0, 1) := by decide +kernel
theorem dX7_match_48 : decode cX7_match 48 = .ok (.istore 5, 2) := by decide +kernel
theorem dX7_match_50 : decode cX7_match 50 = .ok (.iload 5, 2) := by decide +kernel
theorem dX7_match_52 : decode cX7_match 52 = .ok (.iload_n 2, 1) := by decide +kernel
theorem dX7_match_53 : decode cX7_match 53 = .ok (.if_icmp .ge 47, 3) := by decide +kernel
theorem dX7_match_56 : decode cX7_match 56 = .ok (.aload_n 0, 1) := by decide +kernel
theorem dX7_match_57 : decode cX7_match 57 = .ok (.iload 5, 2) := by decide +kernel
theorem dX7_match_59 : decode cX7_match 59 = .ok (.invokevirtual 214, 3) := by decide +kernel
theorem dX7_match_62 : decode cX7_match 62 = .ok (.istore 6, 2) := by decide +kernel
theorem dX7_match_64 : decode cX7_match 64 = .ok (.iload 6, 2) := by decide +kernel
theorem dX7_match_66 : decode cX7_match 66 = .ok (.iload 4, 2) := by decide +kernel
theorem dX7_match_68 : decode cX7_match 68 = .ok (.if_icmp .le 8, 3) := by decide +kernel
theorem dX7_match_71 : decode cX7_match 71 = .ok (.iload 5, 2) := by decide +kernel
theorem dX7_match_73 : decode cX7_match 73 = .ok (.goto 4, 3) := by decide +kernel
theorem dX7_match_76 : decode cX7_match 76 = .ok (.iload_n 3, 1) := by decide +kernel
theorem dX7_match_77 : decode cX7_match 77 = .ok (.istore_n 3, 1) := by decide +kernel
theorem dX7_match_78 : decode cX7_match 78 = .ok (.iload 6, 2) := by decide +kernel
theorem dX7_match_80 : decode cX7_match 80 = .ok (.iload 4, 2) := by decide +kernel
theorem dX7_match_82 : decode cX7_match 82 = .ok (.if_icmp .le 8, 3) := by decide +kernel
theorem dX7_match_85 : decode cX7_match 85 = .ok (.iload 6, 2) := by decide +kernel
theorem dX7_match_87 : decode cX7_match 87 = .ok (.goto 5, 3) := by decide +kernel
theorem dX7_match_90 : decode cX7_match 90 = .ok (.iload 4, 2) := by decide +kernel
theorem dX7_match_92 : decode cX7_match 92 = .ok (.istore 4, 2) := by decide +kernel
theorem dX7_match_94 : decode cX7_match 94 = .ok (.iinc 5 1, 3) := by decide +kernel
theorem dX7_match_97 : decode cX7_match 97 = .ok (.goto (-47), 3) := by decide +kernel
theorem dX7_match_100 : decode cX7_match 100 = .ok (.aload_n 0, 1) := by decide +kernel
theorem dX7_match_101 : decode cX7_match 101 = .ok (.iload_n 3, 1) := by decide +kernel
theorem dX7_match_102 : decode cX7_match 102 = .ok (.invokevirtual 214, 3) := by decide +kernel
theorem dX7_match_105 : decode cX7_match 105 = .ok (.pop, 1) := by decide +kernel
theorem dX7_match_106 : decode cX7_match 106 = .ok (.iload_n 1, 1) := by decide +kernel
theorem dX7_match_107 : decode cX7_match 107 = .ok (.ifCond .ge 8, 3) := by decide +kernel
theorem dX7_match_110 : decode cX7_match 110 = .ok (.iload 4, 2) := by decide +kernel
theorem dX7_match_112 : decode cX7_match 112 = .ok (.goto 22, 3) := by decide +kernel
theorem dX7_match_115 : decode cX7_match 115 = .ok (.aload_n 0, 1) := by decide +kernel
theorem dX7_match_116 : decode cX7_match 116 = .ok (.iload_n 1, 1) := by decide +kernel
theorem dX7_match_117 : decode cX7_match 117 = .ok (.invokevirtual 139, 3) := by decide +kernel
theorem dX7_match_120 : decode cX7_match 120 = .ok (.ifCond .eq 8, 3) := by decide +kernel
theorem dX7_match_123 : decode cX7_match 123 = .ok (.bipush (-9), 2) := by decide +kernel
theorem dX7_match_125 : decode cX7_match 125 = .ok (.goto 9, 3) := by decide +kernel
theorem dX7_match_128 : decode cX7_match 128 = .ok (.aload_n 0, 1) := by decide +kernel
theorem dX7_match_129 : decode cX7_match 129 = .ok (.getfield 52, 3) := by decide +kernel
theorem dX7_match_132 : decode cX7_match 132 = .ok (.iload_n 1, 1) := by decide +kernel
theorem dX7_match_133 : decode cX7_match 133 = .ok (.iaload, 1) := by decide +kernel
theorem dX7_match_134 : decode cX7_match 134 = .ok (.ireturn, 1) := by decide +kernel
theorem dX7_help_0 : decode cX7_help 0 = .ok (.aload_n 0, 1) := by decide +kernel
theorem dX7_help_1 : decode cX7_help 1 = .ok (.iload_n 1, 1) := by decide +kernel
theorem dX7_help_2 : decode cX7_help 2 = .ok (.invokevirtual 139, 3) := by decide +kernel
theorem dX7_help_5 : decode cX7_help 5 = .ok (.ifCond .eq 5, 3) := by decide +kernel
theorem dX7_help_8 : decode cX7_help 8 = .ok (.iconst (-1), 1) := by decide +kernel
theorem dX7_help_9 : decode cX7_help 9 = .ok (.ireturn, 1) := by decide +kernel
theorem dX7_help_10 : decode cX7_help 10 = .ok (.iconst 0, 1) := by decide +kernel
theorem dX7_help_11 : decode cX7_help 11 = .ok (.istore_n 2, 1) := by decide +kernel
theorem dX7_help_12 : decode cX7_help 12 = .ok (.iconst 0, 1) := by decide +kernel
theorem dX7_help_13 : decode cX7_help 13 = .ok (.istore_n 3, 1) := by decide +kernel
theorem dX7_help_14 : decode cX7_help 14 = .ok (.iload_n 3, 1) := by decide +kernel
theorem dX7_help_15 : decode cX7_help 15 = .ok (.aload_n 0, 1) := by decide +kernel
theorem dX7_help_16 : decode cX7_help 16 = .ok (.getfield 87, 3) := by decide +kernel
theorem dX7_help_19 : decode cX7_help 19 = .ok (.if_icmp .ge 60, 3) := by decide +kernel
theorem dX7_help_22 : decode cX7_help 22 = .ok (.aload_n 0, 1) := by decide +kernel
theorem dX7_help_23 : decode cX7_help 23 = .ok (.getfield 16, 3) := by decide +kernel
theorem dX7_help_26 : decode cX7_help 26 = .ok (.iload_n 3, 1) := by decide +kernel
theorem dX7_help_27 : decode cX7_help 27 = .ok (.iaload, 1) := by decide +kernel
theorem dX7_help_28 : decode cX7_help 28 = .ok (.istore 4, 2) := by decide +kernel
theorem dX7_help_30 : decode cX7_help 30 = .ok (.iload_n 2, 1) := by decide +kernel
theorem dX7_help_31 : decode cX7_help 31 = .ok (.iload 4, 2) := by decide +kernel
theorem dX7_help_33 : decode cX7_help 33 = .ok (.bipush 6, 2) := by decide +kernel
theorem dX7_help_35 : decode cX7_help 35 = .ok (.if_icmp .ge 35, 3) := by decide +kernel
theorem dX7_help_38 : decode cX7_help 38 = .ok (.aload_n 0, 1) := by decide +kernel
theorem dX7_help_39 : decode cX7_help 39 = .ok (.getfield 13, 3) := by decide +kernel
theorem dX7_help_42 : decode cX7_help 42 = .ok (.iload_n 1, 1) := by decide +kernel
theorem dX7_help_43 : decode cX7_help 43 = .ok (.iaload, 1) := by decide +kernel
theorem dX7_help_44 : decode cX7_help 44 = .ok (.iload 4, 2) := by decide +kernel
theorem dX7_help_46 : decode cX7_help 46 = .ok (.invokestatic 149, 3) := by decide +kernel
theorem dX7_help_49 : decode cX7_help 49 = .ok (.ifCond .eq 21, 3) := by decide +kernel
theorem dX7_help_52 : decode cX7_help 52 = .ok (.aload_n 0, 1) := by decide +kernel
theorem dX7_help_53 : decode cX7_help 53 = .ok (.getfield 13, 3) := by decide +kernel
theorem dX7_help_56 : decode cX7_help 56 = .ok (.iload_n 3, 1) := by decide +kernel
theorem dX7_help_57 : decode cX7_help 57 = .ok (.iaload, 1) := by decide +kernel
theorem dX7_help_58 : decode cX7_help 58 = .ok (.iload 4, 2) := by decide +kernel
theorem dX7_help_60 : decode cX7_help 60 = .ok (.invokestatic 149, 3) := by decide +kernel
theorem dX7_help_63 : decode cX7_help 63 = .ok (.ifCond .ne 7, 3) := by decide +kernel
theorem dX7_help_66 : decode cX7_help 66 = .ok (.iconst 1, 1) := by decide +kernel
theorem dX7_help_67 : decode cX7_help 67 = .ok (.goto 4, 3) := by decide +kernel
theorem dX7_help_70 : decode cX7_help 70 = .ok (.iconst 0, 1) := by decide +kernel
theorem dX7_help_71 : decode cX7_help 71 = .ok (.iadd, 1) := by decide +kernel
theorem dX7_help_72 : decode cX7_help 72 = .ok (.istore_n 2, 1) := by decide +kernel
theorem dX7_help_73 : decode cX7_help 73 = .ok (.iinc 3 1, 3) := by decide +kernel
theorem dX7_help_76 : decode cX7_help 76 = .ok (.goto (-62), 3) := by decide +kernel
theorem dX7_help_79 : decode cX7_help 79 = .ok (.iload_n 2, 1) := by decide +kernel
theorem dX7_help_80 : decode cX7_help 80 = .ok (.ireturn, 1) := by decide +kernel
theorem dX7_reading_0 : decode cX7_reading 0 = .ok (.aload_n 0, 1) := by decide +kernel
theorem dX7_reading_1 : decode cX7_reading 1 = .ok (.iload_n 1, 1) := by decide +kernel
theorem dX7_reading_2 : decode cX7_reading 2 = .ok (.invokevirtual 139, 3) := by decide +kernel
theorem dX7_reading_5 : decode cX7_reading 5 = .ok (.ifCond .ne 15, 3) := by decide +kernel
theorem dX7_reading_8 : decode cX7_reading 8 = .ok (.iload_n 2, 1) := by decide +kernel
theorem dX7_reading_9 : decode cX7_reading 9 = .ok (.i2l, 1) := by decide +kernel
theorem dX7_reading_10 : decode cX7_reading 10 = .ok (.lconst 0, 1) := by decide +kernel
theorem dX7_reading_11 : decode cX7_reading 11 = .ok (.ldc2_w 217, 3) := by decide +kernel
theorem dX7_reading_14 : decode cX7_reading 14 = .ok (.invokestatic 90, 3) := by decide +kernel
theorem dX7_reading_17 : decode cX7_reading 17 = .ok (.ifCond .ne 5, 3) := by decide +kernel
theorem dX7_reading_20 : decode cX7_reading 20 = .ok (.iconst (-1), 1) := by decide +kernel
theorem dX7_reading_21 : decode cX7_reading 21 = .ok (.ireturn, 1) := by decide +kernel
theorem dX7_reading_22 : decode cX7_reading 22 = .ok (.aload_n 0, 1) := by decide +kernel
theorem dX7_reading_23 : decode cX7_reading 23 = .ok (.getfield 136, 3) := by decide +kernel
theorem dX7_reading_26 : decode cX7_reading 26 = .ok (.bipush 8, 2) := by decide +kernel
theorem dX7_reading_28 : decode cX7_reading 28 = .ok (.if_icmp .ne 6, 3) := by decide +kernel
theorem dX7_reading_31 : decode cX7_reading 31 = .ok (.bipush (-4), 2) := by decide +kernel
theorem dX7_reading_33 : decode cX7_reading 33 = .ok (.ireturn, 1) := by decide +kernel
theorem dX7_reading_34 : decode cX7_reading 34 = .ok (.aload_n 0, 1) := by decide +kernel
theorem dX7_reading_35 : decode cX7_reading 35 = .ok (.getfield 55, 3) := by decide +kernel
theorem dX7_reading_38 : decode cX7_reading 38 = .ok (.aload_n 0, 1) := by decide +kernel
theorem dX7_reading_39 : decode cX7_reading 39 = .ok (.getfield 136, 3) := by decide +kernel
theorem dX7_reading_42 : decode cX7_reading 42 = .ok (.iload_n 1, 1) := by decide +kernel
theorem dX7_reading_43 : decode cX7_reading 43 = .ok (.iastore, 1) := by decide +kernel
theorem dX7_reading_44 : decode cX7_reading 44 = .ok (.aload_n 0, 1) := by decide +kernel
theorem dX7_reading_45 : decode cX7_reading 45 = .ok (.getfield 58, 3) := by decide +kernel
theorem dX7_reading_48 : decode cX7_reading 48 = .ok (.aload_n 0, 1) := by decide +kernel
theorem dX7_reading_49 : decode cX7_reading 49 = .ok (.getfield 136, 3) := by decide +kernel
theorem dX7_reading_52 : decode cX7_reading 52 = .ok (.iload_n 2, 1) := by decide +kernel
theorem dX7_reading_53 : decode cX7_reading 53 = .ok (.iastore, 1) := by decide +kernel
theorem dX7_reading_54 : decode cX7_reading 54 = .ok (.aload_n 0, 1) := by decide +kernel
theorem dX7_reading_55 : decode cX7_reading 55 = .ok (.getfield 61, 3) := by decide +kernel
theorem dX7_reading_58 : decode cX7_reading 58 = .ok (.aload_n 0, 1) := by decide +kernel
theorem dX7_reading_59 : decode cX7_reading 59 = .ok (.getfield 136, 3) := by decide +kernel
theorem dX7_reading_62 : decode cX7_reading 62 = .ok (.iload_n 3, 1) := by decide +kernel
theorem dX7_reading_63 : decode cX7_reading 63 = .ok (.bastore, 1) := by decide +kernel
theorem dX7_reading_64 : decode cX7_reading 64 = .ok (.aload_n 0, 1) := by decide +kernel
theorem dX7_reading_65 : decode cX7_reading 65 = .ok (.dup, 1) := by decide +kernel
theorem dX7_reading_66 : decode cX7_reading 66 = .ok (.getfield 136, 3) := by decide +kernel
theorem dX7_reading_69 : decode cX7_reading 69 = .ok (.iconst 1, 1) := by decide +kernel
theorem dX7_reading_70 : decode cX7_reading 70 = .ok (.iadd, 1) := by decide +kernel
theorem dX7_reading_71 : decode cX7_reading 71 = .ok (.putfield 136, 3) := by decide +kernel
theorem dX7_reading_74 : decode cX7_reading 74 = .ok (.aload_n 0, 1) := by decide +kernel
theorem dX7_reading_75 : decode cX7_reading 75 = .ok (.getfield 136, 3) := by decide +kernel
theorem dX7_reading_78 : decode cX7_reading 78 = .ok (.iconst 1, 1) := by decide +kernel
theorem dX7_reading_79 : decode cX7_reading 79 = .ok (.isub, 1) := by decide +kernel
theorem dX7_reading_80 : decode cX7_reading 80 = .ok (.ireturn, 1) := by decide +kernel
theorem dX7_back_0 : decode cX7_back 0 = .ok (.iload_n 1, 1) := by decide +kernel
theorem dX7_back_1 : decode cX7_back 1 = .ok (.i2l, 1) := by decide +kernel
theorem dX7_back_2 : decode cX7_back 2 = .ok (.lconst 0, 1) := by decide +kernel
theorem dX7_back_3 : decode cX7_back 3 = .ok (.aload_n 0, 1) := by decide +kernel
theorem dX7_back_4 : decode cX7_back 4 = .ok (.getfield 136, 3) := by decide +kernel
theorem dX7_back_7 : decode cX7_back 7 = .ok (.i2l, 1) := by decide +kernel
theorem dX7_back_8 : decode cX7_back 8 = .ok (.invokestatic 90, 3) := by decide +kernel
theorem dX7_back_11 : decode cX7_back 11 = .ok (.ifCond .ne 6, 3) := by decide +kernel
theorem dX7_back_14 : decode cX7_back 14 = .ok (.bipush (-2), 2) := by decide +kernel
theorem dX7_back_16 : decode cX7_back 16 = .ok (.ireturn, 1) := by decide +kernel
theorem dX7_back_17 : decode cX7_back 17 = .ok (.aload_n 0, 1) := by decide +kernel
theorem dX7_back_18 : decode cX7_back 18 = .ok (.dup, 1) := by decide +kernel
theorem dX7_back_19 : decode cX7_back 19 = .ok (.getfield 136, 3) := by decide +kernel
theorem dX7_back_22 : decode cX7_back 22 = .ok (.iload_n 1, 1) := by decide +kernel
theorem dX7_back_23 : decode cX7_back 23 = .ok (.isub, 1) := by decide +kernel
theorem dX7_back_24 : decode cX7_back 24 = .ok (.putfield 136, 3) := by decide +kernel
theorem dX7_back_27 : decode cX7_back 27 = .ok (.aload_n 0, 1) := by decide +kernel
theorem dX7_back_28 : decode cX7_back 28 = .ok (.getfield 136, 3) := by decide +kernel
theorem dX7_back_31 : decode cX7_back 31 = .ok (.ireturn, 1) := by decide +kernel
theorem dX7_areSo_0 : decode cX7_areSo 0 = .ok (.aload_n 0, 1) := by decide +kernel
theorem dX7_areSo_1 : decode cX7_areSo 1 = .ok (.iload_n 1, 1) := by decide +kernel
theorem dX7_areSo_2 : decode cX7_areSo 2 = .ok (.iload_n 2, 1) := by decide +kernel
theorem dX7_areSo_3 : decode cX7_areSo 3 = .ok (.invokevirtual 202, 3) := by decide +kernel
theorem dX7_areSo_6 : decode cX7_areSo 6 = .ok (.aload_n 0, 1) := by decide +kernel
theorem dX7_areSo_7 : decode cX7_areSo 7 = .ok (.getfield 159, 3) := by decide +kernel
theorem dX7_areSo_10 : decode cX7_areSo 10 = .ok (.ifCond .ge 7, 3) := by decide +kernel
theorem dX7_areSo_13 : decode cX7_areSo 13 = .ok (.iconst 1, 1) := by decide +kernel
theorem dX7_areSo_14 : decode cX7_areSo 14 = .ok (.goto 4, 3) := by decide +kernel
theorem dX7_areSo_17 : decode cX7_areSo 17 = .ok (.iconst 0, 1) := by decide +kernel
theorem dX7_areSo_18 : decode cX7_areSo 18 = .ok (.istore_n 3, 1) := by decide +kernel
theorem dX7_areSo_19 : decode cX7_areSo 19 = .ok (.iconst 0, 1) := by decide +kernel
theorem dX7_areSo_20 : decode cX7_areSo 20 = .ok (.istore 4, 2) := by decide +kernel
theorem dX7_areSo_22 : decode cX7_areSo 22 = .ok (.iload 4, 2) := by decide +kernel
theorem dX7_areSo_24 : decode cX7_areSo 24 = .ok (.aload_n 0, 1) := by decide +kernel
theorem dX7_areSo_25 : decode cX7_areSo 25 = .ok (.getfield 136, 3) := by decide +kernel
theorem dX7_areSo_28 : decode cX7_areSo 28 = .ok (.if_icmp .ge 51, 3) := by decide +kernel
theorem dX7_areSo_31 : decode cX7_areSo 31 = .ok (.iload_n 3, 1) := by decide +kernel
theorem dX7_areSo_32 : decode cX7_areSo 32 = .ok (.ifCond .eq 39, 3) := by decide +kernel
theorem dX7_areSo_35 : decode cX7_areSo 35 = .ok (.aload_n 0, 1) := by decide +kernel
theorem dX7_areSo_36 : decode cX7_areSo 36 = .ok (.getfield 43, 3) := by decide +kernel
theorem dX7_areSo_39 : decode cX7_areSo 39 = .ok (.aload_n 0, 1) := by decide +kernel
theorem dX7_areSo_40 : decode cX7_areSo 40 = .ok (.getfield 55, 3) := by decide +kernel
theorem dX7_areSo_43 : decode cX7_areSo 43 = .ok (.iload 4, 2) := by decide +kernel
theorem dX7_areSo_45 : decode cX7_areSo 45 = .ok (.iaload, 1) := by decide +kernel
theorem dX7_areSo_46 : decode cX7_areSo 46 = .ok (.iaload, 1) := by decide +kernel
theorem dX7_areSo_47 : decode cX7_areSo 47 = .ok (.aload_n 0, 1) := by decide +kernel
theorem dX7_areSo_48 : decode cX7_areSo 48 = .ok (.getfield 58, 3) := by decide +kernel
theorem dX7_areSo_51 : decode cX7_areSo 51 = .ok (.iload 4, 2) := by decide +kernel
theorem dX7_areSo_53 : decode cX7_areSo 53 = .ok (.iaload, 1) := by decide +kernel
theorem dX7_areSo_54 : decode cX7_areSo 54 = .ok (.invokestatic 149, 3) := by decide +kernel
theorem dX7_areSo_57 : decode cX7_areSo 57 = .ok (.aload_n 0, 1) := by decide +kernel
theorem dX7_areSo_58 : decode cX7_areSo 58 = .ok (.getfield 61, 3) := by decide +kernel
theorem dX7_areSo_61 : decode cX7_areSo 61 = .ok (.iload 4, 2) := by decide +kernel
theorem dX7_areSo_63 : decode cX7_areSo 63 = .ok (.baload, 1) := by decide +kernel
theorem dX7_areSo_64 : decode cX7_areSo 64 = .ok (.if_icmp .ne 7, 3) := by decide +kernel
theorem dX7_areSo_67 : decode cX7_areSo 67 = .ok (.iconst 1, 1) := by decide +kernel
theorem dX7_areSo_68 : decode cX7_areSo 68 = .ok (.goto 4, 3) := by decide +kernel
theorem dX7_areSo_71 : decode cX7_areSo 71 = .ok (.iconst 0, 1) := by decide +kernel
theorem dX7_areSo_72 : decode cX7_areSo 72 = .ok (.istore_n 3, 1) := by decide +kernel
theorem dX7_areSo_73 : decode cX7_areSo 73 = .ok (.iinc 4 1, 3) := by decide +kernel
theorem dX7_areSo_76 : decode cX7_areSo 76 = .ok (.goto (-54), 3) := by decide +kernel
theorem dX7_areSo_79 : decode cX7_areSo 79 = .ok (.iload_n 3, 1) := by decide +kernel
theorem dX7_areSo_80 : decode cX7_areSo 80 = .ok (.ireturn, 1) := by decide +kernel
theorem dX7_seenBarred_0 : decode cX7_seenBarred 0 = .ok (.aload_n 0, 1) := by decide +kernel
theorem dX7_seenBarred_1 : decode cX7_seenBarred 1 = .ok (.iload_n 1, 1) := by decide +kernel
theorem dX7_seenBarred_2 : decode cX7_seenBarred 2 = .ok (.invokevirtual 139, 3) := by decide +kernel
theorem dX7_seenBarred_5 : decode cX7_seenBarred 5 = .ok (.ifCond .ne 10, 3) := by decide +kernel
theorem dX7_seenBarred_8 : decode cX7_seenBarred 8 = .ok (.iload_n 2, 1) := by decide +kernel
theorem dX7_seenBarred_9 : decode cX7_seenBarred 9 = .ok (.invokestatic 120, 3) := by decide +kernel
theorem dX7_seenBarred_12 : decode cX7_seenBarred 12 = .ok (.ifCond .eq 9, 3) := by decide +kernel
theorem dX7_seenBarred_15 : decode cX7_seenBarred 15 = .ok (.aload_n 0, 1) := by decide +kernel
theorem dX7_seenBarred_16 : decode cX7_seenBarred 16 = .ok (.iconst (-1), 1) := by decide +kernel
theorem dX7_seenBarred_17 : decode cX7_seenBarred 17 = .ok (.invokevirtual 124, 3) := by decide +kernel
theorem dX7_seenBarred_20 : decode cX7_seenBarred 20 = .ok (.ireturn, 1) := by decide +kernel
theorem dX7_seenBarred_21 : decode cX7_seenBarred 21 = .ok (.iload_n 3, 1) := by decide +kernel
theorem dX7_seenBarred_22 : decode cX7_seenBarred 22 = .ok (.i2l, 1) := by decide +kernel
theorem dX7_seenBarred_23 : decode cX7_seenBarred 23 = .ok (.lconst 0, 1) := by decide +kernel
theorem dX7_seenBarred_24 : decode cX7_seenBarred 24 = .ok (.ldc2_w 127, 3) := by decide +kernel
theorem dX7_seenBarred_27 : decode cX7_seenBarred 27 = .ok (.invokestatic 90, 3) := by decide +kernel
theorem dX7_seenBarred_30 : decode cX7_seenBarred 30 = .ok (.ifCond .eq 21, 3) := by decide +kernel
theorem dX7_seenBarred_33 : decode cX7_seenBarred 33 = .ok (.iload 5, 2) := by decide +kernel
theorem dX7_seenBarred_35 : decode cX7_seenBarred 35 = .ok (.i2l, 1) := by decide +kernel
theorem dX7_seenBarred_36 : decode cX7_seenBarred 36 = .ok (.lconst 0, 1) := by decide +kernel
theorem dX7_seenBarred_37 : decode cX7_seenBarred 37 = .ok (.ldc2_w 191, 3) := by decide +kernel
theorem dX7_seenBarred_40 : decode cX7_seenBarred 40 = .ok (.invokestatic 90, 3) := by decide +kernel
theorem dX7_seenBarred_43 : decode cX7_seenBarred 43 = .ok (.ifCond .eq 8, 3) := by decide +kernel
theorem dX7_seenBarred_46 : decode cX7_seenBarred 46 = .ok (.iload 6, 2) := by decide +kernel
theorem dX7_seenBarred_48 : decode cX7_seenBarred 48 = .ok (.ifCond .ne 10, 3) := by decide +kernel
theorem dX7_seenBarred_51 : decode cX7_seenBarred 51 = .ok (.aload_n 0, 1) := by decide +kernel
theorem dX7_seenBarred_52 : decode cX7_seenBarred 52 = .ok (.bipush (-2), 2) := by decide +kernel
theorem dX7_seenBarred_54 : decode cX7_seenBarred 54 = .ok (.invokevirtual 124, 3) := by decide +kernel
theorem dX7_seenBarred_57 : decode cX7_seenBarred 57 = .ok (.ireturn, 1) := by decide +kernel
theorem dX7_seenBarred_58 : decode cX7_seenBarred 58 = .ok (.aload_n 0, 1) := by decide +kernel
theorem dX7_seenBarred_59 : decode cX7_seenBarred 59 = .ok (.iload_n 2, 1) := by decide +kernel
theorem dX7_seenBarred_60 : decode cX7_seenBarred 60 = .ok (.iload_n 3, 1) := by decide +kernel
theorem dX7_seenBarred_61 : decode cX7_seenBarred 61 = .ok (.iload 4, 2) := by decide +kernel
theorem dX7_seenBarred_63 : decode cX7_seenBarred 63 = .ok (.iload 5, 2) := by decide +kernel
theorem dX7_seenBarred_65 : decode cX7_seenBarred 65 = .ok (.invokevirtual 199, 3) := by decide +kernel
theorem dX7_seenBarred_68 : decode cX7_seenBarred 68 = .ok (.ireturn, 1) := by decide +kernel
theorem dX7_told_0 : decode cX7_told 0 = .ok (.aload_n 0, 1) := by decide +kernel
theorem dX7_told_1 : decode cX7_told 1 = .ok (.iload_n 1, 1) := by decide +kernel
theorem dX7_told_2 : decode cX7_told 2 = .ok (.iload_n 2, 1) := by decide +kernel
theorem dX7_told_3 : decode cX7_told 3 = .ok (.iload_n 3, 1) := by decide +kernel
theorem dX7_told_4 : decode cX7_told 4 = .ok (.iload 4, 2) := by decide +kernel
theorem dX7_told_6 : decode cX7_told 6 = .ok (.iload 5, 2) := by decide +kernel
theorem dX7_told_8 : decode cX7_told 8 = .ok (.iload 6, 2) := by decide +kernel
theorem dX7_told_10 : decode cX7_told 10 = .ok (.i2l, 1) := by decide +kernel
theorem dX7_told_11 : decode cX7_told 11 = .ok (.lconst 0, 1) := by decide +kernel
theorem dX7_told_12 : decode cX7_told 12 = .ok (.lconst 1, 1) := by decide +kernel
theorem dX7_told_13 : decode cX7_told 13 = .ok (.invokestatic 90, 3) := by decide +kernel
theorem dX7_told_16 : decode cX7_told 16 = .ok (.invokevirtual 219, 3) := by decide +kernel
theorem dX7_told_19 : decode cX7_told 19 = .ok (.istore 7, 2) := by decide +kernel
theorem dX7_told_21 : decode cX7_told 21 = .ok (.iload 7, 2) := by decide +kernel
theorem dX7_told_23 : decode cX7_told 23 = .ok (.ifCond .ge 6, 3) := by decide +kernel
theorem dX7_told_26 : decode cX7_told 26 = .ok (.iload 7, 2) := by decide +kernel
theorem dX7_told_28 : decode cX7_told 28 = .ok (.ireturn, 1) := by decide +kernel
theorem dX7_told_29 : decode cX7_told 29 = .ok (.aload_n 0, 1) := by decide +kernel
theorem dX7_told_30 : decode cX7_told 30 = .ok (.getfield 13, 3) := by decide +kernel
theorem dX7_told_33 : decode cX7_told 33 = .ok (.iload_n 1, 1) := by decide +kernel
theorem dX7_told_34 : decode cX7_told 34 = .ok (.iaload, 1) := by decide +kernel
theorem dX7_told_35 : decode cX7_told 35 = .ok (.istore 8, 2) := by decide +kernel
theorem dX7_told_37 : decode cX7_told 37 = .ok (.iconst 0, 1) := by decide +kernel
theorem dX7_told_38 : decode cX7_told 38 = .ok (.istore 9, 2) := by decide +kernel
theorem dX7_told_40 : decode cX7_told 40 = .ok (.bipush (-9), 2) := by decide +kernel
theorem dX7_told_42 : decode cX7_told 42 = .ok (.istore 10, 2) := by decide +kernel
theorem dX7_told_44 : decode cX7_told 44 = .ok (.iconst 0, 1) := by decide +kernel
theorem dX7_told_45 : decode cX7_told 45 = .ok (.istore 11, 2) := by decide +kernel
theorem dX7_told_47 : decode cX7_told 47 = .ok (.iload 11, 2) := by decide +kernel
theorem dX7_told_49 : decode cX7_told 49 = .ok (.bipush 64, 2) := by decide +kernel
theorem dX7_told_51 : decode cX7_told 51 = .ok (.if_icmp .ge 50, 3) := by decide +kernel
theorem dX7_told_54 : decode cX7_told 54 = .ok (.aload_n 0, 1) := by decide +kernel
theorem dX7_told_55 : decode cX7_told 55 = .ok (.getfield 13, 3) := by decide +kernel
theorem dX7_told_58 : decode cX7_told 58 = .ok (.iload_n 1, 1) := by decide +kernel
theorem dX7_told_59 : decode cX7_told 59 = .ok (.iload 11, 2) := by decide +kernel
theorem dX7_told_61 : decode cX7_told 61 = .ok (.iastore, 1) := by decide +kernel
theorem dX7_told_62 : decode cX7_told 62 = .ok (.aload_n 0, 1) := by decide +kernel
theorem dX7_told_63 : decode cX7_told 63 = .ok (.bipush 60, 2) := by decide +kernel
theorem dX7_told_65 : decode cX7_told 65 = .ok (.iload_n 2, 1) := by decide +kernel
theorem dX7_told_66 : decode cX7_told 66 = .ok (.imul, 1) := by decide +kernel
theorem dX7_told_67 : decode cX7_told 67 = .ok (.iload 4, 2) := by decide +kernel
theorem dX7_told_69 : decode cX7_told 69 = .ok (.iadd, 1) := by decide +kernel
theorem dX7_told_70 : decode cX7_told 70 = .ok (.iload 5, 2) := by decide +kernel
theorem dX7_told_72 : decode cX7_told 72 = .ok (.invokevirtual 223, 3) := by decide +kernel
theorem dX7_told_75 : decode cX7_told 75 = .ok (.ifCond .eq 20, 3) := by decide +kernel
theorem dX7_told_78 : decode cX7_told 78 = .ok (.iinc 9 1, 3) := by decide +kernel
theorem dX7_told_81 : decode cX7_told 81 = .ok (.iload 10, 2) := by decide +kernel
theorem dX7_told_83 : decode cX7_told 83 = .ok (.ifCond .ge 8, 3) := by decide +kernel
theorem dX7_told_86 : decode cX7_told 86 = .ok (.iload 11, 2) := by decide +kernel
theorem dX7_told_88 : decode cX7_told 88 = .ok (.goto 5, 3) := by decide +kernel
theorem dX7_told_91 : decode cX7_told 91 = .ok (.iload 10, 2) := by decide +kernel
theorem dX7_told_93 : decode cX7_told 93 = .ok (.istore 10, 2) := by decide +kernel
theorem dX7_told_95 : decode cX7_told 95 = .ok (.iinc 11 1, 3) := by decide +kernel
theorem dX7_told_98 : decode cX7_told 98 = .ok (.goto (-51), 3) := by decide +kernel
theorem dX7_told_101 : decode cX7_told 101 = .ok (.aload_n 0, 1) := by decide +kernel
theorem dX7_told_102 : decode cX7_told 102 = .ok (.getfield 13, 3) := by decide +kernel
theorem dX7_told_105 : decode cX7_told 105 = .ok (.iload_n 1, 1) := by decide +kernel
theorem dX7_told_106 : decode cX7_told 106 = .ok (.iload 8, 2) := by decide +kernel
theorem dX7_told_108 : decode cX7_told 108 = .ok (.iastore, 1) := by decide +kernel
theorem dX7_told_109 : decode cX7_told 109 = .ok (.iload 6, 2) := by decide +kernel
theorem dX7_told_111 : decode cX7_told 111 = .ok (.ifCond .ne 8, 3) := by decide +kernel
theorem dX7_told_114 : decode cX7_told 114 = .ok (.iload 9, 2) := by decide +kernel
theorem dX7_told_116 : decode cX7_told 116 = .ok (.goto 5, 3) := by decide +kernel
theorem dX7_told_119 : decode cX7_told 119 = .ok (.iload 10, 2) := by decide +kernel
theorem dX7_told_121 : decode cX7_told 121 = .ok (.ireturn, 1) := by decide +kernel
theorem dX7_kinds_0 : decode cX7_kinds 0 = .ok (.aload_n 0, 1) := by decide +kernel
theorem dX7_kinds_1 : decode cX7_kinds 1 = .ok (.iload_n 1, 1) := by decide +kernel
theorem dX7_kinds_2 : decode cX7_kinds 2 = .ok (.iload_n 2, 1) := by decide +kernel
theorem dX7_kinds_3 : decode cX7_kinds 3 = .ok (.iload_n 3, 1) := by decide +kernel
theorem dX7_kinds_4 : decode cX7_kinds 4 = .ok (.iload 4, 2) := by decide +kernel
theorem dX7_kinds_6 : decode cX7_kinds 6 = .ok (.iload 5, 2) := by decide +kernel
theorem dX7_kinds_8 : decode cX7_kinds 8 = .ok (.iconst 1, 1) := by decide +kernel
theorem dX7_kinds_9 : decode cX7_kinds 9 = .ok (.invokevirtual 219, 3) := by decide +kernel
theorem dX7_kinds_12 : decode cX7_kinds 12 = .ok (.istore 6, 2) := by decide +kernel
theorem dX7_kinds_14 : decode cX7_kinds 14 = .ok (.iload 6, 2) := by decide +kernel
theorem dX7_kinds_16 : decode cX7_kinds 16 = .ok (.ifCond .ge 6, 3) := by decide +kernel
theorem dX7_kinds_19 : decode cX7_kinds 19 = .ok (.iload 6, 2) := by decide +kernel
theorem dX7_kinds_21 : decode cX7_kinds 21 = .ok (.ireturn, 1) := by decide +kernel
theorem dX7_kinds_22 : decode cX7_kinds 22 = .ok (.aload_n 0, 1) := by decide +kernel
theorem dX7_kinds_23 : decode cX7_kinds 23 = .ok (.getfield 7, 3) := by decide +kernel
theorem dX7_kinds_26 : decode cX7_kinds 26 = .ok (.iload_n 1, 1) := by decide +kernel
theorem dX7_kinds_27 : decode cX7_kinds 27 = .ok (.iaload, 1) := by decide +kernel
theorem dX7_kinds_28 : decode cX7_kinds 28 = .ok (.istore 7, 2) := by decide +kernel
theorem dX7_kinds_30 : decode cX7_kinds 30 = .ok (.iconst 0, 1) := by decide +kernel
theorem dX7_kinds_31 : decode cX7_kinds 31 = .ok (.istore 8, 2) := by decide +kernel
theorem dX7_kinds_33 : decode cX7_kinds 33 = .ok (.iconst 0, 1) := by decide +kernel
theorem dX7_kinds_34 : decode cX7_kinds 34 = .ok (.istore 9, 2) := by decide +kernel
theorem dX7_kinds_36 : decode cX7_kinds 36 = .ok (.iload 9, 2) := by decide +kernel
theorem dX7_kinds_38 : decode cX7_kinds 38 = .ok (.iconst 3, 1) := by decide +kernel
theorem dX7_kinds_39 : decode cX7_kinds 39 = .ok (.if_icmp .ge 46, 3) := by decide +kernel
theorem dX7_kinds_42 : decode cX7_kinds 42 = .ok (.aload_n 0, 1) := by decide +kernel
theorem dX7_kinds_43 : decode cX7_kinds 43 = .ok (.getfield 7, 3) := by decide +kernel
theorem dX7_kinds_46 : decode cX7_kinds 46 = .ok (.iload_n 1, 1) := by decide +kernel
theorem dX7_kinds_47 : decode cX7_kinds 47 = .ok (.iload 9, 2) := by decide +kernel
theorem dX7_kinds_49 : decode cX7_kinds 49 = .ok (.iastore, 1) := by decide +kernel
theorem dX7_kinds_50 : decode cX7_kinds 50 = .ok (.iload 8, 2) := by decide +kernel
theorem dX7_kinds_52 : decode cX7_kinds 52 = .ok (.aload_n 0, 1) := by decide +kernel
theorem dX7_kinds_53 : decode cX7_kinds 53 = .ok (.bipush 60, 2) := by decide +kernel
theorem dX7_kinds_55 : decode cX7_kinds 55 = .ok (.iload_n 2, 1) := by decide +kernel
theorem dX7_kinds_56 : decode cX7_kinds 56 = .ok (.imul, 1) := by decide +kernel
theorem dX7_kinds_57 : decode cX7_kinds 57 = .ok (.iload 4, 2) := by decide +kernel
theorem dX7_kinds_59 : decode cX7_kinds 59 = .ok (.iadd, 1) := by decide +kernel
theorem dX7_kinds_60 : decode cX7_kinds 60 = .ok (.iload 5, 2) := by decide +kernel
theorem dX7_kinds_62 : decode cX7_kinds 62 = .ok (.invokevirtual 223, 3) := by decide +kernel
theorem dX7_kinds_65 : decode cX7_kinds 65 = .ok (.ifCond .eq 10, 3) := by decide +kernel
theorem dX7_kinds_68 : decode cX7_kinds 68 = .ok (.iconst 1, 1) := by decide +kernel
theorem dX7_kinds_69 : decode cX7_kinds 69 = .ok (.iload 9, 2) := by decide +kernel
theorem dX7_kinds_71 : decode cX7_kinds 71 = .ok (.ishl, 1) := by decide +kernel
theorem dX7_kinds_72 : decode cX7_kinds 72 = .ok (.goto 4, 3) := by decide +kernel
theorem dX7_kinds_75 : decode cX7_kinds 75 = .ok (.iconst 0, 1) := by decide +kernel
theorem dX7_kinds_76 : decode cX7_kinds 76 = .ok (.ior, 1) := by decide +kernel
theorem dX7_kinds_77 : decode cX7_kinds 77 = .ok (.istore 8, 2) := by decide +kernel
theorem dX7_kinds_79 : decode cX7_kinds 79 = .ok (.iinc 9 1, 3) := by decide +kernel
theorem dX7_kinds_82 : decode cX7_kinds 82 = .ok (.goto (-46), 3) := by decide +kernel
theorem dX7_kinds_85 : decode cX7_kinds 85 = .ok (.aload_n 0, 1) := by decide +kernel
theorem dX7_kinds_86 : decode cX7_kinds 86 = .ok (.getfield 7, 3) := by decide +kernel
theorem dX7_kinds_89 : decode cX7_kinds 89 = .ok (.iload_n 1, 1) := by decide +kernel
theorem dX7_kinds_90 : decode cX7_kinds 90 = .ok (.iload 7, 2) := by decide +kernel
theorem dX7_kinds_92 : decode cX7_kinds 92 = .ok (.iastore, 1) := by decide +kernel
theorem dX7_kinds_93 : decode cX7_kinds 93 = .ok (.iload 8, 2) := by decide +kernel
theorem dX7_kinds_95 : decode cX7_kinds 95 = .ok (.ireturn, 1) := by decide +kernel
theorem dX7_wears_0 : decode cX7_wears 0 = .ok (.aload_n 0, 1) := by decide +kernel
theorem dX7_wears_1 : decode cX7_wears 1 = .ok (.iload_n 1, 1) := by decide +kernel
theorem dX7_wears_2 : decode cX7_wears 2 = .ok (.iload_n 2, 1) := by decide +kernel
theorem dX7_wears_3 : decode cX7_wears 3 = .ok (.iload_n 3, 1) := by decide +kernel
theorem dX7_wears_4 : decode cX7_wears 4 = .ok (.iload 4, 2) := by decide +kernel
theorem dX7_wears_6 : decode cX7_wears 6 = .ok (.iload 5, 2) := by decide +kernel
theorem dX7_wears_8 : decode cX7_wears 8 = .ok (.iconst 1, 1) := by decide +kernel
theorem dX7_wears_9 : decode cX7_wears 9 = .ok (.invokevirtual 219, 3) := by decide +kernel
theorem dX7_wears_12 : decode cX7_wears 12 = .ok (.istore 6, 2) := by decide +kernel
theorem dX7_wears_14 : decode cX7_wears 14 = .ok (.iload 6, 2) := by decide +kernel
theorem dX7_wears_16 : decode cX7_wears 16 = .ok (.ifCond .ge 6, 3) := by decide +kernel
theorem dX7_wears_19 : decode cX7_wears 19 = .ok (.iload 6, 2) := by decide +kernel
theorem dX7_wears_21 : decode cX7_wears 21 = .ok (.ireturn, 1) := by decide +kernel
theorem dX7_wears_22 : decode cX7_wears 22 = .ok (.aload_n 0, 1) := by decide +kernel
theorem dX7_wears_23 : decode cX7_wears 23 = .ok (.getfield 19, 3) := by decide +kernel
theorem dX7_wears_26 : decode cX7_wears 26 = .ok (.iload_n 1, 1) := by decide +kernel
theorem dX7_wears_27 : decode cX7_wears 27 = .ok (.iaload, 1) := by decide +kernel
theorem dX7_wears_28 : decode cX7_wears 28 = .ok (.istore 7, 2) := by decide +kernel
theorem dX7_wears_30 : decode cX7_wears 30 = .ok (.iconst 0, 1) := by decide +kernel
theorem dX7_wears_31 : decode cX7_wears 31 = .ok (.istore 8, 2) := by decide +kernel
theorem dX7_wears_33 : decode cX7_wears 33 = .ok (.iconst 1, 1) := by decide +kernel
theorem dX7_wears_34 : decode cX7_wears 34 = .ok (.istore 9, 2) := by decide +kernel
theorem dX7_wears_36 : decode cX7_wears 36 = .ok (.iload 9, 2) := by decide +kernel
theorem dX7_wears_38 : decode cX7_wears 38 = .ok (.bipush 10, 2) := by decide +kernel
theorem dX7_wears_40 : decode cX7_wears 40 = .ok (.if_icmp .ge 46, 3) := by decide +kernel
theorem dX7_wears_43 : decode cX7_wears 43 = .ok (.aload_n 0, 1) := by decide +kernel
theorem dX7_wears_44 : decode cX7_wears 44 = .ok (.getfield 19, 3) := by decide +kernel
theorem dX7_wears_47 : decode cX7_wears 47 = .ok (.iload_n 1, 1) := by decide +kernel
theorem dX7_wears_48 : decode cX7_wears 48 = .ok (.iload 9, 2) := by decide +kernel
theorem dX7_wears_50 : decode cX7_wears 50 = .ok (.iastore, 1) := by decide +kernel
theorem dX7_wears_51 : decode cX7_wears 51 = .ok (.iload 8, 2) := by decide +kernel
theorem dX7_wears_53 : decode cX7_wears 53 = .ok (.aload_n 0, 1) := by decide +kernel
theorem dX7_wears_54 : decode cX7_wears 54 = .ok (.bipush 60, 2) := by decide +kernel
theorem dX7_wears_56 : decode cX7_wears 56 = .ok (.iload_n 2, 1) := by decide +kernel
theorem dX7_wears_57 : decode cX7_wears 57 = .ok (.imul, 1) := by decide +kernel
theorem dX7_wears_58 : decode cX7_wears 58 = .ok (.iload 4, 2) := by decide +kernel
theorem dX7_wears_60 : decode cX7_wears 60 = .ok (.iadd, 1) := by decide +kernel
theorem dX7_wears_61 : decode cX7_wears 61 = .ok (.iload 5, 2) := by decide +kernel
theorem dX7_wears_63 : decode cX7_wears 63 = .ok (.invokevirtual 223, 3) := by decide +kernel
theorem dX7_wears_66 : decode cX7_wears 66 = .ok (.ifCond .eq 10, 3) := by decide +kernel
theorem dX7_wears_69 : decode cX7_wears 69 = .ok (.iconst 1, 1) := by decide +kernel
theorem dX7_wears_70 : decode cX7_wears 70 = .ok (.iload 9, 2) := by decide +kernel
theorem dX7_wears_72 : decode cX7_wears 72 = .ok (.ishl, 1) := by decide +kernel
theorem dX7_wears_73 : decode cX7_wears 73 = .ok (.goto 4, 3) := by decide +kernel
theorem dX7_wears_76 : decode cX7_wears 76 = .ok (.iconst 0, 1) := by decide +kernel
theorem dX7_wears_77 : decode cX7_wears 77 = .ok (.ior, 1) := by decide +kernel
theorem dX7_wears_78 : decode cX7_wears 78 = .ok (.istore 8, 2) := by decide +kernel
theorem dX7_wears_80 : decode cX7_wears 80 = .ok (.iinc 9 1, 3) := by decide +kernel
theorem dX7_wears_83 : decode cX7_wears 83 = .ok (.goto (-47), 3) := by decide +kernel
theorem dX7_wears_86 : decode cX7_wears 86 = .ok (.aload_n 0, 1) := by decide +kernel
theorem dX7_wears_87 : decode cX7_wears 87 = .ok (.getfield 19, 3) := by decide +kernel
theorem dX7_wears_90 : decode cX7_wears 90 = .ok (.iload_n 1, 1) := by decide +kernel
theorem dX7_wears_91 : decode cX7_wears 91 = .ok (.iload 7, 2) := by decide +kernel
theorem dX7_wears_93 : decode cX7_wears 93 = .ok (.iastore, 1) := by decide +kernel
theorem dX7_wears_94 : decode cX7_wears 94 = .ok (.iload 8, 2) := by decide +kernel
theorem dX7_wears_96 : decode cX7_wears 96 = .ok (.ireturn, 1) := by decide +kernel
theorem dX7_odds_0 : decode cX7_odds 0 = .ok (.aload_n 0, 1) := by decide +kernel
theorem dX7_odds_1 : decode cX7_odds 1 = .ok (.iload_n 1, 1) := by decide +kernel
theorem dX7_odds_2 : decode cX7_odds 2 = .ok (.iload_n 2, 1) := by decide +kernel
theorem dX7_odds_3 : decode cX7_odds 3 = .ok (.iload_n 3, 1) := by decide +kernel
theorem dX7_odds_4 : decode cX7_odds 4 = .ok (.iload 4, 2) := by decide +kernel
theorem dX7_odds_6 : decode cX7_odds 6 = .ok (.iload 5, 2) := by decide +kernel
theorem dX7_odds_8 : decode cX7_odds 8 = .ok (.iload 6, 2) := by decide +kernel
theorem dX7_odds_10 : decode cX7_odds 10 = .ok (.i2l, 1) := by decide +kernel
theorem dX7_odds_11 : decode cX7_odds 11 = .ok (.lconst 0, 1) := by decide +kernel
theorem dX7_odds_12 : decode cX7_odds 12 = .ok (.lconst 1, 1) := by decide +kernel
theorem dX7_odds_13 : decode cX7_odds 13 = .ok (.invokestatic 90, 3) := by decide +kernel
theorem dX7_odds_16 : decode cX7_odds 16 = .ok (.invokevirtual 219, 3) := by decide +kernel
theorem dX7_odds_19 : decode cX7_odds 19 = .ok (.ifCond .ge 7, 3) := by decide +kernel
theorem dX7_odds_22 : decode cX7_odds 22 = .ok (.invokestatic 83, 3) := by decide +kernel
theorem dX7_odds_25 : decode cX7_odds 25 = .ok (.lreturn, 1) := by decide +kernel
theorem dX7_odds_26 : decode cX7_odds 26 = .ok (.aload_n 0, 1) := by decide +kernel
theorem dX7_odds_27 : decode cX7_odds 27 = .ok (.bipush 60, 2) := by decide +kernel
theorem dX7_odds_29 : decode cX7_odds 29 = .ok (.iload_n 2, 1) := by decide +kernel
theorem dX7_odds_30 : decode cX7_odds 30 = .ok (.imul, 1) := by decide +kernel
theorem dX7_odds_31 : decode cX7_odds 31 = .ok (.iload 4, 2) := by decide +kernel
theorem dX7_odds_33 : decode cX7_odds 33 = .ok (.iadd, 1) := by decide +kernel
theorem dX7_odds_34 : decode cX7_odds 34 = .ok (.iload 5, 2) := by decide +kernel
theorem dX7_odds_36 : decode cX7_odds 36 = .ok (.invokevirtual 202, 3) := by decide +kernel
theorem dX7_odds_39 : decode cX7_odds 39 = .ok (.aload_n 0, 1) := by decide +kernel
theorem dX7_odds_40 : decode cX7_odds 40 = .ok (.getfield 159, 3) := by decide +kernel
theorem dX7_odds_43 : decode cX7_odds 43 = .ok (.ifCond .lt 7, 3) := by decide +kernel
theorem dX7_odds_46 : decode cX7_odds 46 = .ok (.invokestatic 83, 3) := by decide +kernel
theorem dX7_odds_49 : decode cX7_odds 49 = .ok (.lreturn, 1) := by decide +kernel
theorem dX7_odds_50 : decode cX7_odds 50 = .ok (.aload_n 0, 1) := by decide +kernel
theorem dX7_odds_51 : decode cX7_odds 51 = .ok (.getfield 16, 3) := by decide +kernel
theorem dX7_odds_54 : decode cX7_odds 54 = .ok (.iload_n 1, 1) := by decide +kernel
theorem dX7_odds_55 : decode cX7_odds 55 = .ok (.iaload, 1) := by decide +kernel
theorem dX7_odds_56 : decode cX7_odds 56 = .ok (.bipush 6, 2) := by decide +kernel
theorem dX7_odds_58 : decode cX7_odds 58 = .ok (.if_icmp .ne 5, 3) := by decide +kernel
theorem dX7_odds_61 : decode cX7_odds 61 = .ok (.lconst 1, 1) := by decide +kernel
theorem dX7_odds_62 : decode cX7_odds 62 = .ok (.lreturn, 1) := by decide +kernel
theorem dX7_odds_63 : decode cX7_odds 63 = .ok (.iconst 0, 1) := by decide +kernel
theorem dX7_odds_64 : decode cX7_odds 64 = .ok (.istore 7, 2) := by decide +kernel
theorem dX7_odds_66 : decode cX7_odds 66 = .ok (.iconst 0, 1) := by decide +kernel
theorem dX7_odds_67 : decode cX7_odds 67 = .ok (.istore 8, 2) := by decide +kernel
theorem dX7_odds_69 : decode cX7_odds 69 = .ok (.iload 8, 2) := by decide +kernel
theorem dX7_odds_71 : decode cX7_odds 71 = .ok (.aload_n 0, 1) := by decide +kernel
theorem dX7_odds_72 : decode cX7_odds 72 = .ok (.getfield 87, 3) := by decide +kernel
theorem dX7_odds_75 : decode cX7_odds 75 = .ok (.if_icmp .ge 33, 3) := by decide +kernel
theorem dX7_odds_78 : decode cX7_odds 78 = .ok (.iload 7, 2) := by decide +kernel
theorem dX7_odds_80 : decode cX7_odds 80 = .ok (.aload_n 0, 1) := by decide +kernel
theorem dX7_odds_81 : decode cX7_odds 81 = .ok (.getfield 46, 3) := by decide +kernel
theorem dX7_odds_84 : decode cX7_odds 84 = .ok (.iload_n 1, 1) := by decide +kernel
theorem dX7_odds_85 : decode cX7_odds 85 = .ok (.iaload, 1) := by decide +kernel
theorem dX7_odds_86 : decode cX7_odds 86 = .ok (.iload 8, 2) := by decide +kernel
theorem dX7_odds_88 : decode cX7_odds 88 = .ok (.invokestatic 149, 3) := by decide +kernel
theorem dX7_odds_91 : decode cX7_odds 91 = .ok (.ifCond .eq 7, 3) := by decide +kernel
theorem dX7_odds_94 : decode cX7_odds 94 = .ok (.iconst 1, 1) := by decide +kernel
theorem dX7_odds_95 : decode cX7_odds 95 = .ok (.goto 4, 3) := by decide +kernel
theorem dX7_odds_98 : decode cX7_odds 98 = .ok (.iconst 0, 1) := by decide +kernel
theorem dX7_odds_99 : decode cX7_odds 99 = .ok (.iadd, 1) := by decide +kernel
theorem dX7_odds_100 : decode cX7_odds 100 = .ok (.istore 7, 2) := by decide +kernel
theorem dX7_odds_102 : decode cX7_odds 102 = .ok (.iinc 8 1, 3) := by decide +kernel
theorem dX7_odds_105 : decode cX7_odds 105 = .ok (.goto (-36), 3) := by decide +kernel
theorem dX7_odds_108 : decode cX7_odds 108 = .ok (.iload 6, 2) := by decide +kernel
theorem dX7_odds_110 : decode cX7_odds 110 = .ok (.ifCond .ne 12, 3) := by decide +kernel
theorem dX7_odds_113 : decode cX7_odds 113 = .ok (.lconst 1, 1) := by decide +kernel
theorem dX7_odds_114 : decode cX7_odds 114 = .ok (.iload 7, 2) := by decide +kernel
theorem dX7_odds_116 : decode cX7_odds 116 = .ok (.lshl, 1) := by decide +kernel
theorem dX7_odds_117 : decode cX7_odds 117 = .ok (.lconst 1, 1) := by decide +kernel
theorem dX7_odds_118 : decode cX7_odds 118 = .ok (.lsub, 1) := by decide +kernel
theorem dX7_odds_119 : decode cX7_odds 119 = .ok (.goto 7, 3) := by decide +kernel
theorem dX7_odds_122 : decode cX7_odds 122 = .ok (.lconst 1, 1) := by decide +kernel
theorem dX7_odds_123 : decode cX7_odds 123 = .ok (.iload 7, 2) := by decide +kernel
theorem dX7_odds_125 : decode cX7_odds 125 = .ok (.lshl, 1) := by decide +kernel
theorem dX7_odds_126 : decode cX7_odds 126 = .ok (.lreturn, 1) := by decide +kernel
theorem dX7_noSheet_0 : decode cX7_noSheet 0 = .ok (.iload_n 0, 1) := by decide +kernel
theorem dX7_noSheet_1 : decode cX7_noSheet 1 = .ok (.i2l, 1) := by decide +kernel
theorem dX7_noSheet_2 : decode cX7_noSheet 2 = .ok (.lconst 0, 1) := by decide +kernel
theorem dX7_noSheet_3 : decode cX7_noSheet 3 = .ok (.ldc2_w 185, 3) := by decide +kernel
theorem dX7_noSheet_6 : decode cX7_noSheet 6 = .ok (.invokestatic 90, 3) := by decide +kernel
theorem dX7_noSheet_9 : decode cX7_noSheet 9 = .ok (.ifCond .ne 7, 3) := by decide +kernel
theorem dX7_noSheet_12 : decode cX7_noSheet 12 = .ok (.iconst 1, 1) := by decide +kernel
theorem dX7_noSheet_13 : decode cX7_noSheet 13 = .ok (.goto 4, 3) := by decide +kernel
theorem dX7_noSheet_16 : decode cX7_noSheet 16 = .ok (.iconst 0, 1) := by decide +kernel
theorem dX7_noSheet_17 : decode cX7_noSheet 17 = .ok (.ireturn, 1) := by decide +kernel
theorem dX7_sheet_0 : decode cX7_sheet 0 = .ok (.iload_n 1, 1) := by decide +kernel
theorem dX7_sheet_1 : decode cX7_sheet 1 = .ok (.invokestatic 120, 3) := by decide +kernel
theorem dX7_sheet_4 : decode cX7_sheet 4 = .ok (.ifCond .eq 9, 3) := by decide +kernel
theorem dX7_sheet_7 : decode cX7_sheet 7 = .ok (.aload_n 0, 1) := by decide +kernel
theorem dX7_sheet_8 : decode cX7_sheet 8 = .ok (.iconst (-1), 1) := by decide +kernel
theorem dX7_sheet_9 : decode cX7_sheet 9 = .ok (.invokevirtual 124, 3) := by decide +kernel
theorem dX7_sheet_12 : decode cX7_sheet 12 = .ok (.ireturn, 1) := by decide +kernel
theorem dX7_sheet_13 : decode cX7_sheet 13 = .ok (.iload_n 2, 1) := by decide +kernel
theorem dX7_sheet_14 : decode cX7_sheet 14 = .ok (.i2l, 1) := by decide +kernel
theorem dX7_sheet_15 : decode cX7_sheet 15 = .ok (.lconst 0, 1) := by decide +kernel
theorem dX7_sheet_16 : decode cX7_sheet 16 = .ok (.ldc2_w 127, 3) := by decide +kernel
theorem dX7_sheet_19 : decode cX7_sheet 19 = .ok (.invokestatic 90, 3) := by decide +kernel
theorem dX7_sheet_22 : decode cX7_sheet 22 = .ok (.ifCond .eq 9, 3) := by decide +kernel
theorem dX7_sheet_25 : decode cX7_sheet 25 = .ok (.iload_n 3, 1) := by decide +kernel
theorem dX7_sheet_26 : decode cX7_sheet 26 = .ok (.bipush 60, 2) := by decide +kernel
theorem dX7_sheet_28 : decode cX7_sheet 28 = .ok (.if_icmp .le 10, 3) := by decide +kernel
theorem dX7_sheet_31 : decode cX7_sheet 31 = .ok (.aload_n 0, 1) := by decide +kernel
theorem dX7_sheet_32 : decode cX7_sheet 32 = .ok (.bipush (-2), 2) := by decide +kernel
theorem dX7_sheet_34 : decode cX7_sheet 34 = .ok (.invokevirtual 124, 3) := by decide +kernel
theorem dX7_sheet_37 : decode cX7_sheet 37 = .ok (.ireturn, 1) := by decide +kernel
theorem dX7_sheet_38 : decode cX7_sheet 38 = .ok (.iload_n 3, 1) := by decide +kernel
theorem dX7_sheet_39 : decode cX7_sheet 39 = .ok (.ifCond .ge 9, 3) := by decide +kernel
theorem dX7_sheet_42 : decode cX7_sheet 42 = .ok (.aload_n 0, 1) := by decide +kernel
theorem dX7_sheet_43 : decode cX7_sheet 43 = .ok (.iconst 4, 1) := by decide +kernel
theorem dX7_sheet_44 : decode cX7_sheet 44 = .ok (.invokevirtual 112, 3) := by decide +kernel
theorem dX7_sheet_47 : decode cX7_sheet 47 = .ok (.ireturn, 1) := by decide +kernel
theorem dX7_sheet_48 : decode cX7_sheet 48 = .ok (.aload_n 0, 1) := by decide +kernel
theorem dX7_sheet_49 : decode cX7_sheet 49 = .ok (.getfield 65, 3) := by decide +kernel
theorem dX7_sheet_52 : decode cX7_sheet 52 = .ok (.iload_n 1, 1) := by decide +kernel
theorem dX7_sheet_53 : decode cX7_sheet 53 = .ok (.iload_n 3, 1) := by decide +kernel
theorem dX7_sheet_54 : decode cX7_sheet 54 = .ok (.iastore, 1) := by decide +kernel
theorem dX7_sheet_55 : decode cX7_sheet 55 = .ok (.aload_n 0, 1) := by decide +kernel
theorem dX7_sheet_56 : decode cX7_sheet 56 = .ok (.getfield 68, 3) := by decide +kernel
theorem dX7_sheet_59 : decode cX7_sheet 59 = .ok (.iload_n 1, 1) := by decide +kernel
theorem dX7_sheet_60 : decode cX7_sheet 60 = .ok (.iload_n 2, 1) := by decide +kernel
theorem dX7_sheet_61 : decode cX7_sheet 61 = .ok (.iastore, 1) := by decide +kernel
theorem dX7_sheet_62 : decode cX7_sheet 62 = .ok (.iconst 0, 1) := by decide +kernel
theorem dX7_sheet_63 : decode cX7_sheet 63 = .ok (.istore 4, 2) := by decide +kernel
theorem dX7_sheet_65 : decode cX7_sheet 65 = .ok (.iload 4, 2) := by decide +kernel
theorem dX7_sheet_67 : decode cX7_sheet 67 = .ok (.iload_n 3, 1) := by decide +kernel
theorem dX7_sheet_68 : decode cX7_sheet 68 = .ok (.if_icmp .ge 22, 3) := by decide +kernel
theorem dX7_sheet_71 : decode cX7_sheet 71 = .ok (.aload_n 0, 1) := by decide +kernel
theorem dX7_sheet_72 : decode cX7_sheet 72 = .ok (.getfield 71, 3) := by decide +kernel
theorem dX7_sheet_75 : decode cX7_sheet 75 = .ok (.bipush 60, 2) := by decide +kernel
theorem dX7_sheet_77 : decode cX7_sheet 77 = .ok (.iload_n 1, 1) := by decide +kernel
theorem dX7_sheet_78 : decode cX7_sheet 78 = .ok (.imul, 1) := by decide +kernel
theorem dX7_sheet_79 : decode cX7_sheet 79 = .ok (.iload 4, 2) := by decide +kernel
theorem dX7_sheet_81 : decode cX7_sheet 81 = .ok (.iadd, 1) := by decide +kernel
theorem dX7_sheet_82 : decode cX7_sheet 82 = .ok (.iconst 0, 1) := by decide +kernel
theorem dX7_sheet_83 : decode cX7_sheet 83 = .ok (.iastore, 1) := by decide +kernel
theorem dX7_sheet_84 : decode cX7_sheet 84 = .ok (.iinc 4 1, 3) := by decide +kernel
theorem dX7_sheet_87 : decode cX7_sheet 87 = .ok (.goto (-22), 3) := by decide +kernel
theorem dX7_sheet_90 : decode cX7_sheet 90 = .ok (.aload_n 0, 1) := by decide +kernel
theorem dX7_sheet_91 : decode cX7_sheet 91 = .ok (.iconst 1, 1) := by decide +kernel
theorem dX7_sheet_92 : decode cX7_sheet 92 = .ok (.invokevirtual 124, 3) := by decide +kernel
theorem dX7_sheet_95 : decode cX7_sheet 95 = .ok (.ireturn, 1) := by decide +kernel
theorem dX7_lose_0 : decode cX7_lose 0 = .ok (.iload_n 1, 1) := by decide +kernel
theorem dX7_lose_1 : decode cX7_lose 1 = .ok (.invokestatic 120, 3) := by decide +kernel
theorem dX7_lose_4 : decode cX7_lose 4 = .ok (.ifCond .eq 5, 3) := by decide +kernel
theorem dX7_lose_7 : decode cX7_lose 7 = .ok (.iconst (-1), 1) := by decide +kernel
theorem dX7_lose_8 : decode cX7_lose 8 = .ok (.ireturn, 1) := by decide +kernel
theorem dX7_lose_9 : decode cX7_lose 9 = .ok (.aload_n 0, 1) := by decide +kernel
theorem dX7_lose_10 : decode cX7_lose 10 = .ok (.getfield 65, 3) := by decide +kernel
theorem dX7_lose_13 : decode cX7_lose 13 = .ok (.iload_n 1, 1) := by decide +kernel
theorem dX7_lose_14 : decode cX7_lose 14 = .ok (.iaload, 1) := by decide +kernel
theorem dX7_lose_15 : decode cX7_lose 15 = .ok (.ifCond .ge 7, 3) := by decide +kernel
theorem dX7_lose_18 : decode cX7_lose 18 = .ok (.iconst 0, 1) := by decide +kernel
theorem dX7_lose_19 : decode cX7_lose 19 = .ok (.goto 4, 3) := by decide +kernel
theorem dX7_lose_22 : decode cX7_lose 22 = .ok (.iconst 1, 1) := by decide +kernel
theorem dX7_lose_23 : decode cX7_lose 23 = .ok (.istore_n 2, 1) := by decide +kernel
theorem dX7_lose_24 : decode cX7_lose 24 = .ok (.aload_n 0, 1) := by decide +kernel
theorem dX7_lose_25 : decode cX7_lose 25 = .ok (.getfield 65, 3) := by decide +kernel
theorem dX7_lose_28 : decode cX7_lose 28 = .ok (.iload_n 1, 1) := by decide +kernel
theorem dX7_lose_29 : decode cX7_lose 29 = .ok (.iconst (-1), 1) := by decide +kernel
theorem dX7_lose_30 : decode cX7_lose 30 = .ok (.iastore, 1) := by decide +kernel
theorem dX7_lose_31 : decode cX7_lose 31 = .ok (.iload_n 2, 1) := by decide +kernel
theorem dX7_lose_32 : decode cX7_lose 32 = .ok (.ireturn, 1) := by decide +kernel
theorem dX7_noCell_0 : decode cX7_noCell 0 = .ok (.aload_n 0, 1) := by decide +kernel
theorem dX7_noCell_1 : decode cX7_noCell 1 = .ok (.getfield 65, 3) := by decide +kernel
theorem dX7_noCell_4 : decode cX7_noCell 4 = .ok (.iload_n 1, 1) := by decide +kernel
theorem dX7_noCell_5 : decode cX7_noCell 5 = .ok (.iaload, 1) := by decide +kernel
theorem dX7_noCell_6 : decode cX7_noCell 6 = .ok (.ifCond .ge 7, 3) := by decide +kernel
theorem dX7_noCell_9 : decode cX7_noCell 9 = .ok (.iconst 1, 1) := by decide +kernel
theorem dX7_noCell_10 : decode cX7_noCell 10 = .ok (.goto 26, 3) := by decide +kernel
theorem dX7_noCell_13 : decode cX7_noCell 13 = .ok (.iload_n 2, 1) := by decide +kernel
theorem dX7_noCell_14 : decode cX7_noCell 14 = .ok (.i2l, 1) := by decide +kernel
theorem dX7_noCell_15 : decode cX7_noCell 15 = .ok (.lconst 0, 1) := by decide +kernel
theorem dX7_noCell_16 : decode cX7_noCell 16 = .ok (.aload_n 0, 1) := by decide +kernel
theorem dX7_noCell_17 : decode cX7_noCell 17 = .ok (.getfield 65, 3) := by decide +kernel
theorem dX7_noCell_20 : decode cX7_noCell 20 = .ok (.iload_n 1, 1) := by decide +kernel
theorem dX7_noCell_21 : decode cX7_noCell 21 = .ok (.iaload, 1) := by decide +kernel
theorem dX7_noCell_22 : decode cX7_noCell 22 = .ok (.i2l, 1) := by decide +kernel
theorem dX7_noCell_23 : decode cX7_noCell 23 = .ok (.lconst 1, 1) := by decide +kernel
theorem dX7_noCell_24 : decode cX7_noCell 24 = .ok (.lsub, 1) := by decide +kernel
theorem dX7_noCell_25 : decode cX7_noCell 25 = .ok (.invokestatic 90, 3) := by decide +kernel
theorem dX7_noCell_28 : decode cX7_noCell 28 = .ok (.ifCond .eq 7, 3) := by decide +kernel
theorem dX7_noCell_31 : decode cX7_noCell 31 = .ok (.iconst 0, 1) := by decide +kernel
theorem dX7_noCell_32 : decode cX7_noCell 32 = .ok (.goto 4, 3) := by decide +kernel
theorem dX7_noCell_35 : decode cX7_noCell 35 = .ok (.iconst 3, 1) := by decide +kernel
theorem dX7_noCell_36 : decode cX7_noCell 36 = .ok (.ireturn, 1) := by decide +kernel
theorem dX7_put_0 : decode cX7_put 0 = .ok (.iload_n 1, 1) := by decide +kernel
theorem dX7_put_1 : decode cX7_put 1 = .ok (.invokestatic 120, 3) := by decide +kernel
theorem dX7_put_4 : decode cX7_put 4 = .ok (.ifCond .eq 9, 3) := by decide +kernel
theorem dX7_put_7 : decode cX7_put 7 = .ok (.aload_n 0, 1) := by decide +kernel
theorem dX7_put_8 : decode cX7_put 8 = .ok (.iconst (-1), 1) := by decide +kernel
theorem dX7_put_9 : decode cX7_put 9 = .ok (.invokevirtual 124, 3) := by decide +kernel
theorem dX7_put_12 : decode cX7_put 12 = .ok (.ireturn, 1) := by decide +kernel
theorem dX7_put_13 : decode cX7_put 13 = .ok (.aload_n 0, 1) := by decide +kernel
theorem dX7_put_14 : decode cX7_put 14 = .ok (.iload_n 1, 1) := by decide +kernel
theorem dX7_put_15 : decode cX7_put 15 = .ok (.iload_n 2, 1) := by decide +kernel
theorem dX7_put_16 : decode cX7_put 16 = .ok (.invokevirtual 226, 3) := by decide +kernel
theorem dX7_put_19 : decode cX7_put 19 = .ok (.ifCond .le 14, 3) := by decide +kernel
theorem dX7_put_22 : decode cX7_put 22 = .ok (.aload_n 0, 1) := by decide +kernel
theorem dX7_put_23 : decode cX7_put 23 = .ok (.aload_n 0, 1) := by decide +kernel
theorem dX7_put_24 : decode cX7_put 24 = .ok (.iload_n 1, 1) := by decide +kernel
theorem dX7_put_25 : decode cX7_put 25 = .ok (.iload_n 2, 1) := by decide +kernel
theorem dX7_put_26 : decode cX7_put 26 = .ok (.invokevirtual 226, 3) := by decide +kernel
theorem dX7_put_29 : decode cX7_put 29 = .ok (.invokevirtual 112, 3) := by decide +kernel
theorem dX7_put_32 : decode cX7_put 32 = .ok (.ireturn, 1) := by decide +kernel
theorem dX7_put_33 : decode cX7_put 33 = .ok (.aload_n 0, 1) := by decide +kernel
theorem dX7_put_34 : decode cX7_put 34 = .ok (.getfield 71, 3) := by decide +kernel
theorem dX7_put_37 : decode cX7_put 37 = .ok (.bipush 60, 2) := by decide +kernel
theorem dX7_put_39 : decode cX7_put 39 = .ok (.iload_n 1, 1) := by decide +kernel
theorem dX7_put_40 : decode cX7_put 40 = .ok (.imul, 1) := by decide +kernel
theorem dX7_put_41 : decode cX7_put 41 = .ok (.iload_n 2, 1) := by decide +kernel
theorem dX7_put_42 : decode cX7_put 42 = .ok (.iadd, 1) := by decide +kernel
theorem dX7_put_43 : decode cX7_put 43 = .ok (.aload_n 0, 1) := by decide +kernel
theorem dX7_put_44 : decode cX7_put 44 = .ok (.getfield 68, 3) := by decide +kernel
theorem dX7_put_47 : decode cX7_put 47 = .ok (.iload_n 1, 1) := by decide +kernel
theorem dX7_put_48 : decode cX7_put 48 = .ok (.iaload, 1) := by decide +kernel
theorem dX7_put_49 : decode cX7_put 49 = .ok (.ifCond .ne 8, 3) := by decide +kernel
theorem dX7_put_52 : decode cX7_put 52 = .ok (.iload_n 3, 1) := by decide +kernel
theorem dX7_put_53 : decode cX7_put 53 = .ok (.i2b, 1) := by decide +kernel
theorem dX7_put_54 : decode cX7_put 54 = .ok (.goto 19, 3) := by decide +kernel
theorem dX7_put_57 : decode cX7_put 57 = .ok (.aload_n 0, 1) := by decide +kernel
theorem dX7_put_58 : decode cX7_put 58 = .ok (.getfield 68, 3) := by decide +kernel
theorem dX7_put_61 : decode cX7_put 61 = .ok (.iload_n 1, 1) := by decide +kernel
theorem dX7_put_62 : decode cX7_put 62 = .ok (.iaload, 1) := by decide +kernel
theorem dX7_put_63 : decode cX7_put 63 = .ok (.iconst 1, 1) := by decide +kernel
theorem dX7_put_64 : decode cX7_put 64 = .ok (.if_icmp .ne 8, 3) := by decide +kernel
theorem dX7_put_67 : decode cX7_put 67 = .ok (.iload_n 3, 1) := by decide +kernel
theorem dX7_put_68 : decode cX7_put 68 = .ok (.i2s, 1) := by decide +kernel
theorem dX7_put_69 : decode cX7_put 69 = .ok (.goto 4, 3) := by decide +kernel
theorem dX7_put_72 : decode cX7_put 72 = .ok (.iload_n 3, 1) := by decide +kernel
