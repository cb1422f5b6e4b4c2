theorem dX0_init_0 : decode cX0_init 0 = .ok (.aload_n 0, 1) := by decide +kernel
theorem dX0_init_1 : decode cX0_init 1 = .ok (.invokespecial 3, 3) := by decide +kernel
theorem dX0_init_4 : decode cX0_init 4 = .ok (.aload_n 0, 1) := by decide +kernel
theorem dX0_init_5 : decode cX0_init 5 = .ok (.bipush 6, 2) := by decide +kernel
theorem dX0_init_7 : decode cX0_init 7 = .ok (.newarray .int, 2) := by decide +kernel
theorem dX0_init_9 : decode cX0_init 9 = .ok (.putfield 9, 3) := by decide +kernel
theorem dX0_init_12 : decode cX0_init 12 = .ok (.aload_n 0, 1) := by decide +kernel
theorem dX0_init_13 : decode cX0_init 13 = .ok (.bipush 6, 2) := by decide +kernel
theorem dX0_init_15 : decode cX0_init 15 = .ok (.newarray .int, 2) := by decide +kernel
theorem dX0_init_17 : decode cX0_init 17 = .ok (.putfield 15, 3) := by decide +kernel
theorem dX0_init_20 : decode cX0_init 20 = .ok (.aload_n 0, 1) := by decide +kernel
theorem dX0_init_21 : decode cX0_init 21 = .ok (.bipush 6, 2) := by decide +kernel
theorem dX0_init_23 : decode cX0_init 23 = .ok (.newarray .int, 2) := by decide +kernel
theorem dX0_init_25 : decode cX0_init 25 = .ok (.putfield 18, 3) := by decide +kernel
theorem dX0_init_28 : decode cX0_init 28 = .ok (.aload_n 0, 1) := by decide +kernel
theorem dX0_init_29 : decode cX0_init 29 = .ok (.bipush 6, 2) := by decide +kernel
theorem dX0_init_31 : decode cX0_init 31 = .ok (.newarray .int, 2) := by decide +kernel
theorem dX0_init_33 : decode cX0_init 33 = .ok (.putfield 21, 3) := by decide +kernel
theorem dX0_init_36 : decode cX0_init 36 = .ok (.aload_n 0, 1) := by decide +kernel
theorem dX0_init_37 : decode cX0_init 37 = .ok (.bipush 6, 2) := by decide +kernel
theorem dX0_init_39 : decode cX0_init 39 = .ok (.newarray .int, 2) := by decide +kernel
theorem dX0_init_41 : decode cX0_init 41 = .ok (.putfield 24, 3) := by decide +kernel
theorem dX0_init_44 : decode cX0_init 44 = .ok (.aload_n 0, 1) := by decide +kernel
theorem dX0_init_45 : decode cX0_init 45 = .ok (.bipush 36, 2) := by decide +kernel
theorem dX0_init_47 : decode cX0_init 47 = .ok (.newarray .int, 2) := by decide +kernel
theorem dX0_init_49 : decode cX0_init 49 = .ok (.putfield 27, 3) := by decide +kernel
theorem dX0_init_52 : decode cX0_init 52 = .ok (.aload_n 0, 1) := by decide +kernel
theorem dX0_init_53 : decode cX0_init 53 = .ok (.iconst 0, 1) := by decide +kernel
theorem dX0_init_54 : decode cX0_init 54 = .ok (.anewarray 30, 3) := by decide +kernel
theorem dX0_init_57 : decode cX0_init 57 = .ok (.putfield 32, 3) := by decide +kernel
theorem dX0_init_60 : decode cX0_init 60 = .ok (.aload_n 0, 1) := by decide +kernel
theorem dX0_init_61 : decode cX0_init 61 = .ok (.iconst 0, 1) := by decide +kernel
theorem dX0_init_62 : decode cX0_init 62 = .ok (.putfield 36, 3) := by decide +kernel
theorem dX0_init_65 : decode cX0_init 65 = .ok (.return_, 1) := by decide +kernel
theorem dX0_begin_0 : decode cX0_begin 0 = .ok (.aload_n 0, 1) := by decide +kernel
theorem dX0_begin_1 : decode cX0_begin 1 = .ok (.aload_n 1, 1) := by decide +kernel
theorem dX0_begin_2 : decode cX0_begin 2 = .ok (.putfield 32, 3) := by decide +kernel
theorem dX0_begin_5 : decode cX0_begin 5 = .ok (.aload_n 0, 1) := by decide +kernel
theorem dX0_begin_6 : decode cX0_begin 6 = .ok (.iload_n 2, 1) := by decide +kernel
theorem dX0_begin_7 : decode cX0_begin 7 = .ok (.aload_n 1, 1) := by decide +kernel
theorem dX0_begin_8 : decode cX0_begin 8 = .ok (.arraylength, 1) := by decide +kernel
theorem dX0_begin_9 : decode cX0_begin 9 = .ok (.bipush 6, 2) := by decide +kernel
theorem dX0_begin_11 : decode cX0_begin 11 = .ok (.invokestatic 40, 3) := by decide +kernel
theorem dX0_begin_14 : decode cX0_begin 14 = .ok (.invokestatic 40, 3) := by decide +kernel
theorem dX0_begin_17 : decode cX0_begin 17 = .ok (.putfield 36, 3) := by decide +kernel
theorem dX0_begin_20 : decode cX0_begin 20 = .ok (.iconst 0, 1) := by decide +kernel
theorem dX0_begin_21 : decode cX0_begin 21 = .ok (.istore_n 3, 1) := by decide +kernel
theorem dX0_begin_22 : decode cX0_begin 22 = .ok (.iload_n 3, 1) := by decide +kernel
theorem dX0_begin_23 : decode cX0_begin 23 = .ok (.aload_n 0, 1) := by decide +kernel
theorem dX0_begin_24 : decode cX0_begin 24 = .ok (.getfield 27, 3) := by decide +kernel
theorem dX0_begin_27 : decode cX0_begin 27 = .ok (.arraylength, 1) := by decide +kernel
theorem dX0_begin_28 : decode cX0_begin 28 = .ok (.if_icmp .ge 16, 3) := by decide +kernel
theorem dX0_begin_31 : decode cX0_begin 31 = .ok (.aload_n 0, 1) := by decide +kernel
theorem dX0_begin_32 : decode cX0_begin 32 = .ok (.getfield 27, 3) := by decide +kernel
theorem dX0_begin_35 : decode cX0_begin 35 = .ok (.iload_n 3, 1) := by decide +kernel
theorem dX0_begin_36 : decode cX0_begin 36 = .ok (.iconst 0, 1) := by decide +kernel
theorem dX0_begin_37 : decode cX0_begin 37 = .ok (.iastore, 1) := by decide +kernel
theorem dX0_begin_38 : decode cX0_begin 38 = .ok (.iinc 3 1, 3) := by decide +kernel
theorem dX0_begin_41 : decode cX0_begin 41 = .ok (.goto (-19), 3) := by decide +kernel
theorem dX0_begin_44 : decode cX0_begin 44 = .ok (.iconst 0, 1) := by decide +kernel
theorem dX0_begin_45 : decode cX0_begin 45 = .ok (.istore_n 3, 1) := by decide +kernel
theorem dX0_begin_46 : decode cX0_begin 46 = .ok (.iload_n 3, 1) := by decide +kernel
theorem dX0_begin_47 : decode cX0_begin 47 = .ok (.aload_n 0, 1) := by decide +kernel
theorem dX0_begin_48 : decode cX0_begin 48 = .ok (.getfield 36, 3) := by decide +kernel
theorem dX0_begin_51 : decode cX0_begin 51 = .ok (.if_icmp .ge 46, 3) := by decide +kernel
theorem dX0_begin_54 : decode cX0_begin 54 = .ok (.aload_n 0, 1) := by decide +kernel
theorem dX0_begin_55 : decode cX0_begin 55 = .ok (.getfield 18, 3) := by decide +kernel
theorem dX0_begin_58 : decode cX0_begin 58 = .ok (.iload_n 3, 1) := by decide +kernel
theorem dX0_begin_59 : decode cX0_begin 59 = .ok (.iconst 0, 1) := by decide +kernel
theorem dX0_begin_60 : decode cX0_begin 60 = .ok (.iastore, 1) := by decide +kernel
theorem dX0_begin_61 : decode cX0_begin 61 = .ok (.aload_n 0, 1) := by decide +kernel
theorem dX0_begin_62 : decode cX0_begin 62 = .ok (.getfield 21, 3) := by decide +kernel
theorem dX0_begin_65 : decode cX0_begin 65 = .ok (.iload_n 3, 1) := by decide +kernel
theorem dX0_begin_66 : decode cX0_begin 66 = .ok (.iload_n 3, 1) := by decide +kernel
theorem dX0_begin_67 : decode cX0_begin 67 = .ok (.iastore, 1) := by decide +kernel
theorem dX0_begin_68 : decode cX0_begin 68 = .ok (.aload_n 0, 1) := by decide +kernel
theorem dX0_begin_69 : decode cX0_begin 69 = .ok (.iload_n 3, 1) := by decide +kernel
theorem dX0_begin_70 : decode cX0_begin 70 = .ok (.aload_n 0, 1) := by decide +kernel
theorem dX0_begin_71 : decode cX0_begin 71 = .ok (.getfield 32, 3) := by decide +kernel
theorem dX0_begin_74 : decode cX0_begin 74 = .ok (.iload_n 3, 1) := by decide +kernel
theorem dX0_begin_75 : decode cX0_begin 75 = .ok (.aaload, 1) := by decide +kernel
theorem dX0_begin_76 : decode cX0_begin 76 = .ok (.getfield 46, 3) := by decide +kernel
theorem dX0_begin_79 : decode cX0_begin 79 = .ok (.aload_n 0, 1) := by decide +kernel
theorem dX0_begin_80 : decode cX0_begin 80 = .ok (.getfield 32, 3) := by decide +kernel
theorem dX0_begin_83 : decode cX0_begin 83 = .ok (.iload_n 3, 1) := by decide +kernel
theorem dX0_begin_84 : decode cX0_begin 84 = .ok (.aaload, 1) := by decide +kernel
theorem dX0_begin_85 : decode cX0_begin 85 = .ok (.invokevirtual 49, 3) := by decide +kernel
theorem dX0_begin_88 : decode cX0_begin 88 = .ok (.invokevirtual 52, 3) := by decide +kernel
theorem dX0_begin_91 : decode cX0_begin 91 = .ok (.iinc 3 1, 3) := by decide +kernel
theorem dX0_begin_94 : decode cX0_begin 94 = .ok (.goto (-48), 3) := by decide +kernel
theorem dX0_begin_97 : decode cX0_begin 97 = .ok (.return_, 1) := by decide +kernel
theorem dX0_place_0 : decode cX0_place 0 = .ok (.aload_n 0, 1) := by decide +kernel
theorem dX0_place_1 : decode cX0_place 1 = .ok (.getfield 9, 3) := by decide +kernel
theorem dX0_place_4 : decode cX0_place 4 = .ok (.iload_n 1, 1) := by decide +kernel
theorem dX0_place_5 : decode cX0_place 5 = .ok (.iload_n 2, 1) := by decide +kernel
theorem dX0_place_6 : decode cX0_place 6 = .ok (.iastore, 1) := by decide +kernel
theorem dX0_place_7 : decode cX0_place 7 = .ok (.aload_n 0, 1) := by decide +kernel
theorem dX0_place_8 : decode cX0_place 8 = .ok (.getfield 15, 3) := by decide +kernel
theorem dX0_place_11 : decode cX0_place 11 = .ok (.iload_n 1, 1) := by decide +kernel
theorem dX0_place_12 : decode cX0_place 12 = .ok (.iload_n 3, 1) := by decide +kernel
theorem dX0_place_13 : decode cX0_place 13 = .ok (.iastore, 1) := by decide +kernel
theorem dX0_place_14 : decode cX0_place 14 = .ok (.aload_n 0, 1) := by decide +kernel
theorem dX0_place_15 : decode cX0_place 15 = .ok (.getfield 24, 3) := by decide +kernel
theorem dX0_place_18 : decode cX0_place 18 = .ok (.iload_n 1, 1) := by decide +kernel
theorem dX0_place_19 : decode cX0_place 19 = .ok (.iload_n 2, 1) := by decide +kernel
theorem dX0_place_20 : decode cX0_place 20 = .ok (.iastore, 1) := by decide +kernel
theorem dX0_place_21 : decode cX0_place 21 = .ok (.aload_n 0, 1) := by decide +kernel
theorem dX0_place_22 : decode cX0_place 22 = .ok (.getfield 27, 3) := by decide +kernel
theorem dX0_place_25 : decode cX0_place 25 = .ok (.bipush 6, 2) := by decide +kernel
theorem dX0_place_27 : decode cX0_place 27 = .ok (.iload_n 1, 1) := by decide +kernel
theorem dX0_place_28 : decode cX0_place 28 = .ok (.imul, 1) := by decide +kernel
theorem dX0_place_29 : decode cX0_place 29 = .ok (.iload_n 1, 1) := by decide +kernel
theorem dX0_place_30 : decode cX0_place 30 = .ok (.iadd, 1) := by decide +kernel
theorem dX0_place_31 : decode cX0_place 31 = .ok (.iload_n 2, 1) := by decide +kernel
theorem dX0_place_32 : decode cX0_place 32 = .ok (.iastore, 1) := by decide +kernel
theorem dX0_place_33 : decode cX0_place 33 = .ok (.return_, 1) := by decide +kernel
theorem dX0_becomeLike_0 : decode cX0_becomeLike 0 = .ok (.aload_n 0, 1) := by decide +kernel
theorem dX0_becomeLike_1 : decode cX0_becomeLike 1 = .ok (.aload_n 1, 1) := by decide +kernel
theorem dX0_becomeLike_2 : decode cX0_becomeLike 2 = .ok (.getfield 32, 3) := by decide +kernel
theorem dX0_becomeLike_5 : decode cX0_becomeLike 5 = .ok (.putfield 32, 3) := by decide +kernel
theorem dX0_becomeLike_8 : decode cX0_becomeLike 8 = .ok (.aload_n 0, 1) := by decide +kernel
theorem dX0_becomeLike_9 : decode cX0_becomeLike 9 = .ok (.aload_n 1, 1) := by decide +kernel
theorem dX0_becomeLike_10 : decode cX0_becomeLike 10 = .ok (.getfield 36, 3) := by decide +kernel
theorem dX0_becomeLike_13 : decode cX0_becomeLike 13 = .ok (.putfield 36, 3) := by decide +kernel
theorem dX0_becomeLike_16 : decode cX0_becomeLike 16 = .ok (.aload_n 1, 1) := by decide +kernel
theorem dX0_becomeLike_17 : decode cX0_becomeLike 17 = .ok (.getfield 9, 3) := by decide +kernel
theorem dX0_becomeLike_20 : decode cX0_becomeLike 20 = .ok (.iconst 0, 1) := by decide +kernel
theorem dX0_becomeLike_21 : decode cX0_becomeLike 21 = .ok (.aload_n 0, 1) := by decide +kernel
theorem dX0_becomeLike_22 : decode cX0_becomeLike 22 = .ok (.getfield 9, 3) := by decide +kernel
theorem dX0_becomeLike_25 : decode cX0_becomeLike 25 = .ok (.iconst 0, 1) := by decide +kernel
theorem dX0_becomeLike_26 : decode cX0_becomeLike 26 = .ok (.bipush 6, 2) := by decide +kernel
theorem dX0_becomeLike_28 : decode cX0_becomeLike 28 = .ok (.invokestatic 56, 3) := by decide +kernel
theorem dX0_becomeLike_31 : decode cX0_becomeLike 31 = .ok (.aload_n 1, 1) := by decide +kernel
theorem dX0_becomeLike_32 : decode cX0_becomeLike 32 = .ok (.getfield 15, 3) := by decide +kernel
theorem dX0_becomeLike_35 : decode cX0_becomeLike 35 = .ok (.iconst 0, 1) := by decide +kernel
theorem dX0_becomeLike_36 : decode cX0_becomeLike 36 = .ok (.aload_n 0, 1) := by decide +kernel
theorem dX0_becomeLike_37 : decode cX0_becomeLike 37 = .ok (.getfield 15, 3) := by decide +kernel
theorem dX0_becomeLike_40 : decode cX0_becomeLike 40 = .ok (.iconst 0, 1) := by decide +kernel
theorem dX0_becomeLike_41 : decode cX0_becomeLike 41 = .ok (.bipush 6, 2) := by decide +kernel
theorem dX0_becomeLike_43 : decode cX0_becomeLike 43 = .ok (.invokestatic 56, 3) := by decide +kernel
theorem dX0_becomeLike_46 : decode cX0_becomeLike 46 = .ok (.aload_n 1, 1) := by decide +kernel
theorem dX0_becomeLike_47 : decode cX0_becomeLike 47 = .ok (.getfield 18, 3) := by decide +kernel
theorem dX0_becomeLike_50 : decode cX0_becomeLike 50 = .ok (.iconst 0, 1) := by decide +kernel
theorem dX0_becomeLike_51 : decode cX0_becomeLike 51 = .ok (.aload_n 0, 1) := by decide +kernel
theorem dX0_becomeLike_52 : decode cX0_becomeLike 52 = .ok (.getfield 18, 3) := by decide +kernel
theorem dX0_becomeLike_55 : decode cX0_becomeLike 55 = .ok (.iconst 0, 1) := by decide +kernel
theorem dX0_becomeLike_56 : decode cX0_becomeLike 56 = .ok (.bipush 6, 2) := by decide +kernel
theorem dX0_becomeLike_58 : decode cX0_becomeLike 58 = .ok (.invokestatic 56, 3) := by decide +kernel
theorem dX0_becomeLike_61 : decode cX0_becomeLike 61 = .ok (.aload_n 1, 1) := by decide +kernel
theorem dX0_becomeLike_62 : decode cX0_becomeLike 62 = .ok (.getfield 21, 3) := by decide +kernel
theorem dX0_becomeLike_65 : decode cX0_becomeLike 65 = .ok (.iconst 0, 1) := by decide +kernel
theorem dX0_becomeLike_66 : decode cX0_becomeLike 66 = .ok (.aload_n 0, 1) := by decide +kernel
theorem dX0_becomeLike_67 : decode cX0_becomeLike 67 = .ok (.getfield 21, 3) := by decide +kernel
theorem dX0_becomeLike_70 : decode cX0_becomeLike 70 = .ok (.iconst 0, 1) := by decide +kernel
theorem dX0_becomeLike_71 : decode cX0_becomeLike 71 = .ok (.bipush 6, 2) := by decide +kernel
theorem dX0_becomeLike_73 : decode cX0_becomeLike 73 = .ok (.invokestatic 56, 3) := by decide +kernel
theorem dX0_becomeLike_76 : decode cX0_becomeLike 76 = .ok (.aload_n 1, 1) := by decide +kernel
theorem dX0_becomeLike_77 : decode cX0_becomeLike 77 = .ok (.getfield 24, 3) := by decide +kernel
theorem dX0_becomeLike_80 : decode cX0_becomeLike 80 = .ok (.iconst 0, 1) := by decide +kernel
theorem dX0_becomeLike_81 : decode cX0_becomeLike 81 = .ok (.aload_n 0, 1) := by decide +kernel
theorem dX0_becomeLike_82 : decode cX0_becomeLike 82 = .ok (.getfield 24, 3) := by decide +kernel
theorem dX0_becomeLike_85 : decode cX0_becomeLike 85 = .ok (.iconst 0, 1) := by decide +kernel
theorem dX0_becomeLike_86 : decode cX0_becomeLike 86 = .ok (.bipush 6, 2) := by decide +kernel
theorem dX0_becomeLike_88 : decode cX0_becomeLike 88 = .ok (.invokestatic 56, 3) := by decide +kernel
theorem dX0_becomeLike_91 : decode cX0_becomeLike 91 = .ok (.aload_n 1, 1) := by decide +kernel
theorem dX0_becomeLike_92 : decode cX0_becomeLike 92 = .ok (.getfield 27, 3) := by decide +kernel
theorem dX0_becomeLike_95 : decode cX0_becomeLike 95 = .ok (.iconst 0, 1) := by decide +kernel
theorem dX0_becomeLike_96 : decode cX0_becomeLike 96 = .ok (.aload_n 0, 1) := by decide +kernel
theorem dX0_becomeLike_97 : decode cX0_becomeLike 97 = .ok (.getfield 27, 3) := by decide +kernel
theorem dX0_becomeLike_100 : decode cX0_becomeLike 100 = .ok (.iconst 0, 1) := by decide +kernel
theorem dX0_becomeLike_101 : decode cX0_becomeLike 101 = .ok (.aload_n 0, 1) := by decide +kernel
theorem dX0_becomeLike_102 : decode cX0_becomeLike 102 = .ok (.getfield 27, 3) := by decide +kernel
theorem dX0_becomeLike_105 : decode cX0_becomeLike 105 = .ok (.arraylength, 1) := by decide +kernel
theorem dX0_becomeLike_106 : decode cX0_becomeLike 106 = .ok (.invokestatic 56, 3) := by decide +kernel
theorem dX0_becomeLike_109 : decode cX0_becomeLike 109 = .ok (.return_, 1) := by decide +kernel
theorem dX0_play_0 : decode cX0_play 0 = .ok (.iconst 0, 1) := by decide +kernel
theorem dX0_play_1 : decode cX0_play 1 = .ok (.istore_n 3, 1) := by decide +kernel
theorem dX0_play_2 : decode cX0_play 2 = .ok (.iload_n 3, 1) := by decide +kernel
theorem dX0_play_3 : decode cX0_play 3 = .ok (.iload_n 2, 1) := by decide +kernel
theorem dX0_play_4 : decode cX0_play 4 = .ok (.if_icmp .ge 46, 3) := by decide +kernel
theorem dX0_play_7 : decode cX0_play 7 = .ok (.aload_n 0, 1) := by decide +kernel
theorem dX0_play_8 : decode cX0_play 8 = .ok (.aload_n 1, 1) := by decide +kernel
theorem dX0_play_9 : decode cX0_play 9 = .ok (.iconst 2, 1) := by decide +kernel
theorem dX0_play_10 : decode cX0_play 10 = .ok (.iload_n 3, 1) := by decide +kernel
theorem dX0_play_11 : decode cX0_play 11 = .ok (.imul, 1) := by decide +kernel
theorem dX0_play_12 : decode cX0_play 12 = .ok (.iaload, 1) := by decide +kernel
theorem dX0_play_13 : decode cX0_play 13 = .ok (.aload_n 1, 1) := by decide +kernel
theorem dX0_play_14 : decode cX0_play 14 = .ok (.iconst 2, 1) := by decide +kernel
theorem dX0_play_15 : decode cX0_play 15 = .ok (.iload_n 3, 1) := by decide +kernel
theorem dX0_play_16 : decode cX0_play 16 = .ok (.imul, 1) := by decide +kernel
theorem dX0_play_17 : decode cX0_play 17 = .ok (.iconst 1, 1) := by decide +kernel
theorem dX0_play_18 : decode cX0_play 18 = .ok (.iadd, 1) := by decide +kernel
theorem dX0_play_19 : decode cX0_play 19 = .ok (.iaload, 1) := by decide +kernel
theorem dX0_play_20 : decode cX0_play 20 = .ok (.invokevirtual 62, 3) := by decide +kernel
theorem dX0_play_23 : decode cX0_play 23 = .ok (.ifCond .ne 5, 3) := by decide +kernel
theorem dX0_play_26 : decode cX0_play 26 = .ok (.iload_n 3, 1) := by decide +kernel
theorem dX0_play_27 : decode cX0_play 27 = .ok (.ireturn, 1) := by decide +kernel
theorem dX0_play_28 : decode cX0_play 28 = .ok (.aload_n 0, 1) := by decide +kernel
theorem dX0_play_29 : decode cX0_play 29 = .ok (.aload_n 1, 1) := by decide +kernel
theorem dX0_play_30 : decode cX0_play 30 = .ok (.iconst 2, 1) := by decide +kernel
theorem dX0_play_31 : decode cX0_play 31 = .ok (.iload_n 3, 1) := by decide +kernel
theorem dX0_play_32 : decode cX0_play 32 = .ok (.imul, 1) := by decide +kernel
theorem dX0_play_33 : decode cX0_play 33 = .ok (.iaload, 1) := by decide +kernel
theorem dX0_play_34 : decode cX0_play 34 = .ok (.aload_n 1, 1) := by decide +kernel
theorem dX0_play_35 : decode cX0_play 35 = .ok (.iconst 2, 1) := by decide +kernel
theorem dX0_play_36 : decode cX0_play 36 = .ok (.iload_n 3, 1) := by decide +kernel
theorem dX0_play_37 : decode cX0_play 37 = .ok (.imul, 1) := by decide +kernel
theorem dX0_play_38 : decode cX0_play 38 = .ok (.iconst 1, 1) := by decide +kernel
theorem dX0_play_39 : decode cX0_play 39 = .ok (.iadd, 1) := by decide +kernel
theorem dX0_play_40 : decode cX0_play 40 = .ok (.iaload, 1) := by decide +kernel
theorem dX0_play_41 : decode cX0_play 41 = .ok (.invokevirtual 66, 3) := by decide +kernel
theorem dX0_play_44 : decode cX0_play 44 = .ok (.iinc 3 1, 3) := by decide +kernel
theorem dX0_play_47 : decode cX0_play 47 = .ok (.goto (-45), 3) := by decide +kernel
theorem dX0_play_50 : decode cX0_play 50 = .ok (.bipush (-9), 2) := by decide +kernel
theorem dX0_play_52 : decode cX0_play 52 = .ok (.ireturn, 1) := by decide +kernel
theorem dX0_firstThatMendsAll_0 : decode cX0_firstThatMendsAll 0 = .ok (.iconst 1, 1) := by decide +kernel
theorem dX0_firstThatMendsAll_1 : decode cX0_firstThatMendsAll 1 = .ok (.aload_n 0, 1) := by decide +kernel
theorem dX0_firstThatMendsAll_2 : decode cX0_firstThatMendsAll 2 = .ok (.getfield 36, 3) := by decide +kernel
theorem dX0_firstThatMendsAll_5 : decode cX0_firstThatMendsAll 5 = .ok (.ishl, 1) := by decide +kernel
theorem dX0_firstThatMendsAll_6 : decode cX0_firstThatMendsAll 6 = .ok (.iconst 1, 1) := by decide +kernel
theorem dX0_firstThatMendsAll_7 : decode cX0_firstThatMendsAll 7 = .ok (.isub, 1) := by decide +kernel
theorem dX0_firstThatMendsAll_8 : decode cX0_firstThatMendsAll 8 = .ok (.istore_n 3, 1) := by decide +kernel
theorem dX0_firstThatMendsAll_9 : decode cX0_firstThatMendsAll 9 = .ok (.aload_n 0, 1) := by decide +kernel
theorem dX0_firstThatMendsAll_10 : decode cX0_firstThatMendsAll 10 = .ok (.invokevirtual 70, 3) := by decide +kernel
theorem dX0_firstThatMendsAll_13 : decode cX0_firstThatMendsAll 13 = .ok (.iload_n 3, 1) := by decide +kernel
theorem dX0_firstThatMendsAll_14 : decode cX0_firstThatMendsAll 14 = .ok (.if_icmp .ne 6, 3) := by decide +kernel
theorem dX0_firstThatMendsAll_17 : decode cX0_firstThatMendsAll 17 = .ok (.bipush (-9), 2) := by decide +kernel
theorem dX0_firstThatMendsAll_19 : decode cX0_firstThatMendsAll 19 = .ok (.ireturn, 1) := by decide +kernel
theorem dX0_firstThatMendsAll_20 : decode cX0_firstThatMendsAll 20 = .ok (.iconst 0, 1) := by decide +kernel
theorem dX0_firstThatMendsAll_21 : decode cX0_firstThatMendsAll 21 = .ok (.istore 4, 2) := by decide +kernel
theorem dX0_firstThatMendsAll_23 : decode cX0_firstThatMendsAll 23 = .ok (.iload 4, 2) := by decide +kernel
theorem dX0_firstThatMendsAll_25 : decode cX0_firstThatMendsAll 25 = .ok (.iload_n 2, 1) := by decide +kernel
theorem dX0_firstThatMendsAll_26 : decode cX0_firstThatMendsAll 26 = .ok (.if_icmp .ge 38, 3) := by decide +kernel
theorem dX0_firstThatMendsAll_29 : decode cX0_firstThatMendsAll 29 = .ok (.aload_n 0, 1) := by decide +kernel
theorem dX0_firstThatMendsAll_30 : decode cX0_firstThatMendsAll 30 = .ok (.aload_n 1, 1) := by decide +kernel
theorem dX0_firstThatMendsAll_31 : decode cX0_firstThatMendsAll 31 = .ok (.iconst 2, 1) := by decide +kernel
theorem dX0_firstThatMendsAll_32 : decode cX0_firstThatMendsAll 32 = .ok (.iload 4, 2) := by decide +kernel
theorem dX0_firstThatMendsAll_34 : decode cX0_firstThatMendsAll 34 = .ok (.imul, 1) := by decide +kernel
theorem dX0_firstThatMendsAll_35 : decode cX0_firstThatMendsAll 35 = .ok (.iaload, 1) := by decide +kernel
theorem dX0_firstThatMendsAll_36 : decode cX0_firstThatMendsAll 36 = .ok (.aload_n 1, 1) := by decide +kernel
theorem dX0_firstThatMendsAll_37 : decode cX0_firstThatMendsAll 37 = .ok (.iconst 2, 1) := by decide +kernel
theorem dX0_firstThatMendsAll_38 : decode cX0_firstThatMendsAll 38 = .ok (.iload 4, 2) := by decide +kernel
theorem dX0_firstThatMendsAll_40 : decode cX0_firstThatMendsAll 40 = .ok (.imul, 1) := by decide +kernel
theorem dX0_firstThatMendsAll_41 : decode cX0_firstThatMendsAll 41 = .ok (.iconst 1, 1) := by decide +kernel
theorem dX0_firstThatMendsAll_42 : decode cX0_firstThatMendsAll 42 = .ok (.iadd, 1) := by decide +kernel
theorem dX0_firstThatMendsAll_43 : decode cX0_firstThatMendsAll 43 = .ok (.iaload, 1) := by decide +kernel
theorem dX0_firstThatMendsAll_44 : decode cX0_firstThatMendsAll 44 = .ok (.invokevirtual 66, 3) := by decide +kernel
theorem dX0_firstThatMendsAll_47 : decode cX0_firstThatMendsAll 47 = .ok (.aload_n 0, 1) := by decide +kernel
theorem dX0_firstThatMendsAll_48 : decode cX0_firstThatMendsAll 48 = .ok (.invokevirtual 70, 3) := by decide +kernel
theorem dX0_firstThatMendsAll_51 : decode cX0_firstThatMendsAll 51 = .ok (.iload_n 3, 1) := by decide +kernel
theorem dX0_firstThatMendsAll_52 : decode cX0_firstThatMendsAll 52 = .ok (.if_icmp .ne 6, 3) := by decide +kernel
theorem dX0_firstThatMendsAll_55 : decode cX0_firstThatMendsAll 55 = .ok (.iload 4, 2) := by decide +kernel
theorem dX0_firstThatMendsAll_57 : decode cX0_firstThatMendsAll 57 = .ok (.ireturn, 1) := by decide +kernel
theorem dX0_firstThatMendsAll_58 : decode cX0_firstThatMendsAll 58 = .ok (.iinc 4 1, 3) := by decide +kernel
theorem dX0_firstThatMendsAll_61 : decode cX0_firstThatMendsAll 61 = .ok (.goto (-38), 3) := by decide +kernel
theorem dX0_firstThatMendsAll_64 : decode cX0_firstThatMendsAll 64 = .ok (.bipush (-9), 2) := by decide +kernel
theorem dX0_firstThatMendsAll_66 : decode cX0_firstThatMendsAll 66 = .ok (.ireturn, 1) := by decide +kernel
theorem dX0_canLend_0 : decode cX0_canLend 0 = .ok (.iload_n 1, 1) := by decide +kernel
theorem dX0_canLend_1 : decode cX0_canLend 1 = .ok (.iload_n 2, 1) := by decide +kernel
theorem dX0_canLend_2 : decode cX0_canLend 2 = .ok (.if_icmp .eq 35, 3) := by decide +kernel
theorem dX0_canLend_5 : decode cX0_canLend 5 = .ok (.aload_n 0, 1) := by decide +kernel
theorem dX0_canLend_6 : decode cX0_canLend 6 = .ok (.getfield 9, 3) := by decide +kernel
theorem dX0_canLend_9 : decode cX0_canLend 9 = .ok (.aload_n 0, 1) := by decide +kernel
theorem dX0_canLend_10 : decode cX0_canLend 10 = .ok (.getfield 21, 3) := by decide +kernel
theorem dX0_canLend_13 : decode cX0_canLend 13 = .ok (.iload_n 1, 1) := by decide +kernel
theorem dX0_canLend_14 : decode cX0_canLend 14 = .ok (.iaload, 1) := by decide +kernel
theorem dX0_canLend_15 : decode cX0_canLend 15 = .ok (.iaload, 1) := by decide +kernel
theorem dX0_canLend_16 : decode cX0_canLend 16 = .ok (.ifCond .eq 21, 3) := by decide +kernel
theorem dX0_canLend_19 : decode cX0_canLend 19 = .ok (.aload_n 0, 1) := by decide +kernel
theorem dX0_canLend_20 : decode cX0_canLend 20 = .ok (.getfield 9, 3) := by decide +kernel
theorem dX0_canLend_23 : decode cX0_canLend 23 = .ok (.aload_n 0, 1) := by decide +kernel
theorem dX0_canLend_24 : decode cX0_canLend 24 = .ok (.getfield 21, 3) := by decide +kernel
theorem dX0_canLend_27 : decode cX0_canLend 27 = .ok (.iload_n 2, 1) := by decide +kernel
theorem dX0_canLend_28 : decode cX0_canLend 28 = .ok (.iaload, 1) := by decide +kernel
theorem dX0_canLend_29 : decode cX0_canLend 29 = .ok (.iaload, 1) := by decide +kernel
theorem dX0_canLend_30 : decode cX0_canLend 30 = .ok (.ifCond .eq 7, 3) := by decide +kernel
theorem dX0_canLend_33 : decode cX0_canLend 33 = .ok (.iconst 1, 1) := by decide +kernel
theorem dX0_canLend_34 : decode cX0_canLend 34 = .ok (.goto 4, 3) := by decide +kernel
theorem dX0_canLend_37 : decode cX0_canLend 37 = .ok (.iconst 0, 1) := by decide +kernel
theorem dX0_canLend_38 : decode cX0_canLend 38 = .ok (.ireturn, 1) := by decide +kernel
theorem dX0_lend_0 : decode cX0_lend 0 = .ok (.aload_n 0, 1) := by decide +kernel
theorem dX0_lend_1 : decode cX0_lend 1 = .ok (.getfield 21, 3) := by decide +kernel
theorem dX0_lend_4 : decode cX0_lend 4 = .ok (.iload_n 1, 1) := by decide +kernel
theorem dX0_lend_5 : decode cX0_lend 5 = .ok (.iaload, 1) := by decide +kernel
theorem dX0_lend_6 : decode cX0_lend 6 = .ok (.istore_n 3, 1) := by decide +kernel
theorem dX0_lend_7 : decode cX0_lend 7 = .ok (.aload_n 0, 1) := by decide +kernel
theorem dX0_lend_8 : decode cX0_lend 8 = .ok (.getfield 21, 3) := by decide +kernel
theorem dX0_lend_11 : decode cX0_lend 11 = .ok (.iload_n 1, 1) := by decide +kernel
theorem dX0_lend_12 : decode cX0_lend 12 = .ok (.aload_n 0, 1) := by decide +kernel
theorem dX0_lend_13 : decode cX0_lend 13 = .ok (.getfield 21, 3) := by decide +kernel
theorem dX0_lend_16 : decode cX0_lend 16 = .ok (.iload_n 2, 1) := by decide +kernel
theorem dX0_lend_17 : decode cX0_lend 17 = .ok (.iaload, 1) := by decide +kernel
theorem dX0_lend_18 : decode cX0_lend 18 = .ok (.iastore, 1) := by decide +kernel
theorem dX0_lend_19 : decode cX0_lend 19 = .ok (.aload_n 0, 1) := by decide +kernel
theorem dX0_lend_20 : decode cX0_lend 20 = .ok (.getfield 21, 3) := by decide +kernel
theorem dX0_lend_23 : decode cX0_lend 23 = .ok (.iload_n 2, 1) := by decide +kernel
theorem dX0_lend_24 : decode cX0_lend 24 = .ok (.iload_n 3, 1) := by decide +kernel
theorem dX0_lend_25 : decode cX0_lend 25 = .ok (.iastore, 1) := by decide +kernel
theorem dX0_lend_26 : decode cX0_lend 26 = .ok (.aload_n 0, 1) := by decide +kernel
theorem dX0_lend_27 : decode cX0_lend 27 = .ok (.aload_n 0, 1) := by decide +kernel
theorem dX0_lend_28 : decode cX0_lend 28 = .ok (.getfield 21, 3) := by decide +kernel
theorem dX0_lend_31 : decode cX0_lend 31 = .ok (.iload_n 1, 1) := by decide +kernel
theorem dX0_lend_32 : decode cX0_lend 32 = .ok (.iaload, 1) := by decide +kernel
theorem dX0_lend_33 : decode cX0_lend 33 = .ok (.invokevirtual 73, 3) := by decide +kernel
theorem dX0_lend_36 : decode cX0_lend 36 = .ok (.aload_n 0, 1) := by decide +kernel
theorem dX0_lend_37 : decode cX0_lend 37 = .ok (.aload_n 0, 1) := by decide +kernel
theorem dX0_lend_38 : decode cX0_lend 38 = .ok (.getfield 21, 3) := by decide +kernel
theorem dX0_lend_41 : decode cX0_lend 41 = .ok (.iload_n 2, 1) := by decide +kernel
theorem dX0_lend_42 : decode cX0_lend 42 = .ok (.iaload, 1) := by decide +kernel
theorem dX0_lend_43 : decode cX0_lend 43 = .ok (.invokevirtual 73, 3) := by decide +kernel
theorem dX0_lend_46 : decode cX0_lend 46 = .ok (.aload_n 0, 1) := by decide +kernel
theorem dX0_lend_47 : decode cX0_lend 47 = .ok (.iload_n 1, 1) := by decide +kernel
theorem dX0_lend_48 : decode cX0_lend 48 = .ok (.invokevirtual 77, 3) := by decide +kernel
theorem dX0_lend_51 : decode cX0_lend 51 = .ok (.aload_n 0, 1) := by decide +kernel
theorem dX0_lend_52 : decode cX0_lend 52 = .ok (.iload_n 2, 1) := by decide +kernel
theorem dX0_lend_53 : decode cX0_lend 53 = .ok (.invokevirtual 77, 3) := by decide +kernel
theorem dX0_lend_56 : decode cX0_lend 56 = .ok (.return_, 1) := by decide +kernel
theorem dX0_wearOff_0 : decode cX0_wearOff 0 = .ok (.aload_n 0, 1) := by decide +kernel
theorem dX0_wearOff_1 : decode cX0_wearOff 1 = .ok (.getfield 18, 3) := by decide +kernel
theorem dX0_wearOff_4 : decode cX0_wearOff 4 = .ok (.iload_n 1, 1) := by decide +kernel
theorem dX0_wearOff_5 : decode cX0_wearOff 5 = .ok (.dup2, 1) := by decide +kernel
theorem dX0_wearOff_6 : decode cX0_wearOff 6 = .ok (.iaload, 1) := by decide +kernel
theorem dX0_wearOff_7 : decode cX0_wearOff 7 = .ok (.iconst 1, 1) := by decide +kernel
theorem dX0_wearOff_8 : decode cX0_wearOff 8 = .ok (.iadd, 1) := by decide +kernel
theorem dX0_wearOff_9 : decode cX0_wearOff 9 = .ok (.iastore, 1) := by decide +kernel
theorem dX0_wearOff_10 : decode cX0_wearOff 10 = .ok (.aload_n 0, 1) := by decide +kernel
theorem dX0_wearOff_11 : decode cX0_wearOff 11 = .ok (.getfield 18, 3) := by decide +kernel
theorem dX0_wearOff_14 : decode cX0_wearOff 14 = .ok (.iload_n 1, 1) := by decide +kernel
theorem dX0_wearOff_15 : decode cX0_wearOff 15 = .ok (.iaload, 1) := by decide +kernel
theorem dX0_wearOff_16 : decode cX0_wearOff 16 = .ok (.aload_n 0, 1) := by decide +kernel
theorem dX0_wearOff_17 : decode cX0_wearOff 17 = .ok (.getfield 15, 3) := by decide +kernel
theorem dX0_wearOff_20 : decode cX0_wearOff 20 = .ok (.iload_n 1, 1) := by decide +kernel
theorem dX0_wearOff_21 : decode cX0_wearOff 21 = .ok (.iaload, 1) := by decide +kernel
theorem dX0_wearOff_22 : decode cX0_wearOff 22 = .ok (.if_icmp .le 20, 3) := by decide +kernel
theorem dX0_wearOff_25 : decode cX0_wearOff 25 = .ok (.aload_n 0, 1) := by decide +kernel
theorem dX0_wearOff_26 : decode cX0_wearOff 26 = .ok (.getfield 9, 3) := by decide +kernel
theorem dX0_wearOff_29 : decode cX0_wearOff 29 = .ok (.iload_n 1, 1) := by decide +kernel
theorem dX0_wearOff_30 : decode cX0_wearOff 30 = .ok (.dup2, 1) := by decide +kernel
theorem dX0_wearOff_31 : decode cX0_wearOff 31 = .ok (.iaload, 1) := by decide +kernel
theorem dX0_wearOff_32 : decode cX0_wearOff 32 = .ok (.aload_n 0, 1) := by decide +kernel
theorem dX0_wearOff_33 : decode cX0_wearOff 33 = .ok (.getfield 9, 3) := by decide +kernel
theorem dX0_wearOff_36 : decode cX0_wearOff 36 = .ok (.iload_n 1, 1) := by decide +kernel
theorem dX0_wearOff_37 : decode cX0_wearOff 37 = .ok (.iaload, 1) := by decide +kernel
theorem dX0_wearOff_38 : decode cX0_wearOff 38 = .ok (.iconst 1, 1) := by decide +kernel
theorem dX0_wearOff_39 : decode cX0_wearOff 39 = .ok (.isub, 1) := by decide +kernel
theorem dX0_wearOff_40 : decode cX0_wearOff 40 = .ok (.iand, 1) := by decide +kernel
theorem dX0_wearOff_41 : decode cX0_wearOff 41 = .ok (.iastore, 1) := by decide +kernel
theorem dX0_wearOff_42 : decode cX0_wearOff 42 = .ok (.return_, 1) := by decide +kernel
theorem dX0_show_0 : decode cX0_show 0 = .ok (.aload_n 0, 1) := by decide +kernel
theorem dX0_show_1 : decode cX0_show 1 = .ok (.getfield 24, 3) := by decide +kernel
theorem dX0_show_4 : decode cX0_show 4 = .ok (.iload_n 1, 1) := by decide +kernel
theorem dX0_show_5 : decode cX0_show 5 = .ok (.dup2, 1) := by decide +kernel
theorem dX0_show_6 : decode cX0_show 6 = .ok (.iaload, 1) := by decide +kernel
theorem dX0_show_7 : decode cX0_show 7 = .ok (.aload_n 0, 1) := by decide +kernel
theorem dX0_show_8 : decode cX0_show 8 = .ok (.getfield 9, 3) := by decide +kernel
theorem dX0_show_11 : decode cX0_show 11 = .ok (.aload_n 0, 1) := by decide +kernel
theorem dX0_show_12 : decode cX0_show 12 = .ok (.getfield 21, 3) := by decide +kernel
theorem dX0_show_15 : decode cX0_show 15 = .ok (.iload_n 1, 1) := by decide +kernel
theorem dX0_show_16 : decode cX0_show 16 = .ok (.iaload, 1) := by decide +kernel
theorem dX0_show_17 : decode cX0_show 17 = .ok (.iaload, 1) := by decide +kernel
theorem dX0_show_18 : decode cX0_show 18 = .ok (.ior, 1) := by decide +kernel
theorem dX0_show_19 : decode cX0_show 19 = .ok (.iastore, 1) := by decide +kernel
theorem dX0_show_20 : decode cX0_show 20 = .ok (.aload_n 0, 1) := by decide +kernel
theorem dX0_show_21 : decode cX0_show 21 = .ok (.getfield 27, 3) := by decide +kernel
theorem dX0_show_24 : decode cX0_show 24 = .ok (.bipush 6, 2) := by decide +kernel
theorem dX0_show_26 : decode cX0_show 26 = .ok (.iload_n 1, 1) := by decide +kernel
theorem dX0_show_27 : decode cX0_show 27 = .ok (.imul, 1) := by decide +kernel
theorem dX0_show_28 : decode cX0_show 28 = .ok (.aload_n 0, 1) := by decide +kernel
theorem dX0_show_29 : decode cX0_show 29 = .ok (.getfield 21, 3) := by decide +kernel
theorem dX0_show_32 : decode cX0_show 32 = .ok (.iload_n 1, 1) := by decide +kernel
theorem dX0_show_33 : decode cX0_show 33 = .ok (.iaload, 1) := by decide +kernel
theorem dX0_show_34 : decode cX0_show 34 = .ok (.iadd, 1) := by decide +kernel
theorem dX0_show_35 : decode cX0_show 35 = .ok (.dup2, 1) := by decide +kernel
theorem dX0_show_36 : decode cX0_show 36 = .ok (.iaload, 1) := by decide +kernel
theorem dX0_show_37 : decode cX0_show 37 = .ok (.aload_n 0, 1) := by decide +kernel
theorem dX0_show_38 : decode cX0_show 38 = .ok (.getfield 9, 3) := by decide +kernel
theorem dX0_show_41 : decode cX0_show 41 = .ok (.aload_n 0, 1) := by decide +kernel
theorem dX0_show_42 : decode cX0_show 42 = .ok (.getfield 21, 3) := by decide +kernel
theorem dX0_show_45 : decode cX0_show 45 = .ok (.iload_n 1, 1) := by decide +kernel
theorem dX0_show_46 : decode cX0_show 46 = .ok (.iaload, 1) := by decide +kernel
theorem dX0_show_47 : decode cX0_show 47 = .ok (.iaload, 1) := by decide +kernel
theorem dX0_show_48 : decode cX0_show 48 = .ok (.ior, 1) := by decide +kernel
theorem dX0_show_49 : decode cX0_show 49 = .ok (.iastore, 1) := by decide +kernel
theorem dX0_show_50 : decode cX0_show 50 = .ok (.return_, 1) := by decide +kernel
theorem dX0_childhoodsThatShowed_0 : decode cX0_childhoodsThatShowed 0 = .ok (.iconst 0, 1) := by decide +kernel
theorem dX0_childhoodsThatShowed_1 : decode cX0_childhoodsThatShowed 1 = .ok (.istore_n 3, 1) := by decide +kernel
theorem dX0_childhoodsThatShowed_2 : decode cX0_childhoodsThatShowed 2 = .ok (.iconst 0, 1) := by decide +kernel
theorem dX0_childhoodsThatShowed_3 : decode cX0_childhoodsThatShowed 3 = .ok (.istore 4, 2) := by decide +kernel
theorem dX0_childhoodsThatShowed_5 : decode cX0_childhoodsThatShowed 5 = .ok (.iload 4, 2) := by decide +kernel
theorem dX0_childhoodsThatShowed_7 : decode cX0_childhoodsThatShowed 7 = .ok (.aload_n 0, 1) := by decide +kernel
theorem dX0_childhoodsThatShowed_8 : decode cX0_childhoodsThatShowed 8 = .ok (.getfield 36, 3) := by decide +kernel
theorem dX0_childhoodsThatShowed_11 : decode cX0_childhoodsThatShowed 11 = .ok (.if_icmp .ge 29, 3) := by decide +kernel
theorem dX0_childhoodsThatShowed_14 : decode cX0_childhoodsThatShowed 14 = .ok (.aload_n 0, 1) := by decide +kernel
theorem dX0_childhoodsThatShowed_15 : decode cX0_childhoodsThatShowed 15 = .ok (.getfield 27, 3) := by decide +kernel
theorem dX0_childhoodsThatShowed_18 : decode cX0_childhoodsThatShowed 18 = .ok (.bipush 6, 2) := by decide +kernel
theorem dX0_childhoodsThatShowed_20 : decode cX0_childhoodsThatShowed 20 = .ok (.iload_n 1, 1) := by decide +kernel
theorem dX0_childhoodsThatShowed_21 : decode cX0_childhoodsThatShowed 21 = .ok (.imul, 1) := by decide +kernel
theorem dX0_childhoodsThatShowed_22 : decode cX0_childhoodsThatShowed 22 = .ok (.iload 4, 2) := by decide +kernel
theorem dX0_childhoodsThatShowed_24 : decode cX0_childhoodsThatShowed 24 = .ok (.iadd, 1) := by decide +kernel
theorem dX0_childhoodsThatShowed_25 : decode cX0_childhoodsThatShowed 25 = .ok (.iaload, 1) := by decide +kernel
theorem dX0_childhoodsThatShowed_26 : decode cX0_childhoodsThatShowed 26 = .ok (.iload_n 2, 1) := by decide +kernel
theorem dX0_childhoodsThatShowed_27 : decode cX0_childhoodsThatShowed 27 = .ok (.iand, 1) := by decide +kernel
theorem dX0_childhoodsThatShowed_28 : decode cX0_childhoodsThatShowed 28 = .ok (.ifCond .eq 6, 3) := by decide +kernel
theorem dX0_childhoodsThatShowed_31 : decode cX0_childhoodsThatShowed 31 = .ok (.iinc 3 1, 3) := by decide +kernel
theorem dX0_childhoodsThatShowed_34 : decode cX0_childhoodsThatShowed 34 = .ok (.iinc 4 1, 3) := by decide +kernel
theorem dX0_childhoodsThatShowed_37 : decode cX0_childhoodsThatShowed 37 = .ok (.goto (-32), 3) := by decide +kernel
theorem dX0_childhoodsThatShowed_40 : decode cX0_childhoodsThatShowed 40 = .ok (.iload_n 3, 1) := by decide +kernel
theorem dX0_childhoodsThatShowed_41 : decode cX0_childhoodsThatShowed 41 = .ok (.ireturn, 1) := by decide +kernel
theorem dX0_mended_0 : decode cX0_mended 0 = .ok (.iconst 0, 1) := by decide +kernel
theorem dX0_mended_1 : decode cX0_mended 1 = .ok (.istore_n 1, 1) := by decide +kernel
theorem dX0_mended_2 : decode cX0_mended 2 = .ok (.iconst 0, 1) := by decide +kernel
theorem dX0_mended_3 : decode cX0_mended 3 = .ok (.istore_n 2, 1) := by decide +kernel
theorem dX0_mended_4 : decode cX0_mended 4 = .ok (.iload_n 2, 1) := by decide +kernel
theorem dX0_mended_5 : decode cX0_mended 5 = .ok (.aload_n 0, 1) := by decide +kernel
theorem dX0_mended_6 : decode cX0_mended 6 = .ok (.getfield 36, 3) := by decide +kernel
theorem dX0_mended_9 : decode cX0_mended 9 = .ok (.if_icmp .ge 33, 3) := by decide +kernel
theorem dX0_mended_12 : decode cX0_mended 12 = .ok (.aload_n 0, 1) := by decide +kernel
theorem dX0_mended_13 : decode cX0_mended 13 = .ok (.getfield 32, 3) := by decide +kernel
theorem dX0_mended_16 : decode cX0_mended 16 = .ok (.iload_n 2, 1) := by decide +kernel
theorem dX0_mended_17 : decode cX0_mended 17 = .ok (.aaload, 1) := by decide +kernel
theorem dX0_mended_18 : decode cX0_mended 18 = .ok (.aload_n 0, 1) := by decide +kernel
theorem dX0_mended_19 : decode cX0_mended 19 = .ok (.getfield 24, 3) := by decide +kernel
theorem dX0_mended_22 : decode cX0_mended 22 = .ok (.iload_n 2, 1) := by decide +kernel
theorem dX0_mended_23 : decode cX0_mended 23 = .ok (.iaload, 1) := by decide +kernel
theorem dX0_mended_24 : decode cX0_mended 24 = .ok (.invokevirtual 80, 3) := by decide +kernel
theorem dX0_mended_27 : decode cX0_mended 27 = .ok (.ifCond .eq 9, 3) := by decide +kernel
theorem dX0_mended_30 : decode cX0_mended 30 = .ok (.iload_n 1, 1) := by decide +kernel
theorem dX0_mended_31 : decode cX0_mended 31 = .ok (.iconst 1, 1) := by decide +kernel
theorem dX0_mended_32 : decode cX0_mended 32 = .ok (.iload_n 2, 1) := by decide +kernel
theorem dX0_mended_33 : decode cX0_mended 33 = .ok (.ishl, 1) := by decide +kernel
theorem dX0_mended_34 : decode cX0_mended 34 = .ok (.ior, 1) := by decide +kernel
theorem dX0_mended_35 : decode cX0_mended 35 = .ok (.istore_n 1, 1) := by decide +kernel
theorem dX0_mended_36 : decode cX0_mended 36 = .ok (.iinc 2 1, 3) := by decide +kernel
theorem dX0_mended_39 : decode cX0_mended 39 = .ok (.goto (-35), 3) := by decide +kernel
theorem dX0_mended_42 : decode cX0_mended 42 = .ok (.iload_n 1, 1) := by decide +kernel
theorem dX0_mended_43 : decode cX0_mended 43 = .ok (.ireturn, 1) := by decide +kernel
theorem dX0_loansHome_0 : decode cX0_loansHome 0 = .ok (.iconst 0, 1) := by decide +kernel
theorem dX0_loansHome_1 : decode cX0_loansHome 1 = .ok (.istore_n 1, 1) := by decide +kernel
theorem dX0_loansHome_2 : decode cX0_loansHome 2 = .ok (.iconst 0, 1) := by decide +kernel
theorem dX0_loansHome_3 : decode cX0_loansHome 3 = .ok (.istore_n 2, 1) := by decide +kernel
theorem dX0_loansHome_4 : decode cX0_loansHome 4 = .ok (.iconst 0, 1) := by decide +kernel
theorem dX0_loansHome_5 : decode cX0_loansHome 5 = .ok (.istore_n 3, 1) := by decide +kernel
theorem dX0_loansHome_6 : decode cX0_loansHome 6 = .ok (.iload_n 3, 1) := by decide +kernel
theorem dX0_loansHome_7 : decode cX0_loansHome 7 = .ok (.aload_n 0, 1) := by decide +kernel
theorem dX0_loansHome_8 : decode cX0_loansHome 8 = .ok (.getfield 36, 3) := by decide +kernel
theorem dX0_loansHome_11 : decode cX0_loansHome 11 = .ok (.if_icmp .ge 57, 3) := by decide +kernel
theorem dX0_loansHome_14 : decode cX0_loansHome 14 = .ok (.iload_n 2, 1) := by decide +kernel
theorem dX0_loansHome_15 : decode cX0_loansHome 15 = .ok (.iload_n 3, 1) := by decide +kernel
theorem dX0_loansHome_16 : decode cX0_loansHome 16 = .ok (.ishr, 1) := by decide +kernel
theorem dX0_loansHome_17 : decode cX0_loansHome 17 = .ok (.iconst 1, 1) := by decide +kernel
theorem dX0_loansHome_18 : decode cX0_loansHome 18 = .ok (.iand, 1) := by decide +kernel
theorem dX0_loansHome_19 : decode cX0_loansHome 19 = .ok (.ifCond .ne 6, 3) := by decide +kernel
theorem dX0_loansHome_22 : decode cX0_loansHome 22 = .ok (.iinc 1 1, 3) := by decide +kernel
theorem dX0_loansHome_25 : decode cX0_loansHome 25 = .ok (.iload_n 3, 1) := by decide +kernel
theorem dX0_loansHome_26 : decode cX0_loansHome 26 = .ok (.istore 4, 2) := by decide +kernel
theorem dX0_loansHome_28 : decode cX0_loansHome 28 = .ok (.iconst 0, 1) := by decide +kernel
theorem dX0_loansHome_29 : decode cX0_loansHome 29 = .ok (.istore 5, 2) := by decide +kernel
theorem dX0_loansHome_31 : decode cX0_loansHome 31 = .ok (.iload 5, 2) := by decide +kernel
theorem dX0_loansHome_33 : decode cX0_loansHome 33 = .ok (.aload_n 0, 1) := by decide +kernel
theorem dX0_loansHome_34 : decode cX0_loansHome 34 = .ok (.getfield 36, 3) := by decide +kernel
theorem dX0_loansHome_37 : decode cX0_loansHome 37 = .ok (.if_icmp .ge 25, 3) := by decide +kernel
theorem dX0_loansHome_40 : decode cX0_loansHome 40 = .ok (.iload_n 2, 1) := by decide +kernel
theorem dX0_loansHome_41 : decode cX0_loansHome 41 = .ok (.iconst 1, 1) := by decide +kernel
theorem dX0_loansHome_42 : decode cX0_loansHome 42 = .ok (.iload 4, 2) := by decide +kernel
theorem dX0_loansHome_44 : decode cX0_loansHome 44 = .ok (.ishl, 1) := by decide +kernel
theorem dX0_loansHome_45 : decode cX0_loansHome 45 = .ok (.ior, 1) := by decide +kernel
theorem dX0_loansHome_46 : decode cX0_loansHome 46 = .ok (.istore_n 2, 1) := by decide +kernel
theorem dX0_loansHome_47 : decode cX0_loansHome 47 = .ok (.aload_n 0, 1) := by decide +kernel
theorem dX0_loansHome_48 : decode cX0_loansHome 48 = .ok (.getfield 21, 3) := by decide +kernel
theorem dX0_loansHome_51 : decode cX0_loansHome 51 = .ok (.iload 4, 2) := by decide +kernel
theorem dX0_loansHome_53 : decode cX0_loansHome 53 = .ok (.iaload, 1) := by decide +kernel
theorem dX0_loansHome_54 : decode cX0_loansHome 54 = .ok (.istore 4, 2) := by decide +kernel
theorem dX0_loansHome_56 : decode cX0_loansHome 56 = .ok (.iinc 5 1, 3) := by decide +kernel
theorem dX0_loansHome_59 : decode cX0_loansHome 59 = .ok (.goto (-28), 3) := by decide +kernel
theorem dX0_loansHome_62 : decode cX0_loansHome 62 = .ok (.iinc 3 1, 3) := by decide +kernel
theorem dX0_loansHome_65 : decode cX0_loansHome 65 = .ok (.goto (-59), 3) := by decide +kernel
theorem dX0_loansHome_68 : decode cX0_loansHome 68 = .ok (.aload_n 0, 1) := by decide +kernel
theorem dX0_loansHome_69 : decode cX0_loansHome 69 = .ok (.getfield 36, 3) := by decide +kernel
theorem dX0_loansHome_72 : decode cX0_loansHome 72 = .ok (.iload_n 1, 1) := by decide +kernel
theorem dX0_loansHome_73 : decode cX0_loansHome 73 = .ok (.isub, 1) := by decide +kernel
theorem dX0_loansHome_74 : decode cX0_loansHome 74 = .ok (.ireturn, 1) := by decide +kernel
theorem dX1_init_0 : decode cX1_init 0 = .ok (.aload_n 0, 1) := by decide +kernel
theorem dX1_init_1 : decode cX1_init 1 = .ok (.invokespecial 3, 3) := by decide +kernel
theorem dX1_init_4 : decode cX1_init 4 = .ok (.aload_n 0, 1) := by decide +kernel
theorem dX1_init_5 : decode cX1_init 5 = .ok (.iconst 4, 1) := by decide +kernel
theorem dX1_init_6 : decode cX1_init 6 = .ok (.anewarray 9, 3) := by decide +kernel
theorem dX1_init_9 : decode cX1_init 9 = .ok (.putfield 11, 3) := by decide +kernel
theorem dX1_init_12 : decode cX1_init 12 = .ok (.aload_n 0, 1) := by decide +kernel
theorem dX1_init_13 : decode cX1_init 13 = .ok (.iconst 3, 1) := by decide +kernel
theorem dX1_init_14 : decode cX1_init 14 = .ok (.newarray .int, 2) := by decide +kernel
theorem dX1_init_16 : decode cX1_init 16 = .ok (.putfield 17, 3) := by decide +kernel
theorem dX1_init_19 : decode cX1_init 19 = .ok (.iconst 0, 1) := by decide +kernel
theorem dX1_init_20 : decode cX1_init 20 = .ok (.istore_n 1, 1) := by decide +kernel
theorem dX1_init_21 : decode cX1_init 21 = .ok (.iload_n 1, 1) := by decide +kernel
theorem dX1_init_22 : decode cX1_init 22 = .ok (.iconst 3, 1) := by decide +kernel
theorem dX1_init_23 : decode cX1_init 23 = .ok (.if_icmp .gt 22, 3) := by decide +kernel
theorem dX1_init_26 : decode cX1_init 26 = .ok (.aload_n 0, 1) := by decide +kernel
theorem dX1_init_27 : decode cX1_init 27 = .ok (.getfield 11, 3) := by decide +kernel
theorem dX1_init_30 : decode cX1_init 30 = .ok (.iload_n 1, 1) := by decide +kernel
theorem dX1_init_31 : decode cX1_init 31 = .ok (.new 9, 3) := by decide +kernel
theorem dX1_init_34 : decode cX1_init 34 = .ok (.dup, 1) := by decide +kernel
theorem dX1_init_35 : decode cX1_init 35 = .ok (.invokespecial 21, 3) := by decide +kernel
theorem dX1_init_38 : decode cX1_init 38 = .ok (.aastore, 1) := by decide +kernel
theorem dX1_init_39 : decode cX1_init 39 = .ok (.iinc 1 1, 3) := by decide +kernel
theorem dX1_init_42 : decode cX1_init 42 = .ok (.goto (-21), 3) := by decide +kernel
theorem dX1_init_45 : decode cX1_init 45 = .ok (.return_, 1) := by decide +kernel
theorem dX1_find_0 : decode cX1_find 0 = .ok (.aload_n 0, 1) := by decide +kernel
theorem dX1_find_1 : decode cX1_find 1 = .ok (.getfield 11, 3) := by decide +kernel
theorem dX1_find_4 : decode cX1_find 4 = .ok (.iconst 0, 1) := by decide +kernel
theorem dX1_find_5 : decode cX1_find 5 = .ok (.aaload, 1) := by decide +kernel
theorem dX1_find_6 : decode cX1_find 6 = .ok (.aload_n 1, 1) := by decide +kernel
theorem dX1_find_7 : decode cX1_find 7 = .ok (.iload_n 2, 1) := by decide +kernel
theorem dX1_find_8 : decode cX1_find 8 = .ok (.invokevirtual 22, 3) := by decide +kernel
theorem dX1_find_11 : decode cX1_find 11 = .ok (.iconst 0, 1) := by decide +kernel
theorem dX1_find_12 : decode cX1_find 12 = .ok (.istore 4, 2) := by decide +kernel
theorem dX1_find_14 : decode cX1_find 14 = .ok (.iload 4, 2) := by decide +kernel
theorem dX1_find_16 : decode cX1_find 16 = .ok (.iconst 3, 1) := by decide +kernel
theorem dX1_find_17 : decode cX1_find 17 = .ok (.if_icmp .gt 23, 3) := by decide +kernel
theorem dX1_find_20 : decode cX1_find 20 = .ok (.aload_n 0, 1) := by decide +kernel
theorem dX1_find_21 : decode cX1_find 21 = .ok (.iconst 0, 1) := by decide +kernel
theorem dX1_find_22 : decode cX1_find 22 = .ok (.iload 4, 2) := by decide +kernel
theorem dX1_find_24 : decode cX1_find 24 = .ok (.iload_n 3, 1) := by decide +kernel
theorem dX1_find_25 : decode cX1_find 25 = .ok (.invokestatic 26, 3) := by decide +kernel
theorem dX1_find_28 : decode cX1_find 28 = .ok (.ifCond .eq 6, 3) := by decide +kernel
theorem dX1_find_31 : decode cX1_find 31 = .ok (.iload 4, 2) := by decide +kernel
theorem dX1_find_33 : decode cX1_find 33 = .ok (.ireturn, 1) := by decide +kernel
theorem dX1_find_34 : decode cX1_find 34 = .ok (.iinc 4 1, 3) := by decide +kernel
theorem dX1_find_37 : decode cX1_find 37 = .ok (.goto (-23), 3) := by decide +kernel
theorem dX1_find_40 : decode cX1_find 40 = .ok (.bipush (-9), 2) := by decide +kernel
theorem dX1_find_42 : decode cX1_find 42 = .ok (.ireturn, 1) := by decide +kernel
theorem dX1_loanAt_0 : decode cX1_loanAt 0 = .ok (.aload_n 0, 1) := by decide +kernel
theorem dX1_loanAt_1 : decode cX1_loanAt 1 = .ok (.getfield 17, 3) := by decide +kernel
theorem dX1_loanAt_4 : decode cX1_loanAt 4 = .ok (.iload_n 1, 1) := by decide +kernel
theorem dX1_loanAt_5 : decode cX1_loanAt 5 = .ok (.iaload, 1) := by decide +kernel
theorem dX1_loanAt_6 : decode cX1_loanAt 6 = .ok (.ireturn, 1) := by decide +kernel
theorem dX1_mends_0 : decode cX1_mends 0 = .ok (.aload_n 0, 1) := by decide +kernel
theorem dX1_mends_1 : decode cX1_mends 1 = .ok (.getfield 11, 3) := by decide +kernel
theorem dX1_mends_4 : decode cX1_mends 4 = .ok (.iload_n 1, 1) := by decide +kernel
theorem dX1_mends_5 : decode cX1_mends 5 = .ok (.aaload, 1) := by decide +kernel
theorem dX1_mends_6 : decode cX1_mends 6 = .ok (.astore 4, 2) := by decide +kernel
theorem dX1_mends_8 : decode cX1_mends 8 = .ok (.iload_n 3, 1) := by decide +kernel
theorem dX1_mends_9 : decode cX1_mends 9 = .ok (.aload 4, 2) := by decide +kernel
theorem dX1_mends_11 : decode cX1_mends 11 = .ok (.invokevirtual 30, 3) := by decide +kernel
theorem dX1_mends_14 : decode cX1_mends 14 = .ok (.iconst (-1), 1) := by decide +kernel
theorem dX1_mends_15 : decode cX1_mends 15 = .ok (.ixor, 1) := by decide +kernel
theorem dX1_mends_16 : decode cX1_mends 16 = .ok (.iand, 1) := by decide +kernel
theorem dX1_mends_17 : decode cX1_mends 17 = .ok (.invokestatic 34, 3) := by decide +kernel
theorem dX1_mends_20 : decode cX1_mends 20 = .ok (.iconst 2, 1) := by decide +kernel
theorem dX1_mends_21 : decode cX1_mends 21 = .ok (.iload_n 2, 1) := by decide +kernel
theorem dX1_mends_22 : decode cX1_mends 22 = .ok (.iload_n 1, 1) := by decide +kernel
theorem dX1_mends_23 : decode cX1_mends 23 = .ok (.isub, 1) := by decide +kernel
theorem dX1_mends_24 : decode cX1_mends 24 = .ok (.imul, 1) := by decide +kernel
theorem dX1_mends_25 : decode cX1_mends 25 = .ok (.if_icmp .le 5, 3) := by decide +kernel
theorem dX1_mends_28 : decode cX1_mends 28 = .ok (.iconst 0, 1) := by decide +kernel
theorem dX1_mends_29 : decode cX1_mends 29 = .ok (.ireturn, 1) := by decide +kernel
theorem dX1_mends_30 : decode cX1_mends 30 = .ok (.iload_n 1, 1) := by decide +kernel
theorem dX1_mends_31 : decode cX1_mends 31 = .ok (.iload_n 2, 1) := by decide +kernel
theorem dX1_mends_32 : decode cX1_mends 32 = .ok (.if_icmp .lt 5, 3) := by decide +kernel
theorem dX1_mends_35 : decode cX1_mends 35 = .ok (.iconst 1, 1) := by decide +kernel
theorem dX1_mends_36 : decode cX1_mends 36 = .ok (.ireturn, 1) := by decide +kernel
theorem dX1_mends_37 : decode cX1_mends 37 = .ok (.aload_n 0, 1) := by decide +kernel
theorem dX1_mends_38 : decode cX1_mends 38 = .ok (.getfield 11, 3) := by decide +kernel
theorem dX1_mends_41 : decode cX1_mends 41 = .ok (.iload_n 1, 1) := by decide +kernel
theorem dX1_mends_42 : decode cX1_mends 42 = .ok (.iconst 1, 1) := by decide +kernel
theorem dX1_mends_43 : decode cX1_mends 43 = .ok (.iadd, 1) := by decide +kernel
theorem dX1_mends_44 : decode cX1_mends 44 = .ok (.aaload, 1) := by decide +kernel
theorem dX1_mends_45 : decode cX1_mends 45 = .ok (.astore 5, 2) := by decide +kernel
theorem dX1_mends_47 : decode cX1_mends 47 = .ok (.iconst 0, 1) := by decide +kernel
theorem dX1_mends_48 : decode cX1_mends 48 = .ok (.istore 6, 2) := by decide +kernel
theorem dX1_mends_50 : decode cX1_mends 50 = .ok (.iload 6, 2) := by decide +kernel
theorem dX1_mends_52 : decode cX1_mends 52 = .ok (.aload 4, 2) := by decide +kernel
theorem dX1_mends_54 : decode cX1_mends 54 = .ok (.getfield 40, 3) := by decide +kernel
theorem dX1_mends_57 : decode cX1_mends 57 = .ok (.if_icmp .ge 87, 3) := by decide +kernel
theorem dX1_mends_60 : decode cX1_mends 60 = .ok (.iload 6, 2) := by decide +kernel
theorem dX1_mends_62 : decode cX1_mends 62 = .ok (.iconst 1, 1) := by decide +kernel
theorem dX1_mends_63 : decode cX1_mends 63 = .ok (.iadd, 1) := by decide +kernel
theorem dX1_mends_64 : decode cX1_mends 64 = .ok (.istore 7, 2) := by decide +kernel
theorem dX1_mends_66 : decode cX1_mends 66 = .ok (.iload 7, 2) := by decide +kernel
theorem dX1_mends_68 : decode cX1_mends 68 = .ok (.aload 4, 2) := by decide +kernel
theorem dX1_mends_70 : decode cX1_mends 70 = .ok (.getfield 40, 3) := by decide +kernel
theorem dX1_mends_73 : decode cX1_mends 73 = .ok (.if_icmp .ge 65, 3) := by decide +kernel
theorem dX1_mends_76 : decode cX1_mends 76 = .ok (.aload 4, 2) := by decide +kernel
theorem dX1_mends_78 : decode cX1_mends 78 = .ok (.iload 6, 2) := by decide +kernel
theorem dX1_mends_80 : decode cX1_mends 80 = .ok (.iload 7, 2) := by decide +kernel
theorem dX1_mends_82 : decode cX1_mends 82 = .ok (.invokevirtual 44, 3) := by decide +kernel
theorem dX1_mends_85 : decode cX1_mends 85 = .ok (.ifCond .eq 47, 3) := by decide +kernel
theorem dX1_mends_88 : decode cX1_mends 88 = .ok (.aload 5, 2) := by decide +kernel
theorem dX1_mends_90 : decode cX1_mends 90 = .ok (.aload 4, 2) := by decide +kernel
theorem dX1_mends_92 : decode cX1_mends 92 = .ok (.invokevirtual 48, 3) := by decide +kernel
theorem dX1_mends_95 : decode cX1_mends 95 = .ok (.aload 5, 2) := by decide +kernel
theorem dX1_mends_97 : decode cX1_mends 97 = .ok (.iload 6, 2) := by decide +kernel
theorem dX1_mends_99 : decode cX1_mends 99 = .ok (.iload 7, 2) := by decide +kernel
theorem dX1_mends_101 : decode cX1_mends 101 = .ok (.invokevirtual 52, 3) := by decide +kernel
theorem dX1_mends_104 : decode cX1_mends 104 = .ok (.aload_n 0, 1) := by decide +kernel
theorem dX1_mends_105 : decode cX1_mends 105 = .ok (.getfield 17, 3) := by decide +kernel
theorem dX1_mends_108 : decode cX1_mends 108 = .ok (.iload_n 1, 1) := by decide +kernel
theorem dX1_mends_109 : decode cX1_mends 109 = .ok (.bipush 10, 2) := by decide +kernel
theorem dX1_mends_111 : decode cX1_mends 111 = .ok (.iload 6, 2) := by decide +kernel
theorem dX1_mends_113 : decode cX1_mends 113 = .ok (.imul, 1) := by decide +kernel
theorem dX1_mends_114 : decode cX1_mends 114 = .ok (.iload 7, 2) := by decide +kernel
theorem dX1_mends_116 : decode cX1_mends 116 = .ok (.iadd, 1) := by decide +kernel
theorem dX1_mends_117 : decode cX1_mends 117 = .ok (.iastore, 1) := by decide +kernel
theorem dX1_mends_118 : decode cX1_mends 118 = .ok (.aload_n 0, 1) := by decide +kernel
theorem dX1_mends_119 : decode cX1_mends 119 = .ok (.iload_n 1, 1) := by decide +kernel
theorem dX1_mends_120 : decode cX1_mends 120 = .ok (.iconst 1, 1) := by decide +kernel
theorem dX1_mends_121 : decode cX1_mends 121 = .ok (.iadd, 1) := by decide +kernel
theorem dX1_mends_122 : decode cX1_mends 122 = .ok (.iload_n 2, 1) := by decide +kernel
theorem dX1_mends_123 : decode cX1_mends 123 = .ok (.iload_n 3, 1) := by decide +kernel
theorem dX1_mends_124 : decode cX1_mends 124 = .ok (.invokestatic 26, 3) := by decide +kernel
theorem dX1_mends_127 : decode cX1_mends 127 = .ok (.ifCond .eq 5, 3) := by decide +kernel
theorem dX1_mends_130 : decode cX1_mends 130 = .ok (.iconst 1, 1) := by decide +kernel
theorem dX1_mends_131 : decode cX1_mends 131 = .ok (.ireturn, 1) := by decide +kernel
theorem dX1_mends_132 : decode cX1_mends 132 = .ok (.iinc 7 1, 3) := by decide +kernel
theorem dX1_mends_135 : decode cX1_mends 135 = .ok (.goto (-69), 3) := by decide +kernel
theorem dX1_mends_138 : decode cX1_mends 138 = .ok (.iinc 6 1, 3) := by decide +kernel
theorem dX1_mends_141 : decode cX1_mends 141 = .ok (.goto (-91), 3) := by decide +kernel
theorem dX1_mends_144 : decode cX1_mends 144 = .ok (.iconst 0, 1) := by decide +kernel
theorem dX1_mends_145 : decode cX1_mends 145 = .ok (.ireturn, 1) := by decide +kernel
theorem dX2_init_0 : decode cX2_init 0 = .ok (.aload_n 0, 1) := by decide +kernel
theorem dX2_init_1 : decode cX2_init 1 = .ok (.invokespecial 3, 3) := by decide +kernel
theorem dX2_init_4 : decode cX2_init 4 = .ok (.aload_n 0, 1) := by decide +kernel
theorem dX2_init_5 : decode cX2_init 5 = .ok (.bipush 64, 2) := by decide +kernel
theorem dX2_init_7 : decode cX2_init 7 = .ok (.newarray .int, 2) := by decide +kernel
theorem dX2_init_9 : decode cX2_init 9 = .ok (.putfield 9, 3) := by decide +kernel
theorem dX2_init_12 : decode cX2_init 12 = .ok (.aload_n 0, 1) := by decide +kernel
theorem dX2_init_13 : decode cX2_init 13 = .ok (.bipush 6, 2) := by decide +kernel
theorem dX2_init_15 : decode cX2_init 15 = .ok (.newarray .int, 2) := by decide +kernel
theorem dX2_init_17 : decode cX2_init 17 = .ok (.putfield 15, 3) := by decide +kernel
theorem dX2_init_20 : decode cX2_init 20 = .ok (.return_, 1) := by decide +kernel
theorem dX2_mostMended_0 : decode cX2_mostMended 0 = .ok (.aload_n 0, 1) := by decide +kernel
theorem dX2_mostMended_1 : decode cX2_mostMended 1 = .ok (.getfield 9, 3) := by decide +kernel
theorem dX2_mostMended_4 : decode cX2_mostMended 4 = .ok (.iconst 0, 1) := by decide +kernel
theorem dX2_mostMended_5 : decode cX2_mostMended 5 = .ok (.iaload, 1) := by decide +kernel
theorem dX2_mostMended_6 : decode cX2_mostMended 6 = .ok (.ireturn, 1) := by decide +kernel
theorem dX2_make_0 : decode cX2_make 0 = .ok (.iconst 1, 1) := by decide +kernel
theorem dX2_make_1 : decode cX2_make 1 = .ok (.iload_n 2, 1) := by decide +kernel
theorem dX2_make_2 : decode cX2_make 2 = .ok (.ishl, 1) := by decide +kernel
theorem dX2_make_3 : decode cX2_make 3 = .ok (.iconst 1, 1) := by decide +kernel
theorem dX2_make_4 : decode cX2_make 4 = .ok (.isub, 1) := by decide +kernel
theorem dX2_make_5 : decode cX2_make 5 = .ok (.istore_n 3, 1) := by decide +kernel
theorem dX2_make_6 : decode cX2_make 6 = .ok (.aload_n 0, 1) := by decide +kernel
theorem dX2_make_7 : decode cX2_make 7 = .ok (.getfield 9, 3) := by decide +kernel
theorem dX2_make_10 : decode cX2_make 10 = .ok (.iload_n 3, 1) := by decide +kernel
theorem dX2_make_11 : decode cX2_make 11 = .ok (.iconst 0, 1) := by decide +kernel
theorem dX2_make_12 : decode cX2_make 12 = .ok (.iastore, 1) := by decide +kernel
theorem dX2_make_13 : decode cX2_make 13 = .ok (.iload_n 3, 1) := by decide +kernel
theorem dX2_make_14 : decode cX2_make 14 = .ok (.iconst 1, 1) := by decide +kernel
theorem dX2_make_15 : decode cX2_make 15 = .ok (.isub, 1) := by decide +kernel
theorem dX2_make_16 : decode cX2_make 16 = .ok (.istore 4, 2) := by decide +kernel
theorem dX2_make_18 : decode cX2_make 18 = .ok (.iload 4, 2) := by decide +kernel
theorem dX2_make_20 : decode cX2_make 20 = .ok (.ifCond .lt 68, 3) := by decide +kernel
theorem dX2_make_23 : decode cX2_make 23 = .ok (.aload_n 0, 1) := by decide +kernel
theorem dX2_make_24 : decode cX2_make 24 = .ok (.getfield 9, 3) := by decide +kernel
theorem dX2_make_27 : decode cX2_make 27 = .ok (.iload 4, 2) := by decide +kernel
theorem dX2_make_29 : decode cX2_make 29 = .ok (.iconst (-1), 1) := by decide +kernel
theorem dX2_make_30 : decode cX2_make 30 = .ok (.iastore, 1) := by decide +kernel
theorem dX2_make_31 : decode cX2_make 31 = .ok (.iconst 0, 1) := by decide +kernel
theorem dX2_make_32 : decode cX2_make 32 = .ok (.istore 5, 2) := by decide +kernel
theorem dX2_make_34 : decode cX2_make 34 = .ok (.iload 5, 2) := by decide +kernel
theorem dX2_make_36 : decode cX2_make 36 = .ok (.iload_n 2, 1) := by decide +kernel
theorem dX2_make_37 : decode cX2_make 37 = .ok (.if_icmp .ge 45, 3) := by decide +kernel
theorem dX2_make_40 : decode cX2_make 40 = .ok (.iload 4, 2) := by decide +kernel
theorem dX2_make_42 : decode cX2_make 42 = .ok (.iload 5, 2) := by decide +kernel
theorem dX2_make_44 : decode cX2_make 44 = .ok (.ishr, 1) := by decide +kernel
theorem dX2_make_45 : decode cX2_make 45 = .ok (.iconst 1, 1) := by decide +kernel
theorem dX2_make_46 : decode cX2_make 46 = .ok (.iand, 1) := by decide +kernel
theorem dX2_make_47 : decode cX2_make 47 = .ok (.ifCond .ne 29, 3) := by decide +kernel
theorem dX2_make_50 : decode cX2_make 50 = .ok (.aload_n 0, 1) := by decide +kernel
theorem dX2_make_51 : decode cX2_make 51 = .ok (.getfield 9, 3) := by decide +kernel
theorem dX2_make_54 : decode cX2_make 54 = .ok (.iload 4, 2) := by decide +kernel
theorem dX2_make_56 : decode cX2_make 56 = .ok (.aload_n 0, 1) := by decide +kernel
theorem dX2_make_57 : decode cX2_make 57 = .ok (.getfield 9, 3) := by decide +kernel
theorem dX2_make_60 : decode cX2_make 60 = .ok (.iload 4, 2) := by decide +kernel
theorem dX2_make_62 : decode cX2_make 62 = .ok (.iaload, 1) := by decide +kernel
theorem dX2_make_63 : decode cX2_make 63 = .ok (.aload_n 0, 1) := by decide +kernel
theorem dX2_make_64 : decode cX2_make 64 = .ok (.aload_n 1, 1) := by decide +kernel
theorem dX2_make_65 : decode cX2_make 65 = .ok (.iload 4, 2) := by decide +kernel
theorem dX2_make_67 : decode cX2_make 67 = .ok (.iload 5, 2) := by decide +kernel
theorem dX2_make_69 : decode cX2_make 69 = .ok (.invokevirtual 18, 3) := by decide +kernel
theorem dX2_make_72 : decode cX2_make 72 = .ok (.invokestatic 22, 3) := by decide +kernel
theorem dX2_make_75 : decode cX2_make 75 = .ok (.iastore, 1) := by decide +kernel
theorem dX2_make_76 : decode cX2_make 76 = .ok (.iinc 5 1, 3) := by decide +kernel
theorem dX2_make_79 : decode cX2_make 79 = .ok (.goto (-45), 3) := by decide +kernel
theorem dX2_make_82 : decode cX2_make 82 = .ok (.iinc 4 (-1), 3) := by decide +kernel
theorem dX2_make_85 : decode cX2_make 85 = .ok (.goto (-67), 3) := by decide +kernel
theorem dX2_make_88 : decode cX2_make 88 = .ok (.iconst 0, 1) := by decide +kernel
theorem dX2_make_89 : decode cX2_make 89 = .ok (.istore 4, 2) := by decide +kernel
theorem dX2_make_91 : decode cX2_make 91 = .ok (.iconst 0, 1) := by decide +kernel
theorem dX2_make_92 : decode cX2_make 92 = .ok (.istore 5, 2) := by decide +kernel
theorem dX2_make_94 : decode cX2_make 94 = .ok (.iload 5, 2) := by decide +kernel
theorem dX2_make_96 : decode cX2_make 96 = .ok (.iload_n 2, 1) := by decide +kernel
theorem dX2_make_97 : decode cX2_make 97 = .ok (.if_icmp .ge 38, 3) := by decide +kernel
theorem dX2_make_100 : decode cX2_make 100 = .ok (.aload_n 0, 1) := by decide +kernel
theorem dX2_make_101 : decode cX2_make 101 = .ok (.getfield 15, 3) := by decide +kernel
theorem dX2_make_104 : decode cX2_make 104 = .ok (.iload 5, 2) := by decide +kernel
theorem dX2_make_106 : decode cX2_make 106 = .ok (.aload_n 0, 1) := by decide +kernel
theorem dX2_make_107 : decode cX2_make 107 = .ok (.aload_n 1, 1) := by decide +kernel
theorem dX2_make_108 : decode cX2_make 108 = .ok (.iload_n 2, 1) := by decide +kernel
theorem dX2_make_109 : decode cX2_make 109 = .ok (.iload 4, 2) := by decide +kernel
theorem dX2_make_111 : decode cX2_make 111 = .ok (.invokevirtual 28, 3) := by decide +kernel
theorem dX2_make_114 : decode cX2_make 114 = .ok (.iastore, 1) := by decide +kernel
theorem dX2_make_115 : decode cX2_make 115 = .ok (.iload 4, 2) := by decide +kernel
theorem dX2_make_117 : decode cX2_make 117 = .ok (.iconst 1, 1) := by decide +kernel
theorem dX2_make_118 : decode cX2_make 118 = .ok (.aload_n 0, 1) := by decide +kernel
theorem dX2_make_119 : decode cX2_make 119 = .ok (.getfield 15, 3) := by decide +kernel
theorem dX2_make_122 : decode cX2_make 122 = .ok (.iload 5, 2) := by decide +kernel
theorem dX2_make_124 : decode cX2_make 124 = .ok (.iaload, 1) := by decide +kernel
theorem dX2_make_125 : decode cX2_make 125 = .ok (.ishl, 1) := by decide +kernel
theorem dX2_make_126 : decode cX2_make 126 = .ok (.ior, 1) := by decide +kernel
theorem dX2_make_127 : decode cX2_make 127 = .ok (.istore 4, 2) := by decide +kernel
theorem dX2_make_129 : decode cX2_make 129 = .ok (.iinc 5 1, 3) := by decide +kernel
theorem dX2_make_132 : decode cX2_make 132 = .ok (.goto (-38), 3) := by decide +kernel
theorem dX2_make_135 : decode cX2_make 135 = .ok (.return_, 1) := by decide +kernel
theorem dX2_mendedFrom_0 : decode cX2_mendedFrom 0 = .ok (.aload_n 1, 1) := by decide +kernel
theorem dX2_mendedFrom_1 : decode cX2_mendedFrom 1 = .ok (.iload_n 2, 1) := by decide +kernel
theorem dX2_mendedFrom_2 : decode cX2_mendedFrom 2 = .ok (.invokestatic 31, 3) := by decide +kernel
theorem dX2_mendedFrom_5 : decode cX2_mendedFrom 5 = .ok (.aaload, 1) := by decide +kernel
theorem dX2_mendedFrom_6 : decode cX2_mendedFrom 6 = .ok (.astore 4, 2) := by decide +kernel
theorem dX2_mendedFrom_8 : decode cX2_mendedFrom 8 = .ok (.aload 4, 2) := by decide +kernel
theorem dX2_mendedFrom_10 : decode cX2_mendedFrom 10 = .ok (.aload 4, 2) := by decide +kernel
theorem dX2_mendedFrom_12 : decode cX2_mendedFrom 12 = .ok (.getfield 37, 3) := by decide +kernel
theorem dX2_mendedFrom_15 : decode cX2_mendedFrom 15 = .ok (.aload_n 1, 1) := by decide +kernel
theorem dX2_mendedFrom_16 : decode cX2_mendedFrom 16 = .ok (.iload_n 3, 1) := by decide +kernel
theorem dX2_mendedFrom_17 : decode cX2_mendedFrom 17 = .ok (.aaload, 1) := by decide +kernel
theorem dX2_mendedFrom_18 : decode cX2_mendedFrom 18 = .ok (.getfield 37, 3) := by decide +kernel
theorem dX2_mendedFrom_21 : decode cX2_mendedFrom 21 = .ok (.ior, 1) := by decide +kernel
theorem dX2_mendedFrom_22 : decode cX2_mendedFrom 22 = .ok (.invokevirtual 43, 3) := by decide +kernel
theorem dX2_mendedFrom_25 : decode cX2_mendedFrom 25 = .ok (.ifCond .eq 7, 3) := by decide +kernel
theorem dX2_mendedFrom_28 : decode cX2_mendedFrom 28 = .ok (.iconst 1, 1) := by decide +kernel
theorem dX2_mendedFrom_29 : decode cX2_mendedFrom 29 = .ok (.goto 4, 3) := by decide +kernel
theorem dX2_mendedFrom_32 : decode cX2_mendedFrom 32 = .ok (.iconst 0, 1) := by decide +kernel
theorem dX2_mendedFrom_33 : decode cX2_mendedFrom 33 = .ok (.istore 5, 2) := by decide +kernel
theorem dX2_mendedFrom_35 : decode cX2_mendedFrom 35 = .ok (.iload 5, 2) := by decide +kernel
theorem dX2_mendedFrom_37 : decode cX2_mendedFrom 37 = .ok (.aload_n 0, 1) := by decide +kernel
theorem dX2_mendedFrom_38 : decode cX2_mendedFrom 38 = .ok (.getfield 9, 3) := by decide +kernel
theorem dX2_mendedFrom_41 : decode cX2_mendedFrom 41 = .ok (.iload_n 2, 1) := by decide +kernel
theorem dX2_mendedFrom_42 : decode cX2_mendedFrom 42 = .ok (.iconst 1, 1) := by decide +kernel
theorem dX2_mendedFrom_43 : decode cX2_mendedFrom 43 = .ok (.iload_n 3, 1) := by decide +kernel
theorem dX2_mendedFrom_44 : decode cX2_mendedFrom 44 = .ok (.ishl, 1) := by decide +kernel
theorem dX2_mendedFrom_45 : decode cX2_mendedFrom 45 = .ok (.ior, 1) := by decide +kernel
theorem dX2_mendedFrom_46 : decode cX2_mendedFrom 46 = .ok (.iaload, 1) := by decide +kernel
theorem dX2_mendedFrom_47 : decode cX2_mendedFrom 47 = .ok (.iadd, 1) := by decide +kernel
theorem dX2_mendedFrom_48 : decode cX2_mendedFrom 48 = .ok (.ireturn, 1) := by decide +kernel
theorem dX2_firstBest_0 : decode cX2_firstBest 0 = .ok (.iconst 0, 1) := by decide +kernel
theorem dX2_firstBest_1 : decode cX2_firstBest 1 = .ok (.istore 4, 2) := by decide +kernel
theorem dX2_firstBest_3 : decode cX2_firstBest 3 = .ok (.iload 4, 2) := by decide +kernel
theorem dX2_firstBest_5 : decode cX2_firstBest 5 = .ok (.iload_n 2, 1) := by decide +kernel
theorem dX2_firstBest_6 : decode cX2_firstBest 6 = .ok (.if_icmp .ge 38, 3) := by decide +kernel
theorem dX2_firstBest_9 : decode cX2_firstBest 9 = .ok (.iload_n 3, 1) := by decide +kernel
theorem dX2_firstBest_10 : decode cX2_firstBest 10 = .ok (.iload 4, 2) := by decide +kernel
theorem dX2_firstBest_12 : decode cX2_firstBest 12 = .ok (.ishr, 1) := by decide +kernel
theorem dX2_firstBest_13 : decode cX2_firstBest 13 = .ok (.iconst 1, 1) := by decide +kernel
theorem dX2_firstBest_14 : decode cX2_firstBest 14 = .ok (.iand, 1) := by decide +kernel
theorem dX2_firstBest_15 : decode cX2_firstBest 15 = .ok (.ifCond .ne 23, 3) := by decide +kernel
theorem dX2_firstBest_18 : decode cX2_firstBest 18 = .ok (.aload_n 0, 1) := by decide +kernel
theorem dX2_firstBest_19 : decode cX2_firstBest 19 = .ok (.aload_n 1, 1) := by decide +kernel
theorem dX2_firstBest_20 : decode cX2_firstBest 20 = .ok (.iload_n 3, 1) := by decide +kernel
theorem dX2_firstBest_21 : decode cX2_firstBest 21 = .ok (.iload 4, 2) := by decide +kernel
theorem dX2_firstBest_23 : decode cX2_firstBest 23 = .ok (.invokevirtual 18, 3) := by decide +kernel
theorem dX2_firstBest_26 : decode cX2_firstBest 26 = .ok (.aload_n 0, 1) := by decide +kernel
theorem dX2_firstBest_27 : decode cX2_firstBest 27 = .ok (.getfield 9, 3) := by decide +kernel
theorem dX2_firstBest_30 : decode cX2_firstBest 30 = .ok (.iload_n 3, 1) := by decide +kernel
theorem dX2_firstBest_31 : decode cX2_firstBest 31 = .ok (.iaload, 1) := by decide +kernel
theorem dX2_firstBest_32 : decode cX2_firstBest 32 = .ok (.if_icmp .ne 6, 3) := by decide +kernel
theorem dX2_firstBest_35 : decode cX2_firstBest 35 = .ok (.iload 4, 2) := by decide +kernel
theorem dX2_firstBest_37 : decode cX2_firstBest 37 = .ok (.ireturn, 1) := by decide +kernel
theorem dX2_firstBest_38 : decode cX2_firstBest 38 = .ok (.iinc 4 1, 3) := by decide +kernel
theorem dX2_firstBest_41 : decode cX2_firstBest 41 = .ok (.goto (-38), 3) := by decide +kernel
theorem dX2_firstBest_44 : decode cX2_firstBest 44 = .ok (.iconst 0, 1) := by decide +kernel
theorem dX2_firstBest_45 : decode cX2_firstBest 45 = .ok (.ireturn, 1) := by decide +kernel
theorem dX3_init_0 : decode cX3_init 0 = .ok (.aload_n 0, 1) := by decide +kernel
theorem dX3_init_1 : decode cX3_init 1 = .ok (.invokespecial 3, 3) := by decide +kernel
theorem dX3_init_4 : decode cX3_init 4 = .ok (.aload_n 0, 1) := by decide +kernel
theorem dX3_init_5 : decode cX3_init 5 = .ok (.iconst 0, 1) := by decide +kernel
theorem dX3_init_6 : decode cX3_init 6 = .ok (.putfield 9, 3) := by decide +kernel
theorem dX3_init_9 : decode cX3_init 9 = .ok (.aload_n 0, 1) := by decide +kernel
theorem dX3_init_10 : decode cX3_init 10 = .ok (.iconst 0, 1) := by decide +kernel
theorem dX3_init_11 : decode cX3_init 11 = .ok (.putfield 15, 3) := by decide +kernel
theorem dX3_init_14 : decode cX3_init 14 = .ok (.aload_n 0, 1) := by decide +kernel
theorem dX3_init_15 : decode cX3_init 15 = .ok (.bipush 6, 2) := by decide +kernel
theorem dX3_init_17 : decode cX3_init 17 = .ok (.putfield 18, 3) := by decide +kernel
theorem dX3_init_20 : decode cX3_init 20 = .ok (.aload_n 0, 1) := by decide +kernel
theorem dX3_init_21 : decode cX3_init 21 = .ok (.iconst 1, 1) := by decide +kernel
theorem dX3_init_22 : decode cX3_init 22 = .ok (.putfield 21, 3) := by decide +kernel
theorem dX3_init_25 : decode cX3_init 25 = .ok (.return_, 1) := by decide +kernel
theorem dX3_readFrom_0 : decode cX3_readFrom 0 = .ok (.aload_n 1, 1) := by decide +kernel
theorem dX3_readFrom_1 : decode cX3_readFrom 1 = .ok (.getfield 24, 3) := by decide +kernel
theorem dX3_readFrom_4 : decode cX3_readFrom 4 = .ok (.iload_n 2, 1) := by decide +kernel
theorem dX3_readFrom_5 : decode cX3_readFrom 5 = .ok (.iconst 1, 1) := by decide +kernel
theorem dX3_readFrom_6 : decode cX3_readFrom 6 = .ok (.iadd, 1) := by decide +kernel
theorem dX3_readFrom_7 : decode cX3_readFrom 7 = .ok (.iaload, 1) := by decide +kernel
theorem dX3_readFrom_8 : decode cX3_readFrom 8 = .ok (.istore_n 3, 1) := by decide +kernel
theorem dX3_readFrom_9 : decode cX3_readFrom 9 = .ok (.aload_n 0, 1) := by decide +kernel
theorem dX3_readFrom_10 : decode cX3_readFrom 10 = .ok (.iload_n 3, 1) := by decide +kernel
theorem dX3_readFrom_11 : decode cX3_readFrom 11 = .ok (.bipush 116, 2) := by decide +kernel
theorem dX3_readFrom_13 : decode cX3_readFrom 13 = .ok (.if_icmp .ne 7, 3) := by decide +kernel
theorem dX3_readFrom_16 : decode cX3_readFrom 16 = .ok (.iconst 2, 1) := by decide +kernel
theorem dX3_readFrom_17 : decode cX3_readFrom 17 = .ok (.goto 14, 3) := by decide +kernel
theorem dX3_readFrom_20 : decode cX3_readFrom 20 = .ok (.iload_n 3, 1) := by decide +kernel
theorem dX3_readFrom_21 : decode cX3_readFrom 21 = .ok (.bipush 115, 2) := by decide +kernel
theorem dX3_readFrom_23 : decode cX3_readFrom 23 = .ok (.if_icmp .ne 7, 3) := by decide +kernel
theorem dX3_readFrom_26 : decode cX3_readFrom 26 = .ok (.iconst 1, 1) := by decide +kernel
theorem dX3_readFrom_27 : decode cX3_readFrom 27 = .ok (.goto 4, 3) := by decide +kernel
theorem dX3_readFrom_30 : decode cX3_readFrom 30 = .ok (.iconst 0, 1) := by decide +kernel
theorem dX3_readFrom_31 : decode cX3_readFrom 31 = .ok (.putfield 9, 3) := by decide +kernel
theorem dX3_readFrom_34 : decode cX3_readFrom 34 = .ok (.aload_n 0, 1) := by decide +kernel
theorem dX3_readFrom_35 : decode cX3_readFrom 35 = .ok (.bipush 10, 2) := by decide +kernel
theorem dX3_readFrom_37 : decode cX3_readFrom 37 = .ok (.aload_n 1, 1) := by decide +kernel
theorem dX3_readFrom_38 : decode cX3_readFrom 38 = .ok (.getfield 24, 3) := by decide +kernel
theorem dX3_readFrom_41 : decode cX3_readFrom 41 = .ok (.iload_n 2, 1) := by decide +kernel
theorem dX3_readFrom_42 : decode cX3_readFrom 42 = .ok (.iconst 2, 1) := by decide +kernel
theorem dX3_readFrom_43 : decode cX3_readFrom 43 = .ok (.iadd, 1) := by decide +kernel
theorem dX3_readFrom_44 : decode cX3_readFrom 44 = .ok (.iaload, 1) := by decide +kernel
theorem dX3_readFrom_45 : decode cX3_readFrom 45 = .ok (.bipush 48, 2) := by decide +kernel
theorem dX3_readFrom_47 : decode cX3_readFrom 47 = .ok (.isub, 1) := by decide +kernel
theorem dX3_readFrom_48 : decode cX3_readFrom 48 = .ok (.imul, 1) := by decide +kernel
theorem dX3_readFrom_49 : decode cX3_readFrom 49 = .ok (.aload_n 1, 1) := by decide +kernel
theorem dX3_readFrom_50 : decode cX3_readFrom 50 = .ok (.getfield 24, 3) := by decide +kernel
theorem dX3_readFrom_53 : decode cX3_readFrom 53 = .ok (.iload_n 2, 1) := by decide +kernel
theorem dX3_readFrom_54 : decode cX3_readFrom 54 = .ok (.iconst 3, 1) := by decide +kernel
theorem dX3_readFrom_55 : decode cX3_readFrom 55 = .ok (.iadd, 1) := by decide +kernel
theorem dX3_readFrom_56 : decode cX3_readFrom 56 = .ok (.iaload, 1) := by decide +kernel
theorem dX3_readFrom_57 : decode cX3_readFrom 57 = .ok (.iadd, 1) := by decide +kernel
theorem dX3_readFrom_58 : decode cX3_readFrom 58 = .ok (.bipush 48, 2) := by decide +kernel
theorem dX3_readFrom_60 : decode cX3_readFrom 60 = .ok (.isub, 1) := by decide +kernel
theorem dX3_readFrom_61 : decode cX3_readFrom 61 = .ok (.putfield 15, 3) := by decide +kernel
theorem dX3_readFrom_64 : decode cX3_readFrom 64 = .ok (.aload_n 0, 1) := by decide +kernel
theorem dX3_readFrom_65 : decode cX3_readFrom 65 = .ok (.aload_n 1, 1) := by decide +kernel
theorem dX3_readFrom_66 : decode cX3_readFrom 66 = .ok (.getfield 24, 3) := by decide +kernel
theorem dX3_readFrom_69 : decode cX3_readFrom 69 = .ok (.iload_n 2, 1) := by decide +kernel
theorem dX3_readFrom_70 : decode cX3_readFrom 70 = .ok (.iconst 4, 1) := by decide +kernel
theorem dX3_readFrom_71 : decode cX3_readFrom 71 = .ok (.iadd, 1) := by decide +kernel
theorem dX3_readFrom_72 : decode cX3_readFrom 72 = .ok (.iaload, 1) := by decide +kernel
theorem dX3_readFrom_73 : decode cX3_readFrom 73 = .ok (.bipush 48, 2) := by decide +kernel
theorem dX3_readFrom_75 : decode cX3_readFrom 75 = .ok (.isub, 1) := by decide +kernel
theorem dX3_readFrom_76 : decode cX3_readFrom 76 = .ok (.putfield 18, 3) := by decide +kernel
theorem dX3_readFrom_79 : decode cX3_readFrom 79 = .ok (.aload_n 0, 1) := by decide +kernel
theorem dX3_readFrom_80 : decode cX3_readFrom 80 = .ok (.aload_n 1, 1) := by decide +kernel
theorem dX3_readFrom_81 : decode cX3_readFrom 81 = .ok (.getfield 24, 3) := by decide +kernel
theorem dX3_readFrom_84 : decode cX3_readFrom 84 = .ok (.iload_n 2, 1) := by decide +kernel
theorem dX3_readFrom_85 : decode cX3_readFrom 85 = .ok (.iconst 5, 1) := by decide +kernel
theorem dX3_readFrom_86 : decode cX3_readFrom 86 = .ok (.iadd, 1) := by decide +kernel
theorem dX3_readFrom_87 : decode cX3_readFrom 87 = .ok (.iaload, 1) := by decide +kernel
theorem dX3_readFrom_88 : decode cX3_readFrom 88 = .ok (.bipush 48, 2) := by decide +kernel
theorem dX3_readFrom_90 : decode cX3_readFrom 90 = .ok (.isub, 1) := by decide +kernel
theorem dX3_readFrom_91 : decode cX3_readFrom 91 = .ok (.putfield 21, 3) := by decide +kernel
theorem dX3_readFrom_94 : decode cX3_readFrom 94 = .ok (.return_, 1) := by decide +kernel
theorem dX3_lasts_0 : decode cX3_lasts 0 = .ok (.aload_n 0, 1) := by decide +kernel
theorem dX3_lasts_1 : decode cX3_lasts 1 = .ok (.getfield 9, 3) := by decide +kernel
theorem dX3_lasts_4 : decode cX3_lasts 4 = .ok (.aload_n 0, 1) := by decide +kernel
theorem dX3_lasts_5 : decode cX3_lasts 5 = .ok (.getfield 21, 3) := by decide +kernel
theorem dX3_lasts_8 : decode cX3_lasts 8 = .ok (.invokestatic 30, 3) := by decide +kernel
theorem dX3_lasts_11 : decode cX3_lasts 11 = .ok (.ireturn, 1) := by decide +kernel
theorem dX3_wantedSet_0 : decode cX3_wantedSet 0 = .ok (.aload_n 0, 1) := by decide +kernel
theorem dX3_wantedSet_1 : decode cX3_wantedSet 1 = .ok (.getfield 18, 3) := by decide +kernel
theorem dX3_wantedSet_4 : decode cX3_wantedSet 4 = .ok (.bipush 6, 2) := by decide +kernel
theorem dX3_wantedSet_6 : decode cX3_wantedSet 6 = .ok (.if_icmp .ne 7, 3) := by decide +kernel
theorem dX3_wantedSet_9 : decode cX3_wantedSet 9 = .ok (.iconst 0, 1) := by decide +kernel
theorem dX3_wantedSet_10 : decode cX3_wantedSet 10 = .ok (.goto 9, 3) := by decide +kernel
theorem dX3_wantedSet_13 : decode cX3_wantedSet 13 = .ok (.iconst 1, 1) := by decide +kernel
theorem dX3_wantedSet_14 : decode cX3_wantedSet 14 = .ok (.aload_n 0, 1) := by decide +kernel
theorem dX3_wantedSet_15 : decode cX3_wantedSet 15 = .ok (.getfield 18, 3) := by decide +kernel
theorem dX3_wantedSet_18 : decode cX3_wantedSet 18 = .ok (.ishl, 1) := by decide +kernel
theorem dX3_wantedSet_19 : decode cX3_wantedSet 19 = .ok (.ireturn, 1) := by decide +kernel
theorem dX3_isMendedBy_0 : decode cX3_isMendedBy 0 = .ok (.aload_n 0, 1) := by decide +kernel
theorem dX3_isMendedBy_1 : decode cX3_isMendedBy 1 = .ok (.getfield 18, 3) := by decide +kernel
theorem dX3_isMendedBy_4 : decode cX3_isMendedBy 4 = .ok (.bipush 6, 2) := by decide +kernel
theorem dX3_isMendedBy_6 : decode cX3_isMendedBy 6 = .ok (.if_icmp .eq 12, 3) := by decide +kernel
theorem dX3_isMendedBy_9 : decode cX3_isMendedBy 9 = .ok (.iload_n 1, 1) := by decide +kernel
theorem dX3_isMendedBy_10 : decode cX3_isMendedBy 10 = .ok (.aload_n 0, 1) := by decide +kernel
theorem dX3_isMendedBy_11 : decode cX3_isMendedBy 11 = .ok (.invokevirtual 34, 3) := by decide +kernel
theorem dX3_isMendedBy_14 : decode cX3_isMendedBy 14 = .ok (.iand, 1) := by decide +kernel
theorem dX3_isMendedBy_15 : decode cX3_isMendedBy 15 = .ok (.ifCond .eq 7, 3) := by decide +kernel
theorem dX3_isMendedBy_18 : decode cX3_isMendedBy 18 = .ok (.iconst 1, 1) := by decide +kernel
theorem dX3_isMendedBy_19 : decode cX3_isMendedBy 19 = .ok (.goto 4, 3) := by decide +kernel
theorem dX3_isMendedBy_22 : decode cX3_isMendedBy 22 = .ok (.iconst 0, 1) := by decide +kernel
theorem dX3_isMendedBy_23 : decode cX3_isMendedBy 23 = .ok (.ireturn, 1) := by decide +kernel
theorem dX4_init_0 : decode cX4_init 0 = .ok (.aload_n 0, 1) := by decide +kernel
theorem dX4_init_1 : decode cX4_init 1 = .ok (.invokespecial 3, 3) := by decide +kernel
theorem dX4_init_4 : decode cX4_init 4 = .ok (.aload_n 0, 1) := by decide +kernel
theorem dX4_init_5 : decode cX4_init 5 = .ok (.bipush 8, 2) := by decide +kernel
theorem dX4_init_7 : decode cX4_init 7 = .ok (.newarray .int, 2) := by decide +kernel
theorem dX4_init_9 : decode cX4_init 9 = .ok (.putfield 9, 3) := by decide +kernel
theorem dX4_init_12 : decode cX4_init 12 = .ok (.aload_n 0, 1) := by decide +kernel
theorem dX4_init_13 : decode cX4_init 13 = .ok (.bipush 8, 2) := by decide +kernel
theorem dX4_init_15 : decode cX4_init 15 = .ok (.newarray .int, 2) := by decide +kernel
theorem dX4_init_17 : decode cX4_init 17 = .ok (.putfield 15, 3) := by decide +kernel
theorem dX4_init_20 : decode cX4_init 20 = .ok (.aload_n 0, 1) := by decide +kernel
theorem dX4_init_21 : decode cX4_init 21 = .ok (.bipush 8, 2) := by decide +kernel
theorem dX4_init_23 : decode cX4_init 23 = .ok (.newarray .boolean, 2) := by decide +kernel
theorem dX4_init_25 : decode cX4_init 25 = .ok (.putfield 18, 3) := by decide +kernel
theorem dX4_init_28 : decode cX4_init 28 = .ok (.aload_n 0, 1) := by decide +kernel
theorem dX4_init_29 : decode cX4_init 29 = .ok (.iconst 0, 1) := by decide +kernel
theorem dX4_init_30 : decode cX4_init 30 = .ok (.putfield 22, 3) := by decide +kernel
theorem dX4_init_33 : decode cX4_init 33 = .ok (.return_, 1) := by decide +kernel
theorem dX4_add_0 : decode cX4_add 0 = .ok (.aload_n 0, 1) := by decide +kernel
theorem dX4_add_1 : decode cX4_add 1 = .ok (.getfield 22, 3) := by decide +kernel
theorem dX4_add_4 : decode cX4_add 4 = .ok (.bipush 8, 2) := by decide +kernel
theorem dX4_add_6 : decode cX4_add 6 = .ok (.if_icmp .lt 5, 3) := by decide +kernel
theorem dX4_add_9 : decode cX4_add 9 = .ok (.iconst 0, 1) := by decide +kernel
theorem dX4_add_10 : decode cX4_add 10 = .ok (.ireturn, 1) := by decide +kernel
theorem dX4_add_11 : decode cX4_add 11 = .ok (.aload_n 0, 1) := by decide +kernel
theorem dX4_add_12 : decode cX4_add 12 = .ok (.getfield 9, 3) := by decide +kernel
theorem dX4_add_15 : decode cX4_add 15 = .ok (.aload_n 0, 1) := by decide +kernel
theorem dX4_add_16 : decode cX4_add 16 = .ok (.getfield 22, 3) := by decide +kernel
theorem dX4_add_19 : decode cX4_add 19 = .ok (.iload_n 1, 1) := by decide +kernel
theorem dX4_add_20 : decode cX4_add 20 = .ok (.iastore, 1) := by decide +kernel
theorem dX4_add_21 : decode cX4_add 21 = .ok (.aload_n 0, 1) := by decide +kernel
theorem dX4_add_22 : decode cX4_add 22 = .ok (.getfield 15, 3) := by decide +kernel
theorem dX4_add_25 : decode cX4_add 25 = .ok (.aload_n 0, 1) := by decide +kernel
theorem dX4_add_26 : decode cX4_add 26 = .ok (.getfield 22, 3) := by decide +kernel
theorem dX4_add_29 : decode cX4_add 29 = .ok (.iload_n 2, 1) := by decide +kernel
theorem dX4_add_30 : decode cX4_add 30 = .ok (.iastore, 1) := by decide +kernel
theorem dX4_add_31 : decode cX4_add 31 = .ok (.aload_n 0, 1) := by decide +kernel
theorem dX4_add_32 : decode cX4_add 32 = .ok (.getfield 18, 3) := by decide +kernel
theorem dX4_add_35 : decode cX4_add 35 = .ok (.aload_n 0, 1) := by decide +kernel
theorem dX4_add_36 : decode cX4_add 36 = .ok (.getfield 22, 3) := by decide +kernel
theorem dX4_add_39 : decode cX4_add 39 = .ok (.iload_n 3, 1) := by decide +kernel
theorem dX4_add_40 : decode cX4_add 40 = .ok (.bastore, 1) := by decide +kernel
theorem dX4_add_41 : decode cX4_add 41 = .ok (.aload_n 0, 1) := by decide +kernel
theorem dX4_add_42 : decode cX4_add 42 = .ok (.dup, 1) := by decide +kernel
theorem dX4_add_43 : decode cX4_add 43 = .ok (.getfield 22, 3) := by decide +kernel
theorem dX4_add_46 : decode cX4_add 46 = .ok (.iconst 1, 1) := by decide +kernel
theorem dX4_add_47 : decode cX4_add 47 = .ok (.iadd, 1) := by decide +kernel
theorem dX4_add_48 : decode cX4_add 48 = .ok (.putfield 22, 3) := by decide +kernel
theorem dX4_add_51 : decode cX4_add 51 = .ok (.iconst 1, 1) := by decide +kernel
theorem dX4_add_52 : decode cX4_add 52 = .ok (.ireturn, 1) := by decide +kernel
theorem dX4_areSoIn_0 : decode cX4_areSoIn 0 = .ok (.iconst 0, 1) := by decide +kernel
theorem dX4_areSoIn_1 : decode cX4_areSoIn 1 = .ok (.istore_n 2, 1) := by decide +kernel
theorem dX4_areSoIn_2 : decode cX4_areSoIn 2 = .ok (.iload_n 2, 1) := by decide +kernel
theorem dX4_areSoIn_3 : decode cX4_areSoIn 3 = .ok (.aload_n 0, 1) := by decide +kernel
theorem dX4_areSoIn_4 : decode cX4_areSoIn 4 = .ok (.getfield 22, 3) := by decide +kernel
theorem dX4_areSoIn_7 : decode cX4_areSoIn 7 = .ok (.if_icmp .ge 51, 3) := by decide +kernel
theorem dX4_areSoIn_10 : decode cX4_areSoIn 10 = .ok (.aload_n 1, 1) := by decide +kernel
theorem dX4_areSoIn_11 : decode cX4_areSoIn 11 = .ok (.getfield 26, 3) := by decide +kernel
theorem dX4_areSoIn_14 : decode cX4_areSoIn 14 = .ok (.aload_n 0, 1) := by decide +kernel
theorem dX4_areSoIn_15 : decode cX4_areSoIn 15 = .ok (.getfield 9, 3) := by decide +kernel
theorem dX4_areSoIn_18 : decode cX4_areSoIn 18 = .ok (.iload_n 2, 1) := by decide +kernel
theorem dX4_areSoIn_19 : decode cX4_areSoIn 19 = .ok (.iaload, 1) := by decide +kernel
theorem dX4_areSoIn_20 : decode cX4_areSoIn 20 = .ok (.iaload, 1) := by decide +kernel
theorem dX4_areSoIn_21 : decode cX4_areSoIn 21 = .ok (.aload_n 0, 1) := by decide +kernel
theorem dX4_areSoIn_22 : decode cX4_areSoIn 22 = .ok (.getfield 15, 3) := by decide +kernel
theorem dX4_areSoIn_25 : decode cX4_areSoIn 25 = .ok (.iload_n 2, 1) := by decide +kernel
theorem dX4_areSoIn_26 : decode cX4_areSoIn 26 = .ok (.iaload, 1) := by decide +kernel
theorem dX4_areSoIn_27 : decode cX4_areSoIn 27 = .ok (.ishr, 1) := by decide +kernel
theorem dX4_areSoIn_28 : decode cX4_areSoIn 28 = .ok (.iconst 1, 1) := by decide +kernel
theorem dX4_areSoIn_29 : decode cX4_areSoIn 29 = .ok (.iand, 1) := by decide +kernel
theorem dX4_areSoIn_30 : decode cX4_areSoIn 30 = .ok (.iconst 1, 1) := by decide +kernel
theorem dX4_areSoIn_31 : decode cX4_areSoIn 31 = .ok (.if_icmp .ne 7, 3) := by decide +kernel
theorem dX4_areSoIn_34 : decode cX4_areSoIn 34 = .ok (.iconst 1, 1) := by decide +kernel
theorem dX4_areSoIn_35 : decode cX4_areSoIn 35 = .ok (.goto 4, 3) := by decide +kernel
theorem dX4_areSoIn_38 : decode cX4_areSoIn 38 = .ok (.iconst 0, 1) := by decide +kernel
theorem dX4_areSoIn_39 : decode cX4_areSoIn 39 = .ok (.istore_n 3, 1) := by decide +kernel
theorem dX4_areSoIn_40 : decode cX4_areSoIn 40 = .ok (.iload_n 3, 1) := by decide +kernel
theorem dX4_areSoIn_41 : decode cX4_areSoIn 41 = .ok (.aload_n 0, 1) := by decide +kernel
theorem dX4_areSoIn_42 : decode cX4_areSoIn 42 = .ok (.getfield 18, 3) := by decide +kernel
theorem dX4_areSoIn_45 : decode cX4_areSoIn 45 = .ok (.iload_n 2, 1) := by decide +kernel
theorem dX4_areSoIn_46 : decode cX4_areSoIn 46 = .ok (.baload, 1) := by decide +kernel
theorem dX4_areSoIn_47 : decode cX4_areSoIn 47 = .ok (.if_icmp .eq 5, 3) := by decide +kernel
theorem dX4_areSoIn_50 : decode cX4_areSoIn 50 = .ok (.iconst 0, 1) := by decide +kernel
theorem dX4_areSoIn_51 : decode cX4_areSoIn 51 = .ok (.ireturn, 1) := by decide +kernel
theorem dX4_areSoIn_52 : decode cX4_areSoIn 52 = .ok (.iinc 2 1, 3) := by decide +kernel
theorem dX4_areSoIn_55 : decode cX4_areSoIn 55 = .ok (.goto (-53), 3) := by decide +kernel
theorem dX4_areSoIn_58 : decode cX4_areSoIn 58 = .ok (.iconst 1, 1) := by decide +kernel
theorem dX4_areSoIn_59 : decode cX4_areSoIn 59 = .ok (.ireturn, 1) := by decide +kernel
theorem dX5_init_0 : decode cX5_init 0 = .ok (.aload_n 0, 1) := by decide +kernel
theorem dX5_init_1 : decode cX5_init 1 = .ok (.invokespecial 3, 3) := by decide +kernel
theorem dX5_init_4 : decode cX5_init 4 = .ok (.aload_n 0, 1) := by decide +kernel
theorem dX5_init_5 : decode cX5_init 5 = .ok (.bipush 60, 2) := by decide +kernel
theorem dX5_init_7 : decode cX5_init 7 = .ok (.newarray .int, 2) := by decide +kernel
theorem dX5_init_9 : decode cX5_init 9 = .ok (.putfield 9, 3) := by decide +kernel
theorem dX5_init_12 : decode cX5_init 12 = .ok (.aload_n 0, 1) := by decide +kernel
theorem dX5_init_13 : decode cX5_init 13 = .ok (.iconst 0, 1) := by decide +kernel
theorem dX5_init_14 : decode cX5_init 14 = .ok (.putfield 15, 3) := by decide +kernel
theorem dX5_init_17 : decode cX5_init 17 = .ok (.aload_n 0, 1) := by decide +kernel
theorem dX5_init_18 : decode cX5_init 18 = .ok (.iconst 0, 1) := by decide +kernel
theorem dX5_init_19 : decode cX5_init 19 = .ok (.putfield 19, 3) := by decide +kernel
theorem dX5_init_22 : decode cX5_init 22 = .ok (.aload_n 0, 1) := by decide +kernel
theorem dX5_init_23 : decode cX5_init 23 = .ok (.iconst 0, 1) := by decide +kernel
theorem dX5_init_24 : decode cX5_init 24 = .ok (.putfield 23, 3) := by decide +kernel
theorem dX5_init_27 : decode cX5_init 27 = .ok (.return_, 1) := by decide +kernel
theorem dX5_renew_0 : decode cX5_renew 0 = .ok (.aload_n 0, 1) := by decide +kernel
theorem dX5_renew_1 : decode cX5_renew 1 = .ok (.iconst 1, 1) := by decide +kernel
theorem dX5_renew_2 : decode cX5_renew 2 = .ok (.putfield 15, 3) := by decide +kernel
theorem dX5_renew_5 : decode cX5_renew 5 = .ok (.aload_n 0, 1) := by decide +kernel
theorem dX5_renew_6 : decode cX5_renew 6 = .ok (.iload_n 1, 1) := by decide +kernel
theorem dX5_renew_7 : decode cX5_renew 7 = .ok (.putfield 19, 3) := by decide +kernel
theorem dX5_renew_10 : decode cX5_renew 10 = .ok (.aload_n 0, 1) := by decide +kernel
theorem dX5_renew_11 : decode cX5_renew 11 = .ok (.iload_n 2, 1) := by decide +kernel
theorem dX5_renew_12 : decode cX5_renew 12 = .ok (.putfield 23, 3) := by decide +kernel
theorem dX5_renew_15 : decode cX5_renew 15 = .ok (.iconst 0, 1) := by decide +kernel
theorem dX5_renew_16 : decode cX5_renew 16 = .ok (.istore_n 3, 1) := by decide +kernel
theorem dX5_renew_17 : decode cX5_renew 17 = .ok (.iload_n 3, 1) := by decide +kernel
theorem dX5_renew_18 : decode cX5_renew 18 = .ok (.bipush 60, 2) := by decide +kernel
theorem dX5_renew_20 : decode cX5_renew 20 = .ok (.if_icmp .ge 16, 3) := by decide +kernel
theorem dX5_renew_23 : decode cX5_renew 23 = .ok (.aload_n 0, 1) := by decide +kernel
theorem dX5_renew_24 : decode cX5_renew 24 = .ok (.getfield 9, 3) := by decide +kernel
theorem dX5_renew_27 : decode cX5_renew 27 = .ok (.iload_n 3, 1) := by decide +kernel
theorem dX5_renew_28 : decode cX5_renew 28 = .ok (.iconst 0, 1) := by decide +kernel
theorem dX5_renew_29 : decode cX5_renew 29 = .ok (.iastore, 1) := by decide +kernel
theorem dX5_renew_30 : decode cX5_renew 30 = .ok (.iinc 3 1, 3) := by decide +kernel
theorem dX5_renew_33 : decode cX5_renew 33 = .ok (.goto (-16), 3) := by decide +kernel
theorem dX5_renew_36 : decode cX5_renew 36 = .ok (.return_, 1) := by decide +kernel
theorem dX5_faultOfCells_0 : decode cX5_faultOfCells 0 = .ok (.aload_n 0, 1) := by decide +kernel
theorem dX5_faultOfCells_1 : decode cX5_faultOfCells 1 = .ok (.getfield 15, 3) := by decide +kernel
theorem dX5_faultOfCells_4 : decode cX5_faultOfCells 4 = .ok (.ifCond .eq 13, 3) := by decide +kernel
theorem dX5_faultOfCells_7 : decode cX5_faultOfCells 7 = .ok (.aload_n 0, 1) := by decide +kernel
theorem dX5_faultOfCells_8 : decode cX5_faultOfCells 8 = .ok (.getfield 19, 3) := by decide +kernel
theorem dX5_faultOfCells_11 : decode cX5_faultOfCells 11 = .ok (.iload_n 1, 1) := by decide +kernel
theorem dX5_faultOfCells_12 : decode cX5_faultOfCells 12 = .ok (.if_icmp .eq 5, 3) := by decide +kernel
theorem dX5_faultOfCells_15 : decode cX5_faultOfCells 15 = .ok (.iconst 2, 1) := by decide +kernel
theorem dX5_faultOfCells_16 : decode cX5_faultOfCells 16 = .ok (.ireturn, 1) := by decide +kernel
theorem dX5_faultOfCells_17 : decode cX5_faultOfCells 17 = .ok (.aload_n 0, 1) := by decide +kernel
theorem dX5_faultOfCells_18 : decode cX5_faultOfCells 18 = .ok (.getfield 15, 3) := by decide +kernel
theorem dX5_faultOfCells_21 : decode cX5_faultOfCells 21 = .ok (.ifCond .ne 5, 3) := by decide +kernel
theorem dX5_faultOfCells_24 : decode cX5_faultOfCells 24 = .ok (.iconst 1, 1) := by decide +kernel
theorem dX5_faultOfCells_25 : decode cX5_faultOfCells 25 = .ok (.ireturn, 1) := by decide +kernel
theorem dX5_faultOfCells_26 : decode cX5_faultOfCells 26 = .ok (.iload_n 3, 1) := by decide +kernel
theorem dX5_faultOfCells_27 : decode cX5_faultOfCells 27 = .ok (.ifCond .ge 5, 3) := by decide +kernel
theorem dX5_faultOfCells_30 : decode cX5_faultOfCells 30 = .ok (.iconst 4, 1) := by decide +kernel
theorem dX5_faultOfCells_31 : decode cX5_faultOfCells 31 = .ok (.ireturn, 1) := by decide +kernel
theorem dX5_faultOfCells_32 : decode cX5_faultOfCells 32 = .ok (.aload_n 0, 1) := by decide +kernel
theorem dX5_faultOfCells_33 : decode cX5_faultOfCells 33 = .ok (.iload_n 2, 1) := by decide +kernel
theorem dX5_faultOfCells_34 : decode cX5_faultOfCells 34 = .ok (.iload_n 3, 1) := by decide +kernel
theorem dX5_faultOfCells_35 : decode cX5_faultOfCells 35 = .ok (.invokevirtual 26, 3) := by decide +kernel
theorem dX5_faultOfCells_38 : decode cX5_faultOfCells 38 = .ok (.ifCond .eq 7, 3) := by decide +kernel
theorem dX5_faultOfCells_41 : decode cX5_faultOfCells 41 = .ok (.iconst 0, 1) := by decide +kernel
theorem dX5_faultOfCells_42 : decode cX5_faultOfCells 42 = .ok (.goto 4, 3) := by decide +kernel
theorem dX5_faultOfCells_45 : decode cX5_faultOfCells 45 = .ok (.iconst 3, 1) := by decide +kernel
theorem dX5_faultOfCells_46 : decode cX5_faultOfCells 46 = .ok (.ireturn, 1) := by decide +kernel
theorem dX5_hasCells_0 : decode cX5_hasCells 0 = .ok (.iload_n 2, 1) := by decide +kernel
theorem dX5_hasCells_1 : decode cX5_hasCells 1 = .ok (.ifCond .lt 29, 3) := by decide +kernel
theorem dX5_hasCells_4 : decode cX5_hasCells 4 = .ok (.iload_n 1, 1) := by decide +kernel
theorem dX5_hasCells_5 : decode cX5_hasCells 5 = .ok (.ifCond .lt 25, 3) := by decide +kernel
theorem dX5_hasCells_8 : decode cX5_hasCells 8 = .ok (.iload_n 1, 1) := by decide +kernel
theorem dX5_hasCells_9 : decode cX5_hasCells 9 = .ok (.aload_n 0, 1) := by decide +kernel
theorem dX5_hasCells_10 : decode cX5_hasCells 10 = .ok (.getfield 23, 3) := by decide +kernel
theorem dX5_hasCells_13 : decode cX5_hasCells 13 = .ok (.if_icmp .gt 17, 3) := by decide +kernel
theorem dX5_hasCells_16 : decode cX5_hasCells 16 = .ok (.iload_n 2, 1) := by decide +kernel
theorem dX5_hasCells_17 : decode cX5_hasCells 17 = .ok (.aload_n 0, 1) := by decide +kernel
theorem dX5_hasCells_18 : decode cX5_hasCells 18 = .ok (.getfield 23, 3) := by decide +kernel
theorem dX5_hasCells_21 : decode cX5_hasCells 21 = .ok (.iload_n 1, 1) := by decide +kernel
theorem dX5_hasCells_22 : decode cX5_hasCells 22 = .ok (.isub, 1) := by decide +kernel
theorem dX5_hasCells_23 : decode cX5_hasCells 23 = .ok (.if_icmp .gt 7, 3) := by decide +kernel
theorem dX5_hasCells_26 : decode cX5_hasCells 26 = .ok (.iconst 1, 1) := by decide +kernel
theorem dX5_hasCells_27 : decode cX5_hasCells 27 = .ok (.goto 4, 3) := by decide +kernel
theorem dX5_hasCells_30 : decode cX5_hasCells 30 = .ok (.iconst 0, 1) := by decide +kernel
theorem dX5_hasCells_31 : decode cX5_hasCells 31 = .ok (.ireturn, 1) := by decide +kernel
theorem dX6_init_0 : decode cX6_init 0 = .ok (.aload_n 0, 1) := by decide +kernel
theorem dX6_init_1 : decode cX6_init 1 = .ok (.invokespecial 3, 3) := by decide +kernel
theorem dX6_init_4 : decode cX6_init 4 = .ok (.aload_n 0, 1) := by decide +kernel
theorem dX6_init_5 : decode cX6_init 5 = .ok (.iconst 4, 1) := by decide +kernel
theorem dX6_init_6 : decode cX6_init 6 = .ok (.anewarray 11, 3) := by decide +kernel
theorem dX6_init_9 : decode cX6_init 9 = .ok (.putfield 13, 3) := by decide +kernel
theorem dX6_init_12 : decode cX6_init 12 = .ok (.aload_n 0, 1) := by decide +kernel
theorem dX6_init_13 : decode cX6_init 13 = .ok (.bipush 6, 2) := by decide +kernel
theorem dX6_init_15 : decode cX6_init 15 = .ok (.anewarray 17, 3) := by decide +kernel
theorem dX6_init_18 : decode cX6_init 18 = .ok (.putfield 19, 3) := by decide +kernel
theorem dX6_init_21 : decode cX6_init 21 = .ok (.aload_n 0, 1) := by decide +kernel
theorem dX6_init_22 : decode cX6_init 22 = .ok (.new 23, 3) := by decide +kernel
theorem dX6_init_25 : decode cX6_init 25 = .ok (.dup, 1) := by decide +kernel
theorem dX6_init_26 : decode cX6_init 26 = .ok (.invokespecial 25, 3) := by decide +kernel
theorem dX6_init_29 : decode cX6_init 29 = .ok (.putfield 26, 3) := by decide +kernel
theorem dX6_init_32 : decode cX6_init 32 = .ok (.aload_n 0, 1) := by decide +kernel
theorem dX6_init_33 : decode cX6_init 33 = .ok (.new 30, 3) := by decide +kernel
theorem dX6_init_36 : decode cX6_init 36 = .ok (.dup, 1) := by decide +kernel
theorem dX6_init_37 : decode cX6_init 37 = .ok (.invokespecial 32, 3) := by decide +kernel
theorem dX6_init_40 : decode cX6_init 40 = .ok (.putfield 33, 3) := by decide +kernel
theorem dX6_init_43 : decode cX6_init 43 = .ok (.aload_n 0, 1) := by decide +kernel
theorem dX6_init_44 : decode cX6_init 44 = .ok (.new 37, 3) := by decide +kernel
theorem dX6_init_47 : decode cX6_init 47 = .ok (.dup, 1) := by decide +kernel
theorem dX6_init_48 : decode cX6_init 48 = .ok (.invokespecial 39, 3) := by decide +kernel
theorem dX6_init_51 : decode cX6_init 51 = .ok (.putfield 40, 3) := by decide +kernel
theorem dX6_init_54 : decode cX6_init 54 = .ok (.aload_n 0, 1) := by decide +kernel
theorem dX6_init_55 : decode cX6_init 55 = .ok (.new 44, 3) := by decide +kernel
theorem dX6_init_58 : decode cX6_init 58 = .ok (.dup, 1) := by decide +kernel
theorem dX6_init_59 : decode cX6_init 59 = .ok (.invokespecial 46, 3) := by decide +kernel
theorem dX6_init_62 : decode cX6_init 62 = .ok (.putfield 47, 3) := by decide +kernel
theorem dX6_init_65 : decode cX6_init 65 = .ok (.aload_n 0, 1) := by decide +kernel
theorem dX6_init_66 : decode cX6_init 66 = .ok (.bipush 40, 2) := by decide +kernel
theorem dX6_init_68 : decode cX6_init 68 = .ok (.newarray .int, 2) := by decide +kernel
theorem dX6_init_70 : decode cX6_init 70 = .ok (.putfield 51, 3) := by decide +kernel
theorem dX6_init_73 : decode cX6_init 73 = .ok (.aload_n 0, 1) := by decide +kernel
theorem dX6_init_74 : decode cX6_init 74 = .ok (.iconst 0, 1) := by decide +kernel
theorem dX6_init_75 : decode cX6_init 75 = .ok (.putfield 55, 3) := by decide +kernel
theorem dX6_init_78 : decode cX6_init 78 = .ok (.aload_n 0, 1) := by decide +kernel
theorem dX6_init_79 : decode cX6_init 79 = .ok (.iconst 0, 1) := by decide +kernel
theorem dX6_init_80 : decode cX6_init 80 = .ok (.putfield 59, 3) := by decide +kernel
theorem dX6_init_83 : decode cX6_init 83 = .ok (.aload_n 0, 1) := by decide +kernel
theorem dX6_init_84 : decode cX6_init 84 = .ok (.iconst 0, 1) := by decide +kernel
theorem dX6_init_85 : decode cX6_init 85 = .ok (.putfield 62, 3) := by decide +kernel
theorem dX6_init_88 : decode cX6_init 88 = .ok (.iconst 0, 1) := by decide +kernel
theorem dX6_init_89 : decode cX6_init 89 = .ok (.istore_n 1, 1) := by decide +kernel
theorem dX6_init_90 : decode cX6_init 90 = .ok (.iload_n 1, 1) := by decide +kernel
theorem dX6_init_91 : decode cX6_init 91 = .ok (.iconst 4, 1) := by decide +kernel
theorem dX6_init_92 : decode cX6_init 92 = .ok (.if_icmp .ge 22, 3) := by decide +kernel
theorem dX6_init_95 : decode cX6_init 95 = .ok (.aload_n 0, 1) := by decide +kernel
theorem dX6_init_96 : decode cX6_init 96 = .ok (.getfield 13, 3) := by decide +kernel
theorem dX6_init_99 : decode cX6_init 99 = .ok (.iload_n 1, 1) := by decide +kernel
theorem dX6_init_100 : decode cX6_init 100 = .ok (.new 11, 3) := by decide +kernel
theorem dX6_init_103 : decode cX6_init 103 = .ok (.dup, 1) := by decide +kernel
theorem dX6_init_104 : decode cX6_init 104 = .ok (.invokespecial 65, 3) := by decide +kernel
theorem dX6_init_107 : decode cX6_init 107 = .ok (.aastore, 1) := by decide +kernel
theorem dX6_init_108 : decode cX6_init 108 = .ok (.iinc 1 1, 3) := by decide +kernel
theorem dX6_init_111 : decode cX6_init 111 = .ok (.goto (-21), 3) := by decide +kernel
theorem dX6_init_114 : decode cX6_init 114 = .ok (.iconst 0, 1) := by decide +kernel
theorem dX6_init_115 : decode cX6_init 115 = .ok (.istore_n 1, 1) := by decide +kernel
theorem dX6_init_116 : decode cX6_init 116 = .ok (.iload_n 1, 1) := by decide +kernel
theorem dX6_init_117 : decode cX6_init 117 = .ok (.bipush 6, 2) := by decide +kernel
theorem dX6_init_119 : decode cX6_init 119 = .ok (.if_icmp .ge 22, 3) := by decide +kernel
theorem dX6_init_122 : decode cX6_init 122 = .ok (.aload_n 0, 1) := by decide +kernel
theorem dX6_init_123 : decode cX6_init 123 = .ok (.getfield 19, 3) := by decide +kernel
theorem dX6_init_126 : decode cX6_init 126 = .ok (.iload_n 1, 1) := by decide +kernel
theorem dX6_init_127 : decode cX6_init 127 = .ok (.new 17, 3) := by decide +kernel
theorem dX6_init_130 : decode cX6_init 130 = .ok (.dup, 1) := by decide +kernel
theorem dX6_init_131 : decode cX6_init 131 = .ok (.invokespecial 66, 3) := by decide +kernel
theorem dX6_init_134 : decode cX6_init 134 = .ok (.aastore, 1) := by decide +kernel
theorem dX6_init_135 : decode cX6_init 135 = .ok (.iinc 1 1, 3) := by decide +kernel
theorem dX6_init_138 : decode cX6_init 138 = .ok (.goto (-22), 3) := by decide +kernel
theorem dX6_init_141 : decode cX6_init 141 = .ok (.return_, 1) := by decide +kernel
theorem dX6_counter_0 : decode cX6_counter 0 = .ok (.aload_n 0, 1) := by decide +kernel
theorem dX6_counter_1 : decode cX6_counter 1 = .ok (.iconst 0, 1) := by decide +kernel
theorem dX6_counter_2 : decode cX6_counter 2 = .ok (.putfield 62, 3) := by decide +kernel
theorem dX6_counter_5 : decode cX6_counter 5 = .ok (.iload_n 1, 1) := by decide +kernel
theorem dX6_counter_6 : decode cX6_counter 6 = .ok (.invokestatic 67, 3) := by decide +kernel
theorem dX6_counter_9 : decode cX6_counter 9 = .ok (.ifCond .ne 5, 3) := by decide +kernel
theorem dX6_counter_12 : decode cX6_counter 12 = .ok (.iconst (-1), 1) := by decide +kernel
theorem dX6_counter_13 : decode cX6_counter 13 = .ok (.ireturn, 1) := by decide +kernel
theorem dX6_counter_14 : decode cX6_counter 14 = .ok (.iload_n 2, 1) := by decide +kernel
theorem dX6_counter_15 : decode cX6_counter 15 = .ok (.invokestatic 71, 3) := by decide +kernel
theorem dX6_counter_18 : decode cX6_counter 18 = .ok (.ifCond .ne 6, 3) := by decide +kernel
theorem dX6_counter_21 : decode cX6_counter 21 = .ok (.bipush (-2), 2) := by decide +kernel
theorem dX6_counter_23 : decode cX6_counter 23 = .ok (.ireturn, 1) := by decide +kernel
theorem dX6_counter_24 : decode cX6_counter 24 = .ok (.aload_n 0, 1) := by decide +kernel
theorem dX6_counter_25 : decode cX6_counter 25 = .ok (.getfield 13, 3) := by decide +kernel
theorem dX6_counter_28 : decode cX6_counter 28 = .ok (.iload_n 1, 1) := by decide +kernel
theorem dX6_counter_29 : decode cX6_counter 29 = .ok (.aaload, 1) := by decide +kernel
theorem dX6_counter_30 : decode cX6_counter 30 = .ok (.astore 5, 2) := by decide +kernel
theorem dX6_counter_32 : decode cX6_counter 32 = .ok (.aload 5, 2) := by decide +kernel
theorem dX6_counter_34 : decode cX6_counter 34 = .ok (.iload_n 2, 1) := by decide +kernel
theorem dX6_counter_35 : decode cX6_counter 35 = .ok (.iload_n 3, 1) := by decide +kernel
theorem dX6_counter_36 : decode cX6_counter 36 = .ok (.iload 4, 2) := by decide +kernel
theorem dX6_counter_38 : decode cX6_counter 38 = .ok (.invokevirtual 74, 3) := by decide +kernel
theorem dX6_counter_41 : decode cX6_counter 41 = .ok (.istore 6, 2) := by decide +kernel
theorem dX6_counter_43 : decode cX6_counter 43 = .ok (.iload 6, 2) := by decide +kernel
theorem dX6_counter_45 : decode cX6_counter 45 = .ok (.ifCond .eq 10, 3) := by decide +kernel
theorem dX6_counter_48 : decode cX6_counter 48 = .ok (.aload_n 0, 1) := by decide +kernel
theorem dX6_counter_49 : decode cX6_counter 49 = .ok (.iload 6, 2) := by decide +kernel
theorem dX6_counter_51 : decode cX6_counter 51 = .ok (.invokevirtual 78, 3) := by decide +kernel
theorem dX6_counter_54 : decode cX6_counter 54 = .ok (.ireturn, 1) := by decide +kernel
theorem dX6_counter_55 : decode cX6_counter 55 = .ok (.aload 5, 2) := by decide +kernel
theorem dX6_counter_57 : decode cX6_counter 57 = .ok (.iload_n 3, 1) := by decide +kernel
theorem dX6_counter_58 : decode cX6_counter 58 = .ok (.iload 4, 2) := by decide +kernel
theorem dX6_counter_60 : decode cX6_counter 60 = .ok (.invokestatic 82, 3) := by decide +kernel
theorem dX6_counter_63 : decode cX6_counter 63 = .ok (.istore 7, 2) := by decide +kernel
theorem dX6_counter_65 : decode cX6_counter 65 = .ok (.iload 7, 2) := by decide +kernel
theorem dX6_counter_67 : decode cX6_counter 67 = .ok (.bipush (-9), 2) := by decide +kernel
theorem dX6_counter_69 : decode cX6_counter 69 = .ok (.if_icmp .eq 9, 3) := by decide +kernel
theorem dX6_counter_72 : decode cX6_counter 72 = .ok (.bipush (-100), 2) := by decide +kernel
theorem dX6_counter_74 : decode cX6_counter 74 = .ok (.iload 7, 2) := by decide +kernel
theorem dX6_counter_76 : decode cX6_counter 76 = .ok (.isub, 1) := by decide +kernel
theorem dX6_counter_77 : decode cX6_counter 77 = .ok (.ireturn, 1) := by decide +kernel
theorem dX6_counter_78 : decode cX6_counter 78 = .ok (.aload_n 0, 1) := by decide +kernel
theorem dX6_counter_79 : decode cX6_counter 79 = .ok (.iload 4, 2) := by decide +kernel
theorem dX6_counter_81 : decode cX6_counter 81 = .ok (.bipush 6, 2) := by decide +kernel
theorem dX6_counter_83 : decode cX6_counter 83 = .ok (.idiv, 1) := by decide +kernel
theorem dX6_counter_84 : decode cX6_counter 84 = .ok (.putfield 55, 3) := by decide +kernel
theorem dX6_counter_87 : decode cX6_counter 87 = .ok (.iconst 0, 1) := by decide +kernel
theorem dX6_counter_88 : decode cX6_counter 88 = .ok (.istore 8, 2) := by decide +kernel
theorem dX6_counter_90 : decode cX6_counter 90 = .ok (.iload 8, 2) := by decide +kernel
theorem dX6_counter_92 : decode cX6_counter 92 = .ok (.aload_n 0, 1) := by decide +kernel
theorem dX6_counter_93 : decode cX6_counter 93 = .ok (.getfield 55, 3) := by decide +kernel
theorem dX6_counter_96 : decode cX6_counter 96 = .ok (.if_icmp .ge 30, 3) := by decide +kernel
theorem dX6_counter_99 : decode cX6_counter 99 = .ok (.aload_n 0, 1) := by decide +kernel
theorem dX6_counter_100 : decode cX6_counter 100 = .ok (.getfield 19, 3) := by decide +kernel
theorem dX6_counter_103 : decode cX6_counter 103 = .ok (.iload 8, 2) := by decide +kernel
theorem dX6_counter_105 : decode cX6_counter 105 = .ok (.aaload, 1) := by decide +kernel
theorem dX6_counter_106 : decode cX6_counter 106 = .ok (.aload 5, 2) := by decide +kernel
theorem dX6_counter_108 : decode cX6_counter 108 = .ok (.iload_n 3, 1) := by decide +kernel
theorem dX6_counter_109 : decode cX6_counter 109 = .ok (.iconst 1, 1) := by decide +kernel
theorem dX6_counter_110 : decode cX6_counter 110 = .ok (.iadd, 1) := by decide +kernel
theorem dX6_counter_111 : decode cX6_counter 111 = .ok (.bipush 6, 2) := by decide +kernel
theorem dX6_counter_113 : decode cX6_counter 113 = .ok (.iload 8, 2) := by decide +kernel
theorem dX6_counter_115 : decode cX6_counter 115 = .ok (.imul, 1) := by decide +kernel
theorem dX6_counter_116 : decode cX6_counter 116 = .ok (.iadd, 1) := by decide +kernel
theorem dX6_counter_117 : decode cX6_counter 117 = .ok (.invokevirtual 86, 3) := by decide +kernel
theorem dX6_counter_120 : decode cX6_counter 120 = .ok (.iinc 8 1, 3) := by decide +kernel
theorem dX6_counter_123 : decode cX6_counter 123 = .ok (.goto (-33), 3) := by decide +kernel
theorem dX6_counter_126 : decode cX6_counter 126 = .ok (.aload_n 0, 1) := by decide +kernel
theorem dX6_counter_127 : decode cX6_counter 127 = .ok (.getfield 26, 3) := by decide +kernel
theorem dX6_counter_130 : decode cX6_counter 130 = .ok (.iconst 0, 1) := by decide +kernel
theorem dX6_counter_131 : decode cX6_counter 131 = .ok (.putfield 90, 3) := by decide +kernel
theorem dX6_counter_134 : decode cX6_counter 134 = .ok (.aload_n 0, 1) := by decide +kernel
theorem dX6_counter_135 : decode cX6_counter 135 = .ok (.getfield 55, 3) := by decide +kernel
theorem dX6_counter_138 : decode cX6_counter 138 = .ok (.ireturn, 1) := by decide +kernel
theorem dX6_ofPerson_0 : decode cX6_ofPerson 0 = .ok (.aload_n 0, 1) := by decide +kernel
theorem dX6_ofPerson_1 : decode cX6_ofPerson 1 = .ok (.iload_n 1, 1) := by decide +kernel
theorem dX6_ofPerson_2 : decode cX6_ofPerson 2 = .ok (.invokevirtual 93, 3) := by decide +kernel
theorem dX6_ofPerson_5 : decode cX6_ofPerson 5 = .ok (.ifCond .ne 5, 3) := by decide +kernel
theorem dX6_ofPerson_8 : decode cX6_ofPerson 8 = .ok (.iconst (-1), 1) := by decide +kernel
theorem dX6_ofPerson_9 : decode cX6_ofPerson 9 = .ok (.ireturn, 1) := by decide +kernel
theorem dX6_ofPerson_10 : decode cX6_ofPerson 10 = .ok (.aload_n 0, 1) := by decide +kernel
theorem dX6_ofPerson_11 : decode cX6_ofPerson 11 = .ok (.getfield 19, 3) := by decide +kernel
theorem dX6_ofPerson_14 : decode cX6_ofPerson 14 = .ok (.iload_n 1, 1) := by decide +kernel
theorem dX6_ofPerson_15 : decode cX6_ofPerson 15 = .ok (.aaload, 1) := by decide +kernel
theorem dX6_ofPerson_16 : decode cX6_ofPerson 16 = .ok (.astore_n 3, 1) := by decide +kernel
theorem dX6_ofPerson_17 : decode cX6_ofPerson 17 = .ok (.iload_n 2, 1) := by decide +kernel
theorem dX6_ofPerson_18 : decode cX6_ofPerson 18 = .ok (.tableswitch 59 0 4 #[34, 39, 44, 49, 54], 34) := by decide +kernel
theorem dX6_ofPerson_52 : decode cX6_ofPerson 52 = .ok (.aload_n 3, 1) := by decide +kernel
theorem dX6_ofPerson_53 : decode cX6_ofPerson 53 = .ok (.getfield 96, 3) := by decide +kernel
theorem dX6_ofPerson_56 : decode cX6_ofPerson 56 = .ok (.ireturn, 1) := by decide +kernel
theorem dX6_ofPerson_57 : decode cX6_ofPerson 57 = .ok (.aload_n 3, 1) := by decide +kernel
theorem dX6_ofPerson_58 : decode cX6_ofPerson 58 = .ok (.getfield 99, 3) := by decide +kernel
theorem dX6_ofPerson_61 : decode cX6_ofPerson 61 = .ok (.ireturn, 1) := by decide +kernel
theorem dX6_ofPerson_62 : decode cX6_ofPerson 62 = .ok (.aload_n 3, 1) := by decide +kernel
theorem dX6_ofPerson_63 : decode cX6_ofPerson 63 = .ok (.getfield 102, 3) := by decide +kernel
theorem dX6_ofPerson_66 : decode cX6_ofPerson 66 = .ok (.ireturn, 1) := by decide +kernel
theorem dX6_ofPerson_67 : decode cX6_ofPerson 67 = .ok (.aload_n 3, 1) := by decide +kernel
theorem dX6_ofPerson_68 : decode cX6_ofPerson 68 = .ok (.getfield 105, 3) := by decide +kernel
theorem dX6_ofPerson_71 : decode cX6_ofPerson 71 = .ok (.ireturn, 1) := by decide +kernel
theorem dX6_ofPerson_72 : decode cX6_ofPerson 72 = .ok (.aload_n 3, 1) := by decide +kernel
theorem dX6_ofPerson_73 : decode cX6_ofPerson 73 = .ok (.invokevirtual 108, 3) := by decide +kernel
theorem dX6_ofPerson_76 : decode cX6_ofPerson 76 = .ok (.ireturn, 1) := by decide +kernel
theorem dX6_ofPerson_77 : decode cX6_ofPerson 77 = .ok (.bipush (-2), 2) := by decide +kernel
theorem dX6_ofPerson_79 : decode cX6_ofPerson 79 = .ok (.ireturn, 1) := by decide +kernel
theorem dX6_live_0 : decode cX6_live 0 = .ok (.aload_n 0, 1) := by decide +kernel
theorem dX6_live_1 : decode cX6_live 1 = .ok (.iload_n 1, 1) := by decide +kernel
theorem dX6_live_2 : decode cX6_live 2 = .ok (.invokevirtual 93, 3) := by decide +kernel
theorem dX6_live_5 : decode cX6_live 5 = .ok (.ifCond .ne 5, 3) := by decide +kernel
theorem dX6_live_8 : decode cX6_live 8 = .ok (.iconst (-1), 1) := by decide +kernel
theorem dX6_live_9 : decode cX6_live 9 = .ok (.ireturn, 1) := by decide +kernel
theorem dX6_live_10 : decode cX6_live 10 = .ok (.iload_n 2, 1) := by decide +kernel
theorem dX6_live_11 : decode cX6_live 11 = .ok (.ifCond .lt 9, 3) := by decide +kernel
theorem dX6_live_14 : decode cX6_live 14 = .ok (.iload_n 2, 1) := by decide +kernel
theorem dX6_live_15 : decode cX6_live 15 = .ok (.bipush 64, 2) := by decide +kernel
theorem dX6_live_17 : decode cX6_live 17 = .ok (.if_icmp .lt 6, 3) := by decide +kernel
theorem dX6_live_20 : decode cX6_live 20 = .ok (.bipush (-2), 2) := by decide +kernel
theorem dX6_live_22 : decode cX6_live 22 = .ok (.ireturn, 1) := by decide +kernel
theorem dX6_live_23 : decode cX6_live 23 = .ok (.aload_n 0, 1) := by decide +kernel
theorem dX6_live_24 : decode cX6_live 24 = .ok (.getfield 19, 3) := by decide +kernel
theorem dX6_live_27 : decode cX6_live 27 = .ok (.iload_n 1, 1) := by decide +kernel
theorem dX6_live_28 : decode cX6_live 28 = .ok (.aaload, 1) := by decide +kernel
theorem dX6_live_29 : decode cX6_live 29 = .ok (.getfield 99, 3) := by decide +kernel
theorem dX6_live_32 : decode cX6_live 32 = .ok (.istore_n 3, 1) := by decide +kernel
theorem dX6_live_33 : decode cX6_live 33 = .ok (.aload_n 0, 1) := by decide +kernel
theorem dX6_live_34 : decode cX6_live 34 = .ok (.getfield 19, 3) := by decide +kernel
theorem dX6_live_37 : decode cX6_live 37 = .ok (.iload_n 1, 1) := by decide +kernel
theorem dX6_live_38 : decode cX6_live 38 = .ok (.aaload, 1) := by decide +kernel
theorem dX6_live_39 : decode cX6_live 39 = .ok (.iload_n 2, 1) := by decide +kernel
theorem dX6_live_40 : decode cX6_live 40 = .ok (.putfield 99, 3) := by decide +kernel
theorem dX6_live_43 : decode cX6_live 43 = .ok (.iload_n 3, 1) := by decide +kernel
theorem dX6_live_44 : decode cX6_live 44 = .ok (.ireturn, 1) := by decide +kernel
theorem dX6_want_0 : decode cX6_want 0 = .ok (.aload_n 0, 1) := by decide +kernel
theorem dX6_want_1 : decode cX6_want 1 = .ok (.iload_n 1, 1) := by decide +kernel
theorem dX6_want_2 : decode cX6_want 2 = .ok (.invokevirtual 93, 3) := by decide +kernel
theorem dX6_want_5 : decode cX6_want 5 = .ok (.ifCond .ne 5, 3) := by decide +kernel
theorem dX6_want_8 : decode cX6_want 8 = .ok (.iconst (-1), 1) := by decide +kernel
theorem dX6_want_9 : decode cX6_want 9 = .ok (.ireturn, 1) := by decide +kernel
theorem dX6_want_10 : decode cX6_want 10 = .ok (.iload_n 2, 1) := by decide +kernel
theorem dX6_want_11 : decode cX6_want 11 = .ok (.ifCond .lt 9, 3) := by decide +kernel
theorem dX6_want_14 : decode cX6_want 14 = .ok (.iload_n 2, 1) := by decide +kernel
theorem dX6_want_15 : decode cX6_want 15 = .ok (.bipush 6, 2) := by decide +kernel
theorem dX6_want_17 : decode cX6_want 17 = .ok (.if_icmp .le 6, 3) := by decide +kernel
theorem dX6_want_20 : decode cX6_want 20 = .ok (.bipush (-2), 2) := by decide +kernel
theorem dX6_want_22 : decode cX6_want 22 = .ok (.ireturn, 1) := by decide +kernel
theorem dX6_want_23 : decode cX6_want 23 = .ok (.aload_n 0, 1) := by decide +kernel
theorem dX6_want_24 : decode cX6_want 24 = .ok (.getfield 19, 3) := by decide +kernel
theorem dX6_want_27 : decode cX6_want 27 = .ok (.iload_n 1, 1) := by decide +kernel
theorem dX6_want_28 : decode cX6_want 28 = .ok (.aaload, 1) := by decide +kernel
theorem dX6_want_29 : decode cX6_want 29 = .ok (.getfield 102, 3) := by decide +kernel
theorem dX6_want_32 : decode cX6_want 32 = .ok (.istore_n 3, 1) := by decide +kernel
theorem dX6_want_33 : decode cX6_want 33 = .ok (.aload_n 0, 1) := by decide +kernel
theorem dX6_want_34 : decode cX6_want 34 = .ok (.getfield 19, 3) := by decide +kernel
theorem dX6_want_37 : decode cX6_want 37 = .ok (.iload_n 1, 1) := by decide +kernel
theorem dX6_want_38 : decode cX6_want 38 = .ok (.aaload, 1) := by decide +kernel
theorem dX6_want_39 : decode cX6_want 39 = .ok (.iload_n 2, 1) := by decide +kernel
theorem dX6_want_40 : decode cX6_want 40 = .ok (.putfield 102, 3) := by decide +kernel
theorem dX6_want_43 : decode cX6_want 43 = .ok (.iload_n 3, 1) := by decide +kernel
theorem dX6_want_44 : decode cX6_want 44 = .ok (.ireturn, 1) := by decide +kernel
theorem dX6_loans_0 : decode cX6_loans 0 = .ok (.aload_n 0, 1) := by decide +kernel
theorem dX6_loans_1 : decode cX6_loans 1 = .ok (.iconst 0, 1) := by decide +kernel
theorem dX6_loans_2 : decode cX6_loans 2 = .ok (.putfield 62, 3) := by decide +kernel
theorem dX6_loans_5 : decode cX6_loans 5 = .ok (.iload_n 1, 1) := by decide +kernel
theorem dX6_loans_6 : decode cX6_loans 6 = .ok (.invokestatic 67, 3) := by decide +kernel
theorem dX6_loans_9 : decode cX6_loans 9 = .ok (.ifCond .ne 5, 3) := by decide +kernel
theorem dX6_loans_12 : decode cX6_loans 12 = .ok (.iconst (-1), 1) := by decide +kernel
theorem dX6_loans_13 : decode cX6_loans 13 = .ok (.ireturn, 1) := by decide +kernel
theorem dX6_loans_14 : decode cX6_loans 14 = .ok (.iload_n 2, 1) := by decide +kernel
theorem dX6_loans_15 : decode cX6_loans 15 = .ok (.invokestatic 71, 3) := by decide +kernel
theorem dX6_loans_18 : decode cX6_loans 18 = .ok (.ifCond .eq 19, 3) := by decide +kernel
theorem dX6_loans_21 : decode cX6_loans 21 = .ok (.iload 4, 2) := by decide +kernel
theorem dX6_loans_23 : decode cX6_loans 23 = .ok (.invokestatic 112, 3) := by decide +kernel
theorem dX6_loans_26 : decode cX6_loans 26 = .ok (.ifCond .eq 11, 3) := by decide +kernel
theorem dX6_loans_29 : decode cX6_loans 29 = .ok (.iload 5, 2) := by decide +kernel
theorem dX6_loans_31 : decode cX6_loans 31 = .ok (.invokestatic 115, 3) := by decide +kernel
theorem dX6_loans_34 : decode cX6_loans 34 = .ok (.ifCond .ne 6, 3) := by decide +kernel
theorem dX6_loans_37 : decode cX6_loans 37 = .ok (.bipush (-2), 2) := by decide +kernel
theorem dX6_loans_39 : decode cX6_loans 39 = .ok (.ireturn, 1) := by decide +kernel
theorem dX6_loans_40 : decode cX6_loans 40 = .ok (.aload_n 0, 1) := by decide +kernel
theorem dX6_loans_41 : decode cX6_loans 41 = .ok (.getfield 55, 3) := by decide +kernel
theorem dX6_loans_44 : decode cX6_loans 44 = .ok (.ifCond .ne 6, 3) := by decide +kernel
theorem dX6_loans_47 : decode cX6_loans 47 = .ok (.bipush (-3), 2) := by decide +kernel
theorem dX6_loans_49 : decode cX6_loans 49 = .ok (.ireturn, 1) := by decide +kernel
theorem dX6_loans_50 : decode cX6_loans 50 = .ok (.aload_n 0, 1) := by decide +kernel
theorem dX6_loans_51 : decode cX6_loans 51 = .ok (.iload_n 1, 1) := by decide +kernel
theorem dX6_loans_52 : decode cX6_loans 52 = .ok (.iload_n 2, 1) := by decide +kernel
theorem dX6_loans_53 : decode cX6_loans 53 = .ok (.iload_n 3, 1) := by decide +kernel
theorem dX6_loans_54 : decode cX6_loans 54 = .ok (.iload 4, 2) := by decide +kernel
theorem dX6_loans_56 : decode cX6_loans 56 = .ok (.invokevirtual 118, 3) := by decide +kernel
theorem dX6_loans_59 : decode cX6_loans 59 = .ok (.istore 6, 2) := by decide +kernel
theorem dX6_loans_61 : decode cX6_loans 61 = .ok (.iload 6, 2) := by decide +kernel
theorem dX6_loans_63 : decode cX6_loans 63 = .ok (.ifCond .eq 6, 3) := by decide +kernel
theorem dX6_loans_66 : decode cX6_loans 66 = .ok (.iload 6, 2) := by decide +kernel
theorem dX6_loans_68 : decode cX6_loans 68 = .ok (.ireturn, 1) := by decide +kernel
theorem dX6_loans_69 : decode cX6_loans 69 = .ok (.aload_n 0, 1) := by decide +kernel
theorem dX6_loans_70 : decode cX6_loans 70 = .ok (.getfield 33, 3) := by decide +kernel
theorem dX6_loans_73 : decode cX6_loans 73 = .ok (.aload_n 0, 1) := by decide +kernel
theorem dX6_loans_74 : decode cX6_loans 74 = .ok (.getfield 19, 3) := by decide +kernel
theorem dX6_loans_77 : decode cX6_loans 77 = .ok (.aload_n 0, 1) := by decide +kernel
theorem dX6_loans_78 : decode cX6_loans 78 = .ok (.getfield 55, 3) := by decide +kernel
theorem dX6_loans_81 : decode cX6_loans 81 = .ok (.invokevirtual 122, 3) := by decide +kernel
theorem dX6_loans_84 : decode cX6_loans 84 = .ok (.aload_n 0, 1) := by decide +kernel
theorem dX6_loans_85 : decode cX6_loans 85 = .ok (.getfield 33, 3) := by decide +kernel
theorem dX6_loans_88 : decode cX6_loans 88 = .ok (.aload_n 0, 1) := by decide +kernel
theorem dX6_loans_89 : decode cX6_loans 89 = .ok (.getfield 51, 3) := by decide +kernel
theorem dX6_loans_92 : decode cX6_loans 92 = .ok (.iload 4, 2) := by decide +kernel
theorem dX6_loans_94 : decode cX6_loans 94 = .ok (.invokevirtual 126, 3) := by decide +kernel
theorem dX6_loans_97 : decode cX6_loans 97 = .ok (.istore 7, 2) := by decide +kernel
theorem dX6_loans_99 : decode cX6_loans 99 = .ok (.iload 5, 2) := by decide +kernel
theorem dX6_loans_101 : decode cX6_loans 101 = .ok (.iconst 1, 1) := by decide +kernel
theorem dX6_loans_102 : decode cX6_loans 102 = .ok (.if_icmp .ne 6, 3) := by decide +kernel
theorem dX6_loans_105 : decode cX6_loans 105 = .ok (.iload 7, 2) := by decide +kernel
theorem dX6_loans_107 : decode cX6_loans 107 = .ok (.ireturn, 1) := by decide +kernel
theorem dX6_loans_108 : decode cX6_loans 108 = .ok (.iload 7, 2) := by decide +kernel
theorem dX6_loans_110 : decode cX6_loans 110 = .ok (.bipush (-9), 2) := by decide +kernel
theorem dX6_loans_112 : decode cX6_loans 112 = .ok (.if_icmp .ne 14, 3) := by decide +kernel
theorem dX6_loans_115 : decode cX6_loans 115 = .ok (.aload_n 0, 1) := by decide +kernel
theorem dX6_loans_116 : decode cX6_loans 116 = .ok (.iload 4, 2) := by decide +kernel
theorem dX6_loans_118 : decode cX6_loans 118 = .ok (.iload 5, 2) := by decide +kernel
theorem dX6_loans_120 : decode cX6_loans 120 = .ok (.invokevirtual 130, 3) := by decide +kernel
theorem dX6_loans_123 : decode cX6_loans 123 = .ok (.goto 8, 3) := by decide +kernel
theorem dX6_loans_126 : decode cX6_loans 126 = .ok (.bipush (-100), 2) := by decide +kernel
theorem dX6_loans_128 : decode cX6_loans 128 = .ok (.iload 7, 2) := by decide +kernel
theorem dX6_loans_130 : decode cX6_loans 130 = .ok (.isub, 1) := by decide +kernel
theorem dX6_loans_131 : decode cX6_loans 131 = .ok (.ireturn, 1) := by decide +kernel
theorem dX6_answerOfLoans_0 : decode cX6_answerOfLoans 0 = .ok (.iload_n 2, 1) := by decide +kernel
theorem dX6_answerOfLoans_1 : decode cX6_answerOfLoans 1 = .ok (.tableswitch 75 0 3 #[31, 75, 39, 67], 31) := by decide +kernel
theorem dX6_answerOfLoans_32 : decode cX6_answerOfLoans 32 = .ok (.aload_n 0, 1) := by decide +kernel
theorem dX6_answerOfLoans_33 : decode cX6_answerOfLoans 33 = .ok (.getfield 33, 3) := by decide +kernel
theorem dX6_answerOfLoans_36 : decode cX6_answerOfLoans 36 = .ok (.invokevirtual 134, 3) := by decide +kernel
theorem dX6_answerOfLoans_39 : decode cX6_answerOfLoans 39 = .ok (.ireturn, 1) := by decide +kernel
theorem dX6_answerOfLoans_40 : decode cX6_answerOfLoans 40 = .ok (.aload_n 0, 1) := by decide +kernel
theorem dX6_answerOfLoans_41 : decode cX6_answerOfLoans 41 = .ok (.getfield 33, 3) := by decide +kernel
theorem dX6_answerOfLoans_44 : decode cX6_answerOfLoans 44 = .ok (.aload_n 0, 1) := by decide +kernel
theorem dX6_answerOfLoans_45 : decode cX6_answerOfLoans 45 = .ok (.getfield 19, 3) := by decide +kernel
theorem dX6_answerOfLoans_48 : decode cX6_answerOfLoans 48 = .ok (.aload_n 0, 1) := by decide +kernel
theorem dX6_answerOfLoans_49 : decode cX6_answerOfLoans 49 = .ok (.getfield 55, 3) := by decide +kernel
theorem dX6_answerOfLoans_52 : decode cX6_answerOfLoans 52 = .ok (.invokevirtual 122, 3) := by decide +kernel
theorem dX6_answerOfLoans_55 : decode cX6_answerOfLoans 55 = .ok (.aload_n 0, 1) := by decide +kernel
theorem dX6_answerOfLoans_56 : decode cX6_answerOfLoans 56 = .ok (.getfield 33, 3) := by decide +kernel
theorem dX6_answerOfLoans_59 : decode cX6_answerOfLoans 59 = .ok (.aload_n 0, 1) := by decide +kernel
theorem dX6_answerOfLoans_60 : decode cX6_answerOfLoans 60 = .ok (.getfield 51, 3) := by decide +kernel
theorem dX6_answerOfLoans_63 : decode cX6_answerOfLoans 63 = .ok (.iload_n 1, 1) := by decide +kernel
theorem dX6_answerOfLoans_64 : decode cX6_answerOfLoans 64 = .ok (.invokevirtual 137, 3) := by decide +kernel
theorem dX6_answerOfLoans_67 : decode cX6_answerOfLoans 67 = .ok (.ireturn, 1) := by decide +kernel
theorem dX6_answerOfLoans_68 : decode cX6_answerOfLoans 68 = .ok (.aload_n 0, 1) := by decide +kernel
theorem dX6_answerOfLoans_69 : decode cX6_answerOfLoans 69 = .ok (.getfield 33, 3) := by decide +kernel
theorem dX6_answerOfLoans_72 : decode cX6_answerOfLoans 72 = .ok (.invokevirtual 140, 3) := by decide +kernel
theorem dX6_answerOfLoans_75 : decode cX6_answerOfLoans 75 = .ok (.ireturn, 1) := by decide +kernel
theorem dX6_answerOfLoans_76 : decode cX6_answerOfLoans 76 = .ok (.aload_n 0, 1) := by decide +kernel
theorem dX6_answerOfLoans_77 : decode cX6_answerOfLoans 77 = .ok (.iload_n 2, 1) := by decide +kernel
theorem dX6_answerOfLoans_78 : decode cX6_answerOfLoans 78 = .ok (.bipush 10, 2) := by decide +kernel
theorem dX6_answerOfLoans_80 : decode cX6_answerOfLoans 80 = .ok (.idiv, 1) := by decide +kernel
theorem dX6_answerOfLoans_81 : decode cX6_answerOfLoans 81 = .ok (.iload_n 2, 1) := by decide +kernel
theorem dX6_answerOfLoans_82 : decode cX6_answerOfLoans 82 = .ok (.bipush 10, 2) := by decide +kernel
theorem dX6_answerOfLoans_84 : decode cX6_answerOfLoans 84 = .ok (.irem, 1) := by decide +kernel
theorem dX6_answerOfLoans_85 : decode cX6_answerOfLoans 85 = .ok (.invokevirtual 143, 3) := by decide +kernel
theorem dX6_answerOfLoans_88 : decode cX6_answerOfLoans 88 = .ok (.ireturn, 1) := by decide +kernel
theorem dX6_answerOfOne_0 : decode cX6_answerOfOne 0 = .ok (.aload_n 0, 1) := by decide +kernel
theorem dX6_answerOfOne_1 : decode cX6_answerOfOne 1 = .ok (.iload_n 2, 1) := by decide +kernel
theorem dX6_answerOfOne_2 : decode cX6_answerOfOne 2 = .ok (.invokevirtual 93, 3) := by decide +kernel
theorem dX6_answerOfOne_5 : decode cX6_answerOfOne 5 = .ok (.ifCond .ne 6, 3) := by decide +kernel
theorem dX6_answerOfOne_8 : decode cX6_answerOfOne 8 = .ok (.bipush (-9), 2) := by decide +kernel
theorem dX6_answerOfOne_10 : decode cX6_answerOfOne 10 = .ok (.ireturn, 1) := by decide +kernel
theorem dX6_answerOfOne_11 : decode cX6_answerOfOne 11 = .ok (.iload_n 1, 1) := by decide +kernel
theorem dX6_answerOfOne_12 : decode cX6_answerOfOne 12 = .ok (.lookupswitch 48 #[(1, 28), (2, 38)], 28) := by decide +kernel
theorem dX6_answerOfOne_40 : decode cX6_answerOfOne 40 = .ok (.aload_n 0, 1) := by decide +kernel
theorem dX6_answerOfOne_41 : decode cX6_answerOfOne 41 = .ok (.getfield 33, 3) := by decide +kernel
theorem dX6_answerOfOne_44 : decode cX6_answerOfOne 44 = .ok (.getfield 146, 3) := by decide +kernel
theorem dX6_answerOfOne_47 : decode cX6_answerOfOne 47 = .ok (.iload_n 2, 1) := by decide +kernel
theorem dX6_answerOfOne_48 : decode cX6_answerOfOne 48 = .ok (.iaload, 1) := by decide +kernel
theorem dX6_answerOfOne_49 : decode cX6_answerOfOne 49 = .ok (.ireturn, 1) := by decide +kernel
theorem dX6_answerOfOne_50 : decode cX6_answerOfOne 50 = .ok (.aload_n 0, 1) := by decide +kernel
theorem dX6_answerOfOne_51 : decode cX6_answerOfOne 51 = .ok (.getfield 33, 3) := by decide +kernel
theorem dX6_answerOfOne_54 : decode cX6_answerOfOne 54 = .ok (.getfield 149, 3) := by decide +kernel
theorem dX6_answerOfOne_57 : decode cX6_answerOfOne 57 = .ok (.iload_n 2, 1) := by decide +kernel
theorem dX6_answerOfOne_58 : decode cX6_answerOfOne 58 = .ok (.iaload, 1) := by decide +kernel
theorem dX6_answerOfOne_59 : decode cX6_answerOfOne 59 = .ok (.ireturn, 1) := by decide +kernel
theorem dX6_answerOfOne_60 : decode cX6_answerOfOne 60 = .ok (.aload_n 0, 1) := by decide +kernel
theorem dX6_answerOfOne_61 : decode cX6_answerOfOne 61 = .ok (.getfield 33, 3) := by decide +kernel
theorem dX6_answerOfOne_64 : decode cX6_answerOfOne 64 = .ok (.getfield 152, 3) := by decide +kernel
theorem dX6_answerOfOne_67 : decode cX6_answerOfOne 67 = .ok (.iload_n 2, 1) := by decide +kernel
theorem dX6_answerOfOne_68 : decode cX6_answerOfOne 68 = .ok (.iaload, 1) := by decide +kernel
theorem dX6_answerOfOne_69 : decode cX6_answerOfOne 69 = .ok (.ireturn, 1) := by decide +kernel
theorem dX6_fewest_0 : decode cX6_fewest 0 = .ok (.aload_n 0, 1) := by decide +kernel
theorem dX6_fewest_1 : decode cX6_fewest 1 = .ok (.getfield 55, 3) := by decide +kernel
theorem dX6_fewest_4 : decode cX6_fewest 4 = .ok (.ifCond .ne 6, 3) := by decide +kernel
theorem dX6_fewest_7 : decode cX6_fewest 7 = .ok (.bipush (-3), 2) := by decide +kernel
theorem dX6_fewest_9 : decode cX6_fewest 9 = .ok (.ireturn, 1) := by decide +kernel
theorem dX6_fewest_10 : decode cX6_fewest 10 = .ok (.iload_n 2, 1) := by decide +kernel
theorem dX6_fewest_11 : decode cX6_fewest 11 = .ok (.iconst (-1), 1) := by decide +kernel
theorem dX6_fewest_12 : decode cX6_fewest 12 = .ok (.if_icmp .lt 22, 3) := by decide +kernel
theorem dX6_fewest_15 : decode cX6_fewest 15 = .ok (.iload_n 2, 1) := by decide +kernel
theorem dX6_fewest_16 : decode cX6_fewest 16 = .ok (.iconst 3, 1) := by decide +kernel
theorem dX6_fewest_17 : decode cX6_fewest 17 = .ok (.if_icmp .ge 17, 3) := by decide +kernel
theorem dX6_fewest_20 : decode cX6_fewest 20 = .ok (.iload_n 1, 1) := by decide +kernel
theorem dX6_fewest_21 : decode cX6_fewest 21 = .ok (.ifCond .lt 13, 3) := by decide +kernel
theorem dX6_fewest_24 : decode cX6_fewest 24 = .ok (.iload_n 1, 1) := by decide +kernel
theorem dX6_fewest_25 : decode cX6_fewest 25 = .ok (.iconst 1, 1) := by decide +kernel
theorem dX6_fewest_26 : decode cX6_fewest 26 = .ok (.aload_n 0, 1) := by decide +kernel
theorem dX6_fewest_27 : decode cX6_fewest 27 = .ok (.getfield 55, 3) := by decide +kernel
theorem dX6_fewest_30 : decode cX6_fewest 30 = .ok (.ishl, 1) := by decide +kernel
theorem dX6_fewest_31 : decode cX6_fewest 31 = .ok (.if_icmp .lt 6, 3) := by decide +kernel
theorem dX6_fewest_34 : decode cX6_fewest 34 = .ok (.bipush (-2), 2) := by decide +kernel
theorem dX6_fewest_36 : decode cX6_fewest 36 = .ok (.ireturn, 1) := by decide +kernel
theorem dX6_fewest_37 : decode cX6_fewest 37 = .ok (.aload_n 0, 1) := by decide +kernel
theorem dX6_fewest_38 : decode cX6_fewest 38 = .ok (.getfield 40, 3) := by decide +kernel
theorem dX6_fewest_41 : decode cX6_fewest 41 = .ok (.aload_n 0, 1) := by decide +kernel
theorem dX6_fewest_42 : decode cX6_fewest 42 = .ok (.getfield 19, 3) := by decide +kernel
theorem dX6_fewest_45 : decode cX6_fewest 45 = .ok (.aload_n 0, 1) := by decide +kernel
theorem dX6_fewest_46 : decode cX6_fewest 46 = .ok (.getfield 55, 3) := by decide +kernel
theorem dX6_fewest_49 : decode cX6_fewest 49 = .ok (.iload_n 1, 1) := by decide +kernel
theorem dX6_fewest_50 : decode cX6_fewest 50 = .ok (.invokevirtual 155, 3) := by decide +kernel
theorem dX6_fewest_53 : decode cX6_fewest 53 = .ok (.istore_n 3, 1) := by decide +kernel
theorem dX6_fewest_54 : decode cX6_fewest 54 = .ok (.iload_n 2, 1) := by decide +kernel
theorem dX6_fewest_55 : decode cX6_fewest 55 = .ok (.iconst (-1), 1) := by decide +kernel
theorem dX6_fewest_56 : decode cX6_fewest 56 = .ok (.if_icmp .ne 5, 3) := by decide +kernel
theorem dX6_fewest_59 : decode cX6_fewest 59 = .ok (.iload_n 3, 1) := by decide +kernel
theorem dX6_fewest_60 : decode cX6_fewest 60 = .ok (.ireturn, 1) := by decide +kernel
theorem dX6_fewest_61 : decode cX6_fewest 61 = .ok (.iload_n 2, 1) := by decide +kernel
theorem dX6_fewest_62 : decode cX6_fewest 62 = .ok (.iload_n 3, 1) := by decide +kernel
theorem dX6_fewest_63 : decode cX6_fewest 63 = .ok (.if_icmp .ge 14, 3) := by decide +kernel
theorem dX6_fewest_66 : decode cX6_fewest 66 = .ok (.aload_n 0, 1) := by decide +kernel
theorem dX6_fewest_67 : decode cX6_fewest 67 = .ok (.getfield 40, 3) := by decide +kernel
theorem dX6_fewest_70 : decode cX6_fewest 70 = .ok (.iload_n 2, 1) := by decide +kernel
theorem dX6_fewest_71 : decode cX6_fewest 71 = .ok (.invokevirtual 159, 3) := by decide +kernel
theorem dX6_fewest_74 : decode cX6_fewest 74 = .ok (.goto 5, 3) := by decide +kernel
theorem dX6_fewest_77 : decode cX6_fewest 77 = .ok (.bipush (-9), 2) := by decide +kernel
theorem dX6_fewest_79 : decode cX6_fewest 79 = .ok (.ireturn, 1) := by decide +kernel
theorem dX6_match_0 : decode cX6_match 0 = .ok (.iload_n 1, 1) := by decide +kernel
theorem dX6_match_1 : decode cX6_match 1 = .ok (.iconst (-1), 1) := by decide +kernel
theorem dX6_match_2 : decode cX6_match 2 = .ok (.if_icmp .ge 5, 3) := by decide +kernel
theorem dX6_match_5 : decode cX6_match 5 = .ok (.iconst (-1), 1) := by decide +kernel
theorem dX6_match_6 : decode cX6_match 6 = .ok (.ireturn, 1) := by decide +kernel
theorem dX6_match_7 : decode cX6_match 7 = .ok (.aload_n 0, 1) := by decide +kernel
theorem dX6_match_8 : decode cX6_match 8 = .ok (.getfield 55, 3) := by decide +kernel
theorem dX6_match_11 : decode cX6_match 11 = .ok (.ifCond .ne 6, 3) := by decide +kernel
theorem dX6_match_14 : decode cX6_match 14 = .ok (.bipush (-3), 2) := by decide +kernel
theorem dX6_match_16 : decode cX6_match 16 = .ok (.ireturn, 1) := by decide +kernel
theorem dX6_match_17 : decode cX6_match 17 = .ok (.aload_n 0, 1) := by decide +kernel
theorem dX6_match_18 : decode cX6_match 18 = .ok (.getfield 47, 3) := by decide +kernel
theorem dX6_match_21 : decode cX6_match 21 = .ok (.aload_n 0, 1) := by decide +kernel
theorem dX6_match_22 : decode cX6_match 22 = .ok (.getfield 19, 3) := by decide +kernel
theorem dX6_match_25 : decode cX6_match 25 = .ok (.aload_n 0, 1) := by decide +kernel
theorem dX6_match_26 : decode cX6_match 26 = .ok (.getfield 55, 3) := by decide +kernel
theorem dX6_match_29 : decode cX6_match 29 = .ok (.invokevirtual 162, 3) := by decide +kernel
theorem dX6_match_32 : decode cX6_match 32 = .ok (.iload_n 1, 1) := by decide +kernel
theorem dX6_match_33 : decode cX6_match 33 = .ok (.iconst (-1), 1) := by decide +kernel
theorem dX6_match_34 : decode cX6_match 34 = .ok (.if_icmp .ne 11, 3) := by decide +kernel
theorem dX6_match_37 : decode cX6_match 37 = .ok (.aload_n 0, 1) := by decide +kernel
theorem dX6_match_38 : decode cX6_match 38 = .ok (.getfield 47, 3) := by decide +kernel
theorem dX6_match_41 : decode cX6_match 41 = .ok (.invokevirtual 165, 3) := by decide +kernel
theorem dX6_match_44 : decode cX6_match 44 = .ok (.ireturn, 1) := by decide +kernel
theorem dX6_match_45 : decode cX6_match 45 = .ok (.aload_n 0, 1) := by decide +kernel
theorem dX6_match_46 : decode cX6_match 46 = .ok (.iload_n 1, 1) := by decide +kernel
theorem dX6_match_47 : decode cX6_match 47 = .ok (.invokevirtual 93, 3) := by decide +kernel
theorem dX6_match_50 : decode cX6_match 50 = .ok (.ifCond .eq 15, 3) := by decide +kernel
theorem dX6_match_53 : decode cX6_match 53 = .ok (.aload_n 0, 1) := by decide +kernel
theorem dX6_match_54 : decode cX6_match 54 = .ok (.getfield 47, 3) := by decide +kernel
theorem dX6_match_57 : decode cX6_match 57 = .ok (.getfield 168, 3) := by decide +kernel
theorem dX6_match_60 : decode cX6_match 60 = .ok (.iload_n 1, 1) := by decide +kernel
theorem dX6_match_61 : decode cX6_match 61 = .ok (.iaload, 1) := by decide +kernel
theorem dX6_match_62 : decode cX6_match 62 = .ok (.goto 5, 3) := by decide +kernel
theorem dX6_match_65 : decode cX6_match 65 = .ok (.bipush (-9), 2) := by decide +kernel
theorem dX6_match_67 : decode cX6_match 67 = .ok (.ireturn, 1) := by decide +kernel
theorem dX6_help_0 : decode cX6_help 0 = .ok (.aload_n 0, 1) := by decide +kernel
theorem dX6_help_1 : decode cX6_help 1 = .ok (.iload_n 1, 1) := by decide +kernel
theorem dX6_help_2 : decode cX6_help 2 = .ok (.invokevirtual 93, 3) := by decide +kernel
theorem dX6_help_5 : decode cX6_help 5 = .ok (.ifCond .ne 5, 3) := by decide +kernel
theorem dX6_help_8 : decode cX6_help 8 = .ok (.iconst (-1), 1) := by decide +kernel
theorem dX6_help_9 : decode cX6_help 9 = .ok (.ireturn, 1) := by decide +kernel
theorem dX6_help_10 : decode cX6_help 10 = .ok (.iconst 0, 1) := by decide +kernel
theorem dX6_help_11 : decode cX6_help 11 = .ok (.istore_n 2, 1) := by decide +kernel
theorem dX6_help_12 : decode cX6_help 12 = .ok (.iconst 0, 1) := by decide +kernel
theorem dX6_help_13 : decode cX6_help 13 = .ok (.istore_n 3, 1) := by decide +kernel
theorem dX6_help_14 : decode cX6_help 14 = .ok (.iload_n 3, 1) := by decide +kernel
theorem dX6_help_15 : decode cX6_help 15 = .ok (.aload_n 0, 1) := by decide +kernel
theorem dX6_help_16 : decode cX6_help 16 = .ok (.getfield 55, 3) := by decide +kernel
theorem dX6_help_19 : decode cX6_help 19 = .ok (.if_icmp .ge 50, 3) := by decide +kernel
theorem dX6_help_22 : decode cX6_help 22 = .ok (.aload_n 0, 1) := by decide +kernel
