theorem dX4_init_20 : decode mX4_init.2.1 20 = .ok (.putfield 19, 3) := by decide +kernel
theorem dX4_init_23 : decode mX4_init.2.1 23 = .ok (.aload_n 0, 1) := by decide +kernel
theorem dX4_init_24 : decode mX4_init.2.1 24 = .ok (.iconst (-1), 1) := by decide +kernel
theorem dX4_init_25 : decode mX4_init.2.1 25 = .ok (.putfield 22, 3) := by decide +kernel
theorem dX4_init_28 : decode mX4_init.2.1 28 = .ok (.aload_n 0, 1) := by decide +kernel
theorem dX4_init_29 : decode mX4_init.2.1 29 = .ok (.iconst 0, 1) := by decide +kernel
theorem dX4_init_30 : decode mX4_init.2.1 30 = .ok (.putfield 25, 3) := by decide +kernel
theorem dX4_init_33 : decode mX4_init.2.1 33 = .ok (.aload_n 0, 1) := by decide +kernel
theorem dX4_init_34 : decode mX4_init.2.1 34 = .ok (.iconst 0, 1) := by decide +kernel
theorem dX4_init_35 : decode mX4_init.2.1 35 = .ok (.putfield 28, 3) := by decide +kernel
theorem dX4_init_38 : decode mX4_init.2.1 38 = .ok (.aload_n 0, 1) := by decide +kernel
theorem dX4_init_39 : decode mX4_init.2.1 39 = .ok (.iconst 1, 1) := by decide +kernel
theorem dX4_init_40 : decode mX4_init.2.1 40 = .ok (.putfield 31, 3) := by decide +kernel
theorem dX4_init_43 : decode mX4_init.2.1 43 = .ok (.aload_n 0, 1) := by decide +kernel
theorem dX4_init_44 : decode mX4_init.2.1 44 = .ok (.iconst 0, 1) := by decide +kernel
theorem dX4_init_45 : decode mX4_init.2.1 45 = .ok (.putfield 34, 3) := by decide +kernel
theorem dX4_init_48 : decode mX4_init.2.1 48 = .ok (.aload_n 0, 1) := by decide +kernel
theorem dX4_init_49 : decode mX4_init.2.1 49 = .ok (.lconst 0, 1) := by decide +kernel
theorem dX4_init_50 : decode mX4_init.2.1 50 = .ok (.putfield 37, 3) := by decide +kernel
theorem dX4_init_53 : decode mX4_init.2.1 53 = .ok (.aload_n 0, 1) := by decide +kernel
theorem dX4_init_54 : decode mX4_init.2.1 54 = .ok (.iconst 0, 1) := by decide +kernel
theorem dX4_init_55 : decode mX4_init.2.1 55 = .ok (.putfield 41, 3) := by decide +kernel
theorem dX4_init_58 : decode mX4_init.2.1 58 = .ok (.aload_n 0, 1) := by decide +kernel
theorem dX4_init_59 : decode mX4_init.2.1 59 = .ok (.iconst 0, 1) := by decide +kernel
theorem dX4_init_60 : decode mX4_init.2.1 60 = .ok (.putfield 44, 3) := by decide +kernel
theorem dX4_init_63 : decode mX4_init.2.1 63 = .ok (.aload_n 0, 1) := by decide +kernel
theorem dX4_init_64 : decode mX4_init.2.1 64 = .ok (.iconst 0, 1) := by decide +kernel
theorem dX4_init_65 : decode mX4_init.2.1 65 = .ok (.putfield 47, 3) := by decide +kernel
theorem dX4_init_68 : decode mX4_init.2.1 68 = .ok (.aload_n 0, 1) := by decide +kernel
theorem dX4_init_69 : decode mX4_init.2.1 69 = .ok (.iconst 3, 1) := by decide +kernel
theorem dX4_init_70 : decode mX4_init.2.1 70 = .ok (.newarray .int, 2) := by decide +kernel
theorem dX4_init_72 : decode mX4_init.2.1 72 = .ok (.putfield 51, 3) := by decide +kernel
theorem dX4_init_75 : decode mX4_init.2.1 75 = .ok (.aload_n 0, 1) := by decide +kernel
theorem dX4_init_76 : decode mX4_init.2.1 76 = .ok (.iconst 0, 1) := by decide +kernel
theorem dX4_init_77 : decode mX4_init.2.1 77 = .ok (.putfield 54, 3) := by decide +kernel
theorem dX4_init_80 : decode mX4_init.2.1 80 = .ok (.aload_n 0, 1) := by decide +kernel
theorem dX4_init_81 : decode mX4_init.2.1 81 = .ok (.iconst 0, 1) := by decide +kernel
theorem dX4_init_82 : decode mX4_init.2.1 82 = .ok (.putfield 57, 3) := by decide +kernel
theorem dX4_init_85 : decode mX4_init.2.1 85 = .ok (.return_, 1) := by decide +kernel
theorem dX4_hasRoomForTwenty_0 : decode mX4_hasRoomForTwenty.2.1 0 = .ok (.aload_n 0, 1) := by decide +kernel
theorem dX4_hasRoomForTwenty_1 : decode mX4_hasRoomForTwenty.2.1 1 = .ok (.getfield 15, 3) := by decide +kernel
theorem dX4_hasRoomForTwenty_4 : decode mX4_hasRoomForTwenty.2.1 4 = .ok (.sipush 480, 3) := by decide +kernel
theorem dX4_hasRoomForTwenty_7 : decode mX4_hasRoomForTwenty.2.1 7 = .ok (.if_icmp .gt 7, 3) := by decide +kernel
theorem dX4_hasRoomForTwenty_10 : decode mX4_hasRoomForTwenty.2.1 10 = .ok (.iconst 1, 1) := by decide +kernel
theorem dX4_hasRoomForTwenty_11 : decode mX4_hasRoomForTwenty.2.1 11 = .ok (.goto 4, 3) := by decide +kernel
theorem dX4_hasRoomForTwenty_14 : decode mX4_hasRoomForTwenty.2.1 14 = .ok (.iconst 0, 1) := by decide +kernel
theorem dX4_hasRoomForTwenty_15 : decode mX4_hasRoomForTwenty.2.1 15 = .ok (.ireturn, 1) := by decide +kernel
theorem dX4_append_0 : decode mX4_append.2.1 0 = .ok (.bipush 24, 2) := by decide +kernel
theorem dX4_append_2 : decode mX4_append.2.1 2 = .ok (.istore_n 2, 1) := by decide +kernel
theorem dX4_append_3 : decode mX4_append.2.1 3 = .ok (.iload_n 2, 1) := by decide +kernel
theorem dX4_append_4 : decode mX4_append.2.1 4 = .ok (.ifCond .lt 45, 3) := by decide +kernel
theorem dX4_append_7 : decode mX4_append.2.1 7 = .ok (.aload_n 0, 1) := by decide +kernel
theorem dX4_append_8 : decode mX4_append.2.1 8 = .ok (.getfield 15, 3) := by decide +kernel
theorem dX4_append_11 : decode mX4_append.2.1 11 = .ok (.sipush 500, 3) := by decide +kernel
theorem dX4_append_14 : decode mX4_append.2.1 14 = .ok (.if_icmp .ge 35, 3) := by decide +kernel
theorem dX4_append_17 : decode mX4_append.2.1 17 = .ok (.aload_n 0, 1) := by decide +kernel
theorem dX4_append_18 : decode mX4_append.2.1 18 = .ok (.getfield 11, 3) := by decide +kernel
theorem dX4_append_21 : decode mX4_append.2.1 21 = .ok (.aload_n 0, 1) := by decide +kernel
theorem dX4_append_22 : decode mX4_append.2.1 22 = .ok (.getfield 15, 3) := by decide +kernel
theorem dX4_append_25 : decode mX4_append.2.1 25 = .ok (.iload_n 1, 1) := by decide +kernel
theorem dX4_append_26 : decode mX4_append.2.1 26 = .ok (.iload_n 2, 1) := by decide +kernel
theorem dX4_append_27 : decode mX4_append.2.1 27 = .ok (.iushr, 1) := by decide +kernel
theorem dX4_append_28 : decode mX4_append.2.1 28 = .ok (.sipush 255, 3) := by decide +kernel
theorem dX4_append_31 : decode mX4_append.2.1 31 = .ok (.iand, 1) := by decide +kernel
theorem dX4_append_32 : decode mX4_append.2.1 32 = .ok (.iastore, 1) := by decide +kernel
theorem dX4_append_33 : decode mX4_append.2.1 33 = .ok (.aload_n 0, 1) := by decide +kernel
theorem dX4_append_34 : decode mX4_append.2.1 34 = .ok (.dup, 1) := by decide +kernel
theorem dX4_append_35 : decode mX4_append.2.1 35 = .ok (.getfield 15, 3) := by decide +kernel
theorem dX4_append_38 : decode mX4_append.2.1 38 = .ok (.iconst 1, 1) := by decide +kernel
theorem dX4_append_39 : decode mX4_append.2.1 39 = .ok (.iadd, 1) := by decide +kernel
theorem dX4_append_40 : decode mX4_append.2.1 40 = .ok (.putfield 15, 3) := by decide +kernel
theorem dX4_append_43 : decode mX4_append.2.1 43 = .ok (.iinc 2 (-8), 3) := by decide +kernel
theorem dX4_append_46 : decode mX4_append.2.1 46 = .ok (.goto (-43), 3) := by decide +kernel
theorem dX4_append_49 : decode mX4_append.2.1 49 = .ok (.return_, 1) := by decide +kernel
theorem dX4_readText_0 : decode mX4_readText.2.1 0 = .ok (.aload_n 0, 1) := by decide +kernel
theorem dX4_readText_1 : decode mX4_readText.2.1 1 = .ok (.iload_n 1, 1) := by decide +kernel
theorem dX4_readText_2 : decode mX4_readText.2.1 2 = .ok (.aload_n 0, 1) := by decide +kernel
theorem dX4_readText_3 : decode mX4_readText.2.1 3 = .ok (.getfield 15, 3) := by decide +kernel
theorem dX4_readText_6 : decode mX4_readText.2.1 6 = .ok (.invokestatic 60, 3) := by decide +kernel
theorem dX4_readText_9 : decode mX4_readText.2.1 9 = .ok (.putfield 25, 3) := by decide +kernel
theorem dX4_readText_12 : decode mX4_readText.2.1 12 = .ok (.aload_n 0, 1) := by decide +kernel
theorem dX4_readText_13 : decode mX4_readText.2.1 13 = .ok (.iconst 0, 1) := by decide +kernel
theorem dX4_readText_14 : decode mX4_readText.2.1 14 = .ok (.putfield 28, 3) := by decide +kernel
theorem dX4_readText_17 : decode mX4_readText.2.1 17 = .ok (.aload_n 0, 1) := by decide +kernel
theorem dX4_readText_18 : decode mX4_readText.2.1 18 = .ok (.iconst 0, 1) := by decide +kernel
theorem dX4_readText_19 : decode mX4_readText.2.1 19 = .ok (.putfield 19, 3) := by decide +kernel
theorem dX4_readText_22 : decode mX4_readText.2.1 22 = .ok (.aload_n 0, 1) := by decide +kernel
theorem dX4_readText_23 : decode mX4_readText.2.1 23 = .ok (.iconst (-1), 1) := by decide +kernel
theorem dX4_readText_24 : decode mX4_readText.2.1 24 = .ok (.putfield 22, 3) := by decide +kernel
theorem dX4_readText_27 : decode mX4_readText.2.1 27 = .ok (.aload_n 0, 1) := by decide +kernel
theorem dX4_readText_28 : decode mX4_readText.2.1 28 = .ok (.iconst 0, 1) := by decide +kernel
theorem dX4_readText_29 : decode mX4_readText.2.1 29 = .ok (.putfield 41, 3) := by decide +kernel
theorem dX4_readText_32 : decode mX4_readText.2.1 32 = .ok (.aload_n 0, 1) := by decide +kernel
theorem dX4_readText_33 : decode mX4_readText.2.1 33 = .ok (.iconst 0, 1) := by decide +kernel
theorem dX4_readText_34 : decode mX4_readText.2.1 34 = .ok (.putfield 47, 3) := by decide +kernel
theorem dX4_readText_37 : decode mX4_readText.2.1 37 = .ok (.aload_n 0, 1) := by decide +kernel
theorem dX4_readText_38 : decode mX4_readText.2.1 38 = .ok (.iconst 0, 1) := by decide +kernel
theorem dX4_readText_39 : decode mX4_readText.2.1 39 = .ok (.putfield 54, 3) := by decide +kernel
theorem dX4_readText_42 : decode mX4_readText.2.1 42 = .ok (.aload_n 0, 1) := by decide +kernel
theorem dX4_readText_43 : decode mX4_readText.2.1 43 = .ok (.iconst 0, 1) := by decide +kernel
theorem dX4_readText_44 : decode mX4_readText.2.1 44 = .ok (.putfield 57, 3) := by decide +kernel
theorem dX4_readText_47 : decode mX4_readText.2.1 47 = .ok (.aload_n 2, 1) := by decide +kernel
theorem dX4_readText_48 : decode mX4_readText.2.1 48 = .ok (.invokevirtual 66, 3) := by decide +kernel
theorem dX4_readText_51 : decode mX4_readText.2.1 51 = .ok (.iconst 0, 1) := by decide +kernel
theorem dX4_readText_52 : decode mX4_readText.2.1 52 = .ok (.istore 4, 2) := by decide +kernel
theorem dX4_readText_54 : decode mX4_readText.2.1 54 = .ok (.iload 4, 2) := by decide +kernel
theorem dX4_readText_56 : decode mX4_readText.2.1 56 = .ok (.sipush 500, 3) := by decide +kernel
theorem dX4_readText_59 : decode mX4_readText.2.1 59 = .ok (.if_icmp .gt 44, 3) := by decide +kernel
theorem dX4_readText_62 : decode mX4_readText.2.1 62 = .ok (.aload_n 0, 1) := by decide +kernel
theorem dX4_readText_63 : decode mX4_readText.2.1 63 = .ok (.getfield 19, 3) := by decide +kernel
theorem dX4_readText_66 : decode mX4_readText.2.1 66 = .ok (.ifCond .ne 37, 3) := by decide +kernel
theorem dX4_readText_69 : decode mX4_readText.2.1 69 = .ok (.aload_n 0, 1) := by decide +kernel
theorem dX4_readText_70 : decode mX4_readText.2.1 70 = .ok (.invokevirtual 71, 3) := by decide +kernel
theorem dX4_readText_73 : decode mX4_readText.2.1 73 = .ok (.aload_n 0, 1) := by decide +kernel
theorem dX4_readText_74 : decode mX4_readText.2.1 74 = .ok (.getfield 31, 3) := by decide +kernel
theorem dX4_readText_77 : decode mX4_readText.2.1 77 = .ok (.iconst 1, 1) := by decide +kernel
theorem dX4_readText_78 : decode mX4_readText.2.1 78 = .ok (.if_icmp .ne 13, 3) := by decide +kernel
theorem dX4_readText_81 : decode mX4_readText.2.1 81 = .ok (.aload_n 0, 1) := by decide +kernel
theorem dX4_readText_82 : decode mX4_readText.2.1 82 = .ok (.getfield 41, 3) := by decide +kernel
theorem dX4_readText_85 : decode mX4_readText.2.1 85 = .ok (.ifCond .ne 6, 3) := by decide +kernel
theorem dX4_readText_88 : decode mX4_readText.2.1 88 = .ok (.goto 15, 3) := by decide +kernel
theorem dX4_readText_91 : decode mX4_readText.2.1 91 = .ok (.aload_n 0, 1) := by decide +kernel
theorem dX4_readText_92 : decode mX4_readText.2.1 92 = .ok (.aload_n 2, 1) := by decide +kernel
theorem dX4_readText_93 : decode mX4_readText.2.1 93 = .ok (.aload_n 3, 1) := by decide +kernel
theorem dX4_readText_94 : decode mX4_readText.2.1 94 = .ok (.invokevirtual 74, 3) := by decide +kernel
theorem dX4_readText_97 : decode mX4_readText.2.1 97 = .ok (.iinc 4 1, 3) := by decide +kernel
theorem dX4_readText_100 : decode mX4_readText.2.1 100 = .ok (.goto (-46), 3) := by decide +kernel
theorem dX4_readText_103 : decode mX4_readText.2.1 103 = .ok (.aload_n 2, 1) := by decide +kernel
theorem dX4_readText_104 : decode mX4_readText.2.1 104 = .ok (.aload_n 0, 1) := by decide +kernel
theorem dX4_readText_105 : decode mX4_readText.2.1 105 = .ok (.getfield 19, 3) := by decide +kernel
theorem dX4_readText_108 : decode mX4_readText.2.1 108 = .ok (.ifCond .ne 7, 3) := by decide +kernel
theorem dX4_readText_111 : decode mX4_readText.2.1 111 = .ok (.iconst 1, 1) := by decide +kernel
theorem dX4_readText_112 : decode mX4_readText.2.1 112 = .ok (.goto 4, 3) := by decide +kernel
theorem dX4_readText_115 : decode mX4_readText.2.1 115 = .ok (.iconst 0, 1) := by decide +kernel
theorem dX4_readText_116 : decode mX4_readText.2.1 116 = .ok (.putfield 78, 3) := by decide +kernel
theorem dX4_readText_119 : decode mX4_readText.2.1 119 = .ok (.return_, 1) := by decide +kernel
theorem dX4_takeToken_0 : decode mX4_takeToken.2.1 0 = .ok (.aload_n 0, 1) := by decide +kernel
theorem dX4_takeToken_1 : decode mX4_takeToken.2.1 1 = .ok (.getfield 31, 3) := by decide +kernel
theorem dX4_takeToken_4 : decode mX4_takeToken.2.1 4 = .ok (.ifCond .ne 9, 3) := by decide +kernel
theorem dX4_takeToken_7 : decode mX4_takeToken.2.1 7 = .ok (.aload_n 0, 1) := by decide +kernel
theorem dX4_takeToken_8 : decode mX4_takeToken.2.1 8 = .ok (.iconst 1, 1) := by decide +kernel
theorem dX4_takeToken_9 : decode mX4_takeToken.2.1 9 = .ok (.invokevirtual 81, 3) := by decide +kernel
theorem dX4_takeToken_12 : decode mX4_takeToken.2.1 12 = .ok (.return_, 1) := by decide +kernel
theorem dX4_takeToken_13 : decode mX4_takeToken.2.1 13 = .ok (.aload_n 0, 1) := by decide +kernel
theorem dX4_takeToken_14 : decode mX4_takeToken.2.1 14 = .ok (.getfield 41, 3) := by decide +kernel
theorem dX4_takeToken_17 : decode mX4_takeToken.2.1 17 = .ok (.tableswitch 74 0 4 #[35, 44, 51, 59, 66], 35) := by decide +kernel
theorem dX4_takeToken_52 : decode mX4_takeToken.2.1 52 = .ok (.aload_n 0, 1) := by decide +kernel
theorem dX4_takeToken_53 : decode mX4_takeToken.2.1 53 = .ok (.aload_n 1, 1) := by decide +kernel
theorem dX4_takeToken_54 : decode mX4_takeToken.2.1 54 = .ok (.aload_n 2, 1) := by decide +kernel
theorem dX4_takeToken_55 : decode mX4_takeToken.2.1 55 = .ok (.invokevirtual 85, 3) := by decide +kernel
theorem dX4_takeToken_58 : decode mX4_takeToken.2.1 58 = .ok (.goto 38, 3) := by decide +kernel
theorem dX4_takeToken_61 : decode mX4_takeToken.2.1 61 = .ok (.aload_n 0, 1) := by decide +kernel
theorem dX4_takeToken_62 : decode mX4_takeToken.2.1 62 = .ok (.invokevirtual 88, 3) := by decide +kernel
theorem dX4_takeToken_65 : decode mX4_takeToken.2.1 65 = .ok (.goto 31, 3) := by decide +kernel
theorem dX4_takeToken_68 : decode mX4_takeToken.2.1 68 = .ok (.aload_n 0, 1) := by decide +kernel
theorem dX4_takeToken_69 : decode mX4_takeToken.2.1 69 = .ok (.aload_n 1, 1) := by decide +kernel
theorem dX4_takeToken_70 : decode mX4_takeToken.2.1 70 = .ok (.invokevirtual 91, 3) := by decide +kernel
theorem dX4_takeToken_73 : decode mX4_takeToken.2.1 73 = .ok (.goto 23, 3) := by decide +kernel
theorem dX4_takeToken_76 : decode mX4_takeToken.2.1 76 = .ok (.aload_n 0, 1) := by decide +kernel
theorem dX4_takeToken_77 : decode mX4_takeToken.2.1 77 = .ok (.invokevirtual 95, 3) := by decide +kernel
theorem dX4_takeToken_80 : decode mX4_takeToken.2.1 80 = .ok (.goto 16, 3) := by decide +kernel
theorem dX4_takeToken_83 : decode mX4_takeToken.2.1 83 = .ok (.aload_n 0, 1) := by decide +kernel
theorem dX4_takeToken_84 : decode mX4_takeToken.2.1 84 = .ok (.aload_n 1, 1) := by decide +kernel
theorem dX4_takeToken_85 : decode mX4_takeToken.2.1 85 = .ok (.invokevirtual 98, 3) := by decide +kernel
theorem dX4_takeToken_88 : decode mX4_takeToken.2.1 88 = .ok (.goto 8, 3) := by decide +kernel
theorem dX4_takeToken_91 : decode mX4_takeToken.2.1 91 = .ok (.aload_n 0, 1) := by decide +kernel
theorem dX4_takeToken_92 : decode mX4_takeToken.2.1 92 = .ok (.aload_n 1, 1) := by decide +kernel
theorem dX4_takeToken_93 : decode mX4_takeToken.2.1 93 = .ok (.invokevirtual 101, 3) := by decide +kernel
theorem dX4_takeToken_96 : decode mX4_takeToken.2.1 96 = .ok (.return_, 1) := by decide +kernel
theorem dX4_takeName_0 : decode mX4_takeName.2.1 0 = .ok (.aload_n 0, 1) := by decide +kernel
theorem dX4_takeName_1 : decode mX4_takeName.2.1 1 = .ok (.getfield 31, 3) := by decide +kernel
theorem dX4_takeName_4 : decode mX4_takeName.2.1 4 = .ok (.iconst 2, 1) := by decide +kernel
theorem dX4_takeName_5 : decode mX4_takeName.2.1 5 = .ok (.if_icmp .eq 9, 3) := by decide +kernel
theorem dX4_takeName_8 : decode mX4_takeName.2.1 8 = .ok (.aload_n 0, 1) := by decide +kernel
theorem dX4_takeName_9 : decode mX4_takeName.2.1 9 = .ok (.iconst 2, 1) := by decide +kernel
theorem dX4_takeName_10 : decode mX4_takeName.2.1 10 = .ok (.invokevirtual 81, 3) := by decide +kernel
theorem dX4_takeName_13 : decode mX4_takeName.2.1 13 = .ok (.return_, 1) := by decide +kernel
theorem dX4_takeName_14 : decode mX4_takeName.2.1 14 = .ok (.aload_n 2, 1) := by decide +kernel
theorem dX4_takeName_15 : decode mX4_takeName.2.1 15 = .ok (.aload_n 0, 1) := by decide +kernel
theorem dX4_takeName_16 : decode mX4_takeName.2.1 16 = .ok (.getfield 37, 3) := by decide +kernel
theorem dX4_takeName_19 : decode mX4_takeName.2.1 19 = .ok (.invokevirtual 104, 3) := by decide +kernel
theorem dX4_takeName_22 : decode mX4_takeName.2.1 22 = .ok (.istore_n 3, 1) := by decide +kernel
theorem dX4_takeName_23 : decode mX4_takeName.2.1 23 = .ok (.iload_n 3, 1) := by decide +kernel
theorem dX4_takeName_24 : decode mX4_takeName.2.1 24 = .ok (.iconst (-1), 1) := by decide +kernel
theorem dX4_takeName_25 : decode mX4_takeName.2.1 25 = .ok (.if_icmp .eq 14, 3) := by decide +kernel
theorem dX4_takeName_28 : decode mX4_takeName.2.1 28 = .ok (.aload_n 0, 1) := by decide +kernel
theorem dX4_takeName_29 : decode mX4_takeName.2.1 29 = .ok (.getfield 57, 3) := by decide +kernel
theorem dX4_takeName_32 : decode mX4_takeName.2.1 32 = .ok (.iload_n 3, 1) := by decide +kernel
theorem dX4_takeName_33 : decode mX4_takeName.2.1 33 = .ok (.iushr, 1) := by decide +kernel
theorem dX4_takeName_34 : decode mX4_takeName.2.1 34 = .ok (.iconst 1, 1) := by decide +kernel
theorem dX4_takeName_35 : decode mX4_takeName.2.1 35 = .ok (.iand, 1) := by decide +kernel
theorem dX4_takeName_36 : decode mX4_takeName.2.1 36 = .ok (.ifCond .eq 9, 3) := by decide +kernel
theorem dX4_takeName_39 : decode mX4_takeName.2.1 39 = .ok (.aload_n 0, 1) := by decide +kernel
theorem dX4_takeName_40 : decode mX4_takeName.2.1 40 = .ok (.iconst 3, 1) := by decide +kernel
theorem dX4_takeName_41 : decode mX4_takeName.2.1 41 = .ok (.invokevirtual 81, 3) := by decide +kernel
theorem dX4_takeName_44 : decode mX4_takeName.2.1 44 = .ok (.return_, 1) := by decide +kernel
theorem dX4_takeName_45 : decode mX4_takeName.2.1 45 = .ok (.aload_n 0, 1) := by decide +kernel
theorem dX4_takeName_46 : decode mX4_takeName.2.1 46 = .ok (.dup, 1) := by decide +kernel
theorem dX4_takeName_47 : decode mX4_takeName.2.1 47 = .ok (.getfield 57, 3) := by decide +kernel
theorem dX4_takeName_50 : decode mX4_takeName.2.1 50 = .ok (.iconst 1, 1) := by decide +kernel
theorem dX4_takeName_51 : decode mX4_takeName.2.1 51 = .ok (.iload_n 3, 1) := by decide +kernel
theorem dX4_takeName_52 : decode mX4_takeName.2.1 52 = .ok (.ishl, 1) := by decide +kernel
theorem dX4_takeName_53 : decode mX4_takeName.2.1 53 = .ok (.ior, 1) := by decide +kernel
theorem dX4_takeName_54 : decode mX4_takeName.2.1 54 = .ok (.putfield 57, 3) := by decide +kernel
theorem dX4_takeName_57 : decode mX4_takeName.2.1 57 = .ok (.aload_n 1, 1) := by decide +kernel
theorem dX4_takeName_58 : decode mX4_takeName.2.1 58 = .ok (.aload_n 2, 1) := by decide +kernel
theorem dX4_takeName_59 : decode mX4_takeName.2.1 59 = .ok (.getfield 110, 3) := by decide +kernel
theorem dX4_takeName_62 : decode mX4_takeName.2.1 62 = .ok (.iload_n 3, 1) := by decide +kernel
theorem dX4_takeName_63 : decode mX4_takeName.2.1 63 = .ok (.iaload, 1) := by decide +kernel
theorem dX4_takeName_64 : decode mX4_takeName.2.1 64 = .ok (.invokevirtual 113, 3) := by decide +kernel
theorem dX4_takeName_67 : decode mX4_takeName.2.1 67 = .ok (.aload_n 0, 1) := by decide +kernel
theorem dX4_takeName_68 : decode mX4_takeName.2.1 68 = .ok (.iconst 1, 1) := by decide +kernel
theorem dX4_takeName_69 : decode mX4_takeName.2.1 69 = .ok (.putfield 41, 3) := by decide +kernel
theorem dX4_takeName_72 : decode mX4_takeName.2.1 72 = .ok (.return_, 1) := by decide +kernel
theorem dX4_takeColon_0 : decode mX4_takeColon.2.1 0 = .ok (.aload_n 0, 1) := by decide +kernel
theorem dX4_takeColon_1 : decode mX4_takeColon.2.1 1 = .ok (.bipush 58, 2) := by decide +kernel
theorem dX4_takeColon_3 : decode mX4_takeColon.2.1 3 = .ok (.invokevirtual 116, 3) := by decide +kernel
theorem dX4_takeColon_6 : decode mX4_takeColon.2.1 6 = .ok (.ifCond .ne 9, 3) := by decide +kernel
theorem dX4_takeColon_9 : decode mX4_takeColon.2.1 9 = .ok (.aload_n 0, 1) := by decide +kernel
theorem dX4_takeColon_10 : decode mX4_takeColon.2.1 10 = .ok (.iconst 2, 1) := by decide +kernel
theorem dX4_takeColon_11 : decode mX4_takeColon.2.1 11 = .ok (.invokevirtual 81, 3) := by decide +kernel
theorem dX4_takeColon_14 : decode mX4_takeColon.2.1 14 = .ok (.return_, 1) := by decide +kernel
theorem dX4_takeColon_15 : decode mX4_takeColon.2.1 15 = .ok (.aload_n 0, 1) := by decide +kernel
theorem dX4_takeColon_16 : decode mX4_takeColon.2.1 16 = .ok (.iconst 2, 1) := by decide +kernel
theorem dX4_takeColon_17 : decode mX4_takeColon.2.1 17 = .ok (.putfield 41, 3) := by decide +kernel
theorem dX4_takeColon_20 : decode mX4_takeColon.2.1 20 = .ok (.return_, 1) := by decide +kernel
theorem dX4_takeOrder_0 : decode mX4_takeOrder.2.1 0 = .ok (.aload_n 0, 1) := by decide +kernel
theorem dX4_takeOrder_1 : decode mX4_takeOrder.2.1 1 = .ok (.getfield 54, 3) := by decide +kernel
theorem dX4_takeOrder_4 : decode mX4_takeOrder.2.1 4 = .ok (.ifCond .ne 24, 3) := by decide +kernel
theorem dX4_takeOrder_7 : decode mX4_takeOrder.2.1 7 = .ok (.aload_n 0, 1) := by decide +kernel
theorem dX4_takeOrder_8 : decode mX4_takeOrder.2.1 8 = .ok (.bipush 59, 2) := by decide +kernel
theorem dX4_takeOrder_10 : decode mX4_takeOrder.2.1 10 = .ok (.invokevirtual 116, 3) := by decide +kernel
theorem dX4_takeOrder_13 : decode mX4_takeOrder.2.1 13 = .ok (.ifCond .eq 15, 3) := by decide +kernel
theorem dX4_takeOrder_16 : decode mX4_takeOrder.2.1 16 = .ok (.aload_n 1, 1) := by decide +kernel
theorem dX4_takeOrder_17 : decode mX4_takeOrder.2.1 17 = .ok (.invokevirtual 120, 3) := by decide +kernel
theorem dX4_takeOrder_20 : decode mX4_takeOrder.2.1 20 = .ok (.aload_n 0, 1) := by decide +kernel
theorem dX4_takeOrder_21 : decode mX4_takeOrder.2.1 21 = .ok (.iconst 0, 1) := by decide +kernel
theorem dX4_takeOrder_22 : decode mX4_takeOrder.2.1 22 = .ok (.putfield 41, 3) := by decide +kernel
theorem dX4_takeOrder_25 : decode mX4_takeOrder.2.1 25 = .ok (.goto 74, 3) := by decide +kernel
theorem dX4_takeOrder_28 : decode mX4_takeOrder.2.1 28 = .ok (.aload_n 0, 1) := by decide +kernel
theorem dX4_takeOrder_29 : decode mX4_takeOrder.2.1 29 = .ok (.getfield 54, 3) := by decide +kernel
theorem dX4_takeOrder_32 : decode mX4_takeOrder.2.1 32 = .ok (.ifCond .le 43, 3) := by decide +kernel
theorem dX4_takeOrder_35 : decode mX4_takeOrder.2.1 35 = .ok (.aload_n 0, 1) := by decide +kernel
theorem dX4_takeOrder_36 : decode mX4_takeOrder.2.1 36 = .ok (.bipush 125, 2) := by decide +kernel
theorem dX4_takeOrder_38 : decode mX4_takeOrder.2.1 38 = .ok (.invokevirtual 116, 3) := by decide +kernel
theorem dX4_takeOrder_41 : decode mX4_takeOrder.2.1 41 = .ok (.ifCond .eq 34, 3) := by decide +kernel
theorem dX4_takeOrder_44 : decode mX4_takeOrder.2.1 44 = .ok (.aload_n 0, 1) := by decide +kernel
theorem dX4_takeOrder_45 : decode mX4_takeOrder.2.1 45 = .ok (.dup, 1) := by decide +kernel
theorem dX4_takeOrder_46 : decode mX4_takeOrder.2.1 46 = .ok (.getfield 54, 3) := by decide +kernel
theorem dX4_takeOrder_49 : decode mX4_takeOrder.2.1 49 = .ok (.iconst 1, 1) := by decide +kernel
theorem dX4_takeOrder_50 : decode mX4_takeOrder.2.1 50 = .ok (.isub, 1) := by decide +kernel
theorem dX4_takeOrder_51 : decode mX4_takeOrder.2.1 51 = .ok (.putfield 54, 3) := by decide +kernel
theorem dX4_takeOrder_54 : decode mX4_takeOrder.2.1 54 = .ok (.aload_n 1, 1) := by decide +kernel
theorem dX4_takeOrder_55 : decode mX4_takeOrder.2.1 55 = .ok (.getfield 123, 3) := by decide +kernel
theorem dX4_takeOrder_58 : decode mX4_takeOrder.2.1 58 = .ok (.aload_n 0, 1) := by decide +kernel
theorem dX4_takeOrder_59 : decode mX4_takeOrder.2.1 59 = .ok (.getfield 51, 3) := by decide +kernel
theorem dX4_takeOrder_62 : decode mX4_takeOrder.2.1 62 = .ok (.aload_n 0, 1) := by decide +kernel
theorem dX4_takeOrder_63 : decode mX4_takeOrder.2.1 63 = .ok (.getfield 54, 3) := by decide +kernel
theorem dX4_takeOrder_66 : decode mX4_takeOrder.2.1 66 = .ok (.iaload, 1) := by decide +kernel
theorem dX4_takeOrder_67 : decode mX4_takeOrder.2.1 67 = .ok (.aload_n 1, 1) := by decide +kernel
theorem dX4_takeOrder_68 : decode mX4_takeOrder.2.1 68 = .ok (.getfield 126, 3) := by decide +kernel
theorem dX4_takeOrder_71 : decode mX4_takeOrder.2.1 71 = .ok (.iastore, 1) := by decide +kernel
theorem dX4_takeOrder_72 : decode mX4_takeOrder.2.1 72 = .ok (.goto 27, 3) := by decide +kernel
theorem dX4_takeOrder_75 : decode mX4_takeOrder.2.1 75 = .ok (.aload_n 0, 1) := by decide +kernel
theorem dX4_takeOrder_76 : decode mX4_takeOrder.2.1 76 = .ok (.aload_n 1, 1) := by decide +kernel
theorem dX4_takeOrder_77 : decode mX4_takeOrder.2.1 77 = .ok (.aload_n 0, 1) := by decide +kernel
theorem dX4_takeOrder_78 : decode mX4_takeOrder.2.1 78 = .ok (.getfield 31, 3) := by decide +kernel
theorem dX4_takeOrder_81 : decode mX4_takeOrder.2.1 81 = .ok (.iconst 2, 1) := by decide +kernel
theorem dX4_takeOrder_82 : decode mX4_takeOrder.2.1 82 = .ok (.if_icmp .ne 13, 3) := by decide +kernel
theorem dX4_takeOrder_85 : decode mX4_takeOrder.2.1 85 = .ok (.aload_n 0, 1) := by decide +kernel
theorem dX4_takeOrder_86 : decode mX4_takeOrder.2.1 86 = .ok (.getfield 37, 3) := by decide +kernel
theorem dX4_takeOrder_89 : decode mX4_takeOrder.2.1 89 = .ok (.invokestatic 129, 3) := by decide +kernel
theorem dX4_takeOrder_92 : decode mX4_takeOrder.2.1 92 = .ok (.goto 4, 3) := by decide +kernel
theorem dX4_takeOrder_95 : decode mX4_takeOrder.2.1 95 = .ok (.iconst (-1), 1) := by decide +kernel
theorem dX4_takeOrder_96 : decode mX4_takeOrder.2.1 96 = .ok (.invokevirtual 132, 3) := by decide +kernel
theorem dX4_takeOrder_99 : decode mX4_takeOrder.2.1 99 = .ok (.return_, 1) := by decide +kernel
theorem dX4_takeOrderWord_0 : decode mX4_takeOrderWord.2.1 0 = .ok (.iload_n 2, 1) := by decide +kernel
theorem dX4_takeOrderWord_1 : decode mX4_takeOrderWord.2.1 1 = .ok (.iconst (-1), 1) := by decide +kernel
theorem dX4_takeOrderWord_2 : decode mX4_takeOrderWord.2.1 2 = .ok (.if_icmp .ne 11, 3) := by decide +kernel
theorem dX4_takeOrderWord_5 : decode mX4_takeOrderWord.2.1 5 = .ok (.aload_n 0, 1) := by decide +kernel
theorem dX4_takeOrderWord_6 : decode mX4_takeOrderWord.2.1 6 = .ok (.iconst 2, 1) := by decide +kernel
theorem dX4_takeOrderWord_7 : decode mX4_takeOrderWord.2.1 7 = .ok (.invokevirtual 81, 3) := by decide +kernel
theorem dX4_takeOrderWord_10 : decode mX4_takeOrderWord.2.1 10 = .ok (.goto 64, 3) := by decide +kernel
theorem dX4_takeOrderWord_13 : decode mX4_takeOrderWord.2.1 13 = .ok (.aload_n 1, 1) := by decide +kernel
theorem dX4_takeOrderWord_14 : decode mX4_takeOrderWord.2.1 14 = .ok (.getfield 126, 3) := by decide +kernel
theorem dX4_takeOrderWord_17 : decode mX4_takeOrderWord.2.1 17 = .ok (.bipush 60, 2) := by decide +kernel
theorem dX4_takeOrderWord_19 : decode mX4_takeOrderWord.2.1 19 = .ok (.if_icmp .lt 11, 3) := by decide +kernel
theorem dX4_takeOrderWord_22 : decode mX4_takeOrderWord.2.1 22 = .ok (.aload_n 0, 1) := by decide +kernel
theorem dX4_takeOrderWord_23 : decode mX4_takeOrderWord.2.1 23 = .ok (.iconst 5, 1) := by decide +kernel
theorem dX4_takeOrderWord_24 : decode mX4_takeOrderWord.2.1 24 = .ok (.invokevirtual 81, 3) := by decide +kernel
theorem dX4_takeOrderWord_27 : decode mX4_takeOrderWord.2.1 27 = .ok (.goto 47, 3) := by decide +kernel
theorem dX4_takeOrderWord_30 : decode mX4_takeOrderWord.2.1 30 = .ok (.iload_n 2, 1) := by decide +kernel
theorem dX4_takeOrderWord_31 : decode mX4_takeOrderWord.2.1 31 = .ok (.bipush 10, 2) := by decide +kernel
theorem dX4_takeOrderWord_33 : decode mX4_takeOrderWord.2.1 33 = .ok (.if_icmp .ne 20, 3) := by decide +kernel
theorem dX4_takeOrderWord_36 : decode mX4_takeOrderWord.2.1 36 = .ok (.aload_n 0, 1) := by decide +kernel
theorem dX4_takeOrderWord_37 : decode mX4_takeOrderWord.2.1 37 = .ok (.getfield 54, 3) := by decide +kernel
theorem dX4_takeOrderWord_40 : decode mX4_takeOrderWord.2.1 40 = .ok (.iconst 3, 1) := by decide +kernel
theorem dX4_takeOrderWord_41 : decode mX4_takeOrderWord.2.1 41 = .ok (.if_icmp .lt 12, 3) := by decide +kernel
theorem dX4_takeOrderWord_44 : decode mX4_takeOrderWord.2.1 44 = .ok (.aload_n 0, 1) := by decide +kernel
theorem dX4_takeOrderWord_45 : decode mX4_takeOrderWord.2.1 45 = .ok (.bipush 6, 2) := by decide +kernel
theorem dX4_takeOrderWord_47 : decode mX4_takeOrderWord.2.1 47 = .ok (.invokevirtual 81, 3) := by decide +kernel
theorem dX4_takeOrderWord_50 : decode mX4_takeOrderWord.2.1 50 = .ok (.goto 24, 3) := by decide +kernel
theorem dX4_takeOrderWord_53 : decode mX4_takeOrderWord.2.1 53 = .ok (.aload_n 0, 1) := by decide +kernel
theorem dX4_takeOrderWord_54 : decode mX4_takeOrderWord.2.1 54 = .ok (.aload_n 1, 1) := by decide +kernel
theorem dX4_takeOrderWord_55 : decode mX4_takeOrderWord.2.1 55 = .ok (.iload_n 2, 1) := by decide +kernel
theorem dX4_takeOrderWord_56 : decode mX4_takeOrderWord.2.1 56 = .ok (.aload_n 0, 1) := by decide +kernel
theorem dX4_takeOrderWord_57 : decode mX4_takeOrderWord.2.1 57 = .ok (.getfield 34, 3) := by decide +kernel
theorem dX4_takeOrderWord_60 : decode mX4_takeOrderWord.2.1 60 = .ok (.invokevirtual 136, 3) := by decide +kernel
theorem dX4_takeOrderWord_63 : decode mX4_takeOrderWord.2.1 63 = .ok (.putfield 44, 3) := by decide +kernel
theorem dX4_takeOrderWord_66 : decode mX4_takeOrderWord.2.1 66 = .ok (.aload_n 0, 1) := by decide +kernel
theorem dX4_takeOrderWord_67 : decode mX4_takeOrderWord.2.1 67 = .ok (.iload_n 2, 1) := by decide +kernel
theorem dX4_takeOrderWord_68 : decode mX4_takeOrderWord.2.1 68 = .ok (.invokestatic 139, 3) := by decide +kernel
theorem dX4_takeOrderWord_71 : decode mX4_takeOrderWord.2.1 71 = .ok (.putfield 41, 3) := by decide +kernel
theorem dX4_takeOrderWord_74 : decode mX4_takeOrderWord.2.1 74 = .ok (.return_, 1) := by decide +kernel
theorem dX4_wantedBehindWord_0 : decode mX4_wantedBehindWord.2.1 0 = .ok (.iload_n 0, 1) := by decide +kernel
theorem dX4_wantedBehindWord_1 : decode mX4_wantedBehindWord.2.1 1 = .ok (.tableswitch 53 5 10 #[39, 42, 44, 44, 47, 50], 39) := by decide +kernel
theorem dX4_wantedBehindWord_40 : decode mX4_wantedBehindWord.2.1 40 = .ok (.bipush 6, 2) := by decide +kernel
theorem dX4_wantedBehindWord_42 : decode mX4_wantedBehindWord.2.1 42 = .ok (.ireturn, 1) := by decide +kernel
theorem dX4_wantedBehindWord_43 : decode mX4_wantedBehindWord.2.1 43 = .ok (.iconst 4, 1) := by decide +kernel
theorem dX4_wantedBehindWord_44 : decode mX4_wantedBehindWord.2.1 44 = .ok (.ireturn, 1) := by decide +kernel
theorem dX4_wantedBehindWord_45 : decode mX4_wantedBehindWord.2.1 45 = .ok (.bipush 7, 2) := by decide +kernel
theorem dX4_wantedBehindWord_47 : decode mX4_wantedBehindWord.2.1 47 = .ok (.ireturn, 1) := by decide +kernel
theorem dX4_wantedBehindWord_48 : decode mX4_wantedBehindWord.2.1 48 = .ok (.bipush 8, 2) := by decide +kernel
theorem dX4_wantedBehindWord_50 : decode mX4_wantedBehindWord.2.1 50 = .ok (.ireturn, 1) := by decide +kernel
theorem dX4_wantedBehindWord_51 : decode mX4_wantedBehindWord.2.1 51 = .ok (.bipush 10, 2) := by decide +kernel
theorem dX4_wantedBehindWord_53 : decode mX4_wantedBehindWord.2.1 53 = .ok (.ireturn, 1) := by decide +kernel
theorem dX4_wantedBehindWord_54 : decode mX4_wantedBehindWord.2.1 54 = .ok (.iconst 5, 1) := by decide +kernel
theorem dX4_wantedBehindWord_55 : decode mX4_wantedBehindWord.2.1 55 = .ok (.ireturn, 1) := by decide +kernel
theorem dX4_takeBrace_0 : decode mX4_takeBrace.2.1 0 = .ok (.aload_n 0, 1) := by decide +kernel
theorem dX4_takeBrace_1 : decode mX4_takeBrace.2.1 1 = .ok (.bipush 123, 2) := by decide +kernel
theorem dX4_takeBrace_3 : decode mX4_takeBrace.2.1 3 = .ok (.invokevirtual 116, 3) := by decide +kernel
theorem dX4_takeBrace_6 : decode mX4_takeBrace.2.1 6 = .ok (.ifCond .eq 11, 3) := by decide +kernel
theorem dX4_takeBrace_9 : decode mX4_takeBrace.2.1 9 = .ok (.aload_n 0, 1) := by decide +kernel
theorem dX4_takeBrace_10 : decode mX4_takeBrace.2.1 10 = .ok (.getfield 54, 3) := by decide +kernel
theorem dX4_takeBrace_13 : decode mX4_takeBrace.2.1 13 = .ok (.iconst 3, 1) := by decide +kernel
theorem dX4_takeBrace_14 : decode mX4_takeBrace.2.1 14 = .ok (.if_icmp .lt 9, 3) := by decide +kernel
theorem dX4_takeBrace_17 : decode mX4_takeBrace.2.1 17 = .ok (.aload_n 0, 1) := by decide +kernel
theorem dX4_takeBrace_18 : decode mX4_takeBrace.2.1 18 = .ok (.iconst 2, 1) := by decide +kernel
theorem dX4_takeBrace_19 : decode mX4_takeBrace.2.1 19 = .ok (.invokevirtual 81, 3) := by decide +kernel
theorem dX4_takeBrace_22 : decode mX4_takeBrace.2.1 22 = .ok (.return_, 1) := by decide +kernel
theorem dX4_takeBrace_23 : decode mX4_takeBrace.2.1 23 = .ok (.aload_n 0, 1) := by decide +kernel
theorem dX4_takeBrace_24 : decode mX4_takeBrace.2.1 24 = .ok (.getfield 51, 3) := by decide +kernel
theorem dX4_takeBrace_27 : decode mX4_takeBrace.2.1 27 = .ok (.aload_n 0, 1) := by decide +kernel
theorem dX4_takeBrace_28 : decode mX4_takeBrace.2.1 28 = .ok (.getfield 54, 3) := by decide +kernel
theorem dX4_takeBrace_31 : decode mX4_takeBrace.2.1 31 = .ok (.aload_n 0, 1) := by decide +kernel
theorem dX4_takeBrace_32 : decode mX4_takeBrace.2.1 32 = .ok (.getfield 44, 3) := by decide +kernel
theorem dX4_takeBrace_35 : decode mX4_takeBrace.2.1 35 = .ok (.iastore, 1) := by decide +kernel
theorem dX4_takeBrace_36 : decode mX4_takeBrace.2.1 36 = .ok (.aload_n 0, 1) := by decide +kernel
theorem dX4_takeBrace_37 : decode mX4_takeBrace.2.1 37 = .ok (.dup, 1) := by decide +kernel
theorem dX4_takeBrace_38 : decode mX4_takeBrace.2.1 38 = .ok (.getfield 54, 3) := by decide +kernel
theorem dX4_takeBrace_41 : decode mX4_takeBrace.2.1 41 = .ok (.iconst 1, 1) := by decide +kernel
theorem dX4_takeBrace_42 : decode mX4_takeBrace.2.1 42 = .ok (.iadd, 1) := by decide +kernel
theorem dX4_takeBrace_43 : decode mX4_takeBrace.2.1 43 = .ok (.putfield 54, 3) := by decide +kernel
theorem dX4_takeBrace_46 : decode mX4_takeBrace.2.1 46 = .ok (.aload_n 0, 1) := by decide +kernel
theorem dX4_takeBrace_47 : decode mX4_takeBrace.2.1 47 = .ok (.iconst 2, 1) := by decide +kernel
theorem dX4_takeBrace_48 : decode mX4_takeBrace.2.1 48 = .ok (.putfield 41, 3) := by decide +kernel
theorem dX4_takeBrace_51 : decode mX4_takeBrace.2.1 51 = .ok (.return_, 1) := by decide +kernel
theorem dX4_takeSide_0 : decode mX4_takeSide.2.1 0 = .ok (.aload_n 0, 1) := by decide +kernel
theorem dX4_takeSide_1 : decode mX4_takeSide.2.1 1 = .ok (.getfield 31, 3) := by decide +kernel
theorem dX4_takeSide_4 : decode mX4_takeSide.2.1 4 = .ok (.iconst 2, 1) := by decide +kernel
theorem dX4_takeSide_5 : decode mX4_takeSide.2.1 5 = .ok (.if_icmp .ne 25, 3) := by decide +kernel
theorem dX4_takeSide_8 : decode mX4_takeSide.2.1 8 = .ok (.aload_n 0, 1) := by decide +kernel
theorem dX4_takeSide_9 : decode mX4_takeSide.2.1 9 = .ok (.getfield 37, 3) := by decide +kernel
theorem dX4_takeSide_12 : decode mX4_takeSide.2.1 12 = .ok (.ldc2_w 143, 3) := by decide +kernel
theorem dX4_takeSide_15 : decode mX4_takeSide.2.1 15 = .ok (.lcmp, 1) := by decide +kernel
theorem dX4_takeSide_16 : decode mX4_takeSide.2.1 16 = .ok (.ifCond .eq 20, 3) := by decide +kernel
theorem dX4_takeSide_19 : decode mX4_takeSide.2.1 19 = .ok (.aload_n 0, 1) := by decide +kernel
theorem dX4_takeSide_20 : decode mX4_takeSide.2.1 20 = .ok (.getfield 37, 3) := by decide +kernel
theorem dX4_takeSide_23 : decode mX4_takeSide.2.1 23 = .ok (.ldc2_w 145, 3) := by decide +kernel
theorem dX4_takeSide_26 : decode mX4_takeSide.2.1 26 = .ok (.lcmp, 1) := by decide +kernel
theorem dX4_takeSide_27 : decode mX4_takeSide.2.1 27 = .ok (.ifCond .eq 9, 3) := by decide +kernel
theorem dX4_takeSide_30 : decode mX4_takeSide.2.1 30 = .ok (.aload_n 0, 1) := by decide +kernel
theorem dX4_takeSide_31 : decode mX4_takeSide.2.1 31 = .ok (.iconst 2, 1) := by decide +kernel
theorem dX4_takeSide_32 : decode mX4_takeSide.2.1 32 = .ok (.invokevirtual 81, 3) := by decide +kernel
theorem dX4_takeSide_35 : decode mX4_takeSide.2.1 35 = .ok (.return_, 1) := by decide +kernel
theorem dX4_takeSide_36 : decode mX4_takeSide.2.1 36 = .ok (.aload_n 1, 1) := by decide +kernel
theorem dX4_takeSide_37 : decode mX4_takeSide.2.1 37 = .ok (.getfield 147, 3) := by decide +kernel
theorem dX4_takeSide_40 : decode mX4_takeSide.2.1 40 = .ok (.aload_n 0, 1) := by decide +kernel
theorem dX4_takeSide_41 : decode mX4_takeSide.2.1 41 = .ok (.getfield 44, 3) := by decide +kernel
theorem dX4_takeSide_44 : decode mX4_takeSide.2.1 44 = .ok (.aload_n 0, 1) := by decide +kernel
theorem dX4_takeSide_45 : decode mX4_takeSide.2.1 45 = .ok (.getfield 37, 3) := by decide +kernel
theorem dX4_takeSide_48 : decode mX4_takeSide.2.1 48 = .ok (.ldc2_w 143, 3) := by decide +kernel
theorem dX4_takeSide_51 : decode mX4_takeSide.2.1 51 = .ok (.lcmp, 1) := by decide +kernel
theorem dX4_takeSide_52 : decode mX4_takeSide.2.1 52 = .ok (.ifCond .ne 7, 3) := by decide +kernel
theorem dX4_takeSide_55 : decode mX4_takeSide.2.1 55 = .ok (.iconst 0, 1) := by decide +kernel
theorem dX4_takeSide_56 : decode mX4_takeSide.2.1 56 = .ok (.goto 4, 3) := by decide +kernel
theorem dX4_takeSide_59 : decode mX4_takeSide.2.1 59 = .ok (.iconst 1, 1) := by decide +kernel
theorem dX4_takeSide_60 : decode mX4_takeSide.2.1 60 = .ok (.iastore, 1) := by decide +kernel
theorem dX4_takeSide_61 : decode mX4_takeSide.2.1 61 = .ok (.aload_n 0, 1) := by decide +kernel
theorem dX4_takeSide_62 : decode mX4_takeSide.2.1 62 = .ok (.iconst 5, 1) := by decide +kernel
theorem dX4_takeSide_63 : decode mX4_takeSide.2.1 63 = .ok (.putfield 41, 3) := by decide +kernel
theorem dX4_takeSide_66 : decode mX4_takeSide.2.1 66 = .ok (.return_, 1) := by decide +kernel
theorem dX4_takeNumber_0 : decode mX4_takeNumber.2.1 0 = .ok (.aload_n 0, 1) := by decide +kernel
theorem dX4_takeNumber_1 : decode mX4_takeNumber.2.1 1 = .ok (.getfield 41, 3) := by decide +kernel
theorem dX4_takeNumber_4 : decode mX4_takeNumber.2.1 4 = .ok (.bipush 8, 2) := by decide +kernel
theorem dX4_takeNumber_6 : decode mX4_takeNumber.2.1 6 = .ok (.if_icmp .eq 12, 3) := by decide +kernel
theorem dX4_takeNumber_9 : decode mX4_takeNumber.2.1 9 = .ok (.aload_n 0, 1) := by decide +kernel
theorem dX4_takeNumber_10 : decode mX4_takeNumber.2.1 10 = .ok (.getfield 41, 3) := by decide +kernel
theorem dX4_takeNumber_13 : decode mX4_takeNumber.2.1 13 = .ok (.bipush 9, 2) := by decide +kernel
theorem dX4_takeNumber_15 : decode mX4_takeNumber.2.1 15 = .ok (.if_icmp .ne 7, 3) := by decide +kernel
theorem dX4_takeNumber_18 : decode mX4_takeNumber.2.1 18 = .ok (.iconst 1, 1) := by decide +kernel
theorem dX4_takeNumber_19 : decode mX4_takeNumber.2.1 19 = .ok (.goto 4, 3) := by decide +kernel
theorem dX4_takeNumber_22 : decode mX4_takeNumber.2.1 22 = .ok (.iconst 0, 1) := by decide +kernel
theorem dX4_takeNumber_23 : decode mX4_takeNumber.2.1 23 = .ok (.istore_n 2, 1) := by decide +kernel
theorem dX4_takeNumber_24 : decode mX4_takeNumber.2.1 24 = .ok (.iload_n 2, 1) := by decide +kernel
theorem dX4_takeNumber_25 : decode mX4_takeNumber.2.1 25 = .ok (.ifCond .eq 27, 3) := by decide +kernel
theorem dX4_takeNumber_28 : decode mX4_takeNumber.2.1 28 = .ok (.aload_n 0, 1) := by decide +kernel
theorem dX4_takeNumber_29 : decode mX4_takeNumber.2.1 29 = .ok (.getfield 47, 3) := by decide +kernel
theorem dX4_takeNumber_32 : decode mX4_takeNumber.2.1 32 = .ok (.ifCond .ne 20, 3) := by decide +kernel
theorem dX4_takeNumber_35 : decode mX4_takeNumber.2.1 35 = .ok (.aload_n 0, 1) := by decide +kernel
theorem dX4_takeNumber_36 : decode mX4_takeNumber.2.1 36 = .ok (.bipush 45, 2) := by decide +kernel
theorem dX4_takeNumber_38 : decode mX4_takeNumber.2.1 38 = .ok (.invokevirtual 116, 3) := by decide +kernel
theorem dX4_takeNumber_41 : decode mX4_takeNumber.2.1 41 = .ok (.ifCond .eq 11, 3) := by decide +kernel
theorem dX4_takeNumber_44 : decode mX4_takeNumber.2.1 44 = .ok (.aload_n 0, 1) := by decide +kernel
theorem dX4_takeNumber_45 : decode mX4_takeNumber.2.1 45 = .ok (.iconst 1, 1) := by decide +kernel
theorem dX4_takeNumber_46 : decode mX4_takeNumber.2.1 46 = .ok (.putfield 47, 3) := by decide +kernel
theorem dX4_takeNumber_49 : decode mX4_takeNumber.2.1 49 = .ok (.goto 70, 3) := by decide +kernel
theorem dX4_takeNumber_52 : decode mX4_takeNumber.2.1 52 = .ok (.aload_n 0, 1) := by decide +kernel
theorem dX4_takeNumber_53 : decode mX4_takeNumber.2.1 53 = .ok (.getfield 31, 3) := by decide +kernel
theorem dX4_takeNumber_56 : decode mX4_takeNumber.2.1 56 = .ok (.iconst 3, 1) := by decide +kernel
theorem dX4_takeNumber_57 : decode mX4_takeNumber.2.1 57 = .ok (.if_icmp .eq 11, 3) := by decide +kernel
theorem dX4_takeNumber_60 : decode mX4_takeNumber.2.1 60 = .ok (.aload_n 0, 1) := by decide +kernel
theorem dX4_takeNumber_61 : decode mX4_takeNumber.2.1 61 = .ok (.iconst 2, 1) := by decide +kernel
theorem dX4_takeNumber_62 : decode mX4_takeNumber.2.1 62 = .ok (.invokevirtual 81, 3) := by decide +kernel
theorem dX4_takeNumber_65 : decode mX4_takeNumber.2.1 65 = .ok (.goto 54, 3) := by decide +kernel
theorem dX4_takeNumber_68 : decode mX4_takeNumber.2.1 68 = .ok (.aload_n 0, 1) := by decide +kernel
theorem dX4_takeNumber_69 : decode mX4_takeNumber.2.1 69 = .ok (.aload_n 0, 1) := by decide +kernel
theorem dX4_takeNumber_70 : decode mX4_takeNumber.2.1 70 = .ok (.getfield 37, 3) := by decide +kernel
theorem dX4_takeNumber_73 : decode mX4_takeNumber.2.1 73 = .ok (.l2i, 1) := by decide +kernel
theorem dX4_takeNumber_74 : decode mX4_takeNumber.2.1 74 = .ok (.invokevirtual 150, 3) := by decide +kernel
theorem dX4_takeNumber_77 : decode mX4_takeNumber.2.1 77 = .ok (.ifCond .ne 11, 3) := by decide +kernel
theorem dX4_takeNumber_80 : decode mX4_takeNumber.2.1 80 = .ok (.aload_n 0, 1) := by decide +kernel
theorem dX4_takeNumber_81 : decode mX4_takeNumber.2.1 81 = .ok (.iconst 4, 1) := by decide +kernel
theorem dX4_takeNumber_82 : decode mX4_takeNumber.2.1 82 = .ok (.invokevirtual 81, 3) := by decide +kernel
theorem dX4_takeNumber_85 : decode mX4_takeNumber.2.1 85 = .ok (.goto 34, 3) := by decide +kernel
theorem dX4_takeNumber_88 : decode mX4_takeNumber.2.1 88 = .ok (.aload_n 0, 1) := by decide +kernel
theorem dX4_takeNumber_89 : decode mX4_takeNumber.2.1 89 = .ok (.aload_n 1, 1) := by decide +kernel
theorem dX4_takeNumber_90 : decode mX4_takeNumber.2.1 90 = .ok (.aload_n 0, 1) := by decide +kernel
theorem dX4_takeNumber_91 : decode mX4_takeNumber.2.1 91 = .ok (.getfield 47, 3) := by decide +kernel
theorem dX4_takeNumber_94 : decode mX4_takeNumber.2.1 94 = .ok (.ifCond .eq 12, 3) := by decide +kernel
theorem dX4_takeNumber_97 : decode mX4_takeNumber.2.1 97 = .ok (.aload_n 0, 1) := by decide +kernel
theorem dX4_takeNumber_98 : decode mX4_takeNumber.2.1 98 = .ok (.getfield 37, 3) := by decide +kernel
theorem dX4_takeNumber_101 : decode mX4_takeNumber.2.1 101 = .ok (.l2i, 1) := by decide +kernel
theorem dX4_takeNumber_102 : decode mX4_takeNumber.2.1 102 = .ok (.ineg, 1) := by decide +kernel
theorem dX4_takeNumber_103 : decode mX4_takeNumber.2.1 103 = .ok (.goto 8, 3) := by decide +kernel
theorem dX4_takeNumber_106 : decode mX4_takeNumber.2.1 106 = .ok (.aload_n 0, 1) := by decide +kernel
theorem dX4_takeNumber_107 : decode mX4_takeNumber.2.1 107 = .ok (.getfield 37, 3) := by decide +kernel
theorem dX4_takeNumber_110 : decode mX4_takeNumber.2.1 110 = .ok (.l2i, 1) := by decide +kernel
theorem dX4_takeNumber_111 : decode mX4_takeNumber.2.1 111 = .ok (.invokevirtual 153, 3) := by decide +kernel
theorem dX4_takeNumber_114 : decode mX4_takeNumber.2.1 114 = .ok (.aload_n 0, 1) := by decide +kernel
theorem dX4_takeNumber_115 : decode mX4_takeNumber.2.1 115 = .ok (.iconst 0, 1) := by decide +kernel
theorem dX4_takeNumber_116 : decode mX4_takeNumber.2.1 116 = .ok (.putfield 47, 3) := by decide +kernel
theorem dX4_takeNumber_119 : decode mX4_takeNumber.2.1 119 = .ok (.return_, 1) := by decide +kernel
theorem dX4_isWithin_0 : decode mX4_isWithin.2.1 0 = .ok (.aload_n 0, 1) := by decide +kernel
theorem dX4_isWithin_1 : decode mX4_isWithin.2.1 1 = .ok (.getfield 41, 3) := by decide +kernel
theorem dX4_isWithin_4 : decode mX4_isWithin.2.1 4 = .ok (.tableswitch 98 6 10 #[36, 53, 69, 69, 81], 36) := by decide +kernel
theorem dX4_isWithin_40 : decode mX4_isWithin.2.1 40 = .ok (.iload_n 1, 1) := by decide +kernel
theorem dX4_isWithin_41 : decode mX4_isWithin.2.1 41 = .ok (.iconst 1, 1) := by decide +kernel
theorem dX4_isWithin_42 : decode mX4_isWithin.2.1 42 = .ok (.if_icmp .lt 13, 3) := by decide +kernel
theorem dX4_isWithin_45 : decode mX4_isWithin.2.1 45 = .ok (.iload_n 1, 1) := by decide +kernel
theorem dX4_isWithin_46 : decode mX4_isWithin.2.1 46 = .ok (.bipush 7, 2) := by decide +kernel
theorem dX4_isWithin_48 : decode mX4_isWithin.2.1 48 = .ok (.if_icmp .gt 7, 3) := by decide +kernel
theorem dX4_isWithin_51 : decode mX4_isWithin.2.1 51 = .ok (.iconst 1, 1) := by decide +kernel
theorem dX4_isWithin_52 : decode mX4_isWithin.2.1 52 = .ok (.goto 4, 3) := by decide +kernel
theorem dX4_isWithin_55 : decode mX4_isWithin.2.1 55 = .ok (.iconst 0, 1) := by decide +kernel
theorem dX4_isWithin_56 : decode mX4_isWithin.2.1 56 = .ok (.ireturn, 1) := by decide +kernel
theorem dX4_isWithin_57 : decode mX4_isWithin.2.1 57 = .ok (.iload_n 1, 1) := by decide +kernel
theorem dX4_isWithin_58 : decode mX4_isWithin.2.1 58 = .ok (.iconst 2, 1) := by decide +kernel
theorem dX4_isWithin_59 : decode mX4_isWithin.2.1 59 = .ok (.if_icmp .lt 12, 3) := by decide +kernel
theorem dX4_isWithin_62 : decode mX4_isWithin.2.1 62 = .ok (.iload_n 1, 1) := by decide +kernel
theorem dX4_isWithin_63 : decode mX4_isWithin.2.1 63 = .ok (.iconst 5, 1) := by decide +kernel
theorem dX4_isWithin_64 : decode mX4_isWithin.2.1 64 = .ok (.if_icmp .gt 7, 3) := by decide +kernel
theorem dX4_isWithin_67 : decode mX4_isWithin.2.1 67 = .ok (.iconst 1, 1) := by decide +kernel
theorem dX4_isWithin_68 : decode mX4_isWithin.2.1 68 = .ok (.goto 4, 3) := by decide +kernel
theorem dX4_isWithin_71 : decode mX4_isWithin.2.1 71 = .ok (.iconst 0, 1) := by decide +kernel
theorem dX4_isWithin_72 : decode mX4_isWithin.2.1 72 = .ok (.ireturn, 1) := by decide +kernel
theorem dX4_isWithin_73 : decode mX4_isWithin.2.1 73 = .ok (.iload_n 1, 1) := by decide +kernel
theorem dX4_isWithin_74 : decode mX4_isWithin.2.1 74 = .ok (.bipush 59, 2) := by decide +kernel
theorem dX4_isWithin_76 : decode mX4_isWithin.2.1 76 = .ok (.if_icmp .gt 7, 3) := by decide +kernel
theorem dX4_isWithin_79 : decode mX4_isWithin.2.1 79 = .ok (.iconst 1, 1) := by decide +kernel
theorem dX4_isWithin_80 : decode mX4_isWithin.2.1 80 = .ok (.goto 4, 3) := by decide +kernel
theorem dX4_isWithin_83 : decode mX4_isWithin.2.1 83 = .ok (.iconst 0, 1) := by decide +kernel
theorem dX4_isWithin_84 : decode mX4_isWithin.2.1 84 = .ok (.ireturn, 1) := by decide +kernel
theorem dX4_isWithin_85 : decode mX4_isWithin.2.1 85 = .ok (.iload_n 1, 1) := by decide +kernel
theorem dX4_isWithin_86 : decode mX4_isWithin.2.1 86 = .ok (.iconst 2, 1) := by decide +kernel
theorem dX4_isWithin_87 : decode mX4_isWithin.2.1 87 = .ok (.if_icmp .lt 13, 3) := by decide +kernel
theorem dX4_isWithin_90 : decode mX4_isWithin.2.1 90 = .ok (.iload_n 1, 1) := by decide +kernel
theorem dX4_isWithin_91 : decode mX4_isWithin.2.1 91 = .ok (.bipush 20, 2) := by decide +kernel
theorem dX4_isWithin_93 : decode mX4_isWithin.2.1 93 = .ok (.if_icmp .gt 7, 3) := by decide +kernel
theorem dX4_isWithin_96 : decode mX4_isWithin.2.1 96 = .ok (.iconst 1, 1) := by decide +kernel
theorem dX4_isWithin_97 : decode mX4_isWithin.2.1 97 = .ok (.goto 4, 3) := by decide +kernel
theorem dX4_isWithin_100 : decode mX4_isWithin.2.1 100 = .ok (.iconst 0, 1) := by decide +kernel
theorem dX4_isWithin_101 : decode mX4_isWithin.2.1 101 = .ok (.ireturn, 1) := by decide +kernel
theorem dX4_isWithin_102 : decode mX4_isWithin.2.1 102 = .ok (.iload_n 1, 1) := by decide +kernel
theorem dX4_isWithin_103 : decode mX4_isWithin.2.1 103 = .ok (.iconst 1, 1) := by decide +kernel
theorem dX4_isWithin_104 : decode mX4_isWithin.2.1 104 = .ok (.if_icmp .lt 13, 3) := by decide +kernel
theorem dX4_isWithin_107 : decode mX4_isWithin.2.1 107 = .ok (.iload_n 1, 1) := by decide +kernel
theorem dX4_isWithin_108 : decode mX4_isWithin.2.1 108 = .ok (.bipush 99, 2) := by decide +kernel
theorem dX4_isWithin_110 : decode mX4_isWithin.2.1 110 = .ok (.if_icmp .gt 7, 3) := by decide +kernel
theorem dX4_isWithin_113 : decode mX4_isWithin.2.1 113 = .ok (.iconst 1, 1) := by decide +kernel
theorem dX4_isWithin_114 : decode mX4_isWithin.2.1 114 = .ok (.goto 4, 3) := by decide +kernel
theorem dX4_isWithin_117 : decode mX4_isWithin.2.1 117 = .ok (.iconst 0, 1) := by decide +kernel
theorem dX4_isWithin_118 : decode mX4_isWithin.2.1 118 = .ok (.ireturn, 1) := by decide +kernel
theorem dX4_keepNumber_0 : decode mX4_keepNumber.2.1 0 = .ok (.aload_n 0, 1) := by decide +kernel
theorem dX4_keepNumber_1 : decode mX4_keepNumber.2.1 1 = .ok (.getfield 41, 3) := by decide +kernel
theorem dX4_keepNumber_4 : decode mX4_keepNumber.2.1 4 = .ok (.tableswitch 127 6 10 #[36, 54, 72, 91, 109], 36) := by decide +kernel
theorem dX4_keepNumber_40 : decode mX4_keepNumber.2.1 40 = .ok (.aload_n 1, 1) := by decide +kernel
theorem dX4_keepNumber_41 : decode mX4_keepNumber.2.1 41 = .ok (.getfield 147, 3) := by decide +kernel
theorem dX4_keepNumber_44 : decode mX4_keepNumber.2.1 44 = .ok (.aload_n 0, 1) := by decide +kernel
theorem dX4_keepNumber_45 : decode mX4_keepNumber.2.1 45 = .ok (.getfield 44, 3) := by decide +kernel
theorem dX4_keepNumber_48 : decode mX4_keepNumber.2.1 48 = .ok (.iload_n 2, 1) := by decide +kernel
theorem dX4_keepNumber_49 : decode mX4_keepNumber.2.1 49 = .ok (.iastore, 1) := by decide +kernel
theorem dX4_keepNumber_50 : decode mX4_keepNumber.2.1 50 = .ok (.aload_n 0, 1) := by decide +kernel
theorem dX4_keepNumber_51 : decode mX4_keepNumber.2.1 51 = .ok (.iconst 2, 1) := by decide +kernel
theorem dX4_keepNumber_52 : decode mX4_keepNumber.2.1 52 = .ok (.putfield 41, 3) := by decide +kernel
theorem dX4_keepNumber_55 : decode mX4_keepNumber.2.1 55 = .ok (.goto 91, 3) := by decide +kernel
theorem dX4_keepNumber_58 : decode mX4_keepNumber.2.1 58 = .ok (.aload_n 1, 1) := by decide +kernel
theorem dX4_keepNumber_59 : decode mX4_keepNumber.2.1 59 = .ok (.getfield 147, 3) := by decide +kernel
theorem dX4_keepNumber_62 : decode mX4_keepNumber.2.1 62 = .ok (.aload_n 0, 1) := by decide +kernel
theorem dX4_keepNumber_63 : decode mX4_keepNumber.2.1 63 = .ok (.getfield 44, 3) := by decide +kernel
theorem dX4_keepNumber_66 : decode mX4_keepNumber.2.1 66 = .ok (.iload_n 2, 1) := by decide +kernel
theorem dX4_keepNumber_67 : decode mX4_keepNumber.2.1 67 = .ok (.iastore, 1) := by decide +kernel
theorem dX4_keepNumber_68 : decode mX4_keepNumber.2.1 68 = .ok (.aload_n 0, 1) := by decide +kernel
theorem dX4_keepNumber_69 : decode mX4_keepNumber.2.1 69 = .ok (.iconst 5, 1) := by decide +kernel
theorem dX4_keepNumber_70 : decode mX4_keepNumber.2.1 70 = .ok (.putfield 41, 3) := by decide +kernel
theorem dX4_keepNumber_73 : decode mX4_keepNumber.2.1 73 = .ok (.goto 73, 3) := by decide +kernel
theorem dX4_keepNumber_76 : decode mX4_keepNumber.2.1 76 = .ok (.aload_n 1, 1) := by decide +kernel
theorem dX4_keepNumber_77 : decode mX4_keepNumber.2.1 77 = .ok (.getfield 147, 3) := by decide +kernel
theorem dX4_keepNumber_80 : decode mX4_keepNumber.2.1 80 = .ok (.aload_n 0, 1) := by decide +kernel
theorem dX4_keepNumber_81 : decode mX4_keepNumber.2.1 81 = .ok (.getfield 44, 3) := by decide +kernel
theorem dX4_keepNumber_84 : decode mX4_keepNumber.2.1 84 = .ok (.iload_n 2, 1) := by decide +kernel
theorem dX4_keepNumber_85 : decode mX4_keepNumber.2.1 85 = .ok (.iastore, 1) := by decide +kernel
theorem dX4_keepNumber_86 : decode mX4_keepNumber.2.1 86 = .ok (.aload_n 0, 1) := by decide +kernel
theorem dX4_keepNumber_87 : decode mX4_keepNumber.2.1 87 = .ok (.bipush 9, 2) := by decide +kernel
theorem dX4_keepNumber_89 : decode mX4_keepNumber.2.1 89 = .ok (.putfield 41, 3) := by decide +kernel
theorem dX4_keepNumber_92 : decode mX4_keepNumber.2.1 92 = .ok (.goto 54, 3) := by decide +kernel
theorem dX4_keepNumber_95 : decode mX4_keepNumber.2.1 95 = .ok (.aload_n 1, 1) := by decide +kernel
theorem dX4_keepNumber_96 : decode mX4_keepNumber.2.1 96 = .ok (.getfield 156, 3) := by decide +kernel
theorem dX4_keepNumber_99 : decode mX4_keepNumber.2.1 99 = .ok (.aload_n 0, 1) := by decide +kernel
theorem dX4_keepNumber_100 : decode mX4_keepNumber.2.1 100 = .ok (.getfield 44, 3) := by decide +kernel
theorem dX4_keepNumber_103 : decode mX4_keepNumber.2.1 103 = .ok (.iload_n 2, 1) := by decide +kernel
theorem dX4_keepNumber_104 : decode mX4_keepNumber.2.1 104 = .ok (.iastore, 1) := by decide +kernel
theorem dX4_keepNumber_105 : decode mX4_keepNumber.2.1 105 = .ok (.aload_n 0, 1) := by decide +kernel
theorem dX4_keepNumber_106 : decode mX4_keepNumber.2.1 106 = .ok (.iconst 5, 1) := by decide +kernel
theorem dX4_keepNumber_107 : decode mX4_keepNumber.2.1 107 = .ok (.putfield 41, 3) := by decide +kernel
theorem dX4_keepNumber_110 : decode mX4_keepNumber.2.1 110 = .ok (.goto 36, 3) := by decide +kernel
theorem dX4_keepNumber_113 : decode mX4_keepNumber.2.1 113 = .ok (.aload_n 1, 1) := by decide +kernel
theorem dX4_keepNumber_114 : decode mX4_keepNumber.2.1 114 = .ok (.getfield 147, 3) := by decide +kernel
theorem dX4_keepNumber_117 : decode mX4_keepNumber.2.1 117 = .ok (.aload_n 0, 1) := by decide +kernel
theorem dX4_keepNumber_118 : decode mX4_keepNumber.2.1 118 = .ok (.getfield 44, 3) := by decide +kernel
theorem dX4_keepNumber_121 : decode mX4_keepNumber.2.1 121 = .ok (.iload_n 2, 1) := by decide +kernel
theorem dX4_keepNumber_122 : decode mX4_keepNumber.2.1 122 = .ok (.iastore, 1) := by decide +kernel
theorem dX4_keepNumber_123 : decode mX4_keepNumber.2.1 123 = .ok (.aload_n 0, 1) := by decide +kernel
theorem dX4_keepNumber_124 : decode mX4_keepNumber.2.1 124 = .ok (.iconst 3, 1) := by decide +kernel
theorem dX4_keepNumber_125 : decode mX4_keepNumber.2.1 125 = .ok (.putfield 41, 3) := by decide +kernel
theorem dX4_keepNumber_128 : decode mX4_keepNumber.2.1 128 = .ok (.goto 18, 3) := by decide +kernel
theorem dX4_keepNumber_131 : decode mX4_keepNumber.2.1 131 = .ok (.aload_n 1, 1) := by decide +kernel
theorem dX4_keepNumber_132 : decode mX4_keepNumber.2.1 132 = .ok (.getfield 159, 3) := by decide +kernel
theorem dX4_keepNumber_135 : decode mX4_keepNumber.2.1 135 = .ok (.aload_n 0, 1) := by decide +kernel
theorem dX4_keepNumber_136 : decode mX4_keepNumber.2.1 136 = .ok (.getfield 44, 3) := by decide +kernel
theorem dX4_keepNumber_139 : decode mX4_keepNumber.2.1 139 = .ok (.iload_n 2, 1) := by decide +kernel
theorem dX4_keepNumber_140 : decode mX4_keepNumber.2.1 140 = .ok (.iastore, 1) := by decide +kernel
theorem dX4_keepNumber_141 : decode mX4_keepNumber.2.1 141 = .ok (.aload_n 0, 1) := by decide +kernel
theorem dX4_keepNumber_142 : decode mX4_keepNumber.2.1 142 = .ok (.iconst 2, 1) := by decide +kernel
theorem dX4_keepNumber_143 : decode mX4_keepNumber.2.1 143 = .ok (.putfield 41, 3) := by decide +kernel
theorem dX4_keepNumber_146 : decode mX4_keepNumber.2.1 146 = .ok (.return_, 1) := by decide +kernel
theorem dX4_isSign_0 : decode mX4_isSign.2.1 0 = .ok (.aload_n 0, 1) := by decide +kernel
theorem dX4_isSign_1 : decode mX4_isSign.2.1 1 = .ok (.getfield 31, 3) := by decide +kernel
theorem dX4_isSign_4 : decode mX4_isSign.2.1 4 = .ok (.iconst 4, 1) := by decide +kernel
theorem dX4_isSign_5 : decode mX4_isSign.2.1 5 = .ok (.if_icmp .ne 17, 3) := by decide +kernel
theorem dX4_isSign_8 : decode mX4_isSign.2.1 8 = .ok (.aload_n 0, 1) := by decide +kernel
theorem dX4_isSign_9 : decode mX4_isSign.2.1 9 = .ok (.getfield 37, 3) := by decide +kernel
theorem dX4_isSign_12 : decode mX4_isSign.2.1 12 = .ok (.iload_n 1, 1) := by decide +kernel
theorem dX4_isSign_13 : decode mX4_isSign.2.1 13 = .ok (.i2l, 1) := by decide +kernel
theorem dX4_isSign_14 : decode mX4_isSign.2.1 14 = .ok (.lcmp, 1) := by decide +kernel
theorem dX4_isSign_15 : decode mX4_isSign.2.1 15 = .ok (.ifCond .ne 7, 3) := by decide +kernel
theorem dX4_isSign_18 : decode mX4_isSign.2.1 18 = .ok (.iconst 1, 1) := by decide +kernel
theorem dX4_isSign_19 : decode mX4_isSign.2.1 19 = .ok (.goto 4, 3) := by decide +kernel
theorem dX4_isSign_22 : decode mX4_isSign.2.1 22 = .ok (.iconst 0, 1) := by decide +kernel
theorem dX4_isSign_23 : decode mX4_isSign.2.1 23 = .ok (.ireturn, 1) := by decide +kernel
theorem dX4_fail_0 : decode mX4_fail.2.1 0 = .ok (.aload_n 0, 1) := by decide +kernel
theorem dX4_fail_1 : decode mX4_fail.2.1 1 = .ok (.iload_n 1, 1) := by decide +kernel
theorem dX4_fail_2 : decode mX4_fail.2.1 2 = .ok (.putfield 19, 3) := by decide +kernel
theorem dX4_fail_5 : decode mX4_fail.2.1 5 = .ok (.aload_n 0, 1) := by decide +kernel
theorem dX4_fail_6 : decode mX4_fail.2.1 6 = .ok (.aload_n 0, 1) := by decide +kernel
theorem dX4_fail_7 : decode mX4_fail.2.1 7 = .ok (.getfield 34, 3) := by decide +kernel
theorem dX4_fail_10 : decode mX4_fail.2.1 10 = .ok (.putfield 22, 3) := by decide +kernel
theorem dX4_fail_13 : decode mX4_fail.2.1 13 = .ok (.return_, 1) := by decide +kernel
theorem dX4_nextToken_0 : decode mX4_nextToken.2.1 0 = .ok (.aload_n 0, 1) := by decide +kernel
theorem dX4_nextToken_1 : decode mX4_nextToken.2.1 1 = .ok (.invokevirtual 162, 3) := by decide +kernel
theorem dX4_nextToken_4 : decode mX4_nextToken.2.1 4 = .ok (.aload_n 0, 1) := by decide +kernel
theorem dX4_nextToken_5 : decode mX4_nextToken.2.1 5 = .ok (.aload_n 0, 1) := by decide +kernel
theorem dX4_nextToken_6 : decode mX4_nextToken.2.1 6 = .ok (.getfield 28, 3) := by decide +kernel
theorem dX4_nextToken_9 : decode mX4_nextToken.2.1 9 = .ok (.putfield 34, 3) := by decide +kernel
theorem dX4_nextToken_12 : decode mX4_nextToken.2.1 12 = .ok (.aload_n 0, 1) := by decide +kernel
theorem dX4_nextToken_13 : decode mX4_nextToken.2.1 13 = .ok (.lconst 0, 1) := by decide +kernel
theorem dX4_nextToken_14 : decode mX4_nextToken.2.1 14 = .ok (.putfield 37, 3) := by decide +kernel
theorem dX4_nextToken_17 : decode mX4_nextToken.2.1 17 = .ok (.aload_n 0, 1) := by decide +kernel
theorem dX4_nextToken_18 : decode mX4_nextToken.2.1 18 = .ok (.getfield 28, 3) := by decide +kernel
theorem dX4_nextToken_21 : decode mX4_nextToken.2.1 21 = .ok (.aload_n 0, 1) := by decide +kernel
theorem dX4_nextToken_22 : decode mX4_nextToken.2.1 22 = .ok (.getfield 25, 3) := by decide +kernel
theorem dX4_nextToken_25 : decode mX4_nextToken.2.1 25 = .ok (.if_icmp .lt 11, 3) := by decide +kernel
theorem dX4_nextToken_28 : decode mX4_nextToken.2.1 28 = .ok (.aload_n 0, 1) := by decide +kernel
theorem dX4_nextToken_29 : decode mX4_nextToken.2.1 29 = .ok (.iconst 1, 1) := by decide +kernel
theorem dX4_nextToken_30 : decode mX4_nextToken.2.1 30 = .ok (.putfield 31, 3) := by decide +kernel
theorem dX4_nextToken_33 : decode mX4_nextToken.2.1 33 = .ok (.goto 51, 3) := by decide +kernel
theorem dX4_nextToken_36 : decode mX4_nextToken.2.1 36 = .ok (.aload_n 0, 1) := by decide +kernel
theorem dX4_nextToken_37 : decode mX4_nextToken.2.1 37 = .ok (.getfield 11, 3) := by decide +kernel
theorem dX4_nextToken_40 : decode mX4_nextToken.2.1 40 = .ok (.aload_n 0, 1) := by decide +kernel
theorem dX4_nextToken_41 : decode mX4_nextToken.2.1 41 = .ok (.getfield 28, 3) := by decide +kernel
theorem dX4_nextToken_44 : decode mX4_nextToken.2.1 44 = .ok (.iaload, 1) := by decide +kernel
theorem dX4_nextToken_45 : decode mX4_nextToken.2.1 45 = .ok (.invokestatic 165, 3) := by decide +kernel
theorem dX4_nextToken_48 : decode mX4_nextToken.2.1 48 = .ok (.ifCond .eq 10, 3) := by decide +kernel
theorem dX4_nextToken_51 : decode mX4_nextToken.2.1 51 = .ok (.aload_n 0, 1) := by decide +kernel
theorem dX4_nextToken_52 : decode mX4_nextToken.2.1 52 = .ok (.invokevirtual 168, 3) := by decide +kernel
theorem dX4_nextToken_55 : decode mX4_nextToken.2.1 55 = .ok (.goto 29, 3) := by decide +kernel
theorem dX4_nextToken_58 : decode mX4_nextToken.2.1 58 = .ok (.aload_n 0, 1) := by decide +kernel
theorem dX4_nextToken_59 : decode mX4_nextToken.2.1 59 = .ok (.getfield 11, 3) := by decide +kernel
theorem dX4_nextToken_62 : decode mX4_nextToken.2.1 62 = .ok (.aload_n 0, 1) := by decide +kernel
theorem dX4_nextToken_63 : decode mX4_nextToken.2.1 63 = .ok (.getfield 28, 3) := by decide +kernel
theorem dX4_nextToken_66 : decode mX4_nextToken.2.1 66 = .ok (.iaload, 1) := by decide +kernel
theorem dX4_nextToken_67 : decode mX4_nextToken.2.1 67 = .ok (.invokestatic 171, 3) := by decide +kernel
theorem dX4_nextToken_70 : decode mX4_nextToken.2.1 70 = .ok (.ifCond .eq 10, 3) := by decide +kernel
theorem dX4_nextToken_73 : decode mX4_nextToken.2.1 73 = .ok (.aload_n 0, 1) := by decide +kernel
theorem dX4_nextToken_74 : decode mX4_nextToken.2.1 74 = .ok (.invokevirtual 174, 3) := by decide +kernel
theorem dX4_nextToken_77 : decode mX4_nextToken.2.1 77 = .ok (.goto 7, 3) := by decide +kernel
theorem dX4_nextToken_80 : decode mX4_nextToken.2.1 80 = .ok (.aload_n 0, 1) := by decide +kernel
theorem dX4_nextToken_81 : decode mX4_nextToken.2.1 81 = .ok (.invokevirtual 177, 3) := by decide +kernel
theorem dX4_nextToken_84 : decode mX4_nextToken.2.1 84 = .ok (.return_, 1) := by decide +kernel
theorem dX4_skipBlanks_0 : decode mX4_skipBlanks.2.1 0 = .ok (.aload_n 0, 1) := by decide +kernel
theorem dX4_skipBlanks_1 : decode mX4_skipBlanks.2.1 1 = .ok (.getfield 28, 3) := by decide +kernel
theorem dX4_skipBlanks_4 : decode mX4_skipBlanks.2.1 4 = .ok (.istore_n 1, 1) := by decide +kernel
theorem dX4_skipBlanks_5 : decode mX4_skipBlanks.2.1 5 = .ok (.iload_n 1, 1) := by decide +kernel
theorem dX4_skipBlanks_6 : decode mX4_skipBlanks.2.1 6 = .ok (.aload_n 0, 1) := by decide +kernel
theorem dX4_skipBlanks_7 : decode mX4_skipBlanks.2.1 7 = .ok (.getfield 25, 3) := by decide +kernel
theorem dX4_skipBlanks_10 : decode mX4_skipBlanks.2.1 10 = .ok (.if_icmp .ge 38, 3) := by decide +kernel
theorem dX4_skipBlanks_13 : decode mX4_skipBlanks.2.1 13 = .ok (.aload_n 0, 1) := by decide +kernel
theorem dX4_skipBlanks_14 : decode mX4_skipBlanks.2.1 14 = .ok (.getfield 11, 3) := by decide +kernel
theorem dX4_skipBlanks_17 : decode mX4_skipBlanks.2.1 17 = .ok (.iload_n 1, 1) := by decide +kernel
theorem dX4_skipBlanks_18 : decode mX4_skipBlanks.2.1 18 = .ok (.iaload, 1) := by decide +kernel
theorem dX4_skipBlanks_19 : decode mX4_skipBlanks.2.1 19 = .ok (.bipush 10, 2) := by decide +kernel
theorem dX4_skipBlanks_21 : decode mX4_skipBlanks.2.1 21 = .ok (.if_icmp .eq 14, 3) := by decide +kernel
theorem dX4_skipBlanks_24 : decode mX4_skipBlanks.2.1 24 = .ok (.aload_n 0, 1) := by decide +kernel
theorem dX4_skipBlanks_25 : decode mX4_skipBlanks.2.1 25 = .ok (.getfield 11, 3) := by decide +kernel
theorem dX4_skipBlanks_28 : decode mX4_skipBlanks.2.1 28 = .ok (.iload_n 1, 1) := by decide +kernel
theorem dX4_skipBlanks_29 : decode mX4_skipBlanks.2.1 29 = .ok (.iaload, 1) := by decide +kernel
theorem dX4_skipBlanks_30 : decode mX4_skipBlanks.2.1 30 = .ok (.bipush 32, 2) := by decide +kernel
theorem dX4_skipBlanks_32 : decode mX4_skipBlanks.2.1 32 = .ok (.if_icmp .ne 16, 3) := by decide +kernel
theorem dX4_skipBlanks_35 : decode mX4_skipBlanks.2.1 35 = .ok (.aload_n 0, 1) := by decide +kernel
theorem dX4_skipBlanks_36 : decode mX4_skipBlanks.2.1 36 = .ok (.iload_n 1, 1) := by decide +kernel
theorem dX4_skipBlanks_37 : decode mX4_skipBlanks.2.1 37 = .ok (.iconst 1, 1) := by decide +kernel
theorem dX4_skipBlanks_38 : decode mX4_skipBlanks.2.1 38 = .ok (.iadd, 1) := by decide +kernel
theorem dX4_skipBlanks_39 : decode mX4_skipBlanks.2.1 39 = .ok (.putfield 28, 3) := by decide +kernel
theorem dX4_skipBlanks_42 : decode mX4_skipBlanks.2.1 42 = .ok (.iinc 1 1, 3) := by decide +kernel
theorem dX4_skipBlanks_45 : decode mX4_skipBlanks.2.1 45 = .ok (.goto (-40), 3) := by decide +kernel
theorem dX4_skipBlanks_48 : decode mX4_skipBlanks.2.1 48 = .ok (.return_, 1) := by decide +kernel
theorem dX4_scanWord_0 : decode mX4_scanWord.2.1 0 = .ok (.aload_n 0, 1) := by decide +kernel
theorem dX4_scanWord_1 : decode mX4_scanWord.2.1 1 = .ok (.getfield 28, 3) := by decide +kernel
theorem dX4_scanWord_4 : decode mX4_scanWord.2.1 4 = .ok (.istore_n 1, 1) := by decide +kernel
theorem dX4_scanWord_5 : decode mX4_scanWord.2.1 5 = .ok (.iload_n 1, 1) := by decide +kernel
theorem dX4_scanWord_6 : decode mX4_scanWord.2.1 6 = .ok (.istore_n 2, 1) := by decide +kernel
theorem dX4_scanWord_7 : decode mX4_scanWord.2.1 7 = .ok (.iload_n 2, 1) := by decide +kernel
theorem dX4_scanWord_8 : decode mX4_scanWord.2.1 8 = .ok (.aload_n 0, 1) := by decide +kernel
theorem dX4_scanWord_9 : decode mX4_scanWord.2.1 9 = .ok (.getfield 25, 3) := by decide +kernel
theorem dX4_scanWord_12 : decode mX4_scanWord.2.1 12 = .ok (.if_icmp .ge 51, 3) := by decide +kernel
theorem dX4_scanWord_15 : decode mX4_scanWord.2.1 15 = .ok (.aload_n 0, 1) := by decide +kernel
theorem dX4_scanWord_16 : decode mX4_scanWord.2.1 16 = .ok (.getfield 11, 3) := by decide +kernel
theorem dX4_scanWord_19 : decode mX4_scanWord.2.1 19 = .ok (.iload_n 2, 1) := by decide +kernel
theorem dX4_scanWord_20 : decode mX4_scanWord.2.1 20 = .ok (.iaload, 1) := by decide +kernel
theorem dX4_scanWord_21 : decode mX4_scanWord.2.1 21 = .ok (.invokestatic 165, 3) := by decide +kernel
theorem dX4_scanWord_24 : decode mX4_scanWord.2.1 24 = .ok (.ifCond .eq 39, 3) := by decide +kernel
theorem dX4_scanWord_27 : decode mX4_scanWord.2.1 27 = .ok (.aload_n 0, 1) := by decide +kernel
theorem dX4_scanWord_28 : decode mX4_scanWord.2.1 28 = .ok (.aload_n 0, 1) := by decide +kernel
theorem dX4_scanWord_29 : decode mX4_scanWord.2.1 29 = .ok (.getfield 37, 3) := by decide +kernel
theorem dX4_scanWord_32 : decode mX4_scanWord.2.1 32 = .ok (.iconst 5, 1) := by decide +kernel
theorem dX4_scanWord_33 : decode mX4_scanWord.2.1 33 = .ok (.lshl, 1) := by decide +kernel
theorem dX4_scanWord_34 : decode mX4_scanWord.2.1 34 = .ok (.aload_n 0, 1) := by decide +kernel
theorem dX4_scanWord_35 : decode mX4_scanWord.2.1 35 = .ok (.getfield 11, 3) := by decide +kernel
theorem dX4_scanWord_38 : decode mX4_scanWord.2.1 38 = .ok (.iload_n 2, 1) := by decide +kernel
theorem dX4_scanWord_39 : decode mX4_scanWord.2.1 39 = .ok (.iaload, 1) := by decide +kernel
theorem dX4_scanWord_40 : decode mX4_scanWord.2.1 40 = .ok (.bipush 97, 2) := by decide +kernel
theorem dX4_scanWord_42 : decode mX4_scanWord.2.1 42 = .ok (.isub, 1) := by decide +kernel
theorem dX4_scanWord_43 : decode mX4_scanWord.2.1 43 = .ok (.iconst 1, 1) := by decide +kernel
theorem dX4_scanWord_44 : decode mX4_scanWord.2.1 44 = .ok (.iadd, 1) := by decide +kernel
theorem dX4_scanWord_45 : decode mX4_scanWord.2.1 45 = .ok (.i2l, 1) := by decide +kernel
theorem dX4_scanWord_46 : decode mX4_scanWord.2.1 46 = .ok (.lor, 1) := by decide +kernel
theorem dX4_scanWord_47 : decode mX4_scanWord.2.1 47 = .ok (.putfield 37, 3) := by decide +kernel
theorem dX4_scanWord_50 : decode mX4_scanWord.2.1 50 = .ok (.aload_n 0, 1) := by decide +kernel
theorem dX4_scanWord_51 : decode mX4_scanWord.2.1 51 = .ok (.iload_n 2, 1) := by decide +kernel
theorem dX4_scanWord_52 : decode mX4_scanWord.2.1 52 = .ok (.iconst 1, 1) := by decide +kernel
theorem dX4_scanWord_53 : decode mX4_scanWord.2.1 53 = .ok (.iadd, 1) := by decide +kernel
theorem dX4_scanWord_54 : decode mX4_scanWord.2.1 54 = .ok (.putfield 28, 3) := by decide +kernel
theorem dX4_scanWord_57 : decode mX4_scanWord.2.1 57 = .ok (.iinc 2 1, 3) := by decide +kernel
theorem dX4_scanWord_60 : decode mX4_scanWord.2.1 60 = .ok (.goto (-53), 3) := by decide +kernel
theorem dX4_scanWord_63 : decode mX4_scanWord.2.1 63 = .ok (.aload_n 0, 1) := by decide +kernel
theorem dX4_scanWord_64 : decode mX4_scanWord.2.1 64 = .ok (.iconst 2, 1) := by decide +kernel
theorem dX4_scanWord_65 : decode mX4_scanWord.2.1 65 = .ok (.putfield 31, 3) := by decide +kernel
theorem dX4_scanWord_68 : decode mX4_scanWord.2.1 68 = .ok (.aload_n 0, 1) := by decide +kernel
theorem dX4_scanWord_69 : decode mX4_scanWord.2.1 69 = .ok (.getfield 28, 3) := by decide +kernel
theorem dX4_scanWord_72 : decode mX4_scanWord.2.1 72 = .ok (.iload_n 1, 1) := by decide +kernel
theorem dX4_scanWord_73 : decode mX4_scanWord.2.1 73 = .ok (.isub, 1) := by decide +kernel
theorem dX4_scanWord_74 : decode mX4_scanWord.2.1 74 = .ok (.bipush 8, 2) := by decide +kernel
theorem dX4_scanWord_76 : decode mX4_scanWord.2.1 76 = .ok (.if_icmp .le 10, 3) := by decide +kernel
theorem dX4_scanWord_79 : decode mX4_scanWord.2.1 79 = .ok (.aload_n 0, 1) := by decide +kernel
theorem dX4_scanWord_80 : decode mX4_scanWord.2.1 80 = .ok (.ldc2_w 180, 3) := by decide +kernel
theorem dX4_scanWord_83 : decode mX4_scanWord.2.1 83 = .ok (.putfield 37, 3) := by decide +kernel
theorem dX4_scanWord_86 : decode mX4_scanWord.2.1 86 = .ok (.return_, 1) := by decide +kernel
theorem dX4_scanNumber_0 : decode mX4_scanNumber.2.1 0 = .ok (.aload_n 0, 1) := by decide +kernel
theorem dX4_scanNumber_1 : decode mX4_scanNumber.2.1 1 = .ok (.getfield 28, 3) := by decide +kernel
theorem dX4_scanNumber_4 : decode mX4_scanNumber.2.1 4 = .ok (.istore_n 1, 1) := by decide +kernel
theorem dX4_scanNumber_5 : decode mX4_scanNumber.2.1 5 = .ok (.iload_n 1, 1) := by decide +kernel
theorem dX4_scanNumber_6 : decode mX4_scanNumber.2.1 6 = .ok (.istore_n 2, 1) := by decide +kernel
theorem dX4_scanNumber_7 : decode mX4_scanNumber.2.1 7 = .ok (.iload_n 2, 1) := by decide +kernel
theorem dX4_scanNumber_8 : decode mX4_scanNumber.2.1 8 = .ok (.aload_n 0, 1) := by decide +kernel
theorem dX4_scanNumber_9 : decode mX4_scanNumber.2.1 9 = .ok (.getfield 25, 3) := by decide +kernel
theorem dX4_scanNumber_12 : decode mX4_scanNumber.2.1 12 = .ok (.if_icmp .ge 55, 3) := by decide +kernel
theorem dX4_scanNumber_15 : decode mX4_scanNumber.2.1 15 = .ok (.aload_n 0, 1) := by decide +kernel
theorem dX4_scanNumber_16 : decode mX4_scanNumber.2.1 16 = .ok (.getfield 11, 3) := by decide +kernel
theorem dX4_scanNumber_19 : decode mX4_scanNumber.2.1 19 = .ok (.iload_n 2, 1) := by decide +kernel
theorem dX4_scanNumber_20 : decode mX4_scanNumber.2.1 20 = .ok (.iaload, 1) := by decide +kernel
theorem dX4_scanNumber_21 : decode mX4_scanNumber.2.1 21 = .ok (.invokestatic 171, 3) := by decide +kernel
theorem dX4_scanNumber_24 : decode mX4_scanNumber.2.1 24 = .ok (.ifCond .eq 43, 3) := by decide +kernel
theorem dX4_scanNumber_27 : decode mX4_scanNumber.2.1 27 = .ok (.aload_n 0, 1) := by decide +kernel
theorem dX4_scanNumber_28 : decode mX4_scanNumber.2.1 28 = .ok (.aload_n 0, 1) := by decide +kernel
theorem dX4_scanNumber_29 : decode mX4_scanNumber.2.1 29 = .ok (.getfield 37, 3) := by decide +kernel
theorem dX4_scanNumber_32 : decode mX4_scanNumber.2.1 32 = .ok (.ldc2_w 182, 3) := by decide +kernel
theorem dX4_scanNumber_35 : decode mX4_scanNumber.2.1 35 = .ok (.lmul, 1) := by decide +kernel
theorem dX4_scanNumber_36 : decode mX4_scanNumber.2.1 36 = .ok (.aload_n 0, 1) := by decide +kernel
theorem dX4_scanNumber_37 : decode mX4_scanNumber.2.1 37 = .ok (.getfield 11, 3) := by decide +kernel
theorem dX4_scanNumber_40 : decode mX4_scanNumber.2.1 40 = .ok (.iload_n 2, 1) := by decide +kernel
theorem dX4_scanNumber_41 : decode mX4_scanNumber.2.1 41 = .ok (.iaload, 1) := by decide +kernel
theorem dX4_scanNumber_42 : decode mX4_scanNumber.2.1 42 = .ok (.bipush 48, 2) := by decide +kernel
theorem dX4_scanNumber_44 : decode mX4_scanNumber.2.1 44 = .ok (.isub, 1) := by decide +kernel
theorem dX4_scanNumber_45 : decode mX4_scanNumber.2.1 45 = .ok (.i2l, 1) := by decide +kernel
theorem dX4_scanNumber_46 : decode mX4_scanNumber.2.1 46 = .ok (.ladd, 1) := by decide +kernel
theorem dX4_scanNumber_47 : decode mX4_scanNumber.2.1 47 = .ok (.ldc2_w 184, 3) := by decide +kernel
theorem dX4_scanNumber_50 : decode mX4_scanNumber.2.1 50 = .ok (.lrem, 1) := by decide +kernel
theorem dX4_scanNumber_51 : decode mX4_scanNumber.2.1 51 = .ok (.putfield 37, 3) := by decide +kernel
theorem dX4_scanNumber_54 : decode mX4_scanNumber.2.1 54 = .ok (.aload_n 0, 1) := by decide +kernel
theorem dX4_scanNumber_55 : decode mX4_scanNumber.2.1 55 = .ok (.iload_n 2, 1) := by decide +kernel
theorem dX4_scanNumber_56 : decode mX4_scanNumber.2.1 56 = .ok (.iconst 1, 1) := by decide +kernel
theorem dX4_scanNumber_57 : decode mX4_scanNumber.2.1 57 = .ok (.iadd, 1) := by decide +kernel
theorem dX4_scanNumber_58 : decode mX4_scanNumber.2.1 58 = .ok (.putfield 28, 3) := by decide +kernel
theorem dX4_scanNumber_61 : decode mX4_scanNumber.2.1 61 = .ok (.iinc 2 1, 3) := by decide +kernel
theorem dX4_scanNumber_64 : decode mX4_scanNumber.2.1 64 = .ok (.goto (-57), 3) := by decide +kernel
theorem dX4_scanNumber_67 : decode mX4_scanNumber.2.1 67 = .ok (.aload_n 0, 1) := by decide +kernel
theorem dX4_scanNumber_68 : decode mX4_scanNumber.2.1 68 = .ok (.aload_n 0, 1) := by decide +kernel
theorem dX4_scanNumber_69 : decode mX4_scanNumber.2.1 69 = .ok (.getfield 28, 3) := by decide +kernel
theorem dX4_scanNumber_72 : decode mX4_scanNumber.2.1 72 = .ok (.iload_n 1, 1) := by decide +kernel
theorem dX4_scanNumber_73 : decode mX4_scanNumber.2.1 73 = .ok (.isub, 1) := by decide +kernel
theorem dX4_scanNumber_74 : decode mX4_scanNumber.2.1 74 = .ok (.iconst 3, 1) := by decide +kernel
theorem dX4_scanNumber_75 : decode mX4_scanNumber.2.1 75 = .ok (.if_icmp .le 7, 3) := by decide +kernel
theorem dX4_scanNumber_78 : decode mX4_scanNumber.2.1 78 = .ok (.iconst 0, 1) := by decide +kernel
theorem dX4_scanNumber_79 : decode mX4_scanNumber.2.1 79 = .ok (.goto 4, 3) := by decide +kernel
theorem dX4_scanNumber_82 : decode mX4_scanNumber.2.1 82 = .ok (.iconst 3, 1) := by decide +kernel
theorem dX4_scanNumber_83 : decode mX4_scanNumber.2.1 83 = .ok (.putfield 31, 3) := by decide +kernel
theorem dX4_scanNumber_86 : decode mX4_scanNumber.2.1 86 = .ok (.return_, 1) := by decide +kernel
theorem dX4_scanSign_0 : decode mX4_scanSign.2.1 0 = .ok (.aload_n 0, 1) := by decide +kernel
theorem dX4_scanSign_1 : decode mX4_scanSign.2.1 1 = .ok (.getfield 11, 3) := by decide +kernel
theorem dX4_scanSign_4 : decode mX4_scanSign.2.1 4 = .ok (.aload_n 0, 1) := by decide +kernel
theorem dX4_scanSign_5 : decode mX4_scanSign.2.1 5 = .ok (.getfield 28, 3) := by decide +kernel
theorem dX4_scanSign_8 : decode mX4_scanSign.2.1 8 = .ok (.iaload, 1) := by decide +kernel
theorem dX4_scanSign_9 : decode mX4_scanSign.2.1 9 = .ok (.istore_n 1, 1) := by decide +kernel
theorem dX4_scanSign_10 : decode mX4_scanSign.2.1 10 = .ok (.iload_n 1, 1) := by decide +kernel
theorem dX4_scanSign_11 : decode mX4_scanSign.2.1 11 = .ok (.bipush 58, 2) := by decide +kernel
theorem dX4_scanSign_13 : decode mX4_scanSign.2.1 13 = .ok (.if_icmp .eq 27, 3) := by decide +kernel
theorem dX4_scanSign_16 : decode mX4_scanSign.2.1 16 = .ok (.iload_n 1, 1) := by decide +kernel
theorem dX4_scanSign_17 : decode mX4_scanSign.2.1 17 = .ok (.bipush 59, 2) := by decide +kernel
theorem dX4_scanSign_19 : decode mX4_scanSign.2.1 19 = .ok (.if_icmp .eq 21, 3) := by decide +kernel
theorem dX4_scanSign_22 : decode mX4_scanSign.2.1 22 = .ok (.iload_n 1, 1) := by decide +kernel
theorem dX4_scanSign_23 : decode mX4_scanSign.2.1 23 = .ok (.bipush 123, 2) := by decide +kernel
theorem dX4_scanSign_25 : decode mX4_scanSign.2.1 25 = .ok (.if_icmp .eq 15, 3) := by decide +kernel
theorem dX4_scanSign_28 : decode mX4_scanSign.2.1 28 = .ok (.iload_n 1, 1) := by decide +kernel
theorem dX4_scanSign_29 : decode mX4_scanSign.2.1 29 = .ok (.bipush 125, 2) := by decide +kernel
theorem dX4_scanSign_31 : decode mX4_scanSign.2.1 31 = .ok (.if_icmp .eq 9, 3) := by decide +kernel
theorem dX4_scanSign_34 : decode mX4_scanSign.2.1 34 = .ok (.iload_n 1, 1) := by decide +kernel
theorem dX4_scanSign_35 : decode mX4_scanSign.2.1 35 = .ok (.bipush 45, 2) := by decide +kernel
theorem dX4_scanSign_37 : decode mX4_scanSign.2.1 37 = .ok (.if_icmp .ne 7, 3) := by decide +kernel
theorem dX4_scanSign_40 : decode mX4_scanSign.2.1 40 = .ok (.iconst 1, 1) := by decide +kernel
theorem dX4_scanSign_41 : decode mX4_scanSign.2.1 41 = .ok (.goto 4, 3) := by decide +kernel
theorem dX4_scanSign_44 : decode mX4_scanSign.2.1 44 = .ok (.iconst 0, 1) := by decide +kernel
theorem dX4_scanSign_45 : decode mX4_scanSign.2.1 45 = .ok (.istore_n 2, 1) := by decide +kernel
theorem dX4_scanSign_46 : decode mX4_scanSign.2.1 46 = .ok (.aload_n 0, 1) := by decide +kernel
theorem dX4_scanSign_47 : decode mX4_scanSign.2.1 47 = .ok (.iload_n 2, 1) := by decide +kernel
theorem dX4_scanSign_48 : decode mX4_scanSign.2.1 48 = .ok (.ifCond .eq 7, 3) := by decide +kernel
theorem dX4_scanSign_51 : decode mX4_scanSign.2.1 51 = .ok (.iconst 4, 1) := by decide +kernel
theorem dX4_scanSign_52 : decode mX4_scanSign.2.1 52 = .ok (.goto 4, 3) := by decide +kernel
theorem dX4_scanSign_55 : decode mX4_scanSign.2.1 55 = .ok (.iconst 0, 1) := by decide +kernel
theorem dX4_scanSign_56 : decode mX4_scanSign.2.1 56 = .ok (.putfield 31, 3) := by decide +kernel
theorem dX4_scanSign_59 : decode mX4_scanSign.2.1 59 = .ok (.aload_n 0, 1) := by decide +kernel
theorem dX4_scanSign_60 : decode mX4_scanSign.2.1 60 = .ok (.iload_n 1, 1) := by decide +kernel
theorem dX4_scanSign_61 : decode mX4_scanSign.2.1 61 = .ok (.i2l, 1) := by decide +kernel
theorem dX4_scanSign_62 : decode mX4_scanSign.2.1 62 = .ok (.putfield 37, 3) := by decide +kernel
theorem dX4_scanSign_65 : decode mX4_scanSign.2.1 65 = .ok (.aload_n 0, 1) := by decide +kernel
theorem dX4_scanSign_66 : decode mX4_scanSign.2.1 66 = .ok (.dup, 1) := by decide +kernel
theorem dX4_scanSign_67 : decode mX4_scanSign.2.1 67 = .ok (.getfield 28, 3) := by decide +kernel
theorem dX4_scanSign_70 : decode mX4_scanSign.2.1 70 = .ok (.iconst 1, 1) := by decide +kernel
theorem dX4_scanSign_71 : decode mX4_scanSign.2.1 71 = .ok (.iadd, 1) := by decide +kernel
theorem dX4_scanSign_72 : decode mX4_scanSign.2.1 72 = .ok (.putfield 28, 3) := by decide +kernel
theorem dX4_scanSign_75 : decode mX4_scanSign.2.1 75 = .ok (.return_, 1) := by decide +kernel
theorem dX4_kindOf_0 : decode mX4_kindOf.2.1 0 = .ok (.iconst 0, 1) := by decide +kernel
theorem dX4_kindOf_1 : decode mX4_kindOf.2.1 1 = .ok (.istore_n 2, 1) := by decide +kernel
theorem dX4_kindOf_2 : decode mX4_kindOf.2.1 2 = .ok (.iload_n 2, 1) := by decide +kernel
theorem dX4_kindOf_3 : decode mX4_kindOf.2.1 3 = .ok (.getstatic 186, 3) := by decide +kernel
theorem dX4_kindOf_6 : decode mX4_kindOf.2.1 6 = .ok (.arraylength, 1) := by decide +kernel
theorem dX4_kindOf_7 : decode mX4_kindOf.2.1 7 = .ok (.if_icmp .ge 21, 3) := by decide +kernel
theorem dX4_kindOf_10 : decode mX4_kindOf.2.1 10 = .ok (.getstatic 186, 3) := by decide +kernel
theorem dX4_kindOf_13 : decode mX4_kindOf.2.1 13 = .ok (.iload_n 2, 1) := by decide +kernel
theorem dX4_kindOf_14 : decode mX4_kindOf.2.1 14 = .ok (.laload, 1) := by decide +kernel
theorem dX4_kindOf_15 : decode mX4_kindOf.2.1 15 = .ok (.lload_n 0, 1) := by decide +kernel
theorem dX4_kindOf_16 : decode mX4_kindOf.2.1 16 = .ok (.lcmp, 1) := by decide +kernel
theorem dX4_kindOf_17 : decode mX4_kindOf.2.1 17 = .ok (.ifCond .ne 5, 3) := by decide +kernel
theorem dX4_kindOf_20 : decode mX4_kindOf.2.1 20 = .ok (.iload_n 2, 1) := by decide +kernel
theorem dX4_kindOf_21 : decode mX4_kindOf.2.1 21 = .ok (.ireturn, 1) := by decide +kernel
theorem dX4_kindOf_22 : decode mX4_kindOf.2.1 22 = .ok (.iinc 2 1, 3) := by decide +kernel
theorem dX4_kindOf_25 : decode mX4_kindOf.2.1 25 = .ok (.goto (-23), 3) := by decide +kernel
theorem dX4_kindOf_28 : decode mX4_kindOf.2.1 28 = .ok (.iconst (-1), 1) := by decide +kernel
theorem dX4_kindOf_29 : decode mX4_kindOf.2.1 29 = .ok (.ireturn, 1) := by decide +kernel
theorem dX4_isLetter_0 : decode mX4_isLetter.2.1 0 = .ok (.iload_n 0, 1) := by decide +kernel
theorem dX4_isLetter_1 : decode mX4_isLetter.2.1 1 = .ok (.bipush 97, 2) := by decide +kernel
theorem dX4_isLetter_3 : decode mX4_isLetter.2.1 3 = .ok (.if_icmp .lt 13, 3) := by decide +kernel
theorem dX4_isLetter_6 : decode mX4_isLetter.2.1 6 = .ok (.iload_n 0, 1) := by decide +kernel
theorem dX4_isLetter_7 : decode mX4_isLetter.2.1 7 = .ok (.bipush 122, 2) := by decide +kernel
theorem dX4_isLetter_9 : decode mX4_isLetter.2.1 9 = .ok (.if_icmp .gt 7, 3) := by decide +kernel
theorem dX4_isLetter_12 : decode mX4_isLetter.2.1 12 = .ok (.iconst 1, 1) := by decide +kernel
theorem dX4_isLetter_13 : decode mX4_isLetter.2.1 13 = .ok (.goto 4, 3) := by decide +kernel
theorem dX4_isLetter_16 : decode mX4_isLetter.2.1 16 = .ok (.iconst 0, 1) := by decide +kernel
theorem dX4_isLetter_17 : decode mX4_isLetter.2.1 17 = .ok (.ireturn, 1) := by decide +kernel
theorem dX4_isDigit_0 : decode mX4_isDigit.2.1 0 = .ok (.iload_n 0, 1) := by decide +kernel
theorem dX4_isDigit_1 : decode mX4_isDigit.2.1 1 = .ok (.bipush 48, 2) := by decide +kernel
theorem dX4_isDigit_3 : decode mX4_isDigit.2.1 3 = .ok (.if_icmp .lt 13, 3) := by decide +kernel
theorem dX4_isDigit_6 : decode mX4_isDigit.2.1 6 = .ok (.iload_n 0, 1) := by decide +kernel
theorem dX4_isDigit_7 : decode mX4_isDigit.2.1 7 = .ok (.bipush 57, 2) := by decide +kernel
theorem dX4_isDigit_9 : decode mX4_isDigit.2.1 9 = .ok (.if_icmp .gt 7, 3) := by decide +kernel
theorem dX4_isDigit_12 : decode mX4_isDigit.2.1 12 = .ok (.iconst 1, 1) := by decide +kernel
theorem dX4_isDigit_13 : decode mX4_isDigit.2.1 13 = .ok (.goto 4, 3) := by decide +kernel
theorem dX4_isDigit_16 : decode mX4_isDigit.2.1 16 = .ok (.iconst 0, 1) := by decide +kernel
theorem dX4_isDigit_17 : decode mX4_isDigit.2.1 17 = .ok (.ireturn, 1) := by decide +kernel
theorem dX5_init_0 : decode mX5_init.2.1 0 = .ok (.aload_n 0, 1) := by decide +kernel
theorem dX5_init_1 : decode mX5_init.2.1 1 = .ok (.invokespecial 3, 3) := by decide +kernel
theorem dX5_init_4 : decode mX5_init.2.1 4 = .ok (.aload_n 0, 1) := by decide +kernel
theorem dX5_init_5 : decode mX5_init.2.1 5 = .ok (.iconst 0, 1) := by decide +kernel
theorem dX5_init_6 : decode mX5_init.2.1 6 = .ok (.putfield 9, 3) := by decide +kernel
theorem dX5_init_9 : decode mX5_init.2.1 9 = .ok (.aload_n 0, 1) := by decide +kernel
theorem dX5_init_10 : decode mX5_init.2.1 10 = .ok (.iconst 0, 1) := by decide +kernel
theorem dX5_init_11 : decode mX5_init.2.1 11 = .ok (.putfield 15, 3) := by decide +kernel
theorem dX5_init_14 : decode mX5_init.2.1 14 = .ok (.aload_n 0, 1) := by decide +kernel
theorem dX5_init_15 : decode mX5_init.2.1 15 = .ok (.iconst 0, 1) := by decide +kernel
theorem dX5_init_16 : decode mX5_init.2.1 16 = .ok (.putfield 18, 3) := by decide +kernel
theorem dX5_init_19 : decode mX5_init.2.1 19 = .ok (.aload_n 0, 1) := by decide +kernel
theorem dX5_init_20 : decode mX5_init.2.1 20 = .ok (.bipush 20, 2) := by decide +kernel
theorem dX5_init_22 : decode mX5_init.2.1 22 = .ok (.newarray .int, 2) := by decide +kernel
theorem dX5_init_24 : decode mX5_init.2.1 24 = .ok (.putfield 23, 3) := by decide +kernel
theorem dX5_init_27 : decode mX5_init.2.1 27 = .ok (.aload_n 0, 1) := by decide +kernel
theorem dX5_init_28 : decode mX5_init.2.1 28 = .ok (.bipush 16, 2) := by decide +kernel
theorem dX5_init_30 : decode mX5_init.2.1 30 = .ok (.newarray .int, 2) := by decide +kernel
theorem dX5_init_32 : decode mX5_init.2.1 32 = .ok (.putfield 27, 3) := by decide +kernel
theorem dX5_init_35 : decode mX5_init.2.1 35 = .ok (.aload_n 0, 1) := by decide +kernel
theorem dX5_init_36 : decode mX5_init.2.1 36 = .ok (.bipush 60, 2) := by decide +kernel
theorem dX5_init_38 : decode mX5_init.2.1 38 = .ok (.newarray .int, 2) := by decide +kernel
theorem dX5_init_40 : decode mX5_init.2.1 40 = .ok (.putfield 30, 3) := by decide +kernel
theorem dX5_init_43 : decode mX5_init.2.1 43 = .ok (.aload_n 0, 1) := by decide +kernel
theorem dX5_init_44 : decode mX5_init.2.1 44 = .ok (.bipush 60, 2) := by decide +kernel
theorem dX5_init_46 : decode mX5_init.2.1 46 = .ok (.newarray .int, 2) := by decide +kernel
theorem dX5_init_48 : decode mX5_init.2.1 48 = .ok (.putfield 33, 3) := by decide +kernel
theorem dX5_init_51 : decode mX5_init.2.1 51 = .ok (.aload_n 0, 1) := by decide +kernel
theorem dX5_init_52 : decode mX5_init.2.1 52 = .ok (.bipush 60, 2) := by decide +kernel
theorem dX5_init_54 : decode mX5_init.2.1 54 = .ok (.newarray .int, 2) := by decide +kernel
theorem dX5_init_56 : decode mX5_init.2.1 56 = .ok (.putfield 36, 3) := by decide +kernel
theorem dX5_init_59 : decode mX5_init.2.1 59 = .ok (.aload_n 0, 1) := by decide +kernel
theorem dX5_init_60 : decode mX5_init.2.1 60 = .ok (.bipush 60, 2) := by decide +kernel
theorem dX5_init_62 : decode mX5_init.2.1 62 = .ok (.newarray .int, 2) := by decide +kernel
theorem dX5_init_64 : decode mX5_init.2.1 64 = .ok (.putfield 39, 3) := by decide +kernel
theorem dX5_init_67 : decode mX5_init.2.1 67 = .ok (.aload_n 0, 1) := by decide +kernel
theorem dX5_init_68 : decode mX5_init.2.1 68 = .ok (.bipush 20, 2) := by decide +kernel
theorem dX5_init_70 : decode mX5_init.2.1 70 = .ok (.newarray .int, 2) := by decide +kernel
theorem dX5_init_72 : decode mX5_init.2.1 72 = .ok (.putfield 42, 3) := by decide +kernel
theorem dX5_init_75 : decode mX5_init.2.1 75 = .ok (.aload_n 0, 1) := by decide +kernel
theorem dX5_init_76 : decode mX5_init.2.1 76 = .ok (.bipush 16, 2) := by decide +kernel
theorem dX5_init_78 : decode mX5_init.2.1 78 = .ok (.newarray .int, 2) := by decide +kernel
theorem dX5_init_80 : decode mX5_init.2.1 80 = .ok (.putfield 45, 3) := by decide +kernel
theorem dX5_init_83 : decode mX5_init.2.1 83 = .ok (.aload_n 0, 1) := by decide +kernel
theorem dX5_init_84 : decode mX5_init.2.1 84 = .ok (.bipush 20, 2) := by decide +kernel
theorem dX5_init_86 : decode mX5_init.2.1 86 = .ok (.newarray .int, 2) := by decide +kernel
theorem dX5_init_88 : decode mX5_init.2.1 88 = .ok (.putfield 48, 3) := by decide +kernel
theorem dX5_init_91 : decode mX5_init.2.1 91 = .ok (.aload_n 0, 1) := by decide +kernel
theorem dX5_init_92 : decode mX5_init.2.1 92 = .ok (.bipush 16, 2) := by decide +kernel
theorem dX5_init_94 : decode mX5_init.2.1 94 = .ok (.newarray .int, 2) := by decide +kernel
theorem dX5_init_96 : decode mX5_init.2.1 96 = .ok (.putfield 51, 3) := by decide +kernel
theorem dX5_init_99 : decode mX5_init.2.1 99 = .ok (.aload_n 0, 1) := by decide +kernel
theorem dX5_init_100 : decode mX5_init.2.1 100 = .ok (.iconst 0, 1) := by decide +kernel
theorem dX5_init_101 : decode mX5_init.2.1 101 = .ok (.putfield 54, 3) := by decide +kernel
theorem dX5_init_104 : decode mX5_init.2.1 104 = .ok (.return_, 1) := by decide +kernel
theorem dX5_addPerson_0 : decode mX5_addPerson.2.1 0 = .ok (.aload_n 0, 1) := by decide +kernel
theorem dX5_addPerson_1 : decode mX5_addPerson.2.1 1 = .ok (.getfield 27, 3) := by decide +kernel
theorem dX5_addPerson_4 : decode mX5_addPerson.2.1 4 = .ok (.aload_n 0, 1) := by decide +kernel
theorem dX5_addPerson_5 : decode mX5_addPerson.2.1 5 = .ok (.getfield 9, 3) := by decide +kernel
theorem dX5_addPerson_8 : decode mX5_addPerson.2.1 8 = .ok (.iload_n 1, 1) := by decide +kernel
theorem dX5_addPerson_9 : decode mX5_addPerson.2.1 9 = .ok (.iastore, 1) := by decide +kernel
theorem dX5_addPerson_10 : decode mX5_addPerson.2.1 10 = .ok (.aload_n 0, 1) := by decide +kernel
theorem dX5_addPerson_11 : decode mX5_addPerson.2.1 11 = .ok (.dup, 1) := by decide +kernel
theorem dX5_addPerson_12 : decode mX5_addPerson.2.1 12 = .ok (.getfield 9, 3) := by decide +kernel
theorem dX5_addPerson_15 : decode mX5_addPerson.2.1 15 = .ok (.iconst 1, 1) := by decide +kernel
theorem dX5_addPerson_16 : decode mX5_addPerson.2.1 16 = .ok (.iadd, 1) := by decide +kernel
theorem dX5_addPerson_17 : decode mX5_addPerson.2.1 17 = .ok (.putfield 9, 3) := by decide +kernel
theorem dX5_addPerson_20 : decode mX5_addPerson.2.1 20 = .ok (.aload_n 0, 1) := by decide +kernel
theorem dX5_addPerson_21 : decode mX5_addPerson.2.1 21 = .ok (.getfield 9, 3) := by decide +kernel
theorem dX5_addPerson_24 : decode mX5_addPerson.2.1 24 = .ok (.iconst 1, 1) := by decide +kernel
theorem dX5_addPerson_25 : decode mX5_addPerson.2.1 25 = .ok (.isub, 1) := by decide +kernel
theorem dX5_addPerson_26 : decode mX5_addPerson.2.1 26 = .ok (.ireturn, 1) := by decide +kernel
theorem dX5_addAway_0 : decode mX5_addAway.2.1 0 = .ok (.aload_n 0, 1) := by decide +kernel
theorem dX5_addAway_1 : decode mX5_addAway.2.1 1 = .ok (.getfield 30, 3) := by decide +kernel
theorem dX5_addAway_4 : decode mX5_addAway.2.1 4 = .ok (.aload_n 0, 1) := by decide +kernel
theorem dX5_addAway_5 : decode mX5_addAway.2.1 5 = .ok (.getfield 15, 3) := by decide +kernel
theorem dX5_addAway_8 : decode mX5_addAway.2.1 8 = .ok (.iload_n 1, 1) := by decide +kernel
theorem dX5_addAway_9 : decode mX5_addAway.2.1 9 = .ok (.iastore, 1) := by decide +kernel
theorem dX5_addAway_10 : decode mX5_addAway.2.1 10 = .ok (.aload_n 0, 1) := by decide +kernel
theorem dX5_addAway_11 : decode mX5_addAway.2.1 11 = .ok (.getfield 33, 3) := by decide +kernel
theorem dX5_addAway_14 : decode mX5_addAway.2.1 14 = .ok (.aload_n 0, 1) := by decide +kernel
theorem dX5_addAway_15 : decode mX5_addAway.2.1 15 = .ok (.getfield 15, 3) := by decide +kernel
theorem dX5_addAway_18 : decode mX5_addAway.2.1 18 = .ok (.iload_n 2, 1) := by decide +kernel
theorem dX5_addAway_19 : decode mX5_addAway.2.1 19 = .ok (.iastore, 1) := by decide +kernel
theorem dX5_addAway_20 : decode mX5_addAway.2.1 20 = .ok (.aload_n 0, 1) := by decide +kernel
theorem dX5_addAway_21 : decode mX5_addAway.2.1 21 = .ok (.getfield 36, 3) := by decide +kernel
theorem dX5_addAway_24 : decode mX5_addAway.2.1 24 = .ok (.aload_n 0, 1) := by decide +kernel
theorem dX5_addAway_25 : decode mX5_addAway.2.1 25 = .ok (.getfield 15, 3) := by decide +kernel
theorem dX5_addAway_28 : decode mX5_addAway.2.1 28 = .ok (.iload_n 3, 1) := by decide +kernel
theorem dX5_addAway_29 : decode mX5_addAway.2.1 29 = .ok (.iastore, 1) := by decide +kernel
theorem dX5_addAway_30 : decode mX5_addAway.2.1 30 = .ok (.aload_n 0, 1) := by decide +kernel
theorem dX5_addAway_31 : decode mX5_addAway.2.1 31 = .ok (.getfield 39, 3) := by decide +kernel
theorem dX5_addAway_34 : decode mX5_addAway.2.1 34 = .ok (.aload_n 0, 1) := by decide +kernel
theorem dX5_addAway_35 : decode mX5_addAway.2.1 35 = .ok (.getfield 15, 3) := by decide +kernel
theorem dX5_addAway_38 : decode mX5_addAway.2.1 38 = .ok (.iload 4, 2) := by decide +kernel
theorem dX5_addAway_40 : decode mX5_addAway.2.1 40 = .ok (.iastore, 1) := by decide +kernel
theorem dX5_addAway_41 : decode mX5_addAway.2.1 41 = .ok (.aload_n 0, 1) := by decide +kernel
theorem dX5_addAway_42 : decode mX5_addAway.2.1 42 = .ok (.dup, 1) := by decide +kernel
theorem dX5_addAway_43 : decode mX5_addAway.2.1 43 = .ok (.getfield 15, 3) := by decide +kernel
theorem dX5_addAway_46 : decode mX5_addAway.2.1 46 = .ok (.iconst 1, 1) := by decide +kernel
theorem dX5_addAway_47 : decode mX5_addAway.2.1 47 = .ok (.iadd, 1) := by decide +kernel
theorem dX5_addAway_48 : decode mX5_addAway.2.1 48 = .ok (.putfield 15, 3) := by decide +kernel
theorem dX5_addAway_51 : decode mX5_addAway.2.1 51 = .ok (.aload_n 0, 1) := by decide +kernel
theorem dX5_addAway_52 : decode mX5_addAway.2.1 52 = .ok (.iload 4, 2) := by decide +kernel
theorem dX5_addAway_54 : decode mX5_addAway.2.1 54 = .ok (.putfield 18, 3) := by decide +kernel
theorem dX5_addAway_57 : decode mX5_addAway.2.1 57 = .ok (.return_, 1) := by decide +kernel
theorem dX5_fill_0 : decode mX5_fill.2.1 0 = .ok (.aload_n 0, 1) := by decide +kernel
theorem dX5_fill_1 : decode mX5_fill.2.1 1 = .ok (.iload_n 1, 1) := by decide +kernel
theorem dX5_fill_2 : decode mX5_fill.2.1 2 = .ok (.putfield 54, 3) := by decide +kernel
theorem dX5_fill_5 : decode mX5_fill.2.1 5 = .ok (.aload_n 0, 1) := by decide +kernel
theorem dX5_fill_6 : decode mX5_fill.2.1 6 = .ok (.aload_n 0, 1) := by decide +kernel
theorem dX5_fill_7 : decode mX5_fill.2.1 7 = .ok (.iload_n 2, 1) := by decide +kernel
theorem dX5_fill_8 : decode mX5_fill.2.1 8 = .ok (.iload_n 3, 1) := by decide +kernel
theorem dX5_fill_9 : decode mX5_fill.2.1 9 = .ok (.invokevirtual 57, 3) := by decide +kernel
theorem dX5_fill_12 : decode mX5_fill.2.1 12 = .ok (.invokevirtual 61, 3) := by decide +kernel
theorem dX5_fill_15 : decode mX5_fill.2.1 15 = .ok (.aload_n 0, 1) := by decide +kernel
theorem dX5_fill_16 : decode mX5_fill.2.1 16 = .ok (.getfield 23, 3) := by decide +kernel
theorem dX5_fill_19 : decode mX5_fill.2.1 19 = .ok (.iconst (-1), 1) := by decide +kernel
theorem dX5_fill_20 : decode mX5_fill.2.1 20 = .ok (.invokestatic 65, 3) := by decide +kernel
theorem dX5_fill_23 : decode mX5_fill.2.1 23 = .ok (.aload_n 0, 1) := by decide +kernel
theorem dX5_fill_24 : decode mX5_fill.2.1 24 = .ok (.getfield 45, 3) := by decide +kernel
theorem dX5_fill_27 : decode mX5_fill.2.1 27 = .ok (.iconst (-1), 1) := by decide +kernel
theorem dX5_fill_28 : decode mX5_fill.2.1 28 = .ok (.invokestatic 65, 3) := by decide +kernel
theorem dX5_fill_31 : decode mX5_fill.2.1 31 = .ok (.iconst 0, 1) := by decide +kernel
theorem dX5_fill_32 : decode mX5_fill.2.1 32 = .ok (.istore 4, 2) := by decide +kernel
theorem dX5_fill_34 : decode mX5_fill.2.1 34 = .ok (.iconst 0, 1) := by decide +kernel
theorem dX5_fill_35 : decode mX5_fill.2.1 35 = .ok (.istore 5, 2) := by decide +kernel
theorem dX5_fill_37 : decode mX5_fill.2.1 37 = .ok (.iload 5, 2) := by decide +kernel
theorem dX5_fill_39 : decode mX5_fill.2.1 39 = .ok (.aload_n 0, 1) := by decide +kernel
theorem dX5_fill_40 : decode mX5_fill.2.1 40 = .ok (.getfield 54, 3) := by decide +kernel
theorem dX5_fill_43 : decode mX5_fill.2.1 43 = .ok (.if_icmp .ge 21, 3) := by decide +kernel
theorem dX5_fill_46 : decode mX5_fill.2.1 46 = .ok (.aload_n 0, 1) := by decide +kernel
theorem dX5_fill_47 : decode mX5_fill.2.1 47 = .ok (.iconst 0, 1) := by decide +kernel
theorem dX5_fill_48 : decode mX5_fill.2.1 48 = .ok (.iconst 0, 1) := by decide +kernel
theorem dX5_fill_49 : decode mX5_fill.2.1 49 = .ok (.invokevirtual 71, 3) := by decide +kernel
theorem dX5_fill_52 : decode mX5_fill.2.1 52 = .ok (.ifCond .eq 12, 3) := by decide +kernel
theorem dX5_fill_55 : decode mX5_fill.2.1 55 = .ok (.iinc 4 1, 3) := by decide +kernel
theorem dX5_fill_58 : decode mX5_fill.2.1 58 = .ok (.iinc 5 1, 3) := by decide +kernel
theorem dX5_fill_61 : decode mX5_fill.2.1 61 = .ok (.goto (-24), 3) := by decide +kernel
theorem dX5_fill_64 : decode mX5_fill.2.1 64 = .ok (.iconst 0, 1) := by decide +kernel
theorem dX5_fill_65 : decode mX5_fill.2.1 65 = .ok (.istore 5, 2) := by decide +kernel
theorem dX5_fill_67 : decode mX5_fill.2.1 67 = .ok (.iconst 0, 1) := by decide +kernel
theorem dX5_fill_68 : decode mX5_fill.2.1 68 = .ok (.istore 6, 2) := by decide +kernel
theorem dX5_fill_70 : decode mX5_fill.2.1 70 = .ok (.iload 6, 2) := by decide +kernel
theorem dX5_fill_72 : decode mX5_fill.2.1 72 = .ok (.aload_n 0, 1) := by decide +kernel
theorem dX5_fill_73 : decode mX5_fill.2.1 73 = .ok (.getfield 54, 3) := by decide +kernel
theorem dX5_fill_76 : decode mX5_fill.2.1 76 = .ok (.if_icmp .ge 19, 3) := by decide +kernel
theorem dX5_fill_79 : decode mX5_fill.2.1 79 = .ok (.aload_n 0, 1) := by decide +kernel
theorem dX5_fill_80 : decode mX5_fill.2.1 80 = .ok (.iload 6, 2) := by decide +kernel
theorem dX5_fill_82 : decode mX5_fill.2.1 82 = .ok (.iload 5, 2) := by decide +kernel
theorem dX5_fill_84 : decode mX5_fill.2.1 84 = .ok (.invokevirtual 75, 3) := by decide +kernel
theorem dX5_fill_87 : decode mX5_fill.2.1 87 = .ok (.istore 5, 2) := by decide +kernel
theorem dX5_fill_89 : decode mX5_fill.2.1 89 = .ok (.iinc 6 1, 3) := by decide +kernel
theorem dX5_fill_92 : decode mX5_fill.2.1 92 = .ok (.goto (-22), 3) := by decide +kernel
theorem dX5_fill_95 : decode mX5_fill.2.1 95 = .ok (.iload 4, 2) := by decide +kernel
theorem dX5_fill_97 : decode mX5_fill.2.1 97 = .ok (.ireturn, 1) := by decide +kernel
theorem dX5_gone_0 : decode mX5_gone.2.1 0 = .ok (.iconst 0, 1) := by decide +kernel
theorem dX5_gone_1 : decode mX5_gone.2.1 1 = .ok (.istore_n 3, 1) := by decide +kernel
theorem dX5_gone_2 : decode mX5_gone.2.1 2 = .ok (.iconst 0, 1) := by decide +kernel
theorem dX5_gone_3 : decode mX5_gone.2.1 3 = .ok (.istore 4, 2) := by decide +kernel
theorem dX5_gone_5 : decode mX5_gone.2.1 5 = .ok (.iload 4, 2) := by decide +kernel
theorem dX5_gone_7 : decode mX5_gone.2.1 7 = .ok (.aload_n 0, 1) := by decide +kernel
theorem dX5_gone_8 : decode mX5_gone.2.1 8 = .ok (.getfield 15, 3) := by decide +kernel
theorem dX5_gone_11 : decode mX5_gone.2.1 11 = .ok (.if_icmp .ge 54, 3) := by decide +kernel
theorem dX5_gone_14 : decode mX5_gone.2.1 14 = .ok (.aload_n 0, 1) := by decide +kernel
theorem dX5_gone_15 : decode mX5_gone.2.1 15 = .ok (.getfield 39, 3) := by decide +kernel
theorem dX5_gone_18 : decode mX5_gone.2.1 18 = .ok (.iload 4, 2) := by decide +kernel
theorem dX5_gone_20 : decode mX5_gone.2.1 20 = .ok (.iaload, 1) := by decide +kernel
theorem dX5_gone_21 : decode mX5_gone.2.1 21 = .ok (.iload_n 2, 1) := by decide +kernel
theorem dX5_gone_22 : decode mX5_gone.2.1 22 = .ok (.if_icmp .gt 37, 3) := by decide +kernel
theorem dX5_gone_25 : decode mX5_gone.2.1 25 = .ok (.aload_n 0, 1) := by decide +kernel
theorem dX5_gone_26 : decode mX5_gone.2.1 26 = .ok (.getfield 33, 3) := by decide +kernel
theorem dX5_gone_29 : decode mX5_gone.2.1 29 = .ok (.iload 4, 2) := by decide +kernel
theorem dX5_gone_31 : decode mX5_gone.2.1 31 = .ok (.iaload, 1) := by decide +kernel
theorem dX5_gone_32 : decode mX5_gone.2.1 32 = .ok (.iload_n 1, 1) := by decide +kernel
theorem dX5_gone_33 : decode mX5_gone.2.1 33 = .ok (.if_icmp .gt 26, 3) := by decide +kernel
theorem dX5_gone_36 : decode mX5_gone.2.1 36 = .ok (.iload_n 1, 1) := by decide +kernel
theorem dX5_gone_37 : decode mX5_gone.2.1 37 = .ok (.aload_n 0, 1) := by decide +kernel
theorem dX5_gone_38 : decode mX5_gone.2.1 38 = .ok (.getfield 36, 3) := by decide +kernel
theorem dX5_gone_41 : decode mX5_gone.2.1 41 = .ok (.iload 4, 2) := by decide +kernel
theorem dX5_gone_43 : decode mX5_gone.2.1 43 = .ok (.iaload, 1) := by decide +kernel
theorem dX5_gone_44 : decode mX5_gone.2.1 44 = .ok (.if_icmp .gt 15, 3) := by decide +kernel
theorem dX5_gone_47 : decode mX5_gone.2.1 47 = .ok (.iload_n 3, 1) := by decide +kernel
theorem dX5_gone_48 : decode mX5_gone.2.1 48 = .ok (.iconst 1, 1) := by decide +kernel
theorem dX5_gone_49 : decode mX5_gone.2.1 49 = .ok (.aload_n 0, 1) := by decide +kernel
theorem dX5_gone_50 : decode mX5_gone.2.1 50 = .ok (.getfield 30, 3) := by decide +kernel
theorem dX5_gone_53 : decode mX5_gone.2.1 53 = .ok (.iload 4, 2) := by decide +kernel
theorem dX5_gone_55 : decode mX5_gone.2.1 55 = .ok (.iaload, 1) := by decide +kernel
theorem dX5_gone_56 : decode mX5_gone.2.1 56 = .ok (.ishl, 1) := by decide +kernel
theorem dX5_gone_57 : decode mX5_gone.2.1 57 = .ok (.ior, 1) := by decide +kernel
theorem dX5_gone_58 : decode mX5_gone.2.1 58 = .ok (.istore_n 3, 1) := by decide +kernel
theorem dX5_gone_59 : decode mX5_gone.2.1 59 = .ok (.iinc 4 1, 3) := by decide +kernel
theorem dX5_gone_62 : decode mX5_gone.2.1 62 = .ok (.goto (-57), 3) := by decide +kernel
theorem dX5_gone_65 : decode mX5_gone.2.1 65 = .ok (.iload_n 3, 1) := by decide +kernel
theorem dX5_gone_66 : decode mX5_gone.2.1 66 = .ok (.ireturn, 1) := by decide +kernel
theorem dX5_layCan_0 : decode mX5_layCan.2.1 0 = .ok (.iconst 0, 1) := by decide +kernel
theorem dX5_layCan_1 : decode mX5_layCan.2.1 1 = .ok (.istore_n 2, 1) := by decide +kernel
theorem dX5_layCan_2 : decode mX5_layCan.2.1 2 = .ok (.iload_n 2, 1) := by decide +kernel
theorem dX5_layCan_3 : decode mX5_layCan.2.1 3 = .ok (.aload_n 0, 1) := by decide +kernel
theorem dX5_layCan_4 : decode mX5_layCan.2.1 4 = .ok (.getfield 54, 3) := by decide +kernel
theorem dX5_layCan_7 : decode mX5_layCan.2.1 7 = .ok (.if_icmp .ge 65, 3) := by decide +kernel
theorem dX5_layCan_10 : decode mX5_layCan.2.1 10 = .ok (.aload_n 0, 1) := by decide +kernel
theorem dX5_layCan_11 : decode mX5_layCan.2.1 11 = .ok (.getfield 42, 3) := by decide +kernel
theorem dX5_layCan_14 : decode mX5_layCan.2.1 14 = .ok (.iload_n 2, 1) := by decide +kernel
theorem dX5_layCan_15 : decode mX5_layCan.2.1 15 = .ok (.iconst 0, 1) := by decide +kernel
theorem dX5_layCan_16 : decode mX5_layCan.2.1 16 = .ok (.iastore, 1) := by decide +kernel
theorem dX5_layCan_17 : decode mX5_layCan.2.1 17 = .ok (.iconst 0, 1) := by decide +kernel
theorem dX5_layCan_18 : decode mX5_layCan.2.1 18 = .ok (.istore_n 3, 1) := by decide +kernel
theorem dX5_layCan_19 : decode mX5_layCan.2.1 19 = .ok (.iload_n 3, 1) := by decide +kernel
theorem dX5_layCan_20 : decode mX5_layCan.2.1 20 = .ok (.aload_n 0, 1) := by decide +kernel
theorem dX5_layCan_21 : decode mX5_layCan.2.1 21 = .ok (.getfield 9, 3) := by decide +kernel
theorem dX5_layCan_24 : decode mX5_layCan.2.1 24 = .ok (.if_icmp .ge 42, 3) := by decide +kernel
theorem dX5_layCan_27 : decode mX5_layCan.2.1 27 = .ok (.iload_n 1, 1) := by decide +kernel
theorem dX5_layCan_28 : decode mX5_layCan.2.1 28 = .ok (.iload_n 3, 1) := by decide +kernel
theorem dX5_layCan_29 : decode mX5_layCan.2.1 29 = .ok (.iushr, 1) := by decide +kernel
theorem dX5_layCan_30 : decode mX5_layCan.2.1 30 = .ok (.iconst 1, 1) := by decide +kernel
theorem dX5_layCan_31 : decode mX5_layCan.2.1 31 = .ok (.iand, 1) := by decide +kernel
theorem dX5_layCan_32 : decode mX5_layCan.2.1 32 = .ok (.ifCond .ne 28, 3) := by decide +kernel
theorem dX5_layCan_35 : decode mX5_layCan.2.1 35 = .ok (.aload_n 0, 1) := by decide +kernel
theorem dX5_layCan_36 : decode mX5_layCan.2.1 36 = .ok (.getfield 27, 3) := by decide +kernel
theorem dX5_layCan_39 : decode mX5_layCan.2.1 39 = .ok (.iload_n 3, 1) := by decide +kernel
theorem dX5_layCan_40 : decode mX5_layCan.2.1 40 = .ok (.iaload, 1) := by decide +kernel
theorem dX5_layCan_41 : decode mX5_layCan.2.1 41 = .ok (.iload_n 2, 1) := by decide +kernel
theorem dX5_layCan_42 : decode mX5_layCan.2.1 42 = .ok (.iushr, 1) := by decide +kernel
theorem dX5_layCan_43 : decode mX5_layCan.2.1 43 = .ok (.iconst 1, 1) := by decide +kernel
theorem dX5_layCan_44 : decode mX5_layCan.2.1 44 = .ok (.iand, 1) := by decide +kernel
theorem dX5_layCan_45 : decode mX5_layCan.2.1 45 = .ok (.ifCond .eq 15, 3) := by decide +kernel
theorem dX5_layCan_48 : decode mX5_layCan.2.1 48 = .ok (.aload_n 0, 1) := by decide +kernel
theorem dX5_layCan_49 : decode mX5_layCan.2.1 49 = .ok (.getfield 42, 3) := by decide +kernel
theorem dX5_layCan_52 : decode mX5_layCan.2.1 52 = .ok (.iload_n 2, 1) := by decide +kernel
theorem dX5_layCan_53 : decode mX5_layCan.2.1 53 = .ok (.dup2, 1) := by decide +kernel
theorem dX5_layCan_54 : decode mX5_layCan.2.1 54 = .ok (.iaload, 1) := by decide +kernel
theorem dX5_layCan_55 : decode mX5_layCan.2.1 55 = .ok (.iconst 1, 1) := by decide +kernel
theorem dX5_layCan_56 : decode mX5_layCan.2.1 56 = .ok (.iload_n 3, 1) := by decide +kernel
theorem dX5_layCan_57 : decode mX5_layCan.2.1 57 = .ok (.ishl, 1) := by decide +kernel
theorem dX5_layCan_58 : decode mX5_layCan.2.1 58 = .ok (.ior, 1) := by decide +kernel
theorem dX5_layCan_59 : decode mX5_layCan.2.1 59 = .ok (.iastore, 1) := by decide +kernel
theorem dX5_layCan_60 : decode mX5_layCan.2.1 60 = .ok (.iinc 3 1, 3) := by decide +kernel
theorem dX5_layCan_63 : decode mX5_layCan.2.1 63 = .ok (.goto (-44), 3) := by decide +kernel
theorem dX5_layCan_66 : decode mX5_layCan.2.1 66 = .ok (.iinc 2 1, 3) := by decide +kernel
theorem dX5_layCan_69 : decode mX5_layCan.2.1 69 = .ok (.goto (-67), 3) := by decide +kernel
theorem dX5_layCan_72 : decode mX5_layCan.2.1 72 = .ok (.return_, 1) := by decide +kernel
theorem dX5_settle_0 : decode mX5_settle.2.1 0 = .ok (.aload_n 0, 1) := by decide +kernel
theorem dX5_settle_1 : decode mX5_settle.2.1 1 = .ok (.getfield 42, 3) := by decide +kernel
theorem dX5_settle_4 : decode mX5_settle.2.1 4 = .ok (.iload_n 1, 1) := by decide +kernel
theorem dX5_settle_5 : decode mX5_settle.2.1 5 = .ok (.iaload, 1) := by decide +kernel
theorem dX5_settle_6 : decode mX5_settle.2.1 6 = .ok (.iload_n 2, 1) := by decide +kernel
theorem dX5_settle_7 : decode mX5_settle.2.1 7 = .ok (.iconst (-1), 1) := by decide +kernel
theorem dX5_settle_8 : decode mX5_settle.2.1 8 = .ok (.ixor, 1) := by decide +kernel
theorem dX5_settle_9 : decode mX5_settle.2.1 9 = .ok (.iand, 1) := by decide +kernel
theorem dX5_settle_10 : decode mX5_settle.2.1 10 = .ok (.istore_n 3, 1) := by decide +kernel
theorem dX5_settle_11 : decode mX5_settle.2.1 11 = .ok (.iconst 0, 1) := by decide +kernel
theorem dX5_settle_12 : decode mX5_settle.2.1 12 = .ok (.istore 4, 2) := by decide +kernel
theorem dX5_settle_14 : decode mX5_settle.2.1 14 = .ok (.iload 4, 2) := by decide +kernel
theorem dX5_settle_16 : decode mX5_settle.2.1 16 = .ok (.aload_n 0, 1) := by decide +kernel
theorem dX5_settle_17 : decode mX5_settle.2.1 17 = .ok (.getfield 9, 3) := by decide +kernel
theorem dX5_settle_20 : decode mX5_settle.2.1 20 = .ok (.if_icmp .ge 36, 3) := by decide +kernel
theorem dX5_settle_23 : decode mX5_settle.2.1 23 = .ok (.iload_n 3, 1) := by decide +kernel
theorem dX5_settle_24 : decode mX5_settle.2.1 24 = .ok (.iload 4, 2) := by decide +kernel
theorem dX5_settle_26 : decode mX5_settle.2.1 26 = .ok (.iushr, 1) := by decide +kernel
theorem dX5_settle_27 : decode mX5_settle.2.1 27 = .ok (.iconst 1, 1) := by decide +kernel
theorem dX5_settle_28 : decode mX5_settle.2.1 28 = .ok (.iand, 1) := by decide +kernel
theorem dX5_settle_29 : decode mX5_settle.2.1 29 = .ok (.ifCond .eq 21, 3) := by decide +kernel
theorem dX5_settle_32 : decode mX5_settle.2.1 32 = .ok (.aload_n 0, 1) := by decide +kernel
theorem dX5_settle_33 : decode mX5_settle.2.1 33 = .ok (.iload_n 1, 1) := by decide +kernel
theorem dX5_settle_34 : decode mX5_settle.2.1 34 = .ok (.iload 4, 2) := by decide +kernel
theorem dX5_settle_36 : decode mX5_settle.2.1 36 = .ok (.iload_n 2, 1) := by decide +kernel
theorem dX5_settle_37 : decode mX5_settle.2.1 37 = .ok (.invokevirtual 78, 3) := by decide +kernel
theorem dX5_settle_40 : decode mX5_settle.2.1 40 = .ok (.ifCond .eq 10, 3) := by decide +kernel
theorem dX5_settle_43 : decode mX5_settle.2.1 43 = .ok (.iload_n 2, 1) := by decide +kernel
theorem dX5_settle_44 : decode mX5_settle.2.1 44 = .ok (.iconst 1, 1) := by decide +kernel
theorem dX5_settle_45 : decode mX5_settle.2.1 45 = .ok (.iload 4, 2) := by decide +kernel
theorem dX5_settle_47 : decode mX5_settle.2.1 47 = .ok (.ishl, 1) := by decide +kernel
theorem dX5_settle_48 : decode mX5_settle.2.1 48 = .ok (.ior, 1) := by decide +kernel
theorem dX5_settle_49 : decode mX5_settle.2.1 49 = .ok (.ireturn, 1) := by decide +kernel
theorem dX5_settle_50 : decode mX5_settle.2.1 50 = .ok (.iinc 4 1, 3) := by decide +kernel
theorem dX5_settle_53 : decode mX5_settle.2.1 53 = .ok (.goto (-39), 3) := by decide +kernel
theorem dX5_settle_56 : decode mX5_settle.2.1 56 = .ok (.iload_n 2, 1) := by decide +kernel
theorem dX5_settle_57 : decode mX5_settle.2.1 57 = .ok (.ireturn, 1) := by decide +kernel
theorem dX5_tryPerson_0 : decode mX5_tryPerson.2.1 0 = .ok (.aload_n 0, 1) := by decide +kernel
theorem dX5_tryPerson_1 : decode mX5_tryPerson.2.1 1 = .ok (.getfield 23, 3) := by decide +kernel
theorem dX5_tryPerson_4 : decode mX5_tryPerson.2.1 4 = .ok (.iload_n 1, 1) := by decide +kernel
theorem dX5_tryPerson_5 : decode mX5_tryPerson.2.1 5 = .ok (.iaload, 1) := by decide +kernel
theorem dX5_tryPerson_6 : decode mX5_tryPerson.2.1 6 = .ok (.istore 4, 2) := by decide +kernel
theorem dX5_tryPerson_8 : decode mX5_tryPerson.2.1 8 = .ok (.aload_n 0, 1) := by decide +kernel
theorem dX5_tryPerson_9 : decode mX5_tryPerson.2.1 9 = .ok (.getfield 45, 3) := by decide +kernel
theorem dX5_tryPerson_12 : decode mX5_tryPerson.2.1 12 = .ok (.iload_n 2, 1) := by decide +kernel
theorem dX5_tryPerson_13 : decode mX5_tryPerson.2.1 13 = .ok (.iaload, 1) := by decide +kernel
theorem dX5_tryPerson_14 : decode mX5_tryPerson.2.1 14 = .ok (.istore 5, 2) := by decide +kernel
theorem dX5_tryPerson_16 : decode mX5_tryPerson.2.1 16 = .ok (.iload 5, 2) := by decide +kernel
theorem dX5_tryPerson_18 : decode mX5_tryPerson.2.1 18 = .ok (.iload_n 1, 1) := by decide +kernel
theorem dX5_tryPerson_19 : decode mX5_tryPerson.2.1 19 = .ok (.if_icmp .ne 5, 3) := by decide +kernel
theorem dX5_tryPerson_22 : decode mX5_tryPerson.2.1 22 = .ok (.iconst 1, 1) := by decide +kernel
theorem dX5_tryPerson_23 : decode mX5_tryPerson.2.1 23 = .ok (.ireturn, 1) := by decide +kernel
theorem dX5_tryPerson_24 : decode mX5_tryPerson.2.1 24 = .ok (.iload 5, 2) := by decide +kernel
theorem dX5_tryPerson_26 : decode mX5_tryPerson.2.1 26 = .ok (.iconst (-1), 1) := by decide +kernel
theorem dX5_tryPerson_27 : decode mX5_tryPerson.2.1 27 = .ok (.if_icmp .eq 11, 3) := by decide +kernel
theorem dX5_tryPerson_30 : decode mX5_tryPerson.2.1 30 = .ok (.aload_n 0, 1) := by decide +kernel
theorem dX5_tryPerson_31 : decode mX5_tryPerson.2.1 31 = .ok (.getfield 23, 3) := by decide +kernel
theorem dX5_tryPerson_34 : decode mX5_tryPerson.2.1 34 = .ok (.iload 5, 2) := by decide +kernel
theorem dX5_tryPerson_36 : decode mX5_tryPerson.2.1 36 = .ok (.iconst (-1), 1) := by decide +kernel
theorem dX5_tryPerson_37 : decode mX5_tryPerson.2.1 37 = .ok (.iastore, 1) := by decide +kernel
theorem dX5_tryPerson_38 : decode mX5_tryPerson.2.1 38 = .ok (.iload 4, 2) := by decide +kernel
theorem dX5_tryPerson_40 : decode mX5_tryPerson.2.1 40 = .ok (.iconst (-1), 1) := by decide +kernel
theorem dX5_tryPerson_41 : decode mX5_tryPerson.2.1 41 = .ok (.if_icmp .eq 11, 3) := by decide +kernel
theorem dX5_tryPerson_44 : decode mX5_tryPerson.2.1 44 = .ok (.aload_n 0, 1) := by decide +kernel
theorem dX5_tryPerson_45 : decode mX5_tryPerson.2.1 45 = .ok (.getfield 45, 3) := by decide +kernel
theorem dX5_tryPerson_48 : decode mX5_tryPerson.2.1 48 = .ok (.iload 4, 2) := by decide +kernel
theorem dX5_tryPerson_50 : decode mX5_tryPerson.2.1 50 = .ok (.iconst (-1), 1) := by decide +kernel
theorem dX5_tryPerson_51 : decode mX5_tryPerson.2.1 51 = .ok (.iastore, 1) := by decide +kernel
theorem dX5_tryPerson_52 : decode mX5_tryPerson.2.1 52 = .ok (.aload_n 0, 1) := by decide +kernel
theorem dX5_tryPerson_53 : decode mX5_tryPerson.2.1 53 = .ok (.iload_n 1, 1) := by decide +kernel
theorem dX5_tryPerson_54 : decode mX5_tryPerson.2.1 54 = .ok (.iload_n 2, 1) := by decide +kernel
theorem dX5_tryPerson_55 : decode mX5_tryPerson.2.1 55 = .ok (.invokevirtual 82, 3) := by decide +kernel
theorem dX5_tryPerson_58 : decode mX5_tryPerson.2.1 58 = .ok (.iload 5, 2) := by decide +kernel
theorem dX5_tryPerson_60 : decode mX5_tryPerson.2.1 60 = .ok (.iconst (-1), 1) := by decide +kernel
theorem dX5_tryPerson_61 : decode mX5_tryPerson.2.1 61 = .ok (.if_icmp .eq 24, 3) := by decide +kernel
theorem dX5_tryPerson_64 : decode mX5_tryPerson.2.1 64 = .ok (.iload 4, 2) := by decide +kernel
theorem dX5_tryPerson_66 : decode mX5_tryPerson.2.1 66 = .ok (.iconst (-1), 1) := by decide +kernel
theorem dX5_tryPerson_67 : decode mX5_tryPerson.2.1 67 = .ok (.if_icmp .eq 18, 3) := by decide +kernel
theorem dX5_tryPerson_70 : decode mX5_tryPerson.2.1 70 = .ok (.aload_n 0, 1) := by decide +kernel
theorem dX5_tryPerson_71 : decode mX5_tryPerson.2.1 71 = .ok (.iload_n 1, 1) := by decide +kernel
theorem dX5_tryPerson_72 : decode mX5_tryPerson.2.1 72 = .ok (.iconst 1, 1) := by decide +kernel
theorem dX5_tryPerson_73 : decode mX5_tryPerson.2.1 73 = .ok (.iadd, 1) := by decide +kernel
theorem dX5_tryPerson_74 : decode mX5_tryPerson.2.1 74 = .ok (.iload_n 3, 1) := by decide +kernel
theorem dX5_tryPerson_75 : decode mX5_tryPerson.2.1 75 = .ok (.iconst 1, 1) := by decide +kernel
theorem dX5_tryPerson_76 : decode mX5_tryPerson.2.1 76 = .ok (.iload_n 2, 1) := by decide +kernel
theorem dX5_tryPerson_77 : decode mX5_tryPerson.2.1 77 = .ok (.ishl, 1) := by decide +kernel
theorem dX5_tryPerson_78 : decode mX5_tryPerson.2.1 78 = .ok (.ior, 1) := by decide +kernel
theorem dX5_tryPerson_79 : decode mX5_tryPerson.2.1 79 = .ok (.invokevirtual 71, 3) := by decide +kernel
theorem dX5_tryPerson_82 : decode mX5_tryPerson.2.1 82 = .ok (.ifCond .eq 5, 3) := by decide +kernel
theorem dX5_tryPerson_85 : decode mX5_tryPerson.2.1 85 = .ok (.iconst 1, 1) := by decide +kernel
theorem dX5_tryPerson_86 : decode mX5_tryPerson.2.1 86 = .ok (.ireturn, 1) := by decide +kernel
theorem dX5_tryPerson_87 : decode mX5_tryPerson.2.1 87 = .ok (.aload_n 0, 1) := by decide +kernel
theorem dX5_tryPerson_88 : decode mX5_tryPerson.2.1 88 = .ok (.iload_n 1, 1) := by decide +kernel
theorem dX5_tryPerson_89 : decode mX5_tryPerson.2.1 89 = .ok (.iload 4, 2) := by decide +kernel
theorem dX5_tryPerson_91 : decode mX5_tryPerson.2.1 91 = .ok (.invokevirtual 82, 3) := by decide +kernel
theorem dX5_tryPerson_94 : decode mX5_tryPerson.2.1 94 = .ok (.aload_n 0, 1) := by decide +kernel
theorem dX5_tryPerson_95 : decode mX5_tryPerson.2.1 95 = .ok (.iload 5, 2) := by decide +kernel
theorem dX5_tryPerson_97 : decode mX5_tryPerson.2.1 97 = .ok (.iload_n 2, 1) := by decide +kernel
theorem dX5_tryPerson_98 : decode mX5_tryPerson.2.1 98 = .ok (.invokevirtual 82, 3) := by decide +kernel
theorem dX5_tryPerson_101 : decode mX5_tryPerson.2.1 101 = .ok (.iconst 0, 1) := by decide +kernel
theorem dX5_tryPerson_102 : decode mX5_tryPerson.2.1 102 = .ok (.ireturn, 1) := by decide +kernel
theorem dX5_pair_0 : decode mX5_pair.2.1 0 = .ok (.aload_n 0, 1) := by decide +kernel
theorem dX5_pair_1 : decode mX5_pair.2.1 1 = .ok (.getfield 23, 3) := by decide +kernel
theorem dX5_pair_4 : decode mX5_pair.2.1 4 = .ok (.iload_n 1, 1) := by decide +kernel
theorem dX5_pair_5 : decode mX5_pair.2.1 5 = .ok (.iload_n 2, 1) := by decide +kernel
theorem dX5_pair_6 : decode mX5_pair.2.1 6 = .ok (.iastore, 1) := by decide +kernel
theorem dX5_pair_7 : decode mX5_pair.2.1 7 = .ok (.aload_n 0, 1) := by decide +kernel
theorem dX5_pair_8 : decode mX5_pair.2.1 8 = .ok (.getfield 45, 3) := by decide +kernel
theorem dX5_pair_11 : decode mX5_pair.2.1 11 = .ok (.iload_n 2, 1) := by decide +kernel
theorem dX5_pair_12 : decode mX5_pair.2.1 12 = .ok (.iload_n 1, 1) := by decide +kernel
theorem dX5_pair_13 : decode mX5_pair.2.1 13 = .ok (.iastore, 1) := by decide +kernel
theorem dX5_pair_14 : decode mX5_pair.2.1 14 = .ok (.return_, 1) := by decide +kernel
theorem dX5_fillOneMore_0 : decode mX5_fillOneMore.2.1 0 = .ok (.iconst 0, 1) := by decide +kernel
theorem dX5_fillOneMore_1 : decode mX5_fillOneMore.2.1 1 = .ok (.istore_n 3, 1) := by decide +kernel
theorem dX5_fillOneMore_2 : decode mX5_fillOneMore.2.1 2 = .ok (.iload_n 1, 1) := by decide +kernel
theorem dX5_fillOneMore_3 : decode mX5_fillOneMore.2.1 3 = .ok (.istore 4, 2) := by decide +kernel
theorem dX5_fillOneMore_5 : decode mX5_fillOneMore.2.1 5 = .ok (.iload 4, 2) := by decide +kernel
theorem dX5_fillOneMore_7 : decode mX5_fillOneMore.2.1 7 = .ok (.aload_n 0, 1) := by decide +kernel
theorem dX5_fillOneMore_8 : decode mX5_fillOneMore.2.1 8 = .ok (.getfield 54, 3) := by decide +kernel
theorem dX5_fillOneMore_11 : decode mX5_fillOneMore.2.1 11 = .ok (.if_icmp .ge 31, 3) := by decide +kernel
theorem dX5_fillOneMore_14 : decode mX5_fillOneMore.2.1 14 = .ok (.aload_n 0, 1) := by decide +kernel
theorem dX5_fillOneMore_15 : decode mX5_fillOneMore.2.1 15 = .ok (.getfield 23, 3) := by decide +kernel
theorem dX5_fillOneMore_18 : decode mX5_fillOneMore.2.1 18 = .ok (.iload 4, 2) := by decide +kernel
theorem dX5_fillOneMore_20 : decode mX5_fillOneMore.2.1 20 = .ok (.iaload, 1) := by decide +kernel
theorem dX5_fillOneMore_21 : decode mX5_fillOneMore.2.1 21 = .ok (.iconst (-1), 1) := by decide +kernel
theorem dX5_fillOneMore_22 : decode mX5_fillOneMore.2.1 22 = .ok (.if_icmp .ne 14, 3) := by decide +kernel
theorem dX5_fillOneMore_25 : decode mX5_fillOneMore.2.1 25 = .ok (.aload_n 0, 1) := by decide +kernel
theorem dX5_fillOneMore_26 : decode mX5_fillOneMore.2.1 26 = .ok (.getfield 48, 3) := by decide +kernel
theorem dX5_fillOneMore_29 : decode mX5_fillOneMore.2.1 29 = .ok (.iload_n 3, 1) := by decide +kernel
theorem dX5_fillOneMore_30 : decode mX5_fillOneMore.2.1 30 = .ok (.iload 4, 2) := by decide +kernel
theorem dX5_fillOneMore_32 : decode mX5_fillOneMore.2.1 32 = .ok (.iastore, 1) := by decide +kernel
theorem dX5_fillOneMore_33 : decode mX5_fillOneMore.2.1 33 = .ok (.iinc 3 1, 3) := by decide +kernel
theorem dX5_fillOneMore_36 : decode mX5_fillOneMore.2.1 36 = .ok (.iinc 4 1, 3) := by decide +kernel
theorem dX5_fillOneMore_39 : decode mX5_fillOneMore.2.1 39 = .ok (.goto (-34), 3) := by decide +kernel
theorem dX5_fillOneMore_42 : decode mX5_fillOneMore.2.1 42 = .ok (.iload_n 2, 1) := by decide +kernel
theorem dX5_fillOneMore_43 : decode mX5_fillOneMore.2.1 43 = .ok (.istore 4, 2) := by decide +kernel
theorem dX5_fillOneMore_45 : decode mX5_fillOneMore.2.1 45 = .ok (.iconst 0, 1) := by decide +kernel
theorem dX5_fillOneMore_46 : decode mX5_fillOneMore.2.1 46 = .ok (.istore 5, 2) := by decide +kernel
theorem dX5_fillOneMore_48 : decode mX5_fillOneMore.2.1 48 = .ok (.iload 5, 2) := by decide +kernel
theorem dX5_fillOneMore_50 : decode mX5_fillOneMore.2.1 50 = .ok (.iload_n 3, 1) := by decide +kernel
theorem dX5_fillOneMore_51 : decode mX5_fillOneMore.2.1 51 = .ok (.if_icmp .ge 120, 3) := by decide +kernel
theorem dX5_fillOneMore_54 : decode mX5_fillOneMore.2.1 54 = .ok (.aload_n 0, 1) := by decide +kernel
theorem dX5_fillOneMore_55 : decode mX5_fillOneMore.2.1 55 = .ok (.getfield 48, 3) := by decide +kernel
theorem dX5_fillOneMore_58 : decode mX5_fillOneMore.2.1 58 = .ok (.iload 5, 2) := by decide +kernel
theorem dX5_fillOneMore_60 : decode mX5_fillOneMore.2.1 60 = .ok (.iaload, 1) := by decide +kernel
theorem dX5_fillOneMore_61 : decode mX5_fillOneMore.2.1 61 = .ok (.istore 6, 2) := by decide +kernel
theorem dX5_fillOneMore_63 : decode mX5_fillOneMore.2.1 63 = .ok (.aload_n 0, 1) := by decide +kernel
theorem dX5_fillOneMore_64 : decode mX5_fillOneMore.2.1 64 = .ok (.getfield 42, 3) := by decide +kernel
theorem dX5_fillOneMore_67 : decode mX5_fillOneMore.2.1 67 = .ok (.iload 6, 2) := by decide +kernel
theorem dX5_fillOneMore_69 : decode mX5_fillOneMore.2.1 69 = .ok (.iaload, 1) := by decide +kernel
theorem dX5_fillOneMore_70 : decode mX5_fillOneMore.2.1 70 = .ok (.iload 4, 2) := by decide +kernel
theorem dX5_fillOneMore_72 : decode mX5_fillOneMore.2.1 72 = .ok (.iconst (-1), 1) := by decide +kernel
theorem dX5_fillOneMore_73 : decode mX5_fillOneMore.2.1 73 = .ok (.ixor, 1) := by decide +kernel
theorem dX5_fillOneMore_74 : decode mX5_fillOneMore.2.1 74 = .ok (.iand, 1) := by decide +kernel
theorem dX5_fillOneMore_75 : decode mX5_fillOneMore.2.1 75 = .ok (.istore 7, 2) := by decide +kernel
theorem dX5_fillOneMore_77 : decode mX5_fillOneMore.2.1 77 = .ok (.iload 4, 2) := by decide +kernel
theorem dX5_fillOneMore_79 : decode mX5_fillOneMore.2.1 79 = .ok (.iload 7, 2) := by decide +kernel
theorem dX5_fillOneMore_81 : decode mX5_fillOneMore.2.1 81 = .ok (.ior, 1) := by decide +kernel
theorem dX5_fillOneMore_82 : decode mX5_fillOneMore.2.1 82 = .ok (.istore 4, 2) := by decide +kernel
theorem dX5_fillOneMore_84 : decode mX5_fillOneMore.2.1 84 = .ok (.iconst 0, 1) := by decide +kernel
theorem dX5_fillOneMore_85 : decode mX5_fillOneMore.2.1 85 = .ok (.istore 8, 2) := by decide +kernel
theorem dX5_fillOneMore_87 : decode mX5_fillOneMore.2.1 87 = .ok (.iload 8, 2) := by decide +kernel
theorem dX5_fillOneMore_89 : decode mX5_fillOneMore.2.1 89 = .ok (.aload_n 0, 1) := by decide +kernel
theorem dX5_fillOneMore_90 : decode mX5_fillOneMore.2.1 90 = .ok (.getfield 9, 3) := by decide +kernel
theorem dX5_fillOneMore_93 : decode mX5_fillOneMore.2.1 93 = .ok (.if_icmp .ge 72, 3) := by decide +kernel
theorem dX5_fillOneMore_96 : decode mX5_fillOneMore.2.1 96 = .ok (.iload 7, 2) := by decide +kernel
theorem dX5_fillOneMore_98 : decode mX5_fillOneMore.2.1 98 = .ok (.iload 8, 2) := by decide +kernel
theorem dX5_fillOneMore_100 : decode mX5_fillOneMore.2.1 100 = .ok (.iushr, 1) := by decide +kernel
theorem dX5_fillOneMore_101 : decode mX5_fillOneMore.2.1 101 = .ok (.iconst 1, 1) := by decide +kernel
theorem dX5_fillOneMore_102 : decode mX5_fillOneMore.2.1 102 = .ok (.iand, 1) := by decide +kernel
theorem dX5_fillOneMore_103 : decode mX5_fillOneMore.2.1 103 = .ok (.ifCond .eq 56, 3) := by decide +kernel
theorem dX5_fillOneMore_106 : decode mX5_fillOneMore.2.1 106 = .ok (.aload_n 0, 1) := by decide +kernel
theorem dX5_fillOneMore_107 : decode mX5_fillOneMore.2.1 107 = .ok (.getfield 51, 3) := by decide +kernel
theorem dX5_fillOneMore_110 : decode mX5_fillOneMore.2.1 110 = .ok (.iload 8, 2) := by decide +kernel
theorem dX5_fillOneMore_112 : decode mX5_fillOneMore.2.1 112 = .ok (.iload 6, 2) := by decide +kernel
theorem dX5_fillOneMore_114 : decode mX5_fillOneMore.2.1 114 = .ok (.iastore, 1) := by decide +kernel
theorem dX5_fillOneMore_115 : decode mX5_fillOneMore.2.1 115 = .ok (.aload_n 0, 1) := by decide +kernel
theorem dX5_fillOneMore_116 : decode mX5_fillOneMore.2.1 116 = .ok (.getfield 45, 3) := by decide +kernel
theorem dX5_fillOneMore_119 : decode mX5_fillOneMore.2.1 119 = .ok (.iload 8, 2) := by decide +kernel
theorem dX5_fillOneMore_121 : decode mX5_fillOneMore.2.1 121 = .ok (.iaload, 1) := by decide +kernel
theorem dX5_fillOneMore_122 : decode mX5_fillOneMore.2.1 122 = .ok (.iconst (-1), 1) := by decide +kernel
theorem dX5_fillOneMore_123 : decode mX5_fillOneMore.2.1 123 = .ok (.if_icmp .ne 11, 3) := by decide +kernel
theorem dX5_fillOneMore_126 : decode mX5_fillOneMore.2.1 126 = .ok (.aload_n 0, 1) := by decide +kernel
theorem dX5_fillOneMore_127 : decode mX5_fillOneMore.2.1 127 = .ok (.iload 8, 2) := by decide +kernel
theorem dX5_fillOneMore_129 : decode mX5_fillOneMore.2.1 129 = .ok (.invokevirtual 86, 3) := by decide +kernel
theorem dX5_fillOneMore_132 : decode mX5_fillOneMore.2.1 132 = .ok (.iconst 1, 1) := by decide +kernel
theorem dX5_fillOneMore_133 : decode mX5_fillOneMore.2.1 133 = .ok (.ireturn, 1) := by decide +kernel
theorem dX5_fillOneMore_134 : decode mX5_fillOneMore.2.1 134 = .ok (.iload_n 3, 1) := by decide +kernel
theorem dX5_fillOneMore_135 : decode mX5_fillOneMore.2.1 135 = .ok (.aload_n 0, 1) := by decide +kernel
theorem dX5_fillOneMore_136 : decode mX5_fillOneMore.2.1 136 = .ok (.getfield 48, 3) := by decide +kernel
theorem dX5_fillOneMore_139 : decode mX5_fillOneMore.2.1 139 = .ok (.arraylength, 1) := by decide +kernel
theorem dX5_fillOneMore_140 : decode mX5_fillOneMore.2.1 140 = .ok (.if_icmp .ge 19, 3) := by decide +kernel
theorem dX5_fillOneMore_143 : decode mX5_fillOneMore.2.1 143 = .ok (.aload_n 0, 1) := by decide +kernel
theorem dX5_fillOneMore_144 : decode mX5_fillOneMore.2.1 144 = .ok (.getfield 48, 3) := by decide +kernel
theorem dX5_fillOneMore_147 : decode mX5_fillOneMore.2.1 147 = .ok (.iload_n 3, 1) := by decide +kernel
theorem dX5_fillOneMore_148 : decode mX5_fillOneMore.2.1 148 = .ok (.aload_n 0, 1) := by decide +kernel
theorem dX5_fillOneMore_149 : decode mX5_fillOneMore.2.1 149 = .ok (.getfield 45, 3) := by decide +kernel
theorem dX5_fillOneMore_152 : decode mX5_fillOneMore.2.1 152 = .ok (.iload 8, 2) := by decide +kernel
theorem dX5_fillOneMore_154 : decode mX5_fillOneMore.2.1 154 = .ok (.iaload, 1) := by decide +kernel
theorem dX5_fillOneMore_155 : decode mX5_fillOneMore.2.1 155 = .ok (.iastore, 1) := by decide +kernel
theorem dX5_fillOneMore_156 : decode mX5_fillOneMore.2.1 156 = .ok (.iinc 3 1, 3) := by decide +kernel
theorem dX5_fillOneMore_159 : decode mX5_fillOneMore.2.1 159 = .ok (.iinc 8 1, 3) := by decide +kernel
theorem dX5_fillOneMore_162 : decode mX5_fillOneMore.2.1 162 = .ok (.goto (-75), 3) := by decide +kernel
theorem dX5_fillOneMore_165 : decode mX5_fillOneMore.2.1 165 = .ok (.iinc 5 1, 3) := by decide +kernel
theorem dX5_fillOneMore_168 : decode mX5_fillOneMore.2.1 168 = .ok (.goto (-120), 3) := by decide +kernel
theorem dX5_fillOneMore_171 : decode mX5_fillOneMore.2.1 171 = .ok (.iconst 0, 1) := by decide +kernel
theorem dX5_fillOneMore_172 : decode mX5_fillOneMore.2.1 172 = .ok (.ireturn, 1) := by decide +kernel
theorem dX5_handOn_0 : decode mX5_handOn.2.1 0 = .ok (.iload_n 1, 1) := by decide +kernel
theorem dX5_handOn_1 : decode mX5_handOn.2.1 1 = .ok (.istore_n 2, 1) := by decide +kernel
theorem dX5_handOn_2 : decode mX5_handOn.2.1 2 = .ok (.iconst 0, 1) := by decide +kernel
theorem dX5_handOn_3 : decode mX5_handOn.2.1 3 = .ok (.istore_n 3, 1) := by decide +kernel
theorem dX5_handOn_4 : decode mX5_handOn.2.1 4 = .ok (.iload_n 3, 1) := by decide +kernel
theorem dX5_handOn_5 : decode mX5_handOn.2.1 5 = .ok (.bipush 20, 2) := by decide +kernel
theorem dX5_handOn_7 : decode mX5_handOn.2.1 7 = .ok (.if_icmp .ge 41, 3) := by decide +kernel
theorem dX5_handOn_10 : decode mX5_handOn.2.1 10 = .ok (.iload_n 2, 1) := by decide +kernel
theorem dX5_handOn_11 : decode mX5_handOn.2.1 11 = .ok (.iconst (-1), 1) := by decide +kernel
theorem dX5_handOn_12 : decode mX5_handOn.2.1 12 = .ok (.if_icmp .eq 36, 3) := by decide +kernel
theorem dX5_handOn_15 : decode mX5_handOn.2.1 15 = .ok (.aload_n 0, 1) := by decide +kernel
theorem dX5_handOn_16 : decode mX5_handOn.2.1 16 = .ok (.getfield 51, 3) := by decide +kernel
theorem dX5_handOn_19 : decode mX5_handOn.2.1 19 = .ok (.iload_n 2, 1) := by decide +kernel
theorem dX5_handOn_20 : decode mX5_handOn.2.1 20 = .ok (.iaload, 1) := by decide +kernel
theorem dX5_handOn_21 : decode mX5_handOn.2.1 21 = .ok (.istore 4, 2) := by decide +kernel
theorem dX5_handOn_23 : decode mX5_handOn.2.1 23 = .ok (.aload_n 0, 1) := by decide +kernel
theorem dX5_handOn_24 : decode mX5_handOn.2.1 24 = .ok (.getfield 23, 3) := by decide +kernel
theorem dX5_handOn_27 : decode mX5_handOn.2.1 27 = .ok (.iload 4, 2) := by decide +kernel
theorem dX5_handOn_29 : decode mX5_handOn.2.1 29 = .ok (.iaload, 1) := by decide +kernel
theorem dX5_handOn_30 : decode mX5_handOn.2.1 30 = .ok (.istore 5, 2) := by decide +kernel
theorem dX5_handOn_32 : decode mX5_handOn.2.1 32 = .ok (.aload_n 0, 1) := by decide +kernel
theorem dX5_handOn_33 : decode mX5_handOn.2.1 33 = .ok (.iload 4, 2) := by decide +kernel
theorem dX5_handOn_35 : decode mX5_handOn.2.1 35 = .ok (.iload_n 2, 1) := by decide +kernel
theorem dX5_handOn_36 : decode mX5_handOn.2.1 36 = .ok (.invokevirtual 82, 3) := by decide +kernel
theorem dX5_handOn_39 : decode mX5_handOn.2.1 39 = .ok (.iload 5, 2) := by decide +kernel
theorem dX5_handOn_41 : decode mX5_handOn.2.1 41 = .ok (.istore_n 2, 1) := by decide +kernel
theorem dX5_handOn_42 : decode mX5_handOn.2.1 42 = .ok (.iinc 3 1, 3) := by decide +kernel
theorem dX5_handOn_45 : decode mX5_handOn.2.1 45 = .ok (.goto (-41), 3) := by decide +kernel
theorem dX5_handOn_48 : decode mX5_handOn.2.1 48 = .ok (.return_, 1) := by decide +kernel
theorem dX6_init_0 : decode mX6_init.2.1 0 = .ok (.aload_n 0, 1) := by decide +kernel
theorem dX6_init_1 : decode mX6_init.2.1 1 = .ok (.invokespecial 3, 3) := by decide +kernel
theorem dX6_init_4 : decode mX6_init.2.1 4 = .ok (.aload_n 0, 1) := by decide +kernel
theorem dX6_init_5 : decode mX6_init.2.1 5 = .ok (.iconst 3, 1) := by decide +kernel
theorem dX6_init_6 : decode mX6_init.2.1 6 = .ok (.newarray .int, 2) := by decide +kernel
theorem dX6_init_8 : decode mX6_init.2.1 8 = .ok (.putfield 11, 3) := by decide +kernel
theorem dX6_init_11 : decode mX6_init.2.1 11 = .ok (.aload_n 0, 1) := by decide +kernel
theorem dX6_init_12 : decode mX6_init.2.1 12 = .ok (.lconst 0, 1) := by decide +kernel
theorem dX6_init_13 : decode mX6_init.2.1 13 = .ok (.putfield 15, 3) := by decide +kernel
theorem dX6_init_16 : decode mX6_init.2.1 16 = .ok (.aload_n 0, 1) := by decide +kernel
theorem dX6_init_17 : decode mX6_init.2.1 17 = .ok (.lconst 1, 1) := by decide +kernel
theorem dX6_init_18 : decode mX6_init.2.1 18 = .ok (.putfield 19, 3) := by decide +kernel
theorem dX6_init_21 : decode mX6_init.2.1 21 = .ok (.aload_n 0, 1) := by decide +kernel
theorem dX6_init_22 : decode mX6_init.2.1 22 = .ok (.sipush 162, 3) := by decide +kernel
theorem dX6_init_25 : decode mX6_init.2.1 25 = .ok (.newarray .int, 2) := by decide +kernel
theorem dX6_init_27 : decode mX6_init.2.1 27 = .ok (.putfield 22, 3) := by decide +kernel
theorem dX6_init_30 : decode mX6_init.2.1 30 = .ok (.aload_n 0, 1) := by decide +kernel
theorem dX6_init_31 : decode mX6_init.2.1 31 = .ok (.lconst 0, 1) := by decide +kernel
theorem dX6_init_32 : decode mX6_init.2.1 32 = .ok (.putfield 25, 3) := by decide +kernel
theorem dX6_init_35 : decode mX6_init.2.1 35 = .ok (.aload_n 0, 1) := by decide +kernel
theorem dX6_init_36 : decode mX6_init.2.1 36 = .ok (.lconst 1, 1) := by decide +kernel
theorem dX6_init_37 : decode mX6_init.2.1 37 = .ok (.putfield 28, 3) := by decide +kernel
theorem dX6_init_40 : decode mX6_init.2.1 40 = .ok (.aload_n 0, 1) := by decide +kernel
theorem dX6_init_41 : decode mX6_init.2.1 41 = .ok (.getfield 11, 3) := by decide +kernel
theorem dX6_init_44 : decode mX6_init.2.1 44 = .ok (.iconst 1, 1) := by decide +kernel
theorem dX6_init_45 : decode mX6_init.2.1 45 = .ok (.invokestatic 31, 3) := by decide +kernel
theorem dX6_init_48 : decode mX6_init.2.1 48 = .ok (.aload_n 0, 1) := by decide +kernel
theorem dX6_init_49 : decode mX6_init.2.1 49 = .ok (.getfield 22, 3) := by decide +kernel
theorem dX6_init_52 : decode mX6_init.2.1 52 = .ok (.iconst (-1), 1) := by decide +kernel
theorem dX6_init_53 : decode mX6_init.2.1 53 = .ok (.invokestatic 31, 3) := by decide +kernel
theorem dX6_init_56 : decode mX6_init.2.1 56 = .ok (.return_, 1) := by decide +kernel
theorem dX6_isShow_0 : decode mX6_isShow.2.1 0 = .ok (.iload_n 0, 1) := by decide +kernel
theorem dX6_isShow_1 : decode mX6_isShow.2.1 1 = .ok (.ifCond .lt 13, 3) := by decide +kernel
theorem dX6_isShow_4 : decode mX6_isShow.2.1 4 = .ok (.iload_n 0, 1) := by decide +kernel
theorem dX6_isShow_5 : decode mX6_isShow.2.1 5 = .ok (.bipush 6, 2) := by decide +kernel
theorem dX6_isShow_7 : decode mX6_isShow.2.1 7 = .ok (.if_icmp .ge 7, 3) := by decide +kernel
theorem dX6_isShow_10 : decode mX6_isShow.2.1 10 = .ok (.iconst 1, 1) := by decide +kernel
theorem dX6_isShow_11 : decode mX6_isShow.2.1 11 = .ok (.goto 4, 3) := by decide +kernel
theorem dX6_isShow_14 : decode mX6_isShow.2.1 14 = .ok (.iconst 0, 1) := by decide +kernel
theorem dX6_isShow_15 : decode mX6_isShow.2.1 15 = .ok (.ireturn, 1) := by decide +kernel
theorem dX6_isJudge_0 : decode mX6_isJudge.2.1 0 = .ok (.iload_n 0, 1) := by decide +kernel
theorem dX6_isJudge_1 : decode mX6_isJudge.2.1 1 = .ok (.ifCond .lt 13, 3) := by decide +kernel
theorem dX6_isJudge_4 : decode mX6_isJudge.2.1 4 = .ok (.iload_n 0, 1) := by decide +kernel
theorem dX6_isJudge_5 : decode mX6_isJudge.2.1 5 = .ok (.bipush 9, 2) := by decide +kernel
theorem dX6_isJudge_7 : decode mX6_isJudge.2.1 7 = .ok (.if_icmp .ge 7, 3) := by decide +kernel
theorem dX6_isJudge_10 : decode mX6_isJudge.2.1 10 = .ok (.iconst 1, 1) := by decide +kernel
theorem dX6_isJudge_11 : decode mX6_isJudge.2.1 11 = .ok (.goto 4, 3) := by decide +kernel
theorem dX6_isJudge_14 : decode mX6_isJudge.2.1 14 = .ok (.iconst 0, 1) := by decide +kernel
theorem dX6_isJudge_15 : decode mX6_isJudge.2.1 15 = .ok (.ireturn, 1) := by decide +kernel
theorem dX6_isTrait_0 : decode mX6_isTrait.2.1 0 = .ok (.iload_n 0, 1) := by decide +kernel
theorem dX6_isTrait_1 : decode mX6_isTrait.2.1 1 = .ok (.ifCond .lt 12, 3) := by decide +kernel
theorem dX6_isTrait_4 : decode mX6_isTrait.2.1 4 = .ok (.iload_n 0, 1) := by decide +kernel
theorem dX6_isTrait_5 : decode mX6_isTrait.2.1 5 = .ok (.iconst 3, 1) := by decide +kernel
theorem dX6_isTrait_6 : decode mX6_isTrait.2.1 6 = .ok (.if_icmp .ge 7, 3) := by decide +kernel
theorem dX6_isTrait_9 : decode mX6_isTrait.2.1 9 = .ok (.iconst 1, 1) := by decide +kernel
theorem dX6_isTrait_10 : decode mX6_isTrait.2.1 10 = .ok (.goto 4, 3) := by decide +kernel
theorem dX6_isTrait_13 : decode mX6_isTrait.2.1 13 = .ok (.iconst 0, 1) := by decide +kernel
theorem dX6_isTrait_14 : decode mX6_isTrait.2.1 14 = .ok (.ireturn, 1) := by decide +kernel
theorem dX6_give_0 : decode mX6_give.2.1 0 = .ok (.aload_n 0, 1) := by decide +kernel
theorem dX6_give_1 : decode mX6_give.2.1 1 = .ok (.getfield 22, 3) := by decide +kernel
theorem dX6_give_4 : decode mX6_give.2.1 4 = .ok (.iload_n 1, 1) := by decide +kernel
theorem dX6_give_5 : decode mX6_give.2.1 5 = .ok (.iconst 3, 1) := by decide +kernel
theorem dX6_give_6 : decode mX6_give.2.1 6 = .ok (.imul, 1) := by decide +kernel
theorem dX6_give_7 : decode mX6_give.2.1 7 = .ok (.iload_n 3, 1) := by decide +kernel
theorem dX6_give_8 : decode mX6_give.2.1 8 = .ok (.iadd, 1) := by decide +kernel
theorem dX6_give_9 : decode mX6_give.2.1 9 = .ok (.bipush 9, 2) := by decide +kernel
theorem dX6_give_11 : decode mX6_give.2.1 11 = .ok (.imul, 1) := by decide +kernel
theorem dX6_give_12 : decode mX6_give.2.1 12 = .ok (.iload_n 2, 1) := by decide +kernel
theorem dX6_give_13 : decode mX6_give.2.1 13 = .ok (.iadd, 1) := by decide +kernel
theorem dX6_give_14 : decode mX6_give.2.1 14 = .ok (.iload 4, 2) := by decide +kernel
theorem dX6_give_16 : decode mX6_give.2.1 16 = .ok (.iastore, 1) := by decide +kernel
theorem dX6_give_17 : decode mX6_give.2.1 17 = .ok (.return_, 1) := by decide +kernel
theorem dX6_reckon_0 : decode mX6_reckon.2.1 0 = .ok (.aload_n 0, 1) := by decide +kernel
theorem dX6_reckon_1 : decode mX6_reckon.2.1 1 = .ok (.lconst 0, 1) := by decide +kernel
theorem dX6_reckon_2 : decode mX6_reckon.2.1 2 = .ok (.putfield 25, 3) := by decide +kernel
theorem dX6_reckon_5 : decode mX6_reckon.2.1 5 = .ok (.aload_n 0, 1) := by decide +kernel
theorem dX6_reckon_6 : decode mX6_reckon.2.1 6 = .ok (.lconst 1, 1) := by decide +kernel
theorem dX6_reckon_7 : decode mX6_reckon.2.1 7 = .ok (.putfield 28, 3) := by decide +kernel
theorem dX6_reckon_10 : decode mX6_reckon.2.1 10 = .ok (.iconst 0, 1) := by decide +kernel
theorem dX6_reckon_11 : decode mX6_reckon.2.1 11 = .ok (.istore_n 2, 1) := by decide +kernel
theorem dX6_reckon_12 : decode mX6_reckon.2.1 12 = .ok (.iload_n 2, 1) := by decide +kernel
theorem dX6_reckon_13 : decode mX6_reckon.2.1 13 = .ok (.iconst 3, 1) := by decide +kernel
theorem dX6_reckon_14 : decode mX6_reckon.2.1 14 = .ok (.if_icmp .ge 20, 3) := by decide +kernel
theorem dX6_reckon_17 : decode mX6_reckon.2.1 17 = .ok (.aload_n 0, 1) := by decide +kernel
theorem dX6_reckon_18 : decode mX6_reckon.2.1 18 = .ok (.iload_n 1, 1) := by decide +kernel
theorem dX6_reckon_19 : decode mX6_reckon.2.1 19 = .ok (.iload_n 2, 1) := by decide +kernel
theorem dX6_reckon_20 : decode mX6_reckon.2.1 20 = .ok (.invokevirtual 37, 3) := by decide +kernel
theorem dX6_reckon_23 : decode mX6_reckon.2.1 23 = .ok (.ifCond .ne 5, 3) := by decide +kernel
theorem dX6_reckon_26 : decode mX6_reckon.2.1 26 = .ok (.iconst 0, 1) := by decide +kernel
theorem dX6_reckon_27 : decode mX6_reckon.2.1 27 = .ok (.ireturn, 1) := by decide +kernel
theorem dX6_reckon_28 : decode mX6_reckon.2.1 28 = .ok (.iinc 2 1, 3) := by decide +kernel
theorem dX6_reckon_31 : decode mX6_reckon.2.1 31 = .ok (.goto (-19), 3) := by decide +kernel
theorem dX6_reckon_34 : decode mX6_reckon.2.1 34 = .ok (.iconst 1, 1) := by decide +kernel
theorem dX6_reckon_35 : decode mX6_reckon.2.1 35 = .ok (.ireturn, 1) := by decide +kernel
theorem dX6_addTrait_0 : decode mX6_addTrait.2.1 0 = .ok (.iconst 0, 1) := by decide +kernel
theorem dX6_addTrait_1 : decode mX6_addTrait.2.1 1 = .ok (.istore_n 3, 1) := by decide +kernel
theorem dX6_addTrait_2 : decode mX6_addTrait.2.1 2 = .ok (.iconst 0, 1) := by decide +kernel
theorem dX6_addTrait_3 : decode mX6_addTrait.2.1 3 = .ok (.istore 4, 2) := by decide +kernel
theorem dX6_addTrait_5 : decode mX6_addTrait.2.1 5 = .ok (.bipush 100, 2) := by decide +kernel
theorem dX6_addTrait_7 : decode mX6_addTrait.2.1 7 = .ok (.istore 5, 2) := by decide +kernel
theorem dX6_addTrait_9 : decode mX6_addTrait.2.1 9 = .ok (.iconst 0, 1) := by decide +kernel
theorem dX6_addTrait_10 : decode mX6_addTrait.2.1 10 = .ok (.istore 6, 2) := by decide +kernel
theorem dX6_addTrait_12 : decode mX6_addTrait.2.1 12 = .ok (.iconst 0, 1) := by decide +kernel
theorem dX6_addTrait_13 : decode mX6_addTrait.2.1 13 = .ok (.istore 7, 2) := by decide +kernel
theorem dX6_addTrait_15 : decode mX6_addTrait.2.1 15 = .ok (.iload 7, 2) := by decide +kernel
theorem dX6_addTrait_17 : decode mX6_addTrait.2.1 17 = .ok (.bipush 9, 2) := by decide +kernel
theorem dX6_addTrait_19 : decode mX6_addTrait.2.1 19 = .ok (.if_icmp .ge 61, 3) := by decide +kernel
theorem dX6_addTrait_22 : decode mX6_addTrait.2.1 22 = .ok (.aload_n 0, 1) := by decide +kernel
theorem dX6_addTrait_23 : decode mX6_addTrait.2.1 23 = .ok (.getfield 22, 3) := by decide +kernel
theorem dX6_addTrait_26 : decode mX6_addTrait.2.1 26 = .ok (.iload_n 1, 1) := by decide +kernel
theorem dX6_addTrait_27 : decode mX6_addTrait.2.1 27 = .ok (.iconst 3, 1) := by decide +kernel
theorem dX6_addTrait_28 : decode mX6_addTrait.2.1 28 = .ok (.imul, 1) := by decide +kernel
theorem dX6_addTrait_29 : decode mX6_addTrait.2.1 29 = .ok (.iload_n 2, 1) := by decide +kernel
theorem dX6_addTrait_30 : decode mX6_addTrait.2.1 30 = .ok (.iadd, 1) := by decide +kernel
theorem dX6_addTrait_31 : decode mX6_addTrait.2.1 31 = .ok (.bipush 9, 2) := by decide +kernel
theorem dX6_addTrait_33 : decode mX6_addTrait.2.1 33 = .ok (.imul, 1) := by decide +kernel
theorem dX6_addTrait_34 : decode mX6_addTrait.2.1 34 = .ok (.iload 7, 2) := by decide +kernel
theorem dX6_addTrait_36 : decode mX6_addTrait.2.1 36 = .ok (.iadd, 1) := by decide +kernel
theorem dX6_addTrait_37 : decode mX6_addTrait.2.1 37 = .ok (.iaload, 1) := by decide +kernel
theorem dX6_addTrait_38 : decode mX6_addTrait.2.1 38 = .ok (.istore 8, 2) := by decide +kernel
theorem dX6_addTrait_40 : decode mX6_addTrait.2.1 40 = .ok (.iload 8, 2) := by decide +kernel
theorem dX6_addTrait_42 : decode mX6_addTrait.2.1 42 = .ok (.iconst (-1), 1) := by decide +kernel
theorem dX6_addTrait_43 : decode mX6_addTrait.2.1 43 = .ok (.if_icmp .eq 31, 3) := by decide +kernel
theorem dX6_addTrait_46 : decode mX6_addTrait.2.1 46 = .ok (.iinc 3 1, 3) := by decide +kernel
theorem dX6_addTrait_49 : decode mX6_addTrait.2.1 49 = .ok (.iload 4, 2) := by decide +kernel
theorem dX6_addTrait_51 : decode mX6_addTrait.2.1 51 = .ok (.iload 8, 2) := by decide +kernel
theorem dX6_addTrait_53 : decode mX6_addTrait.2.1 53 = .ok (.iadd, 1) := by decide +kernel
theorem dX6_addTrait_54 : decode mX6_addTrait.2.1 54 = .ok (.istore 4, 2) := by decide +kernel
theorem dX6_addTrait_56 : decode mX6_addTrait.2.1 56 = .ok (.iload 5, 2) := by decide +kernel
theorem dX6_addTrait_58 : decode mX6_addTrait.2.1 58 = .ok (.iload 8, 2) := by decide +kernel
theorem dX6_addTrait_60 : decode mX6_addTrait.2.1 60 = .ok (.invokestatic 41, 3) := by decide +kernel
theorem dX6_addTrait_63 : decode mX6_addTrait.2.1 63 = .ok (.istore 5, 2) := by decide +kernel
theorem dX6_addTrait_65 : decode mX6_addTrait.2.1 65 = .ok (.iload 6, 2) := by decide +kernel
theorem dX6_addTrait_67 : decode mX6_addTrait.2.1 67 = .ok (.iload 8, 2) := by decide +kernel
theorem dX6_addTrait_69 : decode mX6_addTrait.2.1 69 = .ok (.invokestatic 47, 3) := by decide +kernel
theorem dX6_addTrait_72 : decode mX6_addTrait.2.1 72 = .ok (.istore 6, 2) := by decide +kernel
theorem dX6_addTrait_74 : decode mX6_addTrait.2.1 74 = .ok (.iinc 7 1, 3) := by decide +kernel
theorem dX6_addTrait_77 : decode mX6_addTrait.2.1 77 = .ok (.goto (-62), 3) := by decide +kernel
theorem dX6_addTrait_80 : decode mX6_addTrait.2.1 80 = .ok (.iload_n 3, 1) := by decide +kernel
theorem dX6_addTrait_81 : decode mX6_addTrait.2.1 81 = .ok (.iconst 3, 1) := by decide +kernel
theorem dX6_addTrait_82 : decode mX6_addTrait.2.1 82 = .ok (.if_icmp .lt 16, 3) := by decide +kernel
theorem dX6_addTrait_85 : decode mX6_addTrait.2.1 85 = .ok (.iinc 3 (-2), 3) := by decide +kernel
theorem dX6_addTrait_88 : decode mX6_addTrait.2.1 88 = .ok (.iload 4, 2) := by decide +kernel
theorem dX6_addTrait_90 : decode mX6_addTrait.2.1 90 = .ok (.iload 5, 2) := by decide +kernel
theorem dX6_addTrait_92 : decode mX6_addTrait.2.1 92 = .ok (.iload 6, 2) := by decide +kernel
theorem dX6_addTrait_94 : decode mX6_addTrait.2.1 94 = .ok (.iadd, 1) := by decide +kernel
theorem dX6_addTrait_95 : decode mX6_addTrait.2.1 95 = .ok (.isub, 1) := by decide +kernel
theorem dX6_addTrait_96 : decode mX6_addTrait.2.1 96 = .ok (.istore 4, 2) := by decide +kernel
theorem dX6_addTrait_98 : decode mX6_addTrait.2.1 98 = .ok (.aload_n 0, 1) := by decide +kernel
theorem dX6_addTrait_99 : decode mX6_addTrait.2.1 99 = .ok (.aload_n 0, 1) := by decide +kernel
theorem dX6_addTrait_100 : decode mX6_addTrait.2.1 100 = .ok (.getfield 25, 3) := by decide +kernel
theorem dX6_addTrait_103 : decode mX6_addTrait.2.1 103 = .ok (.iload_n 3, 1) := by decide +kernel
theorem dX6_addTrait_104 : decode mX6_addTrait.2.1 104 = .ok (.i2l, 1) := by decide +kernel
theorem dX6_addTrait_105 : decode mX6_addTrait.2.1 105 = .ok (.lmul, 1) := by decide +kernel
theorem dX6_addTrait_106 : decode mX6_addTrait.2.1 106 = .ok (.aload_n 0, 1) := by decide +kernel
theorem dX6_addTrait_107 : decode mX6_addTrait.2.1 107 = .ok (.getfield 28, 3) := by decide +kernel
theorem dX6_addTrait_110 : decode mX6_addTrait.2.1 110 = .ok (.iload 4, 2) := by decide +kernel
theorem dX6_addTrait_112 : decode mX6_addTrait.2.1 112 = .ok (.i2l, 1) := by decide +kernel
theorem dX6_addTrait_113 : decode mX6_addTrait.2.1 113 = .ok (.lmul, 1) := by decide +kernel
theorem dX6_addTrait_114 : decode mX6_addTrait.2.1 114 = .ok (.aload_n 0, 1) := by decide +kernel
theorem dX6_addTrait_115 : decode mX6_addTrait.2.1 115 = .ok (.getfield 11, 3) := by decide +kernel
theorem dX6_addTrait_118 : decode mX6_addTrait.2.1 118 = .ok (.iload_n 2, 1) := by decide +kernel
theorem dX6_addTrait_119 : decode mX6_addTrait.2.1 119 = .ok (.iaload, 1) := by decide +kernel
theorem dX6_addTrait_120 : decode mX6_addTrait.2.1 120 = .ok (.i2l, 1) := by decide +kernel
theorem dX6_addTrait_121 : decode mX6_addTrait.2.1 121 = .ok (.lmul, 1) := by decide +kernel
theorem dX6_addTrait_122 : decode mX6_addTrait.2.1 122 = .ok (.ladd, 1) := by decide +kernel
theorem dX6_addTrait_123 : decode mX6_addTrait.2.1 123 = .ok (.putfield 25, 3) := by decide +kernel
theorem dX6_addTrait_126 : decode mX6_addTrait.2.1 126 = .ok (.aload_n 0, 1) := by decide +kernel
theorem dX6_addTrait_127 : decode mX6_addTrait.2.1 127 = .ok (.dup, 1) := by decide +kernel
theorem dX6_addTrait_128 : decode mX6_addTrait.2.1 128 = .ok (.getfield 28, 3) := by decide +kernel
theorem dX6_addTrait_131 : decode mX6_addTrait.2.1 131 = .ok (.iload_n 3, 1) := by decide +kernel
theorem dX6_addTrait_132 : decode mX6_addTrait.2.1 132 = .ok (.i2l, 1) := by decide +kernel
theorem dX6_addTrait_133 : decode mX6_addTrait.2.1 133 = .ok (.lmul, 1) := by decide +kernel
theorem dX6_addTrait_134 : decode mX6_addTrait.2.1 134 = .ok (.putfield 28, 3) := by decide +kernel
theorem dX6_addTrait_137 : decode mX6_addTrait.2.1 137 = .ok (.iload_n 3, 1) := by decide +kernel
theorem dX6_addTrait_138 : decode mX6_addTrait.2.1 138 = .ok (.ifCond .le 7, 3) := by decide +kernel
theorem dX6_addTrait_141 : decode mX6_addTrait.2.1 141 = .ok (.iconst 1, 1) := by decide +kernel
theorem dX6_addTrait_142 : decode mX6_addTrait.2.1 142 = .ok (.goto 4, 3) := by decide +kernel
theorem dX6_addTrait_145 : decode mX6_addTrait.2.1 145 = .ok (.iconst 0, 1) := by decide +kernel
theorem dX6_addTrait_146 : decode mX6_addTrait.2.1 146 = .ok (.ireturn, 1) := by decide +kernel
theorem dX6_tellFraction_0 : decode mX6_tellFraction.2.1 0 = .ok (.aload_n 0, 1) := by decide +kernel
theorem dX6_tellFraction_1 : decode mX6_tellFraction.2.1 1 = .ok (.getfield 25, 3) := by decide +kernel
theorem dX6_tellFraction_4 : decode mX6_tellFraction.2.1 4 = .ok (.aload_n 0, 1) := by decide +kernel
theorem dX6_tellFraction_5 : decode mX6_tellFraction.2.1 5 = .ok (.getfield 28, 3) := by decide +kernel
theorem dX6_tellFraction_8 : decode mX6_tellFraction.2.1 8 = .ok (.invokestatic 50, 3) := by decide +kernel
theorem dX6_tellFraction_11 : decode mX6_tellFraction.2.1 11 = .ok (.lstore_n 1, 1) := by decide +kernel
theorem dX6_tellFraction_12 : decode mX6_tellFraction.2.1 12 = .ok (.lload_n 1, 1) := by decide +kernel
theorem dX6_tellFraction_13 : decode mX6_tellFraction.2.1 13 = .ok (.lconst 0, 1) := by decide +kernel
theorem dX6_tellFraction_14 : decode mX6_tellFraction.2.1 14 = .ok (.lcmp, 1) := by decide +kernel
theorem dX6_tellFraction_15 : decode mX6_tellFraction.2.1 15 = .ok (.ifCond .le 23, 3) := by decide +kernel
theorem dX6_tellFraction_18 : decode mX6_tellFraction.2.1 18 = .ok (.aload_n 0, 1) := by decide +kernel
theorem dX6_tellFraction_19 : decode mX6_tellFraction.2.1 19 = .ok (.aload_n 0, 1) := by decide +kernel
theorem dX6_tellFraction_20 : decode mX6_tellFraction.2.1 20 = .ok (.getfield 25, 3) := by decide +kernel
theorem dX6_tellFraction_23 : decode mX6_tellFraction.2.1 23 = .ok (.lload_n 1, 1) := by decide +kernel
theorem dX6_tellFraction_24 : decode mX6_tellFraction.2.1 24 = .ok (.ldiv, 1) := by decide +kernel
theorem dX6_tellFraction_25 : decode mX6_tellFraction.2.1 25 = .ok (.putfield 15, 3) := by decide +kernel
theorem dX6_tellFraction_28 : decode mX6_tellFraction.2.1 28 = .ok (.aload_n 0, 1) := by decide +kernel
theorem dX6_tellFraction_29 : decode mX6_tellFraction.2.1 29 = .ok (.aload_n 0, 1) := by decide +kernel
theorem dX6_tellFraction_30 : decode mX6_tellFraction.2.1 30 = .ok (.getfield 28, 3) := by decide +kernel
theorem dX6_tellFraction_33 : decode mX6_tellFraction.2.1 33 = .ok (.lload_n 1, 1) := by decide +kernel
theorem dX6_tellFraction_34 : decode mX6_tellFraction.2.1 34 = .ok (.ldiv, 1) := by decide +kernel
theorem dX6_tellFraction_35 : decode mX6_tellFraction.2.1 35 = .ok (.putfield 19, 3) := by decide +kernel
theorem dX6_tellFraction_38 : decode mX6_tellFraction.2.1 38 = .ok (.return_, 1) := by decide +kernel
theorem dX6_commonDivisor_0 : decode mX6_commonDivisor.2.1 0 = .ok (.lload_n 0, 1) := by decide +kernel
theorem dX6_commonDivisor_1 : decode mX6_commonDivisor.2.1 1 = .ok (.lstore 4, 2) := by decide +kernel
theorem dX6_commonDivisor_3 : decode mX6_commonDivisor.2.1 3 = .ok (.lload_n 2, 1) := by decide +kernel
theorem dX6_commonDivisor_4 : decode mX6_commonDivisor.2.1 4 = .ok (.lstore 6, 2) := by decide +kernel
theorem dX6_commonDivisor_6 : decode mX6_commonDivisor.2.1 6 = .ok (.iconst 0, 1) := by decide +kernel
theorem dX6_commonDivisor_7 : decode mX6_commonDivisor.2.1 7 = .ok (.istore 8, 2) := by decide +kernel
theorem dX6_commonDivisor_9 : decode mX6_commonDivisor.2.1 9 = .ok (.iload 8, 2) := by decide +kernel
theorem dX6_commonDivisor_11 : decode mX6_commonDivisor.2.1 11 = .ok (.sipush 1000, 3) := by decide +kernel
theorem dX6_commonDivisor_14 : decode mX6_commonDivisor.2.1 14 = .ok (.if_icmp .ge 31, 3) := by decide +kernel
theorem dX6_commonDivisor_17 : decode mX6_commonDivisor.2.1 17 = .ok (.lload 6, 2) := by decide +kernel
theorem dX6_commonDivisor_19 : decode mX6_commonDivisor.2.1 19 = .ok (.lconst 0, 1) := by decide +kernel
theorem dX6_commonDivisor_20 : decode mX6_commonDivisor.2.1 20 = .ok (.lcmp, 1) := by decide +kernel
theorem dX6_commonDivisor_21 : decode mX6_commonDivisor.2.1 21 = .ok (.ifCond .eq 24, 3) := by decide +kernel
theorem dX6_commonDivisor_24 : decode mX6_commonDivisor.2.1 24 = .ok (.lload 4, 2) := by decide +kernel
theorem dX6_commonDivisor_26 : decode mX6_commonDivisor.2.1 26 = .ok (.lload 6, 2) := by decide +kernel
theorem dX6_commonDivisor_28 : decode mX6_commonDivisor.2.1 28 = .ok (.lrem, 1) := by decide +kernel
theorem dX6_commonDivisor_29 : decode mX6_commonDivisor.2.1 29 = .ok (.lstore 9, 2) := by decide +kernel
theorem dX6_commonDivisor_31 : decode mX6_commonDivisor.2.1 31 = .ok (.lload 6, 2) := by decide +kernel
theorem dX6_commonDivisor_33 : decode mX6_commonDivisor.2.1 33 = .ok (.lstore 4, 2) := by decide +kernel
theorem dX6_commonDivisor_35 : decode mX6_commonDivisor.2.1 35 = .ok (.lload 9, 2) := by decide +kernel
theorem dX6_commonDivisor_37 : decode mX6_commonDivisor.2.1 37 = .ok (.lstore 6, 2) := by decide +kernel
theorem dX6_commonDivisor_39 : decode mX6_commonDivisor.2.1 39 = .ok (.iinc 8 1, 3) := by decide +kernel
theorem dX6_commonDivisor_42 : decode mX6_commonDivisor.2.1 42 = .ok (.goto (-33), 3) := by decide +kernel
theorem dX6_commonDivisor_45 : decode mX6_commonDivisor.2.1 45 = .ok (.lload 4, 2) := by decide +kernel
theorem dX6_commonDivisor_47 : decode mX6_commonDivisor.2.1 47 = .ok (.lreturn, 1) := by decide +kernel
theorem dX6_placeOf_0 : decode mX6_placeOf.2.1 0 = .ok (.aload_n 0, 1) := by decide +kernel
theorem dX6_placeOf_1 : decode mX6_placeOf.2.1 1 = .ok (.iload_n 1, 1) := by decide +kernel
theorem dX6_placeOf_2 : decode mX6_placeOf.2.1 2 = .ok (.invokevirtual 54, 3) := by decide +kernel
theorem dX6_placeOf_5 : decode mX6_placeOf.2.1 5 = .ok (.ifCond .ne 5, 3) := by decide +kernel
theorem dX6_placeOf_8 : decode mX6_placeOf.2.1 8 = .ok (.iconst (-1), 1) := by decide +kernel
theorem dX6_placeOf_9 : decode mX6_placeOf.2.1 9 = .ok (.ireturn, 1) := by decide +kernel
theorem dX6_placeOf_10 : decode mX6_placeOf.2.1 10 = .ok (.aload_n 0, 1) := by decide +kernel
theorem dX6_placeOf_11 : decode mX6_placeOf.2.1 11 = .ok (.getfield 25, 3) := by decide +kernel
theorem dX6_placeOf_14 : decode mX6_placeOf.2.1 14 = .ok (.lstore_n 2, 1) := by decide +kernel
theorem dX6_placeOf_15 : decode mX6_placeOf.2.1 15 = .ok (.aload_n 0, 1) := by decide +kernel
theorem dX6_placeOf_16 : decode mX6_placeOf.2.1 16 = .ok (.getfield 28, 3) := by decide +kernel
theorem dX6_placeOf_19 : decode mX6_placeOf.2.1 19 = .ok (.lstore 4, 2) := by decide +kernel
theorem dX6_placeOf_21 : decode mX6_placeOf.2.1 21 = .ok (.iconst 1, 1) := by decide +kernel
theorem dX6_placeOf_22 : decode mX6_placeOf.2.1 22 = .ok (.istore 6, 2) := by decide +kernel
theorem dX6_placeOf_24 : decode mX6_placeOf.2.1 24 = .ok (.iconst 0, 1) := by decide +kernel
theorem dX6_placeOf_25 : decode mX6_placeOf.2.1 25 = .ok (.istore 7, 2) := by decide +kernel
theorem dX6_placeOf_27 : decode mX6_placeOf.2.1 27 = .ok (.iload 7, 2) := by decide +kernel
theorem dX6_placeOf_29 : decode mX6_placeOf.2.1 29 = .ok (.bipush 6, 2) := by decide +kernel
theorem dX6_placeOf_31 : decode mX6_placeOf.2.1 31 = .ok (.if_icmp .ge 38, 3) := by decide +kernel
theorem dX6_placeOf_34 : decode mX6_placeOf.2.1 34 = .ok (.aload_n 0, 1) := by decide +kernel
theorem dX6_placeOf_35 : decode mX6_placeOf.2.1 35 = .ok (.iload 7, 2) := by decide +kernel
theorem dX6_placeOf_37 : decode mX6_placeOf.2.1 37 = .ok (.invokevirtual 54, 3) := by decide +kernel
theorem dX6_placeOf_40 : decode mX6_placeOf.2.1 40 = .ok (.ifCond .eq 23, 3) := by decide +kernel
theorem dX6_placeOf_43 : decode mX6_placeOf.2.1 43 = .ok (.aload_n 0, 1) := by decide +kernel
theorem dX6_placeOf_44 : decode mX6_placeOf.2.1 44 = .ok (.getfield 25, 3) := by decide +kernel
theorem dX6_placeOf_47 : decode mX6_placeOf.2.1 47 = .ok (.lload 4, 2) := by decide +kernel
theorem dX6_placeOf_49 : decode mX6_placeOf.2.1 49 = .ok (.lmul, 1) := by decide +kernel
theorem dX6_placeOf_50 : decode mX6_placeOf.2.1 50 = .ok (.lload_n 2, 1) := by decide +kernel
theorem dX6_placeOf_51 : decode mX6_placeOf.2.1 51 = .ok (.aload_n 0, 1) := by decide +kernel
theorem dX6_placeOf_52 : decode mX6_placeOf.2.1 52 = .ok (.getfield 28, 3) := by decide +kernel
theorem dX6_placeOf_55 : decode mX6_placeOf.2.1 55 = .ok (.lmul, 1) := by decide +kernel
theorem dX6_placeOf_56 : decode mX6_placeOf.2.1 56 = .ok (.lcmp, 1) := by decide +kernel
theorem dX6_placeOf_57 : decode mX6_placeOf.2.1 57 = .ok (.ifCond .le 6, 3) := by decide +kernel
theorem dX6_placeOf_60 : decode mX6_placeOf.2.1 60 = .ok (.iinc 6 1, 3) := by decide +kernel
theorem dX6_placeOf_63 : decode mX6_placeOf.2.1 63 = .ok (.iinc 7 1, 3) := by decide +kernel
theorem dX6_placeOf_66 : decode mX6_placeOf.2.1 66 = .ok (.goto (-39), 3) := by decide +kernel
theorem dX6_placeOf_69 : decode mX6_placeOf.2.1 69 = .ok (.iload 6, 2) := by decide +kernel
theorem dX6_placeOf_71 : decode mX6_placeOf.2.1 71 = .ok (.ireturn, 1) := by decide +kernel
theorem dX7_init_0 : decode mX7_init.2.1 0 = .ok (.aload_n 0, 1) := by decide +kernel
theorem dX7_init_1 : decode mX7_init.2.1 1 = .ok (.invokespecial 1, 3) := by decide +kernel
theorem dX7_init_4 : decode mX7_init.2.1 4 = .ok (.aload_n 0, 1) := by decide +kernel
theorem dX7_init_5 : decode mX7_init.2.1 5 = .ok (.bipush 60, 2) := by decide +kernel
theorem dX7_init_7 : decode mX7_init.2.1 7 = .ok (.newarray .int, 2) := by decide +kernel
theorem dX7_init_9 : decode mX7_init.2.1 9 = .ok (.putfield 9, 3) := by decide +kernel
theorem dX7_init_12 : decode mX7_init.2.1 12 = .ok (.aload_n 0, 1) := by decide +kernel
theorem dX7_init_13 : decode mX7_init.2.1 13 = .ok (.bipush 60, 2) := by decide +kernel
theorem dX7_init_15 : decode mX7_init.2.1 15 = .ok (.newarray .int, 2) := by decide +kernel
theorem dX7_init_17 : decode mX7_init.2.1 17 = .ok (.putfield 13, 3) := by decide +kernel
theorem dX7_init_20 : decode mX7_init.2.1 20 = .ok (.aload_n 0, 1) := by decide +kernel
theorem dX7_init_21 : decode mX7_init.2.1 21 = .ok (.bipush 60, 2) := by decide +kernel
theorem dX7_init_23 : decode mX7_init.2.1 23 = .ok (.newarray .int, 2) := by decide +kernel
theorem dX7_init_25 : decode mX7_init.2.1 25 = .ok (.putfield 16, 3) := by decide +kernel
theorem dX7_init_28 : decode mX7_init.2.1 28 = .ok (.aload_n 0, 1) := by decide +kernel
theorem dX7_init_29 : decode mX7_init.2.1 29 = .ok (.bipush 60, 2) := by decide +kernel
theorem dX7_init_31 : decode mX7_init.2.1 31 = .ok (.newarray .int, 2) := by decide +kernel
theorem dX7_init_33 : decode mX7_init.2.1 33 = .ok (.putfield 19, 3) := by decide +kernel
theorem dX7_init_36 : decode mX7_init.2.1 36 = .ok (.aload_n 0, 1) := by decide +kernel
theorem dX7_init_37 : decode mX7_init.2.1 37 = .ok (.bipush 60, 2) := by decide +kernel
theorem dX7_init_39 : decode mX7_init.2.1 39 = .ok (.newarray .int, 2) := by decide +kernel
theorem dX7_init_41 : decode mX7_init.2.1 41 = .ok (.putfield 22, 3) := by decide +kernel
theorem dX7_init_44 : decode mX7_init.2.1 44 = .ok (.aload_n 0, 1) := by decide +kernel
theorem dX7_init_45 : decode mX7_init.2.1 45 = .ok (.bipush 60, 2) := by decide +kernel
theorem dX7_init_47 : decode mX7_init.2.1 47 = .ok (.newarray .int, 2) := by decide +kernel
theorem dX7_init_49 : decode mX7_init.2.1 49 = .ok (.putfield 25, 3) := by decide +kernel
theorem dX7_init_52 : decode mX7_init.2.1 52 = .ok (.aload_n 0, 1) := by decide +kernel
theorem dX7_init_53 : decode mX7_init.2.1 53 = .ok (.bipush 8, 2) := by decide +kernel
theorem dX7_init_55 : decode mX7_init.2.1 55 = .ok (.newarray .int, 2) := by decide +kernel
theorem dX7_init_57 : decode mX7_init.2.1 57 = .ok (.putfield 30, 3) := by decide +kernel
theorem dX7_init_60 : decode mX7_init.2.1 60 = .ok (.aload_n 0, 1) := by decide +kernel
theorem dX7_init_61 : decode mX7_init.2.1 61 = .ok (.bipush 8, 2) := by decide +kernel
theorem dX7_init_63 : decode mX7_init.2.1 63 = .ok (.newarray .int, 2) := by decide +kernel
theorem dX7_init_65 : decode mX7_init.2.1 65 = .ok (.putfield 33, 3) := by decide +kernel
theorem dX7_init_68 : decode mX7_init.2.1 68 = .ok (.aload_n 0, 1) := by decide +kernel
theorem dX7_init_69 : decode mX7_init.2.1 69 = .ok (.iconst 0, 1) := by decide +kernel
theorem dX7_init_70 : decode mX7_init.2.1 70 = .ok (.putfield 36, 3) := by decide +kernel
theorem dX7_init_73 : decode mX7_init.2.1 73 = .ok (.aload_n 0, 1) := by decide +kernel
theorem dX7_init_74 : decode mX7_init.2.1 74 = .ok (.iconst 0, 1) := by decide +kernel
theorem dX7_init_75 : decode mX7_init.2.1 75 = .ok (.putfield 40, 3) := by decide +kernel
theorem dX7_init_78 : decode mX7_init.2.1 78 = .ok (.aload_n 0, 1) := by decide +kernel
theorem dX7_init_79 : decode mX7_init.2.1 79 = .ok (.iconst 0, 1) := by decide +kernel
theorem dX7_init_80 : decode mX7_init.2.1 80 = .ok (.putfield 43, 3) := by decide +kernel
theorem dX7_init_83 : decode mX7_init.2.1 83 = .ok (.aload_n 0, 1) := by decide +kernel
theorem dX7_init_84 : decode mX7_init.2.1 84 = .ok (.iconst 0, 1) := by decide +kernel
theorem dX7_init_85 : decode mX7_init.2.1 85 = .ok (.putfield 47, 3) := by decide +kernel
theorem dX7_init_88 : decode mX7_init.2.1 88 = .ok (.return_, 1) := by decide +kernel
theorem dX7_clear_0 : decode mX7_clear.2.1 0 = .ok (.aload_n 0, 1) := by decide +kernel
theorem dX7_clear_1 : decode mX7_clear.2.1 1 = .ok (.iconst 0, 1) := by decide +kernel
theorem dX7_clear_2 : decode mX7_clear.2.1 2 = .ok (.putfield 36, 3) := by decide +kernel
theorem dX7_clear_5 : decode mX7_clear.2.1 5 = .ok (.aload_n 0, 1) := by decide +kernel
theorem dX7_clear_6 : decode mX7_clear.2.1 6 = .ok (.iconst 0, 1) := by decide +kernel
theorem dX7_clear_7 : decode mX7_clear.2.1 7 = .ok (.putfield 40, 3) := by decide +kernel
theorem dX7_clear_10 : decode mX7_clear.2.1 10 = .ok (.aload_n 0, 1) := by decide +kernel
theorem dX7_clear_11 : decode mX7_clear.2.1 11 = .ok (.iconst 0, 1) := by decide +kernel
theorem dX7_clear_12 : decode mX7_clear.2.1 12 = .ok (.putfield 47, 3) := by decide +kernel
theorem dX7_clear_15 : decode mX7_clear.2.1 15 = .ok (.aload_n 0, 1) := by decide +kernel
theorem dX7_clear_16 : decode mX7_clear.2.1 16 = .ok (.iconst 0, 1) := by decide +kernel
theorem dX7_clear_17 : decode mX7_clear.2.1 17 = .ok (.putfield 43, 3) := by decide +kernel
theorem dX7_clear_20 : decode mX7_clear.2.1 20 = .ok (.return_, 1) := by decide +kernel
theorem dX7_beginLine_0 : decode mX7_beginLine.2.1 0 = .ok (.aload_n 0, 1) := by decide +kernel
theorem dX7_beginLine_1 : decode mX7_beginLine.2.1 1 = .ok (.getfield 33, 3) := by decide +kernel
theorem dX7_beginLine_4 : decode mX7_beginLine.2.1 4 = .ok (.aload_n 0, 1) := by decide +kernel
theorem dX7_beginLine_5 : decode mX7_beginLine.2.1 5 = .ok (.getfield 40, 3) := by decide +kernel
theorem dX7_beginLine_8 : decode mX7_beginLine.2.1 8 = .ok (.iload_n 1, 1) := by decide +kernel
theorem dX7_beginLine_9 : decode mX7_beginLine.2.1 9 = .ok (.aload_n 0, 1) := by decide +kernel
theorem dX7_beginLine_10 : decode mX7_beginLine.2.1 10 = .ok (.getfield 47, 3) := by decide +kernel
theorem dX7_beginLine_13 : decode mX7_beginLine.2.1 13 = .ok (.iconst (-1), 1) := by decide +kernel
theorem dX7_beginLine_14 : decode mX7_beginLine.2.1 14 = .ok (.ixor, 1) := by decide +kernel
theorem dX7_beginLine_15 : decode mX7_beginLine.2.1 15 = .ok (.iand, 1) := by decide +kernel
theorem dX7_beginLine_16 : decode mX7_beginLine.2.1 16 = .ok (.iastore, 1) := by decide +kernel
theorem dX7_beginLine_17 : decode mX7_beginLine.2.1 17 = .ok (.aload_n 0, 1) := by decide +kernel
theorem dX7_beginLine_18 : decode mX7_beginLine.2.1 18 = .ok (.dup, 1) := by decide +kernel
theorem dX7_beginLine_19 : decode mX7_beginLine.2.1 19 = .ok (.getfield 47, 3) := by decide +kernel
theorem dX7_beginLine_22 : decode mX7_beginLine.2.1 22 = .ok (.iload_n 1, 1) := by decide +kernel
theorem dX7_beginLine_23 : decode mX7_beginLine.2.1 23 = .ok (.ior, 1) := by decide +kernel
theorem dX7_beginLine_24 : decode mX7_beginLine.2.1 24 = .ok (.putfield 47, 3) := by decide +kernel
theorem dX7_beginLine_27 : decode mX7_beginLine.2.1 27 = .ok (.return_, 1) := by decide +kernel
theorem dX7_endLine_0 : decode mX7_endLine.2.1 0 = .ok (.aload_n 0, 1) := by decide +kernel
theorem dX7_endLine_1 : decode mX7_endLine.2.1 1 = .ok (.getfield 30, 3) := by decide +kernel
theorem dX7_endLine_4 : decode mX7_endLine.2.1 4 = .ok (.aload_n 0, 1) := by decide +kernel
theorem dX7_endLine_5 : decode mX7_endLine.2.1 5 = .ok (.getfield 40, 3) := by decide +kernel
theorem dX7_endLine_8 : decode mX7_endLine.2.1 8 = .ok (.aload_n 0, 1) := by decide +kernel
theorem dX7_endLine_9 : decode mX7_endLine.2.1 9 = .ok (.getfield 36, 3) := by decide +kernel
theorem dX7_endLine_12 : decode mX7_endLine.2.1 12 = .ok (.iastore, 1) := by decide +kernel
theorem dX7_endLine_13 : decode mX7_endLine.2.1 13 = .ok (.aload_n 0, 1) := by decide +kernel
theorem dX7_endLine_14 : decode mX7_endLine.2.1 14 = .ok (.dup, 1) := by decide +kernel
theorem dX7_endLine_15 : decode mX7_endLine.2.1 15 = .ok (.getfield 40, 3) := by decide +kernel
theorem dX7_endLine_18 : decode mX7_endLine.2.1 18 = .ok (.iconst 1, 1) := by decide +kernel
theorem dX7_endLine_19 : decode mX7_endLine.2.1 19 = .ok (.iadd, 1) := by decide +kernel
theorem dX7_endLine_20 : decode mX7_endLine.2.1 20 = .ok (.putfield 40, 3) := by decide +kernel
theorem dX7_endLine_23 : decode mX7_endLine.2.1 23 = .ok (.return_, 1) := by decide +kernel
theorem dX7_lineBegin_0 : decode mX7_lineBegin.2.1 0 = .ok (.iload_n 1, 1) := by decide +kernel
theorem dX7_lineBegin_1 : decode mX7_lineBegin.2.1 1 = .ok (.ifCond .ne 7, 3) := by decide +kernel
theorem dX7_lineBegin_4 : decode mX7_lineBegin.2.1 4 = .ok (.iconst 0, 1) := by decide +kernel
theorem dX7_lineBegin_5 : decode mX7_lineBegin.2.1 5 = .ok (.goto 11, 3) := by decide +kernel
theorem dX7_lineBegin_8 : decode mX7_lineBegin.2.1 8 = .ok (.aload_n 0, 1) := by decide +kernel
theorem dX7_lineBegin_9 : decode mX7_lineBegin.2.1 9 = .ok (.getfield 30, 3) := by decide +kernel
theorem dX7_lineBegin_12 : decode mX7_lineBegin.2.1 12 = .ok (.iload_n 1, 1) := by decide +kernel
theorem dX7_lineBegin_13 : decode mX7_lineBegin.2.1 13 = .ok (.iconst 1, 1) := by decide +kernel
theorem dX7_lineBegin_14 : decode mX7_lineBegin.2.1 14 = .ok (.isub, 1) := by decide +kernel
theorem dX7_lineBegin_15 : decode mX7_lineBegin.2.1 15 = .ok (.iaload, 1) := by decide +kernel
theorem dX7_lineBegin_16 : decode mX7_lineBegin.2.1 16 = .ok (.ireturn, 1) := by decide +kernel
theorem dX7_addOrder_0 : decode mX7_addOrder.2.1 0 = .ok (.aload_n 0, 1) := by decide +kernel
theorem dX7_addOrder_1 : decode mX7_addOrder.2.1 1 = .ok (.getfield 36, 3) := by decide +kernel
theorem dX7_addOrder_4 : decode mX7_addOrder.2.1 4 = .ok (.istore_n 3, 1) := by decide +kernel
theorem dX7_addOrder_5 : decode mX7_addOrder.2.1 5 = .ok (.aload_n 0, 1) := by decide +kernel
theorem dX7_addOrder_6 : decode mX7_addOrder.2.1 6 = .ok (.getfield 9, 3) := by decide +kernel
theorem dX7_addOrder_9 : decode mX7_addOrder.2.1 9 = .ok (.iload_n 3, 1) := by decide +kernel
theorem dX7_addOrder_10 : decode mX7_addOrder.2.1 10 = .ok (.iload_n 1, 1) := by decide +kernel
theorem dX7_addOrder_11 : decode mX7_addOrder.2.1 11 = .ok (.iastore, 1) := by decide +kernel
theorem dX7_addOrder_12 : decode mX7_addOrder.2.1 12 = .ok (.aload_n 0, 1) := by decide +kernel
theorem dX7_addOrder_13 : decode mX7_addOrder.2.1 13 = .ok (.getfield 13, 3) := by decide +kernel
theorem dX7_addOrder_16 : decode mX7_addOrder.2.1 16 = .ok (.iload_n 3, 1) := by decide +kernel
theorem dX7_addOrder_17 : decode mX7_addOrder.2.1 17 = .ok (.iload_n 2, 1) := by decide +kernel
theorem dX7_addOrder_18 : decode mX7_addOrder.2.1 18 = .ok (.iastore, 1) := by decide +kernel
theorem dX7_addOrder_19 : decode mX7_addOrder.2.1 19 = .ok (.aload_n 0, 1) := by decide +kernel
theorem dX7_addOrder_20 : decode mX7_addOrder.2.1 20 = .ok (.getfield 16, 3) := by decide +kernel
theorem dX7_addOrder_23 : decode mX7_addOrder.2.1 23 = .ok (.iload_n 3, 1) := by decide +kernel
theorem dX7_addOrder_24 : decode mX7_addOrder.2.1 24 = .ok (.iconst 0, 1) := by decide +kernel
theorem dX7_addOrder_25 : decode mX7_addOrder.2.1 25 = .ok (.iastore, 1) := by decide +kernel
theorem dX7_addOrder_26 : decode mX7_addOrder.2.1 26 = .ok (.aload_n 0, 1) := by decide +kernel
theorem dX7_addOrder_27 : decode mX7_addOrder.2.1 27 = .ok (.getfield 19, 3) := by decide +kernel
theorem dX7_addOrder_30 : decode mX7_addOrder.2.1 30 = .ok (.iload_n 3, 1) := by decide +kernel
theorem dX7_addOrder_31 : decode mX7_addOrder.2.1 31 = .ok (.iconst 0, 1) := by decide +kernel
theorem dX7_addOrder_32 : decode mX7_addOrder.2.1 32 = .ok (.iastore, 1) := by decide +kernel
theorem dX7_addOrder_33 : decode mX7_addOrder.2.1 33 = .ok (.aload_n 0, 1) := by decide +kernel
theorem dX7_addOrder_34 : decode mX7_addOrder.2.1 34 = .ok (.getfield 22, 3) := by decide +kernel
theorem dX7_addOrder_37 : decode mX7_addOrder.2.1 37 = .ok (.iload_n 3, 1) := by decide +kernel
theorem dX7_addOrder_38 : decode mX7_addOrder.2.1 38 = .ok (.iconst 0, 1) := by decide +kernel
theorem dX7_addOrder_39 : decode mX7_addOrder.2.1 39 = .ok (.iastore, 1) := by decide +kernel
theorem dX7_addOrder_40 : decode mX7_addOrder.2.1 40 = .ok (.aload_n 0, 1) := by decide +kernel
theorem dX7_addOrder_41 : decode mX7_addOrder.2.1 41 = .ok (.getfield 25, 3) := by decide +kernel
theorem dX7_addOrder_44 : decode mX7_addOrder.2.1 44 = .ok (.iload_n 3, 1) := by decide +kernel
theorem dX7_addOrder_45 : decode mX7_addOrder.2.1 45 = .ok (.iload_n 3, 1) := by decide +kernel
theorem dX7_addOrder_46 : decode mX7_addOrder.2.1 46 = .ok (.iconst 1, 1) := by decide +kernel
theorem dX7_addOrder_47 : decode mX7_addOrder.2.1 47 = .ok (.iadd, 1) := by decide +kernel
theorem dX7_addOrder_48 : decode mX7_addOrder.2.1 48 = .ok (.iastore, 1) := by decide +kernel
theorem dX7_addOrder_49 : decode mX7_addOrder.2.1 49 = .ok (.aload_n 0, 1) := by decide +kernel
theorem dX7_addOrder_50 : decode mX7_addOrder.2.1 50 = .ok (.dup, 1) := by decide +kernel
theorem dX7_addOrder_51 : decode mX7_addOrder.2.1 51 = .ok (.getfield 36, 3) := by decide +kernel
theorem dX7_addOrder_54 : decode mX7_addOrder.2.1 54 = .ok (.iconst 1, 1) := by decide +kernel
theorem dX7_addOrder_55 : decode mX7_addOrder.2.1 55 = .ok (.iadd, 1) := by decide +kernel
theorem dX7_addOrder_56 : decode mX7_addOrder.2.1 56 = .ok (.putfield 36, 3) := by decide +kernel
theorem dX7_addOrder_59 : decode mX7_addOrder.2.1 59 = .ok (.iload_n 3, 1) := by decide +kernel
theorem dX7_addOrder_60 : decode mX7_addOrder.2.1 60 = .ok (.ireturn, 1) := by decide +kernel
theorem dX8_init_0 : decode mX8_init.2.1 0 = .ok (.aload_n 0, 1) := by decide +kernel
theorem dX8_init_1 : decode mX8_init.2.1 1 = .ok (.invokespecial 1, 3) := by decide +kernel
theorem dX8_init_4 : decode mX8_init.2.1 4 = .ok (.aload_n 0, 1) := by decide +kernel
theorem dX8_init_5 : decode mX8_init.2.1 5 = .ok (.bipush 40, 2) := by decide +kernel
theorem dX8_init_7 : decode mX8_init.2.1 7 = .ok (.newarray .long, 2) := by decide +kernel
theorem dX8_init_9 : decode mX8_init.2.1 9 = .ok (.putfield 9, 3) := by decide +kernel
theorem dX8_init_12 : decode mX8_init.2.1 12 = .ok (.aload_n 0, 1) := by decide +kernel
theorem dX8_init_13 : decode mX8_init.2.1 13 = .ok (.iconst 0, 1) := by decide +kernel
theorem dX8_init_14 : decode mX8_init.2.1 14 = .ok (.putfield 13, 3) := by decide +kernel
theorem dX8_init_17 : decode mX8_init.2.1 17 = .ok (.aload_n 0, 1) := by decide +kernel
theorem dX8_init_18 : decode mX8_init.2.1 18 = .ok (.iconst 0, 1) := by decide +kernel
theorem dX8_init_19 : decode mX8_init.2.1 19 = .ok (.putfield 17, 3) := by decide +kernel
theorem dX8_init_22 : decode mX8_init.2.1 22 = .ok (.aload_n 0, 1) := by decide +kernel
theorem dX8_init_23 : decode mX8_init.2.1 23 = .ok (.iconst 0, 1) := by decide +kernel
theorem dX8_init_24 : decode mX8_init.2.1 24 = .ok (.putfield 21, 3) := by decide +kernel
theorem dX8_init_27 : decode mX8_init.2.1 27 = .ok (.return_, 1) := by decide +kernel
theorem dX8_lay_0 : decode mX8_lay.2.1 0 = .ok (.aload_n 0, 1) := by decide +kernel
theorem dX8_lay_1 : decode mX8_lay.2.1 1 = .ok (.iconst 1, 1) := by decide +kernel
theorem dX8_lay_2 : decode mX8_lay.2.1 2 = .ok (.putfield 13, 3) := by decide +kernel
theorem dX8_lay_5 : decode mX8_lay.2.1 5 = .ok (.aload_n 0, 1) := by decide +kernel
theorem dX8_lay_6 : decode mX8_lay.2.1 6 = .ok (.iload_n 1, 1) := by decide +kernel
theorem dX8_lay_7 : decode mX8_lay.2.1 7 = .ok (.putfield 17, 3) := by decide +kernel
theorem dX8_lay_10 : decode mX8_lay.2.1 10 = .ok (.aload_n 0, 1) := by decide +kernel
theorem dX8_lay_11 : decode mX8_lay.2.1 11 = .ok (.iload_n 2, 1) := by decide +kernel
theorem dX8_lay_12 : decode mX8_lay.2.1 12 = .ok (.putfield 21, 3) := by decide +kernel
theorem dX8_lay_15 : decode mX8_lay.2.1 15 = .ok (.aload_n 0, 1) := by decide +kernel
theorem dX8_lay_16 : decode mX8_lay.2.1 16 = .ok (.getfield 9, 3) := by decide +kernel
theorem dX8_lay_19 : decode mX8_lay.2.1 19 = .ok (.lconst 0, 1) := by decide +kernel
theorem dX8_lay_20 : decode mX8_lay.2.1 20 = .ok (.invokestatic 24, 3) := by decide +kernel
theorem dX8_lay_23 : decode mX8_lay.2.1 23 = .ok (.return_, 1) := by decide +kernel
theorem dX8_put_0 : decode mX8_put.2.1 0 = .ok (.aload_n 0, 1) := by decide +kernel
theorem dX8_put_1 : decode mX8_put.2.1 1 = .ok (.getfield 9, 3) := by decide +kernel
theorem dX8_put_4 : decode mX8_put.2.1 4 = .ok (.iload_n 1, 1) := by decide +kernel
theorem dX8_put_5 : decode mX8_put.2.1 5 = .ok (.aload_n 0, 1) := by decide +kernel
theorem dX8_put_6 : decode mX8_put.2.1 6 = .ok (.lload_n 2, 1) := by decide +kernel
theorem dX8_put_7 : decode mX8_put.2.1 7 = .ok (.invokevirtual 30, 3) := by decide +kernel
theorem dX8_put_10 : decode mX8_put.2.1 10 = .ok (.lastore, 1) := by decide +kernel
theorem dX8_put_11 : decode mX8_put.2.1 11 = .ok (.return_, 1) := by decide +kernel
theorem dX8_hasRange_0 : decode mX8_hasRange.2.1 0 = .ok (.iload_n 1, 1) := by decide +kernel
theorem dX8_hasRange_1 : decode mX8_hasRange.2.1 1 = .ok (.ifCond .lt 17, 3) := by decide +kernel
theorem dX8_hasRange_4 : decode mX8_hasRange.2.1 4 = .ok (.iload_n 1, 1) := by decide +kernel
theorem dX8_hasRange_5 : decode mX8_hasRange.2.1 5 = .ok (.aload_n 0, 1) := by decide +kernel
theorem dX8_hasRange_6 : decode mX8_hasRange.2.1 6 = .ok (.getfield 21, 3) := by decide +kernel
theorem dX8_hasRange_9 : decode mX8_hasRange.2.1 9 = .ok (.iload_n 2, 1) := by decide +kernel
theorem dX8_hasRange_10 : decode mX8_hasRange.2.1 10 = .ok (.isub, 1) := by decide +kernel
theorem dX8_hasRange_11 : decode mX8_hasRange.2.1 11 = .ok (.if_icmp .gt 7, 3) := by decide +kernel
theorem dX8_hasRange_14 : decode mX8_hasRange.2.1 14 = .ok (.iconst 1, 1) := by decide +kernel
theorem dX8_hasRange_15 : decode mX8_hasRange.2.1 15 = .ok (.goto 4, 3) := by decide +kernel
theorem dX8_hasRange_18 : decode mX8_hasRange.2.1 18 = .ok (.iconst 0, 1) := by decide +kernel
theorem dX8_hasRange_19 : decode mX8_hasRange.2.1 19 = .ok (.ireturn, 1) := by decide +kernel
theorem dX8_cut_0 : decode mX8_cut.2.1 0 = .ok (.aload_n 0, 1) := by decide +kernel
theorem dX8_cut_1 : decode mX8_cut.2.1 1 = .ok (.getfield 17, 3) := by decide +kernel
theorem dX8_cut_4 : decode mX8_cut.2.1 4 = .ok (.tableswitch 42 0 2 #[28, 33, 38], 28) := by decide +kernel
theorem dX8_cut_32 : decode mX8_cut.2.1 32 = .ok (.lload_n 1, 1) := by decide +kernel
theorem dX8_cut_33 : decode mX8_cut.2.1 33 = .ok (.l2i, 1) := by decide +kernel
theorem dX8_cut_34 : decode mX8_cut.2.1 34 = .ok (.i2b, 1) := by decide +kernel
theorem dX8_cut_35 : decode mX8_cut.2.1 35 = .ok (.i2l, 1) := by decide +kernel
theorem dX8_cut_36 : decode mX8_cut.2.1 36 = .ok (.lreturn, 1) := by decide +kernel
theorem dX8_cut_37 : decode mX8_cut.2.1 37 = .ok (.lload_n 1, 1) := by decide +kernel
theorem dX8_cut_38 : decode mX8_cut.2.1 38 = .ok (.l2i, 1) := by decide +kernel
theorem dX8_cut_39 : decode mX8_cut.2.1 39 = .ok (.i2s, 1) := by decide +kernel
theorem dX8_cut_40 : decode mX8_cut.2.1 40 = .ok (.i2l, 1) := by decide +kernel
theorem dX8_cut_41 : decode mX8_cut.2.1 41 = .ok (.lreturn, 1) := by decide +kernel
theorem dX8_cut_42 : decode mX8_cut.2.1 42 = .ok (.lload_n 1, 1) := by decide +kernel
theorem dX8_cut_43 : decode mX8_cut.2.1 43 = .ok (.l2i, 1) := by decide +kernel
theorem dX8_cut_44 : decode mX8_cut.2.1 44 = .ok (.i2l, 1) := by decide +kernel
theorem dX8_cut_45 : decode mX8_cut.2.1 45 = .ok (.lreturn, 1) := by decide +kernel
theorem dX8_cut_46 : decode mX8_cut.2.1 46 = .ok (.lload_n 1, 1) := by decide +kernel
theorem dX8_cut_47 : decode mX8_cut.2.1 47 = .ok (.lreturn, 1) := by decide +kernel
theorem dX9_init_0 : decode mX9_init.2.1 0 = .ok (.aload_n 0, 1) := by decide +kernel
theorem dX9_init_1 : decode mX9_init.2.1 1 = .ok (.invokespecial 5, 3) := by decide +kernel
theorem dX9_init_4 : decode mX9_init.2.1 4 = .ok (.aload_n 0, 1) := by decide +kernel
theorem dX9_init_5 : decode mX9_init.2.1 5 = .ok (.iconst (-1), 1) := by decide +kernel
theorem dX9_init_6 : decode mX9_init.2.1 6 = .ok (.putfield 11, 3) := by decide +kernel
theorem dX9_init_9 : decode mX9_init.2.1 9 = .ok (.aload_n 0, 1) := by decide +kernel
theorem dX9_init_10 : decode mX9_init.2.1 10 = .ok (.aconst_null, 1) := by decide +kernel
theorem dX9_init_11 : decode mX9_init.2.1 11 = .ok (.putfield 17, 3) := by decide +kernel
theorem dX9_init_14 : decode mX9_init.2.1 14 = .ok (.aload_n 0, 1) := by decide +kernel
theorem dX9_init_15 : decode mX9_init.2.1 15 = .ok (.bipush 40, 2) := by decide +kernel
theorem dX9_init_17 : decode mX9_init.2.1 17 = .ok (.newarray .long, 2) := by decide +kernel
theorem dX9_init_19 : decode mX9_init.2.1 19 = .ok (.putfield 21, 3) := by decide +kernel
theorem dX9_init_22 : decode mX9_init.2.1 22 = .ok (.aload_n 0, 1) := by decide +kernel
theorem dX9_init_23 : decode mX9_init.2.1 23 = .ok (.aconst_null, 1) := by decide +kernel
theorem dX9_init_24 : decode mX9_init.2.1 24 = .ok (.putfield 25, 3) := by decide +kernel
theorem dX9_init_27 : decode mX9_init.2.1 27 = .ok (.aload_n 0, 1) := by decide +kernel
theorem dX9_init_28 : decode mX9_init.2.1 28 = .ok (.aconst_null, 1) := by decide +kernel
theorem dX9_init_29 : decode mX9_init.2.1 29 = .ok (.putfield 28, 3) := by decide +kernel
theorem dX9_init_32 : decode mX9_init.2.1 32 = .ok (.aload_n 0, 1) := by decide +kernel
theorem dX9_init_33 : decode mX9_init.2.1 33 = .ok (.iconst 0, 1) := by decide +kernel
theorem dX9_init_34 : decode mX9_init.2.1 34 = .ok (.putfield 32, 3) := by decide +kernel
theorem dX9_init_37 : decode mX9_init.2.1 37 = .ok (.return_, 1) := by decide +kernel
theorem dX9_search_0 : decode mX9_search.2.1 0 = .ok (.aload_n 0, 1) := by decide +kernel
theorem dX9_search_1 : decode mX9_search.2.1 1 = .ok (.invokevirtual 35, 3) := by decide +kernel
theorem dX9_search_4 : decode mX9_search.2.1 4 = .ok (.aload_n 0, 1) := by decide +kernel
theorem dX9_search_5 : decode mX9_search.2.1 5 = .ok (.aload_n 1, 1) := by decide +kernel
theorem dX9_search_6 : decode mX9_search.2.1 6 = .ok (.iload_n 2, 1) := by decide +kernel
theorem dX9_search_7 : decode mX9_search.2.1 7 = .ok (.invokevirtual 38, 3) := by decide +kernel
theorem dX9_search_10 : decode mX9_search.2.1 10 = .ok (.aload_n 0, 1) := by decide +kernel
theorem dX9_search_11 : decode mX9_search.2.1 11 = .ok (.getfield 25, 3) := by decide +kernel
theorem dX9_search_14 : decode mX9_search.2.1 14 = .ok (.iconst 0, 1) := by decide +kernel
theorem dX9_search_15 : decode mX9_search.2.1 15 = .ok (.invokestatic 42, 3) := by decide +kernel
theorem dX9_search_18 : decode mX9_search.2.1 18 = .ok (.aload_n 0, 1) := by decide +kernel
theorem dX9_search_19 : decode mX9_search.2.1 19 = .ok (.iconst 0, 1) := by decide +kernel
theorem dX9_search_20 : decode mX9_search.2.1 20 = .ok (.putfield 32, 3) := by decide +kernel
theorem dX9_search_23 : decode mX9_search.2.1 23 = .ok (.aload_n 1, 1) := by decide +kernel
theorem dX9_search_24 : decode mX9_search.2.1 24 = .ok (.getfield 48, 3) := by decide +kernel
theorem dX9_search_27 : decode mX9_search.2.1 27 = .ok (.iload_n 2, 1) := by decide +kernel
theorem dX9_search_28 : decode mX9_search.2.1 28 = .ok (.iaload, 1) := by decide +kernel
theorem dX9_search_29 : decode mX9_search.2.1 29 = .ok (.aload_n 1, 1) := by decide +kernel
theorem dX9_search_30 : decode mX9_search.2.1 30 = .ok (.getfield 51, 3) := by decide +kernel
theorem dX9_search_33 : decode mX9_search.2.1 33 = .ok (.iload_n 2, 1) := by decide +kernel
theorem dX9_search_34 : decode mX9_search.2.1 34 = .ok (.iaload, 1) := by decide +kernel
theorem dX9_search_35 : decode mX9_search.2.1 35 = .ok (.invokestatic 54, 3) := by decide +kernel
theorem dX9_search_38 : decode mX9_search.2.1 38 = .ok (.iconst 3, 1) := by decide +kernel
theorem dX9_search_39 : decode mX9_search.2.1 39 = .ok (.ishl, 1) := by decide +kernel
theorem dX9_search_40 : decode mX9_search.2.1 40 = .ok (.aload_n 1, 1) := by decide +kernel
theorem dX9_search_41 : decode mX9_search.2.1 41 = .ok (.getfield 58, 3) := by decide +kernel
theorem dX9_search_44 : decode mX9_search.2.1 44 = .ok (.iload_n 2, 1) := by decide +kernel
theorem dX9_search_45 : decode mX9_search.2.1 45 = .ok (.iaload, 1) := by decide +kernel
theorem dX9_search_46 : decode mX9_search.2.1 46 = .ok (.ior, 1) := by decide +kernel
theorem dX9_search_47 : decode mX9_search.2.1 47 = .ok (.istore 5, 2) := by decide +kernel
theorem dX9_search_49 : decode mX9_search.2.1 49 = .ok (.aload_n 0, 1) := by decide +kernel
theorem dX9_search_50 : decode mX9_search.2.1 50 = .ok (.iload 5, 2) := by decide +kernel
theorem dX9_search_52 : decode mX9_search.2.1 52 = .ok (.iconst 3, 1) := by decide +kernel
theorem dX9_search_53 : decode mX9_search.2.1 53 = .ok (.invokevirtual 61, 3) := by decide +kernel
theorem dX9_search_56 : decode mX9_search.2.1 56 = .ok (.iconst 0, 1) := by decide +kernel
theorem dX9_search_57 : decode mX9_search.2.1 57 = .ok (.istore 6, 2) := by decide +kernel
theorem dX9_search_59 : decode mX9_search.2.1 59 = .ok (.iload 6, 2) := by decide +kernel
theorem dX9_search_61 : decode mX9_search.2.1 61 = .ok (.aload_n 0, 1) := by decide +kernel
theorem dX9_search_62 : decode mX9_search.2.1 62 = .ok (.getfield 32, 3) := by decide +kernel
theorem dX9_search_65 : decode mX9_search.2.1 65 = .ok (.if_icmp .ge 86, 3) := by decide +kernel
theorem dX9_search_68 : decode mX9_search.2.1 68 = .ok (.iload 6, 2) := by decide +kernel
theorem dX9_search_70 : decode mX9_search.2.1 70 = .ok (.sipush 19200, 3) := by decide +kernel
theorem dX9_search_73 : decode mX9_search.2.1 73 = .ok (.if_icmp .ge 78, 3) := by decide +kernel
theorem dX9_search_76 : decode mX9_search.2.1 76 = .ok (.aload_n 0, 1) := by decide +kernel
theorem dX9_search_77 : decode mX9_search.2.1 77 = .ok (.getfield 28, 3) := by decide +kernel
theorem dX9_search_80 : decode mX9_search.2.1 80 = .ok (.iload 6, 2) := by decide +kernel
theorem dX9_search_82 : decode mX9_search.2.1 82 = .ok (.iaload, 1) := by decide +kernel
theorem dX9_search_83 : decode mX9_search.2.1 83 = .ok (.istore 7, 2) := by decide +kernel
theorem dX9_search_85 : decode mX9_search.2.1 85 = .ok (.iload 7, 2) := by decide +kernel
theorem dX9_search_87 : decode mX9_search.2.1 87 = .ok (.iconst 3, 1) := by decide +kernel
theorem dX9_search_88 : decode mX9_search.2.1 88 = .ok (.ishr, 1) := by decide +kernel
theorem dX9_search_89 : decode mX9_search.2.1 89 = .ok (.iload_n 3, 1) := by decide +kernel
theorem dX9_search_90 : decode mX9_search.2.1 90 = .ok (.if_icmp .ne 27, 3) := by decide +kernel
theorem dX9_search_93 : decode mX9_search.2.1 93 = .ok (.iload 4, 2) := by decide +kernel
theorem dX9_search_95 : decode mX9_search.2.1 95 = .ok (.iconst (-1), 1) := by decide +kernel
theorem dX9_search_96 : decode mX9_search.2.1 96 = .ok (.if_icmp .eq 13, 3) := by decide +kernel
theorem dX9_search_99 : decode mX9_search.2.1 99 = .ok (.iload 7, 2) := by decide +kernel
theorem dX9_search_101 : decode mX9_search.2.1 101 = .ok (.bipush 7, 2) := by decide +kernel
theorem dX9_search_103 : decode mX9_search.2.1 103 = .ok (.iand, 1) := by decide +kernel
theorem dX9_search_104 : decode mX9_search.2.1 104 = .ok (.iload 4, 2) := by decide +kernel
theorem dX9_search_106 : decode mX9_search.2.1 106 = .ok (.if_icmp .ne 11, 3) := by decide +kernel
theorem dX9_search_109 : decode mX9_search.2.1 109 = .ok (.aload_n 0, 1) := by decide +kernel
theorem dX9_search_110 : decode mX9_search.2.1 110 = .ok (.iload 7, 2) := by decide +kernel
theorem dX9_search_112 : decode mX9_search.2.1 112 = .ok (.invokevirtual 65, 3) := by decide +kernel
theorem dX9_search_115 : decode mX9_search.2.1 115 = .ok (.iconst 1, 1) := by decide +kernel
theorem dX9_search_116 : decode mX9_search.2.1 116 = .ok (.ireturn, 1) := by decide +kernel
theorem dX9_search_117 : decode mX9_search.2.1 117 = .ok (.aload_n 0, 1) := by decide +kernel
theorem dX9_search_118 : decode mX9_search.2.1 118 = .ok (.iload 7, 2) := by decide +kernel
theorem dX9_search_120 : decode mX9_search.2.1 120 = .ok (.invokevirtual 69, 3) := by decide +kernel
theorem dX9_search_123 : decode mX9_search.2.1 123 = .ok (.aload_n 0, 1) := by decide +kernel
theorem dX9_search_124 : decode mX9_search.2.1 124 = .ok (.iload 7, 2) := by decide +kernel
theorem dX9_search_126 : decode mX9_search.2.1 126 = .ok (.iconst 1, 1) := by decide +kernel
theorem dX9_search_127 : decode mX9_search.2.1 127 = .ok (.invokestatic 72, 3) := by decide +kernel
theorem dX9_search_130 : decode mX9_search.2.1 130 = .ok (.iconst 1, 1) := by decide +kernel
theorem dX9_search_131 : decode mX9_search.2.1 131 = .ok (.invokevirtual 61, 3) := by decide +kernel
theorem dX9_search_134 : decode mX9_search.2.1 134 = .ok (.aload_n 0, 1) := by decide +kernel
theorem dX9_search_135 : decode mX9_search.2.1 135 = .ok (.iload 7, 2) := by decide +kernel
theorem dX9_search_137 : decode mX9_search.2.1 137 = .ok (.iconst (-1), 1) := by decide +kernel
theorem dX9_search_138 : decode mX9_search.2.1 138 = .ok (.invokestatic 72, 3) := by decide +kernel
theorem dX9_search_141 : decode mX9_search.2.1 141 = .ok (.iconst 2, 1) := by decide +kernel
theorem dX9_search_142 : decode mX9_search.2.1 142 = .ok (.invokevirtual 61, 3) := by decide +kernel
theorem dX9_search_145 : decode mX9_search.2.1 145 = .ok (.iinc 6 1, 3) := by decide +kernel
theorem dX9_search_148 : decode mX9_search.2.1 148 = .ok (.goto (-89), 3) := by decide +kernel
theorem dX9_search_151 : decode mX9_search.2.1 151 = .ok (.iconst 0, 1) := by decide +kernel
theorem dX9_search_152 : decode mX9_search.2.1 152 = .ok (.ireturn, 1) := by decide +kernel
theorem dX9_moveAt_0 : decode mX9_moveAt.2.1 0 = .ok (.aload_n 0, 1) := by decide +kernel
theorem dX9_moveAt_1 : decode mX9_moveAt.2.1 1 = .ok (.getfield 17, 3) := by decide +kernel
theorem dX9_moveAt_4 : decode mX9_moveAt.2.1 4 = .ok (.ifnull 15, 3) := by decide +kernel
theorem dX9_moveAt_7 : decode mX9_moveAt.2.1 7 = .ok (.iload_n 1, 1) := by decide +kernel
theorem dX9_moveAt_8 : decode mX9_moveAt.2.1 8 = .ok (.ifCond .lt 11, 3) := by decide +kernel
theorem dX9_moveAt_11 : decode mX9_moveAt.2.1 11 = .ok (.iload_n 1, 1) := by decide +kernel
theorem dX9_moveAt_12 : decode mX9_moveAt.2.1 12 = .ok (.aload_n 0, 1) := by decide +kernel
theorem dX9_moveAt_13 : decode mX9_moveAt.2.1 13 = .ok (.getfield 11, 3) := by decide +kernel
theorem dX9_moveAt_16 : decode mX9_moveAt.2.1 16 = .ok (.if_icmp .lt 7, 3) := by decide +kernel
theorem dX9_moveAt_19 : decode mX9_moveAt.2.1 19 = .ok (.iconst (-1), 1) := by decide +kernel
theorem dX9_moveAt_20 : decode mX9_moveAt.2.1 20 = .ok (.goto 9, 3) := by decide +kernel
theorem dX9_moveAt_23 : decode mX9_moveAt.2.1 23 = .ok (.aload_n 0, 1) := by decide +kernel
theorem dX9_moveAt_24 : decode mX9_moveAt.2.1 24 = .ok (.getfield 17, 3) := by decide +kernel
theorem dX9_moveAt_27 : decode mX9_moveAt.2.1 27 = .ok (.iload_n 1, 1) := by decide +kernel
theorem dX9_moveAt_28 : decode mX9_moveAt.2.1 28 = .ok (.baload, 1) := by decide +kernel
theorem dX9_moveAt_29 : decode mX9_moveAt.2.1 29 = .ok (.ireturn, 1) := by decide +kernel
theorem dX9_makeRows_0 : decode mX9_makeRows.2.1 0 = .ok (.aload_n 0, 1) := by decide +kernel
theorem dX9_makeRows_1 : decode mX9_makeRows.2.1 1 = .ok (.getfield 25, 3) := by decide +kernel
theorem dX9_makeRows_4 : decode mX9_makeRows.2.1 4 = .ok (.ifnull 17, 3) := by decide +kernel
theorem dX9_makeRows_7 : decode mX9_makeRows.2.1 7 = .ok (.aload_n 0, 1) := by decide +kernel
theorem dX9_makeRows_8 : decode mX9_makeRows.2.1 8 = .ok (.getfield 28, 3) := by decide +kernel
theorem dX9_makeRows_11 : decode mX9_makeRows.2.1 11 = .ok (.ifnull 10, 3) := by decide +kernel
theorem dX9_makeRows_14 : decode mX9_makeRows.2.1 14 = .ok (.aload_n 0, 1) := by decide +kernel
theorem dX9_makeRows_15 : decode mX9_makeRows.2.1 15 = .ok (.getfield 17, 3) := by decide +kernel
theorem dX9_makeRows_18 : decode mX9_makeRows.2.1 18 = .ok (.ifnonnull 30, 3) := by decide +kernel
theorem dX9_makeRows_21 : decode mX9_makeRows.2.1 21 = .ok (.aload_n 0, 1) := by decide +kernel
theorem dX9_makeRows_22 : decode mX9_makeRows.2.1 22 = .ok (.sipush 19200, 3) := by decide +kernel
theorem dX9_makeRows_25 : decode mX9_makeRows.2.1 25 = .ok (.newarray .byte, 2) := by decide +kernel
theorem dX9_makeRows_27 : decode mX9_makeRows.2.1 27 = .ok (.putfield 25, 3) := by decide +kernel
theorem dX9_makeRows_30 : decode mX9_makeRows.2.1 30 = .ok (.aload_n 0, 1) := by decide +kernel
theorem dX9_makeRows_31 : decode mX9_makeRows.2.1 31 = .ok (.sipush 19200, 3) := by decide +kernel
theorem dX9_makeRows_34 : decode mX9_makeRows.2.1 34 = .ok (.newarray .int, 2) := by decide +kernel
theorem dX9_makeRows_36 : decode mX9_makeRows.2.1 36 = .ok (.putfield 28, 3) := by decide +kernel
theorem dX9_makeRows_39 : decode mX9_makeRows.2.1 39 = .ok (.aload_n 0, 1) := by decide +kernel
theorem dX9_makeRows_40 : decode mX9_makeRows.2.1 40 = .ok (.sipush 19200, 3) := by decide +kernel
theorem dX9_makeRows_43 : decode mX9_makeRows.2.1 43 = .ok (.newarray .byte, 2) := by decide +kernel
theorem dX9_makeRows_45 : decode mX9_makeRows.2.1 45 = .ok (.putfield 17, 3) := by decide +kernel
theorem dX9_makeRows_48 : decode mX9_makeRows.2.1 48 = .ok (.return_, 1) := by decide +kernel
theorem dX9_bar_0 : decode mX9_bar.2.1 0 = .ok (.aload_n 1, 1) := by decide +kernel
theorem dX9_bar_1 : decode mX9_bar.2.1 1 = .ok (.getfield 75, 3) := by decide +kernel
theorem dX9_bar_4 : decode mX9_bar.2.1 4 = .ok (.iconst 0, 1) := by decide +kernel
theorem dX9_bar_5 : decode mX9_bar.2.1 5 = .ok (.aload_n 0, 1) := by decide +kernel
theorem dX9_bar_6 : decode mX9_bar.2.1 6 = .ok (.getfield 21, 3) := by decide +kernel
theorem dX9_bar_9 : decode mX9_bar.2.1 9 = .ok (.iconst 0, 1) := by decide +kernel
theorem dX9_bar_10 : decode mX9_bar.2.1 10 = .ok (.bipush 40, 2) := by decide +kernel
theorem dX9_bar_12 : decode mX9_bar.2.1 12 = .ok (.invokestatic 78, 3) := by decide +kernel
theorem dX9_bar_15 : decode mX9_bar.2.1 15 = .ok (.iconst 0, 1) := by decide +kernel
theorem dX9_bar_16 : decode mX9_bar.2.1 16 = .ok (.istore_n 3, 1) := by decide +kernel
theorem dX9_bar_17 : decode mX9_bar.2.1 17 = .ok (.iload_n 3, 1) := by decide +kernel
theorem dX9_bar_18 : decode mX9_bar.2.1 18 = .ok (.aload_n 1, 1) := by decide +kernel
theorem dX9_bar_19 : decode mX9_bar.2.1 19 = .ok (.getfield 84, 3) := by decide +kernel
theorem dX9_bar_22 : decode mX9_bar.2.1 22 = .ok (.if_icmp .ge 31, 3) := by decide +kernel
theorem dX9_bar_25 : decode mX9_bar.2.1 25 = .ok (.aload_n 0, 1) := by decide +kernel
theorem dX9_bar_26 : decode mX9_bar.2.1 26 = .ok (.getfield 21, 3) := by decide +kernel
theorem dX9_bar_29 : decode mX9_bar.2.1 29 = .ok (.aload_n 1, 1) := by decide +kernel
theorem dX9_bar_30 : decode mX9_bar.2.1 30 = .ok (.getfield 51, 3) := by decide +kernel
theorem dX9_bar_33 : decode mX9_bar.2.1 33 = .ok (.iload_n 3, 1) := by decide +kernel
theorem dX9_bar_34 : decode mX9_bar.2.1 34 = .ok (.iaload, 1) := by decide +kernel
theorem dX9_bar_35 : decode mX9_bar.2.1 35 = .ok (.dup2, 1) := by decide +kernel
theorem dX9_bar_36 : decode mX9_bar.2.1 36 = .ok (.laload, 1) := by decide +kernel
theorem dX9_bar_37 : decode mX9_bar.2.1 37 = .ok (.lconst 1, 1) := by decide +kernel
theorem dX9_bar_38 : decode mX9_bar.2.1 38 = .ok (.aload_n 1, 1) := by decide +kernel
theorem dX9_bar_39 : decode mX9_bar.2.1 39 = .ok (.getfield 48, 3) := by decide +kernel
theorem dX9_bar_42 : decode mX9_bar.2.1 42 = .ok (.iload_n 3, 1) := by decide +kernel
theorem dX9_bar_43 : decode mX9_bar.2.1 43 = .ok (.iaload, 1) := by decide +kernel
theorem dX9_bar_44 : decode mX9_bar.2.1 44 = .ok (.lshl, 1) := by decide +kernel
theorem dX9_bar_45 : decode mX9_bar.2.1 45 = .ok (.lor, 1) := by decide +kernel
theorem dX9_bar_46 : decode mX9_bar.2.1 46 = .ok (.lastore, 1) := by decide +kernel
theorem dX9_bar_47 : decode mX9_bar.2.1 47 = .ok (.iinc 3 1, 3) := by decide +kernel
theorem dX9_bar_50 : decode mX9_bar.2.1 50 = .ok (.goto (-33), 3) := by decide +kernel
theorem dX9_bar_53 : decode mX9_bar.2.1 53 = .ok (.aload_n 0, 1) := by decide +kernel
theorem dX9_bar_54 : decode mX9_bar.2.1 54 = .ok (.getfield 21, 3) := by decide +kernel
theorem dX9_bar_57 : decode mX9_bar.2.1 57 = .ok (.aload_n 1, 1) := by decide +kernel
theorem dX9_bar_58 : decode mX9_bar.2.1 58 = .ok (.getfield 51, 3) := by decide +kernel
theorem dX9_bar_61 : decode mX9_bar.2.1 61 = .ok (.iload_n 2, 1) := by decide +kernel
theorem dX9_bar_62 : decode mX9_bar.2.1 62 = .ok (.iaload, 1) := by decide +kernel
theorem dX9_bar_63 : decode mX9_bar.2.1 63 = .ok (.dup2, 1) := by decide +kernel
theorem dX9_bar_64 : decode mX9_bar.2.1 64 = .ok (.laload, 1) := by decide +kernel
theorem dX9_bar_65 : decode mX9_bar.2.1 65 = .ok (.lconst 1, 1) := by decide +kernel
theorem dX9_bar_66 : decode mX9_bar.2.1 66 = .ok (.aload_n 1, 1) := by decide +kernel
theorem dX9_bar_67 : decode mX9_bar.2.1 67 = .ok (.getfield 48, 3) := by decide +kernel
theorem dX9_bar_70 : decode mX9_bar.2.1 70 = .ok (.iload_n 2, 1) := by decide +kernel
theorem dX9_bar_71 : decode mX9_bar.2.1 71 = .ok (.iaload, 1) := by decide +kernel
theorem dX9_bar_72 : decode mX9_bar.2.1 72 = .ok (.lshl, 1) := by decide +kernel
theorem dX9_bar_73 : decode mX9_bar.2.1 73 = .ok (.ldc2_w 87, 3) := by decide +kernel
theorem dX9_bar_76 : decode mX9_bar.2.1 76 = .ok (.lxor, 1) := by decide +kernel
theorem dX9_bar_77 : decode mX9_bar.2.1 77 = .ok (.land, 1) := by decide +kernel
theorem dX9_bar_78 : decode mX9_bar.2.1 78 = .ok (.lastore, 1) := by decide +kernel
theorem dX9_bar_79 : decode mX9_bar.2.1 79 = .ok (.return_, 1) := by decide +kernel
theorem dX9_visitAhead_0 : decode mX9_visitAhead.2.1 0 = .ok (.iload_n 1, 1) := by decide +kernel
theorem dX9_visitAhead_1 : decode mX9_visitAhead.2.1 1 = .ok (.iconst 3, 1) := by decide +kernel
theorem dX9_visitAhead_2 : decode mX9_visitAhead.2.1 2 = .ok (.ishr, 1) := by decide +kernel
theorem dX9_visitAhead_3 : decode mX9_visitAhead.2.1 3 = .ok (.bipush 40, 2) := by decide +kernel
theorem dX9_visitAhead_5 : decode mX9_visitAhead.2.1 5 = .ok (.idiv, 1) := by decide +kernel
theorem dX9_visitAhead_6 : decode mX9_visitAhead.2.1 6 = .ok (.iload_n 1, 1) := by decide +kernel
theorem dX9_visitAhead_7 : decode mX9_visitAhead.2.1 7 = .ok (.invokestatic 89, 3) := by decide +kernel
theorem dX9_visitAhead_10 : decode mX9_visitAhead.2.1 10 = .ok (.iadd, 1) := by decide +kernel
theorem dX9_visitAhead_11 : decode mX9_visitAhead.2.1 11 = .ok (.istore_n 2, 1) := by decide +kernel
theorem dX9_visitAhead_12 : decode mX9_visitAhead.2.1 12 = .ok (.iload_n 1, 1) := by decide +kernel
theorem dX9_visitAhead_13 : decode mX9_visitAhead.2.1 13 = .ok (.iconst 3, 1) := by decide +kernel
theorem dX9_visitAhead_14 : decode mX9_visitAhead.2.1 14 = .ok (.ishr, 1) := by decide +kernel
theorem dX9_visitAhead_15 : decode mX9_visitAhead.2.1 15 = .ok (.bipush 40, 2) := by decide +kernel
theorem dX9_visitAhead_17 : decode mX9_visitAhead.2.1 17 = .ok (.irem, 1) := by decide +kernel
theorem dX9_visitAhead_18 : decode mX9_visitAhead.2.1 18 = .ok (.iload_n 1, 1) := by decide +kernel
theorem dX9_visitAhead_19 : decode mX9_visitAhead.2.1 19 = .ok (.invokestatic 93, 3) := by decide +kernel
theorem dX9_visitAhead_22 : decode mX9_visitAhead.2.1 22 = .ok (.iadd, 1) := by decide +kernel
theorem dX9_visitAhead_23 : decode mX9_visitAhead.2.1 23 = .ok (.istore_n 3, 1) := by decide +kernel
theorem dX9_visitAhead_24 : decode mX9_visitAhead.2.1 24 = .ok (.iload_n 2, 1) := by decide +kernel
theorem dX9_visitAhead_25 : decode mX9_visitAhead.2.1 25 = .ok (.iload_n 3, 1) := by decide +kernel
theorem dX9_visitAhead_26 : decode mX9_visitAhead.2.1 26 = .ok (.invokestatic 96, 3) := by decide +kernel
theorem dX9_visitAhead_29 : decode mX9_visitAhead.2.1 29 = .ok (.ifCond .eq 35, 3) := by decide +kernel
theorem dX9_visitAhead_32 : decode mX9_visitAhead.2.1 32 = .ok (.aload_n 0, 1) := by decide +kernel
theorem dX9_visitAhead_33 : decode mX9_visitAhead.2.1 33 = .ok (.getfield 21, 3) := by decide +kernel
theorem dX9_visitAhead_36 : decode mX9_visitAhead.2.1 36 = .ok (.iload_n 3, 1) := by decide +kernel
theorem dX9_visitAhead_37 : decode mX9_visitAhead.2.1 37 = .ok (.laload, 1) := by decide +kernel
theorem dX9_visitAhead_38 : decode mX9_visitAhead.2.1 38 = .ok (.iload_n 2, 1) := by decide +kernel
theorem dX9_visitAhead_39 : decode mX9_visitAhead.2.1 39 = .ok (.lushr, 1) := by decide +kernel
theorem dX9_visitAhead_40 : decode mX9_visitAhead.2.1 40 = .ok (.lconst 1, 1) := by decide +kernel
theorem dX9_visitAhead_41 : decode mX9_visitAhead.2.1 41 = .ok (.land, 1) := by decide +kernel
theorem dX9_visitAhead_42 : decode mX9_visitAhead.2.1 42 = .ok (.lconst 0, 1) := by decide +kernel
theorem dX9_visitAhead_43 : decode mX9_visitAhead.2.1 43 = .ok (.lcmp, 1) := by decide +kernel
theorem dX9_visitAhead_44 : decode mX9_visitAhead.2.1 44 = .ok (.ifCond .ne 20, 3) := by decide +kernel
theorem dX9_visitAhead_47 : decode mX9_visitAhead.2.1 47 = .ok (.aload_n 0, 1) := by decide +kernel
theorem dX9_visitAhead_48 : decode mX9_visitAhead.2.1 48 = .ok (.iload_n 2, 1) := by decide +kernel
theorem dX9_visitAhead_49 : decode mX9_visitAhead.2.1 49 = .ok (.iload_n 3, 1) := by decide +kernel
theorem dX9_visitAhead_50 : decode mX9_visitAhead.2.1 50 = .ok (.invokestatic 54, 3) := by decide +kernel
theorem dX9_visitAhead_53 : decode mX9_visitAhead.2.1 53 = .ok (.iconst 3, 1) := by decide +kernel
theorem dX9_visitAhead_54 : decode mX9_visitAhead.2.1 54 = .ok (.ishl, 1) := by decide +kernel
theorem dX9_visitAhead_55 : decode mX9_visitAhead.2.1 55 = .ok (.iload_n 1, 1) := by decide +kernel
theorem dX9_visitAhead_56 : decode mX9_visitAhead.2.1 56 = .ok (.bipush 7, 2) := by decide +kernel
theorem dX9_visitAhead_58 : decode mX9_visitAhead.2.1 58 = .ok (.iand, 1) := by decide +kernel
theorem dX9_visitAhead_59 : decode mX9_visitAhead.2.1 59 = .ok (.ior, 1) := by decide +kernel
theorem dX9_visitAhead_60 : decode mX9_visitAhead.2.1 60 = .ok (.iconst 0, 1) := by decide +kernel
theorem dX9_visitAhead_61 : decode mX9_visitAhead.2.1 61 = .ok (.invokevirtual 61, 3) := by decide +kernel
theorem dX9_visitAhead_64 : decode mX9_visitAhead.2.1 64 = .ok (.return_, 1) := by decide +kernel
theorem dX9_turned_0 : decode mX9_turned.2.1 0 = .ok (.iload_n 0, 1) := by decide +kernel
theorem dX9_turned_1 : decode mX9_turned.2.1 1 = .ok (.bipush (-8), 2) := by decide +kernel
theorem dX9_turned_3 : decode mX9_turned.2.1 3 = .ok (.iand, 1) := by decide +kernel
theorem dX9_turned_4 : decode mX9_turned.2.1 4 = .ok (.iload_n 0, 1) := by decide +kernel
theorem dX9_turned_5 : decode mX9_turned.2.1 5 = .ok (.iload_n 1, 1) := by decide +kernel
theorem dX9_turned_6 : decode mX9_turned.2.1 6 = .ok (.iadd, 1) := by decide +kernel
theorem dX9_turned_7 : decode mX9_turned.2.1 7 = .ok (.bipush 7, 2) := by decide +kernel
theorem dX9_turned_9 : decode mX9_turned.2.1 9 = .ok (.iand, 1) := by decide +kernel
theorem dX9_turned_10 : decode mX9_turned.2.1 10 = .ok (.ior, 1) := by decide +kernel
theorem dX9_turned_11 : decode mX9_turned.2.1 11 = .ok (.ireturn, 1) := by decide +kernel
theorem dX9_visit_0 : decode mX9_visit.2.1 0 = .ok (.aload_n 0, 1) := by decide +kernel
theorem dX9_visit_1 : decode mX9_visit.2.1 1 = .ok (.getfield 25, 3) := by decide +kernel
theorem dX9_visit_4 : decode mX9_visit.2.1 4 = .ok (.iload_n 1, 1) := by decide +kernel
theorem dX9_visit_5 : decode mX9_visit.2.1 5 = .ok (.baload, 1) := by decide +kernel
theorem dX9_visit_6 : decode mX9_visit.2.1 6 = .ok (.ifCond .ne 43, 3) := by decide +kernel
theorem dX9_visit_9 : decode mX9_visit.2.1 9 = .ok (.aload_n 0, 1) := by decide +kernel
theorem dX9_visit_10 : decode mX9_visit.2.1 10 = .ok (.getfield 32, 3) := by decide +kernel
theorem dX9_visit_13 : decode mX9_visit.2.1 13 = .ok (.sipush 19200, 3) := by decide +kernel
theorem dX9_visit_16 : decode mX9_visit.2.1 16 = .ok (.if_icmp .ge 33, 3) := by decide +kernel
theorem dX9_visit_19 : decode mX9_visit.2.1 19 = .ok (.aload_n 0, 1) := by decide +kernel
theorem dX9_visit_20 : decode mX9_visit.2.1 20 = .ok (.getfield 25, 3) := by decide +kernel
theorem dX9_visit_23 : decode mX9_visit.2.1 23 = .ok (.iload_n 1, 1) := by decide +kernel
theorem dX9_visit_24 : decode mX9_visit.2.1 24 = .ok (.iload_n 2, 1) := by decide +kernel
theorem dX9_visit_25 : decode mX9_visit.2.1 25 = .ok (.iconst 1, 1) := by decide +kernel
theorem dX9_visit_26 : decode mX9_visit.2.1 26 = .ok (.iadd, 1) := by decide +kernel
theorem dX9_visit_27 : decode mX9_visit.2.1 27 = .ok (.i2b, 1) := by decide +kernel
theorem dX9_visit_28 : decode mX9_visit.2.1 28 = .ok (.bastore, 1) := by decide +kernel
theorem dX9_visit_29 : decode mX9_visit.2.1 29 = .ok (.aload_n 0, 1) := by decide +kernel
theorem dX9_visit_30 : decode mX9_visit.2.1 30 = .ok (.getfield 28, 3) := by decide +kernel
theorem dX9_visit_33 : decode mX9_visit.2.1 33 = .ok (.aload_n 0, 1) := by decide +kernel
theorem dX9_visit_34 : decode mX9_visit.2.1 34 = .ok (.getfield 32, 3) := by decide +kernel
theorem dX9_visit_37 : decode mX9_visit.2.1 37 = .ok (.iload_n 1, 1) := by decide +kernel
theorem dX9_visit_38 : decode mX9_visit.2.1 38 = .ok (.iastore, 1) := by decide +kernel
theorem dX9_visit_39 : decode mX9_visit.2.1 39 = .ok (.aload_n 0, 1) := by decide +kernel
theorem dX9_visit_40 : decode mX9_visit.2.1 40 = .ok (.dup, 1) := by decide +kernel
theorem dX9_visit_41 : decode mX9_visit.2.1 41 = .ok (.getfield 32, 3) := by decide +kernel
theorem dX9_visit_44 : decode mX9_visit.2.1 44 = .ok (.iconst 1, 1) := by decide +kernel
theorem dX9_visit_45 : decode mX9_visit.2.1 45 = .ok (.iadd, 1) := by decide +kernel
theorem dX9_visit_46 : decode mX9_visit.2.1 46 = .ok (.putfield 32, 3) := by decide +kernel
theorem dX9_visit_49 : decode mX9_visit.2.1 49 = .ok (.return_, 1) := by decide +kernel
theorem dX9_keepMoves_0 : decode mX9_keepMoves.2.1 0 = .ok (.aload_n 0, 1) := by decide +kernel
theorem dX9_keepMoves_1 : decode mX9_keepMoves.2.1 1 = .ok (.aload_n 0, 1) := by decide +kernel
theorem dX9_keepMoves_2 : decode mX9_keepMoves.2.1 2 = .ok (.iload_n 1, 1) := by decide +kernel
theorem dX9_keepMoves_3 : decode mX9_keepMoves.2.1 3 = .ok (.invokevirtual 100, 3) := by decide +kernel
theorem dX9_keepMoves_6 : decode mX9_keepMoves.2.1 6 = .ok (.putfield 11, 3) := by decide +kernel
theorem dX9_keepMoves_9 : decode mX9_keepMoves.2.1 9 = .ok (.iload_n 1, 1) := by decide +kernel
theorem dX9_keepMoves_10 : decode mX9_keepMoves.2.1 10 = .ok (.istore_n 2, 1) := by decide +kernel
theorem dX9_keepMoves_11 : decode mX9_keepMoves.2.1 11 = .ok (.aload_n 0, 1) := by decide +kernel
theorem dX9_keepMoves_12 : decode mX9_keepMoves.2.1 12 = .ok (.getfield 11, 3) := by decide +kernel
theorem dX9_keepMoves_15 : decode mX9_keepMoves.2.1 15 = .ok (.iconst 1, 1) := by decide +kernel
theorem dX9_keepMoves_16 : decode mX9_keepMoves.2.1 16 = .ok (.isub, 1) := by decide +kernel
theorem dX9_keepMoves_17 : decode mX9_keepMoves.2.1 17 = .ok (.istore_n 3, 1) := by decide +kernel
theorem dX9_keepMoves_18 : decode mX9_keepMoves.2.1 18 = .ok (.iload_n 3, 1) := by decide +kernel
theorem dX9_keepMoves_19 : decode mX9_keepMoves.2.1 19 = .ok (.ifCond .lt 30, 3) := by decide +kernel
theorem dX9_keepMoves_22 : decode mX9_keepMoves.2.1 22 = .ok (.aload_n 0, 1) := by decide +kernel
theorem dX9_keepMoves_23 : decode mX9_keepMoves.2.1 23 = .ok (.getfield 17, 3) := by decide +kernel
theorem dX9_keepMoves_26 : decode mX9_keepMoves.2.1 26 = .ok (.iload_n 3, 1) := by decide +kernel
theorem dX9_keepMoves_27 : decode mX9_keepMoves.2.1 27 = .ok (.aload_n 0, 1) := by decide +kernel
theorem dX9_keepMoves_28 : decode mX9_keepMoves.2.1 28 = .ok (.getfield 25, 3) := by decide +kernel
theorem dX9_keepMoves_31 : decode mX9_keepMoves.2.1 31 = .ok (.iload_n 2, 1) := by decide +kernel
theorem dX9_keepMoves_32 : decode mX9_keepMoves.2.1 32 = .ok (.baload, 1) := by decide +kernel
theorem dX9_keepMoves_33 : decode mX9_keepMoves.2.1 33 = .ok (.iconst 1, 1) := by decide +kernel
theorem dX9_keepMoves_34 : decode mX9_keepMoves.2.1 34 = .ok (.isub, 1) := by decide +kernel
theorem dX9_keepMoves_35 : decode mX9_keepMoves.2.1 35 = .ok (.i2b, 1) := by decide +kernel
theorem dX9_keepMoves_36 : decode mX9_keepMoves.2.1 36 = .ok (.bastore, 1) := by decide +kernel
theorem dX9_keepMoves_37 : decode mX9_keepMoves.2.1 37 = .ok (.aload_n 0, 1) := by decide +kernel
theorem dX9_keepMoves_38 : decode mX9_keepMoves.2.1 38 = .ok (.iload_n 2, 1) := by decide +kernel
theorem dX9_keepMoves_39 : decode mX9_keepMoves.2.1 39 = .ok (.invokevirtual 103, 3) := by decide +kernel
theorem dX9_keepMoves_42 : decode mX9_keepMoves.2.1 42 = .ok (.istore_n 2, 1) := by decide +kernel
theorem dX9_keepMoves_43 : decode mX9_keepMoves.2.1 43 = .ok (.iinc 3 (-1), 3) := by decide +kernel
theorem dX9_keepMoves_46 : decode mX9_keepMoves.2.1 46 = .ok (.goto (-28), 3) := by decide +kernel
theorem dX9_keepMoves_49 : decode mX9_keepMoves.2.1 49 = .ok (.return_, 1) := by decide +kernel
theorem dX9_countMoves_0 : decode mX9_countMoves.2.1 0 = .ok (.iload_n 1, 1) := by decide +kernel
theorem dX9_countMoves_1 : decode mX9_countMoves.2.1 1 = .ok (.istore_n 2, 1) := by decide +kernel
theorem dX9_countMoves_2 : decode mX9_countMoves.2.1 2 = .ok (.iconst 0, 1) := by decide +kernel
theorem dX9_countMoves_3 : decode mX9_countMoves.2.1 3 = .ok (.istore_n 3, 1) := by decide +kernel
theorem dX9_countMoves_4 : decode mX9_countMoves.2.1 4 = .ok (.iload_n 3, 1) := by decide +kernel
theorem dX9_countMoves_5 : decode mX9_countMoves.2.1 5 = .ok (.sipush 19200, 3) := by decide +kernel
theorem dX9_countMoves_8 : decode mX9_countMoves.2.1 8 = .ok (.if_icmp .ge 27, 3) := by decide +kernel
theorem dX9_countMoves_11 : decode mX9_countMoves.2.1 11 = .ok (.aload_n 0, 1) := by decide +kernel
theorem dX9_countMoves_12 : decode mX9_countMoves.2.1 12 = .ok (.getfield 25, 3) := by decide +kernel
theorem dX9_countMoves_15 : decode mX9_countMoves.2.1 15 = .ok (.iload_n 2, 1) := by decide +kernel
theorem dX9_countMoves_16 : decode mX9_countMoves.2.1 16 = .ok (.baload, 1) := by decide +kernel
theorem dX9_countMoves_17 : decode mX9_countMoves.2.1 17 = .ok (.iconst 4, 1) := by decide +kernel
theorem dX9_countMoves_18 : decode mX9_countMoves.2.1 18 = .ok (.if_icmp .ne 5, 3) := by decide +kernel
theorem dX9_countMoves_21 : decode mX9_countMoves.2.1 21 = .ok (.iload_n 3, 1) := by decide +kernel
theorem dX9_countMoves_22 : decode mX9_countMoves.2.1 22 = .ok (.ireturn, 1) := by decide +kernel
theorem dX9_countMoves_23 : decode mX9_countMoves.2.1 23 = .ok (.aload_n 0, 1) := by decide +kernel
theorem dX9_countMoves_24 : decode mX9_countMoves.2.1 24 = .ok (.iload_n 2, 1) := by decide +kernel
theorem dX9_countMoves_25 : decode mX9_countMoves.2.1 25 = .ok (.invokevirtual 103, 3) := by decide +kernel
theorem dX9_countMoves_28 : decode mX9_countMoves.2.1 28 = .ok (.istore_n 2, 1) := by decide +kernel
theorem dX9_countMoves_29 : decode mX9_countMoves.2.1 29 = .ok (.iinc 3 1, 3) := by decide +kernel
theorem dX9_countMoves_32 : decode mX9_countMoves.2.1 32 = .ok (.goto (-28), 3) := by decide +kernel
theorem dX9_countMoves_35 : decode mX9_countMoves.2.1 35 = .ok (.iconst 0, 1) := by decide +kernel
theorem dX9_countMoves_36 : decode mX9_countMoves.2.1 36 = .ok (.ireturn, 1) := by decide +kernel
theorem dX9_stateAhead_0 : decode mX9_stateAhead.2.1 0 = .ok (.aload_n 0, 1) := by decide +kernel
theorem dX9_stateAhead_1 : decode mX9_stateAhead.2.1 1 = .ok (.getfield 25, 3) := by decide +kernel
theorem dX9_stateAhead_4 : decode mX9_stateAhead.2.1 4 = .ok (.iload_n 1, 1) := by decide +kernel
theorem dX9_stateAhead_5 : decode mX9_stateAhead.2.1 5 = .ok (.baload, 1) := by decide +kernel
theorem dX9_stateAhead_6 : decode mX9_stateAhead.2.1 6 = .ok (.iconst 1, 1) := by decide +kernel
theorem dX9_stateAhead_7 : decode mX9_stateAhead.2.1 7 = .ok (.isub, 1) := by decide +kernel
theorem dX9_stateAhead_8 : decode mX9_stateAhead.2.1 8 = .ok (.lookupswitch 50 #[(0, 28), (1, 44)], 28) := by decide +kernel
theorem dX9_stateAhead_36 : decode mX9_stateAhead.2.1 36 = .ok (.iload_n 1, 1) := by decide +kernel
theorem dX9_stateAhead_37 : decode mX9_stateAhead.2.1 37 = .ok (.iload_n 1, 1) := by decide +kernel
theorem dX9_stateAhead_38 : decode mX9_stateAhead.2.1 38 = .ok (.invokestatic 89, 3) := by decide +kernel
theorem dX9_stateAhead_41 : decode mX9_stateAhead.2.1 41 = .ok (.iload_n 1, 1) := by decide +kernel
theorem dX9_stateAhead_42 : decode mX9_stateAhead.2.1 42 = .ok (.invokestatic 93, 3) := by decide +kernel
theorem dX9_stateAhead_45 : decode mX9_stateAhead.2.1 45 = .ok (.invokestatic 54, 3) := by decide +kernel
theorem dX9_stateAhead_48 : decode mX9_stateAhead.2.1 48 = .ok (.iconst 3, 1) := by decide +kernel
theorem dX9_stateAhead_49 : decode mX9_stateAhead.2.1 49 = .ok (.ishl, 1) := by decide +kernel
theorem dX9_stateAhead_50 : decode mX9_stateAhead.2.1 50 = .ok (.isub, 1) := by decide +kernel
theorem dX9_stateAhead_51 : decode mX9_stateAhead.2.1 51 = .ok (.ireturn, 1) := by decide +kernel
theorem dX9_stateAhead_52 : decode mX9_stateAhead.2.1 52 = .ok (.iload_n 1, 1) := by decide +kernel
theorem dX9_stateAhead_53 : decode mX9_stateAhead.2.1 53 = .ok (.iconst (-1), 1) := by decide +kernel
theorem dX9_stateAhead_54 : decode mX9_stateAhead.2.1 54 = .ok (.invokestatic 72, 3) := by decide +kernel
theorem dX9_stateAhead_57 : decode mX9_stateAhead.2.1 57 = .ok (.ireturn, 1) := by decide +kernel
theorem dX9_stateAhead_58 : decode mX9_stateAhead.2.1 58 = .ok (.iload_n 1, 1) := by decide +kernel
theorem dX9_stateAhead_59 : decode mX9_stateAhead.2.1 59 = .ok (.iconst 1, 1) := by decide +kernel
theorem dX9_stateAhead_60 : decode mX9_stateAhead.2.1 60 = .ok (.invokestatic 72, 3) := by decide +kernel
theorem dX9_stateAhead_63 : decode mX9_stateAhead.2.1 63 = .ok (.ireturn, 1) := by decide +kernel
theorem dX10_init_0 : decode mX10_init.2.1 0 = .ok (.aload_n 0, 1) := by decide +kernel
theorem dX10_init_1 : decode mX10_init.2.1 1 = .ok (.invokespecial 1, 3) := by decide +kernel
theorem dX10_init_4 : decode mX10_init.2.1 4 = .ok (.aload_n 0, 1) := by decide +kernel
theorem dX10_init_5 : decode mX10_init.2.1 5 = .ok (.iconst 4, 1) := by decide +kernel
theorem dX10_init_6 : decode mX10_init.2.1 6 = .ok (.anewarray 9, 3) := by decide +kernel
theorem dX10_init_9 : decode mX10_init.2.1 9 = .ok (.putfield 11, 3) := by decide +kernel
theorem dX10_init_12 : decode mX10_init.2.1 12 = .ok (.aload_n 0, 1) := by decide +kernel
theorem dX10_init_13 : decode mX10_init.2.1 13 = .ok (.new 15, 3) := by decide +kernel
theorem dX10_init_16 : decode mX10_init.2.1 16 = .ok (.dup, 1) := by decide +kernel
theorem dX10_init_17 : decode mX10_init.2.1 17 = .ok (.invokespecial 17, 3) := by decide +kernel
theorem dX10_init_20 : decode mX10_init.2.1 20 = .ok (.putfield 18, 3) := by decide +kernel
theorem dX10_init_23 : decode mX10_init.2.1 23 = .ok (.aload_n 0, 1) := by decide +kernel
theorem dX10_init_24 : decode mX10_init.2.1 24 = .ok (.new 22, 3) := by decide +kernel
theorem dX10_init_27 : decode mX10_init.2.1 27 = .ok (.dup, 1) := by decide +kernel
theorem dX10_init_28 : decode mX10_init.2.1 28 = .ok (.invokespecial 24, 3) := by decide +kernel
theorem dX10_init_31 : decode mX10_init.2.1 31 = .ok (.putfield 25, 3) := by decide +kernel
theorem dX10_init_34 : decode mX10_init.2.1 34 = .ok (.aload_n 0, 1) := by decide +kernel
theorem dX10_init_35 : decode mX10_init.2.1 35 = .ok (.new 29, 3) := by decide +kernel
theorem dX10_init_38 : decode mX10_init.2.1 38 = .ok (.dup, 1) := by decide +kernel
theorem dX10_init_39 : decode mX10_init.2.1 39 = .ok (.invokespecial 31, 3) := by decide +kernel
theorem dX10_init_42 : decode mX10_init.2.1 42 = .ok (.putfield 32, 3) := by decide +kernel
theorem dX10_init_45 : decode mX10_init.2.1 45 = .ok (.aload_n 0, 1) := by decide +kernel
theorem dX10_init_46 : decode mX10_init.2.1 46 = .ok (.new 36, 3) := by decide +kernel
theorem dX10_init_49 : decode mX10_init.2.1 49 = .ok (.dup, 1) := by decide +kernel
theorem dX10_init_50 : decode mX10_init.2.1 50 = .ok (.invokespecial 38, 3) := by decide +kernel
theorem dX10_init_53 : decode mX10_init.2.1 53 = .ok (.putfield 39, 3) := by decide +kernel
theorem dX10_init_56 : decode mX10_init.2.1 56 = .ok (.aload_n 0, 1) := by decide +kernel
theorem dX10_init_57 : decode mX10_init.2.1 57 = .ok (.new 43, 3) := by decide +kernel
theorem dX10_init_60 : decode mX10_init.2.1 60 = .ok (.dup, 1) := by decide +kernel
theorem dX10_init_61 : decode mX10_init.2.1 61 = .ok (.invokespecial 45, 3) := by decide +kernel
theorem dX10_init_64 : decode mX10_init.2.1 64 = .ok (.putfield 46, 3) := by decide +kernel
theorem dX10_init_67 : decode mX10_init.2.1 67 = .ok (.aload_n 0, 1) := by decide +kernel
theorem dX10_init_68 : decode mX10_init.2.1 68 = .ok (.new 50, 3) := by decide +kernel
theorem dX10_init_71 : decode mX10_init.2.1 71 = .ok (.dup, 1) := by decide +kernel
theorem dX10_init_72 : decode mX10_init.2.1 72 = .ok (.invokespecial 52, 3) := by decide +kernel
theorem dX10_init_75 : decode mX10_init.2.1 75 = .ok (.putfield 53, 3) := by decide +kernel
theorem dX10_init_78 : decode mX10_init.2.1 78 = .ok (.aload_n 0, 1) := by decide +kernel
theorem dX10_init_79 : decode mX10_init.2.1 79 = .ok (.new 57, 3) := by decide +kernel
theorem dX10_init_82 : decode mX10_init.2.1 82 = .ok (.dup, 1) := by decide +kernel
theorem dX10_init_83 : decode mX10_init.2.1 83 = .ok (.invokespecial 59, 3) := by decide +kernel
theorem dX10_init_86 : decode mX10_init.2.1 86 = .ok (.putfield 60, 3) := by decide +kernel
theorem dX10_init_89 : decode mX10_init.2.1 89 = .ok (.aload_n 0, 1) := by decide +kernel
theorem dX10_init_90 : decode mX10_init.2.1 90 = .ok (.new 64, 3) := by decide +kernel
theorem dX10_init_93 : decode mX10_init.2.1 93 = .ok (.dup, 1) := by decide +kernel
theorem dX10_init_94 : decode mX10_init.2.1 94 = .ok (.invokespecial 66, 3) := by decide +kernel
theorem dX10_init_97 : decode mX10_init.2.1 97 = .ok (.putfield 67, 3) := by decide +kernel
theorem dX10_init_100 : decode mX10_init.2.1 100 = .ok (.aload_n 0, 1) := by decide +kernel
theorem dX10_init_101 : decode mX10_init.2.1 101 = .ok (.new 64, 3) := by decide +kernel
theorem dX10_init_104 : decode mX10_init.2.1 104 = .ok (.dup, 1) := by decide +kernel
theorem dX10_init_105 : decode mX10_init.2.1 105 = .ok (.invokespecial 66, 3) := by decide +kernel
theorem dX10_init_108 : decode mX10_init.2.1 108 = .ok (.putfield 71, 3) := by decide +kernel
theorem dX10_init_111 : decode mX10_init.2.1 111 = .ok (.aload_n 0, 1) := by decide +kernel
theorem dX10_init_112 : decode mX10_init.2.1 112 = .ok (.new 74, 3) := by decide +kernel
theorem dX10_init_115 : decode mX10_init.2.1 115 = .ok (.dup, 1) := by decide +kernel
theorem dX10_init_116 : decode mX10_init.2.1 116 = .ok (.invokespecial 76, 3) := by decide +kernel
theorem dX10_init_119 : decode mX10_init.2.1 119 = .ok (.putfield 77, 3) := by decide +kernel
theorem dX10_init_122 : decode mX10_init.2.1 122 = .ok (.aload_n 0, 1) := by decide +kernel
theorem dX10_init_123 : decode mX10_init.2.1 123 = .ok (.new 74, 3) := by decide +kernel
theorem dX10_init_126 : decode mX10_init.2.1 126 = .ok (.dup, 1) := by decide +kernel
theorem dX10_init_127 : decode mX10_init.2.1 127 = .ok (.invokespecial 76, 3) := by decide +kernel
theorem dX10_init_130 : decode mX10_init.2.1 130 = .ok (.putfield 81, 3) := by decide +kernel
theorem dX10_init_133 : decode mX10_init.2.1 133 = .ok (.aload_n 0, 1) := by decide +kernel
theorem dX10_init_134 : decode mX10_init.2.1 134 = .ok (.iconst 0, 1) := by decide +kernel
theorem dX10_init_135 : decode mX10_init.2.1 135 = .ok (.putfield 84, 3) := by decide +kernel
theorem dX10_init_138 : decode mX10_init.2.1 138 = .ok (.aload_n 0, 1) := by decide +kernel
theorem dX10_init_139 : decode mX10_init.2.1 139 = .ok (.iconst (-1), 1) := by decide +kernel
theorem dX10_init_140 : decode mX10_init.2.1 140 = .ok (.putfield 88, 3) := by decide +kernel
theorem dX10_init_143 : decode mX10_init.2.1 143 = .ok (.aload_n 0, 1) := by decide +kernel
theorem dX10_init_144 : decode mX10_init.2.1 144 = .ok (.iconst (-1), 1) := by decide +kernel
theorem dX10_init_145 : decode mX10_init.2.1 145 = .ok (.putfield 91, 3) := by decide +kernel
theorem dX10_init_148 : decode mX10_init.2.1 148 = .ok (.aload_n 0, 1) := by decide +kernel
theorem dX10_init_149 : decode mX10_init.2.1 149 = .ok (.iconst (-1), 1) := by decide +kernel
theorem dX10_init_150 : decode mX10_init.2.1 150 = .ok (.putfield 94, 3) := by decide +kernel
theorem dX10_init_153 : decode mX10_init.2.1 153 = .ok (.aload_n 0, 1) := by decide +kernel
theorem dX10_init_154 : decode mX10_init.2.1 154 = .ok (.iconst (-1), 1) := by decide +kernel
theorem dX10_init_155 : decode mX10_init.2.1 155 = .ok (.putfield 97, 3) := by decide +kernel
theorem dX10_init_158 : decode mX10_init.2.1 158 = .ok (.iconst 0, 1) := by decide +kernel
theorem dX10_init_159 : decode mX10_init.2.1 159 = .ok (.istore_n 1, 1) := by decide +kernel
theorem dX10_init_160 : decode mX10_init.2.1 160 = .ok (.iload_n 1, 1) := by decide +kernel
theorem dX10_init_161 : decode mX10_init.2.1 161 = .ok (.iconst 4, 1) := by decide +kernel
theorem dX10_init_162 : decode mX10_init.2.1 162 = .ok (.if_icmp .ge 22, 3) := by decide +kernel
theorem dX10_init_165 : decode mX10_init.2.1 165 = .ok (.aload_n 0, 1) := by decide +kernel
theorem dX10_init_166 : decode mX10_init.2.1 166 = .ok (.getfield 11, 3) := by decide +kernel
theorem dX10_init_169 : decode mX10_init.2.1 169 = .ok (.iload_n 1, 1) := by decide +kernel
theorem dX10_init_170 : decode mX10_init.2.1 170 = .ok (.new 9, 3) := by decide +kernel
theorem dX10_init_173 : decode mX10_init.2.1 173 = .ok (.dup, 1) := by decide +kernel
theorem dX10_init_174 : decode mX10_init.2.1 174 = .ok (.invokespecial 100, 3) := by decide +kernel
theorem dX10_init_177 : decode mX10_init.2.1 177 = .ok (.aastore, 1) := by decide +kernel
theorem dX10_init_178 : decode mX10_init.2.1 178 = .ok (.iinc 1 1, 3) := by decide +kernel
theorem dX10_init_181 : decode mX10_init.2.1 181 = .ok (.goto (-21), 3) := by decide +kernel
theorem dX10_init_184 : decode mX10_init.2.1 184 = .ok (.return_, 1) := by decide +kernel
theorem dX10_status_0 : decode mX10_status.2.1 0 = .ok (.aload_n 0, 1) := by decide +kernel
theorem dX10_status_1 : decode mX10_status.2.1 1 = .ok (.getfield 84, 3) := by decide +kernel
theorem dX10_status_4 : decode mX10_status.2.1 4 = .ok (.ireturn, 1) := by decide +kernel
theorem dX10_tray_0 : decode mX10_tray.2.1 0 = .ok (.iload_n 1, 1) := by decide +kernel
theorem dX10_tray_1 : decode mX10_tray.2.1 1 = .ok (.invokestatic 101, 3) := by decide +kernel
theorem dX10_tray_4 : decode mX10_tray.2.1 4 = .ok (.ifCond .eq 12, 3) := by decide +kernel
theorem dX10_tray_7 : decode mX10_tray.2.1 7 = .ok (.iload_n 2, 1) := by decide +kernel
theorem dX10_tray_8 : decode mX10_tray.2.1 8 = .ok (.ifCond .lt 8, 3) := by decide +kernel
theorem dX10_tray_11 : decode mX10_tray.2.1 11 = .ok (.iload_n 2, 1) := by decide +kernel
theorem dX10_tray_12 : decode mX10_tray.2.1 12 = .ok (.iconst 3, 1) := by decide +kernel
theorem dX10_tray_13 : decode mX10_tray.2.1 13 = .ok (.if_icmp .le 9, 3) := by decide +kernel
theorem dX10_tray_16 : decode mX10_tray.2.1 16 = .ok (.aload_n 0, 1) := by decide +kernel
theorem dX10_tray_17 : decode mX10_tray.2.1 17 = .ok (.iconst 1, 1) := by decide +kernel
theorem dX10_tray_18 : decode mX10_tray.2.1 18 = .ok (.invokevirtual 105, 3) := by decide +kernel
theorem dX10_tray_21 : decode mX10_tray.2.1 21 = .ok (.ireturn, 1) := by decide +kernel
theorem dX10_tray_22 : decode mX10_tray.2.1 22 = .ok (.iload_n 3, 1) := by decide +kernel
theorem dX10_tray_23 : decode mX10_tray.2.1 23 = .ok (.bipush 40, 2) := by decide +kernel
theorem dX10_tray_25 : decode mX10_tray.2.1 25 = .ok (.if_icmp .le 9, 3) := by decide +kernel
theorem dX10_tray_28 : decode mX10_tray.2.1 28 = .ok (.aload_n 0, 1) := by decide +kernel
theorem dX10_tray_29 : decode mX10_tray.2.1 29 = .ok (.iconst 5, 1) := by decide +kernel
theorem dX10_tray_30 : decode mX10_tray.2.1 30 = .ok (.invokevirtual 105, 3) := by decide +kernel
theorem dX10_tray_33 : decode mX10_tray.2.1 33 = .ok (.ireturn, 1) := by decide +kernel
theorem dX10_tray_34 : decode mX10_tray.2.1 34 = .ok (.iload_n 3, 1) := by decide +kernel
theorem dX10_tray_35 : decode mX10_tray.2.1 35 = .ok (.ifCond .ge 10, 3) := by decide +kernel
theorem dX10_tray_38 : decode mX10_tray.2.1 38 = .ok (.aload_n 0, 1) := by decide +kernel
theorem dX10_tray_39 : decode mX10_tray.2.1 39 = .ok (.bipush 6, 2) := by decide +kernel
theorem dX10_tray_41 : decode mX10_tray.2.1 41 = .ok (.invokevirtual 105, 3) := by decide +kernel
theorem dX10_tray_44 : decode mX10_tray.2.1 44 = .ok (.ireturn, 1) := by decide +kernel
theorem dX10_tray_45 : decode mX10_tray.2.1 45 = .ok (.aload_n 0, 1) := by decide +kernel
theorem dX10_tray_46 : decode mX10_tray.2.1 46 = .ok (.getfield 11, 3) := by decide +kernel
theorem dX10_tray_49 : decode mX10_tray.2.1 49 = .ok (.iload_n 1, 1) := by decide +kernel
theorem dX10_tray_50 : decode mX10_tray.2.1 50 = .ok (.aaload, 1) := by decide +kernel
theorem dX10_tray_51 : decode mX10_tray.2.1 51 = .ok (.iload_n 2, 1) := by decide +kernel
theorem dX10_tray_52 : decode mX10_tray.2.1 52 = .ok (.iload_n 3, 1) := by decide +kernel
theorem dX10_tray_53 : decode mX10_tray.2.1 53 = .ok (.invokevirtual 108, 3) := by decide +kernel
theorem dX10_tray_56 : decode mX10_tray.2.1 56 = .ok (.aload_n 0, 1) := by decide +kernel
theorem dX10_tray_57 : decode mX10_tray.2.1 57 = .ok (.invokevirtual 112, 3) := by decide +kernel
theorem dX10_tray_60 : decode mX10_tray.2.1 60 = .ok (.ireturn, 1) := by decide +kernel
theorem dX10_write_0 : decode mX10_write.2.1 0 = .ok (.aload_n 0, 1) := by decide +kernel
theorem dX10_write_1 : decode mX10_write.2.1 1 = .ok (.iload_n 1, 1) := by decide +kernel
theorem dX10_write_2 : decode mX10_write.2.1 2 = .ok (.iload_n 2, 1) := by decide +kernel
theorem dX10_write_3 : decode mX10_write.2.1 3 = .ok (.invokevirtual 116, 3) := by decide +kernel
theorem dX10_write_6 : decode mX10_write.2.1 6 = .ok (.istore 5, 2) := by decide +kernel
theorem dX10_write_8 : decode mX10_write.2.1 8 = .ok (.iload 5, 2) := by decide +kernel
theorem dX10_write_10 : decode mX10_write.2.1 10 = .ok (.ifCond .eq 10, 3) := by decide +kernel
theorem dX10_write_13 : decode mX10_write.2.1 13 = .ok (.aload_n 0, 1) := by decide +kernel
theorem dX10_write_14 : decode mX10_write.2.1 14 = .ok (.iload 5, 2) := by decide +kernel
theorem dX10_write_16 : decode mX10_write.2.1 16 = .ok (.invokevirtual 105, 3) := by decide +kernel
theorem dX10_write_19 : decode mX10_write.2.1 19 = .ok (.ireturn, 1) := by decide +kernel
theorem dX10_write_20 : decode mX10_write.2.1 20 = .ok (.aload_n 0, 1) := by decide +kernel
theorem dX10_write_21 : decode mX10_write.2.1 21 = .ok (.getfield 11, 3) := by decide +kernel
theorem dX10_write_24 : decode mX10_write.2.1 24 = .ok (.iload_n 1, 1) := by decide +kernel
theorem dX10_write_25 : decode mX10_write.2.1 25 = .ok (.aaload, 1) := by decide +kernel
theorem dX10_write_26 : decode mX10_write.2.1 26 = .ok (.iload_n 2, 1) := by decide +kernel
theorem dX10_write_27 : decode mX10_write.2.1 27 = .ok (.lload_n 3, 1) := by decide +kernel
theorem dX10_write_28 : decode mX10_write.2.1 28 = .ok (.invokevirtual 120, 3) := by decide +kernel
theorem dX10_write_31 : decode mX10_write.2.1 31 = .ok (.aload_n 0, 1) := by decide +kernel
theorem dX10_write_32 : decode mX10_write.2.1 32 = .ok (.invokevirtual 112, 3) := by decide +kernel
theorem dX10_write_35 : decode mX10_write.2.1 35 = .ok (.ireturn, 1) := by decide +kernel
theorem dX10_read_0 : decode mX10_read.2.1 0 = .ok (.aload_n 0, 1) := by decide +kernel
theorem dX10_read_1 : decode mX10_read.2.1 1 = .ok (.iload_n 1, 1) := by decide +kernel
theorem dX10_read_2 : decode mX10_read.2.1 2 = .ok (.iload_n 2, 1) := by decide +kernel
theorem dX10_read_3 : decode mX10_read.2.1 3 = .ok (.invokevirtual 116, 3) := by decide +kernel
theorem dX10_read_6 : decode mX10_read.2.1 6 = .ok (.istore_n 3, 1) := by decide +kernel
theorem dX10_read_7 : decode mX10_read.2.1 7 = .ok (.iload_n 3, 1) := by decide +kernel
theorem dX10_read_8 : decode mX10_read.2.1 8 = .ok (.ifCond .eq 10, 3) := by decide +kernel
theorem dX10_read_11 : decode mX10_read.2.1 11 = .ok (.aload_n 0, 1) := by decide +kernel
theorem dX10_read_12 : decode mX10_read.2.1 12 = .ok (.iload_n 3, 1) := by decide +kernel
theorem dX10_read_13 : decode mX10_read.2.1 13 = .ok (.invokevirtual 124, 3) := by decide +kernel
theorem dX10_read_16 : decode mX10_read.2.1 16 = .ok (.i2l, 1) := by decide +kernel
theorem dX10_read_17 : decode mX10_read.2.1 17 = .ok (.lreturn, 1) := by decide +kernel
theorem dX10_read_18 : decode mX10_read.2.1 18 = .ok (.aload_n 0, 1) := by decide +kernel
theorem dX10_read_19 : decode mX10_read.2.1 19 = .ok (.iconst 0, 1) := by decide +kernel
theorem dX10_read_20 : decode mX10_read.2.1 20 = .ok (.putfield 84, 3) := by decide +kernel
theorem dX10_read_23 : decode mX10_read.2.1 23 = .ok (.aload_n 0, 1) := by decide +kernel
theorem dX10_read_24 : decode mX10_read.2.1 24 = .ok (.getfield 11, 3) := by decide +kernel
theorem dX10_read_27 : decode mX10_read.2.1 27 = .ok (.iload_n 1, 1) := by decide +kernel
theorem dX10_read_28 : decode mX10_read.2.1 28 = .ok (.aaload, 1) := by decide +kernel
theorem dX10_read_29 : decode mX10_read.2.1 29 = .ok (.getfield 128, 3) := by decide +kernel
theorem dX10_read_32 : decode mX10_read.2.1 32 = .ok (.iload_n 2, 1) := by decide +kernel
theorem dX10_read_33 : decode mX10_read.2.1 33 = .ok (.laload, 1) := by decide +kernel
theorem dX10_read_34 : decode mX10_read.2.1 34 = .ok (.lreturn, 1) := by decide +kernel
theorem dX10_pour_0 : decode mX10_pour.2.1 0 = .ok (.iload_n 1, 1) := by decide +kernel
theorem dX10_pour_1 : decode mX10_pour.2.1 1 = .ok (.invokestatic 101, 3) := by decide +kernel
theorem dX10_pour_4 : decode mX10_pour.2.1 4 = .ok (.ifCond .eq 10, 3) := by decide +kernel
theorem dX10_pour_7 : decode mX10_pour.2.1 7 = .ok (.iload_n 3, 1) := by decide +kernel
theorem dX10_pour_8 : decode mX10_pour.2.1 8 = .ok (.invokestatic 101, 3) := by decide +kernel
theorem dX10_pour_11 : decode mX10_pour.2.1 11 = .ok (.ifCond .ne 9, 3) := by decide +kernel
theorem dX10_pour_14 : decode mX10_pour.2.1 14 = .ok (.aload_n 0, 1) := by decide +kernel
theorem dX10_pour_15 : decode mX10_pour.2.1 15 = .ok (.iconst 1, 1) := by decide +kernel
theorem dX10_pour_16 : decode mX10_pour.2.1 16 = .ok (.invokevirtual 105, 3) := by decide +kernel
theorem dX10_pour_19 : decode mX10_pour.2.1 19 = .ok (.ireturn, 1) := by decide +kernel
theorem dX10_pour_20 : decode mX10_pour.2.1 20 = .ok (.aload_n 0, 1) := by decide +kernel
theorem dX10_pour_21 : decode mX10_pour.2.1 21 = .ok (.getfield 11, 3) := by decide +kernel
theorem dX10_pour_24 : decode mX10_pour.2.1 24 = .ok (.iload_n 1, 1) := by decide +kernel
theorem dX10_pour_25 : decode mX10_pour.2.1 25 = .ok (.aaload, 1) := by decide +kernel
theorem dX10_pour_26 : decode mX10_pour.2.1 26 = .ok (.astore 6, 2) := by decide +kernel
theorem dX10_pour_28 : decode mX10_pour.2.1 28 = .ok (.aload_n 0, 1) := by decide +kernel
theorem dX10_pour_29 : decode mX10_pour.2.1 29 = .ok (.getfield 11, 3) := by decide +kernel
theorem dX10_pour_32 : decode mX10_pour.2.1 32 = .ok (.iload_n 3, 1) := by decide +kernel
theorem dX10_pour_33 : decode mX10_pour.2.1 33 = .ok (.aaload, 1) := by decide +kernel
theorem dX10_pour_34 : decode mX10_pour.2.1 34 = .ok (.astore 7, 2) := by decide +kernel
theorem dX10_pour_36 : decode mX10_pour.2.1 36 = .ok (.aload 6, 2) := by decide +kernel
theorem dX10_pour_38 : decode mX10_pour.2.1 38 = .ok (.getfield 132, 3) := by decide +kernel
theorem dX10_pour_41 : decode mX10_pour.2.1 41 = .ok (.ifCond .eq 11, 3) := by decide +kernel
theorem dX10_pour_44 : decode mX10_pour.2.1 44 = .ok (.aload 7, 2) := by decide +kernel
theorem dX10_pour_46 : decode mX10_pour.2.1 46 = .ok (.getfield 132, 3) := by decide +kernel
theorem dX10_pour_49 : decode mX10_pour.2.1 49 = .ok (.ifCond .ne 9, 3) := by decide +kernel
theorem dX10_pour_52 : decode mX10_pour.2.1 52 = .ok (.aload_n 0, 1) := by decide +kernel
theorem dX10_pour_53 : decode mX10_pour.2.1 53 = .ok (.iconst 3, 1) := by decide +kernel
theorem dX10_pour_54 : decode mX10_pour.2.1 54 = .ok (.invokevirtual 105, 3) := by decide +kernel
theorem dX10_pour_57 : decode mX10_pour.2.1 57 = .ok (.ireturn, 1) := by decide +kernel
theorem dX10_pour_58 : decode mX10_pour.2.1 58 = .ok (.aload 6, 2) := by decide +kernel
theorem dX10_pour_60 : decode mX10_pour.2.1 60 = .ok (.getfield 136, 3) := by decide +kernel
theorem dX10_pour_63 : decode mX10_pour.2.1 63 = .ok (.aload 7, 2) := by decide +kernel
theorem dX10_pour_65 : decode mX10_pour.2.1 65 = .ok (.getfield 136, 3) := by decide +kernel
theorem dX10_pour_68 : decode mX10_pour.2.1 68 = .ok (.if_icmp .eq 10, 3) := by decide +kernel
theorem dX10_pour_71 : decode mX10_pour.2.1 71 = .ok (.aload_n 0, 1) := by decide +kernel
theorem dX10_pour_72 : decode mX10_pour.2.1 72 = .ok (.bipush 11, 2) := by decide +kernel
theorem dX10_pour_74 : decode mX10_pour.2.1 74 = .ok (.invokevirtual 105, 3) := by decide +kernel
theorem dX10_pour_77 : decode mX10_pour.2.1 77 = .ok (.ireturn, 1) := by decide +kernel
theorem dX10_pour_78 : decode mX10_pour.2.1 78 = .ok (.iload 5, 2) := by decide +kernel
theorem dX10_pour_80 : decode mX10_pour.2.1 80 = .ok (.ifCond .ge 10, 3) := by decide +kernel
theorem dX10_pour_83 : decode mX10_pour.2.1 83 = .ok (.aload_n 0, 1) := by decide +kernel
theorem dX10_pour_84 : decode mX10_pour.2.1 84 = .ok (.bipush 6, 2) := by decide +kernel
theorem dX10_pour_86 : decode mX10_pour.2.1 86 = .ok (.invokevirtual 105, 3) := by decide +kernel
theorem dX10_pour_89 : decode mX10_pour.2.1 89 = .ok (.ireturn, 1) := by decide +kernel
theorem dX10_pour_90 : decode mX10_pour.2.1 90 = .ok (.aload 6, 2) := by decide +kernel
theorem dX10_pour_92 : decode mX10_pour.2.1 92 = .ok (.iload_n 2, 1) := by decide +kernel
theorem dX10_pour_93 : decode mX10_pour.2.1 93 = .ok (.iload 5, 2) := by decide +kernel
theorem dX10_pour_95 : decode mX10_pour.2.1 95 = .ok (.invokevirtual 139, 3) := by decide +kernel
theorem dX10_pour_98 : decode mX10_pour.2.1 98 = .ok (.ifCond .eq 15, 3) := by decide +kernel
theorem dX10_pour_101 : decode mX10_pour.2.1 101 = .ok (.aload 7, 2) := by decide +kernel
theorem dX10_pour_103 : decode mX10_pour.2.1 103 = .ok (.iload 4, 2) := by decide +kernel
theorem dX10_pour_105 : decode mX10_pour.2.1 105 = .ok (.iload 5, 2) := by decide +kernel
theorem dX10_pour_107 : decode mX10_pour.2.1 107 = .ok (.invokevirtual 139, 3) := by decide +kernel
theorem dX10_pour_110 : decode mX10_pour.2.1 110 = .ok (.ifCond .ne 9, 3) := by decide +kernel
theorem dX10_pour_113 : decode mX10_pour.2.1 113 = .ok (.aload_n 0, 1) := by decide +kernel
theorem dX10_pour_114 : decode mX10_pour.2.1 114 = .ok (.iconst 4, 1) := by decide +kernel
theorem dX10_pour_115 : decode mX10_pour.2.1 115 = .ok (.invokevirtual 105, 3) := by decide +kernel
theorem dX10_pour_118 : decode mX10_pour.2.1 118 = .ok (.ireturn, 1) := by decide +kernel
theorem dX10_pour_119 : decode mX10_pour.2.1 119 = .ok (.aload 6, 2) := by decide +kernel
theorem dX10_pour_121 : decode mX10_pour.2.1 121 = .ok (.getfield 128, 3) := by decide +kernel
theorem dX10_pour_124 : decode mX10_pour.2.1 124 = .ok (.iload_n 2, 1) := by decide +kernel
theorem dX10_pour_125 : decode mX10_pour.2.1 125 = .ok (.aload 7, 2) := by decide +kernel
theorem dX10_pour_127 : decode mX10_pour.2.1 127 = .ok (.getfield 128, 3) := by decide +kernel
theorem dX10_pour_130 : decode mX10_pour.2.1 130 = .ok (.iload 4, 2) := by decide +kernel
theorem dX10_pour_132 : decode mX10_pour.2.1 132 = .ok (.iload 5, 2) := by decide +kernel
theorem dX10_pour_134 : decode mX10_pour.2.1 134 = .ok (.invokestatic 143, 3) := by decide +kernel
theorem dX10_pour_137 : decode mX10_pour.2.1 137 = .ok (.aload_n 0, 1) := by decide +kernel
theorem dX10_pour_138 : decode mX10_pour.2.1 138 = .ok (.invokevirtual 112, 3) := by decide +kernel
theorem dX10_pour_141 : decode mX10_pour.2.1 141 = .ok (.ireturn, 1) := by decide +kernel
theorem dX10_marcher_0 : decode mX10_marcher.2.1 0 = .ok (.iload_n 1, 1) := by decide +kernel
theorem dX10_marcher_1 : decode mX10_marcher.2.1 1 = .ok (.iload_n 2, 1) := by decide +kernel
theorem dX10_marcher_2 : decode mX10_marcher.2.1 2 = .ok (.invokestatic 149, 3) := by decide +kernel
theorem dX10_marcher_5 : decode mX10_marcher.2.1 5 = .ok (.ifCond .eq 10, 3) := by decide +kernel
theorem dX10_marcher_8 : decode mX10_marcher.2.1 8 = .ok (.iload_n 3, 1) := by decide +kernel
theorem dX10_marcher_9 : decode mX10_marcher.2.1 9 = .ok (.invokestatic 152, 3) := by decide +kernel
theorem dX10_marcher_12 : decode mX10_marcher.2.1 12 = .ok (.ifCond .ne 9, 3) := by decide +kernel
theorem dX10_marcher_15 : decode mX10_marcher.2.1 15 = .ok (.aload_n 0, 1) := by decide +kernel
theorem dX10_marcher_16 : decode mX10_marcher.2.1 16 = .ok (.iconst 5, 1) := by decide +kernel
theorem dX10_marcher_17 : decode mX10_marcher.2.1 17 = .ok (.invokevirtual 124, 3) := by decide +kernel
theorem dX10_marcher_20 : decode mX10_marcher.2.1 20 = .ok (.ireturn, 1) := by decide +kernel
theorem dX10_marcher_21 : decode mX10_marcher.2.1 21 = .ok (.aload_n 0, 1) := by decide +kernel
theorem dX10_marcher_22 : decode mX10_marcher.2.1 22 = .ok (.getfield 18, 3) := by decide +kernel
theorem dX10_marcher_25 : decode mX10_marcher.2.1 25 = .ok (.getfield 155, 3) := by decide +kernel
theorem dX10_marcher_28 : decode mX10_marcher.2.1 28 = .ok (.bipush 20, 2) := by decide +kernel
theorem dX10_marcher_30 : decode mX10_marcher.2.1 30 = .ok (.if_icmp .lt 10, 3) := by decide +kernel
theorem dX10_marcher_33 : decode mX10_marcher.2.1 33 = .ok (.aload_n 0, 1) := by decide +kernel
theorem dX10_marcher_34 : decode mX10_marcher.2.1 34 = .ok (.bipush 7, 2) := by decide +kernel
theorem dX10_marcher_36 : decode mX10_marcher.2.1 36 = .ok (.invokevirtual 124, 3) := by decide +kernel
theorem dX10_marcher_39 : decode mX10_marcher.2.1 39 = .ok (.ireturn, 1) := by decide +kernel
theorem dX10_marcher_40 : decode mX10_marcher.2.1 40 = .ok (.aload_n 0, 1) := by decide +kernel
theorem dX10_marcher_41 : decode mX10_marcher.2.1 41 = .ok (.aload_n 0, 1) := by decide +kernel
theorem dX10_marcher_42 : decode mX10_marcher.2.1 42 = .ok (.getfield 18, 3) := by decide +kernel
theorem dX10_marcher_45 : decode mX10_marcher.2.1 45 = .ok (.iload_n 1, 1) := by decide +kernel
theorem dX10_marcher_46 : decode mX10_marcher.2.1 46 = .ok (.iload_n 2, 1) := by decide +kernel
theorem dX10_marcher_47 : decode mX10_marcher.2.1 47 = .ok (.iload_n 3, 1) := by decide +kernel
theorem dX10_marcher_48 : decode mX10_marcher.2.1 48 = .ok (.invokevirtual 158, 3) := by decide +kernel
theorem dX10_marcher_51 : decode mX10_marcher.2.1 51 = .ok (.invokevirtual 162, 3) := by decide +kernel
theorem dX10_marcher_54 : decode mX10_marcher.2.1 54 = .ok (.ireturn, 1) := by decide +kernel
theorem dX10_prop_0 : decode mX10_prop.2.1 0 = .ok (.iload_n 1, 1) := by decide +kernel
theorem dX10_prop_1 : decode mX10_prop.2.1 1 = .ok (.iload_n 2, 1) := by decide +kernel
theorem dX10_prop_2 : decode mX10_prop.2.1 2 = .ok (.invokestatic 149, 3) := by decide +kernel
theorem dX10_prop_5 : decode mX10_prop.2.1 5 = .ok (.ifCond .ne 9, 3) := by decide +kernel
theorem dX10_prop_8 : decode mX10_prop.2.1 8 = .ok (.aload_n 0, 1) := by decide +kernel
theorem dX10_prop_9 : decode mX10_prop.2.1 9 = .ok (.iconst 5, 1) := by decide +kernel
theorem dX10_prop_10 : decode mX10_prop.2.1 10 = .ok (.invokevirtual 105, 3) := by decide +kernel
theorem dX10_prop_13 : decode mX10_prop.2.1 13 = .ok (.ireturn, 1) := by decide +kernel
theorem dX10_prop_14 : decode mX10_prop.2.1 14 = .ok (.aload_n 0, 1) := by decide +kernel
theorem dX10_prop_15 : decode mX10_prop.2.1 15 = .ok (.getfield 18, 3) := by decide +kernel
theorem dX10_prop_18 : decode mX10_prop.2.1 18 = .ok (.getfield 165, 3) := by decide +kernel
theorem dX10_prop_21 : decode mX10_prop.2.1 21 = .ok (.bipush 30, 2) := by decide +kernel
theorem dX10_prop_23 : decode mX10_prop.2.1 23 = .ok (.if_icmp .lt 10, 3) := by decide +kernel
theorem dX10_prop_26 : decode mX10_prop.2.1 26 = .ok (.aload_n 0, 1) := by decide +kernel
theorem dX10_prop_27 : decode mX10_prop.2.1 27 = .ok (.bipush 7, 2) := by decide +kernel
theorem dX10_prop_29 : decode mX10_prop.2.1 29 = .ok (.invokevirtual 105, 3) := by decide +kernel
theorem dX10_prop_32 : decode mX10_prop.2.1 32 = .ok (.ireturn, 1) := by decide +kernel
theorem dX10_prop_33 : decode mX10_prop.2.1 33 = .ok (.aload_n 0, 1) := by decide +kernel
theorem dX10_prop_34 : decode mX10_prop.2.1 34 = .ok (.getfield 18, 3) := by decide +kernel
theorem dX10_prop_37 : decode mX10_prop.2.1 37 = .ok (.iload_n 1, 1) := by decide +kernel
theorem dX10_prop_38 : decode mX10_prop.2.1 38 = .ok (.iload_n 2, 1) := by decide +kernel
theorem dX10_prop_39 : decode mX10_prop.2.1 39 = .ok (.invokevirtual 168, 3) := by decide +kernel
theorem dX10_prop_42 : decode mX10_prop.2.1 42 = .ok (.ifCond .eq 10, 3) := by decide +kernel
theorem dX10_prop_45 : decode mX10_prop.2.1 45 = .ok (.aload_n 0, 1) := by decide +kernel
theorem dX10_prop_46 : decode mX10_prop.2.1 46 = .ok (.bipush 9, 2) := by decide +kernel
theorem dX10_prop_48 : decode mX10_prop.2.1 48 = .ok (.invokevirtual 105, 3) := by decide +kernel
theorem dX10_prop_51 : decode mX10_prop.2.1 51 = .ok (.ireturn, 1) := by decide +kernel
theorem dX10_prop_52 : decode mX10_prop.2.1 52 = .ok (.aload_n 0, 1) := by decide +kernel
theorem dX10_prop_53 : decode mX10_prop.2.1 53 = .ok (.getfield 18, 3) := by decide +kernel
theorem dX10_prop_56 : decode mX10_prop.2.1 56 = .ok (.iload_n 1, 1) := by decide +kernel
theorem dX10_prop_57 : decode mX10_prop.2.1 57 = .ok (.iload_n 2, 1) := by decide +kernel
theorem dX10_prop_58 : decode mX10_prop.2.1 58 = .ok (.invokevirtual 171, 3) := by decide +kernel
theorem dX10_prop_61 : decode mX10_prop.2.1 61 = .ok (.aload_n 0, 1) := by decide +kernel
theorem dX10_prop_62 : decode mX10_prop.2.1 62 = .ok (.invokevirtual 112, 3) := by decide +kernel
theorem dX10_prop_65 : decode mX10_prop.2.1 65 = .ok (.ireturn, 1) := by decide +kernel
theorem dX10_group_0 : decode mX10_group.2.1 0 = .ok (.lload_n 1, 1) := by decide +kernel
theorem dX10_group_1 : decode mX10_group.2.1 1 = .ok (.invokestatic 174, 3) := by decide +kernel
theorem dX10_group_4 : decode mX10_group.2.1 4 = .ok (.ifCond .eq 18, 3) := by decide +kernel
theorem dX10_group_7 : decode mX10_group.2.1 7 = .ok (.iload_n 3, 1) := by decide +kernel
theorem dX10_group_8 : decode mX10_group.2.1 8 = .ok (.ifCond .eq 14, 3) := by decide +kernel
theorem dX10_group_11 : decode mX10_group.2.1 11 = .ok (.aload_n 0, 1) := by decide +kernel
theorem dX10_group_12 : decode mX10_group.2.1 12 = .ok (.getfield 18, 3) := by decide +kernel
theorem dX10_group_15 : decode mX10_group.2.1 15 = .ok (.iload_n 3, 1) := by decide +kernel
theorem dX10_group_16 : decode mX10_group.2.1 16 = .ok (.invokevirtual 178, 3) := by decide +kernel
theorem dX10_group_19 : decode mX10_group.2.1 19 = .ok (.ifCond .ne 9, 3) := by decide +kernel
theorem dX10_group_22 : decode mX10_group.2.1 22 = .ok (.aload_n 0, 1) := by decide +kernel
theorem dX10_group_23 : decode mX10_group.2.1 23 = .ok (.iconst 5, 1) := by decide +kernel
theorem dX10_group_24 : decode mX10_group.2.1 24 = .ok (.invokevirtual 124, 3) := by decide +kernel
theorem dX10_group_27 : decode mX10_group.2.1 27 = .ok (.ireturn, 1) := by decide +kernel
theorem dX10_group_28 : decode mX10_group.2.1 28 = .ok (.aload_n 0, 1) := by decide +kernel
theorem dX10_group_29 : decode mX10_group.2.1 29 = .ok (.getfield 18, 3) := by decide +kernel
theorem dX10_group_32 : decode mX10_group.2.1 32 = .ok (.lload_n 1, 1) := by decide +kernel
theorem dX10_group_33 : decode mX10_group.2.1 33 = .ok (.invokevirtual 181, 3) := by decide +kernel
theorem dX10_group_36 : decode mX10_group.2.1 36 = .ok (.istore 4, 2) := by decide +kernel
theorem dX10_group_38 : decode mX10_group.2.1 38 = .ok (.iload 4, 2) := by decide +kernel
theorem dX10_group_40 : decode mX10_group.2.1 40 = .ok (.iconst (-1), 1) := by decide +kernel
theorem dX10_group_41 : decode mX10_group.2.1 41 = .ok (.if_icmp .ne 22, 3) := by decide +kernel
theorem dX10_group_44 : decode mX10_group.2.1 44 = .ok (.aload_n 0, 1) := by decide +kernel
theorem dX10_group_45 : decode mX10_group.2.1 45 = .ok (.getfield 18, 3) := by decide +kernel
theorem dX10_group_48 : decode mX10_group.2.1 48 = .ok (.getfield 185, 3) := by decide +kernel
theorem dX10_group_51 : decode mX10_group.2.1 51 = .ok (.bipush 8, 2) := by decide +kernel
theorem dX10_group_53 : decode mX10_group.2.1 53 = .ok (.if_icmp .lt 10, 3) := by decide +kernel
theorem dX10_group_56 : decode mX10_group.2.1 56 = .ok (.aload_n 0, 1) := by decide +kernel
theorem dX10_group_57 : decode mX10_group.2.1 57 = .ok (.bipush 7, 2) := by decide +kernel
theorem dX10_group_59 : decode mX10_group.2.1 59 = .ok (.invokevirtual 124, 3) := by decide +kernel
theorem dX10_group_62 : decode mX10_group.2.1 62 = .ok (.ireturn, 1) := by decide +kernel
theorem dX10_group_63 : decode mX10_group.2.1 63 = .ok (.aload_n 0, 1) := by decide +kernel
theorem dX10_group_64 : decode mX10_group.2.1 64 = .ok (.aload_n 0, 1) := by decide +kernel
theorem dX10_group_65 : decode mX10_group.2.1 65 = .ok (.getfield 18, 3) := by decide +kernel
theorem dX10_group_68 : decode mX10_group.2.1 68 = .ok (.iload 4, 2) := by decide +kernel
theorem dX10_group_70 : decode mX10_group.2.1 70 = .ok (.lload_n 1, 1) := by decide +kernel
theorem dX10_group_71 : decode mX10_group.2.1 71 = .ok (.iload_n 3, 1) := by decide +kernel
theorem dX10_group_72 : decode mX10_group.2.1 72 = .ok (.invokevirtual 188, 3) := by decide +kernel
theorem dX10_group_75 : decode mX10_group.2.1 75 = .ok (.invokevirtual 162, 3) := by decide +kernel
theorem dX10_group_78 : decode mX10_group.2.1 78 = .ok (.ireturn, 1) := by decide +kernel
theorem dX10_steps_0 : decode mX10_steps.2.1 0 = .ok (.iload_n 1, 1) := by decide +kernel
theorem dX10_steps_1 : decode mX10_steps.2.1 1 = .ok (.iconst 1, 1) := by decide +kernel
theorem dX10_steps_2 : decode mX10_steps.2.1 2 = .ok (.if_icmp .lt 9, 3) := by decide +kernel
theorem dX10_steps_5 : decode mX10_steps.2.1 5 = .ok (.iload_n 1, 1) := by decide +kernel
theorem dX10_steps_6 : decode mX10_steps.2.1 6 = .ok (.bipush 50, 2) := by decide +kernel
theorem dX10_steps_8 : decode mX10_steps.2.1 8 = .ok (.if_icmp .le 9, 3) := by decide +kernel
theorem dX10_steps_11 : decode mX10_steps.2.1 11 = .ok (.aload_n 0, 1) := by decide +kernel
theorem dX10_steps_12 : decode mX10_steps.2.1 12 = .ok (.iconst 5, 1) := by decide +kernel
theorem dX10_steps_13 : decode mX10_steps.2.1 13 = .ok (.invokevirtual 105, 3) := by decide +kernel
theorem dX10_steps_16 : decode mX10_steps.2.1 16 = .ok (.ireturn, 1) := by decide +kernel
theorem dX10_steps_17 : decode mX10_steps.2.1 17 = .ok (.aload_n 0, 1) := by decide +kernel
theorem dX10_steps_18 : decode mX10_steps.2.1 18 = .ok (.getfield 18, 3) := by decide +kernel
theorem dX10_steps_21 : decode mX10_steps.2.1 21 = .ok (.iload_n 1, 1) := by decide +kernel
theorem dX10_steps_22 : decode mX10_steps.2.1 22 = .ok (.putfield 192, 3) := by decide +kernel
theorem dX10_steps_25 : decode mX10_steps.2.1 25 = .ok (.aload_n 0, 1) := by decide +kernel
theorem dX10_steps_26 : decode mX10_steps.2.1 26 = .ok (.invokevirtual 112, 3) := by decide +kernel
theorem dX10_steps_29 : decode mX10_steps.2.1 29 = .ok (.ireturn, 1) := by decide +kernel
theorem dX10_feed_0 : decode mX10_feed.2.1 0 = .ok (.aload_n 0, 1) := by decide +kernel
theorem dX10_feed_1 : decode mX10_feed.2.1 1 = .ok (.getfield 25, 3) := by decide +kernel
theorem dX10_feed_4 : decode mX10_feed.2.1 4 = .ok (.invokevirtual 195, 3) := by decide +kernel
theorem dX10_feed_7 : decode mX10_feed.2.1 7 = .ok (.ifCond .ne 5, 3) := by decide +kernel
theorem dX10_feed_10 : decode mX10_feed.2.1 10 = .ok (.iconst (-1), 1) := by decide +kernel
theorem dX10_feed_11 : decode mX10_feed.2.1 11 = .ok (.ireturn, 1) := by decide +kernel
theorem dX10_feed_12 : decode mX10_feed.2.1 12 = .ok (.aload_n 0, 1) := by decide +kernel
theorem dX10_feed_13 : decode mX10_feed.2.1 13 = .ok (.getfield 25, 3) := by decide +kernel
theorem dX10_feed_16 : decode mX10_feed.2.1 16 = .ok (.iload_n 1, 1) := by decide +kernel
theorem dX10_feed_17 : decode mX10_feed.2.1 17 = .ok (.invokevirtual 198, 3) := by decide +kernel
theorem dX10_feed_20 : decode mX10_feed.2.1 20 = .ok (.aload_n 0, 1) := by decide +kernel
theorem dX10_feed_21 : decode mX10_feed.2.1 21 = .ok (.getfield 25, 3) := by decide +kernel
theorem dX10_feed_24 : decode mX10_feed.2.1 24 = .ok (.iload_n 2, 1) := by decide +kernel
theorem dX10_feed_25 : decode mX10_feed.2.1 25 = .ok (.invokevirtual 198, 3) := by decide +kernel
theorem dX10_feed_28 : decode mX10_feed.2.1 28 = .ok (.aload_n 0, 1) := by decide +kernel
theorem dX10_feed_29 : decode mX10_feed.2.1 29 = .ok (.getfield 25, 3) := by decide +kernel
theorem dX10_feed_32 : decode mX10_feed.2.1 32 = .ok (.iload_n 3, 1) := by decide +kernel
theorem dX10_feed_33 : decode mX10_feed.2.1 33 = .ok (.invokevirtual 198, 3) := by decide +kernel
theorem dX10_feed_36 : decode mX10_feed.2.1 36 = .ok (.aload_n 0, 1) := by decide +kernel
theorem dX10_feed_37 : decode mX10_feed.2.1 37 = .ok (.getfield 25, 3) := by decide +kernel
theorem dX10_feed_40 : decode mX10_feed.2.1 40 = .ok (.iload 4, 2) := by decide +kernel
theorem dX10_feed_42 : decode mX10_feed.2.1 42 = .ok (.invokevirtual 198, 3) := by decide +kernel
theorem dX10_feed_45 : decode mX10_feed.2.1 45 = .ok (.aload_n 0, 1) := by decide +kernel
theorem dX10_feed_46 : decode mX10_feed.2.1 46 = .ok (.getfield 25, 3) := by decide +kernel
theorem dX10_feed_49 : decode mX10_feed.2.1 49 = .ok (.iload 5, 2) := by decide +kernel
theorem dX10_feed_51 : decode mX10_feed.2.1 51 = .ok (.invokevirtual 198, 3) := by decide +kernel
theorem dX10_feed_54 : decode mX10_feed.2.1 54 = .ok (.aload_n 0, 1) := by decide +kernel
theorem dX10_feed_55 : decode mX10_feed.2.1 55 = .ok (.getfield 25, 3) := by decide +kernel
theorem dX10_feed_58 : decode mX10_feed.2.1 58 = .ok (.getfield 202, 3) := by decide +kernel
theorem dX10_feed_61 : decode mX10_feed.2.1 61 = .ok (.ireturn, 1) := by decide +kernel
theorem dX10_orders_0 : decode mX10_orders.2.1 0 = .ok (.iload_n 1, 1) := by decide +kernel
theorem dX10_orders_1 : decode mX10_orders.2.1 1 = .ok (.ifCond .lt 14, 3) := by decide +kernel
theorem dX10_orders_4 : decode mX10_orders.2.1 4 = .ok (.iload_n 1, 1) := by decide +kernel
theorem dX10_orders_5 : decode mX10_orders.2.1 5 = .ok (.aload_n 0, 1) := by decide +kernel
theorem dX10_orders_6 : decode mX10_orders.2.1 6 = .ok (.getfield 25, 3) := by decide +kernel
theorem dX10_orders_9 : decode mX10_orders.2.1 9 = .ok (.getfield 202, 3) := by decide +kernel
theorem dX10_orders_12 : decode mX10_orders.2.1 12 = .ok (.if_icmp .le 9, 3) := by decide +kernel
theorem dX10_orders_15 : decode mX10_orders.2.1 15 = .ok (.aload_n 0, 1) := by decide +kernel
theorem dX10_orders_16 : decode mX10_orders.2.1 16 = .ok (.iconst 5, 1) := by decide +kernel
theorem dX10_orders_17 : decode mX10_orders.2.1 17 = .ok (.invokevirtual 124, 3) := by decide +kernel
theorem dX10_orders_20 : decode mX10_orders.2.1 20 = .ok (.ireturn, 1) := by decide +kernel
theorem dX10_orders_21 : decode mX10_orders.2.1 21 = .ok (.aload_n 0, 1) := by decide +kernel
theorem dX10_orders_22 : decode mX10_orders.2.1 22 = .ok (.getfield 25, 3) := by decide +kernel
theorem dX10_orders_25 : decode mX10_orders.2.1 25 = .ok (.iload_n 1, 1) := by decide +kernel
theorem dX10_orders_26 : decode mX10_orders.2.1 26 = .ok (.aload_n 0, 1) := by decide +kernel
theorem dX10_orders_27 : decode mX10_orders.2.1 27 = .ok (.getfield 71, 3) := by decide +kernel
theorem dX10_orders_30 : decode mX10_orders.2.1 30 = .ok (.aload_n 0, 1) := by decide +kernel
theorem dX10_orders_31 : decode mX10_orders.2.1 31 = .ok (.getfield 18, 3) := by decide +kernel
theorem dX10_orders_34 : decode mX10_orders.2.1 34 = .ok (.invokevirtual 205, 3) := by decide +kernel
theorem dX10_orders_37 : decode mX10_orders.2.1 37 = .ok (.aload_n 0, 1) := by decide +kernel
theorem dX10_orders_38 : decode mX10_orders.2.1 38 = .ok (.getfield 25, 3) := by decide +kernel
theorem dX10_orders_41 : decode mX10_orders.2.1 41 = .ok (.iconst 0, 1) := by decide +kernel
theorem dX10_orders_42 : decode mX10_orders.2.1 42 = .ok (.putfield 202, 3) := by decide +kernel
theorem dX10_orders_45 : decode mX10_orders.2.1 45 = .ok (.aload_n 0, 1) := by decide +kernel
theorem dX10_orders_46 : decode mX10_orders.2.1 46 = .ok (.aload_n 0, 1) := by decide +kernel
theorem dX10_orders_47 : decode mX10_orders.2.1 47 = .ok (.getfield 25, 3) := by decide +kernel
theorem dX10_orders_50 : decode mX10_orders.2.1 50 = .ok (.getfield 209, 3) := by decide +kernel
theorem dX10_orders_53 : decode mX10_orders.2.1 53 = .ok (.putfield 88, 3) := by decide +kernel
theorem dX10_orders_56 : decode mX10_orders.2.1 56 = .ok (.aload_n 0, 1) := by decide +kernel
theorem dX10_orders_57 : decode mX10_orders.2.1 57 = .ok (.aload_n 0, 1) := by decide +kernel
theorem dX10_orders_58 : decode mX10_orders.2.1 58 = .ok (.getfield 25, 3) := by decide +kernel
theorem dX10_orders_61 : decode mX10_orders.2.1 61 = .ok (.getfield 210, 3) := by decide +kernel
theorem dX10_orders_64 : decode mX10_orders.2.1 64 = .ok (.putfield 91, 3) := by decide +kernel
theorem dX10_orders_67 : decode mX10_orders.2.1 67 = .ok (.aload_n 0, 1) := by decide +kernel
theorem dX10_orders_68 : decode mX10_orders.2.1 68 = .ok (.getfield 88, 3) := by decide +kernel
theorem dX10_orders_71 : decode mX10_orders.2.1 71 = .ok (.ifCond .eq 10, 3) := by decide +kernel
theorem dX10_orders_74 : decode mX10_orders.2.1 74 = .ok (.aload_n 0, 1) := by decide +kernel
theorem dX10_orders_75 : decode mX10_orders.2.1 75 = .ok (.bipush 10, 2) := by decide +kernel
theorem dX10_orders_77 : decode mX10_orders.2.1 77 = .ok (.invokevirtual 124, 3) := by decide +kernel
theorem dX10_orders_80 : decode mX10_orders.2.1 80 = .ok (.ireturn, 1) := by decide +kernel
theorem dX10_orders_81 : decode mX10_orders.2.1 81 = .ok (.aload_n 0, 1) := by decide +kernel
theorem dX10_orders_82 : decode mX10_orders.2.1 82 = .ok (.getfield 67, 3) := by decide +kernel
theorem dX10_orders_85 : decode mX10_orders.2.1 85 = .ok (.astore_n 2, 1) := by decide +kernel
theorem dX10_orders_86 : decode mX10_orders.2.1 86 = .ok (.aload_n 0, 1) := by decide +kernel
theorem dX10_orders_87 : decode mX10_orders.2.1 87 = .ok (.aload_n 0, 1) := by decide +kernel
theorem dX10_orders_88 : decode mX10_orders.2.1 88 = .ok (.getfield 71, 3) := by decide +kernel
theorem dX10_orders_91 : decode mX10_orders.2.1 91 = .ok (.putfield 67, 3) := by decide +kernel
