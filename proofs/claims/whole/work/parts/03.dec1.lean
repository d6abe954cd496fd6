theorem dX0_init_0 : decode mX0_init.2.1 0 = .ok (.aload_n 0, 1) := by decide +kernel
theorem dX0_init_1 : decode mX0_init.2.1 1 = .ok (.invokespecial 5, 3) := by decide +kernel
theorem dX0_init_4 : decode mX0_init.2.1 4 = .ok (.aload_n 0, 1) := by decide +kernel
theorem dX0_init_5 : decode mX0_init.2.1 5 = .ok (.sipush 3020, 3) := by decide +kernel
theorem dX0_init_8 : decode mX0_init.2.1 8 = .ok (.newarray .int, 2) := by decide +kernel
theorem dX0_init_10 : decode mX0_init.2.1 10 = .ok (.putfield 13, 3) := by decide +kernel
theorem dX0_init_13 : decode mX0_init.2.1 13 = .ok (.aload_n 0, 1) := by decide +kernel
theorem dX0_init_14 : decode mX0_init.2.1 14 = .ok (.bipush 20, 2) := by decide +kernel
theorem dX0_init_16 : decode mX0_init.2.1 16 = .ok (.newarray .int, 2) := by decide +kernel
theorem dX0_init_18 : decode mX0_init.2.1 18 = .ok (.putfield 17, 3) := by decide +kernel
theorem dX0_init_21 : decode mX0_init.2.1 21 = .ok (.aload_n 0, 1) := by decide +kernel
theorem dX0_init_22 : decode mX0_init.2.1 22 = .ok (.bipush 20, 2) := by decide +kernel
theorem dX0_init_24 : decode mX0_init.2.1 24 = .ok (.newarray .int, 2) := by decide +kernel
theorem dX0_init_26 : decode mX0_init.2.1 26 = .ok (.putfield 20, 3) := by decide +kernel
theorem dX0_init_29 : decode mX0_init.2.1 29 = .ok (.aload_n 0, 1) := by decide +kernel
theorem dX0_init_30 : decode mX0_init.2.1 30 = .ok (.iconst 0, 1) := by decide +kernel
theorem dX0_init_31 : decode mX0_init.2.1 31 = .ok (.putfield 23, 3) := by decide +kernel
theorem dX0_init_34 : decode mX0_init.2.1 34 = .ok (.aload_n 0, 1) := by decide +kernel
theorem dX0_init_35 : decode mX0_init.2.1 35 = .ok (.iconst 0, 1) := by decide +kernel
theorem dX0_init_36 : decode mX0_init.2.1 36 = .ok (.putfield 27, 3) := by decide +kernel
theorem dX0_init_39 : decode mX0_init.2.1 39 = .ok (.aload_n 0, 1) := by decide +kernel
theorem dX0_init_40 : decode mX0_init.2.1 40 = .ok (.iconst 0, 1) := by decide +kernel
theorem dX0_init_41 : decode mX0_init.2.1 41 = .ok (.putfield 31, 3) := by decide +kernel
theorem dX0_init_44 : decode mX0_init.2.1 44 = .ok (.aload_n 0, 1) := by decide +kernel
theorem dX0_init_45 : decode mX0_init.2.1 45 = .ok (.iconst 0, 1) := by decide +kernel
theorem dX0_init_46 : decode mX0_init.2.1 46 = .ok (.putfield 34, 3) := by decide +kernel
theorem dX0_init_49 : decode mX0_init.2.1 49 = .ok (.return_, 1) := by decide +kernel
theorem dX0_begin_0 : decode mX0_begin.2.1 0 = .ok (.aload_n 0, 1) := by decide +kernel
theorem dX0_begin_1 : decode mX0_begin.2.1 1 = .ok (.iconst 0, 1) := by decide +kernel
theorem dX0_begin_2 : decode mX0_begin.2.1 2 = .ok (.putfield 23, 3) := by decide +kernel
theorem dX0_begin_5 : decode mX0_begin.2.1 5 = .ok (.aload_n 0, 1) := by decide +kernel
theorem dX0_begin_6 : decode mX0_begin.2.1 6 = .ok (.iconst 0, 1) := by decide +kernel
theorem dX0_begin_7 : decode mX0_begin.2.1 7 = .ok (.putfield 31, 3) := by decide +kernel
theorem dX0_begin_10 : decode mX0_begin.2.1 10 = .ok (.aload_n 0, 1) := by decide +kernel
theorem dX0_begin_11 : decode mX0_begin.2.1 11 = .ok (.iconst 0, 1) := by decide +kernel
theorem dX0_begin_12 : decode mX0_begin.2.1 12 = .ok (.putfield 34, 3) := by decide +kernel
theorem dX0_begin_15 : decode mX0_begin.2.1 15 = .ok (.aload_n 0, 1) := by decide +kernel
theorem dX0_begin_16 : decode mX0_begin.2.1 16 = .ok (.aload_n 1, 1) := by decide +kernel
theorem dX0_begin_17 : decode mX0_begin.2.1 17 = .ok (.getfield 37, 3) := by decide +kernel
theorem dX0_begin_20 : decode mX0_begin.2.1 20 = .ok (.putfield 27, 3) := by decide +kernel
theorem dX0_begin_23 : decode mX0_begin.2.1 23 = .ok (.iconst 0, 1) := by decide +kernel
theorem dX0_begin_24 : decode mX0_begin.2.1 24 = .ok (.istore_n 2, 1) := by decide +kernel
theorem dX0_begin_25 : decode mX0_begin.2.1 25 = .ok (.iload_n 2, 1) := by decide +kernel
theorem dX0_begin_26 : decode mX0_begin.2.1 26 = .ok (.aload_n 0, 1) := by decide +kernel
theorem dX0_begin_27 : decode mX0_begin.2.1 27 = .ok (.getfield 27, 3) := by decide +kernel
theorem dX0_begin_30 : decode mX0_begin.2.1 30 = .ok (.if_icmp .ge 34, 3) := by decide +kernel
theorem dX0_begin_33 : decode mX0_begin.2.1 33 = .ok (.aload_n 0, 1) := by decide +kernel
theorem dX0_begin_34 : decode mX0_begin.2.1 34 = .ok (.iconst 0, 1) := by decide +kernel
theorem dX0_begin_35 : decode mX0_begin.2.1 35 = .ok (.iload_n 2, 1) := by decide +kernel
theorem dX0_begin_36 : decode mX0_begin.2.1 36 = .ok (.aload_n 1, 1) := by decide +kernel
theorem dX0_begin_37 : decode mX0_begin.2.1 37 = .ok (.getfield 38, 3) := by decide +kernel
theorem dX0_begin_40 : decode mX0_begin.2.1 40 = .ok (.iload_n 2, 1) := by decide +kernel
theorem dX0_begin_41 : decode mX0_begin.2.1 41 = .ok (.iaload, 1) := by decide +kernel
theorem dX0_begin_42 : decode mX0_begin.2.1 42 = .ok (.aload_n 1, 1) := by decide +kernel
theorem dX0_begin_43 : decode mX0_begin.2.1 43 = .ok (.getfield 41, 3) := by decide +kernel
theorem dX0_begin_46 : decode mX0_begin.2.1 46 = .ok (.iload_n 2, 1) := by decide +kernel
theorem dX0_begin_47 : decode mX0_begin.2.1 47 = .ok (.iaload, 1) := by decide +kernel
theorem dX0_begin_48 : decode mX0_begin.2.1 48 = .ok (.aload_n 1, 1) := by decide +kernel
theorem dX0_begin_49 : decode mX0_begin.2.1 49 = .ok (.getfield 44, 3) := by decide +kernel
theorem dX0_begin_52 : decode mX0_begin.2.1 52 = .ok (.iload_n 2, 1) := by decide +kernel
theorem dX0_begin_53 : decode mX0_begin.2.1 53 = .ok (.iaload, 1) := by decide +kernel
theorem dX0_begin_54 : decode mX0_begin.2.1 54 = .ok (.invokevirtual 47, 3) := by decide +kernel
theorem dX0_begin_57 : decode mX0_begin.2.1 57 = .ok (.pop, 1) := by decide +kernel
theorem dX0_begin_58 : decode mX0_begin.2.1 58 = .ok (.iinc 2 1, 3) := by decide +kernel
theorem dX0_begin_61 : decode mX0_begin.2.1 61 = .ok (.goto (-36), 3) := by decide +kernel
theorem dX0_begin_64 : decode mX0_begin.2.1 64 = .ok (.return_, 1) := by decide +kernel
theorem dX0_put_0 : decode mX0_put.2.1 0 = .ok (.iload_n 3, 1) := by decide +kernel
theorem dX0_put_1 : decode mX0_put.2.1 1 = .ok (.iload 4, 2) := by decide +kernel
theorem dX0_put_3 : decode mX0_put.2.1 3 = .ok (.invokestatic 51, 3) := by decide +kernel
theorem dX0_put_6 : decode mX0_put.2.1 6 = .ok (.ifCond .eq 14, 3) := by decide +kernel
theorem dX0_put_9 : decode mX0_put.2.1 9 = .ok (.iload_n 1, 1) := by decide +kernel
theorem dX0_put_10 : decode mX0_put.2.1 10 = .ok (.ifCond .lt 10, 3) := by decide +kernel
theorem dX0_put_13 : decode mX0_put.2.1 13 = .ok (.iload_n 1, 1) := by decide +kernel
theorem dX0_put_14 : decode mX0_put.2.1 14 = .ok (.sipush 150, 3) := by decide +kernel
theorem dX0_put_17 : decode mX0_put.2.1 17 = .ok (.if_icmp .le 5, 3) := by decide +kernel
theorem dX0_put_20 : decode mX0_put.2.1 20 = .ok (.iconst 0, 1) := by decide +kernel
theorem dX0_put_21 : decode mX0_put.2.1 21 = .ok (.ireturn, 1) := by decide +kernel
theorem dX0_put_22 : decode mX0_put.2.1 22 = .ok (.aload_n 0, 1) := by decide +kernel
theorem dX0_put_23 : decode mX0_put.2.1 23 = .ok (.getfield 13, 3) := by decide +kernel
theorem dX0_put_26 : decode mX0_put.2.1 26 = .ok (.iload_n 1, 1) := by decide +kernel
theorem dX0_put_27 : decode mX0_put.2.1 27 = .ok (.bipush 20, 2) := by decide +kernel
theorem dX0_put_29 : decode mX0_put.2.1 29 = .ok (.imul, 1) := by decide +kernel
theorem dX0_put_30 : decode mX0_put.2.1 30 = .ok (.iload_n 2, 1) := by decide +kernel
theorem dX0_put_31 : decode mX0_put.2.1 31 = .ok (.iadd, 1) := by decide +kernel
theorem dX0_put_32 : decode mX0_put.2.1 32 = .ok (.iload_n 3, 1) := by decide +kernel
theorem dX0_put_33 : decode mX0_put.2.1 33 = .ok (.iload 4, 2) := by decide +kernel
theorem dX0_put_35 : decode mX0_put.2.1 35 = .ok (.invokestatic 55, 3) := by decide +kernel
theorem dX0_put_38 : decode mX0_put.2.1 38 = .ok (.iconst 3, 1) := by decide +kernel
theorem dX0_put_39 : decode mX0_put.2.1 39 = .ok (.ishl, 1) := by decide +kernel
theorem dX0_put_40 : decode mX0_put.2.1 40 = .ok (.iload 5, 2) := by decide +kernel
theorem dX0_put_42 : decode mX0_put.2.1 42 = .ok (.bipush 7, 2) := by decide +kernel
theorem dX0_put_44 : decode mX0_put.2.1 44 = .ok (.iand, 1) := by decide +kernel
theorem dX0_put_45 : decode mX0_put.2.1 45 = .ok (.ior, 1) := by decide +kernel
theorem dX0_put_46 : decode mX0_put.2.1 46 = .ok (.iastore, 1) := by decide +kernel
theorem dX0_put_47 : decode mX0_put.2.1 47 = .ok (.iconst 1, 1) := by decide +kernel
theorem dX0_put_48 : decode mX0_put.2.1 48 = .ok (.ireturn, 1) := by decide +kernel
theorem dX0_turnFace_0 : decode mX0_turnFace.2.1 0 = .ok (.aload_n 0, 1) := by decide +kernel
theorem dX0_turnFace_1 : decode mX0_turnFace.2.1 1 = .ok (.getfield 13, 3) := by decide +kernel
theorem dX0_turnFace_4 : decode mX0_turnFace.2.1 4 = .ok (.iload_n 1, 1) := by decide +kernel
theorem dX0_turnFace_5 : decode mX0_turnFace.2.1 5 = .ok (.bipush 20, 2) := by decide +kernel
theorem dX0_turnFace_7 : decode mX0_turnFace.2.1 7 = .ok (.imul, 1) := by decide +kernel
theorem dX0_turnFace_8 : decode mX0_turnFace.2.1 8 = .ok (.iload_n 2, 1) := by decide +kernel
theorem dX0_turnFace_9 : decode mX0_turnFace.2.1 9 = .ok (.iadd, 1) := by decide +kernel
theorem dX0_turnFace_10 : decode mX0_turnFace.2.1 10 = .ok (.iaload, 1) := by decide +kernel
theorem dX0_turnFace_11 : decode mX0_turnFace.2.1 11 = .ok (.istore 4, 2) := by decide +kernel
theorem dX0_turnFace_13 : decode mX0_turnFace.2.1 13 = .ok (.aload_n 0, 1) := by decide +kernel
theorem dX0_turnFace_14 : decode mX0_turnFace.2.1 14 = .ok (.getfield 13, 3) := by decide +kernel
theorem dX0_turnFace_17 : decode mX0_turnFace.2.1 17 = .ok (.iload_n 1, 1) := by decide +kernel
theorem dX0_turnFace_18 : decode mX0_turnFace.2.1 18 = .ok (.bipush 20, 2) := by decide +kernel
theorem dX0_turnFace_20 : decode mX0_turnFace.2.1 20 = .ok (.imul, 1) := by decide +kernel
theorem dX0_turnFace_21 : decode mX0_turnFace.2.1 21 = .ok (.iload_n 2, 1) := by decide +kernel
theorem dX0_turnFace_22 : decode mX0_turnFace.2.1 22 = .ok (.iadd, 1) := by decide +kernel
theorem dX0_turnFace_23 : decode mX0_turnFace.2.1 23 = .ok (.iload 4, 2) := by decide +kernel
theorem dX0_turnFace_25 : decode mX0_turnFace.2.1 25 = .ok (.bipush (-8), 2) := by decide +kernel
theorem dX0_turnFace_27 : decode mX0_turnFace.2.1 27 = .ok (.iand, 1) := by decide +kernel
theorem dX0_turnFace_28 : decode mX0_turnFace.2.1 28 = .ok (.iload 4, 2) := by decide +kernel
theorem dX0_turnFace_30 : decode mX0_turnFace.2.1 30 = .ok (.iload_n 3, 1) := by decide +kernel
theorem dX0_turnFace_31 : decode mX0_turnFace.2.1 31 = .ok (.iadd, 1) := by decide +kernel
theorem dX0_turnFace_32 : decode mX0_turnFace.2.1 32 = .ok (.bipush 7, 2) := by decide +kernel
theorem dX0_turnFace_34 : decode mX0_turnFace.2.1 34 = .ok (.iand, 1) := by decide +kernel
theorem dX0_turnFace_35 : decode mX0_turnFace.2.1 35 = .ok (.ior, 1) := by decide +kernel
theorem dX0_turnFace_36 : decode mX0_turnFace.2.1 36 = .ok (.iastore, 1) := by decide +kernel
theorem dX0_turnFace_37 : decode mX0_turnFace.2.1 37 = .ok (.return_, 1) := by decide +kernel
theorem dX0_copy_0 : decode mX0_copy.2.1 0 = .ok (.aload_n 0, 1) := by decide +kernel
theorem dX0_copy_1 : decode mX0_copy.2.1 1 = .ok (.getfield 13, 3) := by decide +kernel
theorem dX0_copy_4 : decode mX0_copy.2.1 4 = .ok (.iload_n 3, 1) := by decide +kernel
theorem dX0_copy_5 : decode mX0_copy.2.1 5 = .ok (.bipush 20, 2) := by decide +kernel
theorem dX0_copy_7 : decode mX0_copy.2.1 7 = .ok (.imul, 1) := by decide +kernel
theorem dX0_copy_8 : decode mX0_copy.2.1 8 = .ok (.iload 4, 2) := by decide +kernel
theorem dX0_copy_10 : decode mX0_copy.2.1 10 = .ok (.iadd, 1) := by decide +kernel
theorem dX0_copy_11 : decode mX0_copy.2.1 11 = .ok (.aload_n 0, 1) := by decide +kernel
theorem dX0_copy_12 : decode mX0_copy.2.1 12 = .ok (.getfield 13, 3) := by decide +kernel
theorem dX0_copy_15 : decode mX0_copy.2.1 15 = .ok (.iload_n 1, 1) := by decide +kernel
theorem dX0_copy_16 : decode mX0_copy.2.1 16 = .ok (.bipush 20, 2) := by decide +kernel
theorem dX0_copy_18 : decode mX0_copy.2.1 18 = .ok (.imul, 1) := by decide +kernel
theorem dX0_copy_19 : decode mX0_copy.2.1 19 = .ok (.iload_n 2, 1) := by decide +kernel
theorem dX0_copy_20 : decode mX0_copy.2.1 20 = .ok (.iadd, 1) := by decide +kernel
theorem dX0_copy_21 : decode mX0_copy.2.1 21 = .ok (.iaload, 1) := by decide +kernel
theorem dX0_copy_22 : decode mX0_copy.2.1 22 = .ok (.iastore, 1) := by decide +kernel
theorem dX0_copy_23 : decode mX0_copy.2.1 23 = .ok (.return_, 1) := by decide +kernel
theorem dX0_hasCount_0 : decode mX0_hasCount.2.1 0 = .ok (.iload_n 1, 1) := by decide +kernel
theorem dX0_hasCount_1 : decode mX0_hasCount.2.1 1 = .ok (.ifCond .lt 15, 3) := by decide +kernel
theorem dX0_hasCount_4 : decode mX0_hasCount.2.1 4 = .ok (.iload_n 1, 1) := by decide +kernel
theorem dX0_hasCount_5 : decode mX0_hasCount.2.1 5 = .ok (.aload_n 0, 1) := by decide +kernel
theorem dX0_hasCount_6 : decode mX0_hasCount.2.1 6 = .ok (.getfield 31, 3) := by decide +kernel
theorem dX0_hasCount_9 : decode mX0_hasCount.2.1 9 = .ok (.if_icmp .gt 7, 3) := by decide +kernel
theorem dX0_hasCount_12 : decode mX0_hasCount.2.1 12 = .ok (.iconst 1, 1) := by decide +kernel
theorem dX0_hasCount_13 : decode mX0_hasCount.2.1 13 = .ok (.goto 4, 3) := by decide +kernel
theorem dX0_hasCount_16 : decode mX0_hasCount.2.1 16 = .ok (.iconst 0, 1) := by decide +kernel
theorem dX0_hasCount_17 : decode mX0_hasCount.2.1 17 = .ok (.ireturn, 1) := by decide +kernel
theorem dX0_hasMarcher_0 : decode mX0_hasMarcher.2.1 0 = .ok (.iload_n 1, 1) := by decide +kernel
theorem dX0_hasMarcher_1 : decode mX0_hasMarcher.2.1 1 = .ok (.ifCond .lt 15, 3) := by decide +kernel
theorem dX0_hasMarcher_4 : decode mX0_hasMarcher.2.1 4 = .ok (.iload_n 1, 1) := by decide +kernel
theorem dX0_hasMarcher_5 : decode mX0_hasMarcher.2.1 5 = .ok (.aload_n 0, 1) := by decide +kernel
theorem dX0_hasMarcher_6 : decode mX0_hasMarcher.2.1 6 = .ok (.getfield 27, 3) := by decide +kernel
theorem dX0_hasMarcher_9 : decode mX0_hasMarcher.2.1 9 = .ok (.if_icmp .ge 7, 3) := by decide +kernel
theorem dX0_hasMarcher_12 : decode mX0_hasMarcher.2.1 12 = .ok (.iconst 1, 1) := by decide +kernel
theorem dX0_hasMarcher_13 : decode mX0_hasMarcher.2.1 13 = .ok (.goto 4, 3) := by decide +kernel
theorem dX0_hasMarcher_16 : decode mX0_hasMarcher.2.1 16 = .ok (.iconst 0, 1) := by decide +kernel
theorem dX0_hasMarcher_17 : decode mX0_hasMarcher.2.1 17 = .ok (.ireturn, 1) := by decide +kernel
theorem dX0_hasAll_0 : decode mX0_hasAll.2.1 0 = .ok (.iload_n 1, 1) := by decide +kernel
theorem dX0_hasAll_1 : decode mX0_hasAll.2.1 1 = .ok (.aload_n 0, 1) := by decide +kernel
theorem dX0_hasAll_2 : decode mX0_hasAll.2.1 2 = .ok (.getfield 27, 3) := by decide +kernel
theorem dX0_hasAll_5 : decode mX0_hasAll.2.1 5 = .ok (.iushr, 1) := by decide +kernel
theorem dX0_hasAll_6 : decode mX0_hasAll.2.1 6 = .ok (.ifCond .ne 7, 3) := by decide +kernel
theorem dX0_hasAll_9 : decode mX0_hasAll.2.1 9 = .ok (.iconst 1, 1) := by decide +kernel
theorem dX0_hasAll_10 : decode mX0_hasAll.2.1 10 = .ok (.goto 4, 3) := by decide +kernel
theorem dX0_hasAll_13 : decode mX0_hasAll.2.1 13 = .ok (.iconst 0, 1) := by decide +kernel
theorem dX0_hasAll_14 : decode mX0_hasAll.2.1 14 = .ok (.ireturn, 1) := by decide +kernel
theorem dX0_spotAt_0 : decode mX0_spotAt.2.1 0 = .ok (.aload_n 0, 1) := by decide +kernel
theorem dX0_spotAt_1 : decode mX0_spotAt.2.1 1 = .ok (.getfield 13, 3) := by decide +kernel
theorem dX0_spotAt_4 : decode mX0_spotAt.2.1 4 = .ok (.iload_n 1, 1) := by decide +kernel
theorem dX0_spotAt_5 : decode mX0_spotAt.2.1 5 = .ok (.bipush 20, 2) := by decide +kernel
theorem dX0_spotAt_7 : decode mX0_spotAt.2.1 7 = .ok (.imul, 1) := by decide +kernel
theorem dX0_spotAt_8 : decode mX0_spotAt.2.1 8 = .ok (.iload_n 2, 1) := by decide +kernel
theorem dX0_spotAt_9 : decode mX0_spotAt.2.1 9 = .ok (.iadd, 1) := by decide +kernel
theorem dX0_spotAt_10 : decode mX0_spotAt.2.1 10 = .ok (.iaload, 1) := by decide +kernel
theorem dX0_spotAt_11 : decode mX0_spotAt.2.1 11 = .ok (.iconst 3, 1) := by decide +kernel
theorem dX0_spotAt_12 : decode mX0_spotAt.2.1 12 = .ok (.ishr, 1) := by decide +kernel
theorem dX0_spotAt_13 : decode mX0_spotAt.2.1 13 = .ok (.ireturn, 1) := by decide +kernel
theorem dX0_eastOf_0 : decode mX0_eastOf.2.1 0 = .ok (.aload_n 0, 1) := by decide +kernel
theorem dX0_eastOf_1 : decode mX0_eastOf.2.1 1 = .ok (.getfield 13, 3) := by decide +kernel
theorem dX0_eastOf_4 : decode mX0_eastOf.2.1 4 = .ok (.iload_n 1, 1) := by decide +kernel
theorem dX0_eastOf_5 : decode mX0_eastOf.2.1 5 = .ok (.bipush 20, 2) := by decide +kernel
theorem dX0_eastOf_7 : decode mX0_eastOf.2.1 7 = .ok (.imul, 1) := by decide +kernel
theorem dX0_eastOf_8 : decode mX0_eastOf.2.1 8 = .ok (.iload_n 2, 1) := by decide +kernel
theorem dX0_eastOf_9 : decode mX0_eastOf.2.1 9 = .ok (.iadd, 1) := by decide +kernel
theorem dX0_eastOf_10 : decode mX0_eastOf.2.1 10 = .ok (.iaload, 1) := by decide +kernel
theorem dX0_eastOf_11 : decode mX0_eastOf.2.1 11 = .ok (.iconst 3, 1) := by decide +kernel
theorem dX0_eastOf_12 : decode mX0_eastOf.2.1 12 = .ok (.ishr, 1) := by decide +kernel
theorem dX0_eastOf_13 : decode mX0_eastOf.2.1 13 = .ok (.bipush 40, 2) := by decide +kernel
theorem dX0_eastOf_15 : decode mX0_eastOf.2.1 15 = .ok (.idiv, 1) := by decide +kernel
theorem dX0_eastOf_16 : decode mX0_eastOf.2.1 16 = .ok (.ireturn, 1) := by decide +kernel
theorem dX0_northOf_0 : decode mX0_northOf.2.1 0 = .ok (.aload_n 0, 1) := by decide +kernel
theorem dX0_northOf_1 : decode mX0_northOf.2.1 1 = .ok (.getfield 13, 3) := by decide +kernel
theorem dX0_northOf_4 : decode mX0_northOf.2.1 4 = .ok (.iload_n 1, 1) := by decide +kernel
theorem dX0_northOf_5 : decode mX0_northOf.2.1 5 = .ok (.bipush 20, 2) := by decide +kernel
theorem dX0_northOf_7 : decode mX0_northOf.2.1 7 = .ok (.imul, 1) := by decide +kernel
theorem dX0_northOf_8 : decode mX0_northOf.2.1 8 = .ok (.iload_n 2, 1) := by decide +kernel
theorem dX0_northOf_9 : decode mX0_northOf.2.1 9 = .ok (.iadd, 1) := by decide +kernel
theorem dX0_northOf_10 : decode mX0_northOf.2.1 10 = .ok (.iaload, 1) := by decide +kernel
theorem dX0_northOf_11 : decode mX0_northOf.2.1 11 = .ok (.iconst 3, 1) := by decide +kernel
theorem dX0_northOf_12 : decode mX0_northOf.2.1 12 = .ok (.ishr, 1) := by decide +kernel
theorem dX0_northOf_13 : decode mX0_northOf.2.1 13 = .ok (.bipush 40, 2) := by decide +kernel
theorem dX0_northOf_15 : decode mX0_northOf.2.1 15 = .ok (.irem, 1) := by decide +kernel
theorem dX0_northOf_16 : decode mX0_northOf.2.1 16 = .ok (.ireturn, 1) := by decide +kernel
theorem dX0_faceOf_0 : decode mX0_faceOf.2.1 0 = .ok (.aload_n 0, 1) := by decide +kernel
theorem dX0_faceOf_1 : decode mX0_faceOf.2.1 1 = .ok (.getfield 13, 3) := by decide +kernel
theorem dX0_faceOf_4 : decode mX0_faceOf.2.1 4 = .ok (.iload_n 1, 1) := by decide +kernel
theorem dX0_faceOf_5 : decode mX0_faceOf.2.1 5 = .ok (.bipush 20, 2) := by decide +kernel
theorem dX0_faceOf_7 : decode mX0_faceOf.2.1 7 = .ok (.imul, 1) := by decide +kernel
theorem dX0_faceOf_8 : decode mX0_faceOf.2.1 8 = .ok (.iload_n 2, 1) := by decide +kernel
theorem dX0_faceOf_9 : decode mX0_faceOf.2.1 9 = .ok (.iadd, 1) := by decide +kernel
theorem dX0_faceOf_10 : decode mX0_faceOf.2.1 10 = .ok (.iaload, 1) := by decide +kernel
theorem dX0_faceOf_11 : decode mX0_faceOf.2.1 11 = .ok (.bipush 7, 2) := by decide +kernel
theorem dX0_faceOf_13 : decode mX0_faceOf.2.1 13 = .ok (.iand, 1) := by decide +kernel
theorem dX0_faceOf_14 : decode mX0_faceOf.2.1 14 = .ok (.ireturn, 1) := by decide +kernel
theorem dX0_clashes_0 : decode mX0_clashes.2.1 0 = .ok (.iconst 0, 1) := by decide +kernel
theorem dX0_clashes_1 : decode mX0_clashes.2.1 1 = .ok (.istore_n 1, 1) := by decide +kernel
theorem dX0_clashes_2 : decode mX0_clashes.2.1 2 = .ok (.iconst 0, 1) := by decide +kernel
theorem dX0_clashes_3 : decode mX0_clashes.2.1 3 = .ok (.istore_n 2, 1) := by decide +kernel
theorem dX0_clashes_4 : decode mX0_clashes.2.1 4 = .ok (.iload_n 2, 1) := by decide +kernel
theorem dX0_clashes_5 : decode mX0_clashes.2.1 5 = .ok (.aload_n 0, 1) := by decide +kernel
theorem dX0_clashes_6 : decode mX0_clashes.2.1 6 = .ok (.getfield 31, 3) := by decide +kernel
theorem dX0_clashes_9 : decode mX0_clashes.2.1 9 = .ok (.if_icmp .gt 64, 3) := by decide +kernel
theorem dX0_clashes_12 : decode mX0_clashes.2.1 12 = .ok (.iconst 0, 1) := by decide +kernel
theorem dX0_clashes_13 : decode mX0_clashes.2.1 13 = .ok (.istore_n 3, 1) := by decide +kernel
theorem dX0_clashes_14 : decode mX0_clashes.2.1 14 = .ok (.iload_n 3, 1) := by decide +kernel
theorem dX0_clashes_15 : decode mX0_clashes.2.1 15 = .ok (.aload_n 0, 1) := by decide +kernel
theorem dX0_clashes_16 : decode mX0_clashes.2.1 16 = .ok (.getfield 27, 3) := by decide +kernel
theorem dX0_clashes_19 : decode mX0_clashes.2.1 19 = .ok (.if_icmp .ge 48, 3) := by decide +kernel
theorem dX0_clashes_22 : decode mX0_clashes.2.1 22 = .ok (.iload_n 3, 1) := by decide +kernel
theorem dX0_clashes_23 : decode mX0_clashes.2.1 23 = .ok (.iconst 1, 1) := by decide +kernel
theorem dX0_clashes_24 : decode mX0_clashes.2.1 24 = .ok (.iadd, 1) := by decide +kernel
theorem dX0_clashes_25 : decode mX0_clashes.2.1 25 = .ok (.istore 4, 2) := by decide +kernel
theorem dX0_clashes_27 : decode mX0_clashes.2.1 27 = .ok (.iload 4, 2) := by decide +kernel
theorem dX0_clashes_29 : decode mX0_clashes.2.1 29 = .ok (.aload_n 0, 1) := by decide +kernel
theorem dX0_clashes_30 : decode mX0_clashes.2.1 30 = .ok (.getfield 27, 3) := by decide +kernel
theorem dX0_clashes_33 : decode mX0_clashes.2.1 33 = .ok (.if_icmp .ge 28, 3) := by decide +kernel
theorem dX0_clashes_36 : decode mX0_clashes.2.1 36 = .ok (.iload_n 1, 1) := by decide +kernel
theorem dX0_clashes_37 : decode mX0_clashes.2.1 37 = .ok (.aload_n 0, 1) := by decide +kernel
theorem dX0_clashes_38 : decode mX0_clashes.2.1 38 = .ok (.iload_n 2, 1) := by decide +kernel
theorem dX0_clashes_39 : decode mX0_clashes.2.1 39 = .ok (.iload_n 3, 1) := by decide +kernel
theorem dX0_clashes_40 : decode mX0_clashes.2.1 40 = .ok (.iload 4, 2) := by decide +kernel
theorem dX0_clashes_42 : decode mX0_clashes.2.1 42 = .ok (.invokevirtual 59, 3) := by decide +kernel
theorem dX0_clashes_45 : decode mX0_clashes.2.1 45 = .ok (.ifCond .eq 7, 3) := by decide +kernel
theorem dX0_clashes_48 : decode mX0_clashes.2.1 48 = .ok (.iconst 1, 1) := by decide +kernel
theorem dX0_clashes_49 : decode mX0_clashes.2.1 49 = .ok (.goto 4, 3) := by decide +kernel
theorem dX0_clashes_52 : decode mX0_clashes.2.1 52 = .ok (.iconst 0, 1) := by decide +kernel
theorem dX0_clashes_53 : decode mX0_clashes.2.1 53 = .ok (.iadd, 1) := by decide +kernel
theorem dX0_clashes_54 : decode mX0_clashes.2.1 54 = .ok (.istore_n 1, 1) := by decide +kernel
theorem dX0_clashes_55 : decode mX0_clashes.2.1 55 = .ok (.iinc 4 1, 3) := by decide +kernel
theorem dX0_clashes_58 : decode mX0_clashes.2.1 58 = .ok (.goto (-31), 3) := by decide +kernel
theorem dX0_clashes_61 : decode mX0_clashes.2.1 61 = .ok (.iinc 3 1, 3) := by decide +kernel
theorem dX0_clashes_64 : decode mX0_clashes.2.1 64 = .ok (.goto (-50), 3) := by decide +kernel
theorem dX0_clashes_67 : decode mX0_clashes.2.1 67 = .ok (.iinc 2 1, 3) := by decide +kernel
theorem dX0_clashes_70 : decode mX0_clashes.2.1 70 = .ok (.goto (-66), 3) := by decide +kernel
theorem dX0_clashes_73 : decode mX0_clashes.2.1 73 = .ok (.iload_n 1, 1) := by decide +kernel
theorem dX0_clashes_74 : decode mX0_clashes.2.1 74 = .ok (.ireturn, 1) := by decide +kernel
theorem dX0_findClash_0 : decode mX0_findClash.2.1 0 = .ok (.iload_n 1, 1) := by decide +kernel
theorem dX0_findClash_1 : decode mX0_findClash.2.1 1 = .ok (.istore_n 2, 1) := by decide +kernel
theorem dX0_findClash_2 : decode mX0_findClash.2.1 2 = .ok (.iconst 0, 1) := by decide +kernel
theorem dX0_findClash_3 : decode mX0_findClash.2.1 3 = .ok (.istore_n 3, 1) := by decide +kernel
theorem dX0_findClash_4 : decode mX0_findClash.2.1 4 = .ok (.iload_n 3, 1) := by decide +kernel
theorem dX0_findClash_5 : decode mX0_findClash.2.1 5 = .ok (.aload_n 0, 1) := by decide +kernel
theorem dX0_findClash_6 : decode mX0_findClash.2.1 6 = .ok (.getfield 31, 3) := by decide +kernel
theorem dX0_findClash_9 : decode mX0_findClash.2.1 9 = .ok (.if_icmp .gt 85, 3) := by decide +kernel
theorem dX0_findClash_12 : decode mX0_findClash.2.1 12 = .ok (.iload_n 2, 1) := by decide +kernel
theorem dX0_findClash_13 : decode mX0_findClash.2.1 13 = .ok (.ifCond .lt 81, 3) := by decide +kernel
theorem dX0_findClash_16 : decode mX0_findClash.2.1 16 = .ok (.iconst 0, 1) := by decide +kernel
theorem dX0_findClash_17 : decode mX0_findClash.2.1 17 = .ok (.istore 4, 2) := by decide +kernel
theorem dX0_findClash_19 : decode mX0_findClash.2.1 19 = .ok (.iload 4, 2) := by decide +kernel
theorem dX0_findClash_21 : decode mX0_findClash.2.1 21 = .ok (.aload_n 0, 1) := by decide +kernel
theorem dX0_findClash_22 : decode mX0_findClash.2.1 22 = .ok (.getfield 27, 3) := by decide +kernel
theorem dX0_findClash_25 : decode mX0_findClash.2.1 25 = .ok (.if_icmp .ge 63, 3) := by decide +kernel
theorem dX0_findClash_28 : decode mX0_findClash.2.1 28 = .ok (.iload 4, 2) := by decide +kernel
theorem dX0_findClash_30 : decode mX0_findClash.2.1 30 = .ok (.iconst 1, 1) := by decide +kernel
theorem dX0_findClash_31 : decode mX0_findClash.2.1 31 = .ok (.iadd, 1) := by decide +kernel
theorem dX0_findClash_32 : decode mX0_findClash.2.1 32 = .ok (.istore 5, 2) := by decide +kernel
theorem dX0_findClash_34 : decode mX0_findClash.2.1 34 = .ok (.iload 5, 2) := by decide +kernel
theorem dX0_findClash_36 : decode mX0_findClash.2.1 36 = .ok (.aload_n 0, 1) := by decide +kernel
theorem dX0_findClash_37 : decode mX0_findClash.2.1 37 = .ok (.getfield 27, 3) := by decide +kernel
theorem dX0_findClash_40 : decode mX0_findClash.2.1 40 = .ok (.if_icmp .ge 42, 3) := by decide +kernel
theorem dX0_findClash_43 : decode mX0_findClash.2.1 43 = .ok (.aload_n 0, 1) := by decide +kernel
theorem dX0_findClash_44 : decode mX0_findClash.2.1 44 = .ok (.iload_n 3, 1) := by decide +kernel
theorem dX0_findClash_45 : decode mX0_findClash.2.1 45 = .ok (.iload 4, 2) := by decide +kernel
theorem dX0_findClash_47 : decode mX0_findClash.2.1 47 = .ok (.iload 5, 2) := by decide +kernel
theorem dX0_findClash_49 : decode mX0_findClash.2.1 49 = .ok (.invokevirtual 59, 3) := by decide +kernel
theorem dX0_findClash_52 : decode mX0_findClash.2.1 52 = .ok (.ifCond .eq 24, 3) := by decide +kernel
theorem dX0_findClash_55 : decode mX0_findClash.2.1 55 = .ok (.iload_n 2, 1) := by decide +kernel
theorem dX0_findClash_56 : decode mX0_findClash.2.1 56 = .ok (.ifCond .ne 17, 3) := by decide +kernel
theorem dX0_findClash_59 : decode mX0_findClash.2.1 59 = .ok (.iload_n 3, 1) := by decide +kernel
theorem dX0_findClash_60 : decode mX0_findClash.2.1 60 = .ok (.bipush 20, 2) := by decide +kernel
theorem dX0_findClash_62 : decode mX0_findClash.2.1 62 = .ok (.imul, 1) := by decide +kernel
theorem dX0_findClash_63 : decode mX0_findClash.2.1 63 = .ok (.iload 4, 2) := by decide +kernel
theorem dX0_findClash_65 : decode mX0_findClash.2.1 65 = .ok (.iadd, 1) := by decide +kernel
theorem dX0_findClash_66 : decode mX0_findClash.2.1 66 = .ok (.bipush 20, 2) := by decide +kernel
theorem dX0_findClash_68 : decode mX0_findClash.2.1 68 = .ok (.imul, 1) := by decide +kernel
theorem dX0_findClash_69 : decode mX0_findClash.2.1 69 = .ok (.iload 5, 2) := by decide +kernel
theorem dX0_findClash_71 : decode mX0_findClash.2.1 71 = .ok (.iadd, 1) := by decide +kernel
theorem dX0_findClash_72 : decode mX0_findClash.2.1 72 = .ok (.ireturn, 1) := by decide +kernel
theorem dX0_findClash_73 : decode mX0_findClash.2.1 73 = .ok (.iinc 2 (-1), 3) := by decide +kernel
theorem dX0_findClash_76 : decode mX0_findClash.2.1 76 = .ok (.iinc 5 1, 3) := by decide +kernel
theorem dX0_findClash_79 : decode mX0_findClash.2.1 79 = .ok (.goto (-45), 3) := by decide +kernel
theorem dX0_findClash_82 : decode mX0_findClash.2.1 82 = .ok (.iinc 4 1, 3) := by decide +kernel
theorem dX0_findClash_85 : decode mX0_findClash.2.1 85 = .ok (.goto (-66), 3) := by decide +kernel
theorem dX0_findClash_88 : decode mX0_findClash.2.1 88 = .ok (.iinc 3 1, 3) := by decide +kernel
theorem dX0_findClash_91 : decode mX0_findClash.2.1 91 = .ok (.goto (-87), 3) := by decide +kernel
theorem dX0_findClash_94 : decode mX0_findClash.2.1 94 = .ok (.iconst (-1), 1) := by decide +kernel
theorem dX0_findClash_95 : decode mX0_findClash.2.1 95 = .ok (.ireturn, 1) := by decide +kernel
theorem dX0_countOfClash_0 : decode mX0_countOfClash.2.1 0 = .ok (.iload_n 0, 1) := by decide +kernel
theorem dX0_countOfClash_1 : decode mX0_countOfClash.2.1 1 = .ok (.sipush 400, 3) := by decide +kernel
theorem dX0_countOfClash_4 : decode mX0_countOfClash.2.1 4 = .ok (.idiv, 1) := by decide +kernel
theorem dX0_countOfClash_5 : decode mX0_countOfClash.2.1 5 = .ok (.ireturn, 1) := by decide +kernel
theorem dX0_lesserOfClash_0 : decode mX0_lesserOfClash.2.1 0 = .ok (.iload_n 0, 1) := by decide +kernel
theorem dX0_lesserOfClash_1 : decode mX0_lesserOfClash.2.1 1 = .ok (.bipush 20, 2) := by decide +kernel
theorem dX0_lesserOfClash_3 : decode mX0_lesserOfClash.2.1 3 = .ok (.idiv, 1) := by decide +kernel
theorem dX0_lesserOfClash_4 : decode mX0_lesserOfClash.2.1 4 = .ok (.bipush 20, 2) := by decide +kernel
theorem dX0_lesserOfClash_6 : decode mX0_lesserOfClash.2.1 6 = .ok (.irem, 1) := by decide +kernel
theorem dX0_lesserOfClash_7 : decode mX0_lesserOfClash.2.1 7 = .ok (.ireturn, 1) := by decide +kernel
theorem dX0_greaterOfClash_0 : decode mX0_greaterOfClash.2.1 0 = .ok (.iload_n 0, 1) := by decide +kernel
theorem dX0_greaterOfClash_1 : decode mX0_greaterOfClash.2.1 1 = .ok (.bipush 20, 2) := by decide +kernel
theorem dX0_greaterOfClash_3 : decode mX0_greaterOfClash.2.1 3 = .ok (.irem, 1) := by decide +kernel
theorem dX0_greaterOfClash_4 : decode mX0_greaterOfClash.2.1 4 = .ok (.ireturn, 1) := by decide +kernel
theorem dX0_meet_0 : decode mX0_meet.2.1 0 = .ok (.aload_n 0, 1) := by decide +kernel
theorem dX0_meet_1 : decode mX0_meet.2.1 1 = .ok (.iload_n 1, 1) := by decide +kernel
theorem dX0_meet_2 : decode mX0_meet.2.1 2 = .ok (.iload_n 2, 1) := by decide +kernel
theorem dX0_meet_3 : decode mX0_meet.2.1 3 = .ok (.invokevirtual 63, 3) := by decide +kernel
theorem dX0_meet_6 : decode mX0_meet.2.1 6 = .ok (.istore 4, 2) := by decide +kernel
theorem dX0_meet_8 : decode mX0_meet.2.1 8 = .ok (.aload_n 0, 1) := by decide +kernel
theorem dX0_meet_9 : decode mX0_meet.2.1 9 = .ok (.iload_n 1, 1) := by decide +kernel
theorem dX0_meet_10 : decode mX0_meet.2.1 10 = .ok (.iload_n 3, 1) := by decide +kernel
theorem dX0_meet_11 : decode mX0_meet.2.1 11 = .ok (.invokevirtual 63, 3) := by decide +kernel
theorem dX0_meet_14 : decode mX0_meet.2.1 14 = .ok (.istore 5, 2) := by decide +kernel
theorem dX0_meet_16 : decode mX0_meet.2.1 16 = .ok (.iload 4, 2) := by decide +kernel
theorem dX0_meet_18 : decode mX0_meet.2.1 18 = .ok (.iload 5, 2) := by decide +kernel
theorem dX0_meet_20 : decode mX0_meet.2.1 20 = .ok (.if_icmp .ne 5, 3) := by decide +kernel
theorem dX0_meet_23 : decode mX0_meet.2.1 23 = .ok (.iconst 1, 1) := by decide +kernel
theorem dX0_meet_24 : decode mX0_meet.2.1 24 = .ok (.ireturn, 1) := by decide +kernel
theorem dX0_meet_25 : decode mX0_meet.2.1 25 = .ok (.iload_n 1, 1) := by decide +kernel
theorem dX0_meet_26 : decode mX0_meet.2.1 26 = .ok (.ifCond .le 33, 3) := by decide +kernel
theorem dX0_meet_29 : decode mX0_meet.2.1 29 = .ok (.iload 4, 2) := by decide +kernel
theorem dX0_meet_31 : decode mX0_meet.2.1 31 = .ok (.aload_n 0, 1) := by decide +kernel
theorem dX0_meet_32 : decode mX0_meet.2.1 32 = .ok (.iload_n 1, 1) := by decide +kernel
theorem dX0_meet_33 : decode mX0_meet.2.1 33 = .ok (.iconst 1, 1) := by decide +kernel
theorem dX0_meet_34 : decode mX0_meet.2.1 34 = .ok (.isub, 1) := by decide +kernel
theorem dX0_meet_35 : decode mX0_meet.2.1 35 = .ok (.iload_n 3, 1) := by decide +kernel
theorem dX0_meet_36 : decode mX0_meet.2.1 36 = .ok (.invokevirtual 63, 3) := by decide +kernel
theorem dX0_meet_39 : decode mX0_meet.2.1 39 = .ok (.if_icmp .ne 20, 3) := by decide +kernel
theorem dX0_meet_42 : decode mX0_meet.2.1 42 = .ok (.iload 5, 2) := by decide +kernel
theorem dX0_meet_44 : decode mX0_meet.2.1 44 = .ok (.aload_n 0, 1) := by decide +kernel
theorem dX0_meet_45 : decode mX0_meet.2.1 45 = .ok (.iload_n 1, 1) := by decide +kernel
theorem dX0_meet_46 : decode mX0_meet.2.1 46 = .ok (.iconst 1, 1) := by decide +kernel
theorem dX0_meet_47 : decode mX0_meet.2.1 47 = .ok (.isub, 1) := by decide +kernel
theorem dX0_meet_48 : decode mX0_meet.2.1 48 = .ok (.iload_n 2, 1) := by decide +kernel
theorem dX0_meet_49 : decode mX0_meet.2.1 49 = .ok (.invokevirtual 63, 3) := by decide +kernel
theorem dX0_meet_52 : decode mX0_meet.2.1 52 = .ok (.if_icmp .ne 7, 3) := by decide +kernel
theorem dX0_meet_55 : decode mX0_meet.2.1 55 = .ok (.iconst 1, 1) := by decide +kernel
theorem dX0_meet_56 : decode mX0_meet.2.1 56 = .ok (.goto 4, 3) := by decide +kernel
theorem dX0_meet_59 : decode mX0_meet.2.1 59 = .ok (.iconst 0, 1) := by decide +kernel
theorem dX0_meet_60 : decode mX0_meet.2.1 60 = .ok (.ireturn, 1) := by decide +kernel
theorem dX0_hits_0 : decode mX0_hits.2.1 0 = .ok (.iconst 0, 1) := by decide +kernel
theorem dX0_hits_1 : decode mX0_hits.2.1 1 = .ok (.istore_n 2, 1) := by decide +kernel
theorem dX0_hits_2 : decode mX0_hits.2.1 2 = .ok (.iconst 0, 1) := by decide +kernel
theorem dX0_hits_3 : decode mX0_hits.2.1 3 = .ok (.istore_n 3, 1) := by decide +kernel
theorem dX0_hits_4 : decode mX0_hits.2.1 4 = .ok (.iload_n 3, 1) := by decide +kernel
theorem dX0_hits_5 : decode mX0_hits.2.1 5 = .ok (.aload_n 0, 1) := by decide +kernel
theorem dX0_hits_6 : decode mX0_hits.2.1 6 = .ok (.getfield 31, 3) := by decide +kernel
theorem dX0_hits_9 : decode mX0_hits.2.1 9 = .ok (.if_icmp .gt 56, 3) := by decide +kernel
theorem dX0_hits_12 : decode mX0_hits.2.1 12 = .ok (.iconst 0, 1) := by decide +kernel
theorem dX0_hits_13 : decode mX0_hits.2.1 13 = .ok (.istore 4, 2) := by decide +kernel
theorem dX0_hits_15 : decode mX0_hits.2.1 15 = .ok (.iload 4, 2) := by decide +kernel
theorem dX0_hits_17 : decode mX0_hits.2.1 17 = .ok (.aload_n 0, 1) := by decide +kernel
theorem dX0_hits_18 : decode mX0_hits.2.1 18 = .ok (.getfield 27, 3) := by decide +kernel
theorem dX0_hits_21 : decode mX0_hits.2.1 21 = .ok (.if_icmp .ge 38, 3) := by decide +kernel
theorem dX0_hits_24 : decode mX0_hits.2.1 24 = .ok (.iload_n 2, 1) := by decide +kernel
theorem dX0_hits_25 : decode mX0_hits.2.1 25 = .ok (.aload_n 1, 1) := by decide +kernel
theorem dX0_hits_26 : decode mX0_hits.2.1 26 = .ok (.aload_n 0, 1) := by decide +kernel
theorem dX0_hits_27 : decode mX0_hits.2.1 27 = .ok (.iload_n 3, 1) := by decide +kernel
theorem dX0_hits_28 : decode mX0_hits.2.1 28 = .ok (.iload 4, 2) := by decide +kernel
theorem dX0_hits_30 : decode mX0_hits.2.1 30 = .ok (.invokevirtual 66, 3) := by decide +kernel
theorem dX0_hits_33 : decode mX0_hits.2.1 33 = .ok (.aload_n 0, 1) := by decide +kernel
theorem dX0_hits_34 : decode mX0_hits.2.1 34 = .ok (.iload_n 3, 1) := by decide +kernel
theorem dX0_hits_35 : decode mX0_hits.2.1 35 = .ok (.iload 4, 2) := by decide +kernel
theorem dX0_hits_37 : decode mX0_hits.2.1 37 = .ok (.invokevirtual 69, 3) := by decide +kernel
theorem dX0_hits_40 : decode mX0_hits.2.1 40 = .ok (.invokevirtual 72, 3) := by decide +kernel
theorem dX0_hits_43 : decode mX0_hits.2.1 43 = .ok (.ifCond .eq 7, 3) := by decide +kernel
theorem dX0_hits_46 : decode mX0_hits.2.1 46 = .ok (.iconst 1, 1) := by decide +kernel
theorem dX0_hits_47 : decode mX0_hits.2.1 47 = .ok (.goto 4, 3) := by decide +kernel
theorem dX0_hits_50 : decode mX0_hits.2.1 50 = .ok (.iconst 0, 1) := by decide +kernel
theorem dX0_hits_51 : decode mX0_hits.2.1 51 = .ok (.iadd, 1) := by decide +kernel
theorem dX0_hits_52 : decode mX0_hits.2.1 52 = .ok (.istore_n 2, 1) := by decide +kernel
theorem dX0_hits_53 : decode mX0_hits.2.1 53 = .ok (.iinc 4 1, 3) := by decide +kernel
theorem dX0_hits_56 : decode mX0_hits.2.1 56 = .ok (.goto (-41), 3) := by decide +kernel
theorem dX0_hits_59 : decode mX0_hits.2.1 59 = .ok (.iinc 3 1, 3) := by decide +kernel
theorem dX0_hits_62 : decode mX0_hits.2.1 62 = .ok (.goto (-58), 3) := by decide +kernel
theorem dX0_hits_65 : decode mX0_hits.2.1 65 = .ok (.iload_n 2, 1) := by decide +kernel
theorem dX0_hits_66 : decode mX0_hits.2.1 66 = .ok (.ireturn, 1) := by decide +kernel
theorem dX0_stepsAbove_0 : decode mX0_stepsAbove.2.1 0 = .ok (.iconst 0, 1) := by decide +kernel
theorem dX0_stepsAbove_1 : decode mX0_stepsAbove.2.1 1 = .ok (.istore_n 2, 1) := by decide +kernel
theorem dX0_stepsAbove_2 : decode mX0_stepsAbove.2.1 2 = .ok (.iconst 1, 1) := by decide +kernel
theorem dX0_stepsAbove_3 : decode mX0_stepsAbove.2.1 3 = .ok (.istore_n 3, 1) := by decide +kernel
theorem dX0_stepsAbove_4 : decode mX0_stepsAbove.2.1 4 = .ok (.iload_n 3, 1) := by decide +kernel
theorem dX0_stepsAbove_5 : decode mX0_stepsAbove.2.1 5 = .ok (.aload_n 0, 1) := by decide +kernel
theorem dX0_stepsAbove_6 : decode mX0_stepsAbove.2.1 6 = .ok (.getfield 31, 3) := by decide +kernel
theorem dX0_stepsAbove_9 : decode mX0_stepsAbove.2.1 9 = .ok (.if_icmp .gt 46, 3) := by decide +kernel
theorem dX0_stepsAbove_12 : decode mX0_stepsAbove.2.1 12 = .ok (.iconst 0, 1) := by decide +kernel
theorem dX0_stepsAbove_13 : decode mX0_stepsAbove.2.1 13 = .ok (.istore 4, 2) := by decide +kernel
theorem dX0_stepsAbove_15 : decode mX0_stepsAbove.2.1 15 = .ok (.iload 4, 2) := by decide +kernel
theorem dX0_stepsAbove_17 : decode mX0_stepsAbove.2.1 17 = .ok (.aload_n 0, 1) := by decide +kernel
theorem dX0_stepsAbove_18 : decode mX0_stepsAbove.2.1 18 = .ok (.getfield 27, 3) := by decide +kernel
theorem dX0_stepsAbove_21 : decode mX0_stepsAbove.2.1 21 = .ok (.if_icmp .ge 28, 3) := by decide +kernel
theorem dX0_stepsAbove_24 : decode mX0_stepsAbove.2.1 24 = .ok (.iload_n 2, 1) := by decide +kernel
theorem dX0_stepsAbove_25 : decode mX0_stepsAbove.2.1 25 = .ok (.aload_n 0, 1) := by decide +kernel
theorem dX0_stepsAbove_26 : decode mX0_stepsAbove.2.1 26 = .ok (.iload_n 3, 1) := by decide +kernel
theorem dX0_stepsAbove_27 : decode mX0_stepsAbove.2.1 27 = .ok (.iload 4, 2) := by decide +kernel
theorem dX0_stepsAbove_29 : decode mX0_stepsAbove.2.1 29 = .ok (.invokevirtual 75, 3) := by decide +kernel
theorem dX0_stepsAbove_32 : decode mX0_stepsAbove.2.1 32 = .ok (.iload_n 1, 1) := by decide +kernel
theorem dX0_stepsAbove_33 : decode mX0_stepsAbove.2.1 33 = .ok (.if_icmp .le 7, 3) := by decide +kernel
theorem dX0_stepsAbove_36 : decode mX0_stepsAbove.2.1 36 = .ok (.iconst 1, 1) := by decide +kernel
theorem dX0_stepsAbove_37 : decode mX0_stepsAbove.2.1 37 = .ok (.goto 4, 3) := by decide +kernel
theorem dX0_stepsAbove_40 : decode mX0_stepsAbove.2.1 40 = .ok (.iconst 0, 1) := by decide +kernel
theorem dX0_stepsAbove_41 : decode mX0_stepsAbove.2.1 41 = .ok (.iadd, 1) := by decide +kernel
theorem dX0_stepsAbove_42 : decode mX0_stepsAbove.2.1 42 = .ok (.istore_n 2, 1) := by decide +kernel
theorem dX0_stepsAbove_43 : decode mX0_stepsAbove.2.1 43 = .ok (.iinc 4 1, 3) := by decide +kernel
theorem dX0_stepsAbove_46 : decode mX0_stepsAbove.2.1 46 = .ok (.goto (-31), 3) := by decide +kernel
theorem dX0_stepsAbove_49 : decode mX0_stepsAbove.2.1 49 = .ok (.iinc 3 1, 3) := by decide +kernel
theorem dX0_stepsAbove_52 : decode mX0_stepsAbove.2.1 52 = .ok (.goto (-48), 3) := by decide +kernel
theorem dX0_stepsAbove_55 : decode mX0_stepsAbove.2.1 55 = .ok (.iload_n 2, 1) := by decide +kernel
theorem dX0_stepsAbove_56 : decode mX0_stepsAbove.2.1 56 = .ok (.ireturn, 1) := by decide +kernel
theorem dX0_greatestStep_0 : decode mX0_greatestStep.2.1 0 = .ok (.iconst 0, 1) := by decide +kernel
theorem dX0_greatestStep_1 : decode mX0_greatestStep.2.1 1 = .ok (.istore_n 1, 1) := by decide +kernel
theorem dX0_greatestStep_2 : decode mX0_greatestStep.2.1 2 = .ok (.iconst 1, 1) := by decide +kernel
theorem dX0_greatestStep_3 : decode mX0_greatestStep.2.1 3 = .ok (.istore_n 2, 1) := by decide +kernel
theorem dX0_greatestStep_4 : decode mX0_greatestStep.2.1 4 = .ok (.iload_n 2, 1) := by decide +kernel
theorem dX0_greatestStep_5 : decode mX0_greatestStep.2.1 5 = .ok (.aload_n 0, 1) := by decide +kernel
theorem dX0_greatestStep_6 : decode mX0_greatestStep.2.1 6 = .ok (.getfield 31, 3) := by decide +kernel
theorem dX0_greatestStep_9 : decode mX0_greatestStep.2.1 9 = .ok (.if_icmp .gt 36, 3) := by decide +kernel
theorem dX0_greatestStep_12 : decode mX0_greatestStep.2.1 12 = .ok (.iconst 0, 1) := by decide +kernel
theorem dX0_greatestStep_13 : decode mX0_greatestStep.2.1 13 = .ok (.istore_n 3, 1) := by decide +kernel
theorem dX0_greatestStep_14 : decode mX0_greatestStep.2.1 14 = .ok (.iload_n 3, 1) := by decide +kernel
theorem dX0_greatestStep_15 : decode mX0_greatestStep.2.1 15 = .ok (.aload_n 0, 1) := by decide +kernel
theorem dX0_greatestStep_16 : decode mX0_greatestStep.2.1 16 = .ok (.getfield 27, 3) := by decide +kernel
theorem dX0_greatestStep_19 : decode mX0_greatestStep.2.1 19 = .ok (.if_icmp .ge 20, 3) := by decide +kernel
theorem dX0_greatestStep_22 : decode mX0_greatestStep.2.1 22 = .ok (.iload_n 1, 1) := by decide +kernel
theorem dX0_greatestStep_23 : decode mX0_greatestStep.2.1 23 = .ok (.aload_n 0, 1) := by decide +kernel
theorem dX0_greatestStep_24 : decode mX0_greatestStep.2.1 24 = .ok (.iload_n 2, 1) := by decide +kernel
theorem dX0_greatestStep_25 : decode mX0_greatestStep.2.1 25 = .ok (.iload_n 3, 1) := by decide +kernel
theorem dX0_greatestStep_26 : decode mX0_greatestStep.2.1 26 = .ok (.invokevirtual 75, 3) := by decide +kernel
theorem dX0_greatestStep_29 : decode mX0_greatestStep.2.1 29 = .ok (.invokestatic 78, 3) := by decide +kernel
theorem dX0_greatestStep_32 : decode mX0_greatestStep.2.1 32 = .ok (.istore_n 1, 1) := by decide +kernel
theorem dX0_greatestStep_33 : decode mX0_greatestStep.2.1 33 = .ok (.iinc 3 1, 3) := by decide +kernel
theorem dX0_greatestStep_36 : decode mX0_greatestStep.2.1 36 = .ok (.goto (-22), 3) := by decide +kernel
theorem dX0_greatestStep_39 : decode mX0_greatestStep.2.1 39 = .ok (.iinc 2 1, 3) := by decide +kernel
theorem dX0_greatestStep_42 : decode mX0_greatestStep.2.1 42 = .ok (.goto (-38), 3) := by decide +kernel
theorem dX0_greatestStep_45 : decode mX0_greatestStep.2.1 45 = .ok (.iload_n 1, 1) := by decide +kernel
theorem dX0_greatestStep_46 : decode mX0_greatestStep.2.1 46 = .ok (.ireturn, 1) := by decide +kernel
theorem dX0_stepSquare_0 : decode mX0_stepSquare.2.1 0 = .ok (.aload_n 0, 1) := by decide +kernel
theorem dX0_stepSquare_1 : decode mX0_stepSquare.2.1 1 = .ok (.iload_n 1, 1) := by decide +kernel
theorem dX0_stepSquare_2 : decode mX0_stepSquare.2.1 2 = .ok (.iload_n 2, 1) := by decide +kernel
theorem dX0_stepSquare_3 : decode mX0_stepSquare.2.1 3 = .ok (.invokevirtual 66, 3) := by decide +kernel
theorem dX0_stepSquare_6 : decode mX0_stepSquare.2.1 6 = .ok (.aload_n 0, 1) := by decide +kernel
theorem dX0_stepSquare_7 : decode mX0_stepSquare.2.1 7 = .ok (.iload_n 1, 1) := by decide +kernel
theorem dX0_stepSquare_8 : decode mX0_stepSquare.2.1 8 = .ok (.iconst 1, 1) := by decide +kernel
theorem dX0_stepSquare_9 : decode mX0_stepSquare.2.1 9 = .ok (.isub, 1) := by decide +kernel
theorem dX0_stepSquare_10 : decode mX0_stepSquare.2.1 10 = .ok (.iload_n 2, 1) := by decide +kernel
theorem dX0_stepSquare_11 : decode mX0_stepSquare.2.1 11 = .ok (.invokevirtual 66, 3) := by decide +kernel
theorem dX0_stepSquare_14 : decode mX0_stepSquare.2.1 14 = .ok (.isub, 1) := by decide +kernel
theorem dX0_stepSquare_15 : decode mX0_stepSquare.2.1 15 = .ok (.istore_n 3, 1) := by decide +kernel
theorem dX0_stepSquare_16 : decode mX0_stepSquare.2.1 16 = .ok (.aload_n 0, 1) := by decide +kernel
theorem dX0_stepSquare_17 : decode mX0_stepSquare.2.1 17 = .ok (.iload_n 1, 1) := by decide +kernel
theorem dX0_stepSquare_18 : decode mX0_stepSquare.2.1 18 = .ok (.iload_n 2, 1) := by decide +kernel
theorem dX0_stepSquare_19 : decode mX0_stepSquare.2.1 19 = .ok (.invokevirtual 69, 3) := by decide +kernel
theorem dX0_stepSquare_22 : decode mX0_stepSquare.2.1 22 = .ok (.aload_n 0, 1) := by decide +kernel
theorem dX0_stepSquare_23 : decode mX0_stepSquare.2.1 23 = .ok (.iload_n 1, 1) := by decide +kernel
theorem dX0_stepSquare_24 : decode mX0_stepSquare.2.1 24 = .ok (.iconst 1, 1) := by decide +kernel
theorem dX0_stepSquare_25 : decode mX0_stepSquare.2.1 25 = .ok (.isub, 1) := by decide +kernel
theorem dX0_stepSquare_26 : decode mX0_stepSquare.2.1 26 = .ok (.iload_n 2, 1) := by decide +kernel
theorem dX0_stepSquare_27 : decode mX0_stepSquare.2.1 27 = .ok (.invokevirtual 69, 3) := by decide +kernel
theorem dX0_stepSquare_30 : decode mX0_stepSquare.2.1 30 = .ok (.isub, 1) := by decide +kernel
theorem dX0_stepSquare_31 : decode mX0_stepSquare.2.1 31 = .ok (.istore 4, 2) := by decide +kernel
theorem dX0_stepSquare_33 : decode mX0_stepSquare.2.1 33 = .ok (.iload_n 3, 1) := by decide +kernel
theorem dX0_stepSquare_34 : decode mX0_stepSquare.2.1 34 = .ok (.iload_n 3, 1) := by decide +kernel
theorem dX0_stepSquare_35 : decode mX0_stepSquare.2.1 35 = .ok (.imul, 1) := by decide +kernel
theorem dX0_stepSquare_36 : decode mX0_stepSquare.2.1 36 = .ok (.iload 4, 2) := by decide +kernel
theorem dX0_stepSquare_38 : decode mX0_stepSquare.2.1 38 = .ok (.iload 4, 2) := by decide +kernel
theorem dX0_stepSquare_40 : decode mX0_stepSquare.2.1 40 = .ok (.imul, 1) := by decide +kernel
theorem dX0_stepSquare_41 : decode mX0_stepSquare.2.1 41 = .ok (.iadd, 1) := by decide +kernel
theorem dX0_stepSquare_42 : decode mX0_stepSquare.2.1 42 = .ok (.ireturn, 1) := by decide +kernel
theorem dX0_isDressed_0 : decode mX0_isDressed.2.1 0 = .ok (.iconst 0, 1) := by decide +kernel
theorem dX0_isDressed_1 : decode mX0_isDressed.2.1 1 = .ok (.istore_n 3, 1) := by decide +kernel
theorem dX0_isDressed_2 : decode mX0_isDressed.2.1 2 = .ok (.iconst 0, 1) := by decide +kernel
theorem dX0_isDressed_3 : decode mX0_isDressed.2.1 3 = .ok (.istore 4, 2) := by decide +kernel
theorem dX0_isDressed_5 : decode mX0_isDressed.2.1 5 = .ok (.iconst 0, 1) := by decide +kernel
theorem dX0_isDressed_6 : decode mX0_isDressed.2.1 6 = .ok (.istore 5, 2) := by decide +kernel
theorem dX0_isDressed_8 : decode mX0_isDressed.2.1 8 = .ok (.iconst 0, 1) := by decide +kernel
theorem dX0_isDressed_9 : decode mX0_isDressed.2.1 9 = .ok (.istore 6, 2) := by decide +kernel
theorem dX0_isDressed_11 : decode mX0_isDressed.2.1 11 = .ok (.iconst 0, 1) := by decide +kernel
theorem dX0_isDressed_12 : decode mX0_isDressed.2.1 12 = .ok (.istore 7, 2) := by decide +kernel
theorem dX0_isDressed_14 : decode mX0_isDressed.2.1 14 = .ok (.iload 7, 2) := by decide +kernel
theorem dX0_isDressed_16 : decode mX0_isDressed.2.1 16 = .ok (.aload_n 0, 1) := by decide +kernel
theorem dX0_isDressed_17 : decode mX0_isDressed.2.1 17 = .ok (.getfield 27, 3) := by decide +kernel
theorem dX0_isDressed_20 : decode mX0_isDressed.2.1 20 = .ok (.if_icmp .ge 96, 3) := by decide +kernel
theorem dX0_isDressed_23 : decode mX0_isDressed.2.1 23 = .ok (.iload_n 1, 1) := by decide +kernel
theorem dX0_isDressed_24 : decode mX0_isDressed.2.1 24 = .ok (.iload 7, 2) := by decide +kernel
theorem dX0_isDressed_26 : decode mX0_isDressed.2.1 26 = .ok (.iushr, 1) := by decide +kernel
theorem dX0_isDressed_27 : decode mX0_isDressed.2.1 27 = .ok (.iconst 1, 1) := by decide +kernel
theorem dX0_isDressed_28 : decode mX0_isDressed.2.1 28 = .ok (.iand, 1) := by decide +kernel
theorem dX0_isDressed_29 : decode mX0_isDressed.2.1 29 = .ok (.ifCond .eq 81, 3) := by decide +kernel
theorem dX0_isDressed_32 : decode mX0_isDressed.2.1 32 = .ok (.aload_n 0, 1) := by decide +kernel
theorem dX0_isDressed_33 : decode mX0_isDressed.2.1 33 = .ok (.iload_n 2, 1) := by decide +kernel
theorem dX0_isDressed_34 : decode mX0_isDressed.2.1 34 = .ok (.iload 7, 2) := by decide +kernel
theorem dX0_isDressed_36 : decode mX0_isDressed.2.1 36 = .ok (.invokevirtual 66, 3) := by decide +kernel
theorem dX0_isDressed_39 : decode mX0_isDressed.2.1 39 = .ok (.aload_n 0, 1) := by decide +kernel
theorem dX0_isDressed_40 : decode mX0_isDressed.2.1 40 = .ok (.iload_n 2, 1) := by decide +kernel
theorem dX0_isDressed_41 : decode mX0_isDressed.2.1 41 = .ok (.iload 4, 2) := by decide +kernel
theorem dX0_isDressed_43 : decode mX0_isDressed.2.1 43 = .ok (.invokevirtual 66, 3) := by decide +kernel
theorem dX0_isDressed_46 : decode mX0_isDressed.2.1 46 = .ok (.isub, 1) := by decide +kernel
theorem dX0_isDressed_47 : decode mX0_isDressed.2.1 47 = .ok (.istore 8, 2) := by decide +kernel
theorem dX0_isDressed_49 : decode mX0_isDressed.2.1 49 = .ok (.aload_n 0, 1) := by decide +kernel
theorem dX0_isDressed_50 : decode mX0_isDressed.2.1 50 = .ok (.iload_n 2, 1) := by decide +kernel
theorem dX0_isDressed_51 : decode mX0_isDressed.2.1 51 = .ok (.iload 7, 2) := by decide +kernel
theorem dX0_isDressed_53 : decode mX0_isDressed.2.1 53 = .ok (.invokevirtual 69, 3) := by decide +kernel
theorem dX0_isDressed_56 : decode mX0_isDressed.2.1 56 = .ok (.aload_n 0, 1) := by decide +kernel
theorem dX0_isDressed_57 : decode mX0_isDressed.2.1 57 = .ok (.iload_n 2, 1) := by decide +kernel
theorem dX0_isDressed_58 : decode mX0_isDressed.2.1 58 = .ok (.iload 4, 2) := by decide +kernel
theorem dX0_isDressed_60 : decode mX0_isDressed.2.1 60 = .ok (.invokevirtual 69, 3) := by decide +kernel
theorem dX0_isDressed_63 : decode mX0_isDressed.2.1 63 = .ok (.isub, 1) := by decide +kernel
theorem dX0_isDressed_64 : decode mX0_isDressed.2.1 64 = .ok (.istore 9, 2) := by decide +kernel
theorem dX0_isDressed_66 : decode mX0_isDressed.2.1 66 = .ok (.iload_n 3, 1) := by decide +kernel
theorem dX0_isDressed_67 : decode mX0_isDressed.2.1 67 = .ok (.iconst 1, 1) := by decide +kernel
theorem dX0_isDressed_68 : decode mX0_isDressed.2.1 68 = .ok (.if_icmp .ne 14, 3) := by decide +kernel
theorem dX0_isDressed_71 : decode mX0_isDressed.2.1 71 = .ok (.iload 8, 2) := by decide +kernel
theorem dX0_isDressed_73 : decode mX0_isDressed.2.1 73 = .ok (.istore 5, 2) := by decide +kernel
theorem dX0_isDressed_75 : decode mX0_isDressed.2.1 75 = .ok (.iload 9, 2) := by decide +kernel
theorem dX0_isDressed_77 : decode mX0_isDressed.2.1 77 = .ok (.istore 6, 2) := by decide +kernel
theorem dX0_isDressed_79 : decode mX0_isDressed.2.1 79 = .ok (.goto 24, 3) := by decide +kernel
theorem dX0_isDressed_82 : decode mX0_isDressed.2.1 82 = .ok (.iload_n 3, 1) := by decide +kernel
theorem dX0_isDressed_83 : decode mX0_isDressed.2.1 83 = .ok (.iconst 1, 1) := by decide +kernel
theorem dX0_isDressed_84 : decode mX0_isDressed.2.1 84 = .ok (.if_icmp .le 19, 3) := by decide +kernel
theorem dX0_isDressed_87 : decode mX0_isDressed.2.1 87 = .ok (.iload 8, 2) := by decide +kernel
theorem dX0_isDressed_89 : decode mX0_isDressed.2.1 89 = .ok (.iload 5, 2) := by decide +kernel
theorem dX0_isDressed_91 : decode mX0_isDressed.2.1 91 = .ok (.if_icmp .ne 10, 3) := by decide +kernel
theorem dX0_isDressed_94 : decode mX0_isDressed.2.1 94 = .ok (.iload 9, 2) := by decide +kernel
theorem dX0_isDressed_96 : decode mX0_isDressed.2.1 96 = .ok (.iload 6, 2) := by decide +kernel
theorem dX0_isDressed_98 : decode mX0_isDressed.2.1 98 = .ok (.if_icmp .eq 5, 3) := by decide +kernel
theorem dX0_isDressed_101 : decode mX0_isDressed.2.1 101 = .ok (.iconst 0, 1) := by decide +kernel
theorem dX0_isDressed_102 : decode mX0_isDressed.2.1 102 = .ok (.ireturn, 1) := by decide +kernel
theorem dX0_isDressed_103 : decode mX0_isDressed.2.1 103 = .ok (.iinc 3 1, 3) := by decide +kernel
theorem dX0_isDressed_106 : decode mX0_isDressed.2.1 106 = .ok (.iload 7, 2) := by decide +kernel
theorem dX0_isDressed_108 : decode mX0_isDressed.2.1 108 = .ok (.istore 4, 2) := by decide +kernel
theorem dX0_isDressed_110 : decode mX0_isDressed.2.1 110 = .ok (.iinc 7 1, 3) := by decide +kernel
theorem dX0_isDressed_113 : decode mX0_isDressed.2.1 113 = .ok (.goto (-99), 3) := by decide +kernel
theorem dX0_isDressed_116 : decode mX0_isDressed.2.1 116 = .ok (.iconst 1, 1) := by decide +kernel
theorem dX0_isDressed_117 : decode mX0_isDressed.2.1 117 = .ok (.ireturn, 1) := by decide +kernel
theorem dX0_likeness_0 : decode mX0_likeness.2.1 0 = .ok (.aload_n 0, 1) := by decide +kernel
theorem dX0_likeness_1 : decode mX0_likeness.2.1 1 = .ok (.aload_n 0, 1) := by decide +kernel
theorem dX0_likeness_2 : decode mX0_likeness.2.1 2 = .ok (.getfield 20, 3) := by decide +kernel
theorem dX0_likeness_5 : decode mX0_likeness.2.1 5 = .ok (.iload_n 2, 1) := by decide +kernel
theorem dX0_likeness_6 : decode mX0_likeness.2.1 6 = .ok (.iconst 0, 1) := by decide +kernel
theorem dX0_likeness_7 : decode mX0_likeness.2.1 7 = .ok (.invokevirtual 83, 3) := by decide +kernel
theorem dX0_likeness_10 : decode mX0_likeness.2.1 10 = .ok (.iconst 0, 1) := by decide +kernel
theorem dX0_likeness_11 : decode mX0_likeness.2.1 11 = .ok (.istore_n 3, 1) := by decide +kernel
theorem dX0_likeness_12 : decode mX0_likeness.2.1 12 = .ok (.iload_n 3, 1) := by decide +kernel
theorem dX0_likeness_13 : decode mX0_likeness.2.1 13 = .ok (.bipush 8, 2) := by decide +kernel
theorem dX0_likeness_15 : decode mX0_likeness.2.1 15 = .ok (.if_icmp .ge 28, 3) := by decide +kernel
theorem dX0_likeness_18 : decode mX0_likeness.2.1 18 = .ok (.aload_n 0, 1) := by decide +kernel
theorem dX0_likeness_19 : decode mX0_likeness.2.1 19 = .ok (.aload_n 0, 1) := by decide +kernel
theorem dX0_likeness_20 : decode mX0_likeness.2.1 20 = .ok (.getfield 17, 3) := by decide +kernel
theorem dX0_likeness_23 : decode mX0_likeness.2.1 23 = .ok (.iload_n 1, 1) := by decide +kernel
theorem dX0_likeness_24 : decode mX0_likeness.2.1 24 = .ok (.iload_n 3, 1) := by decide +kernel
theorem dX0_likeness_25 : decode mX0_likeness.2.1 25 = .ok (.invokevirtual 83, 3) := by decide +kernel
theorem dX0_likeness_28 : decode mX0_likeness.2.1 28 = .ok (.aload_n 0, 1) := by decide +kernel
theorem dX0_likeness_29 : decode mX0_likeness.2.1 29 = .ok (.invokevirtual 87, 3) := by decide +kernel
theorem dX0_likeness_32 : decode mX0_likeness.2.1 32 = .ok (.ifCond .eq 5, 3) := by decide +kernel
theorem dX0_likeness_35 : decode mX0_likeness.2.1 35 = .ok (.iload_n 3, 1) := by decide +kernel
theorem dX0_likeness_36 : decode mX0_likeness.2.1 36 = .ok (.ireturn, 1) := by decide +kernel
theorem dX0_likeness_37 : decode mX0_likeness.2.1 37 = .ok (.iinc 3 1, 3) := by decide +kernel
theorem dX0_likeness_40 : decode mX0_likeness.2.1 40 = .ok (.goto (-28), 3) := by decide +kernel
theorem dX0_likeness_43 : decode mX0_likeness.2.1 43 = .ok (.iconst (-1), 1) := by decide +kernel
theorem dX0_likeness_44 : decode mX0_likeness.2.1 44 = .ok (.ireturn, 1) := by decide +kernel
theorem dX0_sameFigure_0 : decode mX0_sameFigure.2.1 0 = .ok (.iconst 0, 1) := by decide +kernel
theorem dX0_sameFigure_1 : decode mX0_sameFigure.2.1 1 = .ok (.istore_n 1, 1) := by decide +kernel
theorem dX0_sameFigure_2 : decode mX0_sameFigure.2.1 2 = .ok (.iload_n 1, 1) := by decide +kernel
theorem dX0_sameFigure_3 : decode mX0_sameFigure.2.1 3 = .ok (.aload_n 0, 1) := by decide +kernel
theorem dX0_sameFigure_4 : decode mX0_sameFigure.2.1 4 = .ok (.getfield 27, 3) := by decide +kernel
theorem dX0_sameFigure_7 : decode mX0_sameFigure.2.1 7 = .ok (.if_icmp .ge 26, 3) := by decide +kernel
theorem dX0_sameFigure_10 : decode mX0_sameFigure.2.1 10 = .ok (.aload_n 0, 1) := by decide +kernel
theorem dX0_sameFigure_11 : decode mX0_sameFigure.2.1 11 = .ok (.getfield 17, 3) := by decide +kernel
theorem dX0_sameFigure_14 : decode mX0_sameFigure.2.1 14 = .ok (.iload_n 1, 1) := by decide +kernel
theorem dX0_sameFigure_15 : decode mX0_sameFigure.2.1 15 = .ok (.iaload, 1) := by decide +kernel
theorem dX0_sameFigure_16 : decode mX0_sameFigure.2.1 16 = .ok (.aload_n 0, 1) := by decide +kernel
theorem dX0_sameFigure_17 : decode mX0_sameFigure.2.1 17 = .ok (.getfield 20, 3) := by decide +kernel
theorem dX0_sameFigure_20 : decode mX0_sameFigure.2.1 20 = .ok (.iload_n 1, 1) := by decide +kernel
theorem dX0_sameFigure_21 : decode mX0_sameFigure.2.1 21 = .ok (.iaload, 1) := by decide +kernel
theorem dX0_sameFigure_22 : decode mX0_sameFigure.2.1 22 = .ok (.if_icmp .eq 5, 3) := by decide +kernel
theorem dX0_sameFigure_25 : decode mX0_sameFigure.2.1 25 = .ok (.iconst 0, 1) := by decide +kernel
theorem dX0_sameFigure_26 : decode mX0_sameFigure.2.1 26 = .ok (.ireturn, 1) := by decide +kernel
theorem dX0_sameFigure_27 : decode mX0_sameFigure.2.1 27 = .ok (.iinc 1 1, 3) := by decide +kernel
theorem dX0_sameFigure_30 : decode mX0_sameFigure.2.1 30 = .ok (.goto (-28), 3) := by decide +kernel
theorem dX0_sameFigure_33 : decode mX0_sameFigure.2.1 33 = .ok (.iconst 1, 1) := by decide +kernel
theorem dX0_sameFigure_34 : decode mX0_sameFigure.2.1 34 = .ok (.ireturn, 1) := by decide +kernel
theorem dX0_layFigure_0 : decode mX0_layFigure.2.1 0 = .ok (.bipush 60, 2) := by decide +kernel
theorem dX0_layFigure_2 : decode mX0_layFigure.2.1 2 = .ok (.istore 4, 2) := by decide +kernel
theorem dX0_layFigure_4 : decode mX0_layFigure.2.1 4 = .ok (.bipush 60, 2) := by decide +kernel
theorem dX0_layFigure_6 : decode mX0_layFigure.2.1 6 = .ok (.istore 5, 2) := by decide +kernel
theorem dX0_layFigure_8 : decode mX0_layFigure.2.1 8 = .ok (.iconst 0, 1) := by decide +kernel
theorem dX0_layFigure_9 : decode mX0_layFigure.2.1 9 = .ok (.istore 6, 2) := by decide +kernel
theorem dX0_layFigure_11 : decode mX0_layFigure.2.1 11 = .ok (.iload 6, 2) := by decide +kernel
theorem dX0_layFigure_13 : decode mX0_layFigure.2.1 13 = .ok (.aload_n 0, 1) := by decide +kernel
theorem dX0_layFigure_14 : decode mX0_layFigure.2.1 14 = .ok (.getfield 27, 3) := by decide +kernel
theorem dX0_layFigure_17 : decode mX0_layFigure.2.1 17 = .ok (.if_icmp .ge 39, 3) := by decide +kernel
theorem dX0_layFigure_20 : decode mX0_layFigure.2.1 20 = .ok (.iload 4, 2) := by decide +kernel
theorem dX0_layFigure_22 : decode mX0_layFigure.2.1 22 = .ok (.aload_n 0, 1) := by decide +kernel
theorem dX0_layFigure_23 : decode mX0_layFigure.2.1 23 = .ok (.iload_n 2, 1) := by decide +kernel
theorem dX0_layFigure_24 : decode mX0_layFigure.2.1 24 = .ok (.iload 6, 2) := by decide +kernel
theorem dX0_layFigure_26 : decode mX0_layFigure.2.1 26 = .ok (.iload_n 3, 1) := by decide +kernel
theorem dX0_layFigure_27 : decode mX0_layFigure.2.1 27 = .ok (.invokevirtual 91, 3) := by decide +kernel
theorem dX0_layFigure_30 : decode mX0_layFigure.2.1 30 = .ok (.invokestatic 95, 3) := by decide +kernel
theorem dX0_layFigure_33 : decode mX0_layFigure.2.1 33 = .ok (.istore 4, 2) := by decide +kernel
theorem dX0_layFigure_35 : decode mX0_layFigure.2.1 35 = .ok (.iload 5, 2) := by decide +kernel
theorem dX0_layFigure_37 : decode mX0_layFigure.2.1 37 = .ok (.aload_n 0, 1) := by decide +kernel
theorem dX0_layFigure_38 : decode mX0_layFigure.2.1 38 = .ok (.iload_n 2, 1) := by decide +kernel
theorem dX0_layFigure_39 : decode mX0_layFigure.2.1 39 = .ok (.iload 6, 2) := by decide +kernel
theorem dX0_layFigure_41 : decode mX0_layFigure.2.1 41 = .ok (.iload_n 3, 1) := by decide +kernel
theorem dX0_layFigure_42 : decode mX0_layFigure.2.1 42 = .ok (.invokevirtual 98, 3) := by decide +kernel
theorem dX0_layFigure_45 : decode mX0_layFigure.2.1 45 = .ok (.invokestatic 95, 3) := by decide +kernel
theorem dX0_layFigure_48 : decode mX0_layFigure.2.1 48 = .ok (.istore 5, 2) := by decide +kernel
theorem dX0_layFigure_50 : decode mX0_layFigure.2.1 50 = .ok (.iinc 6 1, 3) := by decide +kernel
theorem dX0_layFigure_53 : decode mX0_layFigure.2.1 53 = .ok (.goto (-42), 3) := by decide +kernel
theorem dX0_layFigure_56 : decode mX0_layFigure.2.1 56 = .ok (.iconst 0, 1) := by decide +kernel
theorem dX0_layFigure_57 : decode mX0_layFigure.2.1 57 = .ok (.istore 6, 2) := by decide +kernel
theorem dX0_layFigure_59 : decode mX0_layFigure.2.1 59 = .ok (.iload 6, 2) := by decide +kernel
theorem dX0_layFigure_61 : decode mX0_layFigure.2.1 61 = .ok (.aload_n 0, 1) := by decide +kernel
theorem dX0_layFigure_62 : decode mX0_layFigure.2.1 62 = .ok (.getfield 27, 3) := by decide +kernel
theorem dX0_layFigure_65 : decode mX0_layFigure.2.1 65 = .ok (.if_icmp .ge 49, 3) := by decide +kernel
theorem dX0_layFigure_68 : decode mX0_layFigure.2.1 68 = .ok (.aload_n 0, 1) := by decide +kernel
theorem dX0_layFigure_69 : decode mX0_layFigure.2.1 69 = .ok (.iload_n 2, 1) := by decide +kernel
theorem dX0_layFigure_70 : decode mX0_layFigure.2.1 70 = .ok (.iload 6, 2) := by decide +kernel
theorem dX0_layFigure_72 : decode mX0_layFigure.2.1 72 = .ok (.iload_n 3, 1) := by decide +kernel
theorem dX0_layFigure_73 : decode mX0_layFigure.2.1 73 = .ok (.invokevirtual 91, 3) := by decide +kernel
theorem dX0_layFigure_76 : decode mX0_layFigure.2.1 76 = .ok (.iload 4, 2) := by decide +kernel
theorem dX0_layFigure_78 : decode mX0_layFigure.2.1 78 = .ok (.isub, 1) := by decide +kernel
theorem dX0_layFigure_79 : decode mX0_layFigure.2.1 79 = .ok (.istore 7, 2) := by decide +kernel
theorem dX0_layFigure_81 : decode mX0_layFigure.2.1 81 = .ok (.aload_n 0, 1) := by decide +kernel
theorem dX0_layFigure_82 : decode mX0_layFigure.2.1 82 = .ok (.iload_n 2, 1) := by decide +kernel
theorem dX0_layFigure_83 : decode mX0_layFigure.2.1 83 = .ok (.iload 6, 2) := by decide +kernel
theorem dX0_layFigure_85 : decode mX0_layFigure.2.1 85 = .ok (.iload_n 3, 1) := by decide +kernel
theorem dX0_layFigure_86 : decode mX0_layFigure.2.1 86 = .ok (.invokevirtual 98, 3) := by decide +kernel
theorem dX0_layFigure_89 : decode mX0_layFigure.2.1 89 = .ok (.iload 5, 2) := by decide +kernel
theorem dX0_layFigure_91 : decode mX0_layFigure.2.1 91 = .ok (.isub, 1) := by decide +kernel
theorem dX0_layFigure_92 : decode mX0_layFigure.2.1 92 = .ok (.istore 8, 2) := by decide +kernel
theorem dX0_layFigure_94 : decode mX0_layFigure.2.1 94 = .ok (.aload_n 1, 1) := by decide +kernel
theorem dX0_layFigure_95 : decode mX0_layFigure.2.1 95 = .ok (.iload 6, 2) := by decide +kernel
theorem dX0_layFigure_97 : decode mX0_layFigure.2.1 97 = .ok (.iload 7, 2) := by decide +kernel
theorem dX0_layFigure_99 : decode mX0_layFigure.2.1 99 = .ok (.bipush 60, 2) := by decide +kernel
theorem dX0_layFigure_101 : decode mX0_layFigure.2.1 101 = .ok (.imul, 1) := by decide +kernel
theorem dX0_layFigure_102 : decode mX0_layFigure.2.1 102 = .ok (.iload 8, 2) := by decide +kernel
theorem dX0_layFigure_104 : decode mX0_layFigure.2.1 104 = .ok (.iadd, 1) := by decide +kernel
theorem dX0_layFigure_105 : decode mX0_layFigure.2.1 105 = .ok (.invokestatic 101, 3) := by decide +kernel
theorem dX0_layFigure_108 : decode mX0_layFigure.2.1 108 = .ok (.iinc 6 1, 3) := by decide +kernel
theorem dX0_layFigure_111 : decode mX0_layFigure.2.1 111 = .ok (.goto (-52), 3) := by decide +kernel
theorem dX0_layFigure_114 : decode mX0_layFigure.2.1 114 = .ok (.return_, 1) := by decide +kernel
theorem dX0_insert_0 : decode mX0_insert.2.1 0 = .ok (.iload_n 1, 1) := by decide +kernel
theorem dX0_insert_1 : decode mX0_insert.2.1 1 = .ok (.istore_n 3, 1) := by decide +kernel
theorem dX0_insert_2 : decode mX0_insert.2.1 2 = .ok (.iload_n 1, 1) := by decide +kernel
theorem dX0_insert_3 : decode mX0_insert.2.1 3 = .ok (.istore 4, 2) := by decide +kernel
theorem dX0_insert_5 : decode mX0_insert.2.1 5 = .ok (.iload 4, 2) := by decide +kernel
theorem dX0_insert_7 : decode mX0_insert.2.1 7 = .ok (.ifCond .le 34, 3) := by decide +kernel
theorem dX0_insert_10 : decode mX0_insert.2.1 10 = .ok (.aload_n 0, 1) := by decide +kernel
theorem dX0_insert_11 : decode mX0_insert.2.1 11 = .ok (.iload 4, 2) := by decide +kernel
theorem dX0_insert_13 : decode mX0_insert.2.1 13 = .ok (.iconst 1, 1) := by decide +kernel
theorem dX0_insert_14 : decode mX0_insert.2.1 14 = .ok (.isub, 1) := by decide +kernel
theorem dX0_insert_15 : decode mX0_insert.2.1 15 = .ok (.iaload, 1) := by decide +kernel
theorem dX0_insert_16 : decode mX0_insert.2.1 16 = .ok (.iload_n 2, 1) := by decide +kernel
theorem dX0_insert_17 : decode mX0_insert.2.1 17 = .ok (.if_icmp .le 24, 3) := by decide +kernel
theorem dX0_insert_20 : decode mX0_insert.2.1 20 = .ok (.aload_n 0, 1) := by decide +kernel
theorem dX0_insert_21 : decode mX0_insert.2.1 21 = .ok (.iload 4, 2) := by decide +kernel
theorem dX0_insert_23 : decode mX0_insert.2.1 23 = .ok (.aload_n 0, 1) := by decide +kernel
theorem dX0_insert_24 : decode mX0_insert.2.1 24 = .ok (.iload 4, 2) := by decide +kernel
theorem dX0_insert_26 : decode mX0_insert.2.1 26 = .ok (.iconst 1, 1) := by decide +kernel
theorem dX0_insert_27 : decode mX0_insert.2.1 27 = .ok (.isub, 1) := by decide +kernel
theorem dX0_insert_28 : decode mX0_insert.2.1 28 = .ok (.iaload, 1) := by decide +kernel
theorem dX0_insert_29 : decode mX0_insert.2.1 29 = .ok (.iastore, 1) := by decide +kernel
theorem dX0_insert_30 : decode mX0_insert.2.1 30 = .ok (.iload 4, 2) := by decide +kernel
theorem dX0_insert_32 : decode mX0_insert.2.1 32 = .ok (.iconst 1, 1) := by decide +kernel
theorem dX0_insert_33 : decode mX0_insert.2.1 33 = .ok (.isub, 1) := by decide +kernel
theorem dX0_insert_34 : decode mX0_insert.2.1 34 = .ok (.istore_n 3, 1) := by decide +kernel
theorem dX0_insert_35 : decode mX0_insert.2.1 35 = .ok (.iinc 4 (-1), 3) := by decide +kernel
theorem dX0_insert_38 : decode mX0_insert.2.1 38 = .ok (.goto (-33), 3) := by decide +kernel
theorem dX0_insert_41 : decode mX0_insert.2.1 41 = .ok (.aload_n 0, 1) := by decide +kernel
theorem dX0_insert_42 : decode mX0_insert.2.1 42 = .ok (.iload_n 3, 1) := by decide +kernel
theorem dX0_insert_43 : decode mX0_insert.2.1 43 = .ok (.iload_n 2, 1) := by decide +kernel
theorem dX0_insert_44 : decode mX0_insert.2.1 44 = .ok (.iastore, 1) := by decide +kernel
theorem dX0_insert_45 : decode mX0_insert.2.1 45 = .ok (.return_, 1) := by decide +kernel
theorem dX0_movedEast_0 : decode mX0_movedEast.2.1 0 = .ok (.iload_n 3, 1) := by decide +kernel
theorem dX0_movedEast_1 : decode mX0_movedEast.2.1 1 = .ok (.iconst 4, 1) := by decide +kernel
theorem dX0_movedEast_2 : decode mX0_movedEast.2.1 2 = .ok (.if_icmp .lt 13, 3) := by decide +kernel
theorem dX0_movedEast_5 : decode mX0_movedEast.2.1 5 = .ok (.aload_n 0, 1) := by decide +kernel
theorem dX0_movedEast_6 : decode mX0_movedEast.2.1 6 = .ok (.iload_n 1, 1) := by decide +kernel
theorem dX0_movedEast_7 : decode mX0_movedEast.2.1 7 = .ok (.iload_n 2, 1) := by decide +kernel
theorem dX0_movedEast_8 : decode mX0_movedEast.2.1 8 = .ok (.invokevirtual 66, 3) := by decide +kernel
theorem dX0_movedEast_11 : decode mX0_movedEast.2.1 11 = .ok (.ineg, 1) := by decide +kernel
theorem dX0_movedEast_12 : decode mX0_movedEast.2.1 12 = .ok (.goto 9, 3) := by decide +kernel
theorem dX0_movedEast_15 : decode mX0_movedEast.2.1 15 = .ok (.aload_n 0, 1) := by decide +kernel
theorem dX0_movedEast_16 : decode mX0_movedEast.2.1 16 = .ok (.iload_n 1, 1) := by decide +kernel
theorem dX0_movedEast_17 : decode mX0_movedEast.2.1 17 = .ok (.iload_n 2, 1) := by decide +kernel
theorem dX0_movedEast_18 : decode mX0_movedEast.2.1 18 = .ok (.invokevirtual 66, 3) := by decide +kernel
theorem dX0_movedEast_21 : decode mX0_movedEast.2.1 21 = .ok (.istore 4, 2) := by decide +kernel
theorem dX0_movedEast_23 : decode mX0_movedEast.2.1 23 = .ok (.aload_n 0, 1) := by decide +kernel
theorem dX0_movedEast_24 : decode mX0_movedEast.2.1 24 = .ok (.iload_n 1, 1) := by decide +kernel
theorem dX0_movedEast_25 : decode mX0_movedEast.2.1 25 = .ok (.iload_n 2, 1) := by decide +kernel
theorem dX0_movedEast_26 : decode mX0_movedEast.2.1 26 = .ok (.invokevirtual 69, 3) := by decide +kernel
theorem dX0_movedEast_29 : decode mX0_movedEast.2.1 29 = .ok (.istore 5, 2) := by decide +kernel
theorem dX0_movedEast_31 : decode mX0_movedEast.2.1 31 = .ok (.iload_n 3, 1) := by decide +kernel
theorem dX0_movedEast_32 : decode mX0_movedEast.2.1 32 = .ok (.iconst 3, 1) := by decide +kernel
theorem dX0_movedEast_33 : decode mX0_movedEast.2.1 33 = .ok (.iand, 1) := by decide +kernel
theorem dX0_movedEast_34 : decode mX0_movedEast.2.1 34 = .ok (.tableswitch 36 0 2 #[26, 29, 32], 26) := by decide +kernel
theorem dX0_movedEast_60 : decode mX0_movedEast.2.1 60 = .ok (.iload 4, 2) := by decide +kernel
theorem dX0_movedEast_62 : decode mX0_movedEast.2.1 62 = .ok (.ireturn, 1) := by decide +kernel
theorem dX0_movedEast_63 : decode mX0_movedEast.2.1 63 = .ok (.iload 5, 2) := by decide +kernel
theorem dX0_movedEast_65 : decode mX0_movedEast.2.1 65 = .ok (.ireturn, 1) := by decide +kernel
theorem dX0_movedEast_66 : decode mX0_movedEast.2.1 66 = .ok (.iload 4, 2) := by decide +kernel
theorem dX0_movedEast_68 : decode mX0_movedEast.2.1 68 = .ok (.ineg, 1) := by decide +kernel
theorem dX0_movedEast_69 : decode mX0_movedEast.2.1 69 = .ok (.ireturn, 1) := by decide +kernel
theorem dX0_movedEast_70 : decode mX0_movedEast.2.1 70 = .ok (.iload 5, 2) := by decide +kernel
theorem dX0_movedEast_72 : decode mX0_movedEast.2.1 72 = .ok (.ineg, 1) := by decide +kernel
theorem dX0_movedEast_73 : decode mX0_movedEast.2.1 73 = .ok (.ireturn, 1) := by decide +kernel
theorem dX0_movedNorth_0 : decode mX0_movedNorth.2.1 0 = .ok (.aload_n 0, 1) := by decide +kernel
theorem dX0_movedNorth_1 : decode mX0_movedNorth.2.1 1 = .ok (.iload_n 1, 1) := by decide +kernel
theorem dX0_movedNorth_2 : decode mX0_movedNorth.2.1 2 = .ok (.iload_n 2, 1) := by decide +kernel
theorem dX0_movedNorth_3 : decode mX0_movedNorth.2.1 3 = .ok (.iload_n 3, 1) := by decide +kernel
theorem dX0_movedNorth_4 : decode mX0_movedNorth.2.1 4 = .ok (.iconst 4, 1) := by decide +kernel
theorem dX0_movedNorth_5 : decode mX0_movedNorth.2.1 5 = .ok (.iand, 1) := by decide +kernel
theorem dX0_movedNorth_6 : decode mX0_movedNorth.2.1 6 = .ok (.iload_n 3, 1) := by decide +kernel
theorem dX0_movedNorth_7 : decode mX0_movedNorth.2.1 7 = .ok (.iconst 1, 1) := by decide +kernel
theorem dX0_movedNorth_8 : decode mX0_movedNorth.2.1 8 = .ok (.iadd, 1) := by decide +kernel
theorem dX0_movedNorth_9 : decode mX0_movedNorth.2.1 9 = .ok (.iconst 3, 1) := by decide +kernel
theorem dX0_movedNorth_10 : decode mX0_movedNorth.2.1 10 = .ok (.iand, 1) := by decide +kernel
theorem dX0_movedNorth_11 : decode mX0_movedNorth.2.1 11 = .ok (.ior, 1) := by decide +kernel
theorem dX0_movedNorth_12 : decode mX0_movedNorth.2.1 12 = .ok (.invokevirtual 91, 3) := by decide +kernel
theorem dX0_movedNorth_15 : decode mX0_movedNorth.2.1 15 = .ok (.ireturn, 1) := by decide +kernel
theorem dX0_seenFrom_0 : decode mX0_seenFrom.2.1 0 = .ok (.iconst 0, 1) := by decide +kernel
theorem dX0_seenFrom_1 : decode mX0_seenFrom.2.1 1 = .ok (.istore 4, 2) := by decide +kernel
theorem dX0_seenFrom_3 : decode mX0_seenFrom.2.1 3 = .ok (.iconst 0, 1) := by decide +kernel
theorem dX0_seenFrom_4 : decode mX0_seenFrom.2.1 4 = .ok (.istore 5, 2) := by decide +kernel
theorem dX0_seenFrom_6 : decode mX0_seenFrom.2.1 6 = .ok (.iload 5, 2) := by decide +kernel
theorem dX0_seenFrom_8 : decode mX0_seenFrom.2.1 8 = .ok (.aload_n 0, 1) := by decide +kernel
theorem dX0_seenFrom_9 : decode mX0_seenFrom.2.1 9 = .ok (.getfield 27, 3) := by decide +kernel
theorem dX0_seenFrom_12 : decode mX0_seenFrom.2.1 12 = .ok (.if_icmp .ge 31, 3) := by decide +kernel
theorem dX0_seenFrom_15 : decode mX0_seenFrom.2.1 15 = .ok (.iload 4, 2) := by decide +kernel
theorem dX0_seenFrom_17 : decode mX0_seenFrom.2.1 17 = .ok (.aload_n 0, 1) := by decide +kernel
theorem dX0_seenFrom_18 : decode mX0_seenFrom.2.1 18 = .ok (.iload_n 1, 1) := by decide +kernel
theorem dX0_seenFrom_19 : decode mX0_seenFrom.2.1 19 = .ok (.iload 5, 2) := by decide +kernel
theorem dX0_seenFrom_21 : decode mX0_seenFrom.2.1 21 = .ok (.iload_n 2, 1) := by decide +kernel
theorem dX0_seenFrom_22 : decode mX0_seenFrom.2.1 22 = .ok (.iload_n 3, 1) := by decide +kernel
theorem dX0_seenFrom_23 : decode mX0_seenFrom.2.1 23 = .ok (.invokevirtual 104, 3) := by decide +kernel
theorem dX0_seenFrom_26 : decode mX0_seenFrom.2.1 26 = .ok (.ifCond .eq 7, 3) := by decide +kernel
theorem dX0_seenFrom_29 : decode mX0_seenFrom.2.1 29 = .ok (.iconst 1, 1) := by decide +kernel
theorem dX0_seenFrom_30 : decode mX0_seenFrom.2.1 30 = .ok (.goto 4, 3) := by decide +kernel
theorem dX0_seenFrom_33 : decode mX0_seenFrom.2.1 33 = .ok (.iconst 0, 1) := by decide +kernel
theorem dX0_seenFrom_34 : decode mX0_seenFrom.2.1 34 = .ok (.iadd, 1) := by decide +kernel
theorem dX0_seenFrom_35 : decode mX0_seenFrom.2.1 35 = .ok (.istore 4, 2) := by decide +kernel
theorem dX0_seenFrom_37 : decode mX0_seenFrom.2.1 37 = .ok (.iinc 5 1, 3) := by decide +kernel
theorem dX0_seenFrom_40 : decode mX0_seenFrom.2.1 40 = .ok (.goto (-34), 3) := by decide +kernel
theorem dX0_seenFrom_43 : decode mX0_seenFrom.2.1 43 = .ok (.iload 4, 2) := by decide +kernel
theorem dX0_seenFrom_45 : decode mX0_seenFrom.2.1 45 = .ok (.ireturn, 1) := by decide +kernel
theorem dX0_isSeen_0 : decode mX0_isSeen.2.1 0 = .ok (.aload_n 0, 1) := by decide +kernel
theorem dX0_isSeen_1 : decode mX0_isSeen.2.1 1 = .ok (.iload_n 1, 1) := by decide +kernel
theorem dX0_isSeen_2 : decode mX0_isSeen.2.1 2 = .ok (.iload_n 2, 1) := by decide +kernel
theorem dX0_isSeen_3 : decode mX0_isSeen.2.1 3 = .ok (.invokevirtual 66, 3) := by decide +kernel
theorem dX0_isSeen_6 : decode mX0_isSeen.2.1 6 = .ok (.iload_n 3, 1) := by decide +kernel
theorem dX0_isSeen_7 : decode mX0_isSeen.2.1 7 = .ok (.isub, 1) := by decide +kernel
theorem dX0_isSeen_8 : decode mX0_isSeen.2.1 8 = .ok (.istore 5, 2) := by decide +kernel
theorem dX0_isSeen_10 : decode mX0_isSeen.2.1 10 = .ok (.aload_n 0, 1) := by decide +kernel
theorem dX0_isSeen_11 : decode mX0_isSeen.2.1 11 = .ok (.iload_n 1, 1) := by decide +kernel
theorem dX0_isSeen_12 : decode mX0_isSeen.2.1 12 = .ok (.iload_n 2, 1) := by decide +kernel
theorem dX0_isSeen_13 : decode mX0_isSeen.2.1 13 = .ok (.invokevirtual 69, 3) := by decide +kernel
theorem dX0_isSeen_16 : decode mX0_isSeen.2.1 16 = .ok (.iload 4, 2) := by decide +kernel
theorem dX0_isSeen_18 : decode mX0_isSeen.2.1 18 = .ok (.iadd, 1) := by decide +kernel
theorem dX0_isSeen_19 : decode mX0_isSeen.2.1 19 = .ok (.istore 6, 2) := by decide +kernel
theorem dX0_isSeen_21 : decode mX0_isSeen.2.1 21 = .ok (.iconst 0, 1) := by decide +kernel
theorem dX0_isSeen_22 : decode mX0_isSeen.2.1 22 = .ok (.istore 7, 2) := by decide +kernel
theorem dX0_isSeen_24 : decode mX0_isSeen.2.1 24 = .ok (.iload 7, 2) := by decide +kernel
theorem dX0_isSeen_26 : decode mX0_isSeen.2.1 26 = .ok (.aload_n 0, 1) := by decide +kernel
theorem dX0_isSeen_27 : decode mX0_isSeen.2.1 27 = .ok (.getfield 27, 3) := by decide +kernel
theorem dX0_isSeen_30 : decode mX0_isSeen.2.1 30 = .ok (.if_icmp .ge 54, 3) := by decide +kernel
theorem dX0_isSeen_33 : decode mX0_isSeen.2.1 33 = .ok (.aload_n 0, 1) := by decide +kernel
theorem dX0_isSeen_34 : decode mX0_isSeen.2.1 34 = .ok (.iload_n 1, 1) := by decide +kernel
theorem dX0_isSeen_35 : decode mX0_isSeen.2.1 35 = .ok (.iload 7, 2) := by decide +kernel
theorem dX0_isSeen_37 : decode mX0_isSeen.2.1 37 = .ok (.invokevirtual 66, 3) := by decide +kernel
theorem dX0_isSeen_40 : decode mX0_isSeen.2.1 40 = .ok (.iload_n 3, 1) := by decide +kernel
theorem dX0_isSeen_41 : decode mX0_isSeen.2.1 41 = .ok (.isub, 1) := by decide +kernel
theorem dX0_isSeen_42 : decode mX0_isSeen.2.1 42 = .ok (.istore 8, 2) := by decide +kernel
theorem dX0_isSeen_44 : decode mX0_isSeen.2.1 44 = .ok (.aload_n 0, 1) := by decide +kernel
theorem dX0_isSeen_45 : decode mX0_isSeen.2.1 45 = .ok (.iload_n 1, 1) := by decide +kernel
theorem dX0_isSeen_46 : decode mX0_isSeen.2.1 46 = .ok (.iload 7, 2) := by decide +kernel
theorem dX0_isSeen_48 : decode mX0_isSeen.2.1 48 = .ok (.invokevirtual 69, 3) := by decide +kernel
theorem dX0_isSeen_51 : decode mX0_isSeen.2.1 51 = .ok (.iload 4, 2) := by decide +kernel
theorem dX0_isSeen_53 : decode mX0_isSeen.2.1 53 = .ok (.iadd, 1) := by decide +kernel
theorem dX0_isSeen_54 : decode mX0_isSeen.2.1 54 = .ok (.istore 9, 2) := by decide +kernel
theorem dX0_isSeen_56 : decode mX0_isSeen.2.1 56 = .ok (.iload 9, 2) := by decide +kernel
theorem dX0_isSeen_58 : decode mX0_isSeen.2.1 58 = .ok (.iload 6, 2) := by decide +kernel
theorem dX0_isSeen_60 : decode mX0_isSeen.2.1 60 = .ok (.if_icmp .ge 18, 3) := by decide +kernel
theorem dX0_isSeen_63 : decode mX0_isSeen.2.1 63 = .ok (.iload 8, 2) := by decide +kernel
theorem dX0_isSeen_65 : decode mX0_isSeen.2.1 65 = .ok (.iload 6, 2) := by decide +kernel
theorem dX0_isSeen_67 : decode mX0_isSeen.2.1 67 = .ok (.imul, 1) := by decide +kernel
theorem dX0_isSeen_68 : decode mX0_isSeen.2.1 68 = .ok (.iload 5, 2) := by decide +kernel
theorem dX0_isSeen_70 : decode mX0_isSeen.2.1 70 = .ok (.iload 9, 2) := by decide +kernel
theorem dX0_isSeen_72 : decode mX0_isSeen.2.1 72 = .ok (.imul, 1) := by decide +kernel
theorem dX0_isSeen_73 : decode mX0_isSeen.2.1 73 = .ok (.if_icmp .ne 5, 3) := by decide +kernel
theorem dX0_isSeen_76 : decode mX0_isSeen.2.1 76 = .ok (.iconst 0, 1) := by decide +kernel
theorem dX0_isSeen_77 : decode mX0_isSeen.2.1 77 = .ok (.ireturn, 1) := by decide +kernel
theorem dX0_isSeen_78 : decode mX0_isSeen.2.1 78 = .ok (.iinc 7 1, 3) := by decide +kernel
theorem dX0_isSeen_81 : decode mX0_isSeen.2.1 81 = .ok (.goto (-57), 3) := by decide +kernel
theorem dX0_isSeen_84 : decode mX0_isSeen.2.1 84 = .ok (.iconst 1, 1) := by decide +kernel
theorem dX0_isSeen_85 : decode mX0_isSeen.2.1 85 = .ok (.ireturn, 1) := by decide +kernel
theorem dX1_init_0 : decode mX1_init.2.1 0 = .ok (.aload_n 0, 1) := by decide +kernel
theorem dX1_init_1 : decode mX1_init.2.1 1 = .ok (.invokespecial 5, 3) := by decide +kernel
theorem dX1_init_4 : decode mX1_init.2.1 4 = .ok (.aload_n 0, 1) := by decide +kernel
theorem dX1_init_5 : decode mX1_init.2.1 5 = .ok (.iconst 0, 1) := by decide +kernel
theorem dX1_init_6 : decode mX1_init.2.1 6 = .ok (.putfield 11, 3) := by decide +kernel
theorem dX1_init_9 : decode mX1_init.2.1 9 = .ok (.aload_n 0, 1) := by decide +kernel
theorem dX1_init_10 : decode mX1_init.2.1 10 = .ok (.iconst (-1), 1) := by decide +kernel
theorem dX1_init_11 : decode mX1_init.2.1 11 = .ok (.putfield 15, 3) := by decide +kernel
theorem dX1_init_14 : decode mX1_init.2.1 14 = .ok (.aload_n 0, 1) := by decide +kernel
theorem dX1_init_15 : decode mX1_init.2.1 15 = .ok (.bipush 20, 2) := by decide +kernel
theorem dX1_init_17 : decode mX1_init.2.1 17 = .ok (.newarray .int, 2) := by decide +kernel
theorem dX1_init_19 : decode mX1_init.2.1 19 = .ok (.putfield 20, 3) := by decide +kernel
theorem dX1_init_22 : decode mX1_init.2.1 22 = .ok (.aload_n 0, 1) := by decide +kernel
theorem dX1_init_23 : decode mX1_init.2.1 23 = .ok (.bipush 20, 2) := by decide +kernel
theorem dX1_init_25 : decode mX1_init.2.1 25 = .ok (.newarray .int, 2) := by decide +kernel
theorem dX1_init_27 : decode mX1_init.2.1 27 = .ok (.putfield 24, 3) := by decide +kernel
theorem dX1_init_30 : decode mX1_init.2.1 30 = .ok (.aload_n 0, 1) := by decide +kernel
theorem dX1_init_31 : decode mX1_init.2.1 31 = .ok (.bipush 20, 2) := by decide +kernel
theorem dX1_init_33 : decode mX1_init.2.1 33 = .ok (.newarray .int, 2) := by decide +kernel
theorem dX1_init_35 : decode mX1_init.2.1 35 = .ok (.putfield 27, 3) := by decide +kernel
theorem dX1_init_38 : decode mX1_init.2.1 38 = .ok (.aload_n 0, 1) := by decide +kernel
theorem dX1_init_39 : decode mX1_init.2.1 39 = .ok (.iconst 0, 1) := by decide +kernel
theorem dX1_init_40 : decode mX1_init.2.1 40 = .ok (.putfield 30, 3) := by decide +kernel
theorem dX1_init_43 : decode mX1_init.2.1 43 = .ok (.aload_n 0, 1) := by decide +kernel
theorem dX1_init_44 : decode mX1_init.2.1 44 = .ok (.bipush 20, 2) := by decide +kernel
theorem dX1_init_46 : decode mX1_init.2.1 46 = .ok (.newarray .int, 2) := by decide +kernel
theorem dX1_init_48 : decode mX1_init.2.1 48 = .ok (.putfield 33, 3) := by decide +kernel
theorem dX1_init_51 : decode mX1_init.2.1 51 = .ok (.aload_n 0, 1) := by decide +kernel
theorem dX1_init_52 : decode mX1_init.2.1 52 = .ok (.iconst 3, 1) := by decide +kernel
theorem dX1_init_53 : decode mX1_init.2.1 53 = .ok (.newarray .int, 2) := by decide +kernel
theorem dX1_init_55 : decode mX1_init.2.1 55 = .ok (.putfield 36, 3) := by decide +kernel
theorem dX1_init_58 : decode mX1_init.2.1 58 = .ok (.aload_n 0, 1) := by decide +kernel
theorem dX1_init_59 : decode mX1_init.2.1 59 = .ok (.iconst 3, 1) := by decide +kernel
theorem dX1_init_60 : decode mX1_init.2.1 60 = .ok (.newarray .int, 2) := by decide +kernel
theorem dX1_init_62 : decode mX1_init.2.1 62 = .ok (.putfield 39, 3) := by decide +kernel
theorem dX1_init_65 : decode mX1_init.2.1 65 = .ok (.aload_n 0, 1) := by decide +kernel
theorem dX1_init_66 : decode mX1_init.2.1 66 = .ok (.iconst 0, 1) := by decide +kernel
theorem dX1_init_67 : decode mX1_init.2.1 67 = .ok (.putfield 42, 3) := by decide +kernel
theorem dX1_init_70 : decode mX1_init.2.1 70 = .ok (.aload_n 0, 1) := by decide +kernel
theorem dX1_init_71 : decode mX1_init.2.1 71 = .ok (.iconst 0, 1) := by decide +kernel
theorem dX1_init_72 : decode mX1_init.2.1 72 = .ok (.putfield 45, 3) := by decide +kernel
theorem dX1_init_75 : decode mX1_init.2.1 75 = .ok (.aload_n 0, 1) := by decide +kernel
theorem dX1_init_76 : decode mX1_init.2.1 76 = .ok (.iconst 0, 1) := by decide +kernel
theorem dX1_init_77 : decode mX1_init.2.1 77 = .ok (.putfield 48, 3) := by decide +kernel
theorem dX1_init_80 : decode mX1_init.2.1 80 = .ok (.aload_n 0, 1) := by decide +kernel
theorem dX1_init_81 : decode mX1_init.2.1 81 = .ok (.iconst 0, 1) := by decide +kernel
theorem dX1_init_82 : decode mX1_init.2.1 82 = .ok (.putfield 51, 3) := by decide +kernel
theorem dX1_init_85 : decode mX1_init.2.1 85 = .ok (.return_, 1) := by decide +kernel
theorem dX1_stepThrough_0 : decode mX1_stepThrough.2.1 0 = .ok (.aload_n 0, 1) := by decide +kernel
theorem dX1_stepThrough_1 : decode mX1_stepThrough.2.1 1 = .ok (.iconst 0, 1) := by decide +kernel
theorem dX1_stepThrough_2 : decode mX1_stepThrough.2.1 2 = .ok (.putfield 11, 3) := by decide +kernel
theorem dX1_stepThrough_5 : decode mX1_stepThrough.2.1 5 = .ok (.aload_n 0, 1) := by decide +kernel
theorem dX1_stepThrough_6 : decode mX1_stepThrough.2.1 6 = .ok (.iconst (-1), 1) := by decide +kernel
theorem dX1_stepThrough_7 : decode mX1_stepThrough.2.1 7 = .ok (.putfield 15, 3) := by decide +kernel
theorem dX1_stepThrough_10 : decode mX1_stepThrough.2.1 10 = .ok (.aload_n 0, 1) := by decide +kernel
theorem dX1_stepThrough_11 : decode mX1_stepThrough.2.1 11 = .ok (.getfield 33, 3) := by decide +kernel
theorem dX1_stepThrough_14 : decode mX1_stepThrough.2.1 14 = .ok (.iconst 0, 1) := by decide +kernel
theorem dX1_stepThrough_15 : decode mX1_stepThrough.2.1 15 = .ok (.invokestatic 54, 3) := by decide +kernel
theorem dX1_stepThrough_18 : decode mX1_stepThrough.2.1 18 = .ok (.aload_n 3, 1) := by decide +kernel
theorem dX1_stepThrough_19 : decode mX1_stepThrough.2.1 19 = .ok (.aload_n 2, 1) := by decide +kernel
theorem dX1_stepThrough_20 : decode mX1_stepThrough.2.1 20 = .ok (.invokevirtual 60, 3) := by decide +kernel
theorem dX1_stepThrough_23 : decode mX1_stepThrough.2.1 23 = .ok (.iconst 0, 1) := by decide +kernel
theorem dX1_stepThrough_24 : decode mX1_stepThrough.2.1 24 = .ok (.istore 4, 2) := by decide +kernel
theorem dX1_stepThrough_26 : decode mX1_stepThrough.2.1 26 = .ok (.iload 4, 2) := by decide +kernel
theorem dX1_stepThrough_28 : decode mX1_stepThrough.2.1 28 = .ok (.aload_n 1, 1) := by decide +kernel
theorem dX1_stepThrough_29 : decode mX1_stepThrough.2.1 29 = .ok (.getfield 66, 3) := by decide +kernel
theorem dX1_stepThrough_32 : decode mX1_stepThrough.2.1 32 = .ok (.if_icmp .ge 99, 3) := by decide +kernel
theorem dX1_stepThrough_35 : decode mX1_stepThrough.2.1 35 = .ok (.aload_n 0, 1) := by decide +kernel
theorem dX1_stepThrough_36 : decode mX1_stepThrough.2.1 36 = .ok (.getfield 11, 3) := by decide +kernel
theorem dX1_stepThrough_39 : decode mX1_stepThrough.2.1 39 = .ok (.ifCond .ne 92, 3) := by decide +kernel
theorem dX1_stepThrough_42 : decode mX1_stepThrough.2.1 42 = .ok (.aload_n 0, 1) := by decide +kernel
theorem dX1_stepThrough_43 : decode mX1_stepThrough.2.1 43 = .ok (.aload_n 1, 1) := by decide +kernel
theorem dX1_stepThrough_44 : decode mX1_stepThrough.2.1 44 = .ok (.getfield 71, 3) := by decide +kernel
theorem dX1_stepThrough_47 : decode mX1_stepThrough.2.1 47 = .ok (.iload 4, 2) := by decide +kernel
theorem dX1_stepThrough_49 : decode mX1_stepThrough.2.1 49 = .ok (.iaload, 1) := by decide +kernel
theorem dX1_stepThrough_50 : decode mX1_stepThrough.2.1 50 = .ok (.aload_n 3, 1) := by decide +kernel
theorem dX1_stepThrough_51 : decode mX1_stepThrough.2.1 51 = .ok (.getfield 74, 3) := by decide +kernel
theorem dX1_stepThrough_54 : decode mX1_stepThrough.2.1 54 = .ok (.invokevirtual 77, 3) := by decide +kernel
theorem dX1_stepThrough_57 : decode mX1_stepThrough.2.1 57 = .ok (.aload_n 0, 1) := by decide +kernel
theorem dX1_stepThrough_58 : decode mX1_stepThrough.2.1 58 = .ok (.aload_n 1, 1) := by decide +kernel
theorem dX1_stepThrough_59 : decode mX1_stepThrough.2.1 59 = .ok (.aload_n 3, 1) := by decide +kernel
theorem dX1_stepThrough_60 : decode mX1_stepThrough.2.1 60 = .ok (.aload_n 1, 1) := by decide +kernel
theorem dX1_stepThrough_61 : decode mX1_stepThrough.2.1 61 = .ok (.iload 4, 2) := by decide +kernel
theorem dX1_stepThrough_63 : decode mX1_stepThrough.2.1 63 = .ok (.invokevirtual 81, 3) := by decide +kernel
theorem dX1_stepThrough_66 : decode mX1_stepThrough.2.1 66 = .ok (.aload_n 1, 1) := by decide +kernel
theorem dX1_stepThrough_67 : decode mX1_stepThrough.2.1 67 = .ok (.getfield 85, 3) := by decide +kernel
theorem dX1_stepThrough_70 : decode mX1_stepThrough.2.1 70 = .ok (.iload 4, 2) := by decide +kernel
theorem dX1_stepThrough_72 : decode mX1_stepThrough.2.1 72 = .ok (.iaload, 1) := by decide +kernel
theorem dX1_stepThrough_73 : decode mX1_stepThrough.2.1 73 = .ok (.invokevirtual 88, 3) := by decide +kernel
theorem dX1_stepThrough_76 : decode mX1_stepThrough.2.1 76 = .ok (.iconst 0, 1) := by decide +kernel
theorem dX1_stepThrough_77 : decode mX1_stepThrough.2.1 77 = .ok (.istore 5, 2) := by decide +kernel
theorem dX1_stepThrough_79 : decode mX1_stepThrough.2.1 79 = .ok (.iload 5, 2) := by decide +kernel
theorem dX1_stepThrough_81 : decode mX1_stepThrough.2.1 81 = .ok (.aload_n 0, 1) := by decide +kernel
theorem dX1_stepThrough_82 : decode mX1_stepThrough.2.1 82 = .ok (.getfield 30, 3) := by decide +kernel
theorem dX1_stepThrough_85 : decode mX1_stepThrough.2.1 85 = .ok (.if_icmp .ge 25, 3) := by decide +kernel
theorem dX1_stepThrough_88 : decode mX1_stepThrough.2.1 88 = .ok (.aload_n 0, 1) := by decide +kernel
theorem dX1_stepThrough_89 : decode mX1_stepThrough.2.1 89 = .ok (.getfield 33, 3) := by decide +kernel
theorem dX1_stepThrough_92 : decode mX1_stepThrough.2.1 92 = .ok (.aload_n 0, 1) := by decide +kernel
theorem dX1_stepThrough_93 : decode mX1_stepThrough.2.1 93 = .ok (.getfield 20, 3) := by decide +kernel
theorem dX1_stepThrough_96 : decode mX1_stepThrough.2.1 96 = .ok (.iload 5, 2) := by decide +kernel
theorem dX1_stepThrough_98 : decode mX1_stepThrough.2.1 98 = .ok (.iaload, 1) := by decide +kernel
theorem dX1_stepThrough_99 : decode mX1_stepThrough.2.1 99 = .ok (.aload_n 0, 1) := by decide +kernel
theorem dX1_stepThrough_100 : decode mX1_stepThrough.2.1 100 = .ok (.getfield 45, 3) := by decide +kernel
theorem dX1_stepThrough_103 : decode mX1_stepThrough.2.1 103 = .ok (.iastore, 1) := by decide +kernel
theorem dX1_stepThrough_104 : decode mX1_stepThrough.2.1 104 = .ok (.iinc 5 1, 3) := by decide +kernel
theorem dX1_stepThrough_107 : decode mX1_stepThrough.2.1 107 = .ok (.goto (-28), 3) := by decide +kernel
theorem dX1_stepThrough_110 : decode mX1_stepThrough.2.1 110 = .ok (.aload_n 3, 1) := by decide +kernel
theorem dX1_stepThrough_111 : decode mX1_stepThrough.2.1 111 = .ok (.aload_n 3, 1) := by decide +kernel
theorem dX1_stepThrough_112 : decode mX1_stepThrough.2.1 112 = .ok (.getfield 92, 3) := by decide +kernel
theorem dX1_stepThrough_115 : decode mX1_stepThrough.2.1 115 = .ok (.aload_n 0, 1) := by decide +kernel
theorem dX1_stepThrough_116 : decode mX1_stepThrough.2.1 116 = .ok (.getfield 45, 3) := by decide +kernel
theorem dX1_stepThrough_119 : decode mX1_stepThrough.2.1 119 = .ok (.invokestatic 95, 3) := by decide +kernel
theorem dX1_stepThrough_122 : decode mX1_stepThrough.2.1 122 = .ok (.putfield 92, 3) := by decide +kernel
theorem dX1_stepThrough_125 : decode mX1_stepThrough.2.1 125 = .ok (.iinc 4 1, 3) := by decide +kernel
theorem dX1_stepThrough_128 : decode mX1_stepThrough.2.1 128 = .ok (.goto (-102), 3) := by decide +kernel
theorem dX1_stepThrough_131 : decode mX1_stepThrough.2.1 131 = .ok (.aload_n 0, 1) := by decide +kernel
theorem dX1_stepThrough_132 : decode mX1_stepThrough.2.1 132 = .ok (.getfield 11, 3) := by decide +kernel
theorem dX1_stepThrough_135 : decode mX1_stepThrough.2.1 135 = .ok (.ifCond .ne 13, 3) := by decide +kernel
theorem dX1_stepThrough_138 : decode mX1_stepThrough.2.1 138 = .ok (.aload_n 0, 1) := by decide +kernel
theorem dX1_stepThrough_139 : decode mX1_stepThrough.2.1 139 = .ok (.aload_n 3, 1) := by decide +kernel
theorem dX1_stepThrough_140 : decode mX1_stepThrough.2.1 140 = .ok (.invokevirtual 101, 3) := by decide +kernel
theorem dX1_stepThrough_143 : decode mX1_stepThrough.2.1 143 = .ok (.aload_n 3, 1) := by decide +kernel
theorem dX1_stepThrough_144 : decode mX1_stepThrough.2.1 144 = .ok (.iconst 1, 1) := by decide +kernel
theorem dX1_stepThrough_145 : decode mX1_stepThrough.2.1 145 = .ok (.putfield 105, 3) := by decide +kernel
theorem dX1_stepThrough_148 : decode mX1_stepThrough.2.1 148 = .ok (.return_, 1) := by decide +kernel
theorem dX1_gather_0 : decode mX1_gather.2.1 0 = .ok (.aload_n 0, 1) := by decide +kernel
theorem dX1_gather_1 : decode mX1_gather.2.1 1 = .ok (.iconst 0, 1) := by decide +kernel
theorem dX1_gather_2 : decode mX1_gather.2.1 2 = .ok (.putfield 30, 3) := by decide +kernel
theorem dX1_gather_5 : decode mX1_gather.2.1 5 = .ok (.iconst 0, 1) := by decide +kernel
theorem dX1_gather_6 : decode mX1_gather.2.1 6 = .ok (.istore_n 3, 1) := by decide +kernel
theorem dX1_gather_7 : decode mX1_gather.2.1 7 = .ok (.iload_n 3, 1) := by decide +kernel
theorem dX1_gather_8 : decode mX1_gather.2.1 8 = .ok (.iload_n 2, 1) := by decide +kernel
theorem dX1_gather_9 : decode mX1_gather.2.1 9 = .ok (.if_icmp .ge 37, 3) := by decide +kernel
theorem dX1_gather_12 : decode mX1_gather.2.1 12 = .ok (.iload_n 1, 1) := by decide +kernel
theorem dX1_gather_13 : decode mX1_gather.2.1 13 = .ok (.iload_n 3, 1) := by decide +kernel
theorem dX1_gather_14 : decode mX1_gather.2.1 14 = .ok (.iushr, 1) := by decide +kernel
theorem dX1_gather_15 : decode mX1_gather.2.1 15 = .ok (.iconst 1, 1) := by decide +kernel
theorem dX1_gather_16 : decode mX1_gather.2.1 16 = .ok (.iand, 1) := by decide +kernel
theorem dX1_gather_17 : decode mX1_gather.2.1 17 = .ok (.ifCond .eq 23, 3) := by decide +kernel
theorem dX1_gather_20 : decode mX1_gather.2.1 20 = .ok (.aload_n 0, 1) := by decide +kernel
theorem dX1_gather_21 : decode mX1_gather.2.1 21 = .ok (.getfield 20, 3) := by decide +kernel
theorem dX1_gather_24 : decode mX1_gather.2.1 24 = .ok (.aload_n 0, 1) := by decide +kernel
theorem dX1_gather_25 : decode mX1_gather.2.1 25 = .ok (.getfield 30, 3) := by decide +kernel
theorem dX1_gather_28 : decode mX1_gather.2.1 28 = .ok (.iload_n 3, 1) := by decide +kernel
theorem dX1_gather_29 : decode mX1_gather.2.1 29 = .ok (.iastore, 1) := by decide +kernel
theorem dX1_gather_30 : decode mX1_gather.2.1 30 = .ok (.aload_n 0, 1) := by decide +kernel
theorem dX1_gather_31 : decode mX1_gather.2.1 31 = .ok (.dup, 1) := by decide +kernel
theorem dX1_gather_32 : decode mX1_gather.2.1 32 = .ok (.getfield 30, 3) := by decide +kernel
theorem dX1_gather_35 : decode mX1_gather.2.1 35 = .ok (.iconst 1, 1) := by decide +kernel
theorem dX1_gather_36 : decode mX1_gather.2.1 36 = .ok (.iadd, 1) := by decide +kernel
theorem dX1_gather_37 : decode mX1_gather.2.1 37 = .ok (.putfield 30, 3) := by decide +kernel
theorem dX1_gather_40 : decode mX1_gather.2.1 40 = .ok (.iinc 3 1, 3) := by decide +kernel
theorem dX1_gather_43 : decode mX1_gather.2.1 43 = .ok (.goto (-36), 3) := by decide +kernel
theorem dX1_gather_46 : decode mX1_gather.2.1 46 = .ok (.return_, 1) := by decide +kernel
theorem dX1_stayBehind_0 : decode mX1_stayBehind.2.1 0 = .ok (.iconst 0, 1) := by decide +kernel
theorem dX1_stayBehind_1 : decode mX1_stayBehind.2.1 1 = .ok (.istore_n 2, 1) := by decide +kernel
theorem dX1_stayBehind_2 : decode mX1_stayBehind.2.1 2 = .ok (.iload_n 2, 1) := by decide +kernel
theorem dX1_stayBehind_3 : decode mX1_stayBehind.2.1 3 = .ok (.aload_n 1, 1) := by decide +kernel
theorem dX1_stayBehind_4 : decode mX1_stayBehind.2.1 4 = .ok (.getfield 74, 3) := by decide +kernel
theorem dX1_stayBehind_7 : decode mX1_stayBehind.2.1 7 = .ok (.if_icmp .ge 45, 3) := by decide +kernel
theorem dX1_stayBehind_10 : decode mX1_stayBehind.2.1 10 = .ok (.aload_n 0, 1) := by decide +kernel
theorem dX1_stayBehind_11 : decode mX1_stayBehind.2.1 11 = .ok (.getfield 33, 3) := by decide +kernel
theorem dX1_stayBehind_14 : decode mX1_stayBehind.2.1 14 = .ok (.iload_n 2, 1) := by decide +kernel
theorem dX1_stayBehind_15 : decode mX1_stayBehind.2.1 15 = .ok (.iaload, 1) := by decide +kernel
theorem dX1_stayBehind_16 : decode mX1_stayBehind.2.1 16 = .ok (.iconst 1, 1) := by decide +kernel
theorem dX1_stayBehind_17 : decode mX1_stayBehind.2.1 17 = .ok (.iadd, 1) := by decide +kernel
theorem dX1_stayBehind_18 : decode mX1_stayBehind.2.1 18 = .ok (.istore_n 3, 1) := by decide +kernel
theorem dX1_stayBehind_19 : decode mX1_stayBehind.2.1 19 = .ok (.iload_n 3, 1) := by decide +kernel
theorem dX1_stayBehind_20 : decode mX1_stayBehind.2.1 20 = .ok (.aload_n 1, 1) := by decide +kernel
theorem dX1_stayBehind_21 : decode mX1_stayBehind.2.1 21 = .ok (.getfield 92, 3) := by decide +kernel
theorem dX1_stayBehind_24 : decode mX1_stayBehind.2.1 24 = .ok (.if_icmp .gt 22, 3) := by decide +kernel
theorem dX1_stayBehind_27 : decode mX1_stayBehind.2.1 27 = .ok (.aload_n 1, 1) := by decide +kernel
theorem dX1_stayBehind_28 : decode mX1_stayBehind.2.1 28 = .ok (.aload_n 0, 1) := by decide +kernel
theorem dX1_stayBehind_29 : decode mX1_stayBehind.2.1 29 = .ok (.getfield 33, 3) := by decide +kernel
theorem dX1_stayBehind_32 : decode mX1_stayBehind.2.1 32 = .ok (.iload_n 2, 1) := by decide +kernel
theorem dX1_stayBehind_33 : decode mX1_stayBehind.2.1 33 = .ok (.iaload, 1) := by decide +kernel
theorem dX1_stayBehind_34 : decode mX1_stayBehind.2.1 34 = .ok (.iload_n 2, 1) := by decide +kernel
theorem dX1_stayBehind_35 : decode mX1_stayBehind.2.1 35 = .ok (.iload_n 3, 1) := by decide +kernel
theorem dX1_stayBehind_36 : decode mX1_stayBehind.2.1 36 = .ok (.iload_n 2, 1) := by decide +kernel
theorem dX1_stayBehind_37 : decode mX1_stayBehind.2.1 37 = .ok (.invokevirtual 109, 3) := by decide +kernel
theorem dX1_stayBehind_40 : decode mX1_stayBehind.2.1 40 = .ok (.iinc 3 1, 3) := by decide +kernel
theorem dX1_stayBehind_43 : decode mX1_stayBehind.2.1 43 = .ok (.goto (-24), 3) := by decide +kernel
theorem dX1_stayBehind_46 : decode mX1_stayBehind.2.1 46 = .ok (.iinc 2 1, 3) := by decide +kernel
theorem dX1_stayBehind_49 : decode mX1_stayBehind.2.1 49 = .ok (.goto (-47), 3) := by decide +kernel
theorem dX1_stayBehind_52 : decode mX1_stayBehind.2.1 52 = .ok (.return_, 1) := by decide +kernel
theorem dX1_doLine_0 : decode mX1_doLine.2.1 0 = .ok (.aload_n 0, 1) := by decide +kernel
theorem dX1_doLine_1 : decode mX1_doLine.2.1 1 = .ok (.iconst 0, 1) := by decide +kernel
theorem dX1_doLine_2 : decode mX1_doLine.2.1 2 = .ok (.putfield 45, 3) := by decide +kernel
theorem dX1_doLine_5 : decode mX1_doLine.2.1 5 = .ok (.aload_n 0, 1) := by decide +kernel
theorem dX1_doLine_6 : decode mX1_doLine.2.1 6 = .ok (.iconst 0, 1) := by decide +kernel
theorem dX1_doLine_7 : decode mX1_doLine.2.1 7 = .ok (.putfield 48, 3) := by decide +kernel
theorem dX1_doLine_10 : decode mX1_doLine.2.1 10 = .ok (.aload_n 0, 1) := by decide +kernel
theorem dX1_doLine_11 : decode mX1_doLine.2.1 11 = .ok (.iconst 0, 1) := by decide +kernel
theorem dX1_doLine_12 : decode mX1_doLine.2.1 12 = .ok (.putfield 51, 3) := by decide +kernel
theorem dX1_doLine_15 : decode mX1_doLine.2.1 15 = .ok (.aload_n 0, 1) := by decide +kernel
theorem dX1_doLine_16 : decode mX1_doLine.2.1 16 = .ok (.iconst 0, 1) := by decide +kernel
theorem dX1_doLine_17 : decode mX1_doLine.2.1 17 = .ok (.putfield 42, 3) := by decide +kernel
theorem dX1_doLine_20 : decode mX1_doLine.2.1 20 = .ok (.iload_n 3, 1) := by decide +kernel
theorem dX1_doLine_21 : decode mX1_doLine.2.1 21 = .ok (.istore 5, 2) := by decide +kernel
theorem dX1_doLine_23 : decode mX1_doLine.2.1 23 = .ok (.iconst 0, 1) := by decide +kernel
theorem dX1_doLine_24 : decode mX1_doLine.2.1 24 = .ok (.istore 6, 2) := by decide +kernel
theorem dX1_doLine_26 : decode mX1_doLine.2.1 26 = .ok (.iload 6, 2) := by decide +kernel
theorem dX1_doLine_28 : decode mX1_doLine.2.1 28 = .ok (.sipush 11000, 3) := by decide +kernel
theorem dX1_doLine_31 : decode mX1_doLine.2.1 31 = .ok (.if_icmp .ge 109, 3) := by decide +kernel
theorem dX1_doLine_34 : decode mX1_doLine.2.1 34 = .ok (.aload_n 0, 1) := by decide +kernel
theorem dX1_doLine_35 : decode mX1_doLine.2.1 35 = .ok (.getfield 11, 3) := by decide +kernel
theorem dX1_doLine_38 : decode mX1_doLine.2.1 38 = .ok (.ifCond .ne 102, 3) := by decide +kernel
theorem dX1_doLine_41 : decode mX1_doLine.2.1 41 = .ok (.aload_n 0, 1) := by decide +kernel
theorem dX1_doLine_42 : decode mX1_doLine.2.1 42 = .ok (.getfield 42, 3) := by decide +kernel
theorem dX1_doLine_45 : decode mX1_doLine.2.1 45 = .ok (.ifCond .le 35, 3) := by decide +kernel
theorem dX1_doLine_48 : decode mX1_doLine.2.1 48 = .ok (.iload 5, 2) := by decide +kernel
theorem dX1_doLine_50 : decode mX1_doLine.2.1 50 = .ok (.aload_n 1, 1) := by decide +kernel
theorem dX1_doLine_51 : decode mX1_doLine.2.1 51 = .ok (.getfield 113, 3) := by decide +kernel
theorem dX1_doLine_54 : decode mX1_doLine.2.1 54 = .ok (.aload_n 0, 1) := by decide +kernel
theorem dX1_doLine_55 : decode mX1_doLine.2.1 55 = .ok (.getfield 36, 3) := by decide +kernel
theorem dX1_doLine_58 : decode mX1_doLine.2.1 58 = .ok (.aload_n 0, 1) := by decide +kernel
theorem dX1_doLine_59 : decode mX1_doLine.2.1 59 = .ok (.getfield 42, 3) := by decide +kernel
theorem dX1_doLine_62 : decode mX1_doLine.2.1 62 = .ok (.iconst 1, 1) := by decide +kernel
theorem dX1_doLine_63 : decode mX1_doLine.2.1 63 = .ok (.isub, 1) := by decide +kernel
theorem dX1_doLine_64 : decode mX1_doLine.2.1 64 = .ok (.iaload, 1) := by decide +kernel
theorem dX1_doLine_65 : decode mX1_doLine.2.1 65 = .ok (.iaload, 1) := by decide +kernel
theorem dX1_doLine_66 : decode mX1_doLine.2.1 66 = .ok (.if_icmp .ne 14, 3) := by decide +kernel
theorem dX1_doLine_69 : decode mX1_doLine.2.1 69 = .ok (.aload_n 0, 1) := by decide +kernel
theorem dX1_doLine_70 : decode mX1_doLine.2.1 70 = .ok (.iload 5, 2) := by decide +kernel
theorem dX1_doLine_72 : decode mX1_doLine.2.1 72 = .ok (.invokevirtual 116, 3) := by decide +kernel
theorem dX1_doLine_75 : decode mX1_doLine.2.1 75 = .ok (.istore 5, 2) := by decide +kernel
theorem dX1_doLine_77 : decode mX1_doLine.2.1 77 = .ok (.goto 57, 3) := by decide +kernel
theorem dX1_doLine_80 : decode mX1_doLine.2.1 80 = .ok (.iload 5, 2) := by decide +kernel
theorem dX1_doLine_82 : decode mX1_doLine.2.1 82 = .ok (.iload 4, 2) := by decide +kernel
theorem dX1_doLine_84 : decode mX1_doLine.2.1 84 = .ok (.if_icmp .ge 56, 3) := by decide +kernel
theorem dX1_doLine_87 : decode mX1_doLine.2.1 87 = .ok (.aload_n 0, 1) := by decide +kernel
theorem dX1_doLine_88 : decode mX1_doLine.2.1 88 = .ok (.aload_n 1, 1) := by decide +kernel
theorem dX1_doLine_89 : decode mX1_doLine.2.1 89 = .ok (.getfield 119, 3) := by decide +kernel
theorem dX1_doLine_92 : decode mX1_doLine.2.1 92 = .ok (.iload 5, 2) := by decide +kernel
theorem dX1_doLine_94 : decode mX1_doLine.2.1 94 = .ok (.iaload, 1) := by decide +kernel
theorem dX1_doLine_95 : decode mX1_doLine.2.1 95 = .ok (.invokevirtual 122, 3) := by decide +kernel
theorem dX1_doLine_98 : decode mX1_doLine.2.1 98 = .ok (.aload_n 0, 1) := by decide +kernel
theorem dX1_doLine_99 : decode mX1_doLine.2.1 99 = .ok (.getfield 11, 3) := by decide +kernel
theorem dX1_doLine_102 : decode mX1_doLine.2.1 102 = .ok (.ifCond .ne 11, 3) := by decide +kernel
theorem dX1_doLine_105 : decode mX1_doLine.2.1 105 = .ok (.aload_n 0, 1) := by decide +kernel
theorem dX1_doLine_106 : decode mX1_doLine.2.1 106 = .ok (.aload_n 1, 1) := by decide +kernel
theorem dX1_doLine_107 : decode mX1_doLine.2.1 107 = .ok (.aload_n 2, 1) := by decide +kernel
theorem dX1_doLine_108 : decode mX1_doLine.2.1 108 = .ok (.iload 5, 2) := by decide +kernel
theorem dX1_doLine_110 : decode mX1_doLine.2.1 110 = .ok (.invokevirtual 126, 3) := by decide +kernel
theorem dX1_doLine_113 : decode mX1_doLine.2.1 113 = .ok (.aload_n 0, 1) := by decide +kernel
theorem dX1_doLine_114 : decode mX1_doLine.2.1 114 = .ok (.getfield 11, 3) := by decide +kernel
theorem dX1_doLine_117 : decode mX1_doLine.2.1 117 = .ok (.ifCond .eq 14, 3) := by decide +kernel
theorem dX1_doLine_120 : decode mX1_doLine.2.1 120 = .ok (.aload_n 0, 1) := by decide +kernel
theorem dX1_doLine_121 : decode mX1_doLine.2.1 121 = .ok (.aload_n 1, 1) := by decide +kernel
theorem dX1_doLine_122 : decode mX1_doLine.2.1 122 = .ok (.getfield 130, 3) := by decide +kernel
theorem dX1_doLine_125 : decode mX1_doLine.2.1 125 = .ok (.iload 5, 2) := by decide +kernel
theorem dX1_doLine_127 : decode mX1_doLine.2.1 127 = .ok (.iaload, 1) := by decide +kernel
theorem dX1_doLine_128 : decode mX1_doLine.2.1 128 = .ok (.putfield 15, 3) := by decide +kernel
theorem dX1_doLine_131 : decode mX1_doLine.2.1 131 = .ok (.iinc 5 1, 3) := by decide +kernel
theorem dX1_doLine_134 : decode mX1_doLine.2.1 134 = .ok (.iinc 6 1, 3) := by decide +kernel
theorem dX1_doLine_137 : decode mX1_doLine.2.1 137 = .ok (.goto (-111), 3) := by decide +kernel
theorem dX1_doLine_140 : decode mX1_doLine.2.1 140 = .ok (.return_, 1) := by decide +kernel
theorem dX1_behindRound_0 : decode mX1_behindRound.2.1 0 = .ok (.aload_n 0, 1) := by decide +kernel
theorem dX1_behindRound_1 : decode mX1_behindRound.2.1 1 = .ok (.getfield 39, 3) := by decide +kernel
theorem dX1_behindRound_4 : decode mX1_behindRound.2.1 4 = .ok (.aload_n 0, 1) := by decide +kernel
theorem dX1_behindRound_5 : decode mX1_behindRound.2.1 5 = .ok (.getfield 42, 3) := by decide +kernel
theorem dX1_behindRound_8 : decode mX1_behindRound.2.1 8 = .ok (.iconst 1, 1) := by decide +kernel
theorem dX1_behindRound_9 : decode mX1_behindRound.2.1 9 = .ok (.isub, 1) := by decide +kernel
theorem dX1_behindRound_10 : decode mX1_behindRound.2.1 10 = .ok (.dup2, 1) := by decide +kernel
theorem dX1_behindRound_11 : decode mX1_behindRound.2.1 11 = .ok (.iaload, 1) := by decide +kernel
theorem dX1_behindRound_12 : decode mX1_behindRound.2.1 12 = .ok (.iconst 1, 1) := by decide +kernel
theorem dX1_behindRound_13 : decode mX1_behindRound.2.1 13 = .ok (.isub, 1) := by decide +kernel
theorem dX1_behindRound_14 : decode mX1_behindRound.2.1 14 = .ok (.iastore, 1) := by decide +kernel
theorem dX1_behindRound_15 : decode mX1_behindRound.2.1 15 = .ok (.aload_n 0, 1) := by decide +kernel
theorem dX1_behindRound_16 : decode mX1_behindRound.2.1 16 = .ok (.getfield 39, 3) := by decide +kernel
theorem dX1_behindRound_19 : decode mX1_behindRound.2.1 19 = .ok (.aload_n 0, 1) := by decide +kernel
theorem dX1_behindRound_20 : decode mX1_behindRound.2.1 20 = .ok (.getfield 42, 3) := by decide +kernel
theorem dX1_behindRound_23 : decode mX1_behindRound.2.1 23 = .ok (.iconst 1, 1) := by decide +kernel
theorem dX1_behindRound_24 : decode mX1_behindRound.2.1 24 = .ok (.isub, 1) := by decide +kernel
theorem dX1_behindRound_25 : decode mX1_behindRound.2.1 25 = .ok (.iaload, 1) := by decide +kernel
theorem dX1_behindRound_26 : decode mX1_behindRound.2.1 26 = .ok (.ifCond .le 17, 3) := by decide +kernel
theorem dX1_behindRound_29 : decode mX1_behindRound.2.1 29 = .ok (.aload_n 0, 1) := by decide +kernel
theorem dX1_behindRound_30 : decode mX1_behindRound.2.1 30 = .ok (.getfield 36, 3) := by decide +kernel
theorem dX1_behindRound_33 : decode mX1_behindRound.2.1 33 = .ok (.aload_n 0, 1) := by decide +kernel
theorem dX1_behindRound_34 : decode mX1_behindRound.2.1 34 = .ok (.getfield 42, 3) := by decide +kernel
theorem dX1_behindRound_37 : decode mX1_behindRound.2.1 37 = .ok (.iconst 1, 1) := by decide +kernel
theorem dX1_behindRound_38 : decode mX1_behindRound.2.1 38 = .ok (.isub, 1) := by decide +kernel
theorem dX1_behindRound_39 : decode mX1_behindRound.2.1 39 = .ok (.iaload, 1) := by decide +kernel
theorem dX1_behindRound_40 : decode mX1_behindRound.2.1 40 = .ok (.iconst 1, 1) := by decide +kernel
theorem dX1_behindRound_41 : decode mX1_behindRound.2.1 41 = .ok (.iadd, 1) := by decide +kernel
theorem dX1_behindRound_42 : decode mX1_behindRound.2.1 42 = .ok (.ireturn, 1) := by decide +kernel
theorem dX1_behindRound_43 : decode mX1_behindRound.2.1 43 = .ok (.aload_n 0, 1) := by decide +kernel
theorem dX1_behindRound_44 : decode mX1_behindRound.2.1 44 = .ok (.dup, 1) := by decide +kernel
theorem dX1_behindRound_45 : decode mX1_behindRound.2.1 45 = .ok (.getfield 42, 3) := by decide +kernel
theorem dX1_behindRound_48 : decode mX1_behindRound.2.1 48 = .ok (.iconst 1, 1) := by decide +kernel
theorem dX1_behindRound_49 : decode mX1_behindRound.2.1 49 = .ok (.isub, 1) := by decide +kernel
theorem dX1_behindRound_50 : decode mX1_behindRound.2.1 50 = .ok (.putfield 42, 3) := by decide +kernel
theorem dX1_behindRound_53 : decode mX1_behindRound.2.1 53 = .ok (.iload_n 1, 1) := by decide +kernel
theorem dX1_behindRound_54 : decode mX1_behindRound.2.1 54 = .ok (.ireturn, 1) := by decide +kernel
theorem dX1_countOrder_0 : decode mX1_countOrder.2.1 0 = .ok (.aload_n 0, 1) := by decide +kernel
theorem dX1_countOrder_1 : decode mX1_countOrder.2.1 1 = .ok (.dup, 1) := by decide +kernel
theorem dX1_countOrder_2 : decode mX1_countOrder.2.1 2 = .ok (.getfield 48, 3) := by decide +kernel
theorem dX1_countOrder_5 : decode mX1_countOrder.2.1 5 = .ok (.iconst 1, 1) := by decide +kernel
theorem dX1_countOrder_6 : decode mX1_countOrder.2.1 6 = .ok (.iadd, 1) := by decide +kernel
theorem dX1_countOrder_7 : decode mX1_countOrder.2.1 7 = .ok (.putfield 48, 3) := by decide +kernel
theorem dX1_countOrder_10 : decode mX1_countOrder.2.1 10 = .ok (.aload_n 0, 1) := by decide +kernel
theorem dX1_countOrder_11 : decode mX1_countOrder.2.1 11 = .ok (.getfield 48, 3) := by decide +kernel
theorem dX1_countOrder_14 : decode mX1_countOrder.2.1 14 = .ok (.sipush 500, 3) := by decide +kernel
theorem dX1_countOrder_17 : decode mX1_countOrder.2.1 17 = .ok (.if_icmp .le 11, 3) := by decide +kernel
theorem dX1_countOrder_20 : decode mX1_countOrder.2.1 20 = .ok (.aload_n 0, 1) := by decide +kernel
theorem dX1_countOrder_21 : decode mX1_countOrder.2.1 21 = .ok (.iconst 1, 1) := by decide +kernel
theorem dX1_countOrder_22 : decode mX1_countOrder.2.1 22 = .ok (.invokevirtual 133, 3) := by decide +kernel
theorem dX1_countOrder_25 : decode mX1_countOrder.2.1 25 = .ok (.goto 20, 3) := by decide +kernel
theorem dX1_countOrder_28 : decode mX1_countOrder.2.1 28 = .ok (.aload_n 0, 1) := by decide +kernel
theorem dX1_countOrder_29 : decode mX1_countOrder.2.1 29 = .ok (.getfield 45, 3) := by decide +kernel
theorem dX1_countOrder_32 : decode mX1_countOrder.2.1 32 = .ok (.iload_n 1, 1) := by decide +kernel
theorem dX1_countOrder_33 : decode mX1_countOrder.2.1 33 = .ok (.iadd, 1) := by decide +kernel
theorem dX1_countOrder_34 : decode mX1_countOrder.2.1 34 = .ok (.sipush 150, 3) := by decide +kernel
theorem dX1_countOrder_37 : decode mX1_countOrder.2.1 37 = .ok (.if_icmp .le 8, 3) := by decide +kernel
theorem dX1_countOrder_40 : decode mX1_countOrder.2.1 40 = .ok (.aload_n 0, 1) := by decide +kernel
theorem dX1_countOrder_41 : decode mX1_countOrder.2.1 41 = .ok (.iconst 2, 1) := by decide +kernel
theorem dX1_countOrder_42 : decode mX1_countOrder.2.1 42 = .ok (.invokevirtual 133, 3) := by decide +kernel
theorem dX1_countOrder_45 : decode mX1_countOrder.2.1 45 = .ok (.return_, 1) := by decide +kernel
theorem dX1_doOrder_0 : decode mX1_doOrder.2.1 0 = .ok (.aload_n 1, 1) := by decide +kernel
theorem dX1_doOrder_1 : decode mX1_doOrder.2.1 1 = .ok (.getfield 119, 3) := by decide +kernel
theorem dX1_doOrder_4 : decode mX1_doOrder.2.1 4 = .ok (.iload_n 3, 1) := by decide +kernel
theorem dX1_doOrder_5 : decode mX1_doOrder.2.1 5 = .ok (.iaload, 1) := by decide +kernel
theorem dX1_doOrder_6 : decode mX1_doOrder.2.1 6 = .ok (.istore 4, 2) := by decide +kernel
theorem dX1_doOrder_8 : decode mX1_doOrder.2.1 8 = .ok (.aload_n 1, 1) := by decide +kernel
theorem dX1_doOrder_9 : decode mX1_doOrder.2.1 9 = .ok (.getfield 136, 3) := by decide +kernel
theorem dX1_doOrder_12 : decode mX1_doOrder.2.1 12 = .ok (.iload_n 3, 1) := by decide +kernel
theorem dX1_doOrder_13 : decode mX1_doOrder.2.1 13 = .ok (.iaload, 1) := by decide +kernel
theorem dX1_doOrder_14 : decode mX1_doOrder.2.1 14 = .ok (.istore 5, 2) := by decide +kernel
theorem dX1_doOrder_16 : decode mX1_doOrder.2.1 16 = .ok (.aload_n 1, 1) := by decide +kernel
theorem dX1_doOrder_17 : decode mX1_doOrder.2.1 17 = .ok (.getfield 139, 3) := by decide +kernel
theorem dX1_doOrder_20 : decode mX1_doOrder.2.1 20 = .ok (.iload_n 3, 1) := by decide +kernel
theorem dX1_doOrder_21 : decode mX1_doOrder.2.1 21 = .ok (.iaload, 1) := by decide +kernel
theorem dX1_doOrder_22 : decode mX1_doOrder.2.1 22 = .ok (.tableswitch 215 0 10 #[58, 69, 215, 215, 80, 90, 107, 148, 165, 182, 205], 58) := by decide +kernel
theorem dX1_doOrder_80 : decode mX1_doOrder.2.1 80 = .ok (.aload_n 0, 1) := by decide +kernel
theorem dX1_doOrder_81 : decode mX1_doOrder.2.1 81 = .ok (.aload_n 2, 1) := by decide +kernel
theorem dX1_doOrder_82 : decode mX1_doOrder.2.1 82 = .ok (.iload 4, 2) := by decide +kernel
theorem dX1_doOrder_84 : decode mX1_doOrder.2.1 84 = .ok (.iconst 1, 1) := by decide +kernel
theorem dX1_doOrder_85 : decode mX1_doOrder.2.1 85 = .ok (.invokevirtual 142, 3) := by decide +kernel
theorem dX1_doOrder_88 : decode mX1_doOrder.2.1 88 = .ok (.goto 157, 3) := by decide +kernel
theorem dX1_doOrder_91 : decode mX1_doOrder.2.1 91 = .ok (.aload_n 0, 1) := by decide +kernel
theorem dX1_doOrder_92 : decode mX1_doOrder.2.1 92 = .ok (.aload_n 2, 1) := by decide +kernel
theorem dX1_doOrder_93 : decode mX1_doOrder.2.1 93 = .ok (.iload 4, 2) := by decide +kernel
theorem dX1_doOrder_95 : decode mX1_doOrder.2.1 95 = .ok (.iconst (-1), 1) := by decide +kernel
theorem dX1_doOrder_96 : decode mX1_doOrder.2.1 96 = .ok (.invokevirtual 142, 3) := by decide +kernel
theorem dX1_doOrder_99 : decode mX1_doOrder.2.1 99 = .ok (.goto 146, 3) := by decide +kernel
theorem dX1_doOrder_102 : decode mX1_doOrder.2.1 102 = .ok (.aload_n 0, 1) := by decide +kernel
theorem dX1_doOrder_103 : decode mX1_doOrder.2.1 103 = .ok (.aload_n 2, 1) := by decide +kernel
theorem dX1_doOrder_104 : decode mX1_doOrder.2.1 104 = .ok (.iload 4, 2) := by decide +kernel
theorem dX1_doOrder_106 : decode mX1_doOrder.2.1 106 = .ok (.invokevirtual 146, 3) := by decide +kernel
theorem dX1_doOrder_109 : decode mX1_doOrder.2.1 109 = .ok (.goto 136, 3) := by decide +kernel
theorem dX1_doOrder_112 : decode mX1_doOrder.2.1 112 = .ok (.aload_n 0, 1) := by decide +kernel
theorem dX1_doOrder_113 : decode mX1_doOrder.2.1 113 = .ok (.aload_n 2, 1) := by decide +kernel
theorem dX1_doOrder_114 : decode mX1_doOrder.2.1 114 = .ok (.iload 5, 2) := by decide +kernel
theorem dX1_doOrder_116 : decode mX1_doOrder.2.1 116 = .ok (.invokevirtual 150, 3) := by decide +kernel
theorem dX1_doOrder_119 : decode mX1_doOrder.2.1 119 = .ok (.aload_n 0, 1) := by decide +kernel
theorem dX1_doOrder_120 : decode mX1_doOrder.2.1 120 = .ok (.aload_n 2, 1) := by decide +kernel
theorem dX1_doOrder_121 : decode mX1_doOrder.2.1 121 = .ok (.iload 5, 2) := by decide +kernel
theorem dX1_doOrder_123 : decode mX1_doOrder.2.1 123 = .ok (.invokevirtual 153, 3) := by decide +kernel
theorem dX1_doOrder_126 : decode mX1_doOrder.2.1 126 = .ok (.goto 119, 3) := by decide +kernel
theorem dX1_doOrder_129 : decode mX1_doOrder.2.1 129 = .ok (.aload_n 0, 1) := by decide +kernel
theorem dX1_doOrder_130 : decode mX1_doOrder.2.1 130 = .ok (.aload_n 2, 1) := by decide +kernel
theorem dX1_doOrder_131 : decode mX1_doOrder.2.1 131 = .ok (.iload 5, 2) := by decide +kernel
theorem dX1_doOrder_133 : decode mX1_doOrder.2.1 133 = .ok (.ifCond .ne 7, 3) := by decide +kernel
theorem dX1_doOrder_136 : decode mX1_doOrder.2.1 136 = .ok (.iconst 1, 1) := by decide +kernel
theorem dX1_doOrder_137 : decode mX1_doOrder.2.1 137 = .ok (.goto 4, 3) := by decide +kernel
theorem dX1_doOrder_140 : decode mX1_doOrder.2.1 140 = .ok (.iconst (-1), 1) := by decide +kernel
theorem dX1_doOrder_141 : decode mX1_doOrder.2.1 141 = .ok (.invokevirtual 156, 3) := by decide +kernel
theorem dX1_doOrder_144 : decode mX1_doOrder.2.1 144 = .ok (.aload_n 0, 1) := by decide +kernel
theorem dX1_doOrder_145 : decode mX1_doOrder.2.1 145 = .ok (.aload_n 2, 1) := by decide +kernel
theorem dX1_doOrder_146 : decode mX1_doOrder.2.1 146 = .ok (.iload 4, 2) := by decide +kernel
theorem dX1_doOrder_148 : decode mX1_doOrder.2.1 148 = .ok (.invokevirtual 159, 3) := by decide +kernel
theorem dX1_doOrder_151 : decode mX1_doOrder.2.1 151 = .ok (.aload_n 0, 1) := by decide +kernel
theorem dX1_doOrder_152 : decode mX1_doOrder.2.1 152 = .ok (.aload_n 2, 1) := by decide +kernel
theorem dX1_doOrder_153 : decode mX1_doOrder.2.1 153 = .ok (.iload 5, 2) := by decide +kernel
theorem dX1_doOrder_155 : decode mX1_doOrder.2.1 155 = .ok (.ifCond .ne 8, 3) := by decide +kernel
theorem dX1_doOrder_158 : decode mX1_doOrder.2.1 158 = .ok (.bipush (-2), 2) := by decide +kernel
theorem dX1_doOrder_160 : decode mX1_doOrder.2.1 160 = .ok (.goto 4, 3) := by decide +kernel
theorem dX1_doOrder_163 : decode mX1_doOrder.2.1 163 = .ok (.iconst 2, 1) := by decide +kernel
theorem dX1_doOrder_164 : decode mX1_doOrder.2.1 164 = .ok (.invokevirtual 150, 3) := by decide +kernel
theorem dX1_doOrder_167 : decode mX1_doOrder.2.1 167 = .ok (.goto 78, 3) := by decide +kernel
theorem dX1_doOrder_170 : decode mX1_doOrder.2.1 170 = .ok (.aload_n 0, 1) := by decide +kernel
theorem dX1_doOrder_171 : decode mX1_doOrder.2.1 171 = .ok (.aload_n 2, 1) := by decide +kernel
theorem dX1_doOrder_172 : decode mX1_doOrder.2.1 172 = .ok (.iload 5, 2) := by decide +kernel
theorem dX1_doOrder_174 : decode mX1_doOrder.2.1 174 = .ok (.invokevirtual 162, 3) := by decide +kernel
theorem dX1_doOrder_177 : decode mX1_doOrder.2.1 177 = .ok (.aload_n 0, 1) := by decide +kernel
theorem dX1_doOrder_178 : decode mX1_doOrder.2.1 178 = .ok (.aload_n 2, 1) := by decide +kernel
theorem dX1_doOrder_179 : decode mX1_doOrder.2.1 179 = .ok (.iload 4, 2) := by decide +kernel
theorem dX1_doOrder_181 : decode mX1_doOrder.2.1 181 = .ok (.invokevirtual 159, 3) := by decide +kernel
theorem dX1_doOrder_184 : decode mX1_doOrder.2.1 184 = .ok (.goto 61, 3) := by decide +kernel
theorem dX1_doOrder_187 : decode mX1_doOrder.2.1 187 = .ok (.aload_n 0, 1) := by decide +kernel
theorem dX1_doOrder_188 : decode mX1_doOrder.2.1 188 = .ok (.aload_n 2, 1) := by decide +kernel
theorem dX1_doOrder_189 : decode mX1_doOrder.2.1 189 = .ok (.iload 5, 2) := by decide +kernel
theorem dX1_doOrder_191 : decode mX1_doOrder.2.1 191 = .ok (.invokevirtual 165, 3) := by decide +kernel
theorem dX1_doOrder_194 : decode mX1_doOrder.2.1 194 = .ok (.aload_n 0, 1) := by decide +kernel
theorem dX1_doOrder_195 : decode mX1_doOrder.2.1 195 = .ok (.aload_n 2, 1) := by decide +kernel
theorem dX1_doOrder_196 : decode mX1_doOrder.2.1 196 = .ok (.iload 4, 2) := by decide +kernel
theorem dX1_doOrder_198 : decode mX1_doOrder.2.1 198 = .ok (.invokevirtual 159, 3) := by decide +kernel
theorem dX1_doOrder_201 : decode mX1_doOrder.2.1 201 = .ok (.goto 44, 3) := by decide +kernel
theorem dX1_doOrder_204 : decode mX1_doOrder.2.1 204 = .ok (.aload_n 0, 1) := by decide +kernel
theorem dX1_doOrder_205 : decode mX1_doOrder.2.1 205 = .ok (.aload_n 2, 1) := by decide +kernel
theorem dX1_doOrder_206 : decode mX1_doOrder.2.1 206 = .ok (.iload 5, 2) := by decide +kernel
theorem dX1_doOrder_208 : decode mX1_doOrder.2.1 208 = .ok (.aload_n 1, 1) := by decide +kernel
theorem dX1_doOrder_209 : decode mX1_doOrder.2.1 209 = .ok (.getfield 168, 3) := by decide +kernel
theorem dX1_doOrder_212 : decode mX1_doOrder.2.1 212 = .ok (.iload_n 3, 1) := by decide +kernel
theorem dX1_doOrder_213 : decode mX1_doOrder.2.1 213 = .ok (.iaload, 1) := by decide +kernel
theorem dX1_doOrder_214 : decode mX1_doOrder.2.1 214 = .ok (.invokevirtual 171, 3) := by decide +kernel
theorem dX1_doOrder_217 : decode mX1_doOrder.2.1 217 = .ok (.aload_n 0, 1) := by decide +kernel
theorem dX1_doOrder_218 : decode mX1_doOrder.2.1 218 = .ok (.aload_n 2, 1) := by decide +kernel
theorem dX1_doOrder_219 : decode mX1_doOrder.2.1 219 = .ok (.iload 4, 2) := by decide +kernel
theorem dX1_doOrder_221 : decode mX1_doOrder.2.1 221 = .ok (.invokevirtual 159, 3) := by decide +kernel
theorem dX1_doOrder_224 : decode mX1_doOrder.2.1 224 = .ok (.goto 21, 3) := by decide +kernel
theorem dX1_doOrder_227 : decode mX1_doOrder.2.1 227 = .ok (.aload_n 0, 1) := by decide +kernel
theorem dX1_doOrder_228 : decode mX1_doOrder.2.1 228 = .ok (.iload_n 3, 1) := by decide +kernel
theorem dX1_doOrder_229 : decode mX1_doOrder.2.1 229 = .ok (.iload 5, 2) := by decide +kernel
theorem dX1_doOrder_231 : decode mX1_doOrder.2.1 231 = .ok (.invokevirtual 174, 3) := by decide +kernel
theorem dX1_doOrder_234 : decode mX1_doOrder.2.1 234 = .ok (.goto 11, 3) := by decide +kernel
theorem dX1_doOrder_237 : decode mX1_doOrder.2.1 237 = .ok (.aload_n 0, 1) := by decide +kernel
theorem dX1_doOrder_238 : decode mX1_doOrder.2.1 238 = .ok (.aload_n 2, 1) := by decide +kernel
theorem dX1_doOrder_239 : decode mX1_doOrder.2.1 239 = .ok (.iload 4, 2) := by decide +kernel
theorem dX1_doOrder_241 : decode mX1_doOrder.2.1 241 = .ok (.iconst 0, 1) := by decide +kernel
theorem dX1_doOrder_242 : decode mX1_doOrder.2.1 242 = .ok (.invokevirtual 142, 3) := by decide +kernel
theorem dX1_doOrder_245 : decode mX1_doOrder.2.1 245 = .ok (.aload_n 0, 1) := by decide +kernel
theorem dX1_doOrder_246 : decode mX1_doOrder.2.1 246 = .ok (.aload_n 1, 1) := by decide +kernel
theorem dX1_doOrder_247 : decode mX1_doOrder.2.1 247 = .ok (.getfield 139, 3) := by decide +kernel
theorem dX1_doOrder_250 : decode mX1_doOrder.2.1 250 = .ok (.iload_n 3, 1) := by decide +kernel
theorem dX1_doOrder_251 : decode mX1_doOrder.2.1 251 = .ok (.iaload, 1) := by decide +kernel
theorem dX1_doOrder_252 : decode mX1_doOrder.2.1 252 = .ok (.iconst 3, 1) := by decide +kernel
theorem dX1_doOrder_253 : decode mX1_doOrder.2.1 253 = .ok (.if_icmp .ne 7, 3) := by decide +kernel
theorem dX1_doOrder_256 : decode mX1_doOrder.2.1 256 = .ok (.iconst 0, 1) := by decide +kernel
theorem dX1_doOrder_257 : decode mX1_doOrder.2.1 257 = .ok (.goto 10, 3) := by decide +kernel
theorem dX1_doOrder_260 : decode mX1_doOrder.2.1 260 = .ok (.aload_n 0, 1) := by decide +kernel
theorem dX1_doOrder_261 : decode mX1_doOrder.2.1 261 = .ok (.getfield 51, 3) := by decide +kernel
theorem dX1_doOrder_264 : decode mX1_doOrder.2.1 264 = .ok (.iload 4, 2) := by decide +kernel
theorem dX1_doOrder_266 : decode mX1_doOrder.2.1 266 = .ok (.iadd, 1) := by decide +kernel
theorem dX1_doOrder_267 : decode mX1_doOrder.2.1 267 = .ok (.putfield 51, 3) := by decide +kernel
theorem dX1_doOrder_270 : decode mX1_doOrder.2.1 270 = .ok (.return_, 1) := by decide +kernel
theorem dX1_beginAgain_0 : decode mX1_beginAgain.2.1 0 = .ok (.aload_n 0, 1) := by decide +kernel
theorem dX1_beginAgain_1 : decode mX1_beginAgain.2.1 1 = .ok (.getfield 42, 3) := by decide +kernel
theorem dX1_beginAgain_4 : decode mX1_beginAgain.2.1 4 = .ok (.iconst 3, 1) := by decide +kernel
theorem dX1_beginAgain_5 : decode mX1_beginAgain.2.1 5 = .ok (.if_icmp .ge 33, 3) := by decide +kernel
theorem dX1_beginAgain_8 : decode mX1_beginAgain.2.1 8 = .ok (.aload_n 0, 1) := by decide +kernel
theorem dX1_beginAgain_9 : decode mX1_beginAgain.2.1 9 = .ok (.getfield 36, 3) := by decide +kernel
theorem dX1_beginAgain_12 : decode mX1_beginAgain.2.1 12 = .ok (.aload_n 0, 1) := by decide +kernel
theorem dX1_beginAgain_13 : decode mX1_beginAgain.2.1 13 = .ok (.getfield 42, 3) := by decide +kernel
theorem dX1_beginAgain_16 : decode mX1_beginAgain.2.1 16 = .ok (.iload_n 1, 1) := by decide +kernel
theorem dX1_beginAgain_17 : decode mX1_beginAgain.2.1 17 = .ok (.iastore, 1) := by decide +kernel
theorem dX1_beginAgain_18 : decode mX1_beginAgain.2.1 18 = .ok (.aload_n 0, 1) := by decide +kernel
theorem dX1_beginAgain_19 : decode mX1_beginAgain.2.1 19 = .ok (.getfield 39, 3) := by decide +kernel
theorem dX1_beginAgain_22 : decode mX1_beginAgain.2.1 22 = .ok (.aload_n 0, 1) := by decide +kernel
theorem dX1_beginAgain_23 : decode mX1_beginAgain.2.1 23 = .ok (.getfield 42, 3) := by decide +kernel
theorem dX1_beginAgain_26 : decode mX1_beginAgain.2.1 26 = .ok (.iload_n 2, 1) := by decide +kernel
theorem dX1_beginAgain_27 : decode mX1_beginAgain.2.1 27 = .ok (.iastore, 1) := by decide +kernel
theorem dX1_beginAgain_28 : decode mX1_beginAgain.2.1 28 = .ok (.aload_n 0, 1) := by decide +kernel
theorem dX1_beginAgain_29 : decode mX1_beginAgain.2.1 29 = .ok (.dup, 1) := by decide +kernel
theorem dX1_beginAgain_30 : decode mX1_beginAgain.2.1 30 = .ok (.getfield 42, 3) := by decide +kernel
theorem dX1_beginAgain_33 : decode mX1_beginAgain.2.1 33 = .ok (.iconst 1, 1) := by decide +kernel
theorem dX1_beginAgain_34 : decode mX1_beginAgain.2.1 34 = .ok (.iadd, 1) := by decide +kernel
theorem dX1_beginAgain_35 : decode mX1_beginAgain.2.1 35 = .ok (.putfield 42, 3) := by decide +kernel
theorem dX1_beginAgain_38 : decode mX1_beginAgain.2.1 38 = .ok (.return_, 1) := by decide +kernel
theorem dX1_fail_0 : decode mX1_fail.2.1 0 = .ok (.aload_n 0, 1) := by decide +kernel
theorem dX1_fail_1 : decode mX1_fail.2.1 1 = .ok (.getfield 11, 3) := by decide +kernel
theorem dX1_fail_4 : decode mX1_fail.2.1 4 = .ok (.ifCond .ne 8, 3) := by decide +kernel
theorem dX1_fail_7 : decode mX1_fail.2.1 7 = .ok (.aload_n 0, 1) := by decide +kernel
theorem dX1_fail_8 : decode mX1_fail.2.1 8 = .ok (.iload_n 1, 1) := by decide +kernel
theorem dX1_fail_9 : decode mX1_fail.2.1 9 = .ok (.putfield 11, 3) := by decide +kernel
theorem dX1_fail_12 : decode mX1_fail.2.1 12 = .ok (.return_, 1) := by decide +kernel
theorem dX1_stepAhead_0 : decode mX1_stepAhead.2.1 0 = .ok (.iconst 0, 1) := by decide +kernel
theorem dX1_stepAhead_1 : decode mX1_stepAhead.2.1 1 = .ok (.istore 4, 2) := by decide +kernel
theorem dX1_stepAhead_3 : decode mX1_stepAhead.2.1 3 = .ok (.iload 4, 2) := by decide +kernel
theorem dX1_stepAhead_5 : decode mX1_stepAhead.2.1 5 = .ok (.iload_n 2, 1) := by decide +kernel
theorem dX1_stepAhead_6 : decode mX1_stepAhead.2.1 6 = .ok (.if_icmp .ge 57, 3) := by decide +kernel
theorem dX1_stepAhead_9 : decode mX1_stepAhead.2.1 9 = .ok (.aload_n 0, 1) := by decide +kernel
theorem dX1_stepAhead_10 : decode mX1_stepAhead.2.1 10 = .ok (.getfield 11, 3) := by decide +kernel
theorem dX1_stepAhead_13 : decode mX1_stepAhead.2.1 13 = .ok (.ifCond .ne 50, 3) := by decide +kernel
theorem dX1_stepAhead_16 : decode mX1_stepAhead.2.1 16 = .ok (.aload_n 0, 1) := by decide +kernel
theorem dX1_stepAhead_17 : decode mX1_stepAhead.2.1 17 = .ok (.dup, 1) := by decide +kernel
theorem dX1_stepAhead_18 : decode mX1_stepAhead.2.1 18 = .ok (.getfield 45, 3) := by decide +kernel
theorem dX1_stepAhead_21 : decode mX1_stepAhead.2.1 21 = .ok (.iconst 1, 1) := by decide +kernel
theorem dX1_stepAhead_22 : decode mX1_stepAhead.2.1 22 = .ok (.iadd, 1) := by decide +kernel
theorem dX1_stepAhead_23 : decode mX1_stepAhead.2.1 23 = .ok (.putfield 45, 3) := by decide +kernel
theorem dX1_stepAhead_26 : decode mX1_stepAhead.2.1 26 = .ok (.iconst 0, 1) := by decide +kernel
theorem dX1_stepAhead_27 : decode mX1_stepAhead.2.1 27 = .ok (.istore 5, 2) := by decide +kernel
theorem dX1_stepAhead_29 : decode mX1_stepAhead.2.1 29 = .ok (.iload 5, 2) := by decide +kernel
theorem dX1_stepAhead_31 : decode mX1_stepAhead.2.1 31 = .ok (.aload_n 0, 1) := by decide +kernel
theorem dX1_stepAhead_32 : decode mX1_stepAhead.2.1 32 = .ok (.getfield 30, 3) := by decide +kernel
theorem dX1_stepAhead_35 : decode mX1_stepAhead.2.1 35 = .ok (.if_icmp .ge 22, 3) := by decide +kernel
theorem dX1_stepAhead_38 : decode mX1_stepAhead.2.1 38 = .ok (.aload_n 0, 1) := by decide +kernel
theorem dX1_stepAhead_39 : decode mX1_stepAhead.2.1 39 = .ok (.aload_n 1, 1) := by decide +kernel
theorem dX1_stepAhead_40 : decode mX1_stepAhead.2.1 40 = .ok (.aload_n 0, 1) := by decide +kernel
theorem dX1_stepAhead_41 : decode mX1_stepAhead.2.1 41 = .ok (.getfield 20, 3) := by decide +kernel
theorem dX1_stepAhead_44 : decode mX1_stepAhead.2.1 44 = .ok (.iload 5, 2) := by decide +kernel
theorem dX1_stepAhead_46 : decode mX1_stepAhead.2.1 46 = .ok (.iaload, 1) := by decide +kernel
theorem dX1_stepAhead_47 : decode mX1_stepAhead.2.1 47 = .ok (.iload_n 3, 1) := by decide +kernel
theorem dX1_stepAhead_48 : decode mX1_stepAhead.2.1 48 = .ok (.invokevirtual 177, 3) := by decide +kernel
theorem dX1_stepAhead_51 : decode mX1_stepAhead.2.1 51 = .ok (.iinc 5 1, 3) := by decide +kernel
theorem dX1_stepAhead_54 : decode mX1_stepAhead.2.1 54 = .ok (.goto (-25), 3) := by decide +kernel
theorem dX1_stepAhead_57 : decode mX1_stepAhead.2.1 57 = .ok (.iinc 4 1, 3) := by decide +kernel
theorem dX1_stepAhead_60 : decode mX1_stepAhead.2.1 60 = .ok (.goto (-57), 3) := by decide +kernel
theorem dX1_stepAhead_63 : decode mX1_stepAhead.2.1 63 = .ok (.return_, 1) := by decide +kernel
theorem dX1_stepOne_0 : decode mX1_stepOne.2.1 0 = .ok (.aload_n 1, 1) := by decide +kernel
theorem dX1_stepOne_1 : decode mX1_stepOne.2.1 1 = .ok (.aload_n 0, 1) := by decide +kernel
theorem dX1_stepOne_2 : decode mX1_stepOne.2.1 2 = .ok (.getfield 45, 3) := by decide +kernel
theorem dX1_stepOne_5 : decode mX1_stepOne.2.1 5 = .ok (.iconst 1, 1) := by decide +kernel
theorem dX1_stepOne_6 : decode mX1_stepOne.2.1 6 = .ok (.isub, 1) := by decide +kernel
theorem dX1_stepOne_7 : decode mX1_stepOne.2.1 7 = .ok (.iload_n 2, 1) := by decide +kernel
theorem dX1_stepOne_8 : decode mX1_stepOne.2.1 8 = .ok (.invokevirtual 180, 3) := by decide +kernel
theorem dX1_stepOne_11 : decode mX1_stepOne.2.1 11 = .ok (.istore 4, 2) := by decide +kernel
theorem dX1_stepOne_13 : decode mX1_stepOne.2.1 13 = .ok (.aload_n 1, 1) := by decide +kernel
theorem dX1_stepOne_14 : decode mX1_stepOne.2.1 14 = .ok (.aload_n 0, 1) := by decide +kernel
theorem dX1_stepOne_15 : decode mX1_stepOne.2.1 15 = .ok (.getfield 45, 3) := by decide +kernel
theorem dX1_stepOne_18 : decode mX1_stepOne.2.1 18 = .ok (.iconst 1, 1) := by decide +kernel
theorem dX1_stepOne_19 : decode mX1_stepOne.2.1 19 = .ok (.isub, 1) := by decide +kernel
theorem dX1_stepOne_20 : decode mX1_stepOne.2.1 20 = .ok (.iload_n 2, 1) := by decide +kernel
theorem dX1_stepOne_21 : decode mX1_stepOne.2.1 21 = .ok (.invokevirtual 183, 3) := by decide +kernel
theorem dX1_stepOne_24 : decode mX1_stepOne.2.1 24 = .ok (.iload_n 3, 1) := by decide +kernel
theorem dX1_stepOne_25 : decode mX1_stepOne.2.1 25 = .ok (.iload 4, 2) := by decide +kernel
theorem dX1_stepOne_27 : decode mX1_stepOne.2.1 27 = .ok (.invokestatic 186, 3) := by decide +kernel
theorem dX1_stepOne_30 : decode mX1_stepOne.2.1 30 = .ok (.imul, 1) := by decide +kernel
theorem dX1_stepOne_31 : decode mX1_stepOne.2.1 31 = .ok (.iadd, 1) := by decide +kernel
theorem dX1_stepOne_32 : decode mX1_stepOne.2.1 32 = .ok (.istore 5, 2) := by decide +kernel
theorem dX1_stepOne_34 : decode mX1_stepOne.2.1 34 = .ok (.aload_n 1, 1) := by decide +kernel
theorem dX1_stepOne_35 : decode mX1_stepOne.2.1 35 = .ok (.aload_n 0, 1) := by decide +kernel
theorem dX1_stepOne_36 : decode mX1_stepOne.2.1 36 = .ok (.getfield 45, 3) := by decide +kernel
theorem dX1_stepOne_39 : decode mX1_stepOne.2.1 39 = .ok (.iconst 1, 1) := by decide +kernel
theorem dX1_stepOne_40 : decode mX1_stepOne.2.1 40 = .ok (.isub, 1) := by decide +kernel
theorem dX1_stepOne_41 : decode mX1_stepOne.2.1 41 = .ok (.iload_n 2, 1) := by decide +kernel
theorem dX1_stepOne_42 : decode mX1_stepOne.2.1 42 = .ok (.invokevirtual 189, 3) := by decide +kernel
theorem dX1_stepOne_45 : decode mX1_stepOne.2.1 45 = .ok (.iload_n 3, 1) := by decide +kernel
theorem dX1_stepOne_46 : decode mX1_stepOne.2.1 46 = .ok (.iload 4, 2) := by decide +kernel
theorem dX1_stepOne_48 : decode mX1_stepOne.2.1 48 = .ok (.invokestatic 192, 3) := by decide +kernel
theorem dX1_stepOne_51 : decode mX1_stepOne.2.1 51 = .ok (.imul, 1) := by decide +kernel
theorem dX1_stepOne_52 : decode mX1_stepOne.2.1 52 = .ok (.iadd, 1) := by decide +kernel
theorem dX1_stepOne_53 : decode mX1_stepOne.2.1 53 = .ok (.istore 6, 2) := by decide +kernel
theorem dX1_stepOne_55 : decode mX1_stepOne.2.1 55 = .ok (.aload_n 1, 1) := by decide +kernel
theorem dX1_stepOne_56 : decode mX1_stepOne.2.1 56 = .ok (.aload_n 0, 1) := by decide +kernel
theorem dX1_stepOne_57 : decode mX1_stepOne.2.1 57 = .ok (.getfield 45, 3) := by decide +kernel
theorem dX1_stepOne_60 : decode mX1_stepOne.2.1 60 = .ok (.iload_n 2, 1) := by decide +kernel
theorem dX1_stepOne_61 : decode mX1_stepOne.2.1 61 = .ok (.iload 5, 2) := by decide +kernel
theorem dX1_stepOne_63 : decode mX1_stepOne.2.1 63 = .ok (.iload 6, 2) := by decide +kernel
theorem dX1_stepOne_65 : decode mX1_stepOne.2.1 65 = .ok (.iload 4, 2) := by decide +kernel
theorem dX1_stepOne_67 : decode mX1_stepOne.2.1 67 = .ok (.invokevirtual 195, 3) := by decide +kernel
theorem dX1_stepOne_70 : decode mX1_stepOne.2.1 70 = .ok (.ifCond .ne 8, 3) := by decide +kernel
theorem dX1_stepOne_73 : decode mX1_stepOne.2.1 73 = .ok (.aload_n 0, 1) := by decide +kernel
theorem dX1_stepOne_74 : decode mX1_stepOne.2.1 74 = .ok (.iconst 4, 1) := by decide +kernel
theorem dX1_stepOne_75 : decode mX1_stepOne.2.1 75 = .ok (.invokevirtual 133, 3) := by decide +kernel
theorem dX1_stepOne_78 : decode mX1_stepOne.2.1 78 = .ok (.return_, 1) := by decide +kernel
theorem dX1_followPivot_0 : decode mX1_followPivot.2.1 0 = .ok (.iconst 0, 1) := by decide +kernel
theorem dX1_followPivot_1 : decode mX1_followPivot.2.1 1 = .ok (.istore_n 3, 1) := by decide +kernel
theorem dX1_followPivot_2 : decode mX1_followPivot.2.1 2 = .ok (.iload_n 3, 1) := by decide +kernel
theorem dX1_followPivot_3 : decode mX1_followPivot.2.1 3 = .ok (.iload_n 2, 1) := by decide +kernel
theorem dX1_followPivot_4 : decode mX1_followPivot.2.1 4 = .ok (.if_icmp .ge 93, 3) := by decide +kernel
theorem dX1_followPivot_7 : decode mX1_followPivot.2.1 7 = .ok (.aload_n 0, 1) := by decide +kernel
theorem dX1_followPivot_8 : decode mX1_followPivot.2.1 8 = .ok (.getfield 11, 3) := by decide +kernel
theorem dX1_followPivot_11 : decode mX1_followPivot.2.1 11 = .ok (.ifCond .ne 86, 3) := by decide +kernel
theorem dX1_followPivot_14 : decode mX1_followPivot.2.1 14 = .ok (.aload_n 0, 1) := by decide +kernel
theorem dX1_followPivot_15 : decode mX1_followPivot.2.1 15 = .ok (.dup, 1) := by decide +kernel
theorem dX1_followPivot_16 : decode mX1_followPivot.2.1 16 = .ok (.getfield 45, 3) := by decide +kernel
theorem dX1_followPivot_19 : decode mX1_followPivot.2.1 19 = .ok (.iconst 1, 1) := by decide +kernel
theorem dX1_followPivot_20 : decode mX1_followPivot.2.1 20 = .ok (.iadd, 1) := by decide +kernel
theorem dX1_followPivot_21 : decode mX1_followPivot.2.1 21 = .ok (.putfield 45, 3) := by decide +kernel
theorem dX1_followPivot_24 : decode mX1_followPivot.2.1 24 = .ok (.aload_n 0, 1) := by decide +kernel
theorem dX1_followPivot_25 : decode mX1_followPivot.2.1 25 = .ok (.getfield 30, 3) := by decide +kernel
theorem dX1_followPivot_28 : decode mX1_followPivot.2.1 28 = .ok (.ifCond .le 15, 3) := by decide +kernel
theorem dX1_followPivot_31 : decode mX1_followPivot.2.1 31 = .ok (.aload_n 0, 1) := by decide +kernel
theorem dX1_followPivot_32 : decode mX1_followPivot.2.1 32 = .ok (.aload_n 1, 1) := by decide +kernel
theorem dX1_followPivot_33 : decode mX1_followPivot.2.1 33 = .ok (.aload_n 0, 1) := by decide +kernel
theorem dX1_followPivot_34 : decode mX1_followPivot.2.1 34 = .ok (.getfield 20, 3) := by decide +kernel
theorem dX1_followPivot_37 : decode mX1_followPivot.2.1 37 = .ok (.iconst 0, 1) := by decide +kernel
theorem dX1_followPivot_38 : decode mX1_followPivot.2.1 38 = .ok (.iaload, 1) := by decide +kernel
theorem dX1_followPivot_39 : decode mX1_followPivot.2.1 39 = .ok (.iconst 1, 1) := by decide +kernel
theorem dX1_followPivot_40 : decode mX1_followPivot.2.1 40 = .ok (.invokevirtual 177, 3) := by decide +kernel
theorem dX1_followPivot_43 : decode mX1_followPivot.2.1 43 = .ok (.iconst 1, 1) := by decide +kernel
theorem dX1_followPivot_44 : decode mX1_followPivot.2.1 44 = .ok (.istore 4, 2) := by decide +kernel
theorem dX1_followPivot_46 : decode mX1_followPivot.2.1 46 = .ok (.iload 4, 2) := by decide +kernel
theorem dX1_followPivot_48 : decode mX1_followPivot.2.1 48 = .ok (.aload_n 0, 1) := by decide +kernel
theorem dX1_followPivot_49 : decode mX1_followPivot.2.1 49 = .ok (.getfield 30, 3) := by decide +kernel
theorem dX1_followPivot_52 : decode mX1_followPivot.2.1 52 = .ok (.if_icmp .ge 39, 3) := by decide +kernel
theorem dX1_followPivot_55 : decode mX1_followPivot.2.1 55 = .ok (.aload_n 1, 1) := by decide +kernel
theorem dX1_followPivot_56 : decode mX1_followPivot.2.1 56 = .ok (.aload_n 0, 1) := by decide +kernel
theorem dX1_followPivot_57 : decode mX1_followPivot.2.1 57 = .ok (.getfield 45, 3) := by decide +kernel
theorem dX1_followPivot_60 : decode mX1_followPivot.2.1 60 = .ok (.iconst 1, 1) := by decide +kernel
theorem dX1_followPivot_61 : decode mX1_followPivot.2.1 61 = .ok (.isub, 1) := by decide +kernel
theorem dX1_followPivot_62 : decode mX1_followPivot.2.1 62 = .ok (.aload_n 0, 1) := by decide +kernel
theorem dX1_followPivot_63 : decode mX1_followPivot.2.1 63 = .ok (.getfield 20, 3) := by decide +kernel
theorem dX1_followPivot_66 : decode mX1_followPivot.2.1 66 = .ok (.iload 4, 2) := by decide +kernel
theorem dX1_followPivot_68 : decode mX1_followPivot.2.1 68 = .ok (.iconst 1, 1) := by decide +kernel
theorem dX1_followPivot_69 : decode mX1_followPivot.2.1 69 = .ok (.isub, 1) := by decide +kernel
theorem dX1_followPivot_70 : decode mX1_followPivot.2.1 70 = .ok (.iaload, 1) := by decide +kernel
theorem dX1_followPivot_71 : decode mX1_followPivot.2.1 71 = .ok (.aload_n 0, 1) := by decide +kernel
theorem dX1_followPivot_72 : decode mX1_followPivot.2.1 72 = .ok (.getfield 45, 3) := by decide +kernel
theorem dX1_followPivot_75 : decode mX1_followPivot.2.1 75 = .ok (.aload_n 0, 1) := by decide +kernel
theorem dX1_followPivot_76 : decode mX1_followPivot.2.1 76 = .ok (.getfield 20, 3) := by decide +kernel
theorem dX1_followPivot_79 : decode mX1_followPivot.2.1 79 = .ok (.iload 4, 2) := by decide +kernel
theorem dX1_followPivot_81 : decode mX1_followPivot.2.1 81 = .ok (.iaload, 1) := by decide +kernel
theorem dX1_followPivot_82 : decode mX1_followPivot.2.1 82 = .ok (.invokevirtual 109, 3) := by decide +kernel
theorem dX1_followPivot_85 : decode mX1_followPivot.2.1 85 = .ok (.iinc 4 1, 3) := by decide +kernel
theorem dX1_followPivot_88 : decode mX1_followPivot.2.1 88 = .ok (.goto (-42), 3) := by decide +kernel
theorem dX1_followPivot_91 : decode mX1_followPivot.2.1 91 = .ok (.iinc 3 1, 3) := by decide +kernel
theorem dX1_followPivot_94 : decode mX1_followPivot.2.1 94 = .ok (.goto (-92), 3) := by decide +kernel
theorem dX1_followPivot_97 : decode mX1_followPivot.2.1 97 = .ok (.return_, 1) := by decide +kernel
theorem dX1_turnBody_0 : decode mX1_turnBody.2.1 0 = .ok (.iconst 0, 1) := by decide +kernel
theorem dX1_turnBody_1 : decode mX1_turnBody.2.1 1 = .ok (.istore_n 3, 1) := by decide +kernel
theorem dX1_turnBody_2 : decode mX1_turnBody.2.1 2 = .ok (.iload_n 3, 1) := by decide +kernel
theorem dX1_turnBody_3 : decode mX1_turnBody.2.1 3 = .ok (.aload_n 0, 1) := by decide +kernel
theorem dX1_turnBody_4 : decode mX1_turnBody.2.1 4 = .ok (.getfield 30, 3) := by decide +kernel
theorem dX1_turnBody_7 : decode mX1_turnBody.2.1 7 = .ok (.if_icmp .ge 24, 3) := by decide +kernel
theorem dX1_turnBody_10 : decode mX1_turnBody.2.1 10 = .ok (.aload_n 1, 1) := by decide +kernel
theorem dX1_turnBody_11 : decode mX1_turnBody.2.1 11 = .ok (.aload_n 0, 1) := by decide +kernel
theorem dX1_turnBody_12 : decode mX1_turnBody.2.1 12 = .ok (.getfield 45, 3) := by decide +kernel
theorem dX1_turnBody_15 : decode mX1_turnBody.2.1 15 = .ok (.aload_n 0, 1) := by decide +kernel
theorem dX1_turnBody_16 : decode mX1_turnBody.2.1 16 = .ok (.getfield 20, 3) := by decide +kernel
theorem dX1_turnBody_19 : decode mX1_turnBody.2.1 19 = .ok (.iload_n 3, 1) := by decide +kernel
theorem dX1_turnBody_20 : decode mX1_turnBody.2.1 20 = .ok (.iaload, 1) := by decide +kernel
theorem dX1_turnBody_21 : decode mX1_turnBody.2.1 21 = .ok (.iload_n 2, 1) := by decide +kernel
theorem dX1_turnBody_22 : decode mX1_turnBody.2.1 22 = .ok (.invokevirtual 199, 3) := by decide +kernel
theorem dX1_turnBody_25 : decode mX1_turnBody.2.1 25 = .ok (.iinc 3 1, 3) := by decide +kernel
theorem dX1_turnBody_28 : decode mX1_turnBody.2.1 28 = .ok (.goto (-26), 3) := by decide +kernel
theorem dX1_turnBody_31 : decode mX1_turnBody.2.1 31 = .ok (.return_, 1) := by decide +kernel
theorem dX1_judgeTurn_0 : decode mX1_judgeTurn.2.1 0 = .ok (.aload_n 0, 1) := by decide +kernel
theorem dX1_judgeTurn_1 : decode mX1_judgeTurn.2.1 1 = .ok (.getfield 51, 3) := by decide +kernel
theorem dX1_judgeTurn_4 : decode mX1_judgeTurn.2.1 4 = .ok (.iconst 1, 1) := by decide +kernel
theorem dX1_judgeTurn_5 : decode mX1_judgeTurn.2.1 5 = .ok (.iand, 1) := by decide +kernel
theorem dX1_judgeTurn_6 : decode mX1_judgeTurn.2.1 6 = .ok (.iconst 1, 1) := by decide +kernel
theorem dX1_judgeTurn_7 : decode mX1_judgeTurn.2.1 7 = .ok (.if_icmp .ne 7, 3) := by decide +kernel
theorem dX1_judgeTurn_10 : decode mX1_judgeTurn.2.1 10 = .ok (.iconst 1, 1) := by decide +kernel
theorem dX1_judgeTurn_11 : decode mX1_judgeTurn.2.1 11 = .ok (.goto 4, 3) := by decide +kernel
theorem dX1_judgeTurn_14 : decode mX1_judgeTurn.2.1 14 = .ok (.iconst 0, 1) := by decide +kernel
theorem dX1_judgeTurn_15 : decode mX1_judgeTurn.2.1 15 = .ok (.istore_n 3, 1) := by decide +kernel
theorem dX1_judgeTurn_16 : decode mX1_judgeTurn.2.1 16 = .ok (.aload_n 0, 1) := by decide +kernel
theorem dX1_judgeTurn_17 : decode mX1_judgeTurn.2.1 17 = .ok (.getfield 51, 3) := by decide +kernel
theorem dX1_judgeTurn_20 : decode mX1_judgeTurn.2.1 20 = .ok (.ifCond .eq 22, 3) := by decide +kernel
theorem dX1_judgeTurn_23 : decode mX1_judgeTurn.2.1 23 = .ok (.iload_n 2, 1) := by decide +kernel
theorem dX1_judgeTurn_24 : decode mX1_judgeTurn.2.1 24 = .ok (.iconst 4, 1) := by decide +kernel
theorem dX1_judgeTurn_25 : decode mX1_judgeTurn.2.1 25 = .ok (.if_icmp .eq 17, 3) := by decide +kernel
theorem dX1_judgeTurn_28 : decode mX1_judgeTurn.2.1 28 = .ok (.iload_n 3, 1) := by decide +kernel
theorem dX1_judgeTurn_29 : decode mX1_judgeTurn.2.1 29 = .ok (.iload_n 2, 1) := by decide +kernel
theorem dX1_judgeTurn_30 : decode mX1_judgeTurn.2.1 30 = .ok (.iconst 4, 1) := by decide +kernel
theorem dX1_judgeTurn_31 : decode mX1_judgeTurn.2.1 31 = .ok (.if_icmp .ge 7, 3) := by decide +kernel
theorem dX1_judgeTurn_34 : decode mX1_judgeTurn.2.1 34 = .ok (.iconst 1, 1) := by decide +kernel
theorem dX1_judgeTurn_35 : decode mX1_judgeTurn.2.1 35 = .ok (.goto 4, 3) := by decide +kernel
theorem dX1_judgeTurn_38 : decode mX1_judgeTurn.2.1 38 = .ok (.iconst 0, 1) := by decide +kernel
theorem dX1_judgeTurn_39 : decode mX1_judgeTurn.2.1 39 = .ok (.if_icmp .ne 7, 3) := by decide +kernel
theorem dX1_judgeTurn_42 : decode mX1_judgeTurn.2.1 42 = .ok (.iconst 1, 1) := by decide +kernel
theorem dX1_judgeTurn_43 : decode mX1_judgeTurn.2.1 43 = .ok (.goto 4, 3) := by decide +kernel
theorem dX1_judgeTurn_46 : decode mX1_judgeTurn.2.1 46 = .ok (.iconst 0, 1) := by decide +kernel
theorem dX1_judgeTurn_47 : decode mX1_judgeTurn.2.1 47 = .ok (.istore 4, 2) := by decide +kernel
theorem dX1_judgeTurn_49 : decode mX1_judgeTurn.2.1 49 = .ok (.aload_n 1, 1) := by decide +kernel
theorem dX1_judgeTurn_50 : decode mX1_judgeTurn.2.1 50 = .ok (.dup, 1) := by decide +kernel
theorem dX1_judgeTurn_51 : decode mX1_judgeTurn.2.1 51 = .ok (.getfield 203, 3) := by decide +kernel
theorem dX1_judgeTurn_54 : decode mX1_judgeTurn.2.1 54 = .ok (.iload 4, 2) := by decide +kernel
theorem dX1_judgeTurn_56 : decode mX1_judgeTurn.2.1 56 = .ok (.ifCond .eq 7, 3) := by decide +kernel
theorem dX1_judgeTurn_59 : decode mX1_judgeTurn.2.1 59 = .ok (.iconst 0, 1) := by decide +kernel
theorem dX1_judgeTurn_60 : decode mX1_judgeTurn.2.1 60 = .ok (.goto 4, 3) := by decide +kernel
theorem dX1_judgeTurn_63 : decode mX1_judgeTurn.2.1 63 = .ok (.iconst 1, 1) := by decide +kernel
theorem dX1_judgeTurn_64 : decode mX1_judgeTurn.2.1 64 = .ok (.iadd, 1) := by decide +kernel
theorem dX1_judgeTurn_65 : decode mX1_judgeTurn.2.1 65 = .ok (.putfield 203, 3) := by decide +kernel
theorem dX1_judgeTurn_68 : decode mX1_judgeTurn.2.1 68 = .ok (.return_, 1) := by decide +kernel
theorem dX1_aimWheel_0 : decode mX1_aimWheel.2.1 0 = .ok (.iconst 0, 1) := by decide +kernel
theorem dX1_aimWheel_1 : decode mX1_aimWheel.2.1 1 = .ok (.istore_n 3, 1) := by decide +kernel
theorem dX1_aimWheel_2 : decode mX1_aimWheel.2.1 2 = .ok (.iload_n 3, 1) := by decide +kernel
theorem dX1_aimWheel_3 : decode mX1_aimWheel.2.1 3 = .ok (.aload_n 0, 1) := by decide +kernel
theorem dX1_aimWheel_4 : decode mX1_aimWheel.2.1 4 = .ok (.getfield 30, 3) := by decide +kernel
theorem dX1_aimWheel_7 : decode mX1_aimWheel.2.1 7 = .ok (.if_icmp .ge 67, 3) := by decide +kernel
theorem dX1_aimWheel_10 : decode mX1_aimWheel.2.1 10 = .ok (.aload_n 0, 1) := by decide +kernel
theorem dX1_aimWheel_11 : decode mX1_aimWheel.2.1 11 = .ok (.getfield 24, 3) := by decide +kernel
theorem dX1_aimWheel_14 : decode mX1_aimWheel.2.1 14 = .ok (.iload_n 3, 1) := by decide +kernel
theorem dX1_aimWheel_15 : decode mX1_aimWheel.2.1 15 = .ok (.aload_n 1, 1) := by decide +kernel
theorem dX1_aimWheel_16 : decode mX1_aimWheel.2.1 16 = .ok (.aload_n 0, 1) := by decide +kernel
theorem dX1_aimWheel_17 : decode mX1_aimWheel.2.1 17 = .ok (.getfield 45, 3) := by decide +kernel
theorem dX1_aimWheel_20 : decode mX1_aimWheel.2.1 20 = .ok (.aload_n 0, 1) := by decide +kernel
theorem dX1_aimWheel_21 : decode mX1_aimWheel.2.1 21 = .ok (.getfield 20, 3) := by decide +kernel
theorem dX1_aimWheel_24 : decode mX1_aimWheel.2.1 24 = .ok (.iconst 0, 1) := by decide +kernel
theorem dX1_aimWheel_25 : decode mX1_aimWheel.2.1 25 = .ok (.iaload, 1) := by decide +kernel
theorem dX1_aimWheel_26 : decode mX1_aimWheel.2.1 26 = .ok (.invokevirtual 183, 3) := by decide +kernel
theorem dX1_aimWheel_29 : decode mX1_aimWheel.2.1 29 = .ok (.iload_n 2, 1) := by decide +kernel
theorem dX1_aimWheel_30 : decode mX1_aimWheel.2.1 30 = .ok (.aload_n 0, 1) := by decide +kernel
theorem dX1_aimWheel_31 : decode mX1_aimWheel.2.1 31 = .ok (.aload_n 1, 1) := by decide +kernel
theorem dX1_aimWheel_32 : decode mX1_aimWheel.2.1 32 = .ok (.iload_n 3, 1) := by decide +kernel
theorem dX1_aimWheel_33 : decode mX1_aimWheel.2.1 33 = .ok (.invokevirtual 206, 3) := by decide +kernel
theorem dX1_aimWheel_36 : decode mX1_aimWheel.2.1 36 = .ok (.imul, 1) := by decide +kernel
theorem dX1_aimWheel_37 : decode mX1_aimWheel.2.1 37 = .ok (.isub, 1) := by decide +kernel
theorem dX1_aimWheel_38 : decode mX1_aimWheel.2.1 38 = .ok (.iastore, 1) := by decide +kernel
theorem dX1_aimWheel_39 : decode mX1_aimWheel.2.1 39 = .ok (.aload_n 0, 1) := by decide +kernel
theorem dX1_aimWheel_40 : decode mX1_aimWheel.2.1 40 = .ok (.getfield 27, 3) := by decide +kernel
theorem dX1_aimWheel_43 : decode mX1_aimWheel.2.1 43 = .ok (.iload_n 3, 1) := by decide +kernel
theorem dX1_aimWheel_44 : decode mX1_aimWheel.2.1 44 = .ok (.aload_n 1, 1) := by decide +kernel
theorem dX1_aimWheel_45 : decode mX1_aimWheel.2.1 45 = .ok (.aload_n 0, 1) := by decide +kernel
theorem dX1_aimWheel_46 : decode mX1_aimWheel.2.1 46 = .ok (.getfield 45, 3) := by decide +kernel
theorem dX1_aimWheel_49 : decode mX1_aimWheel.2.1 49 = .ok (.aload_n 0, 1) := by decide +kernel
theorem dX1_aimWheel_50 : decode mX1_aimWheel.2.1 50 = .ok (.getfield 20, 3) := by decide +kernel
theorem dX1_aimWheel_53 : decode mX1_aimWheel.2.1 53 = .ok (.iconst 0, 1) := by decide +kernel
theorem dX1_aimWheel_54 : decode mX1_aimWheel.2.1 54 = .ok (.iaload, 1) := by decide +kernel
theorem dX1_aimWheel_55 : decode mX1_aimWheel.2.1 55 = .ok (.invokevirtual 189, 3) := by decide +kernel
theorem dX1_aimWheel_58 : decode mX1_aimWheel.2.1 58 = .ok (.iload_n 2, 1) := by decide +kernel
theorem dX1_aimWheel_59 : decode mX1_aimWheel.2.1 59 = .ok (.aload_n 0, 1) := by decide +kernel
theorem dX1_aimWheel_60 : decode mX1_aimWheel.2.1 60 = .ok (.aload_n 1, 1) := by decide +kernel
theorem dX1_aimWheel_61 : decode mX1_aimWheel.2.1 61 = .ok (.iload_n 3, 1) := by decide +kernel
theorem dX1_aimWheel_62 : decode mX1_aimWheel.2.1 62 = .ok (.invokevirtual 210, 3) := by decide +kernel
theorem dX1_aimWheel_65 : decode mX1_aimWheel.2.1 65 = .ok (.imul, 1) := by decide +kernel
theorem dX1_aimWheel_66 : decode mX1_aimWheel.2.1 66 = .ok (.iadd, 1) := by decide +kernel
theorem dX1_aimWheel_67 : decode mX1_aimWheel.2.1 67 = .ok (.iastore, 1) := by decide +kernel
theorem dX1_aimWheel_68 : decode mX1_aimWheel.2.1 68 = .ok (.iinc 3 1, 3) := by decide +kernel
theorem dX1_aimWheel_71 : decode mX1_aimWheel.2.1 71 = .ok (.goto (-69), 3) := by decide +kernel
theorem dX1_aimWheel_74 : decode mX1_aimWheel.2.1 74 = .ok (.return_, 1) := by decide +kernel
theorem dX1_aimOpen_0 : decode mX1_aimOpen.2.1 0 = .ok (.iconst 0, 1) := by decide +kernel
theorem dX1_aimOpen_1 : decode mX1_aimOpen.2.1 1 = .ok (.istore_n 3, 1) := by decide +kernel
theorem dX1_aimOpen_2 : decode mX1_aimOpen.2.1 2 = .ok (.iload_n 3, 1) := by decide +kernel
theorem dX1_aimOpen_3 : decode mX1_aimOpen.2.1 3 = .ok (.aload_n 0, 1) := by decide +kernel
theorem dX1_aimOpen_4 : decode mX1_aimOpen.2.1 4 = .ok (.getfield 30, 3) := by decide +kernel
theorem dX1_aimOpen_7 : decode mX1_aimOpen.2.1 7 = .ok (.if_icmp .ge 67, 3) := by decide +kernel
theorem dX1_aimOpen_10 : decode mX1_aimOpen.2.1 10 = .ok (.aload_n 0, 1) := by decide +kernel
theorem dX1_aimOpen_11 : decode mX1_aimOpen.2.1 11 = .ok (.getfield 24, 3) := by decide +kernel
theorem dX1_aimOpen_14 : decode mX1_aimOpen.2.1 14 = .ok (.iload_n 3, 1) := by decide +kernel
theorem dX1_aimOpen_15 : decode mX1_aimOpen.2.1 15 = .ok (.aload_n 1, 1) := by decide +kernel
theorem dX1_aimOpen_16 : decode mX1_aimOpen.2.1 16 = .ok (.aload_n 0, 1) := by decide +kernel
theorem dX1_aimOpen_17 : decode mX1_aimOpen.2.1 17 = .ok (.getfield 45, 3) := by decide +kernel
theorem dX1_aimOpen_20 : decode mX1_aimOpen.2.1 20 = .ok (.aload_n 0, 1) := by decide +kernel
theorem dX1_aimOpen_21 : decode mX1_aimOpen.2.1 21 = .ok (.getfield 20, 3) := by decide +kernel
theorem dX1_aimOpen_24 : decode mX1_aimOpen.2.1 24 = .ok (.iconst 0, 1) := by decide +kernel
theorem dX1_aimOpen_25 : decode mX1_aimOpen.2.1 25 = .ok (.iaload, 1) := by decide +kernel
theorem dX1_aimOpen_26 : decode mX1_aimOpen.2.1 26 = .ok (.invokevirtual 183, 3) := by decide +kernel
theorem dX1_aimOpen_29 : decode mX1_aimOpen.2.1 29 = .ok (.iload_n 2, 1) := by decide +kernel
theorem dX1_aimOpen_30 : decode mX1_aimOpen.2.1 30 = .ok (.aload_n 0, 1) := by decide +kernel
theorem dX1_aimOpen_31 : decode mX1_aimOpen.2.1 31 = .ok (.aload_n 1, 1) := by decide +kernel
theorem dX1_aimOpen_32 : decode mX1_aimOpen.2.1 32 = .ok (.iload_n 3, 1) := by decide +kernel
theorem dX1_aimOpen_33 : decode mX1_aimOpen.2.1 33 = .ok (.invokevirtual 210, 3) := by decide +kernel
theorem dX1_aimOpen_36 : decode mX1_aimOpen.2.1 36 = .ok (.imul, 1) := by decide +kernel
theorem dX1_aimOpen_37 : decode mX1_aimOpen.2.1 37 = .ok (.iadd, 1) := by decide +kernel
theorem dX1_aimOpen_38 : decode mX1_aimOpen.2.1 38 = .ok (.iastore, 1) := by decide +kernel
theorem dX1_aimOpen_39 : decode mX1_aimOpen.2.1 39 = .ok (.aload_n 0, 1) := by decide +kernel
theorem dX1_aimOpen_40 : decode mX1_aimOpen.2.1 40 = .ok (.getfield 27, 3) := by decide +kernel
theorem dX1_aimOpen_43 : decode mX1_aimOpen.2.1 43 = .ok (.iload_n 3, 1) := by decide +kernel
theorem dX1_aimOpen_44 : decode mX1_aimOpen.2.1 44 = .ok (.aload_n 1, 1) := by decide +kernel
theorem dX1_aimOpen_45 : decode mX1_aimOpen.2.1 45 = .ok (.aload_n 0, 1) := by decide +kernel
theorem dX1_aimOpen_46 : decode mX1_aimOpen.2.1 46 = .ok (.getfield 45, 3) := by decide +kernel
theorem dX1_aimOpen_49 : decode mX1_aimOpen.2.1 49 = .ok (.aload_n 0, 1) := by decide +kernel
theorem dX1_aimOpen_50 : decode mX1_aimOpen.2.1 50 = .ok (.getfield 20, 3) := by decide +kernel
theorem dX1_aimOpen_53 : decode mX1_aimOpen.2.1 53 = .ok (.iconst 0, 1) := by decide +kernel
theorem dX1_aimOpen_54 : decode mX1_aimOpen.2.1 54 = .ok (.iaload, 1) := by decide +kernel
theorem dX1_aimOpen_55 : decode mX1_aimOpen.2.1 55 = .ok (.invokevirtual 189, 3) := by decide +kernel
theorem dX1_aimOpen_58 : decode mX1_aimOpen.2.1 58 = .ok (.iload_n 2, 1) := by decide +kernel
theorem dX1_aimOpen_59 : decode mX1_aimOpen.2.1 59 = .ok (.aload_n 0, 1) := by decide +kernel
theorem dX1_aimOpen_60 : decode mX1_aimOpen.2.1 60 = .ok (.aload_n 1, 1) := by decide +kernel
theorem dX1_aimOpen_61 : decode mX1_aimOpen.2.1 61 = .ok (.iload_n 3, 1) := by decide +kernel
theorem dX1_aimOpen_62 : decode mX1_aimOpen.2.1 62 = .ok (.invokevirtual 206, 3) := by decide +kernel
theorem dX1_aimOpen_65 : decode mX1_aimOpen.2.1 65 = .ok (.imul, 1) := by decide +kernel
theorem dX1_aimOpen_66 : decode mX1_aimOpen.2.1 66 = .ok (.iadd, 1) := by decide +kernel
theorem dX1_aimOpen_67 : decode mX1_aimOpen.2.1 67 = .ok (.iastore, 1) := by decide +kernel
theorem dX1_aimOpen_68 : decode mX1_aimOpen.2.1 68 = .ok (.iinc 3 1, 3) := by decide +kernel
theorem dX1_aimOpen_71 : decode mX1_aimOpen.2.1 71 = .ok (.goto (-69), 3) := by decide +kernel
theorem dX1_aimOpen_74 : decode mX1_aimOpen.2.1 74 = .ok (.return_, 1) := by decide +kernel
theorem dX1_aimClose_0 : decode mX1_aimClose.2.1 0 = .ok (.iload_n 2, 1) := by decide +kernel
theorem dX1_aimClose_1 : decode mX1_aimClose.2.1 1 = .ok (.iconst 1, 1) := by decide +kernel
theorem dX1_aimClose_2 : decode mX1_aimClose.2.1 2 = .ok (.if_icmp .ge 4, 3) := by decide +kernel
theorem dX1_aimClose_5 : decode mX1_aimClose.2.1 5 = .ok (.return_, 1) := by decide +kernel
theorem dX1_aimClose_6 : decode mX1_aimClose.2.1 6 = .ok (.iconst 0, 1) := by decide +kernel
theorem dX1_aimClose_7 : decode mX1_aimClose.2.1 7 = .ok (.istore_n 3, 1) := by decide +kernel
theorem dX1_aimClose_8 : decode mX1_aimClose.2.1 8 = .ok (.iload_n 3, 1) := by decide +kernel
theorem dX1_aimClose_9 : decode mX1_aimClose.2.1 9 = .ok (.aload_n 0, 1) := by decide +kernel
theorem dX1_aimClose_10 : decode mX1_aimClose.2.1 10 = .ok (.getfield 30, 3) := by decide +kernel
theorem dX1_aimClose_13 : decode mX1_aimClose.2.1 13 = .ok (.if_icmp .ge 94, 3) := by decide +kernel
theorem dX1_aimClose_16 : decode mX1_aimClose.2.1 16 = .ok (.aload_n 0, 1) := by decide +kernel
theorem dX1_aimClose_17 : decode mX1_aimClose.2.1 17 = .ok (.aload_n 1, 1) := by decide +kernel
theorem dX1_aimClose_18 : decode mX1_aimClose.2.1 18 = .ok (.iload_n 3, 1) := by decide +kernel
theorem dX1_aimClose_19 : decode mX1_aimClose.2.1 19 = .ok (.invokevirtual 210, 3) := by decide +kernel
theorem dX1_aimClose_22 : decode mX1_aimClose.2.1 22 = .ok (.istore 4, 2) := by decide +kernel
theorem dX1_aimClose_24 : decode mX1_aimClose.2.1 24 = .ok (.aload_n 0, 1) := by decide +kernel
theorem dX1_aimClose_25 : decode mX1_aimClose.2.1 25 = .ok (.aload_n 1, 1) := by decide +kernel
theorem dX1_aimClose_26 : decode mX1_aimClose.2.1 26 = .ok (.iload_n 3, 1) := by decide +kernel
theorem dX1_aimClose_27 : decode mX1_aimClose.2.1 27 = .ok (.invokevirtual 206, 3) := by decide +kernel
theorem dX1_aimClose_30 : decode mX1_aimClose.2.1 30 = .ok (.istore 5, 2) := by decide +kernel
theorem dX1_aimClose_32 : decode mX1_aimClose.2.1 32 = .ok (.iload 4, 2) := by decide +kernel
theorem dX1_aimClose_34 : decode mX1_aimClose.2.1 34 = .ok (.iload_n 2, 1) := by decide +kernel
theorem dX1_aimClose_35 : decode mX1_aimClose.2.1 35 = .ok (.irem, 1) := by decide +kernel
theorem dX1_aimClose_36 : decode mX1_aimClose.2.1 36 = .ok (.ifCond .ne 10, 3) := by decide +kernel
theorem dX1_aimClose_39 : decode mX1_aimClose.2.1 39 = .ok (.iload 5, 2) := by decide +kernel
theorem dX1_aimClose_41 : decode mX1_aimClose.2.1 41 = .ok (.iload_n 2, 1) := by decide +kernel
theorem dX1_aimClose_42 : decode mX1_aimClose.2.1 42 = .ok (.irem, 1) := by decide +kernel
theorem dX1_aimClose_43 : decode mX1_aimClose.2.1 43 = .ok (.ifCond .eq 8, 3) := by decide +kernel
theorem dX1_aimClose_46 : decode mX1_aimClose.2.1 46 = .ok (.aload_n 0, 1) := by decide +kernel
theorem dX1_aimClose_47 : decode mX1_aimClose.2.1 47 = .ok (.iconst 3, 1) := by decide +kernel
theorem dX1_aimClose_48 : decode mX1_aimClose.2.1 48 = .ok (.invokevirtual 133, 3) := by decide +kernel
theorem dX1_aimClose_51 : decode mX1_aimClose.2.1 51 = .ok (.aload_n 0, 1) := by decide +kernel
theorem dX1_aimClose_52 : decode mX1_aimClose.2.1 52 = .ok (.getfield 24, 3) := by decide +kernel
theorem dX1_aimClose_55 : decode mX1_aimClose.2.1 55 = .ok (.iload_n 3, 1) := by decide +kernel
theorem dX1_aimClose_56 : decode mX1_aimClose.2.1 56 = .ok (.aload_n 1, 1) := by decide +kernel
theorem dX1_aimClose_57 : decode mX1_aimClose.2.1 57 = .ok (.aload_n 0, 1) := by decide +kernel
theorem dX1_aimClose_58 : decode mX1_aimClose.2.1 58 = .ok (.getfield 45, 3) := by decide +kernel
theorem dX1_aimClose_61 : decode mX1_aimClose.2.1 61 = .ok (.aload_n 0, 1) := by decide +kernel
theorem dX1_aimClose_62 : decode mX1_aimClose.2.1 62 = .ok (.getfield 20, 3) := by decide +kernel
theorem dX1_aimClose_65 : decode mX1_aimClose.2.1 65 = .ok (.iconst 0, 1) := by decide +kernel
theorem dX1_aimClose_66 : decode mX1_aimClose.2.1 66 = .ok (.iaload, 1) := by decide +kernel
theorem dX1_aimClose_67 : decode mX1_aimClose.2.1 67 = .ok (.invokevirtual 183, 3) := by decide +kernel
theorem dX1_aimClose_70 : decode mX1_aimClose.2.1 70 = .ok (.iload 4, 2) := by decide +kernel
theorem dX1_aimClose_72 : decode mX1_aimClose.2.1 72 = .ok (.iload_n 2, 1) := by decide +kernel
theorem dX1_aimClose_73 : decode mX1_aimClose.2.1 73 = .ok (.idiv, 1) := by decide +kernel
theorem dX1_aimClose_74 : decode mX1_aimClose.2.1 74 = .ok (.iadd, 1) := by decide +kernel
theorem dX1_aimClose_75 : decode mX1_aimClose.2.1 75 = .ok (.iastore, 1) := by decide +kernel
theorem dX1_aimClose_76 : decode mX1_aimClose.2.1 76 = .ok (.aload_n 0, 1) := by decide +kernel
theorem dX1_aimClose_77 : decode mX1_aimClose.2.1 77 = .ok (.getfield 27, 3) := by decide +kernel
theorem dX1_aimClose_80 : decode mX1_aimClose.2.1 80 = .ok (.iload_n 3, 1) := by decide +kernel
theorem dX1_aimClose_81 : decode mX1_aimClose.2.1 81 = .ok (.aload_n 1, 1) := by decide +kernel
theorem dX1_aimClose_82 : decode mX1_aimClose.2.1 82 = .ok (.aload_n 0, 1) := by decide +kernel
theorem dX1_aimClose_83 : decode mX1_aimClose.2.1 83 = .ok (.getfield 45, 3) := by decide +kernel
theorem dX1_aimClose_86 : decode mX1_aimClose.2.1 86 = .ok (.aload_n 0, 1) := by decide +kernel
theorem dX1_aimClose_87 : decode mX1_aimClose.2.1 87 = .ok (.getfield 20, 3) := by decide +kernel
theorem dX1_aimClose_90 : decode mX1_aimClose.2.1 90 = .ok (.iconst 0, 1) := by decide +kernel
theorem dX1_aimClose_91 : decode mX1_aimClose.2.1 91 = .ok (.iaload, 1) := by decide +kernel
theorem dX1_aimClose_92 : decode mX1_aimClose.2.1 92 = .ok (.invokevirtual 189, 3) := by decide +kernel
theorem dX1_aimClose_95 : decode mX1_aimClose.2.1 95 = .ok (.iload 5, 2) := by decide +kernel
theorem dX1_aimClose_97 : decode mX1_aimClose.2.1 97 = .ok (.iload_n 2, 1) := by decide +kernel
theorem dX1_aimClose_98 : decode mX1_aimClose.2.1 98 = .ok (.idiv, 1) := by decide +kernel
theorem dX1_aimClose_99 : decode mX1_aimClose.2.1 99 = .ok (.iadd, 1) := by decide +kernel
theorem dX1_aimClose_100 : decode mX1_aimClose.2.1 100 = .ok (.iastore, 1) := by decide +kernel
theorem dX1_aimClose_101 : decode mX1_aimClose.2.1 101 = .ok (.iinc 3 1, 3) := by decide +kernel
theorem dX1_aimClose_104 : decode mX1_aimClose.2.1 104 = .ok (.goto (-96), 3) := by decide +kernel
theorem dX1_aimClose_107 : decode mX1_aimClose.2.1 107 = .ok (.return_, 1) := by decide +kernel
theorem dX1_aimShift_0 : decode mX1_aimShift.2.1 0 = .ok (.iconst 0, 1) := by decide +kernel
theorem dX1_aimShift_1 : decode mX1_aimShift.2.1 1 = .ok (.istore 4, 2) := by decide +kernel
theorem dX1_aimShift_3 : decode mX1_aimShift.2.1 3 = .ok (.iload 4, 2) := by decide +kernel
theorem dX1_aimShift_5 : decode mX1_aimShift.2.1 5 = .ok (.aload_n 0, 1) := by decide +kernel
theorem dX1_aimShift_6 : decode mX1_aimShift.2.1 6 = .ok (.getfield 30, 3) := by decide +kernel
theorem dX1_aimShift_9 : decode mX1_aimShift.2.1 9 = .ok (.if_icmp .ge 57, 3) := by decide +kernel
theorem dX1_aimShift_12 : decode mX1_aimShift.2.1 12 = .ok (.aload_n 0, 1) := by decide +kernel
theorem dX1_aimShift_13 : decode mX1_aimShift.2.1 13 = .ok (.getfield 24, 3) := by decide +kernel
theorem dX1_aimShift_16 : decode mX1_aimShift.2.1 16 = .ok (.iload 4, 2) := by decide +kernel
theorem dX1_aimShift_18 : decode mX1_aimShift.2.1 18 = .ok (.aload_n 1, 1) := by decide +kernel
theorem dX1_aimShift_19 : decode mX1_aimShift.2.1 19 = .ok (.aload_n 0, 1) := by decide +kernel
theorem dX1_aimShift_20 : decode mX1_aimShift.2.1 20 = .ok (.getfield 45, 3) := by decide +kernel
theorem dX1_aimShift_23 : decode mX1_aimShift.2.1 23 = .ok (.aload_n 0, 1) := by decide +kernel
theorem dX1_aimShift_24 : decode mX1_aimShift.2.1 24 = .ok (.getfield 20, 3) := by decide +kernel
theorem dX1_aimShift_27 : decode mX1_aimShift.2.1 27 = .ok (.iload 4, 2) := by decide +kernel
theorem dX1_aimShift_29 : decode mX1_aimShift.2.1 29 = .ok (.iaload, 1) := by decide +kernel
theorem dX1_aimShift_30 : decode mX1_aimShift.2.1 30 = .ok (.invokevirtual 183, 3) := by decide +kernel
theorem dX1_aimShift_33 : decode mX1_aimShift.2.1 33 = .ok (.iload_n 2, 1) := by decide +kernel
theorem dX1_aimShift_34 : decode mX1_aimShift.2.1 34 = .ok (.iadd, 1) := by decide +kernel
theorem dX1_aimShift_35 : decode mX1_aimShift.2.1 35 = .ok (.iastore, 1) := by decide +kernel
theorem dX1_aimShift_36 : decode mX1_aimShift.2.1 36 = .ok (.aload_n 0, 1) := by decide +kernel
theorem dX1_aimShift_37 : decode mX1_aimShift.2.1 37 = .ok (.getfield 27, 3) := by decide +kernel
theorem dX1_aimShift_40 : decode mX1_aimShift.2.1 40 = .ok (.iload 4, 2) := by decide +kernel
theorem dX1_aimShift_42 : decode mX1_aimShift.2.1 42 = .ok (.aload_n 1, 1) := by decide +kernel
theorem dX1_aimShift_43 : decode mX1_aimShift.2.1 43 = .ok (.aload_n 0, 1) := by decide +kernel
theorem dX1_aimShift_44 : decode mX1_aimShift.2.1 44 = .ok (.getfield 45, 3) := by decide +kernel
theorem dX1_aimShift_47 : decode mX1_aimShift.2.1 47 = .ok (.aload_n 0, 1) := by decide +kernel
theorem dX1_aimShift_48 : decode mX1_aimShift.2.1 48 = .ok (.getfield 20, 3) := by decide +kernel
theorem dX1_aimShift_51 : decode mX1_aimShift.2.1 51 = .ok (.iload 4, 2) := by decide +kernel
theorem dX1_aimShift_53 : decode mX1_aimShift.2.1 53 = .ok (.iaload, 1) := by decide +kernel
theorem dX1_aimShift_54 : decode mX1_aimShift.2.1 54 = .ok (.invokevirtual 189, 3) := by decide +kernel
theorem dX1_aimShift_57 : decode mX1_aimShift.2.1 57 = .ok (.iload_n 3, 1) := by decide +kernel
theorem dX1_aimShift_58 : decode mX1_aimShift.2.1 58 = .ok (.iadd, 1) := by decide +kernel
theorem dX1_aimShift_59 : decode mX1_aimShift.2.1 59 = .ok (.iastore, 1) := by decide +kernel
theorem dX1_aimShift_60 : decode mX1_aimShift.2.1 60 = .ok (.iinc 4 1, 3) := by decide +kernel
theorem dX1_aimShift_63 : decode mX1_aimShift.2.1 63 = .ok (.goto (-60), 3) := by decide +kernel
theorem dX1_aimShift_66 : decode mX1_aimShift.2.1 66 = .ok (.return_, 1) := by decide +kernel
theorem dX1_eastFromPivot_0 : decode mX1_eastFromPivot.2.1 0 = .ok (.aload_n 1, 1) := by decide +kernel
theorem dX1_eastFromPivot_1 : decode mX1_eastFromPivot.2.1 1 = .ok (.aload_n 0, 1) := by decide +kernel
theorem dX1_eastFromPivot_2 : decode mX1_eastFromPivot.2.1 2 = .ok (.getfield 45, 3) := by decide +kernel
theorem dX1_eastFromPivot_5 : decode mX1_eastFromPivot.2.1 5 = .ok (.aload_n 0, 1) := by decide +kernel
theorem dX1_eastFromPivot_6 : decode mX1_eastFromPivot.2.1 6 = .ok (.getfield 20, 3) := by decide +kernel
theorem dX1_eastFromPivot_9 : decode mX1_eastFromPivot.2.1 9 = .ok (.iload_n 2, 1) := by decide +kernel
theorem dX1_eastFromPivot_10 : decode mX1_eastFromPivot.2.1 10 = .ok (.iaload, 1) := by decide +kernel
theorem dX1_eastFromPivot_11 : decode mX1_eastFromPivot.2.1 11 = .ok (.invokevirtual 183, 3) := by decide +kernel
theorem dX1_eastFromPivot_14 : decode mX1_eastFromPivot.2.1 14 = .ok (.aload_n 1, 1) := by decide +kernel
theorem dX1_eastFromPivot_15 : decode mX1_eastFromPivot.2.1 15 = .ok (.aload_n 0, 1) := by decide +kernel
theorem dX1_eastFromPivot_16 : decode mX1_eastFromPivot.2.1 16 = .ok (.getfield 45, 3) := by decide +kernel
theorem dX1_eastFromPivot_19 : decode mX1_eastFromPivot.2.1 19 = .ok (.aload_n 0, 1) := by decide +kernel
theorem dX1_eastFromPivot_20 : decode mX1_eastFromPivot.2.1 20 = .ok (.getfield 20, 3) := by decide +kernel
theorem dX1_eastFromPivot_23 : decode mX1_eastFromPivot.2.1 23 = .ok (.iconst 0, 1) := by decide +kernel
theorem dX1_eastFromPivot_24 : decode mX1_eastFromPivot.2.1 24 = .ok (.iaload, 1) := by decide +kernel
theorem dX1_eastFromPivot_25 : decode mX1_eastFromPivot.2.1 25 = .ok (.invokevirtual 183, 3) := by decide +kernel
theorem dX1_eastFromPivot_28 : decode mX1_eastFromPivot.2.1 28 = .ok (.isub, 1) := by decide +kernel
theorem dX1_eastFromPivot_29 : decode mX1_eastFromPivot.2.1 29 = .ok (.ireturn, 1) := by decide +kernel
theorem dX1_northFromPivot_0 : decode mX1_northFromPivot.2.1 0 = .ok (.aload_n 1, 1) := by decide +kernel
theorem dX1_northFromPivot_1 : decode mX1_northFromPivot.2.1 1 = .ok (.aload_n 0, 1) := by decide +kernel
theorem dX1_northFromPivot_2 : decode mX1_northFromPivot.2.1 2 = .ok (.getfield 45, 3) := by decide +kernel
theorem dX1_northFromPivot_5 : decode mX1_northFromPivot.2.1 5 = .ok (.aload_n 0, 1) := by decide +kernel
theorem dX1_northFromPivot_6 : decode mX1_northFromPivot.2.1 6 = .ok (.getfield 20, 3) := by decide +kernel
theorem dX1_northFromPivot_9 : decode mX1_northFromPivot.2.1 9 = .ok (.iload_n 2, 1) := by decide +kernel
theorem dX1_northFromPivot_10 : decode mX1_northFromPivot.2.1 10 = .ok (.iaload, 1) := by decide +kernel
theorem dX1_northFromPivot_11 : decode mX1_northFromPivot.2.1 11 = .ok (.invokevirtual 189, 3) := by decide +kernel
theorem dX1_northFromPivot_14 : decode mX1_northFromPivot.2.1 14 = .ok (.aload_n 1, 1) := by decide +kernel
theorem dX1_northFromPivot_15 : decode mX1_northFromPivot.2.1 15 = .ok (.aload_n 0, 1) := by decide +kernel
theorem dX1_northFromPivot_16 : decode mX1_northFromPivot.2.1 16 = .ok (.getfield 45, 3) := by decide +kernel
theorem dX1_northFromPivot_19 : decode mX1_northFromPivot.2.1 19 = .ok (.aload_n 0, 1) := by decide +kernel
theorem dX1_northFromPivot_20 : decode mX1_northFromPivot.2.1 20 = .ok (.getfield 20, 3) := by decide +kernel
theorem dX1_northFromPivot_23 : decode mX1_northFromPivot.2.1 23 = .ok (.iconst 0, 1) := by decide +kernel
theorem dX1_northFromPivot_24 : decode mX1_northFromPivot.2.1 24 = .ok (.iaload, 1) := by decide +kernel
theorem dX1_northFromPivot_25 : decode mX1_northFromPivot.2.1 25 = .ok (.invokevirtual 189, 3) := by decide +kernel
theorem dX1_northFromPivot_28 : decode mX1_northFromPivot.2.1 28 = .ok (.isub, 1) := by decide +kernel
theorem dX1_northFromPivot_29 : decode mX1_northFromPivot.2.1 29 = .ok (.ireturn, 1) := by decide +kernel
theorem dX1_slide_0 : decode mX1_slide.2.1 0 = .ok (.aload_n 0, 1) := by decide +kernel
theorem dX1_slide_1 : decode mX1_slide.2.1 1 = .ok (.getfield 45, 3) := by decide +kernel
theorem dX1_slide_4 : decode mX1_slide.2.1 4 = .ok (.istore_n 3, 1) := by decide +kernel
theorem dX1_slide_5 : decode mX1_slide.2.1 5 = .ok (.iconst 1, 1) := by decide +kernel
theorem dX1_slide_6 : decode mX1_slide.2.1 6 = .ok (.istore 4, 2) := by decide +kernel
theorem dX1_slide_8 : decode mX1_slide.2.1 8 = .ok (.iload 4, 2) := by decide +kernel
theorem dX1_slide_10 : decode mX1_slide.2.1 10 = .ok (.iload_n 2, 1) := by decide +kernel
theorem dX1_slide_11 : decode mX1_slide.2.1 11 = .ok (.if_icmp .gt 126, 3) := by decide +kernel
theorem dX1_slide_14 : decode mX1_slide.2.1 14 = .ok (.aload_n 0, 1) := by decide +kernel
theorem dX1_slide_15 : decode mX1_slide.2.1 15 = .ok (.getfield 11, 3) := by decide +kernel
theorem dX1_slide_18 : decode mX1_slide.2.1 18 = .ok (.ifCond .ne 119, 3) := by decide +kernel
theorem dX1_slide_21 : decode mX1_slide.2.1 21 = .ok (.aload_n 0, 1) := by decide +kernel
theorem dX1_slide_22 : decode mX1_slide.2.1 22 = .ok (.dup, 1) := by decide +kernel
theorem dX1_slide_23 : decode mX1_slide.2.1 23 = .ok (.getfield 45, 3) := by decide +kernel
theorem dX1_slide_26 : decode mX1_slide.2.1 26 = .ok (.iconst 1, 1) := by decide +kernel
theorem dX1_slide_27 : decode mX1_slide.2.1 27 = .ok (.iadd, 1) := by decide +kernel
theorem dX1_slide_28 : decode mX1_slide.2.1 28 = .ok (.putfield 45, 3) := by decide +kernel
theorem dX1_slide_31 : decode mX1_slide.2.1 31 = .ok (.iconst 0, 1) := by decide +kernel
theorem dX1_slide_32 : decode mX1_slide.2.1 32 = .ok (.istore 5, 2) := by decide +kernel
theorem dX1_slide_34 : decode mX1_slide.2.1 34 = .ok (.iload 5, 2) := by decide +kernel
theorem dX1_slide_36 : decode mX1_slide.2.1 36 = .ok (.aload_n 0, 1) := by decide +kernel
theorem dX1_slide_37 : decode mX1_slide.2.1 37 = .ok (.getfield 30, 3) := by decide +kernel
theorem dX1_slide_40 : decode mX1_slide.2.1 40 = .ok (.if_icmp .ge 91, 3) := by decide +kernel
theorem dX1_slide_43 : decode mX1_slide.2.1 43 = .ok (.aload_n 0, 1) := by decide +kernel
theorem dX1_slide_44 : decode mX1_slide.2.1 44 = .ok (.getfield 20, 3) := by decide +kernel
theorem dX1_slide_47 : decode mX1_slide.2.1 47 = .ok (.iload 5, 2) := by decide +kernel
theorem dX1_slide_49 : decode mX1_slide.2.1 49 = .ok (.iaload, 1) := by decide +kernel
theorem dX1_slide_50 : decode mX1_slide.2.1 50 = .ok (.istore 6, 2) := by decide +kernel
theorem dX1_slide_52 : decode mX1_slide.2.1 52 = .ok (.aload_n 1, 1) := by decide +kernel
theorem dX1_slide_53 : decode mX1_slide.2.1 53 = .ok (.iload_n 3, 1) := by decide +kernel
theorem dX1_slide_54 : decode mX1_slide.2.1 54 = .ok (.iload 6, 2) := by decide +kernel
theorem dX1_slide_56 : decode mX1_slide.2.1 56 = .ok (.invokevirtual 183, 3) := by decide +kernel
theorem dX1_slide_59 : decode mX1_slide.2.1 59 = .ok (.aload_n 0, 1) := by decide +kernel
theorem dX1_slide_60 : decode mX1_slide.2.1 60 = .ok (.getfield 24, 3) := by decide +kernel
theorem dX1_slide_63 : decode mX1_slide.2.1 63 = .ok (.iload 5, 2) := by decide +kernel
theorem dX1_slide_65 : decode mX1_slide.2.1 65 = .ok (.iaload, 1) := by decide +kernel
theorem dX1_slide_66 : decode mX1_slide.2.1 66 = .ok (.iload 4, 2) := by decide +kernel
theorem dX1_slide_68 : decode mX1_slide.2.1 68 = .ok (.iload_n 2, 1) := by decide +kernel
theorem dX1_slide_69 : decode mX1_slide.2.1 69 = .ok (.invokestatic 213, 3) := by decide +kernel
theorem dX1_slide_72 : decode mX1_slide.2.1 72 = .ok (.istore 7, 2) := by decide +kernel
theorem dX1_slide_74 : decode mX1_slide.2.1 74 = .ok (.aload_n 1, 1) := by decide +kernel
theorem dX1_slide_75 : decode mX1_slide.2.1 75 = .ok (.iload_n 3, 1) := by decide +kernel
theorem dX1_slide_76 : decode mX1_slide.2.1 76 = .ok (.iload 6, 2) := by decide +kernel
theorem dX1_slide_78 : decode mX1_slide.2.1 78 = .ok (.invokevirtual 189, 3) := by decide +kernel
theorem dX1_slide_81 : decode mX1_slide.2.1 81 = .ok (.aload_n 0, 1) := by decide +kernel
theorem dX1_slide_82 : decode mX1_slide.2.1 82 = .ok (.getfield 27, 3) := by decide +kernel
theorem dX1_slide_85 : decode mX1_slide.2.1 85 = .ok (.iload 5, 2) := by decide +kernel
theorem dX1_slide_87 : decode mX1_slide.2.1 87 = .ok (.iaload, 1) := by decide +kernel
theorem dX1_slide_88 : decode mX1_slide.2.1 88 = .ok (.iload 4, 2) := by decide +kernel
theorem dX1_slide_90 : decode mX1_slide.2.1 90 = .ok (.iload_n 2, 1) := by decide +kernel
theorem dX1_slide_91 : decode mX1_slide.2.1 91 = .ok (.invokestatic 213, 3) := by decide +kernel
theorem dX1_slide_94 : decode mX1_slide.2.1 94 = .ok (.istore 8, 2) := by decide +kernel
theorem dX1_slide_96 : decode mX1_slide.2.1 96 = .ok (.aload_n 1, 1) := by decide +kernel
theorem dX1_slide_97 : decode mX1_slide.2.1 97 = .ok (.aload_n 0, 1) := by decide +kernel
theorem dX1_slide_98 : decode mX1_slide.2.1 98 = .ok (.getfield 45, 3) := by decide +kernel
theorem dX1_slide_101 : decode mX1_slide.2.1 101 = .ok (.iload 6, 2) := by decide +kernel
theorem dX1_slide_103 : decode mX1_slide.2.1 103 = .ok (.iload 7, 2) := by decide +kernel
theorem dX1_slide_105 : decode mX1_slide.2.1 105 = .ok (.iload 8, 2) := by decide +kernel
theorem dX1_slide_107 : decode mX1_slide.2.1 107 = .ok (.aload_n 1, 1) := by decide +kernel
theorem dX1_slide_108 : decode mX1_slide.2.1 108 = .ok (.iload_n 3, 1) := by decide +kernel
theorem dX1_slide_109 : decode mX1_slide.2.1 109 = .ok (.iload 6, 2) := by decide +kernel
theorem dX1_slide_111 : decode mX1_slide.2.1 111 = .ok (.invokevirtual 180, 3) := by decide +kernel
theorem dX1_slide_114 : decode mX1_slide.2.1 114 = .ok (.invokevirtual 195, 3) := by decide +kernel
theorem dX1_slide_117 : decode mX1_slide.2.1 117 = .ok (.ifCond .ne 8, 3) := by decide +kernel
theorem dX1_slide_120 : decode mX1_slide.2.1 120 = .ok (.aload_n 0, 1) := by decide +kernel
theorem dX1_slide_121 : decode mX1_slide.2.1 121 = .ok (.iconst 4, 1) := by decide +kernel
theorem dX1_slide_122 : decode mX1_slide.2.1 122 = .ok (.invokevirtual 133, 3) := by decide +kernel
theorem dX1_slide_125 : decode mX1_slide.2.1 125 = .ok (.iinc 5 1, 3) := by decide +kernel
theorem dX1_slide_128 : decode mX1_slide.2.1 128 = .ok (.goto (-94), 3) := by decide +kernel
theorem dX1_slide_131 : decode mX1_slide.2.1 131 = .ok (.iinc 4 1, 3) := by decide +kernel
theorem dX1_slide_134 : decode mX1_slide.2.1 134 = .ok (.goto (-126), 3) := by decide +kernel
theorem dX1_slide_137 : decode mX1_slide.2.1 137 = .ok (.return_, 1) := by decide +kernel
theorem dX1_between_0 : decode mX1_between.2.1 0 = .ok (.iload_n 3, 1) := by decide +kernel
theorem dX1_between_1 : decode mX1_between.2.1 1 = .ok (.iconst 1, 1) := by decide +kernel
theorem dX1_between_2 : decode mX1_between.2.1 2 = .ok (.if_icmp .ge 5, 3) := by decide +kernel
theorem dX1_between_5 : decode mX1_between.2.1 5 = .ok (.iload_n 0, 1) := by decide +kernel
theorem dX1_between_6 : decode mX1_between.2.1 6 = .ok (.ireturn, 1) := by decide +kernel
theorem dX1_between_7 : decode mX1_between.2.1 7 = .ok (.iload_n 0, 1) := by decide +kernel
theorem dX1_between_8 : decode mX1_between.2.1 8 = .ok (.iconst 2, 1) := by decide +kernel
theorem dX1_between_9 : decode mX1_between.2.1 9 = .ok (.iload_n 2, 1) := by decide +kernel
theorem dX1_between_10 : decode mX1_between.2.1 10 = .ok (.imul, 1) := by decide +kernel
theorem dX1_between_11 : decode mX1_between.2.1 11 = .ok (.iload_n 1, 1) := by decide +kernel
theorem dX1_between_12 : decode mX1_between.2.1 12 = .ok (.iload_n 0, 1) := by decide +kernel
theorem dX1_between_13 : decode mX1_between.2.1 13 = .ok (.isub, 1) := by decide +kernel
theorem dX1_between_14 : decode mX1_between.2.1 14 = .ok (.imul, 1) := by decide +kernel
theorem dX1_between_15 : decode mX1_between.2.1 15 = .ok (.iload_n 3, 1) := by decide +kernel
theorem dX1_between_16 : decode mX1_between.2.1 16 = .ok (.iadd, 1) := by decide +kernel
theorem dX1_between_17 : decode mX1_between.2.1 17 = .ok (.iconst 2, 1) := by decide +kernel
theorem dX1_between_18 : decode mX1_between.2.1 18 = .ok (.iload_n 3, 1) := by decide +kernel
theorem dX1_between_19 : decode mX1_between.2.1 19 = .ok (.imul, 1) := by decide +kernel
theorem dX1_between_20 : decode mX1_between.2.1 20 = .ok (.invokestatic 217, 3) := by decide +kernel
theorem dX1_between_23 : decode mX1_between.2.1 23 = .ok (.iadd, 1) := by decide +kernel
theorem dX1_between_24 : decode mX1_between.2.1 24 = .ok (.ireturn, 1) := by decide +kernel
theorem dX2_init_0 : decode mX2_init.2.1 0 = .ok (.aload_n 0, 1) := by decide +kernel
theorem dX2_init_1 : decode mX2_init.2.1 1 = .ok (.invokespecial 5, 3) := by decide +kernel
theorem dX2_init_4 : decode mX2_init.2.1 4 = .ok (.aload_n 0, 1) := by decide +kernel
theorem dX2_init_5 : decode mX2_init.2.1 5 = .ok (.bipush 20, 2) := by decide +kernel
theorem dX2_init_7 : decode mX2_init.2.1 7 = .ok (.newarray .int, 2) := by decide +kernel
theorem dX2_init_9 : decode mX2_init.2.1 9 = .ok (.putfield 11, 3) := by decide +kernel
theorem dX2_init_12 : decode mX2_init.2.1 12 = .ok (.aload_n 0, 1) := by decide +kernel
theorem dX2_init_13 : decode mX2_init.2.1 13 = .ok (.bipush 20, 2) := by decide +kernel
theorem dX2_init_15 : decode mX2_init.2.1 15 = .ok (.newarray .int, 2) := by decide +kernel
theorem dX2_init_17 : decode mX2_init.2.1 17 = .ok (.putfield 15, 3) := by decide +kernel
theorem dX2_init_20 : decode mX2_init.2.1 20 = .ok (.aload_n 0, 1) := by decide +kernel
theorem dX2_init_21 : decode mX2_init.2.1 21 = .ok (.bipush 20, 2) := by decide +kernel
theorem dX2_init_23 : decode mX2_init.2.1 23 = .ok (.newarray .int, 2) := by decide +kernel
theorem dX2_init_25 : decode mX2_init.2.1 25 = .ok (.putfield 18, 3) := by decide +kernel
theorem dX2_init_28 : decode mX2_init.2.1 28 = .ok (.aload_n 0, 1) := by decide +kernel
theorem dX2_init_29 : decode mX2_init.2.1 29 = .ok (.iconst 0, 1) := by decide +kernel
theorem dX2_init_30 : decode mX2_init.2.1 30 = .ok (.putfield 21, 3) := by decide +kernel
theorem dX2_init_33 : decode mX2_init.2.1 33 = .ok (.aload_n 0, 1) := by decide +kernel
theorem dX2_init_34 : decode mX2_init.2.1 34 = .ok (.bipush 40, 2) := by decide +kernel
theorem dX2_init_36 : decode mX2_init.2.1 36 = .ok (.newarray .long, 2) := by decide +kernel
theorem dX2_init_38 : decode mX2_init.2.1 38 = .ok (.putfield 25, 3) := by decide +kernel
theorem dX2_init_41 : decode mX2_init.2.1 41 = .ok (.aload_n 0, 1) := by decide +kernel
theorem dX2_init_42 : decode mX2_init.2.1 42 = .ok (.iconst 0, 1) := by decide +kernel
theorem dX2_init_43 : decode mX2_init.2.1 43 = .ok (.putfield 29, 3) := by decide +kernel
theorem dX2_init_46 : decode mX2_init.2.1 46 = .ok (.aload_n 0, 1) := by decide +kernel
theorem dX2_init_47 : decode mX2_init.2.1 47 = .ok (.bipush 8, 2) := by decide +kernel
theorem dX2_init_49 : decode mX2_init.2.1 49 = .ok (.newarray .long, 2) := by decide +kernel
theorem dX2_init_51 : decode mX2_init.2.1 51 = .ok (.putfield 32, 3) := by decide +kernel
theorem dX2_init_54 : decode mX2_init.2.1 54 = .ok (.aload_n 0, 1) := by decide +kernel
theorem dX2_init_55 : decode mX2_init.2.1 55 = .ok (.bipush 8, 2) := by decide +kernel
theorem dX2_init_57 : decode mX2_init.2.1 57 = .ok (.newarray .int, 2) := by decide +kernel
theorem dX2_init_59 : decode mX2_init.2.1 59 = .ok (.putfield 35, 3) := by decide +kernel
theorem dX2_init_62 : decode mX2_init.2.1 62 = .ok (.aload_n 0, 1) := by decide +kernel
theorem dX2_init_63 : decode mX2_init.2.1 63 = .ok (.iconst 0, 1) := by decide +kernel
theorem dX2_init_64 : decode mX2_init.2.1 64 = .ok (.putfield 38, 3) := by decide +kernel
theorem dX2_init_67 : decode mX2_init.2.1 67 = .ok (.aload_n 0, 1) := by decide +kernel
theorem dX2_init_68 : decode mX2_init.2.1 68 = .ok (.iconst 2, 1) := by decide +kernel
theorem dX2_init_69 : decode mX2_init.2.1 69 = .ok (.putfield 41, 3) := by decide +kernel
theorem dX2_init_72 : decode mX2_init.2.1 72 = .ok (.return_, 1) := by decide +kernel
theorem dX2_isSpot_0 : decode mX2_isSpot.2.1 0 = .ok (.iload_n 0, 1) := by decide +kernel
theorem dX2_isSpot_1 : decode mX2_isSpot.2.1 1 = .ok (.ifCond .lt 23, 3) := by decide +kernel
theorem dX2_isSpot_4 : decode mX2_isSpot.2.1 4 = .ok (.iload_n 0, 1) := by decide +kernel
theorem dX2_isSpot_5 : decode mX2_isSpot.2.1 5 = .ok (.bipush 60, 2) := by decide +kernel
theorem dX2_isSpot_7 : decode mX2_isSpot.2.1 7 = .ok (.if_icmp .ge 17, 3) := by decide +kernel
theorem dX2_isSpot_10 : decode mX2_isSpot.2.1 10 = .ok (.iload_n 1, 1) := by decide +kernel
theorem dX2_isSpot_11 : decode mX2_isSpot.2.1 11 = .ok (.ifCond .lt 13, 3) := by decide +kernel
theorem dX2_isSpot_14 : decode mX2_isSpot.2.1 14 = .ok (.iload_n 1, 1) := by decide +kernel
theorem dX2_isSpot_15 : decode mX2_isSpot.2.1 15 = .ok (.bipush 40, 2) := by decide +kernel
theorem dX2_isSpot_17 : decode mX2_isSpot.2.1 17 = .ok (.if_icmp .ge 7, 3) := by decide +kernel
theorem dX2_isSpot_20 : decode mX2_isSpot.2.1 20 = .ok (.iconst 1, 1) := by decide +kernel
theorem dX2_isSpot_21 : decode mX2_isSpot.2.1 21 = .ok (.goto 4, 3) := by decide +kernel
theorem dX2_isSpot_24 : decode mX2_isSpot.2.1 24 = .ok (.iconst 0, 1) := by decide +kernel
theorem dX2_isSpot_25 : decode mX2_isSpot.2.1 25 = .ok (.ireturn, 1) := by decide +kernel
theorem dX2_isFace_0 : decode mX2_isFace.2.1 0 = .ok (.iload_n 0, 1) := by decide +kernel
theorem dX2_isFace_1 : decode mX2_isFace.2.1 1 = .ok (.ifCond .lt 13, 3) := by decide +kernel
theorem dX2_isFace_4 : decode mX2_isFace.2.1 4 = .ok (.iload_n 0, 1) := by decide +kernel
theorem dX2_isFace_5 : decode mX2_isFace.2.1 5 = .ok (.bipush 8, 2) := by decide +kernel
theorem dX2_isFace_7 : decode mX2_isFace.2.1 7 = .ok (.if_icmp .ge 7, 3) := by decide +kernel
theorem dX2_isFace_10 : decode mX2_isFace.2.1 10 = .ok (.iconst 1, 1) := by decide +kernel
theorem dX2_isFace_11 : decode mX2_isFace.2.1 11 = .ok (.goto 4, 3) := by decide +kernel
theorem dX2_isFace_14 : decode mX2_isFace.2.1 14 = .ok (.iconst 0, 1) := by decide +kernel
theorem dX2_isFace_15 : decode mX2_isFace.2.1 15 = .ok (.ireturn, 1) := by decide +kernel
theorem dX2_spot_0 : decode mX2_spot.2.1 0 = .ok (.iload_n 0, 1) := by decide +kernel
theorem dX2_spot_1 : decode mX2_spot.2.1 1 = .ok (.bipush 40, 2) := by decide +kernel
theorem dX2_spot_3 : decode mX2_spot.2.1 3 = .ok (.imul, 1) := by decide +kernel
theorem dX2_spot_4 : decode mX2_spot.2.1 4 = .ok (.iload_n 1, 1) := by decide +kernel
theorem dX2_spot_5 : decode mX2_spot.2.1 5 = .ok (.iadd, 1) := by decide +kernel
theorem dX2_spot_6 : decode mX2_spot.2.1 6 = .ok (.ireturn, 1) := by decide +kernel
theorem dX2_eastStep_0 : decode mX2_eastStep.2.1 0 = .ok (.getstatic 44, 3) := by decide +kernel
theorem dX2_eastStep_3 : decode mX2_eastStep.2.1 3 = .ok (.iload_n 0, 1) := by decide +kernel
theorem dX2_eastStep_4 : decode mX2_eastStep.2.1 4 = .ok (.bipush 7, 2) := by decide +kernel
theorem dX2_eastStep_6 : decode mX2_eastStep.2.1 6 = .ok (.iand, 1) := by decide +kernel
theorem dX2_eastStep_7 : decode mX2_eastStep.2.1 7 = .ok (.iaload, 1) := by decide +kernel
theorem dX2_eastStep_8 : decode mX2_eastStep.2.1 8 = .ok (.ireturn, 1) := by decide +kernel
theorem dX2_northStep_0 : decode mX2_northStep.2.1 0 = .ok (.getstatic 47, 3) := by decide +kernel
theorem dX2_northStep_3 : decode mX2_northStep.2.1 3 = .ok (.iload_n 0, 1) := by decide +kernel
theorem dX2_northStep_4 : decode mX2_northStep.2.1 4 = .ok (.bipush 7, 2) := by decide +kernel
theorem dX2_northStep_6 : decode mX2_northStep.2.1 6 = .ok (.iand, 1) := by decide +kernel
theorem dX2_northStep_7 : decode mX2_northStep.2.1 7 = .ok (.iaload, 1) := by decide +kernel
theorem dX2_northStep_8 : decode mX2_northStep.2.1 8 = .ok (.ireturn, 1) := by decide +kernel
theorem dX2_isName_0 : decode mX2_isName.2.1 0 = .ok (.lload_n 0, 1) := by decide +kernel
theorem dX2_isName_1 : decode mX2_isName.2.1 1 = .ok (.lconst 0, 1) := by decide +kernel
theorem dX2_isName_2 : decode mX2_isName.2.1 2 = .ok (.lcmp, 1) := by decide +kernel
theorem dX2_isName_3 : decode mX2_isName.2.1 3 = .ok (.ifCond .le 11, 3) := by decide +kernel
theorem dX2_isName_6 : decode mX2_isName.2.1 6 = .ok (.lload_n 0, 1) := by decide +kernel
theorem dX2_isName_7 : decode mX2_isName.2.1 7 = .ok (.ldc2_w 50, 3) := by decide +kernel
theorem dX2_isName_10 : decode mX2_isName.2.1 10 = .ok (.lcmp, 1) := by decide +kernel
theorem dX2_isName_11 : decode mX2_isName.2.1 11 = .ok (.ifCond .lt 5, 3) := by decide +kernel
theorem dX2_isName_14 : decode mX2_isName.2.1 14 = .ok (.iconst 0, 1) := by decide +kernel
theorem dX2_isName_15 : decode mX2_isName.2.1 15 = .ok (.ireturn, 1) := by decide +kernel
theorem dX2_isName_16 : decode mX2_isName.2.1 16 = .ok (.lload_n 0, 1) := by decide +kernel
theorem dX2_isName_17 : decode mX2_isName.2.1 17 = .ok (.lstore_n 2, 1) := by decide +kernel
theorem dX2_isName_18 : decode mX2_isName.2.1 18 = .ok (.iconst 0, 1) := by decide +kernel
theorem dX2_isName_19 : decode mX2_isName.2.1 19 = .ok (.istore 4, 2) := by decide +kernel
theorem dX2_isName_21 : decode mX2_isName.2.1 21 = .ok (.iload 4, 2) := by decide +kernel
theorem dX2_isName_23 : decode mX2_isName.2.1 23 = .ok (.bipush 8, 2) := by decide +kernel
theorem dX2_isName_25 : decode mX2_isName.2.1 25 = .ok (.if_icmp .ge 44, 3) := by decide +kernel
theorem dX2_isName_28 : decode mX2_isName.2.1 28 = .ok (.lload_n 2, 1) := by decide +kernel
theorem dX2_isName_29 : decode mX2_isName.2.1 29 = .ok (.lconst 0, 1) := by decide +kernel
theorem dX2_isName_30 : decode mX2_isName.2.1 30 = .ok (.lcmp, 1) := by decide +kernel
theorem dX2_isName_31 : decode mX2_isName.2.1 31 = .ok (.ifCond .eq 38, 3) := by decide +kernel
theorem dX2_isName_34 : decode mX2_isName.2.1 34 = .ok (.lload_n 2, 1) := by decide +kernel
theorem dX2_isName_35 : decode mX2_isName.2.1 35 = .ok (.ldc2_w 52, 3) := by decide +kernel
theorem dX2_isName_38 : decode mX2_isName.2.1 38 = .ok (.land, 1) := by decide +kernel
theorem dX2_isName_39 : decode mX2_isName.2.1 39 = .ok (.lstore 5, 2) := by decide +kernel
theorem dX2_isName_41 : decode mX2_isName.2.1 41 = .ok (.lload 5, 2) := by decide +kernel
theorem dX2_isName_43 : decode mX2_isName.2.1 43 = .ok (.lconst 1, 1) := by decide +kernel
theorem dX2_isName_44 : decode mX2_isName.2.1 44 = .ok (.lcmp, 1) := by decide +kernel
theorem dX2_isName_45 : decode mX2_isName.2.1 45 = .ok (.ifCond .lt 12, 3) := by decide +kernel
theorem dX2_isName_48 : decode mX2_isName.2.1 48 = .ok (.lload 5, 2) := by decide +kernel
theorem dX2_isName_50 : decode mX2_isName.2.1 50 = .ok (.ldc2_w 54, 3) := by decide +kernel
theorem dX2_isName_53 : decode mX2_isName.2.1 53 = .ok (.lcmp, 1) := by decide +kernel
theorem dX2_isName_54 : decode mX2_isName.2.1 54 = .ok (.ifCond .le 5, 3) := by decide +kernel
theorem dX2_isName_57 : decode mX2_isName.2.1 57 = .ok (.iconst 0, 1) := by decide +kernel
theorem dX2_isName_58 : decode mX2_isName.2.1 58 = .ok (.ireturn, 1) := by decide +kernel
theorem dX2_isName_59 : decode mX2_isName.2.1 59 = .ok (.lload_n 2, 1) := by decide +kernel
theorem dX2_isName_60 : decode mX2_isName.2.1 60 = .ok (.iconst 5, 1) := by decide +kernel
theorem dX2_isName_61 : decode mX2_isName.2.1 61 = .ok (.lshr, 1) := by decide +kernel
theorem dX2_isName_62 : decode mX2_isName.2.1 62 = .ok (.lstore_n 2, 1) := by decide +kernel
theorem dX2_isName_63 : decode mX2_isName.2.1 63 = .ok (.iinc 4 1, 3) := by decide +kernel
theorem dX2_isName_66 : decode mX2_isName.2.1 66 = .ok (.goto (-45), 3) := by decide +kernel
theorem dX2_isName_69 : decode mX2_isName.2.1 69 = .ok (.iconst 1, 1) := by decide +kernel
theorem dX2_isName_70 : decode mX2_isName.2.1 70 = .ok (.ireturn, 1) := by decide +kernel
theorem dX2_isSet_0 : decode mX2_isSet.2.1 0 = .ok (.iload_n 1, 1) := by decide +kernel
theorem dX2_isSet_1 : decode mX2_isSet.2.1 1 = .ok (.ifCond .lt 16, 3) := by decide +kernel
theorem dX2_isSet_4 : decode mX2_isSet.2.1 4 = .ok (.iload_n 1, 1) := by decide +kernel
theorem dX2_isSet_5 : decode mX2_isSet.2.1 5 = .ok (.aload_n 0, 1) := by decide +kernel
theorem dX2_isSet_6 : decode mX2_isSet.2.1 6 = .ok (.getfield 21, 3) := by decide +kernel
theorem dX2_isSet_9 : decode mX2_isSet.2.1 9 = .ok (.iushr, 1) := by decide +kernel
theorem dX2_isSet_10 : decode mX2_isSet.2.1 10 = .ok (.ifCond .ne 7, 3) := by decide +kernel
theorem dX2_isSet_13 : decode mX2_isSet.2.1 13 = .ok (.iconst 1, 1) := by decide +kernel
theorem dX2_isSet_14 : decode mX2_isSet.2.1 14 = .ok (.goto 4, 3) := by decide +kernel
theorem dX2_isSet_17 : decode mX2_isSet.2.1 17 = .ok (.iconst 0, 1) := by decide +kernel
theorem dX2_isSet_18 : decode mX2_isSet.2.1 18 = .ok (.ireturn, 1) := by decide +kernel
theorem dX2_hasMarcher_0 : decode mX2_hasMarcher.2.1 0 = .ok (.iload_n 1, 1) := by decide +kernel
theorem dX2_hasMarcher_1 : decode mX2_hasMarcher.2.1 1 = .ok (.ifCond .lt 15, 3) := by decide +kernel
theorem dX2_hasMarcher_4 : decode mX2_hasMarcher.2.1 4 = .ok (.iload_n 1, 1) := by decide +kernel
theorem dX2_hasMarcher_5 : decode mX2_hasMarcher.2.1 5 = .ok (.aload_n 0, 1) := by decide +kernel
theorem dX2_hasMarcher_6 : decode mX2_hasMarcher.2.1 6 = .ok (.getfield 21, 3) := by decide +kernel
theorem dX2_hasMarcher_9 : decode mX2_hasMarcher.2.1 9 = .ok (.if_icmp .ge 7, 3) := by decide +kernel
theorem dX2_hasMarcher_12 : decode mX2_hasMarcher.2.1 12 = .ok (.iconst 1, 1) := by decide +kernel
theorem dX2_hasMarcher_13 : decode mX2_hasMarcher.2.1 13 = .ok (.goto 4, 3) := by decide +kernel
theorem dX2_hasMarcher_16 : decode mX2_hasMarcher.2.1 16 = .ok (.iconst 0, 1) := by decide +kernel
theorem dX2_hasMarcher_17 : decode mX2_hasMarcher.2.1 17 = .ok (.ireturn, 1) := by decide +kernel
theorem dX2_addMarcher_0 : decode mX2_addMarcher.2.1 0 = .ok (.aload_n 0, 1) := by decide +kernel
theorem dX2_addMarcher_1 : decode mX2_addMarcher.2.1 1 = .ok (.getfield 11, 3) := by decide +kernel
theorem dX2_addMarcher_4 : decode mX2_addMarcher.2.1 4 = .ok (.aload_n 0, 1) := by decide +kernel
theorem dX2_addMarcher_5 : decode mX2_addMarcher.2.1 5 = .ok (.getfield 21, 3) := by decide +kernel
theorem dX2_addMarcher_8 : decode mX2_addMarcher.2.1 8 = .ok (.iload_n 1, 1) := by decide +kernel
theorem dX2_addMarcher_9 : decode mX2_addMarcher.2.1 9 = .ok (.iastore, 1) := by decide +kernel
theorem dX2_addMarcher_10 : decode mX2_addMarcher.2.1 10 = .ok (.aload_n 0, 1) := by decide +kernel
theorem dX2_addMarcher_11 : decode mX2_addMarcher.2.1 11 = .ok (.getfield 15, 3) := by decide +kernel
theorem dX2_addMarcher_14 : decode mX2_addMarcher.2.1 14 = .ok (.aload_n 0, 1) := by decide +kernel
theorem dX2_addMarcher_15 : decode mX2_addMarcher.2.1 15 = .ok (.getfield 21, 3) := by decide +kernel
theorem dX2_addMarcher_18 : decode mX2_addMarcher.2.1 18 = .ok (.iload_n 2, 1) := by decide +kernel
theorem dX2_addMarcher_19 : decode mX2_addMarcher.2.1 19 = .ok (.iastore, 1) := by decide +kernel
theorem dX2_addMarcher_20 : decode mX2_addMarcher.2.1 20 = .ok (.aload_n 0, 1) := by decide +kernel
theorem dX2_addMarcher_21 : decode mX2_addMarcher.2.1 21 = .ok (.getfield 18, 3) := by decide +kernel
theorem dX2_addMarcher_24 : decode mX2_addMarcher.2.1 24 = .ok (.aload_n 0, 1) := by decide +kernel
theorem dX2_addMarcher_25 : decode mX2_addMarcher.2.1 25 = .ok (.getfield 21, 3) := by decide +kernel
theorem dX2_addMarcher_28 : decode mX2_addMarcher.2.1 28 = .ok (.iload_n 3, 1) := by decide +kernel
theorem dX2_addMarcher_29 : decode mX2_addMarcher.2.1 29 = .ok (.iastore, 1) := by decide +kernel
theorem dX2_addMarcher_30 : decode mX2_addMarcher.2.1 30 = .ok (.aload_n 0, 1) := by decide +kernel
theorem dX2_addMarcher_31 : decode mX2_addMarcher.2.1 31 = .ok (.dup, 1) := by decide +kernel
theorem dX2_addMarcher_32 : decode mX2_addMarcher.2.1 32 = .ok (.getfield 21, 3) := by decide +kernel
theorem dX2_addMarcher_35 : decode mX2_addMarcher.2.1 35 = .ok (.iconst 1, 1) := by decide +kernel
theorem dX2_addMarcher_36 : decode mX2_addMarcher.2.1 36 = .ok (.iadd, 1) := by decide +kernel
theorem dX2_addMarcher_37 : decode mX2_addMarcher.2.1 37 = .ok (.putfield 21, 3) := by decide +kernel
theorem dX2_addMarcher_40 : decode mX2_addMarcher.2.1 40 = .ok (.aload_n 0, 1) := by decide +kernel
theorem dX2_addMarcher_41 : decode mX2_addMarcher.2.1 41 = .ok (.getfield 21, 3) := by decide +kernel
theorem dX2_addMarcher_44 : decode mX2_addMarcher.2.1 44 = .ok (.iconst 1, 1) := by decide +kernel
theorem dX2_addMarcher_45 : decode mX2_addMarcher.2.1 45 = .ok (.isub, 1) := by decide +kernel
theorem dX2_addMarcher_46 : decode mX2_addMarcher.2.1 46 = .ok (.ireturn, 1) := by decide +kernel
theorem dX2_hasProp_0 : decode mX2_hasProp.2.1 0 = .ok (.aload_n 0, 1) := by decide +kernel
theorem dX2_hasProp_1 : decode mX2_hasProp.2.1 1 = .ok (.getfield 25, 3) := by decide +kernel
theorem dX2_hasProp_4 : decode mX2_hasProp.2.1 4 = .ok (.iload_n 2, 1) := by decide +kernel
theorem dX2_hasProp_5 : decode mX2_hasProp.2.1 5 = .ok (.laload, 1) := by decide +kernel
theorem dX2_hasProp_6 : decode mX2_hasProp.2.1 6 = .ok (.iload_n 1, 1) := by decide +kernel
theorem dX2_hasProp_7 : decode mX2_hasProp.2.1 7 = .ok (.lushr, 1) := by decide +kernel
theorem dX2_hasProp_8 : decode mX2_hasProp.2.1 8 = .ok (.lconst 1, 1) := by decide +kernel
theorem dX2_hasProp_9 : decode mX2_hasProp.2.1 9 = .ok (.land, 1) := by decide +kernel
theorem dX2_hasProp_10 : decode mX2_hasProp.2.1 10 = .ok (.lconst 0, 1) := by decide +kernel
theorem dX2_hasProp_11 : decode mX2_hasProp.2.1 11 = .ok (.lcmp, 1) := by decide +kernel
theorem dX2_hasProp_12 : decode mX2_hasProp.2.1 12 = .ok (.ifCond .eq 7, 3) := by decide +kernel
theorem dX2_hasProp_15 : decode mX2_hasProp.2.1 15 = .ok (.iconst 1, 1) := by decide +kernel
theorem dX2_hasProp_16 : decode mX2_hasProp.2.1 16 = .ok (.goto 4, 3) := by decide +kernel
theorem dX2_hasProp_19 : decode mX2_hasProp.2.1 19 = .ok (.iconst 0, 1) := by decide +kernel
theorem dX2_hasProp_20 : decode mX2_hasProp.2.1 20 = .ok (.ireturn, 1) := by decide +kernel
theorem dX2_addProp_0 : decode mX2_addProp.2.1 0 = .ok (.aload_n 0, 1) := by decide +kernel
theorem dX2_addProp_1 : decode mX2_addProp.2.1 1 = .ok (.getfield 25, 3) := by decide +kernel
theorem dX2_addProp_4 : decode mX2_addProp.2.1 4 = .ok (.iload_n 2, 1) := by decide +kernel
theorem dX2_addProp_5 : decode mX2_addProp.2.1 5 = .ok (.dup2, 1) := by decide +kernel
theorem dX2_addProp_6 : decode mX2_addProp.2.1 6 = .ok (.laload, 1) := by decide +kernel
theorem dX2_addProp_7 : decode mX2_addProp.2.1 7 = .ok (.lconst 1, 1) := by decide +kernel
theorem dX2_addProp_8 : decode mX2_addProp.2.1 8 = .ok (.iload_n 1, 1) := by decide +kernel
theorem dX2_addProp_9 : decode mX2_addProp.2.1 9 = .ok (.lshl, 1) := by decide +kernel
theorem dX2_addProp_10 : decode mX2_addProp.2.1 10 = .ok (.lor, 1) := by decide +kernel
theorem dX2_addProp_11 : decode mX2_addProp.2.1 11 = .ok (.lastore, 1) := by decide +kernel
theorem dX2_addProp_12 : decode mX2_addProp.2.1 12 = .ok (.aload_n 0, 1) := by decide +kernel
theorem dX2_addProp_13 : decode mX2_addProp.2.1 13 = .ok (.dup, 1) := by decide +kernel
theorem dX2_addProp_14 : decode mX2_addProp.2.1 14 = .ok (.getfield 29, 3) := by decide +kernel
theorem dX2_addProp_17 : decode mX2_addProp.2.1 17 = .ok (.iconst 1, 1) := by decide +kernel
theorem dX2_addProp_18 : decode mX2_addProp.2.1 18 = .ok (.iadd, 1) := by decide +kernel
theorem dX2_addProp_19 : decode mX2_addProp.2.1 19 = .ok (.putfield 29, 3) := by decide +kernel
theorem dX2_addProp_22 : decode mX2_addProp.2.1 22 = .ok (.return_, 1) := by decide +kernel
theorem dX2_groupNamed_0 : decode mX2_groupNamed.2.1 0 = .ok (.iconst 0, 1) := by decide +kernel
theorem dX2_groupNamed_1 : decode mX2_groupNamed.2.1 1 = .ok (.istore_n 3, 1) := by decide +kernel
theorem dX2_groupNamed_2 : decode mX2_groupNamed.2.1 2 = .ok (.iload_n 3, 1) := by decide +kernel
theorem dX2_groupNamed_3 : decode mX2_groupNamed.2.1 3 = .ok (.aload_n 0, 1) := by decide +kernel
theorem dX2_groupNamed_4 : decode mX2_groupNamed.2.1 4 = .ok (.getfield 38, 3) := by decide +kernel
theorem dX2_groupNamed_7 : decode mX2_groupNamed.2.1 7 = .ok (.if_icmp .ge 22, 3) := by decide +kernel
theorem dX2_groupNamed_10 : decode mX2_groupNamed.2.1 10 = .ok (.aload_n 0, 1) := by decide +kernel
theorem dX2_groupNamed_11 : decode mX2_groupNamed.2.1 11 = .ok (.getfield 32, 3) := by decide +kernel
theorem dX2_groupNamed_14 : decode mX2_groupNamed.2.1 14 = .ok (.iload_n 3, 1) := by decide +kernel
theorem dX2_groupNamed_15 : decode mX2_groupNamed.2.1 15 = .ok (.laload, 1) := by decide +kernel
theorem dX2_groupNamed_16 : decode mX2_groupNamed.2.1 16 = .ok (.lload_n 1, 1) := by decide +kernel
theorem dX2_groupNamed_17 : decode mX2_groupNamed.2.1 17 = .ok (.lcmp, 1) := by decide +kernel
theorem dX2_groupNamed_18 : decode mX2_groupNamed.2.1 18 = .ok (.ifCond .ne 5, 3) := by decide +kernel
theorem dX2_groupNamed_21 : decode mX2_groupNamed.2.1 21 = .ok (.iload_n 3, 1) := by decide +kernel
theorem dX2_groupNamed_22 : decode mX2_groupNamed.2.1 22 = .ok (.ireturn, 1) := by decide +kernel
theorem dX2_groupNamed_23 : decode mX2_groupNamed.2.1 23 = .ok (.iinc 3 1, 3) := by decide +kernel
theorem dX2_groupNamed_26 : decode mX2_groupNamed.2.1 26 = .ok (.goto (-24), 3) := by decide +kernel
theorem dX2_groupNamed_29 : decode mX2_groupNamed.2.1 29 = .ok (.iconst (-1), 1) := by decide +kernel
theorem dX2_groupNamed_30 : decode mX2_groupNamed.2.1 30 = .ok (.ireturn, 1) := by decide +kernel
theorem dX2_tellGroup_0 : decode mX2_tellGroup.2.1 0 = .ok (.iload_n 1, 1) := by decide +kernel
theorem dX2_tellGroup_1 : decode mX2_tellGroup.2.1 1 = .ok (.istore 5, 2) := by decide +kernel
theorem dX2_tellGroup_3 : decode mX2_tellGroup.2.1 3 = .ok (.iload 5, 2) := by decide +kernel
theorem dX2_tellGroup_5 : decode mX2_tellGroup.2.1 5 = .ok (.iconst (-1), 1) := by decide +kernel
theorem dX2_tellGroup_6 : decode mX2_tellGroup.2.1 6 = .ok (.if_icmp .ne 19, 3) := by decide +kernel
theorem dX2_tellGroup_9 : decode mX2_tellGroup.2.1 9 = .ok (.aload_n 0, 1) := by decide +kernel
theorem dX2_tellGroup_10 : decode mX2_tellGroup.2.1 10 = .ok (.getfield 38, 3) := by decide +kernel
theorem dX2_tellGroup_13 : decode mX2_tellGroup.2.1 13 = .ok (.istore 5, 2) := by decide +kernel
theorem dX2_tellGroup_15 : decode mX2_tellGroup.2.1 15 = .ok (.aload_n 0, 1) := by decide +kernel
theorem dX2_tellGroup_16 : decode mX2_tellGroup.2.1 16 = .ok (.dup, 1) := by decide +kernel
theorem dX2_tellGroup_17 : decode mX2_tellGroup.2.1 17 = .ok (.getfield 38, 3) := by decide +kernel
theorem dX2_tellGroup_20 : decode mX2_tellGroup.2.1 20 = .ok (.iconst 1, 1) := by decide +kernel
theorem dX2_tellGroup_21 : decode mX2_tellGroup.2.1 21 = .ok (.iadd, 1) := by decide +kernel
theorem dX2_tellGroup_22 : decode mX2_tellGroup.2.1 22 = .ok (.putfield 38, 3) := by decide +kernel
theorem dX2_tellGroup_25 : decode mX2_tellGroup.2.1 25 = .ok (.aload_n 0, 1) := by decide +kernel
theorem dX2_tellGroup_26 : decode mX2_tellGroup.2.1 26 = .ok (.getfield 32, 3) := by decide +kernel
theorem dX2_tellGroup_29 : decode mX2_tellGroup.2.1 29 = .ok (.iload 5, 2) := by decide +kernel
theorem dX2_tellGroup_31 : decode mX2_tellGroup.2.1 31 = .ok (.lload_n 2, 1) := by decide +kernel
theorem dX2_tellGroup_32 : decode mX2_tellGroup.2.1 32 = .ok (.lastore, 1) := by decide +kernel
theorem dX2_tellGroup_33 : decode mX2_tellGroup.2.1 33 = .ok (.aload_n 0, 1) := by decide +kernel
theorem dX2_tellGroup_34 : decode mX2_tellGroup.2.1 34 = .ok (.getfield 35, 3) := by decide +kernel
theorem dX2_tellGroup_37 : decode mX2_tellGroup.2.1 37 = .ok (.iload 5, 2) := by decide +kernel
theorem dX2_tellGroup_39 : decode mX2_tellGroup.2.1 39 = .ok (.iload 4, 2) := by decide +kernel
theorem dX2_tellGroup_41 : decode mX2_tellGroup.2.1 41 = .ok (.iastore, 1) := by decide +kernel
theorem dX2_tellGroup_42 : decode mX2_tellGroup.2.1 42 = .ok (.iload 5, 2) := by decide +kernel
theorem dX2_tellGroup_44 : decode mX2_tellGroup.2.1 44 = .ok (.ireturn, 1) := by decide +kernel
theorem dX3_init_0 : decode mX3_init.2.1 0 = .ok (.aload_n 0, 1) := by decide +kernel
theorem dX3_init_1 : decode mX3_init.2.1 1 = .ok (.invokespecial 5, 3) := by decide +kernel
theorem dX3_init_4 : decode mX3_init.2.1 4 = .ok (.aload_n 0, 1) := by decide +kernel
theorem dX3_init_5 : decode mX3_init.2.1 5 = .ok (.iconst 0, 1) := by decide +kernel
theorem dX3_init_6 : decode mX3_init.2.1 6 = .ok (.putfield 11, 3) := by decide +kernel
theorem dX3_init_9 : decode mX3_init.2.1 9 = .ok (.aload_n 0, 1) := by decide +kernel
theorem dX3_init_10 : decode mX3_init.2.1 10 = .ok (.iconst 0, 1) := by decide +kernel
theorem dX3_init_11 : decode mX3_init.2.1 11 = .ok (.putfield 15, 3) := by decide +kernel
theorem dX3_init_14 : decode mX3_init.2.1 14 = .ok (.aload_n 0, 1) := by decide +kernel
theorem dX3_init_15 : decode mX3_init.2.1 15 = .ok (.iconst 0, 1) := by decide +kernel
theorem dX3_init_16 : decode mX3_init.2.1 16 = .ok (.putfield 18, 3) := by decide +kernel
theorem dX3_init_19 : decode mX3_init.2.1 19 = .ok (.aload_n 0, 1) := by decide +kernel
theorem dX3_init_20 : decode mX3_init.2.1 20 = .ok (.bipush 6, 2) := by decide +kernel
theorem dX3_init_22 : decode mX3_init.2.1 22 = .ok (.newarray .int, 2) := by decide +kernel
theorem dX3_init_24 : decode mX3_init.2.1 24 = .ok (.putfield 21, 3) := by decide +kernel
theorem dX3_init_27 : decode mX3_init.2.1 27 = .ok (.aload_n 0, 1) := by decide +kernel
theorem dX3_init_28 : decode mX3_init.2.1 28 = .ok (.bipush 6, 2) := by decide +kernel
theorem dX3_init_30 : decode mX3_init.2.1 30 = .ok (.newarray .int, 2) := by decide +kernel
theorem dX3_init_32 : decode mX3_init.2.1 32 = .ok (.putfield 25, 3) := by decide +kernel
theorem dX3_init_35 : decode mX3_init.2.1 35 = .ok (.aload_n 0, 1) := by decide +kernel
theorem dX3_init_36 : decode mX3_init.2.1 36 = .ok (.bipush 6, 2) := by decide +kernel
theorem dX3_init_38 : decode mX3_init.2.1 38 = .ok (.newarray .int, 2) := by decide +kernel
theorem dX3_init_40 : decode mX3_init.2.1 40 = .ok (.putfield 28, 3) := by decide +kernel
theorem dX3_init_43 : decode mX3_init.2.1 43 = .ok (.aload_n 0, 1) := by decide +kernel
theorem dX3_init_44 : decode mX3_init.2.1 44 = .ok (.bipush 6, 2) := by decide +kernel
theorem dX3_init_46 : decode mX3_init.2.1 46 = .ok (.newarray .int, 2) := by decide +kernel
theorem dX3_init_48 : decode mX3_init.2.1 48 = .ok (.putfield 31, 3) := by decide +kernel
theorem dX3_init_51 : decode mX3_init.2.1 51 = .ok (.aload_n 0, 1) := by decide +kernel
theorem dX3_init_52 : decode mX3_init.2.1 52 = .ok (.bipush 6, 2) := by decide +kernel
theorem dX3_init_54 : decode mX3_init.2.1 54 = .ok (.newarray .int, 2) := by decide +kernel
theorem dX3_init_56 : decode mX3_init.2.1 56 = .ok (.putfield 34, 3) := by decide +kernel
theorem dX3_init_59 : decode mX3_init.2.1 59 = .ok (.aload_n 0, 1) := by decide +kernel
theorem dX3_init_60 : decode mX3_init.2.1 60 = .ok (.bipush 36, 2) := by decide +kernel
theorem dX3_init_62 : decode mX3_init.2.1 62 = .ok (.newarray .int, 2) := by decide +kernel
theorem dX3_init_64 : decode mX3_init.2.1 64 = .ok (.putfield 37, 3) := by decide +kernel
theorem dX3_init_67 : decode mX3_init.2.1 67 = .ok (.aload_n 0, 1) := by decide +kernel
theorem dX3_init_68 : decode mX3_init.2.1 68 = .ok (.sipush 1476, 3) := by decide +kernel
theorem dX3_init_71 : decode mX3_init.2.1 71 = .ok (.newarray .int, 2) := by decide +kernel
theorem dX3_init_73 : decode mX3_init.2.1 73 = .ok (.putfield 40, 3) := by decide +kernel
theorem dX3_init_76 : decode mX3_init.2.1 76 = .ok (.aload_n 0, 1) := by decide +kernel
theorem dX3_init_77 : decode mX3_init.2.1 77 = .ok (.sipush 1296, 3) := by decide +kernel
theorem dX3_init_80 : decode mX3_init.2.1 80 = .ok (.newarray .boolean, 2) := by decide +kernel
theorem dX3_init_82 : decode mX3_init.2.1 82 = .ok (.putfield 43, 3) := by decide +kernel
theorem dX3_init_85 : decode mX3_init.2.1 85 = .ok (.aload_n 0, 1) := by decide +kernel
theorem dX3_init_86 : decode mX3_init.2.1 86 = .ok (.iconst 0, 1) := by decide +kernel
theorem dX3_init_87 : decode mX3_init.2.1 87 = .ok (.putfield 47, 3) := by decide +kernel
theorem dX3_init_90 : decode mX3_init.2.1 90 = .ok (.aload_n 0, 1) := by decide +kernel
theorem dX3_init_91 : decode mX3_init.2.1 91 = .ok (.iconst (-1), 1) := by decide +kernel
theorem dX3_init_92 : decode mX3_init.2.1 92 = .ok (.putfield 50, 3) := by decide +kernel
theorem dX3_init_95 : decode mX3_init.2.1 95 = .ok (.aload_n 0, 1) := by decide +kernel
theorem dX3_init_96 : decode mX3_init.2.1 96 = .ok (.iconst (-1), 1) := by decide +kernel
theorem dX3_init_97 : decode mX3_init.2.1 97 = .ok (.putfield 53, 3) := by decide +kernel
theorem dX3_init_100 : decode mX3_init.2.1 100 = .ok (.return_, 1) := by decide +kernel
theorem dX3_takeSpots_0 : decode mX3_takeSpots.2.1 0 = .ok (.iconst 0, 1) := by decide +kernel
theorem dX3_takeSpots_1 : decode mX3_takeSpots.2.1 1 = .ok (.istore_n 3, 1) := by decide +kernel
theorem dX3_takeSpots_2 : decode mX3_takeSpots.2.1 2 = .ok (.iload_n 3, 1) := by decide +kernel
theorem dX3_takeSpots_3 : decode mX3_takeSpots.2.1 3 = .ok (.iload_n 2, 1) := by decide +kernel
theorem dX3_takeSpots_4 : decode mX3_takeSpots.2.1 4 = .ok (.if_icmp .ge 132, 3) := by decide +kernel
theorem dX3_takeSpots_7 : decode mX3_takeSpots.2.1 7 = .ok (.aload_n 1, 1) := by decide +kernel
theorem dX3_takeSpots_8 : decode mX3_takeSpots.2.1 8 = .ok (.getfield 56, 3) := by decide +kernel
theorem dX3_takeSpots_11 : decode mX3_takeSpots.2.1 11 = .ok (.iconst 2, 1) := by decide +kernel
theorem dX3_takeSpots_12 : decode mX3_takeSpots.2.1 12 = .ok (.iload_n 3, 1) := by decide +kernel
theorem dX3_takeSpots_13 : decode mX3_takeSpots.2.1 13 = .ok (.imul, 1) := by decide +kernel
theorem dX3_takeSpots_14 : decode mX3_takeSpots.2.1 14 = .ok (.laload, 1) := by decide +kernel
theorem dX3_takeSpots_15 : decode mX3_takeSpots.2.1 15 = .ok (.lstore 4, 2) := by decide +kernel
theorem dX3_takeSpots_17 : decode mX3_takeSpots.2.1 17 = .ok (.aload_n 1, 1) := by decide +kernel
theorem dX3_takeSpots_18 : decode mX3_takeSpots.2.1 18 = .ok (.getfield 56, 3) := by decide +kernel
theorem dX3_takeSpots_21 : decode mX3_takeSpots.2.1 21 = .ok (.iconst 2, 1) := by decide +kernel
theorem dX3_takeSpots_22 : decode mX3_takeSpots.2.1 22 = .ok (.iload_n 3, 1) := by decide +kernel
theorem dX3_takeSpots_23 : decode mX3_takeSpots.2.1 23 = .ok (.imul, 1) := by decide +kernel
theorem dX3_takeSpots_24 : decode mX3_takeSpots.2.1 24 = .ok (.iconst 1, 1) := by decide +kernel
theorem dX3_takeSpots_25 : decode mX3_takeSpots.2.1 25 = .ok (.iadd, 1) := by decide +kernel
theorem dX3_takeSpots_26 : decode mX3_takeSpots.2.1 26 = .ok (.laload, 1) := by decide +kernel
theorem dX3_takeSpots_27 : decode mX3_takeSpots.2.1 27 = .ok (.lstore 6, 2) := by decide +kernel
theorem dX3_takeSpots_29 : decode mX3_takeSpots.2.1 29 = .ok (.lload 4, 2) := by decide +kernel
theorem dX3_takeSpots_31 : decode mX3_takeSpots.2.1 31 = .ok (.lconst 0, 1) := by decide +kernel
theorem dX3_takeSpots_32 : decode mX3_takeSpots.2.1 32 = .ok (.lcmp, 1) := by decide +kernel
theorem dX3_takeSpots_33 : decode mX3_takeSpots.2.1 33 = .ok (.ifCond .lt 28, 3) := by decide +kernel
theorem dX3_takeSpots_36 : decode mX3_takeSpots.2.1 36 = .ok (.lload 4, 2) := by decide +kernel
theorem dX3_takeSpots_38 : decode mX3_takeSpots.2.1 38 = .ok (.ldc2_w 64, 3) := by decide +kernel
theorem dX3_takeSpots_41 : decode mX3_takeSpots.2.1 41 = .ok (.lcmp, 1) := by decide +kernel
theorem dX3_takeSpots_42 : decode mX3_takeSpots.2.1 42 = .ok (.ifCond .ge 19, 3) := by decide +kernel
theorem dX3_takeSpots_45 : decode mX3_takeSpots.2.1 45 = .ok (.lload 6, 2) := by decide +kernel
theorem dX3_takeSpots_47 : decode mX3_takeSpots.2.1 47 = .ok (.lconst 0, 1) := by decide +kernel
theorem dX3_takeSpots_48 : decode mX3_takeSpots.2.1 48 = .ok (.lcmp, 1) := by decide +kernel
theorem dX3_takeSpots_49 : decode mX3_takeSpots.2.1 49 = .ok (.ifCond .lt 12, 3) := by decide +kernel
theorem dX3_takeSpots_52 : decode mX3_takeSpots.2.1 52 = .ok (.lload 6, 2) := by decide +kernel
theorem dX3_takeSpots_54 : decode mX3_takeSpots.2.1 54 = .ok (.ldc2_w 66, 3) := by decide +kernel
theorem dX3_takeSpots_57 : decode mX3_takeSpots.2.1 57 = .ok (.lcmp, 1) := by decide +kernel
theorem dX3_takeSpots_58 : decode mX3_takeSpots.2.1 58 = .ok (.ifCond .lt 5, 3) := by decide +kernel
theorem dX3_takeSpots_61 : decode mX3_takeSpots.2.1 61 = .ok (.iconst 0, 1) := by decide +kernel
theorem dX3_takeSpots_62 : decode mX3_takeSpots.2.1 62 = .ok (.ireturn, 1) := by decide +kernel
theorem dX3_takeSpots_63 : decode mX3_takeSpots.2.1 63 = .ok (.aload_n 0, 1) := by decide +kernel
theorem dX3_takeSpots_64 : decode mX3_takeSpots.2.1 64 = .ok (.getfield 25, 3) := by decide +kernel
theorem dX3_takeSpots_67 : decode mX3_takeSpots.2.1 67 = .ok (.iload_n 3, 1) := by decide +kernel
theorem dX3_takeSpots_68 : decode mX3_takeSpots.2.1 68 = .ok (.lload 4, 2) := by decide +kernel
theorem dX3_takeSpots_70 : decode mX3_takeSpots.2.1 70 = .ok (.l2i, 1) := by decide +kernel
theorem dX3_takeSpots_71 : decode mX3_takeSpots.2.1 71 = .ok (.iastore, 1) := by decide +kernel
theorem dX3_takeSpots_72 : decode mX3_takeSpots.2.1 72 = .ok (.aload_n 0, 1) := by decide +kernel
theorem dX3_takeSpots_73 : decode mX3_takeSpots.2.1 73 = .ok (.getfield 28, 3) := by decide +kernel
theorem dX3_takeSpots_76 : decode mX3_takeSpots.2.1 76 = .ok (.iload_n 3, 1) := by decide +kernel
theorem dX3_takeSpots_77 : decode mX3_takeSpots.2.1 77 = .ok (.lload 6, 2) := by decide +kernel
theorem dX3_takeSpots_79 : decode mX3_takeSpots.2.1 79 = .ok (.l2i, 1) := by decide +kernel
theorem dX3_takeSpots_80 : decode mX3_takeSpots.2.1 80 = .ok (.iastore, 1) := by decide +kernel
theorem dX3_takeSpots_81 : decode mX3_takeSpots.2.1 81 = .ok (.iconst 0, 1) := by decide +kernel
theorem dX3_takeSpots_82 : decode mX3_takeSpots.2.1 82 = .ok (.istore 8, 2) := by decide +kernel
theorem dX3_takeSpots_84 : decode mX3_takeSpots.2.1 84 = .ok (.iload 8, 2) := by decide +kernel
theorem dX3_takeSpots_86 : decode mX3_takeSpots.2.1 86 = .ok (.iload_n 3, 1) := by decide +kernel
theorem dX3_takeSpots_87 : decode mX3_takeSpots.2.1 87 = .ok (.if_icmp .ge 43, 3) := by decide +kernel
theorem dX3_takeSpots_90 : decode mX3_takeSpots.2.1 90 = .ok (.aload_n 0, 1) := by decide +kernel
theorem dX3_takeSpots_91 : decode mX3_takeSpots.2.1 91 = .ok (.getfield 25, 3) := by decide +kernel
theorem dX3_takeSpots_94 : decode mX3_takeSpots.2.1 94 = .ok (.iload 8, 2) := by decide +kernel
theorem dX3_takeSpots_96 : decode mX3_takeSpots.2.1 96 = .ok (.iaload, 1) := by decide +kernel
theorem dX3_takeSpots_97 : decode mX3_takeSpots.2.1 97 = .ok (.aload_n 0, 1) := by decide +kernel
theorem dX3_takeSpots_98 : decode mX3_takeSpots.2.1 98 = .ok (.getfield 25, 3) := by decide +kernel
theorem dX3_takeSpots_101 : decode mX3_takeSpots.2.1 101 = .ok (.iload_n 3, 1) := by decide +kernel
theorem dX3_takeSpots_102 : decode mX3_takeSpots.2.1 102 = .ok (.iaload, 1) := by decide +kernel
theorem dX3_takeSpots_103 : decode mX3_takeSpots.2.1 103 = .ok (.if_icmp .ne 21, 3) := by decide +kernel
theorem dX3_takeSpots_106 : decode mX3_takeSpots.2.1 106 = .ok (.aload_n 0, 1) := by decide +kernel
theorem dX3_takeSpots_107 : decode mX3_takeSpots.2.1 107 = .ok (.getfield 28, 3) := by decide +kernel
theorem dX3_takeSpots_110 : decode mX3_takeSpots.2.1 110 = .ok (.iload 8, 2) := by decide +kernel
theorem dX3_takeSpots_112 : decode mX3_takeSpots.2.1 112 = .ok (.iaload, 1) := by decide +kernel
theorem dX3_takeSpots_113 : decode mX3_takeSpots.2.1 113 = .ok (.aload_n 0, 1) := by decide +kernel
theorem dX3_takeSpots_114 : decode mX3_takeSpots.2.1 114 = .ok (.getfield 28, 3) := by decide +kernel
theorem dX3_takeSpots_117 : decode mX3_takeSpots.2.1 117 = .ok (.iload_n 3, 1) := by decide +kernel
theorem dX3_takeSpots_118 : decode mX3_takeSpots.2.1 118 = .ok (.iaload, 1) := by decide +kernel
theorem dX3_takeSpots_119 : decode mX3_takeSpots.2.1 119 = .ok (.if_icmp .ne 5, 3) := by decide +kernel
theorem dX3_takeSpots_122 : decode mX3_takeSpots.2.1 122 = .ok (.iconst 0, 1) := by decide +kernel
theorem dX3_takeSpots_123 : decode mX3_takeSpots.2.1 123 = .ok (.ireturn, 1) := by decide +kernel
theorem dX3_takeSpots_124 : decode mX3_takeSpots.2.1 124 = .ok (.iinc 8 1, 3) := by decide +kernel
theorem dX3_takeSpots_127 : decode mX3_takeSpots.2.1 127 = .ok (.goto (-43), 3) := by decide +kernel
theorem dX3_takeSpots_130 : decode mX3_takeSpots.2.1 130 = .ok (.iinc 3 1, 3) := by decide +kernel
theorem dX3_takeSpots_133 : decode mX3_takeSpots.2.1 133 = .ok (.goto (-131), 3) := by decide +kernel
theorem dX3_takeSpots_136 : decode mX3_takeSpots.2.1 136 = .ok (.iconst 1, 1) := by decide +kernel
theorem dX3_takeSpots_137 : decode mX3_takeSpots.2.1 137 = .ok (.ireturn, 1) := by decide +kernel
theorem dX3_search_0 : decode mX3_search.2.1 0 = .ok (.aload_n 0, 1) := by decide +kernel
theorem dX3_search_1 : decode mX3_search.2.1 1 = .ok (.iload_n 2, 1) := by decide +kernel
theorem dX3_search_2 : decode mX3_search.2.1 2 = .ok (.putfield 47, 3) := by decide +kernel
theorem dX3_search_5 : decode mX3_search.2.1 5 = .ok (.aload_n 0, 1) := by decide +kernel
theorem dX3_search_6 : decode mX3_search.2.1 6 = .ok (.aload_n 1, 1) := by decide +kernel
theorem dX3_search_7 : decode mX3_search.2.1 7 = .ok (.iload_n 3, 1) := by decide +kernel
theorem dX3_search_8 : decode mX3_search.2.1 8 = .ok (.invokevirtual 68, 3) := by decide +kernel
theorem dX3_search_11 : decode mX3_search.2.1 11 = .ok (.aload_n 0, 1) := by decide +kernel
theorem dX3_search_12 : decode mX3_search.2.1 12 = .ok (.iload_n 3, 1) := by decide +kernel
theorem dX3_search_13 : decode mX3_search.2.1 13 = .ok (.invokevirtual 72, 3) := by decide +kernel
theorem dX3_search_16 : decode mX3_search.2.1 16 = .ok (.aload_n 0, 1) := by decide +kernel
theorem dX3_search_17 : decode mX3_search.2.1 17 = .ok (.iconst (-1), 1) := by decide +kernel
theorem dX3_search_18 : decode mX3_search.2.1 18 = .ok (.putfield 50, 3) := by decide +kernel
theorem dX3_search_21 : decode mX3_search.2.1 21 = .ok (.aload_n 0, 1) := by decide +kernel
theorem dX3_search_22 : decode mX3_search.2.1 22 = .ok (.iconst (-1), 1) := by decide +kernel
theorem dX3_search_23 : decode mX3_search.2.1 23 = .ok (.putfield 53, 3) := by decide +kernel
theorem dX3_search_26 : decode mX3_search.2.1 26 = .ok (.aload_n 0, 1) := by decide +kernel
theorem dX3_search_27 : decode mX3_search.2.1 27 = .ok (.iconst 0, 1) := by decide +kernel
theorem dX3_search_28 : decode mX3_search.2.1 28 = .ok (.iconst 0, 1) := by decide +kernel
theorem dX3_search_29 : decode mX3_search.2.1 29 = .ok (.iconst 0, 1) := by decide +kernel
theorem dX3_search_30 : decode mX3_search.2.1 30 = .ok (.iconst 0, 1) := by decide +kernel
theorem dX3_search_31 : decode mX3_search.2.1 31 = .ok (.invokevirtual 76, 3) := by decide +kernel
theorem dX3_search_34 : decode mX3_search.2.1 34 = .ok (.aload_n 0, 1) := by decide +kernel
theorem dX3_search_35 : decode mX3_search.2.1 35 = .ok (.getfield 50, 3) := by decide +kernel
theorem dX3_search_38 : decode mX3_search.2.1 38 = .ok (.iconst (-1), 1) := by decide +kernel
theorem dX3_search_39 : decode mX3_search.2.1 39 = .ok (.if_icmp .ne 5, 3) := by decide +kernel
theorem dX3_search_42 : decode mX3_search.2.1 42 = .ok (.iconst 0, 1) := by decide +kernel
theorem dX3_search_43 : decode mX3_search.2.1 43 = .ok (.ireturn, 1) := by decide +kernel
theorem dX3_search_44 : decode mX3_search.2.1 44 = .ok (.aload_n 0, 1) := by decide +kernel
theorem dX3_search_45 : decode mX3_search.2.1 45 = .ok (.aload_n 0, 1) := by decide +kernel
theorem dX3_search_46 : decode mX3_search.2.1 46 = .ok (.getfield 47, 3) := by decide +kernel
theorem dX3_search_49 : decode mX3_search.2.1 49 = .ok (.putfield 11, 3) := by decide +kernel
theorem dX3_search_52 : decode mX3_search.2.1 52 = .ok (.aload_n 0, 1) := by decide +kernel
theorem dX3_search_53 : decode mX3_search.2.1 53 = .ok (.aload_n 0, 1) := by decide +kernel
theorem dX3_search_54 : decode mX3_search.2.1 54 = .ok (.getfield 50, 3) := by decide +kernel
theorem dX3_search_57 : decode mX3_search.2.1 57 = .ok (.putfield 15, 3) := by decide +kernel
theorem dX3_search_60 : decode mX3_search.2.1 60 = .ok (.aload_n 0, 1) := by decide +kernel
theorem dX3_search_61 : decode mX3_search.2.1 61 = .ok (.aload_n 0, 1) := by decide +kernel
theorem dX3_search_62 : decode mX3_search.2.1 62 = .ok (.getfield 53, 3) := by decide +kernel
theorem dX3_search_65 : decode mX3_search.2.1 65 = .ok (.putfield 18, 3) := by decide +kernel
theorem dX3_search_68 : decode mX3_search.2.1 68 = .ok (.aload_n 0, 1) := by decide +kernel
theorem dX3_search_69 : decode mX3_search.2.1 69 = .ok (.getfield 34, 3) := by decide +kernel
theorem dX3_search_72 : decode mX3_search.2.1 72 = .ok (.iconst 0, 1) := by decide +kernel
theorem dX3_search_73 : decode mX3_search.2.1 73 = .ok (.aload_n 0, 1) := by decide +kernel
theorem dX3_search_74 : decode mX3_search.2.1 74 = .ok (.getfield 21, 3) := by decide +kernel
theorem dX3_search_77 : decode mX3_search.2.1 77 = .ok (.iconst 0, 1) := by decide +kernel
theorem dX3_search_78 : decode mX3_search.2.1 78 = .ok (.aload_n 0, 1) := by decide +kernel
theorem dX3_search_79 : decode mX3_search.2.1 79 = .ok (.getfield 47, 3) := by decide +kernel
theorem dX3_search_82 : decode mX3_search.2.1 82 = .ok (.invokestatic 80, 3) := by decide +kernel
theorem dX3_search_85 : decode mX3_search.2.1 85 = .ok (.iconst 1, 1) := by decide +kernel
theorem dX3_search_86 : decode mX3_search.2.1 86 = .ok (.ireturn, 1) := by decide +kernel
theorem dX3_layWays_0 : decode mX3_layWays.2.1 0 = .ok (.iconst 0, 1) := by decide +kernel
theorem dX3_layWays_1 : decode mX3_layWays.2.1 1 = .ok (.istore_n 3, 1) := by decide +kernel
theorem dX3_layWays_2 : decode mX3_layWays.2.1 2 = .ok (.iload_n 3, 1) := by decide +kernel
theorem dX3_layWays_3 : decode mX3_layWays.2.1 3 = .ok (.aload_n 0, 1) := by decide +kernel
theorem dX3_layWays_4 : decode mX3_layWays.2.1 4 = .ok (.getfield 47, 3) := by decide +kernel
theorem dX3_layWays_7 : decode mX3_layWays.2.1 7 = .ok (.if_icmp .ge 155, 3) := by decide +kernel
theorem dX3_layWays_10 : decode mX3_layWays.2.1 10 = .ok (.aload_n 1, 1) := by decide +kernel
theorem dX3_layWays_11 : decode mX3_layWays.2.1 11 = .ok (.getfield 86, 3) := by decide +kernel
theorem dX3_layWays_14 : decode mX3_layWays.2.1 14 = .ok (.iload_n 3, 1) := by decide +kernel
theorem dX3_layWays_15 : decode mX3_layWays.2.1 15 = .ok (.iaload, 1) := by decide +kernel
theorem dX3_layWays_16 : decode mX3_layWays.2.1 16 = .ok (.istore 4, 2) := by decide +kernel
theorem dX3_layWays_18 : decode mX3_layWays.2.1 18 = .ok (.aload_n 1, 1) := by decide +kernel
theorem dX3_layWays_19 : decode mX3_layWays.2.1 19 = .ok (.getfield 89, 3) := by decide +kernel
theorem dX3_layWays_22 : decode mX3_layWays.2.1 22 = .ok (.iload_n 3, 1) := by decide +kernel
theorem dX3_layWays_23 : decode mX3_layWays.2.1 23 = .ok (.iaload, 1) := by decide +kernel
theorem dX3_layWays_24 : decode mX3_layWays.2.1 24 = .ok (.istore 5, 2) := by decide +kernel
theorem dX3_layWays_26 : decode mX3_layWays.2.1 26 = .ok (.iconst 0, 1) := by decide +kernel
theorem dX3_layWays_27 : decode mX3_layWays.2.1 27 = .ok (.istore 6, 2) := by decide +kernel
theorem dX3_layWays_29 : decode mX3_layWays.2.1 29 = .ok (.iload 6, 2) := by decide +kernel
theorem dX3_layWays_31 : decode mX3_layWays.2.1 31 = .ok (.aload_n 0, 1) := by decide +kernel
theorem dX3_layWays_32 : decode mX3_layWays.2.1 32 = .ok (.getfield 47, 3) := by decide +kernel
theorem dX3_layWays_35 : decode mX3_layWays.2.1 35 = .ok (.if_icmp .ge 121, 3) := by decide +kernel
theorem dX3_layWays_38 : decode mX3_layWays.2.1 38 = .ok (.iload_n 3, 1) := by decide +kernel
theorem dX3_layWays_39 : decode mX3_layWays.2.1 39 = .ok (.bipush 6, 2) := by decide +kernel
theorem dX3_layWays_41 : decode mX3_layWays.2.1 41 = .ok (.imul, 1) := by decide +kernel
theorem dX3_layWays_42 : decode mX3_layWays.2.1 42 = .ok (.iload 6, 2) := by decide +kernel
theorem dX3_layWays_44 : decode mX3_layWays.2.1 44 = .ok (.iadd, 1) := by decide +kernel
theorem dX3_layWays_45 : decode mX3_layWays.2.1 45 = .ok (.istore 7, 2) := by decide +kernel
theorem dX3_layWays_47 : decode mX3_layWays.2.1 47 = .ok (.aload_n 0, 1) := by decide +kernel
theorem dX3_layWays_48 : decode mX3_layWays.2.1 48 = .ok (.getfield 25, 3) := by decide +kernel
theorem dX3_layWays_51 : decode mX3_layWays.2.1 51 = .ok (.iload 6, 2) := by decide +kernel
theorem dX3_layWays_53 : decode mX3_layWays.2.1 53 = .ok (.iaload, 1) := by decide +kernel
theorem dX3_layWays_54 : decode mX3_layWays.2.1 54 = .ok (.iload 4, 2) := by decide +kernel
theorem dX3_layWays_56 : decode mX3_layWays.2.1 56 = .ok (.isub, 1) := by decide +kernel
theorem dX3_layWays_57 : decode mX3_layWays.2.1 57 = .ok (.istore 8, 2) := by decide +kernel
theorem dX3_layWays_59 : decode mX3_layWays.2.1 59 = .ok (.aload_n 0, 1) := by decide +kernel
theorem dX3_layWays_60 : decode mX3_layWays.2.1 60 = .ok (.getfield 28, 3) := by decide +kernel
theorem dX3_layWays_63 : decode mX3_layWays.2.1 63 = .ok (.iload 6, 2) := by decide +kernel
theorem dX3_layWays_65 : decode mX3_layWays.2.1 65 = .ok (.iaload, 1) := by decide +kernel
theorem dX3_layWays_66 : decode mX3_layWays.2.1 66 = .ok (.iload 5, 2) := by decide +kernel
theorem dX3_layWays_68 : decode mX3_layWays.2.1 68 = .ok (.isub, 1) := by decide +kernel
theorem dX3_layWays_69 : decode mX3_layWays.2.1 69 = .ok (.istore 9, 2) := by decide +kernel
theorem dX3_layWays_71 : decode mX3_layWays.2.1 71 = .ok (.aload_n 0, 1) := by decide +kernel
theorem dX3_layWays_72 : decode mX3_layWays.2.1 72 = .ok (.getfield 37, 3) := by decide +kernel
theorem dX3_layWays_75 : decode mX3_layWays.2.1 75 = .ok (.iload 7, 2) := by decide +kernel
theorem dX3_layWays_77 : decode mX3_layWays.2.1 77 = .ok (.iload 8, 2) := by decide +kernel
theorem dX3_layWays_79 : decode mX3_layWays.2.1 79 = .ok (.iload 8, 2) := by decide +kernel
theorem dX3_layWays_81 : decode mX3_layWays.2.1 81 = .ok (.imul, 1) := by decide +kernel
theorem dX3_layWays_82 : decode mX3_layWays.2.1 82 = .ok (.iload 9, 2) := by decide +kernel
theorem dX3_layWays_84 : decode mX3_layWays.2.1 84 = .ok (.iload 9, 2) := by decide +kernel
theorem dX3_layWays_86 : decode mX3_layWays.2.1 86 = .ok (.imul, 1) := by decide +kernel
theorem dX3_layWays_87 : decode mX3_layWays.2.1 87 = .ok (.iadd, 1) := by decide +kernel
theorem dX3_layWays_88 : decode mX3_layWays.2.1 88 = .ok (.iastore, 1) := by decide +kernel
theorem dX3_layWays_89 : decode mX3_layWays.2.1 89 = .ok (.iconst 0, 1) := by decide +kernel
theorem dX3_layWays_90 : decode mX3_layWays.2.1 90 = .ok (.istore 10, 2) := by decide +kernel
theorem dX3_layWays_92 : decode mX3_layWays.2.1 92 = .ok (.iload 10, 2) := by decide +kernel
theorem dX3_layWays_94 : decode mX3_layWays.2.1 94 = .ok (.iload_n 2, 1) := by decide +kernel
theorem dX3_layWays_95 : decode mX3_layWays.2.1 95 = .ok (.if_icmp .gt 55, 3) := by decide +kernel
theorem dX3_layWays_98 : decode mX3_layWays.2.1 98 = .ok (.aload_n 0, 1) := by decide +kernel
theorem dX3_layWays_99 : decode mX3_layWays.2.1 99 = .ok (.getfield 40, 3) := by decide +kernel
theorem dX3_layWays_102 : decode mX3_layWays.2.1 102 = .ok (.iload 7, 2) := by decide +kernel
theorem dX3_layWays_104 : decode mX3_layWays.2.1 104 = .ok (.bipush 41, 2) := by decide +kernel
theorem dX3_layWays_106 : decode mX3_layWays.2.1 106 = .ok (.imul, 1) := by decide +kernel
theorem dX3_layWays_107 : decode mX3_layWays.2.1 107 = .ok (.iload 10, 2) := by decide +kernel
theorem dX3_layWays_109 : decode mX3_layWays.2.1 109 = .ok (.iadd, 1) := by decide +kernel
theorem dX3_layWays_110 : decode mX3_layWays.2.1 110 = .ok (.iload 4, 2) := by decide +kernel
theorem dX3_layWays_112 : decode mX3_layWays.2.1 112 = .ok (.aload_n 0, 1) := by decide +kernel
theorem dX3_layWays_113 : decode mX3_layWays.2.1 113 = .ok (.getfield 25, 3) := by decide +kernel
theorem dX3_layWays_116 : decode mX3_layWays.2.1 116 = .ok (.iload 6, 2) := by decide +kernel
theorem dX3_layWays_118 : decode mX3_layWays.2.1 118 = .ok (.iaload, 1) := by decide +kernel
theorem dX3_layWays_119 : decode mX3_layWays.2.1 119 = .ok (.iload 10, 2) := by decide +kernel
theorem dX3_layWays_121 : decode mX3_layWays.2.1 121 = .ok (.iload_n 2, 1) := by decide +kernel
theorem dX3_layWays_122 : decode mX3_layWays.2.1 122 = .ok (.invokestatic 92, 3) := by decide +kernel
theorem dX3_layWays_125 : decode mX3_layWays.2.1 125 = .ok (.iload 5, 2) := by decide +kernel
theorem dX3_layWays_127 : decode mX3_layWays.2.1 127 = .ok (.aload_n 0, 1) := by decide +kernel
theorem dX3_layWays_128 : decode mX3_layWays.2.1 128 = .ok (.getfield 28, 3) := by decide +kernel
theorem dX3_layWays_131 : decode mX3_layWays.2.1 131 = .ok (.iload 6, 2) := by decide +kernel
theorem dX3_layWays_133 : decode mX3_layWays.2.1 133 = .ok (.iaload, 1) := by decide +kernel
theorem dX3_layWays_134 : decode mX3_layWays.2.1 134 = .ok (.iload 10, 2) := by decide +kernel
theorem dX3_layWays_136 : decode mX3_layWays.2.1 136 = .ok (.iload_n 2, 1) := by decide +kernel
theorem dX3_layWays_137 : decode mX3_layWays.2.1 137 = .ok (.invokestatic 92, 3) := by decide +kernel
theorem dX3_layWays_140 : decode mX3_layWays.2.1 140 = .ok (.invokestatic 98, 3) := by decide +kernel
theorem dX3_layWays_143 : decode mX3_layWays.2.1 143 = .ok (.iastore, 1) := by decide +kernel
theorem dX3_layWays_144 : decode mX3_layWays.2.1 144 = .ok (.iinc 10 1, 3) := by decide +kernel
theorem dX3_layWays_147 : decode mX3_layWays.2.1 147 = .ok (.goto (-55), 3) := by decide +kernel
theorem dX3_layWays_150 : decode mX3_layWays.2.1 150 = .ok (.iinc 6 1, 3) := by decide +kernel
theorem dX3_layWays_153 : decode mX3_layWays.2.1 153 = .ok (.goto (-124), 3) := by decide +kernel
theorem dX3_layWays_156 : decode mX3_layWays.2.1 156 = .ok (.iinc 3 1, 3) := by decide +kernel
theorem dX3_layWays_159 : decode mX3_layWays.2.1 159 = .ok (.goto (-157), 3) := by decide +kernel
theorem dX3_layWays_162 : decode mX3_layWays.2.1 162 = .ok (.return_, 1) := by decide +kernel
theorem dX3_layMeetings_0 : decode mX3_layMeetings.2.1 0 = .ok (.iconst 0, 1) := by decide +kernel
theorem dX3_layMeetings_1 : decode mX3_layMeetings.2.1 1 = .ok (.istore_n 2, 1) := by decide +kernel
theorem dX3_layMeetings_2 : decode mX3_layMeetings.2.1 2 = .ok (.iload_n 2, 1) := by decide +kernel
theorem dX3_layMeetings_3 : decode mX3_layMeetings.2.1 3 = .ok (.aload_n 0, 1) := by decide +kernel
theorem dX3_layMeetings_4 : decode mX3_layMeetings.2.1 4 = .ok (.getfield 47, 3) := by decide +kernel
theorem dX3_layMeetings_7 : decode mX3_layMeetings.2.1 7 = .ok (.bipush 6, 2) := by decide +kernel
theorem dX3_layMeetings_9 : decode mX3_layMeetings.2.1 9 = .ok (.imul, 1) := by decide +kernel
theorem dX3_layMeetings_10 : decode mX3_layMeetings.2.1 10 = .ok (.if_icmp .ge 104, 3) := by decide +kernel
theorem dX3_layMeetings_13 : decode mX3_layMeetings.2.1 13 = .ok (.iconst 0, 1) := by decide +kernel
theorem dX3_layMeetings_14 : decode mX3_layMeetings.2.1 14 = .ok (.istore_n 3, 1) := by decide +kernel
theorem dX3_layMeetings_15 : decode mX3_layMeetings.2.1 15 = .ok (.iload_n 3, 1) := by decide +kernel
theorem dX3_layMeetings_16 : decode mX3_layMeetings.2.1 16 = .ok (.iload_n 2, 1) := by decide +kernel
theorem dX3_layMeetings_17 : decode mX3_layMeetings.2.1 17 = .ok (.if_icmp .ge 91, 3) := by decide +kernel
theorem dX3_layMeetings_20 : decode mX3_layMeetings.2.1 20 = .ok (.iload_n 2, 1) := by decide +kernel
theorem dX3_layMeetings_21 : decode mX3_layMeetings.2.1 21 = .ok (.bipush 6, 2) := by decide +kernel
theorem dX3_layMeetings_23 : decode mX3_layMeetings.2.1 23 = .ok (.irem, 1) := by decide +kernel
theorem dX3_layMeetings_24 : decode mX3_layMeetings.2.1 24 = .ok (.aload_n 0, 1) := by decide +kernel
theorem dX3_layMeetings_25 : decode mX3_layMeetings.2.1 25 = .ok (.getfield 47, 3) := by decide +kernel
theorem dX3_layMeetings_28 : decode mX3_layMeetings.2.1 28 = .ok (.if_icmp .ge 29, 3) := by decide +kernel
theorem dX3_layMeetings_31 : decode mX3_layMeetings.2.1 31 = .ok (.iload_n 3, 1) := by decide +kernel
theorem dX3_layMeetings_32 : decode mX3_layMeetings.2.1 32 = .ok (.bipush 6, 2) := by decide +kernel
theorem dX3_layMeetings_34 : decode mX3_layMeetings.2.1 34 = .ok (.irem, 1) := by decide +kernel
theorem dX3_layMeetings_35 : decode mX3_layMeetings.2.1 35 = .ok (.aload_n 0, 1) := by decide +kernel
theorem dX3_layMeetings_36 : decode mX3_layMeetings.2.1 36 = .ok (.getfield 47, 3) := by decide +kernel
theorem dX3_layMeetings_39 : decode mX3_layMeetings.2.1 39 = .ok (.if_icmp .ge 18, 3) := by decide +kernel
theorem dX3_layMeetings_42 : decode mX3_layMeetings.2.1 42 = .ok (.iload_n 2, 1) := by decide +kernel
theorem dX3_layMeetings_43 : decode mX3_layMeetings.2.1 43 = .ok (.bipush 6, 2) := by decide +kernel
theorem dX3_layMeetings_45 : decode mX3_layMeetings.2.1 45 = .ok (.irem, 1) := by decide +kernel
theorem dX3_layMeetings_46 : decode mX3_layMeetings.2.1 46 = .ok (.iload_n 3, 1) := by decide +kernel
theorem dX3_layMeetings_47 : decode mX3_layMeetings.2.1 47 = .ok (.bipush 6, 2) := by decide +kernel
theorem dX3_layMeetings_49 : decode mX3_layMeetings.2.1 49 = .ok (.irem, 1) := by decide +kernel
theorem dX3_layMeetings_50 : decode mX3_layMeetings.2.1 50 = .ok (.if_icmp .eq 7, 3) := by decide +kernel
theorem dX3_layMeetings_53 : decode mX3_layMeetings.2.1 53 = .ok (.iconst 1, 1) := by decide +kernel
theorem dX3_layMeetings_54 : decode mX3_layMeetings.2.1 54 = .ok (.goto 4, 3) := by decide +kernel
theorem dX3_layMeetings_57 : decode mX3_layMeetings.2.1 57 = .ok (.iconst 0, 1) := by decide +kernel
theorem dX3_layMeetings_58 : decode mX3_layMeetings.2.1 58 = .ok (.istore 4, 2) := by decide +kernel
theorem dX3_layMeetings_60 : decode mX3_layMeetings.2.1 60 = .ok (.aload_n 0, 1) := by decide +kernel
theorem dX3_layMeetings_61 : decode mX3_layMeetings.2.1 61 = .ok (.getfield 43, 3) := by decide +kernel
theorem dX3_layMeetings_64 : decode mX3_layMeetings.2.1 64 = .ok (.iload_n 2, 1) := by decide +kernel
theorem dX3_layMeetings_65 : decode mX3_layMeetings.2.1 65 = .ok (.bipush 36, 2) := by decide +kernel
theorem dX3_layMeetings_67 : decode mX3_layMeetings.2.1 67 = .ok (.imul, 1) := by decide +kernel
theorem dX3_layMeetings_68 : decode mX3_layMeetings.2.1 68 = .ok (.iload_n 3, 1) := by decide +kernel
theorem dX3_layMeetings_69 : decode mX3_layMeetings.2.1 69 = .ok (.iadd, 1) := by decide +kernel
theorem dX3_layMeetings_70 : decode mX3_layMeetings.2.1 70 = .ok (.iload 4, 2) := by decide +kernel
theorem dX3_layMeetings_72 : decode mX3_layMeetings.2.1 72 = .ok (.ifCond .eq 28, 3) := by decide +kernel
theorem dX3_layMeetings_75 : decode mX3_layMeetings.2.1 75 = .ok (.iload_n 2, 1) := by decide +kernel
theorem dX3_layMeetings_76 : decode mX3_layMeetings.2.1 76 = .ok (.bipush 6, 2) := by decide +kernel
theorem dX3_layMeetings_78 : decode mX3_layMeetings.2.1 78 = .ok (.idiv, 1) := by decide +kernel
theorem dX3_layMeetings_79 : decode mX3_layMeetings.2.1 79 = .ok (.iload_n 3, 1) := by decide +kernel
theorem dX3_layMeetings_80 : decode mX3_layMeetings.2.1 80 = .ok (.bipush 6, 2) := by decide +kernel
theorem dX3_layMeetings_82 : decode mX3_layMeetings.2.1 82 = .ok (.idiv, 1) := by decide +kernel
theorem dX3_layMeetings_83 : decode mX3_layMeetings.2.1 83 = .ok (.if_icmp .eq 17, 3) := by decide +kernel
theorem dX3_layMeetings_86 : decode mX3_layMeetings.2.1 86 = .ok (.aload_n 0, 1) := by decide +kernel
theorem dX3_layMeetings_87 : decode mX3_layMeetings.2.1 87 = .ok (.iload_n 2, 1) := by decide +kernel
theorem dX3_layMeetings_88 : decode mX3_layMeetings.2.1 88 = .ok (.iload_n 3, 1) := by decide +kernel
theorem dX3_layMeetings_89 : decode mX3_layMeetings.2.1 89 = .ok (.iload_n 1, 1) := by decide +kernel
theorem dX3_layMeetings_90 : decode mX3_layMeetings.2.1 90 = .ok (.invokevirtual 102, 3) := by decide +kernel
theorem dX3_layMeetings_93 : decode mX3_layMeetings.2.1 93 = .ok (.ifCond .eq 7, 3) := by decide +kernel
theorem dX3_layMeetings_96 : decode mX3_layMeetings.2.1 96 = .ok (.iconst 1, 1) := by decide +kernel
theorem dX3_layMeetings_97 : decode mX3_layMeetings.2.1 97 = .ok (.goto 4, 3) := by decide +kernel
theorem dX3_layMeetings_100 : decode mX3_layMeetings.2.1 100 = .ok (.iconst 0, 1) := by decide +kernel
theorem dX3_layMeetings_101 : decode mX3_layMeetings.2.1 101 = .ok (.bastore, 1) := by decide +kernel
theorem dX3_layMeetings_102 : decode mX3_layMeetings.2.1 102 = .ok (.iinc 3 1, 3) := by decide +kernel
theorem dX3_layMeetings_105 : decode mX3_layMeetings.2.1 105 = .ok (.goto (-90), 3) := by decide +kernel
theorem dX3_layMeetings_108 : decode mX3_layMeetings.2.1 108 = .ok (.iinc 2 1, 3) := by decide +kernel
theorem dX3_layMeetings_111 : decode mX3_layMeetings.2.1 111 = .ok (.goto (-109), 3) := by decide +kernel
theorem dX3_layMeetings_114 : decode mX3_layMeetings.2.1 114 = .ok (.return_, 1) := by decide +kernel
theorem dX3_meet_0 : decode mX3_meet.2.1 0 = .ok (.iload_n 1, 1) := by decide +kernel
theorem dX3_meet_1 : decode mX3_meet.2.1 1 = .ok (.bipush 41, 2) := by decide +kernel
theorem dX3_meet_3 : decode mX3_meet.2.1 3 = .ok (.imul, 1) := by decide +kernel
theorem dX3_meet_4 : decode mX3_meet.2.1 4 = .ok (.istore 4, 2) := by decide +kernel
theorem dX3_meet_6 : decode mX3_meet.2.1 6 = .ok (.iload_n 2, 1) := by decide +kernel
theorem dX3_meet_7 : decode mX3_meet.2.1 7 = .ok (.bipush 41, 2) := by decide +kernel
theorem dX3_meet_9 : decode mX3_meet.2.1 9 = .ok (.imul, 1) := by decide +kernel
theorem dX3_meet_10 : decode mX3_meet.2.1 10 = .ok (.istore 5, 2) := by decide +kernel
theorem dX3_meet_12 : decode mX3_meet.2.1 12 = .ok (.iconst 0, 1) := by decide +kernel
theorem dX3_meet_13 : decode mX3_meet.2.1 13 = .ok (.istore 6, 2) := by decide +kernel
theorem dX3_meet_15 : decode mX3_meet.2.1 15 = .ok (.iload 6, 2) := by decide +kernel
theorem dX3_meet_17 : decode mX3_meet.2.1 17 = .ok (.iload_n 3, 1) := by decide +kernel
theorem dX3_meet_18 : decode mX3_meet.2.1 18 = .ok (.if_icmp .gt 91, 3) := by decide +kernel
theorem dX3_meet_21 : decode mX3_meet.2.1 21 = .ok (.aload_n 0, 1) := by decide +kernel
theorem dX3_meet_22 : decode mX3_meet.2.1 22 = .ok (.getfield 40, 3) := by decide +kernel
theorem dX3_meet_25 : decode mX3_meet.2.1 25 = .ok (.iload 4, 2) := by decide +kernel
theorem dX3_meet_27 : decode mX3_meet.2.1 27 = .ok (.iload 6, 2) := by decide +kernel
theorem dX3_meet_29 : decode mX3_meet.2.1 29 = .ok (.iadd, 1) := by decide +kernel
theorem dX3_meet_30 : decode mX3_meet.2.1 30 = .ok (.iaload, 1) := by decide +kernel
theorem dX3_meet_31 : decode mX3_meet.2.1 31 = .ok (.aload_n 0, 1) := by decide +kernel
theorem dX3_meet_32 : decode mX3_meet.2.1 32 = .ok (.getfield 40, 3) := by decide +kernel
theorem dX3_meet_35 : decode mX3_meet.2.1 35 = .ok (.iload 5, 2) := by decide +kernel
theorem dX3_meet_37 : decode mX3_meet.2.1 37 = .ok (.iload 6, 2) := by decide +kernel
theorem dX3_meet_39 : decode mX3_meet.2.1 39 = .ok (.iadd, 1) := by decide +kernel
theorem dX3_meet_40 : decode mX3_meet.2.1 40 = .ok (.iaload, 1) := by decide +kernel
theorem dX3_meet_41 : decode mX3_meet.2.1 41 = .ok (.if_icmp .ne 5, 3) := by decide +kernel
theorem dX3_meet_44 : decode mX3_meet.2.1 44 = .ok (.iconst 1, 1) := by decide +kernel
theorem dX3_meet_45 : decode mX3_meet.2.1 45 = .ok (.ireturn, 1) := by decide +kernel
theorem dX3_meet_46 : decode mX3_meet.2.1 46 = .ok (.iload 6, 2) := by decide +kernel
theorem dX3_meet_48 : decode mX3_meet.2.1 48 = .ok (.ifCond .le 55, 3) := by decide +kernel
theorem dX3_meet_51 : decode mX3_meet.2.1 51 = .ok (.aload_n 0, 1) := by decide +kernel
theorem dX3_meet_52 : decode mX3_meet.2.1 52 = .ok (.getfield 40, 3) := by decide +kernel
theorem dX3_meet_55 : decode mX3_meet.2.1 55 = .ok (.iload 4, 2) := by decide +kernel
theorem dX3_meet_57 : decode mX3_meet.2.1 57 = .ok (.iload 6, 2) := by decide +kernel
theorem dX3_meet_59 : decode mX3_meet.2.1 59 = .ok (.iadd, 1) := by decide +kernel
theorem dX3_meet_60 : decode mX3_meet.2.1 60 = .ok (.iaload, 1) := by decide +kernel
theorem dX3_meet_61 : decode mX3_meet.2.1 61 = .ok (.aload_n 0, 1) := by decide +kernel
theorem dX3_meet_62 : decode mX3_meet.2.1 62 = .ok (.getfield 40, 3) := by decide +kernel
theorem dX3_meet_65 : decode mX3_meet.2.1 65 = .ok (.iload 5, 2) := by decide +kernel
theorem dX3_meet_67 : decode mX3_meet.2.1 67 = .ok (.iload 6, 2) := by decide +kernel
theorem dX3_meet_69 : decode mX3_meet.2.1 69 = .ok (.iadd, 1) := by decide +kernel
theorem dX3_meet_70 : decode mX3_meet.2.1 70 = .ok (.iconst 1, 1) := by decide +kernel
theorem dX3_meet_71 : decode mX3_meet.2.1 71 = .ok (.isub, 1) := by decide +kernel
theorem dX3_meet_72 : decode mX3_meet.2.1 72 = .ok (.iaload, 1) := by decide +kernel
theorem dX3_meet_73 : decode mX3_meet.2.1 73 = .ok (.if_icmp .ne 30, 3) := by decide +kernel
theorem dX3_meet_76 : decode mX3_meet.2.1 76 = .ok (.aload_n 0, 1) := by decide +kernel
theorem dX3_meet_77 : decode mX3_meet.2.1 77 = .ok (.getfield 40, 3) := by decide +kernel
theorem dX3_meet_80 : decode mX3_meet.2.1 80 = .ok (.iload 5, 2) := by decide +kernel
theorem dX3_meet_82 : decode mX3_meet.2.1 82 = .ok (.iload 6, 2) := by decide +kernel
theorem dX3_meet_84 : decode mX3_meet.2.1 84 = .ok (.iadd, 1) := by decide +kernel
theorem dX3_meet_85 : decode mX3_meet.2.1 85 = .ok (.iaload, 1) := by decide +kernel
theorem dX3_meet_86 : decode mX3_meet.2.1 86 = .ok (.aload_n 0, 1) := by decide +kernel
theorem dX3_meet_87 : decode mX3_meet.2.1 87 = .ok (.getfield 40, 3) := by decide +kernel
theorem dX3_meet_90 : decode mX3_meet.2.1 90 = .ok (.iload 4, 2) := by decide +kernel
theorem dX3_meet_92 : decode mX3_meet.2.1 92 = .ok (.iload 6, 2) := by decide +kernel
theorem dX3_meet_94 : decode mX3_meet.2.1 94 = .ok (.iadd, 1) := by decide +kernel
theorem dX3_meet_95 : decode mX3_meet.2.1 95 = .ok (.iconst 1, 1) := by decide +kernel
theorem dX3_meet_96 : decode mX3_meet.2.1 96 = .ok (.isub, 1) := by decide +kernel
theorem dX3_meet_97 : decode mX3_meet.2.1 97 = .ok (.iaload, 1) := by decide +kernel
theorem dX3_meet_98 : decode mX3_meet.2.1 98 = .ok (.if_icmp .ne 5, 3) := by decide +kernel
theorem dX3_meet_101 : decode mX3_meet.2.1 101 = .ok (.iconst 1, 1) := by decide +kernel
theorem dX3_meet_102 : decode mX3_meet.2.1 102 = .ok (.ireturn, 1) := by decide +kernel
theorem dX3_meet_103 : decode mX3_meet.2.1 103 = .ok (.iinc 6 1, 3) := by decide +kernel
theorem dX3_meet_106 : decode mX3_meet.2.1 106 = .ok (.goto (-91), 3) := by decide +kernel
theorem dX3_meet_109 : decode mX3_meet.2.1 109 = .ok (.iconst 0, 1) := by decide +kernel
theorem dX3_meet_110 : decode mX3_meet.2.1 110 = .ok (.ireturn, 1) := by decide +kernel
theorem dX3_choose_0 : decode mX3_choose.2.1 0 = .ok (.iload_n 1, 1) := by decide +kernel
theorem dX3_choose_1 : decode mX3_choose.2.1 1 = .ok (.aload_n 0, 1) := by decide +kernel
theorem dX3_choose_2 : decode mX3_choose.2.1 2 = .ok (.getfield 47, 3) := by decide +kernel
theorem dX3_choose_5 : decode mX3_choose.2.1 5 = .ok (.if_icmp .lt 11, 3) := by decide +kernel
theorem dX3_choose_8 : decode mX3_choose.2.1 8 = .ok (.aload_n 0, 1) := by decide +kernel
theorem dX3_choose_9 : decode mX3_choose.2.1 9 = .ok (.iload_n 3, 1) := by decide +kernel
theorem dX3_choose_10 : decode mX3_choose.2.1 10 = .ok (.iload 4, 2) := by decide +kernel
theorem dX3_choose_12 : decode mX3_choose.2.1 12 = .ok (.invokevirtual 106, 3) := by decide +kernel
theorem dX3_choose_15 : decode mX3_choose.2.1 15 = .ok (.return_, 1) := by decide +kernel
theorem dX3_choose_16 : decode mX3_choose.2.1 16 = .ok (.iconst 0, 1) := by decide +kernel
theorem dX3_choose_17 : decode mX3_choose.2.1 17 = .ok (.istore 5, 2) := by decide +kernel
theorem dX3_choose_19 : decode mX3_choose.2.1 19 = .ok (.iload 5, 2) := by decide +kernel
theorem dX3_choose_21 : decode mX3_choose.2.1 21 = .ok (.aload_n 0, 1) := by decide +kernel
theorem dX3_choose_22 : decode mX3_choose.2.1 22 = .ok (.getfield 47, 3) := by decide +kernel
theorem dX3_choose_25 : decode mX3_choose.2.1 25 = .ok (.if_icmp .ge 74, 3) := by decide +kernel
theorem dX3_choose_28 : decode mX3_choose.2.1 28 = .ok (.iload_n 2, 1) := by decide +kernel
theorem dX3_choose_29 : decode mX3_choose.2.1 29 = .ok (.iload 5, 2) := by decide +kernel
theorem dX3_choose_31 : decode mX3_choose.2.1 31 = .ok (.iushr, 1) := by decide +kernel
theorem dX3_choose_32 : decode mX3_choose.2.1 32 = .ok (.iconst 1, 1) := by decide +kernel
theorem dX3_choose_33 : decode mX3_choose.2.1 33 = .ok (.iand, 1) := by decide +kernel
theorem dX3_choose_34 : decode mX3_choose.2.1 34 = .ok (.ifCond .ne 59, 3) := by decide +kernel
theorem dX3_choose_37 : decode mX3_choose.2.1 37 = .ok (.aload_n 0, 1) := by decide +kernel
theorem dX3_choose_38 : decode mX3_choose.2.1 38 = .ok (.iload_n 1, 1) := by decide +kernel
theorem dX3_choose_39 : decode mX3_choose.2.1 39 = .ok (.iload 5, 2) := by decide +kernel
theorem dX3_choose_41 : decode mX3_choose.2.1 41 = .ok (.invokevirtual 110, 3) := by decide +kernel
theorem dX3_choose_44 : decode mX3_choose.2.1 44 = .ok (.ifCond .eq 49, 3) := by decide +kernel
theorem dX3_choose_47 : decode mX3_choose.2.1 47 = .ok (.aload_n 0, 1) := by decide +kernel
theorem dX3_choose_48 : decode mX3_choose.2.1 48 = .ok (.getfield 37, 3) := by decide +kernel
theorem dX3_choose_51 : decode mX3_choose.2.1 51 = .ok (.iload_n 1, 1) := by decide +kernel
theorem dX3_choose_52 : decode mX3_choose.2.1 52 = .ok (.bipush 6, 2) := by decide +kernel
theorem dX3_choose_54 : decode mX3_choose.2.1 54 = .ok (.imul, 1) := by decide +kernel
theorem dX3_choose_55 : decode mX3_choose.2.1 55 = .ok (.iload 5, 2) := by decide +kernel
theorem dX3_choose_57 : decode mX3_choose.2.1 57 = .ok (.iadd, 1) := by decide +kernel
theorem dX3_choose_58 : decode mX3_choose.2.1 58 = .ok (.iaload, 1) := by decide +kernel
theorem dX3_choose_59 : decode mX3_choose.2.1 59 = .ok (.istore 6, 2) := by decide +kernel
theorem dX3_choose_61 : decode mX3_choose.2.1 61 = .ok (.aload_n 0, 1) := by decide +kernel
theorem dX3_choose_62 : decode mX3_choose.2.1 62 = .ok (.getfield 31, 3) := by decide +kernel
theorem dX3_choose_65 : decode mX3_choose.2.1 65 = .ok (.iload_n 1, 1) := by decide +kernel
theorem dX3_choose_66 : decode mX3_choose.2.1 66 = .ok (.iload 5, 2) := by decide +kernel
theorem dX3_choose_68 : decode mX3_choose.2.1 68 = .ok (.iastore, 1) := by decide +kernel
theorem dX3_choose_69 : decode mX3_choose.2.1 69 = .ok (.aload_n 0, 1) := by decide +kernel
theorem dX3_choose_70 : decode mX3_choose.2.1 70 = .ok (.iload_n 1, 1) := by decide +kernel
theorem dX3_choose_71 : decode mX3_choose.2.1 71 = .ok (.iconst 1, 1) := by decide +kernel
theorem dX3_choose_72 : decode mX3_choose.2.1 72 = .ok (.iadd, 1) := by decide +kernel
theorem dX3_choose_73 : decode mX3_choose.2.1 73 = .ok (.iload_n 2, 1) := by decide +kernel
theorem dX3_choose_74 : decode mX3_choose.2.1 74 = .ok (.iconst 1, 1) := by decide +kernel
theorem dX3_choose_75 : decode mX3_choose.2.1 75 = .ok (.iload 5, 2) := by decide +kernel
theorem dX3_choose_77 : decode mX3_choose.2.1 77 = .ok (.ishl, 1) := by decide +kernel
theorem dX3_choose_78 : decode mX3_choose.2.1 78 = .ok (.ior, 1) := by decide +kernel
theorem dX3_choose_79 : decode mX3_choose.2.1 79 = .ok (.iload_n 3, 1) := by decide +kernel
theorem dX3_choose_80 : decode mX3_choose.2.1 80 = .ok (.iload 6, 2) := by decide +kernel
theorem dX3_choose_82 : decode mX3_choose.2.1 82 = .ok (.invokestatic 114, 3) := by decide +kernel
theorem dX3_choose_85 : decode mX3_choose.2.1 85 = .ok (.iload 4, 2) := by decide +kernel
theorem dX3_choose_87 : decode mX3_choose.2.1 87 = .ok (.iload 6, 2) := by decide +kernel
theorem dX3_choose_89 : decode mX3_choose.2.1 89 = .ok (.iadd, 1) := by decide +kernel
theorem dX3_choose_90 : decode mX3_choose.2.1 90 = .ok (.invokevirtual 76, 3) := by decide +kernel
theorem dX3_choose_93 : decode mX3_choose.2.1 93 = .ok (.iinc 5 1, 3) := by decide +kernel
theorem dX3_choose_96 : decode mX3_choose.2.1 96 = .ok (.goto (-77), 3) := by decide +kernel
theorem dX3_choose_99 : decode mX3_choose.2.1 99 = .ok (.return_, 1) := by decide +kernel
theorem dX3_isFree_0 : decode mX3_isFree.2.1 0 = .ok (.iload_n 1, 1) := by decide +kernel
theorem dX3_isFree_1 : decode mX3_isFree.2.1 1 = .ok (.bipush 6, 2) := by decide +kernel
theorem dX3_isFree_3 : decode mX3_isFree.2.1 3 = .ok (.imul, 1) := by decide +kernel
theorem dX3_isFree_4 : decode mX3_isFree.2.1 4 = .ok (.iload_n 2, 1) := by decide +kernel
theorem dX3_isFree_5 : decode mX3_isFree.2.1 5 = .ok (.iadd, 1) := by decide +kernel
theorem dX3_isFree_6 : decode mX3_isFree.2.1 6 = .ok (.bipush 36, 2) := by decide +kernel
theorem dX3_isFree_8 : decode mX3_isFree.2.1 8 = .ok (.imul, 1) := by decide +kernel
theorem dX3_isFree_9 : decode mX3_isFree.2.1 9 = .ok (.istore_n 3, 1) := by decide +kernel
theorem dX3_isFree_10 : decode mX3_isFree.2.1 10 = .ok (.iconst 0, 1) := by decide +kernel
theorem dX3_isFree_11 : decode mX3_isFree.2.1 11 = .ok (.istore 4, 2) := by decide +kernel
theorem dX3_isFree_13 : decode mX3_isFree.2.1 13 = .ok (.iload 4, 2) := by decide +kernel
theorem dX3_isFree_15 : decode mX3_isFree.2.1 15 = .ok (.iload_n 1, 1) := by decide +kernel
theorem dX3_isFree_16 : decode mX3_isFree.2.1 16 = .ok (.if_icmp .ge 34, 3) := by decide +kernel
theorem dX3_isFree_19 : decode mX3_isFree.2.1 19 = .ok (.aload_n 0, 1) := by decide +kernel
theorem dX3_isFree_20 : decode mX3_isFree.2.1 20 = .ok (.getfield 43, 3) := by decide +kernel
theorem dX3_isFree_23 : decode mX3_isFree.2.1 23 = .ok (.iload_n 3, 1) := by decide +kernel
theorem dX3_isFree_24 : decode mX3_isFree.2.1 24 = .ok (.iload 4, 2) := by decide +kernel
theorem dX3_isFree_26 : decode mX3_isFree.2.1 26 = .ok (.bipush 6, 2) := by decide +kernel
theorem dX3_isFree_28 : decode mX3_isFree.2.1 28 = .ok (.imul, 1) := by decide +kernel
theorem dX3_isFree_29 : decode mX3_isFree.2.1 29 = .ok (.iadd, 1) := by decide +kernel
theorem dX3_isFree_30 : decode mX3_isFree.2.1 30 = .ok (.aload_n 0, 1) := by decide +kernel
theorem dX3_isFree_31 : decode mX3_isFree.2.1 31 = .ok (.getfield 31, 3) := by decide +kernel
theorem dX3_isFree_34 : decode mX3_isFree.2.1 34 = .ok (.iload 4, 2) := by decide +kernel
theorem dX3_isFree_36 : decode mX3_isFree.2.1 36 = .ok (.iaload, 1) := by decide +kernel
theorem dX3_isFree_37 : decode mX3_isFree.2.1 37 = .ok (.iadd, 1) := by decide +kernel
theorem dX3_isFree_38 : decode mX3_isFree.2.1 38 = .ok (.baload, 1) := by decide +kernel
theorem dX3_isFree_39 : decode mX3_isFree.2.1 39 = .ok (.ifCond .eq 5, 3) := by decide +kernel
theorem dX3_isFree_42 : decode mX3_isFree.2.1 42 = .ok (.iconst 0, 1) := by decide +kernel
theorem dX3_isFree_43 : decode mX3_isFree.2.1 43 = .ok (.ireturn, 1) := by decide +kernel
theorem dX3_isFree_44 : decode mX3_isFree.2.1 44 = .ok (.iinc 4 1, 3) := by decide +kernel
theorem dX3_isFree_47 : decode mX3_isFree.2.1 47 = .ok (.goto (-34), 3) := by decide +kernel
theorem dX3_isFree_50 : decode mX3_isFree.2.1 50 = .ok (.iconst 1, 1) := by decide +kernel
theorem dX3_isFree_51 : decode mX3_isFree.2.1 51 = .ok (.ireturn, 1) := by decide +kernel
theorem dX3_keepIfBetter_0 : decode mX3_keepIfBetter.2.1 0 = .ok (.aload_n 0, 1) := by decide +kernel
theorem dX3_keepIfBetter_1 : decode mX3_keepIfBetter.2.1 1 = .ok (.getfield 50, 3) := by decide +kernel
theorem dX3_keepIfBetter_4 : decode mX3_keepIfBetter.2.1 4 = .ok (.iconst (-1), 1) := by decide +kernel
theorem dX3_keepIfBetter_5 : decode mX3_keepIfBetter.2.1 5 = .ok (.if_icmp .eq 27, 3) := by decide +kernel
theorem dX3_keepIfBetter_8 : decode mX3_keepIfBetter.2.1 8 = .ok (.iload_n 1, 1) := by decide +kernel
theorem dX3_keepIfBetter_9 : decode mX3_keepIfBetter.2.1 9 = .ok (.aload_n 0, 1) := by decide +kernel
theorem dX3_keepIfBetter_10 : decode mX3_keepIfBetter.2.1 10 = .ok (.getfield 50, 3) := by decide +kernel
theorem dX3_keepIfBetter_13 : decode mX3_keepIfBetter.2.1 13 = .ok (.if_icmp .lt 19, 3) := by decide +kernel
theorem dX3_keepIfBetter_16 : decode mX3_keepIfBetter.2.1 16 = .ok (.iload_n 1, 1) := by decide +kernel
theorem dX3_keepIfBetter_17 : decode mX3_keepIfBetter.2.1 17 = .ok (.aload_n 0, 1) := by decide +kernel
theorem dX3_keepIfBetter_18 : decode mX3_keepIfBetter.2.1 18 = .ok (.getfield 50, 3) := by decide +kernel
theorem dX3_keepIfBetter_21 : decode mX3_keepIfBetter.2.1 21 = .ok (.if_icmp .ne 15, 3) := by decide +kernel
theorem dX3_keepIfBetter_24 : decode mX3_keepIfBetter.2.1 24 = .ok (.iload_n 2, 1) := by decide +kernel
theorem dX3_keepIfBetter_25 : decode mX3_keepIfBetter.2.1 25 = .ok (.aload_n 0, 1) := by decide +kernel
theorem dX3_keepIfBetter_26 : decode mX3_keepIfBetter.2.1 26 = .ok (.getfield 53, 3) := by decide +kernel
theorem dX3_keepIfBetter_29 : decode mX3_keepIfBetter.2.1 29 = .ok (.if_icmp .ge 7, 3) := by decide +kernel
theorem dX3_keepIfBetter_32 : decode mX3_keepIfBetter.2.1 32 = .ok (.iconst 1, 1) := by decide +kernel
theorem dX3_keepIfBetter_33 : decode mX3_keepIfBetter.2.1 33 = .ok (.goto 4, 3) := by decide +kernel
theorem dX3_keepIfBetter_36 : decode mX3_keepIfBetter.2.1 36 = .ok (.iconst 0, 1) := by decide +kernel
theorem dX3_keepIfBetter_37 : decode mX3_keepIfBetter.2.1 37 = .ok (.istore_n 3, 1) := by decide +kernel
theorem dX3_keepIfBetter_38 : decode mX3_keepIfBetter.2.1 38 = .ok (.iload_n 3, 1) := by decide +kernel
theorem dX3_keepIfBetter_39 : decode mX3_keepIfBetter.2.1 39 = .ok (.ifCond .eq 30, 3) := by decide +kernel
theorem dX3_keepIfBetter_42 : decode mX3_keepIfBetter.2.1 42 = .ok (.aload_n 0, 1) := by decide +kernel
theorem dX3_keepIfBetter_43 : decode mX3_keepIfBetter.2.1 43 = .ok (.iload_n 1, 1) := by decide +kernel
theorem dX3_keepIfBetter_44 : decode mX3_keepIfBetter.2.1 44 = .ok (.putfield 50, 3) := by decide +kernel
theorem dX3_keepIfBetter_47 : decode mX3_keepIfBetter.2.1 47 = .ok (.aload_n 0, 1) := by decide +kernel
theorem dX3_keepIfBetter_48 : decode mX3_keepIfBetter.2.1 48 = .ok (.iload_n 2, 1) := by decide +kernel
theorem dX3_keepIfBetter_49 : decode mX3_keepIfBetter.2.1 49 = .ok (.putfield 53, 3) := by decide +kernel
theorem dX3_keepIfBetter_52 : decode mX3_keepIfBetter.2.1 52 = .ok (.aload_n 0, 1) := by decide +kernel
theorem dX3_keepIfBetter_53 : decode mX3_keepIfBetter.2.1 53 = .ok (.getfield 31, 3) := by decide +kernel
theorem dX3_keepIfBetter_56 : decode mX3_keepIfBetter.2.1 56 = .ok (.iconst 0, 1) := by decide +kernel
theorem dX3_keepIfBetter_57 : decode mX3_keepIfBetter.2.1 57 = .ok (.aload_n 0, 1) := by decide +kernel
theorem dX3_keepIfBetter_58 : decode mX3_keepIfBetter.2.1 58 = .ok (.getfield 34, 3) := by decide +kernel
theorem dX3_keepIfBetter_61 : decode mX3_keepIfBetter.2.1 61 = .ok (.iconst 0, 1) := by decide +kernel
theorem dX3_keepIfBetter_62 : decode mX3_keepIfBetter.2.1 62 = .ok (.aload_n 0, 1) := by decide +kernel
theorem dX3_keepIfBetter_63 : decode mX3_keepIfBetter.2.1 63 = .ok (.getfield 47, 3) := by decide +kernel
theorem dX3_keepIfBetter_66 : decode mX3_keepIfBetter.2.1 66 = .ok (.invokestatic 80, 3) := by decide +kernel
theorem dX3_keepIfBetter_69 : decode mX3_keepIfBetter.2.1 69 = .ok (.return_, 1) := by decide +kernel
theorem dX4_init_0 : decode mX4_init.2.1 0 = .ok (.aload_n 0, 1) := by decide +kernel
theorem dX4_init_1 : decode mX4_init.2.1 1 = .ok (.invokespecial 3, 3) := by decide +kernel
theorem dX4_init_4 : decode mX4_init.2.1 4 = .ok (.aload_n 0, 1) := by decide +kernel
theorem dX4_init_5 : decode mX4_init.2.1 5 = .ok (.sipush 500, 3) := by decide +kernel
theorem dX4_init_8 : decode mX4_init.2.1 8 = .ok (.newarray .int, 2) := by decide +kernel
theorem dX4_init_10 : decode mX4_init.2.1 10 = .ok (.putfield 11, 3) := by decide +kernel
theorem dX4_init_13 : decode mX4_init.2.1 13 = .ok (.aload_n 0, 1) := by decide +kernel
theorem dX4_init_14 : decode mX4_init.2.1 14 = .ok (.iconst 0, 1) := by decide +kernel
theorem dX4_init_15 : decode mX4_init.2.1 15 = .ok (.putfield 15, 3) := by decide +kernel
theorem dX4_init_18 : decode mX4_init.2.1 18 = .ok (.aload_n 0, 1) := by decide +kernel
theorem dX4_init_19 : decode mX4_init.2.1 19 = .ok (.iconst 0, 1) := by decide +kernel
