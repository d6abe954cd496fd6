theorem dX10_orders_94 : decode mX10_orders.2.1 94 = .ok (.aload_n 0, 1) := by decide +kernel
theorem dX10_orders_95 : decode mX10_orders.2.1 95 = .ok (.aload_n 2, 1) := by decide +kernel
theorem dX10_orders_96 : decode mX10_orders.2.1 96 = .ok (.putfield 71, 3) := by decide +kernel
theorem dX10_orders_99 : decode mX10_orders.2.1 99 = .ok (.aload_n 0, 1) := by decide +kernel
theorem dX10_orders_100 : decode mX10_orders.2.1 100 = .ok (.aload_n 0, 1) := by decide +kernel
theorem dX10_orders_101 : decode mX10_orders.2.1 101 = .ok (.getfield 67, 3) := by decide +kernel
theorem dX10_orders_104 : decode mX10_orders.2.1 104 = .ok (.getfield 211, 3) := by decide +kernel
theorem dX10_orders_107 : decode mX10_orders.2.1 107 = .ok (.invokevirtual 162, 3) := by decide +kernel
theorem dX10_orders_110 : decode mX10_orders.2.1 110 = .ok (.ireturn, 1) := by decide +kernel
theorem dX10_fault_0 : decode mX10_fault.2.1 0 = .ok (.iload_n 1, 1) := by decide +kernel
theorem dX10_fault_1 : decode mX10_fault.2.1 1 = .ok (.ifCond .ne 10, 3) := by decide +kernel
theorem dX10_fault_4 : decode mX10_fault.2.1 4 = .ok (.aload_n 0, 1) := by decide +kernel
theorem dX10_fault_5 : decode mX10_fault.2.1 5 = .ok (.getfield 88, 3) := by decide +kernel
theorem dX10_fault_8 : decode mX10_fault.2.1 8 = .ok (.goto 16, 3) := by decide +kernel
theorem dX10_fault_11 : decode mX10_fault.2.1 11 = .ok (.iload_n 1, 1) := by decide +kernel
theorem dX10_fault_12 : decode mX10_fault.2.1 12 = .ok (.iconst 1, 1) := by decide +kernel
theorem dX10_fault_13 : decode mX10_fault.2.1 13 = .ok (.if_icmp .ne 10, 3) := by decide +kernel
theorem dX10_fault_16 : decode mX10_fault.2.1 16 = .ok (.aload_n 0, 1) := by decide +kernel
theorem dX10_fault_17 : decode mX10_fault.2.1 17 = .ok (.getfield 91, 3) := by decide +kernel
theorem dX10_fault_20 : decode mX10_fault.2.1 20 = .ok (.goto 4, 3) := by decide +kernel
theorem dX10_fault_23 : decode mX10_fault.2.1 23 = .ok (.iconst (-1), 1) := by decide +kernel
theorem dX10_fault_24 : decode mX10_fault.2.1 24 = .ok (.ireturn, 1) := by decide +kernel
theorem dX10_run_0 : decode mX10_run.2.1 0 = .ok (.aload_n 0, 1) := by decide +kernel
theorem dX10_run_1 : decode mX10_run.2.1 1 = .ok (.getfield 67, 3) := by decide +kernel
theorem dX10_run_4 : decode mX10_run.2.1 4 = .ok (.getfield 214, 3) := by decide +kernel
theorem dX10_run_7 : decode mX10_run.2.1 7 = .ok (.ifCond .ne 10, 3) := by decide +kernel
theorem dX10_run_10 : decode mX10_run.2.1 10 = .ok (.aload_n 0, 1) := by decide +kernel
theorem dX10_run_11 : decode mX10_run.2.1 11 = .ok (.bipush 8, 2) := by decide +kernel
theorem dX10_run_13 : decode mX10_run.2.1 13 = .ok (.invokevirtual 124, 3) := by decide +kernel
theorem dX10_run_16 : decode mX10_run.2.1 16 = .ok (.ireturn, 1) := by decide +kernel
theorem dX10_run_17 : decode mX10_run.2.1 17 = .ok (.aload_n 0, 1) := by decide +kernel
theorem dX10_run_18 : decode mX10_run.2.1 18 = .ok (.getfield 32, 3) := by decide +kernel
theorem dX10_run_21 : decode mX10_run.2.1 21 = .ok (.aload_n 0, 1) := by decide +kernel
theorem dX10_run_22 : decode mX10_run.2.1 22 = .ok (.getfield 67, 3) := by decide +kernel
theorem dX10_run_25 : decode mX10_run.2.1 25 = .ok (.aload_n 0, 1) := by decide +kernel
theorem dX10_run_26 : decode mX10_run.2.1 26 = .ok (.getfield 18, 3) := by decide +kernel
theorem dX10_run_29 : decode mX10_run.2.1 29 = .ok (.aload_n 0, 1) := by decide +kernel
theorem dX10_run_30 : decode mX10_run.2.1 30 = .ok (.getfield 81, 3) := by decide +kernel
theorem dX10_run_33 : decode mX10_run.2.1 33 = .ok (.invokevirtual 217, 3) := by decide +kernel
theorem dX10_run_36 : decode mX10_run.2.1 36 = .ok (.aload_n 0, 1) := by decide +kernel
theorem dX10_run_37 : decode mX10_run.2.1 37 = .ok (.aload_n 0, 1) := by decide +kernel
theorem dX10_run_38 : decode mX10_run.2.1 38 = .ok (.getfield 32, 3) := by decide +kernel
theorem dX10_run_41 : decode mX10_run.2.1 41 = .ok (.getfield 221, 3) := by decide +kernel
theorem dX10_run_44 : decode mX10_run.2.1 44 = .ok (.putfield 94, 3) := by decide +kernel
theorem dX10_run_47 : decode mX10_run.2.1 47 = .ok (.aload_n 0, 1) := by decide +kernel
theorem dX10_run_48 : decode mX10_run.2.1 48 = .ok (.aload_n 0, 1) := by decide +kernel
theorem dX10_run_49 : decode mX10_run.2.1 49 = .ok (.getfield 32, 3) := by decide +kernel
theorem dX10_run_52 : decode mX10_run.2.1 52 = .ok (.getfield 222, 3) := by decide +kernel
theorem dX10_run_55 : decode mX10_run.2.1 55 = .ok (.putfield 97, 3) := by decide +kernel
theorem dX10_run_58 : decode mX10_run.2.1 58 = .ok (.aload_n 0, 1) := by decide +kernel
theorem dX10_run_59 : decode mX10_run.2.1 59 = .ok (.getfield 94, 3) := by decide +kernel
theorem dX10_run_62 : decode mX10_run.2.1 62 = .ok (.ifCond .eq 10, 3) := by decide +kernel
theorem dX10_run_65 : decode mX10_run.2.1 65 = .ok (.aload_n 0, 1) := by decide +kernel
theorem dX10_run_66 : decode mX10_run.2.1 66 = .ok (.bipush 10, 2) := by decide +kernel
theorem dX10_run_68 : decode mX10_run.2.1 68 = .ok (.invokevirtual 124, 3) := by decide +kernel
theorem dX10_run_71 : decode mX10_run.2.1 71 = .ok (.ireturn, 1) := by decide +kernel
theorem dX10_run_72 : decode mX10_run.2.1 72 = .ok (.aload_n 0, 1) := by decide +kernel
theorem dX10_run_73 : decode mX10_run.2.1 73 = .ok (.getfield 77, 3) := by decide +kernel
theorem dX10_run_76 : decode mX10_run.2.1 76 = .ok (.astore_n 1, 1) := by decide +kernel
theorem dX10_run_77 : decode mX10_run.2.1 77 = .ok (.aload_n 0, 1) := by decide +kernel
theorem dX10_run_78 : decode mX10_run.2.1 78 = .ok (.aload_n 0, 1) := by decide +kernel
theorem dX10_run_79 : decode mX10_run.2.1 79 = .ok (.getfield 81, 3) := by decide +kernel
theorem dX10_run_82 : decode mX10_run.2.1 82 = .ok (.putfield 77, 3) := by decide +kernel
theorem dX10_run_85 : decode mX10_run.2.1 85 = .ok (.aload_n 0, 1) := by decide +kernel
theorem dX10_run_86 : decode mX10_run.2.1 86 = .ok (.aload_n 1, 1) := by decide +kernel
theorem dX10_run_87 : decode mX10_run.2.1 87 = .ok (.putfield 81, 3) := by decide +kernel
theorem dX10_run_90 : decode mX10_run.2.1 90 = .ok (.aload_n 0, 1) := by decide +kernel
theorem dX10_run_91 : decode mX10_run.2.1 91 = .ok (.aload_n 0, 1) := by decide +kernel
theorem dX10_run_92 : decode mX10_run.2.1 92 = .ok (.getfield 77, 3) := by decide +kernel
theorem dX10_run_95 : decode mX10_run.2.1 95 = .ok (.getfield 223, 3) := by decide +kernel
theorem dX10_run_98 : decode mX10_run.2.1 98 = .ok (.invokevirtual 162, 3) := by decide +kernel
theorem dX10_run_101 : decode mX10_run.2.1 101 = .ok (.ireturn, 1) := by decide +kernel
theorem dX10_error_0 : decode mX10_error.2.1 0 = .ok (.iload_n 1, 1) := by decide +kernel
theorem dX10_error_1 : decode mX10_error.2.1 1 = .ok (.ifCond .ne 10, 3) := by decide +kernel
theorem dX10_error_4 : decode mX10_error.2.1 4 = .ok (.aload_n 0, 1) := by decide +kernel
theorem dX10_error_5 : decode mX10_error.2.1 5 = .ok (.getfield 94, 3) := by decide +kernel
theorem dX10_error_8 : decode mX10_error.2.1 8 = .ok (.goto 16, 3) := by decide +kernel
theorem dX10_error_11 : decode mX10_error.2.1 11 = .ok (.iload_n 1, 1) := by decide +kernel
theorem dX10_error_12 : decode mX10_error.2.1 12 = .ok (.iconst 1, 1) := by decide +kernel
theorem dX10_error_13 : decode mX10_error.2.1 13 = .ok (.if_icmp .ne 10, 3) := by decide +kernel
theorem dX10_error_16 : decode mX10_error.2.1 16 = .ok (.aload_n 0, 1) := by decide +kernel
theorem dX10_error_17 : decode mX10_error.2.1 17 = .ok (.getfield 97, 3) := by decide +kernel
theorem dX10_error_20 : decode mX10_error.2.1 20 = .ok (.goto 4, 3) := by decide +kernel
theorem dX10_error_23 : decode mX10_error.2.1 23 = .ok (.iconst (-1), 1) := by decide +kernel
theorem dX10_error_24 : decode mX10_error.2.1 24 = .ok (.ireturn, 1) := by decide +kernel
theorem dX10_at_0 : decode mX10_at.2.1 0 = .ok (.aload_n 0, 1) := by decide +kernel
theorem dX10_at_1 : decode mX10_at.2.1 1 = .ok (.getfield 77, 3) := by decide +kernel
theorem dX10_at_4 : decode mX10_at.2.1 4 = .ok (.getfield 226, 3) := by decide +kernel
theorem dX10_at_7 : decode mX10_at.2.1 7 = .ok (.ifCond .ne 10, 3) := by decide +kernel
theorem dX10_at_10 : decode mX10_at.2.1 10 = .ok (.aload_n 0, 1) := by decide +kernel
theorem dX10_at_11 : decode mX10_at.2.1 11 = .ok (.bipush 8, 2) := by decide +kernel
theorem dX10_at_13 : decode mX10_at.2.1 13 = .ok (.invokevirtual 124, 3) := by decide +kernel
theorem dX10_at_16 : decode mX10_at.2.1 16 = .ok (.ireturn, 1) := by decide +kernel
theorem dX10_at_17 : decode mX10_at.2.1 17 = .ok (.aload_n 0, 1) := by decide +kernel
theorem dX10_at_18 : decode mX10_at.2.1 18 = .ok (.getfield 77, 3) := by decide +kernel
theorem dX10_at_21 : decode mX10_at.2.1 21 = .ok (.iload_n 1, 1) := by decide +kernel
theorem dX10_at_22 : decode mX10_at.2.1 22 = .ok (.invokevirtual 229, 3) := by decide +kernel
theorem dX10_at_25 : decode mX10_at.2.1 25 = .ok (.ifCond .eq 14, 3) := by decide +kernel
theorem dX10_at_28 : decode mX10_at.2.1 28 = .ok (.aload_n 0, 1) := by decide +kernel
theorem dX10_at_29 : decode mX10_at.2.1 29 = .ok (.getfield 77, 3) := by decide +kernel
theorem dX10_at_32 : decode mX10_at.2.1 32 = .ok (.iload_n 2, 1) := by decide +kernel
theorem dX10_at_33 : decode mX10_at.2.1 33 = .ok (.invokevirtual 232, 3) := by decide +kernel
theorem dX10_at_36 : decode mX10_at.2.1 36 = .ok (.ifCond .ne 9, 3) := by decide +kernel
theorem dX10_at_39 : decode mX10_at.2.1 39 = .ok (.aload_n 0, 1) := by decide +kernel
theorem dX10_at_40 : decode mX10_at.2.1 40 = .ok (.iconst 2, 1) := by decide +kernel
theorem dX10_at_41 : decode mX10_at.2.1 41 = .ok (.invokevirtual 124, 3) := by decide +kernel
theorem dX10_at_44 : decode mX10_at.2.1 44 = .ok (.ireturn, 1) := by decide +kernel
theorem dX10_at_45 : decode mX10_at.2.1 45 = .ok (.iload_n 3, 1) := by decide +kernel
theorem dX10_at_46 : decode mX10_at.2.1 46 = .ok (.ifCond .ne 17, 3) := by decide +kernel
theorem dX10_at_49 : decode mX10_at.2.1 49 = .ok (.aload_n 0, 1) := by decide +kernel
theorem dX10_at_50 : decode mX10_at.2.1 50 = .ok (.aload_n 0, 1) := by decide +kernel
theorem dX10_at_51 : decode mX10_at.2.1 51 = .ok (.getfield 77, 3) := by decide +kernel
theorem dX10_at_54 : decode mX10_at.2.1 54 = .ok (.iload_n 1, 1) := by decide +kernel
theorem dX10_at_55 : decode mX10_at.2.1 55 = .ok (.iload_n 2, 1) := by decide +kernel
theorem dX10_at_56 : decode mX10_at.2.1 56 = .ok (.invokevirtual 235, 3) := by decide +kernel
theorem dX10_at_59 : decode mX10_at.2.1 59 = .ok (.invokevirtual 162, 3) := by decide +kernel
theorem dX10_at_62 : decode mX10_at.2.1 62 = .ok (.ireturn, 1) := by decide +kernel
theorem dX10_at_63 : decode mX10_at.2.1 63 = .ok (.iload_n 3, 1) := by decide +kernel
theorem dX10_at_64 : decode mX10_at.2.1 64 = .ok (.iconst 1, 1) := by decide +kernel
theorem dX10_at_65 : decode mX10_at.2.1 65 = .ok (.if_icmp .ne 17, 3) := by decide +kernel
theorem dX10_at_68 : decode mX10_at.2.1 68 = .ok (.aload_n 0, 1) := by decide +kernel
theorem dX10_at_69 : decode mX10_at.2.1 69 = .ok (.aload_n 0, 1) := by decide +kernel
theorem dX10_at_70 : decode mX10_at.2.1 70 = .ok (.getfield 77, 3) := by decide +kernel
theorem dX10_at_73 : decode mX10_at.2.1 73 = .ok (.iload_n 1, 1) := by decide +kernel
theorem dX10_at_74 : decode mX10_at.2.1 74 = .ok (.iload_n 2, 1) := by decide +kernel
theorem dX10_at_75 : decode mX10_at.2.1 75 = .ok (.invokevirtual 238, 3) := by decide +kernel
theorem dX10_at_78 : decode mX10_at.2.1 78 = .ok (.invokevirtual 162, 3) := by decide +kernel
theorem dX10_at_81 : decode mX10_at.2.1 81 = .ok (.ireturn, 1) := by decide +kernel
theorem dX10_at_82 : decode mX10_at.2.1 82 = .ok (.iload_n 3, 1) := by decide +kernel
theorem dX10_at_83 : decode mX10_at.2.1 83 = .ok (.iconst 2, 1) := by decide +kernel
theorem dX10_at_84 : decode mX10_at.2.1 84 = .ok (.if_icmp .ne 17, 3) := by decide +kernel
theorem dX10_at_87 : decode mX10_at.2.1 87 = .ok (.aload_n 0, 1) := by decide +kernel
theorem dX10_at_88 : decode mX10_at.2.1 88 = .ok (.aload_n 0, 1) := by decide +kernel
theorem dX10_at_89 : decode mX10_at.2.1 89 = .ok (.getfield 77, 3) := by decide +kernel
theorem dX10_at_92 : decode mX10_at.2.1 92 = .ok (.iload_n 1, 1) := by decide +kernel
theorem dX10_at_93 : decode mX10_at.2.1 93 = .ok (.iload_n 2, 1) := by decide +kernel
theorem dX10_at_94 : decode mX10_at.2.1 94 = .ok (.invokevirtual 241, 3) := by decide +kernel
theorem dX10_at_97 : decode mX10_at.2.1 97 = .ok (.invokevirtual 162, 3) := by decide +kernel
theorem dX10_at_100 : decode mX10_at.2.1 100 = .ok (.ireturn, 1) := by decide +kernel
theorem dX10_at_101 : decode mX10_at.2.1 101 = .ok (.aload_n 0, 1) := by decide +kernel
theorem dX10_at_102 : decode mX10_at.2.1 102 = .ok (.iconst 5, 1) := by decide +kernel
theorem dX10_at_103 : decode mX10_at.2.1 103 = .ok (.invokevirtual 124, 3) := by decide +kernel
theorem dX10_at_106 : decode mX10_at.2.1 106 = .ok (.ireturn, 1) := by decide +kernel
theorem dX10_told_0 : decode mX10_told.2.1 0 = .ok (.iload_n 1, 1) := by decide +kernel
theorem dX10_told_1 : decode mX10_told.2.1 1 = .ok (.ifCond .lt 8, 3) := by decide +kernel
theorem dX10_told_4 : decode mX10_told.2.1 4 = .ok (.iload_n 1, 1) := by decide +kernel
theorem dX10_told_5 : decode mX10_told.2.1 5 = .ok (.iconst 4, 1) := by decide +kernel
theorem dX10_told_6 : decode mX10_told.2.1 6 = .ok (.if_icmp .le 9, 3) := by decide +kernel
theorem dX10_told_9 : decode mX10_told.2.1 9 = .ok (.aload_n 0, 1) := by decide +kernel
theorem dX10_told_10 : decode mX10_told.2.1 10 = .ok (.iconst 5, 1) := by decide +kernel
theorem dX10_told_11 : decode mX10_told.2.1 11 = .ok (.invokevirtual 124, 3) := by decide +kernel
theorem dX10_told_14 : decode mX10_told.2.1 14 = .ok (.ireturn, 1) := by decide +kernel
theorem dX10_told_15 : decode mX10_told.2.1 15 = .ok (.aload_n 0, 1) := by decide +kernel
theorem dX10_told_16 : decode mX10_told.2.1 16 = .ok (.getfield 77, 3) := by decide +kernel
theorem dX10_told_19 : decode mX10_told.2.1 19 = .ok (.getfield 226, 3) := by decide +kernel
theorem dX10_told_22 : decode mX10_told.2.1 22 = .ok (.ifCond .ne 10, 3) := by decide +kernel
theorem dX10_told_25 : decode mX10_told.2.1 25 = .ok (.aload_n 0, 1) := by decide +kernel
theorem dX10_told_26 : decode mX10_told.2.1 26 = .ok (.bipush 8, 2) := by decide +kernel
theorem dX10_told_28 : decode mX10_told.2.1 28 = .ok (.invokevirtual 124, 3) := by decide +kernel
theorem dX10_told_31 : decode mX10_told.2.1 31 = .ok (.ireturn, 1) := by decide +kernel
theorem dX10_told_32 : decode mX10_told.2.1 32 = .ok (.iload_n 1, 1) := by decide +kernel
theorem dX10_told_33 : decode mX10_told.2.1 33 = .ok (.tableswitch 90 0 3 #[31, 43, 59, 78], 31) := by decide +kernel
theorem dX10_told_64 : decode mX10_told.2.1 64 = .ok (.aload_n 0, 1) := by decide +kernel
theorem dX10_told_65 : decode mX10_told.2.1 65 = .ok (.aload_n 0, 1) := by decide +kernel
theorem dX10_told_66 : decode mX10_told.2.1 66 = .ok (.getfield 77, 3) := by decide +kernel
theorem dX10_told_69 : decode mX10_told.2.1 69 = .ok (.invokevirtual 244, 3) := by decide +kernel
theorem dX10_told_72 : decode mX10_told.2.1 72 = .ok (.invokevirtual 162, 3) := by decide +kernel
theorem dX10_told_75 : decode mX10_told.2.1 75 = .ok (.ireturn, 1) := by decide +kernel
theorem dX10_told_76 : decode mX10_told.2.1 76 = .ok (.aload_n 0, 1) := by decide +kernel
theorem dX10_told_77 : decode mX10_told.2.1 77 = .ok (.aload_n 0, 1) := by decide +kernel
theorem dX10_told_78 : decode mX10_told.2.1 78 = .ok (.getfield 77, 3) := by decide +kernel
theorem dX10_told_81 : decode mX10_told.2.1 81 = .ok (.aload_n 0, 1) := by decide +kernel
theorem dX10_told_82 : decode mX10_told.2.1 82 = .ok (.getfield 18, 3) := by decide +kernel
theorem dX10_told_85 : decode mX10_told.2.1 85 = .ok (.invokevirtual 248, 3) := by decide +kernel
theorem dX10_told_88 : decode mX10_told.2.1 88 = .ok (.invokevirtual 162, 3) := by decide +kernel
theorem dX10_told_91 : decode mX10_told.2.1 91 = .ok (.ireturn, 1) := by decide +kernel
theorem dX10_told_92 : decode mX10_told.2.1 92 = .ok (.aload_n 0, 1) := by decide +kernel
theorem dX10_told_93 : decode mX10_told.2.1 93 = .ok (.aload_n 0, 1) := by decide +kernel
theorem dX10_told_94 : decode mX10_told.2.1 94 = .ok (.getfield 77, 3) := by decide +kernel
theorem dX10_told_97 : decode mX10_told.2.1 97 = .ok (.aload_n 0, 1) := by decide +kernel
theorem dX10_told_98 : decode mX10_told.2.1 98 = .ok (.getfield 18, 3) := by decide +kernel
theorem dX10_told_101 : decode mX10_told.2.1 101 = .ok (.getfield 192, 3) := by decide +kernel
theorem dX10_told_104 : decode mX10_told.2.1 104 = .ok (.invokevirtual 252, 3) := by decide +kernel
theorem dX10_told_107 : decode mX10_told.2.1 107 = .ok (.invokevirtual 162, 3) := by decide +kernel
theorem dX10_told_110 : decode mX10_told.2.1 110 = .ok (.ireturn, 1) := by decide +kernel
theorem dX10_told_111 : decode mX10_told.2.1 111 = .ok (.aload_n 0, 1) := by decide +kernel
theorem dX10_told_112 : decode mX10_told.2.1 112 = .ok (.aload_n 0, 1) := by decide +kernel
theorem dX10_told_113 : decode mX10_told.2.1 113 = .ok (.getfield 77, 3) := by decide +kernel
theorem dX10_told_116 : decode mX10_told.2.1 116 = .ok (.getfield 255, 3) := by decide +kernel
theorem dX10_told_119 : decode mX10_told.2.1 119 = .ok (.invokevirtual 162, 3) := by decide +kernel
theorem dX10_told_122 : decode mX10_told.2.1 122 = .ok (.ireturn, 1) := by decide +kernel
theorem dX10_told_123 : decode mX10_told.2.1 123 = .ok (.aload_n 0, 1) := by decide +kernel
theorem dX10_told_124 : decode mX10_told.2.1 124 = .ok (.aload_n 0, 1) := by decide +kernel
theorem dX10_told_125 : decode mX10_told.2.1 125 = .ok (.getfield 77, 3) := by decide +kernel
theorem dX10_told_128 : decode mX10_told.2.1 128 = .ok (.invokevirtual 258, 3) := by decide +kernel
theorem dX10_told_131 : decode mX10_told.2.1 131 = .ok (.invokevirtual 162, 3) := by decide +kernel
theorem dX10_told_134 : decode mX10_told.2.1 134 = .ok (.ireturn, 1) := by decide +kernel
theorem dX10_clash_0 : decode mX10_clash.2.1 0 = .ok (.iload_n 2, 1) := by decide +kernel
theorem dX10_clash_1 : decode mX10_clash.2.1 1 = .ok (.ifCond .lt 8, 3) := by decide +kernel
theorem dX10_clash_4 : decode mX10_clash.2.1 4 = .ok (.iload_n 2, 1) := by decide +kernel
theorem dX10_clash_5 : decode mX10_clash.2.1 5 = .ok (.iconst 2, 1) := by decide +kernel
theorem dX10_clash_6 : decode mX10_clash.2.1 6 = .ok (.if_icmp .le 9, 3) := by decide +kernel
theorem dX10_clash_9 : decode mX10_clash.2.1 9 = .ok (.aload_n 0, 1) := by decide +kernel
theorem dX10_clash_10 : decode mX10_clash.2.1 10 = .ok (.iconst 5, 1) := by decide +kernel
theorem dX10_clash_11 : decode mX10_clash.2.1 11 = .ok (.invokevirtual 124, 3) := by decide +kernel
theorem dX10_clash_14 : decode mX10_clash.2.1 14 = .ok (.ireturn, 1) := by decide +kernel
theorem dX10_clash_15 : decode mX10_clash.2.1 15 = .ok (.aload_n 0, 1) := by decide +kernel
theorem dX10_clash_16 : decode mX10_clash.2.1 16 = .ok (.getfield 77, 3) := by decide +kernel
theorem dX10_clash_19 : decode mX10_clash.2.1 19 = .ok (.getfield 226, 3) := by decide +kernel
theorem dX10_clash_22 : decode mX10_clash.2.1 22 = .ok (.ifCond .eq 14, 3) := by decide +kernel
theorem dX10_clash_25 : decode mX10_clash.2.1 25 = .ok (.aload_n 0, 1) := by decide +kernel
theorem dX10_clash_26 : decode mX10_clash.2.1 26 = .ok (.getfield 77, 3) := by decide +kernel
theorem dX10_clash_29 : decode mX10_clash.2.1 29 = .ok (.iload_n 1, 1) := by decide +kernel
theorem dX10_clash_30 : decode mX10_clash.2.1 30 = .ok (.invokevirtual 261, 3) := by decide +kernel
theorem dX10_clash_33 : decode mX10_clash.2.1 33 = .ok (.goto 4, 3) := by decide +kernel
theorem dX10_clash_36 : decode mX10_clash.2.1 36 = .ok (.iconst (-1), 1) := by decide +kernel
theorem dX10_clash_37 : decode mX10_clash.2.1 37 = .ok (.istore_n 3, 1) := by decide +kernel
theorem dX10_clash_38 : decode mX10_clash.2.1 38 = .ok (.iload_n 3, 1) := by decide +kernel
theorem dX10_clash_39 : decode mX10_clash.2.1 39 = .ok (.iconst (-1), 1) := by decide +kernel
theorem dX10_clash_40 : decode mX10_clash.2.1 40 = .ok (.if_icmp .ne 10, 3) := by decide +kernel
theorem dX10_clash_43 : decode mX10_clash.2.1 43 = .ok (.aload_n 0, 1) := by decide +kernel
theorem dX10_clash_44 : decode mX10_clash.2.1 44 = .ok (.bipush 8, 2) := by decide +kernel
theorem dX10_clash_46 : decode mX10_clash.2.1 46 = .ok (.invokevirtual 124, 3) := by decide +kernel
theorem dX10_clash_49 : decode mX10_clash.2.1 49 = .ok (.ireturn, 1) := by decide +kernel
theorem dX10_clash_50 : decode mX10_clash.2.1 50 = .ok (.iload_n 2, 1) := by decide +kernel
theorem dX10_clash_51 : decode mX10_clash.2.1 51 = .ok (.ifCond .ne 12, 3) := by decide +kernel
theorem dX10_clash_54 : decode mX10_clash.2.1 54 = .ok (.aload_n 0, 1) := by decide +kernel
theorem dX10_clash_55 : decode mX10_clash.2.1 55 = .ok (.iload_n 3, 1) := by decide +kernel
theorem dX10_clash_56 : decode mX10_clash.2.1 56 = .ok (.invokestatic 264, 3) := by decide +kernel
theorem dX10_clash_59 : decode mX10_clash.2.1 59 = .ok (.invokevirtual 162, 3) := by decide +kernel
theorem dX10_clash_62 : decode mX10_clash.2.1 62 = .ok (.ireturn, 1) := by decide +kernel
theorem dX10_clash_63 : decode mX10_clash.2.1 63 = .ok (.aload_n 0, 1) := by decide +kernel
theorem dX10_clash_64 : decode mX10_clash.2.1 64 = .ok (.iload_n 2, 1) := by decide +kernel
theorem dX10_clash_65 : decode mX10_clash.2.1 65 = .ok (.iconst 1, 1) := by decide +kernel
theorem dX10_clash_66 : decode mX10_clash.2.1 66 = .ok (.if_icmp .ne 10, 3) := by decide +kernel
theorem dX10_clash_69 : decode mX10_clash.2.1 69 = .ok (.iload_n 3, 1) := by decide +kernel
theorem dX10_clash_70 : decode mX10_clash.2.1 70 = .ok (.invokestatic 267, 3) := by decide +kernel
theorem dX10_clash_73 : decode mX10_clash.2.1 73 = .ok (.goto 7, 3) := by decide +kernel
theorem dX10_clash_76 : decode mX10_clash.2.1 76 = .ok (.iload_n 3, 1) := by decide +kernel
theorem dX10_clash_77 : decode mX10_clash.2.1 77 = .ok (.invokestatic 270, 3) := by decide +kernel
theorem dX10_clash_80 : decode mX10_clash.2.1 80 = .ok (.invokevirtual 162, 3) := by decide +kernel
theorem dX10_clash_83 : decode mX10_clash.2.1 83 = .ok (.ireturn, 1) := by decide +kernel
theorem dX10_dressed_0 : decode mX10_dressed.2.1 0 = .ok (.aload_n 0, 1) := by decide +kernel
theorem dX10_dressed_1 : decode mX10_dressed.2.1 1 = .ok (.getfield 77, 3) := by decide +kernel
theorem dX10_dressed_4 : decode mX10_dressed.2.1 4 = .ok (.getfield 226, 3) := by decide +kernel
theorem dX10_dressed_7 : decode mX10_dressed.2.1 7 = .ok (.ifCond .ne 10, 3) := by decide +kernel
theorem dX10_dressed_10 : decode mX10_dressed.2.1 10 = .ok (.aload_n 0, 1) := by decide +kernel
theorem dX10_dressed_11 : decode mX10_dressed.2.1 11 = .ok (.bipush 8, 2) := by decide +kernel
theorem dX10_dressed_13 : decode mX10_dressed.2.1 13 = .ok (.invokevirtual 124, 3) := by decide +kernel
theorem dX10_dressed_16 : decode mX10_dressed.2.1 16 = .ok (.ireturn, 1) := by decide +kernel
theorem dX10_dressed_17 : decode mX10_dressed.2.1 17 = .ok (.iload_n 1, 1) := by decide +kernel
theorem dX10_dressed_18 : decode mX10_dressed.2.1 18 = .ok (.ifCond .lt 25, 3) := by decide +kernel
theorem dX10_dressed_21 : decode mX10_dressed.2.1 21 = .ok (.iload_n 1, 1) := by decide +kernel
theorem dX10_dressed_22 : decode mX10_dressed.2.1 22 = .ok (.aload_n 0, 1) := by decide +kernel
theorem dX10_dressed_23 : decode mX10_dressed.2.1 23 = .ok (.getfield 18, 3) := by decide +kernel
theorem dX10_dressed_26 : decode mX10_dressed.2.1 26 = .ok (.getfield 185, 3) := by decide +kernel
theorem dX10_dressed_29 : decode mX10_dressed.2.1 29 = .ok (.if_icmp .ge 14, 3) := by decide +kernel
theorem dX10_dressed_32 : decode mX10_dressed.2.1 32 = .ok (.aload_n 0, 1) := by decide +kernel
theorem dX10_dressed_33 : decode mX10_dressed.2.1 33 = .ok (.getfield 77, 3) := by decide +kernel
theorem dX10_dressed_36 : decode mX10_dressed.2.1 36 = .ok (.iload_n 2, 1) := by decide +kernel
theorem dX10_dressed_37 : decode mX10_dressed.2.1 37 = .ok (.invokevirtual 229, 3) := by decide +kernel
theorem dX10_dressed_40 : decode mX10_dressed.2.1 40 = .ok (.ifCond .ne 9, 3) := by decide +kernel
theorem dX10_dressed_43 : decode mX10_dressed.2.1 43 = .ok (.aload_n 0, 1) := by decide +kernel
theorem dX10_dressed_44 : decode mX10_dressed.2.1 44 = .ok (.iconst 2, 1) := by decide +kernel
theorem dX10_dressed_45 : decode mX10_dressed.2.1 45 = .ok (.invokevirtual 124, 3) := by decide +kernel
theorem dX10_dressed_48 : decode mX10_dressed.2.1 48 = .ok (.ireturn, 1) := by decide +kernel
theorem dX10_dressed_49 : decode mX10_dressed.2.1 49 = .ok (.aload_n 0, 1) := by decide +kernel
theorem dX10_dressed_50 : decode mX10_dressed.2.1 50 = .ok (.getfield 18, 3) := by decide +kernel
theorem dX10_dressed_53 : decode mX10_dressed.2.1 53 = .ok (.getfield 273, 3) := by decide +kernel
theorem dX10_dressed_56 : decode mX10_dressed.2.1 56 = .ok (.iload_n 1, 1) := by decide +kernel
theorem dX10_dressed_57 : decode mX10_dressed.2.1 57 = .ok (.iaload, 1) := by decide +kernel
theorem dX10_dressed_58 : decode mX10_dressed.2.1 58 = .ok (.istore_n 3, 1) := by decide +kernel
theorem dX10_dressed_59 : decode mX10_dressed.2.1 59 = .ok (.aload_n 0, 1) := by decide +kernel
theorem dX10_dressed_60 : decode mX10_dressed.2.1 60 = .ok (.getfield 77, 3) := by decide +kernel
theorem dX10_dressed_63 : decode mX10_dressed.2.1 63 = .ok (.iload_n 3, 1) := by decide +kernel
theorem dX10_dressed_64 : decode mX10_dressed.2.1 64 = .ok (.invokevirtual 277, 3) := by decide +kernel
theorem dX10_dressed_67 : decode mX10_dressed.2.1 67 = .ok (.ifCond .ne 9, 3) := by decide +kernel
theorem dX10_dressed_70 : decode mX10_dressed.2.1 70 = .ok (.aload_n 0, 1) := by decide +kernel
theorem dX10_dressed_71 : decode mX10_dressed.2.1 71 = .ok (.iconst 2, 1) := by decide +kernel
theorem dX10_dressed_72 : decode mX10_dressed.2.1 72 = .ok (.invokevirtual 124, 3) := by decide +kernel
theorem dX10_dressed_75 : decode mX10_dressed.2.1 75 = .ok (.ireturn, 1) := by decide +kernel
theorem dX10_dressed_76 : decode mX10_dressed.2.1 76 = .ok (.aload_n 0, 1) := by decide +kernel
theorem dX10_dressed_77 : decode mX10_dressed.2.1 77 = .ok (.aload_n 0, 1) := by decide +kernel
theorem dX10_dressed_78 : decode mX10_dressed.2.1 78 = .ok (.getfield 77, 3) := by decide +kernel
theorem dX10_dressed_81 : decode mX10_dressed.2.1 81 = .ok (.iload_n 3, 1) := by decide +kernel
theorem dX10_dressed_82 : decode mX10_dressed.2.1 82 = .ok (.iload_n 2, 1) := by decide +kernel
theorem dX10_dressed_83 : decode mX10_dressed.2.1 83 = .ok (.invokevirtual 280, 3) := by decide +kernel
theorem dX10_dressed_86 : decode mX10_dressed.2.1 86 = .ok (.ifCond .eq 7, 3) := by decide +kernel
theorem dX10_dressed_89 : decode mX10_dressed.2.1 89 = .ok (.iconst 1, 1) := by decide +kernel
theorem dX10_dressed_90 : decode mX10_dressed.2.1 90 = .ok (.goto 4, 3) := by decide +kernel
theorem dX10_dressed_93 : decode mX10_dressed.2.1 93 = .ok (.iconst 0, 1) := by decide +kernel
theorem dX10_dressed_94 : decode mX10_dressed.2.1 94 = .ok (.invokevirtual 162, 3) := by decide +kernel
theorem dX10_dressed_97 : decode mX10_dressed.2.1 97 = .ok (.ireturn, 1) := by decide +kernel
theorem dX10_like_0 : decode mX10_like.2.1 0 = .ok (.aload_n 0, 1) := by decide +kernel
theorem dX10_like_1 : decode mX10_like.2.1 1 = .ok (.getfield 77, 3) := by decide +kernel
theorem dX10_like_4 : decode mX10_like.2.1 4 = .ok (.getfield 226, 3) := by decide +kernel
theorem dX10_like_7 : decode mX10_like.2.1 7 = .ok (.ifCond .ne 10, 3) := by decide +kernel
theorem dX10_like_10 : decode mX10_like.2.1 10 = .ok (.aload_n 0, 1) := by decide +kernel
theorem dX10_like_11 : decode mX10_like.2.1 11 = .ok (.bipush 8, 2) := by decide +kernel
theorem dX10_like_13 : decode mX10_like.2.1 13 = .ok (.invokevirtual 124, 3) := by decide +kernel
theorem dX10_like_16 : decode mX10_like.2.1 16 = .ok (.ireturn, 1) := by decide +kernel
theorem dX10_like_17 : decode mX10_like.2.1 17 = .ok (.aload_n 0, 1) := by decide +kernel
theorem dX10_like_18 : decode mX10_like.2.1 18 = .ok (.getfield 77, 3) := by decide +kernel
theorem dX10_like_21 : decode mX10_like.2.1 21 = .ok (.iload_n 1, 1) := by decide +kernel
theorem dX10_like_22 : decode mX10_like.2.1 22 = .ok (.invokevirtual 229, 3) := by decide +kernel
theorem dX10_like_25 : decode mX10_like.2.1 25 = .ok (.ifCond .eq 14, 3) := by decide +kernel
theorem dX10_like_28 : decode mX10_like.2.1 28 = .ok (.aload_n 0, 1) := by decide +kernel
theorem dX10_like_29 : decode mX10_like.2.1 29 = .ok (.getfield 77, 3) := by decide +kernel
theorem dX10_like_32 : decode mX10_like.2.1 32 = .ok (.iload_n 2, 1) := by decide +kernel
theorem dX10_like_33 : decode mX10_like.2.1 33 = .ok (.invokevirtual 229, 3) := by decide +kernel
theorem dX10_like_36 : decode mX10_like.2.1 36 = .ok (.ifCond .ne 9, 3) := by decide +kernel
theorem dX10_like_39 : decode mX10_like.2.1 39 = .ok (.aload_n 0, 1) := by decide +kernel
theorem dX10_like_40 : decode mX10_like.2.1 40 = .ok (.iconst 2, 1) := by decide +kernel
theorem dX10_like_41 : decode mX10_like.2.1 41 = .ok (.invokevirtual 124, 3) := by decide +kernel
theorem dX10_like_44 : decode mX10_like.2.1 44 = .ok (.ireturn, 1) := by decide +kernel
theorem dX10_like_45 : decode mX10_like.2.1 45 = .ok (.aload_n 0, 1) := by decide +kernel
theorem dX10_like_46 : decode mX10_like.2.1 46 = .ok (.getfield 77, 3) := by decide +kernel
theorem dX10_like_49 : decode mX10_like.2.1 49 = .ok (.iload_n 1, 1) := by decide +kernel
theorem dX10_like_50 : decode mX10_like.2.1 50 = .ok (.iload_n 2, 1) := by decide +kernel
theorem dX10_like_51 : decode mX10_like.2.1 51 = .ok (.invokevirtual 283, 3) := by decide +kernel
theorem dX10_like_54 : decode mX10_like.2.1 54 = .ok (.istore_n 3, 1) := by decide +kernel
theorem dX10_like_55 : decode mX10_like.2.1 55 = .ok (.iload_n 3, 1) := by decide +kernel
theorem dX10_like_56 : decode mX10_like.2.1 56 = .ok (.iconst (-1), 1) := by decide +kernel
theorem dX10_like_57 : decode mX10_like.2.1 57 = .ok (.if_icmp .ne 12, 3) := by decide +kernel
theorem dX10_like_60 : decode mX10_like.2.1 60 = .ok (.aload_n 0, 1) := by decide +kernel
theorem dX10_like_61 : decode mX10_like.2.1 61 = .ok (.bipush 8, 2) := by decide +kernel
theorem dX10_like_63 : decode mX10_like.2.1 63 = .ok (.invokevirtual 124, 3) := by decide +kernel
theorem dX10_like_66 : decode mX10_like.2.1 66 = .ok (.goto 8, 3) := by decide +kernel
theorem dX10_like_69 : decode mX10_like.2.1 69 = .ok (.aload_n 0, 1) := by decide +kernel
theorem dX10_like_70 : decode mX10_like.2.1 70 = .ok (.iload_n 3, 1) := by decide +kernel
theorem dX10_like_71 : decode mX10_like.2.1 71 = .ok (.invokevirtual 162, 3) := by decide +kernel
theorem dX10_like_74 : decode mX10_like.2.1 74 = .ok (.ireturn, 1) := by decide +kernel
theorem dX10_seen_0 : decode mX10_seen.2.1 0 = .ok (.aload_n 0, 1) := by decide +kernel
theorem dX10_seen_1 : decode mX10_seen.2.1 1 = .ok (.getfield 77, 3) := by decide +kernel
theorem dX10_seen_4 : decode mX10_seen.2.1 4 = .ok (.getfield 226, 3) := by decide +kernel
theorem dX10_seen_7 : decode mX10_seen.2.1 7 = .ok (.ifCond .ne 10, 3) := by decide +kernel
theorem dX10_seen_10 : decode mX10_seen.2.1 10 = .ok (.aload_n 0, 1) := by decide +kernel
theorem dX10_seen_11 : decode mX10_seen.2.1 11 = .ok (.bipush 8, 2) := by decide +kernel
theorem dX10_seen_13 : decode mX10_seen.2.1 13 = .ok (.invokevirtual 124, 3) := by decide +kernel
theorem dX10_seen_16 : decode mX10_seen.2.1 16 = .ok (.ireturn, 1) := by decide +kernel
theorem dX10_seen_17 : decode mX10_seen.2.1 17 = .ok (.aload_n 0, 1) := by decide +kernel
theorem dX10_seen_18 : decode mX10_seen.2.1 18 = .ok (.getfield 77, 3) := by decide +kernel
theorem dX10_seen_21 : decode mX10_seen.2.1 21 = .ok (.iload_n 1, 1) := by decide +kernel
theorem dX10_seen_22 : decode mX10_seen.2.1 22 = .ok (.invokevirtual 229, 3) := by decide +kernel
theorem dX10_seen_25 : decode mX10_seen.2.1 25 = .ok (.ifCond .ne 9, 3) := by decide +kernel
theorem dX10_seen_28 : decode mX10_seen.2.1 28 = .ok (.aload_n 0, 1) := by decide +kernel
theorem dX10_seen_29 : decode mX10_seen.2.1 29 = .ok (.iconst 2, 1) := by decide +kernel
theorem dX10_seen_30 : decode mX10_seen.2.1 30 = .ok (.invokevirtual 124, 3) := by decide +kernel
theorem dX10_seen_33 : decode mX10_seen.2.1 33 = .ok (.ireturn, 1) := by decide +kernel
theorem dX10_seen_34 : decode mX10_seen.2.1 34 = .ok (.iload_n 2, 1) := by decide +kernel
theorem dX10_seen_35 : decode mX10_seen.2.1 35 = .ok (.ifCond .lt 20, 3) := by decide +kernel
theorem dX10_seen_38 : decode mX10_seen.2.1 38 = .ok (.iload_n 2, 1) := by decide +kernel
theorem dX10_seen_39 : decode mX10_seen.2.1 39 = .ok (.bipush 60, 2) := by decide +kernel
theorem dX10_seen_41 : decode mX10_seen.2.1 41 = .ok (.if_icmp .ge 14, 3) := by decide +kernel
theorem dX10_seen_44 : decode mX10_seen.2.1 44 = .ok (.iload_n 3, 1) := by decide +kernel
theorem dX10_seen_45 : decode mX10_seen.2.1 45 = .ok (.iconst 1, 1) := by decide +kernel
theorem dX10_seen_46 : decode mX10_seen.2.1 46 = .ok (.if_icmp .lt 9, 3) := by decide +kernel
theorem dX10_seen_49 : decode mX10_seen.2.1 49 = .ok (.iload_n 3, 1) := by decide +kernel
theorem dX10_seen_50 : decode mX10_seen.2.1 50 = .ok (.bipush 40, 2) := by decide +kernel
theorem dX10_seen_52 : decode mX10_seen.2.1 52 = .ok (.if_icmp .le 9, 3) := by decide +kernel
theorem dX10_seen_55 : decode mX10_seen.2.1 55 = .ok (.aload_n 0, 1) := by decide +kernel
theorem dX10_seen_56 : decode mX10_seen.2.1 56 = .ok (.iconst 5, 1) := by decide +kernel
theorem dX10_seen_57 : decode mX10_seen.2.1 57 = .ok (.invokevirtual 124, 3) := by decide +kernel
theorem dX10_seen_60 : decode mX10_seen.2.1 60 = .ok (.ireturn, 1) := by decide +kernel
theorem dX10_seen_61 : decode mX10_seen.2.1 61 = .ok (.aload_n 0, 1) := by decide +kernel
theorem dX10_seen_62 : decode mX10_seen.2.1 62 = .ok (.aload_n 0, 1) := by decide +kernel
theorem dX10_seen_63 : decode mX10_seen.2.1 63 = .ok (.getfield 77, 3) := by decide +kernel
theorem dX10_seen_66 : decode mX10_seen.2.1 66 = .ok (.iload_n 1, 1) := by decide +kernel
theorem dX10_seen_67 : decode mX10_seen.2.1 67 = .ok (.iload_n 2, 1) := by decide +kernel
theorem dX10_seen_68 : decode mX10_seen.2.1 68 = .ok (.iload_n 3, 1) := by decide +kernel
theorem dX10_seen_69 : decode mX10_seen.2.1 69 = .ok (.invokevirtual 286, 3) := by decide +kernel
theorem dX10_seen_72 : decode mX10_seen.2.1 72 = .ok (.invokevirtual 162, 3) := by decide +kernel
theorem dX10_seen_75 : decode mX10_seen.2.1 75 = .ok (.ireturn, 1) := by decide +kernel
theorem dX10_goes_0 : decode mX10_goes.2.1 0 = .ok (.iload_n 1, 1) := by decide +kernel
theorem dX10_goes_1 : decode mX10_goes.2.1 1 = .ok (.invokestatic 101, 3) := by decide +kernel
theorem dX10_goes_4 : decode mX10_goes.2.1 4 = .ok (.ifCond .ne 9, 3) := by decide +kernel
theorem dX10_goes_7 : decode mX10_goes.2.1 7 = .ok (.aload_n 0, 1) := by decide +kernel
theorem dX10_goes_8 : decode mX10_goes.2.1 8 = .ok (.iconst 1, 1) := by decide +kernel
theorem dX10_goes_9 : decode mX10_goes.2.1 9 = .ok (.invokevirtual 124, 3) := by decide +kernel
theorem dX10_goes_12 : decode mX10_goes.2.1 12 = .ok (.ireturn, 1) := by decide +kernel
theorem dX10_goes_13 : decode mX10_goes.2.1 13 = .ok (.aload_n 0, 1) := by decide +kernel
theorem dX10_goes_14 : decode mX10_goes.2.1 14 = .ok (.getfield 11, 3) := by decide +kernel
theorem dX10_goes_17 : decode mX10_goes.2.1 17 = .ok (.iload_n 1, 1) := by decide +kernel
theorem dX10_goes_18 : decode mX10_goes.2.1 18 = .ok (.aaload, 1) := by decide +kernel
theorem dX10_goes_19 : decode mX10_goes.2.1 19 = .ok (.astore 4, 2) := by decide +kernel
theorem dX10_goes_21 : decode mX10_goes.2.1 21 = .ok (.aload 4, 2) := by decide +kernel
theorem dX10_goes_23 : decode mX10_goes.2.1 23 = .ok (.getfield 132, 3) := by decide +kernel
theorem dX10_goes_26 : decode mX10_goes.2.1 26 = .ok (.ifCond .ne 9, 3) := by decide +kernel
theorem dX10_goes_29 : decode mX10_goes.2.1 29 = .ok (.aload_n 0, 1) := by decide +kernel
theorem dX10_goes_30 : decode mX10_goes.2.1 30 = .ok (.iconst 3, 1) := by decide +kernel
theorem dX10_goes_31 : decode mX10_goes.2.1 31 = .ok (.invokevirtual 124, 3) := by decide +kernel
theorem dX10_goes_34 : decode mX10_goes.2.1 34 = .ok (.ireturn, 1) := by decide +kernel
theorem dX10_goes_35 : decode mX10_goes.2.1 35 = .ok (.iload_n 2, 1) := by decide +kernel
theorem dX10_goes_36 : decode mX10_goes.2.1 36 = .ok (.iconst 1, 1) := by decide +kernel
theorem dX10_goes_37 : decode mX10_goes.2.1 37 = .ok (.if_icmp .lt 31, 3) := by decide +kernel
theorem dX10_goes_40 : decode mX10_goes.2.1 40 = .ok (.iload_n 2, 1) := by decide +kernel
theorem dX10_goes_41 : decode mX10_goes.2.1 41 = .ok (.bipush 6, 2) := by decide +kernel
theorem dX10_goes_43 : decode mX10_goes.2.1 43 = .ok (.if_icmp .gt 25, 3) := by decide +kernel
theorem dX10_goes_46 : decode mX10_goes.2.1 46 = .ok (.iload_n 2, 1) := by decide +kernel
theorem dX10_goes_47 : decode mX10_goes.2.1 47 = .ok (.aload_n 0, 1) := by decide +kernel
theorem dX10_goes_48 : decode mX10_goes.2.1 48 = .ok (.getfield 18, 3) := by decide +kernel
theorem dX10_goes_51 : decode mX10_goes.2.1 51 = .ok (.getfield 155, 3) := by decide +kernel
theorem dX10_goes_54 : decode mX10_goes.2.1 54 = .ok (.if_icmp .gt 14, 3) := by decide +kernel
theorem dX10_goes_57 : decode mX10_goes.2.1 57 = .ok (.iload_n 3, 1) := by decide +kernel
theorem dX10_goes_58 : decode mX10_goes.2.1 58 = .ok (.iconst 1, 1) := by decide +kernel
theorem dX10_goes_59 : decode mX10_goes.2.1 59 = .ok (.if_icmp .lt 9, 3) := by decide +kernel
theorem dX10_goes_62 : decode mX10_goes.2.1 62 = .ok (.iload_n 3, 1) := by decide +kernel
theorem dX10_goes_63 : decode mX10_goes.2.1 63 = .ok (.bipush 40, 2) := by decide +kernel
theorem dX10_goes_65 : decode mX10_goes.2.1 65 = .ok (.if_icmp .le 9, 3) := by decide +kernel
theorem dX10_goes_68 : decode mX10_goes.2.1 68 = .ok (.aload_n 0, 1) := by decide +kernel
theorem dX10_goes_69 : decode mX10_goes.2.1 69 = .ok (.iconst 5, 1) := by decide +kernel
theorem dX10_goes_70 : decode mX10_goes.2.1 70 = .ok (.invokevirtual 124, 3) := by decide +kernel
theorem dX10_goes_73 : decode mX10_goes.2.1 73 = .ok (.ireturn, 1) := by decide +kernel
theorem dX10_goes_74 : decode mX10_goes.2.1 74 = .ok (.aload 4, 2) := by decide +kernel
theorem dX10_goes_76 : decode mX10_goes.2.1 76 = .ok (.iconst 0, 1) := by decide +kernel
theorem dX10_goes_77 : decode mX10_goes.2.1 77 = .ok (.iconst 2, 1) := by decide +kernel
theorem dX10_goes_78 : decode mX10_goes.2.1 78 = .ok (.iload_n 2, 1) := by decide +kernel
theorem dX10_goes_79 : decode mX10_goes.2.1 79 = .ok (.imul, 1) := by decide +kernel
theorem dX10_goes_80 : decode mX10_goes.2.1 80 = .ok (.invokevirtual 139, 3) := by decide +kernel
theorem dX10_goes_83 : decode mX10_goes.2.1 83 = .ok (.ifCond .ne 9, 3) := by decide +kernel
theorem dX10_goes_86 : decode mX10_goes.2.1 86 = .ok (.aload_n 0, 1) := by decide +kernel
theorem dX10_goes_87 : decode mX10_goes.2.1 87 = .ok (.iconst 4, 1) := by decide +kernel
theorem dX10_goes_88 : decode mX10_goes.2.1 88 = .ok (.invokevirtual 124, 3) := by decide +kernel
theorem dX10_goes_91 : decode mX10_goes.2.1 91 = .ok (.ireturn, 1) := by decide +kernel
theorem dX10_goes_92 : decode mX10_goes.2.1 92 = .ok (.aload_n 0, 1) := by decide +kernel
theorem dX10_goes_93 : decode mX10_goes.2.1 93 = .ok (.getfield 39, 3) := by decide +kernel
theorem dX10_goes_96 : decode mX10_goes.2.1 96 = .ok (.aload 4, 2) := by decide +kernel
theorem dX10_goes_98 : decode mX10_goes.2.1 98 = .ok (.iload_n 2, 1) := by decide +kernel
theorem dX10_goes_99 : decode mX10_goes.2.1 99 = .ok (.invokevirtual 289, 3) := by decide +kernel
theorem dX10_goes_102 : decode mX10_goes.2.1 102 = .ok (.ifCond .ne 9, 3) := by decide +kernel
theorem dX10_goes_105 : decode mX10_goes.2.1 105 = .ok (.aload_n 0, 1) := by decide +kernel
theorem dX10_goes_106 : decode mX10_goes.2.1 106 = .ok (.iconst 5, 1) := by decide +kernel
theorem dX10_goes_107 : decode mX10_goes.2.1 107 = .ok (.invokevirtual 124, 3) := by decide +kernel
theorem dX10_goes_110 : decode mX10_goes.2.1 110 = .ok (.ireturn, 1) := by decide +kernel
theorem dX10_goes_111 : decode mX10_goes.2.1 111 = .ok (.aload_n 0, 1) := by decide +kernel
theorem dX10_goes_112 : decode mX10_goes.2.1 112 = .ok (.getfield 39, 3) := by decide +kernel
theorem dX10_goes_115 : decode mX10_goes.2.1 115 = .ok (.aload_n 0, 1) := by decide +kernel
theorem dX10_goes_116 : decode mX10_goes.2.1 116 = .ok (.getfield 18, 3) := by decide +kernel
theorem dX10_goes_119 : decode mX10_goes.2.1 119 = .ok (.iload_n 2, 1) := by decide +kernel
theorem dX10_goes_120 : decode mX10_goes.2.1 120 = .ok (.iload_n 3, 1) := by decide +kernel
theorem dX10_goes_121 : decode mX10_goes.2.1 121 = .ok (.invokevirtual 293, 3) := by decide +kernel
theorem dX10_goes_124 : decode mX10_goes.2.1 124 = .ok (.ifCond .ne 10, 3) := by decide +kernel
theorem dX10_goes_127 : decode mX10_goes.2.1 127 = .ok (.aload_n 0, 1) := by decide +kernel
theorem dX10_goes_128 : decode mX10_goes.2.1 128 = .ok (.bipush 8, 2) := by decide +kernel
theorem dX10_goes_130 : decode mX10_goes.2.1 130 = .ok (.invokevirtual 124, 3) := by decide +kernel
theorem dX10_goes_133 : decode mX10_goes.2.1 133 = .ok (.ireturn, 1) := by decide +kernel
theorem dX10_goes_134 : decode mX10_goes.2.1 134 = .ok (.aload_n 0, 1) := by decide +kernel
theorem dX10_goes_135 : decode mX10_goes.2.1 135 = .ok (.aload_n 0, 1) := by decide +kernel
theorem dX10_goes_136 : decode mX10_goes.2.1 136 = .ok (.getfield 39, 3) := by decide +kernel
theorem dX10_goes_139 : decode mX10_goes.2.1 139 = .ok (.getfield 297, 3) := by decide +kernel
theorem dX10_goes_142 : decode mX10_goes.2.1 142 = .ok (.invokevirtual 162, 3) := by decide +kernel
theorem dX10_goes_145 : decode mX10_goes.2.1 145 = .ok (.ireturn, 1) := by decide +kernel
theorem dX10_spotOf_0 : decode mX10_spotOf.2.1 0 = .ok (.iload_n 1, 1) := by decide +kernel
theorem dX10_spotOf_1 : decode mX10_spotOf.2.1 1 = .ok (.iconst (-1), 1) := by decide +kernel
theorem dX10_spotOf_2 : decode mX10_spotOf.2.1 2 = .ok (.if_icmp .lt 24, 3) := by decide +kernel
theorem dX10_spotOf_5 : decode mX10_spotOf.2.1 5 = .ok (.iload_n 1, 1) := by decide +kernel
theorem dX10_spotOf_6 : decode mX10_spotOf.2.1 6 = .ok (.aload_n 0, 1) := by decide +kernel
theorem dX10_spotOf_7 : decode mX10_spotOf.2.1 7 = .ok (.getfield 39, 3) := by decide +kernel
theorem dX10_spotOf_10 : decode mX10_spotOf.2.1 10 = .ok (.getfield 300, 3) := by decide +kernel
theorem dX10_spotOf_13 : decode mX10_spotOf.2.1 13 = .ok (.if_icmp .ge 13, 3) := by decide +kernel
theorem dX10_spotOf_16 : decode mX10_spotOf.2.1 16 = .ok (.aload_n 0, 1) := by decide +kernel
theorem dX10_spotOf_17 : decode mX10_spotOf.2.1 17 = .ok (.getfield 39, 3) := by decide +kernel
theorem dX10_spotOf_20 : decode mX10_spotOf.2.1 20 = .ok (.getfield 300, 3) := by decide +kernel
theorem dX10_spotOf_23 : decode mX10_spotOf.2.1 23 = .ok (.ifCond .ne 10, 3) := by decide +kernel
theorem dX10_spotOf_26 : decode mX10_spotOf.2.1 26 = .ok (.aload_n 0, 1) := by decide +kernel
theorem dX10_spotOf_27 : decode mX10_spotOf.2.1 27 = .ok (.bipush 8, 2) := by decide +kernel
theorem dX10_spotOf_29 : decode mX10_spotOf.2.1 29 = .ok (.invokevirtual 124, 3) := by decide +kernel
theorem dX10_spotOf_32 : decode mX10_spotOf.2.1 32 = .ok (.ireturn, 1) := by decide +kernel
theorem dX10_spotOf_33 : decode mX10_spotOf.2.1 33 = .ok (.aload_n 0, 1) := by decide +kernel
theorem dX10_spotOf_34 : decode mX10_spotOf.2.1 34 = .ok (.iload_n 1, 1) := by decide +kernel
theorem dX10_spotOf_35 : decode mX10_spotOf.2.1 35 = .ok (.iconst (-1), 1) := by decide +kernel
theorem dX10_spotOf_36 : decode mX10_spotOf.2.1 36 = .ok (.if_icmp .ne 13, 3) := by decide +kernel
theorem dX10_spotOf_39 : decode mX10_spotOf.2.1 39 = .ok (.aload_n 0, 1) := by decide +kernel
theorem dX10_spotOf_40 : decode mX10_spotOf.2.1 40 = .ok (.getfield 39, 3) := by decide +kernel
theorem dX10_spotOf_43 : decode mX10_spotOf.2.1 43 = .ok (.getfield 303, 3) := by decide +kernel
theorem dX10_spotOf_46 : decode mX10_spotOf.2.1 46 = .ok (.goto 12, 3) := by decide +kernel
theorem dX10_spotOf_49 : decode mX10_spotOf.2.1 49 = .ok (.aload_n 0, 1) := by decide +kernel
theorem dX10_spotOf_50 : decode mX10_spotOf.2.1 50 = .ok (.getfield 39, 3) := by decide +kernel
theorem dX10_spotOf_53 : decode mX10_spotOf.2.1 53 = .ok (.getfield 306, 3) := by decide +kernel
theorem dX10_spotOf_56 : decode mX10_spotOf.2.1 56 = .ok (.iload_n 1, 1) := by decide +kernel
theorem dX10_spotOf_57 : decode mX10_spotOf.2.1 57 = .ok (.iaload, 1) := by decide +kernel
theorem dX10_spotOf_58 : decode mX10_spotOf.2.1 58 = .ok (.invokevirtual 162, 3) := by decide +kernel
theorem dX10_spotOf_61 : decode mX10_spotOf.2.1 61 = .ok (.ireturn, 1) := by decide +kernel
theorem dX10_path_0 : decode mX10_path.2.1 0 = .ok (.aload_n 0, 1) := by decide +kernel
theorem dX10_path_1 : decode mX10_path.2.1 1 = .ok (.getfield 18, 3) := by decide +kernel
theorem dX10_path_4 : decode mX10_path.2.1 4 = .ok (.iload_n 1, 1) := by decide +kernel
theorem dX10_path_5 : decode mX10_path.2.1 5 = .ok (.invokevirtual 309, 3) := by decide +kernel
theorem dX10_path_8 : decode mX10_path.2.1 8 = .ok (.ifCond .ne 9, 3) := by decide +kernel
theorem dX10_path_11 : decode mX10_path.2.1 11 = .ok (.aload_n 0, 1) := by decide +kernel
theorem dX10_path_12 : decode mX10_path.2.1 12 = .ok (.iconst 2, 1) := by decide +kernel
theorem dX10_path_13 : decode mX10_path.2.1 13 = .ok (.invokevirtual 124, 3) := by decide +kernel
theorem dX10_path_16 : decode mX10_path.2.1 16 = .ok (.ireturn, 1) := by decide +kernel
theorem dX10_path_17 : decode mX10_path.2.1 17 = .ok (.iload_n 2, 1) := by decide +kernel
theorem dX10_path_18 : decode mX10_path.2.1 18 = .ok (.iload_n 3, 1) := by decide +kernel
theorem dX10_path_19 : decode mX10_path.2.1 19 = .ok (.invokestatic 149, 3) := by decide +kernel
theorem dX10_path_22 : decode mX10_path.2.1 22 = .ok (.ifCond .eq 17, 3) := by decide +kernel
theorem dX10_path_25 : decode mX10_path.2.1 25 = .ok (.iload 4, 2) := by decide +kernel
theorem dX10_path_27 : decode mX10_path.2.1 27 = .ok (.iconst (-1), 1) := by decide +kernel
theorem dX10_path_28 : decode mX10_path.2.1 28 = .ok (.if_icmp .eq 17, 3) := by decide +kernel
theorem dX10_path_31 : decode mX10_path.2.1 31 = .ok (.iload 4, 2) := by decide +kernel
theorem dX10_path_33 : decode mX10_path.2.1 33 = .ok (.invokestatic 152, 3) := by decide +kernel
theorem dX10_path_36 : decode mX10_path.2.1 36 = .ok (.ifCond .ne 9, 3) := by decide +kernel
theorem dX10_path_39 : decode mX10_path.2.1 39 = .ok (.aload_n 0, 1) := by decide +kernel
theorem dX10_path_40 : decode mX10_path.2.1 40 = .ok (.iconst 5, 1) := by decide +kernel
theorem dX10_path_41 : decode mX10_path.2.1 41 = .ok (.invokevirtual 124, 3) := by decide +kernel
theorem dX10_path_44 : decode mX10_path.2.1 44 = .ok (.ireturn, 1) := by decide +kernel
theorem dX10_path_45 : decode mX10_path.2.1 45 = .ok (.aload_n 0, 1) := by decide +kernel
theorem dX10_path_46 : decode mX10_path.2.1 46 = .ok (.getfield 46, 3) := by decide +kernel
theorem dX10_path_49 : decode mX10_path.2.1 49 = .ok (.aload_n 0, 1) := by decide +kernel
theorem dX10_path_50 : decode mX10_path.2.1 50 = .ok (.getfield 18, 3) := by decide +kernel
theorem dX10_path_53 : decode mX10_path.2.1 53 = .ok (.iload_n 1, 1) := by decide +kernel
theorem dX10_path_54 : decode mX10_path.2.1 54 = .ok (.iload_n 2, 1) := by decide +kernel
theorem dX10_path_55 : decode mX10_path.2.1 55 = .ok (.iload_n 3, 1) := by decide +kernel
theorem dX10_path_56 : decode mX10_path.2.1 56 = .ok (.invokestatic 310, 3) := by decide +kernel
theorem dX10_path_59 : decode mX10_path.2.1 59 = .ok (.iload 4, 2) := by decide +kernel
theorem dX10_path_61 : decode mX10_path.2.1 61 = .ok (.invokevirtual 313, 3) := by decide +kernel
theorem dX10_path_64 : decode mX10_path.2.1 64 = .ok (.ifCond .ne 10, 3) := by decide +kernel
theorem dX10_path_67 : decode mX10_path.2.1 67 = .ok (.aload_n 0, 1) := by decide +kernel
theorem dX10_path_68 : decode mX10_path.2.1 68 = .ok (.bipush 8, 2) := by decide +kernel
theorem dX10_path_70 : decode mX10_path.2.1 70 = .ok (.invokevirtual 124, 3) := by decide +kernel
theorem dX10_path_73 : decode mX10_path.2.1 73 = .ok (.ireturn, 1) := by decide +kernel
theorem dX10_path_74 : decode mX10_path.2.1 74 = .ok (.aload_n 0, 1) := by decide +kernel
theorem dX10_path_75 : decode mX10_path.2.1 75 = .ok (.aload_n 0, 1) := by decide +kernel
theorem dX10_path_76 : decode mX10_path.2.1 76 = .ok (.getfield 46, 3) := by decide +kernel
theorem dX10_path_79 : decode mX10_path.2.1 79 = .ok (.getfield 316, 3) := by decide +kernel
theorem dX10_path_82 : decode mX10_path.2.1 82 = .ok (.invokevirtual 162, 3) := by decide +kernel
theorem dX10_path_85 : decode mX10_path.2.1 85 = .ok (.ireturn, 1) := by decide +kernel
theorem dX10_move_0 : decode mX10_move.2.1 0 = .ok (.aload_n 0, 1) := by decide +kernel
theorem dX10_move_1 : decode mX10_move.2.1 1 = .ok (.getfield 46, 3) := by decide +kernel
theorem dX10_move_4 : decode mX10_move.2.1 4 = .ok (.iload_n 1, 1) := by decide +kernel
theorem dX10_move_5 : decode mX10_move.2.1 5 = .ok (.invokevirtual 317, 3) := by decide +kernel
theorem dX10_move_8 : decode mX10_move.2.1 8 = .ok (.istore_n 2, 1) := by decide +kernel
theorem dX10_move_9 : decode mX10_move.2.1 9 = .ok (.iload_n 2, 1) := by decide +kernel
theorem dX10_move_10 : decode mX10_move.2.1 10 = .ok (.iconst (-1), 1) := by decide +kernel
theorem dX10_move_11 : decode mX10_move.2.1 11 = .ok (.if_icmp .ne 12, 3) := by decide +kernel
theorem dX10_move_14 : decode mX10_move.2.1 14 = .ok (.aload_n 0, 1) := by decide +kernel
theorem dX10_move_15 : decode mX10_move.2.1 15 = .ok (.bipush 8, 2) := by decide +kernel
theorem dX10_move_17 : decode mX10_move.2.1 17 = .ok (.invokevirtual 124, 3) := by decide +kernel
theorem dX10_move_20 : decode mX10_move.2.1 20 = .ok (.goto 8, 3) := by decide +kernel
theorem dX10_move_23 : decode mX10_move.2.1 23 = .ok (.aload_n 0, 1) := by decide +kernel
theorem dX10_move_24 : decode mX10_move.2.1 24 = .ok (.iload_n 2, 1) := by decide +kernel
theorem dX10_move_25 : decode mX10_move.2.1 25 = .ok (.invokevirtual 162, 3) := by decide +kernel
theorem dX10_move_28 : decode mX10_move.2.1 28 = .ok (.ireturn, 1) := by decide +kernel
theorem dX10_person_0 : decode mX10_person.2.1 0 = .ok (.aload_n 0, 1) := by decide +kernel
theorem dX10_person_1 : decode mX10_person.2.1 1 = .ok (.getfield 18, 3) := by decide +kernel
theorem dX10_person_4 : decode mX10_person.2.1 4 = .ok (.iload_n 1, 1) := by decide +kernel
theorem dX10_person_5 : decode mX10_person.2.1 5 = .ok (.invokevirtual 178, 3) := by decide +kernel
theorem dX10_person_8 : decode mX10_person.2.1 8 = .ok (.ifCond .ne 9, 3) := by decide +kernel
theorem dX10_person_11 : decode mX10_person.2.1 11 = .ok (.aload_n 0, 1) := by decide +kernel
theorem dX10_person_12 : decode mX10_person.2.1 12 = .ok (.iconst 5, 1) := by decide +kernel
theorem dX10_person_13 : decode mX10_person.2.1 13 = .ok (.invokevirtual 124, 3) := by decide +kernel
theorem dX10_person_16 : decode mX10_person.2.1 16 = .ok (.ireturn, 1) := by decide +kernel
theorem dX10_person_17 : decode mX10_person.2.1 17 = .ok (.aload_n 0, 1) := by decide +kernel
theorem dX10_person_18 : decode mX10_person.2.1 18 = .ok (.getfield 53, 3) := by decide +kernel
theorem dX10_person_21 : decode mX10_person.2.1 21 = .ok (.getfield 320, 3) := by decide +kernel
theorem dX10_person_24 : decode mX10_person.2.1 24 = .ok (.bipush 16, 2) := by decide +kernel
theorem dX10_person_26 : decode mX10_person.2.1 26 = .ok (.if_icmp .lt 10, 3) := by decide +kernel
theorem dX10_person_29 : decode mX10_person.2.1 29 = .ok (.aload_n 0, 1) := by decide +kernel
theorem dX10_person_30 : decode mX10_person.2.1 30 = .ok (.bipush 7, 2) := by decide +kernel
theorem dX10_person_32 : decode mX10_person.2.1 32 = .ok (.invokevirtual 124, 3) := by decide +kernel
theorem dX10_person_35 : decode mX10_person.2.1 35 = .ok (.ireturn, 1) := by decide +kernel
theorem dX10_person_36 : decode mX10_person.2.1 36 = .ok (.aload_n 0, 1) := by decide +kernel
theorem dX10_person_37 : decode mX10_person.2.1 37 = .ok (.aload_n 0, 1) := by decide +kernel
theorem dX10_person_38 : decode mX10_person.2.1 38 = .ok (.getfield 53, 3) := by decide +kernel
theorem dX10_person_41 : decode mX10_person.2.1 41 = .ok (.iload_n 1, 1) := by decide +kernel
theorem dX10_person_42 : decode mX10_person.2.1 42 = .ok (.invokevirtual 323, 3) := by decide +kernel
theorem dX10_person_45 : decode mX10_person.2.1 45 = .ok (.invokevirtual 162, 3) := by decide +kernel
theorem dX10_person_48 : decode mX10_person.2.1 48 = .ok (.ireturn, 1) := by decide +kernel
theorem dX10_away_0 : decode mX10_away.2.1 0 = .ok (.iload_n 1, 1) := by decide +kernel
theorem dX10_away_1 : decode mX10_away.2.1 1 = .ok (.ifCond .lt 14, 3) := by decide +kernel
theorem dX10_away_4 : decode mX10_away.2.1 4 = .ok (.iload_n 1, 1) := by decide +kernel
theorem dX10_away_5 : decode mX10_away.2.1 5 = .ok (.aload_n 0, 1) := by decide +kernel
theorem dX10_away_6 : decode mX10_away.2.1 6 = .ok (.getfield 53, 3) := by decide +kernel
theorem dX10_away_9 : decode mX10_away.2.1 9 = .ok (.getfield 320, 3) := by decide +kernel
theorem dX10_away_12 : decode mX10_away.2.1 12 = .ok (.if_icmp .lt 9, 3) := by decide +kernel
theorem dX10_away_15 : decode mX10_away.2.1 15 = .ok (.aload_n 0, 1) := by decide +kernel
theorem dX10_away_16 : decode mX10_away.2.1 16 = .ok (.iconst 2, 1) := by decide +kernel
theorem dX10_away_17 : decode mX10_away.2.1 17 = .ok (.invokevirtual 105, 3) := by decide +kernel
theorem dX10_away_20 : decode mX10_away.2.1 20 = .ok (.ireturn, 1) := by decide +kernel
theorem dX10_away_21 : decode mX10_away.2.1 21 = .ok (.iload_n 2, 1) := by decide +kernel
theorem dX10_away_22 : decode mX10_away.2.1 22 = .ok (.invokestatic 326, 3) := by decide +kernel
theorem dX10_away_25 : decode mX10_away.2.1 25 = .ok (.ifCond .eq 23, 3) := by decide +kernel
theorem dX10_away_28 : decode mX10_away.2.1 28 = .ok (.iload_n 3, 1) := by decide +kernel
theorem dX10_away_29 : decode mX10_away.2.1 29 = .ok (.invokestatic 326, 3) := by decide +kernel
theorem dX10_away_32 : decode mX10_away.2.1 32 = .ok (.ifCond .eq 16, 3) := by decide +kernel
theorem dX10_away_35 : decode mX10_away.2.1 35 = .ok (.iload 4, 2) := by decide +kernel
theorem dX10_away_37 : decode mX10_away.2.1 37 = .ok (.invokestatic 326, 3) := by decide +kernel
theorem dX10_away_40 : decode mX10_away.2.1 40 = .ok (.ifCond .eq 8, 3) := by decide +kernel
theorem dX10_away_43 : decode mX10_away.2.1 43 = .ok (.iload_n 2, 1) := by decide +kernel
theorem dX10_away_44 : decode mX10_away.2.1 44 = .ok (.iload_n 3, 1) := by decide +kernel
theorem dX10_away_45 : decode mX10_away.2.1 45 = .ok (.if_icmp .le 9, 3) := by decide +kernel
theorem dX10_away_48 : decode mX10_away.2.1 48 = .ok (.aload_n 0, 1) := by decide +kernel
theorem dX10_away_49 : decode mX10_away.2.1 49 = .ok (.iconst 5, 1) := by decide +kernel
theorem dX10_away_50 : decode mX10_away.2.1 50 = .ok (.invokevirtual 105, 3) := by decide +kernel
theorem dX10_away_53 : decode mX10_away.2.1 53 = .ok (.ireturn, 1) := by decide +kernel
theorem dX10_away_54 : decode mX10_away.2.1 54 = .ok (.aload_n 0, 1) := by decide +kernel
theorem dX10_away_55 : decode mX10_away.2.1 55 = .ok (.getfield 53, 3) := by decide +kernel
theorem dX10_away_58 : decode mX10_away.2.1 58 = .ok (.getfield 329, 3) := by decide +kernel
theorem dX10_away_61 : decode mX10_away.2.1 61 = .ok (.bipush 60, 2) := by decide +kernel
theorem dX10_away_63 : decode mX10_away.2.1 63 = .ok (.if_icmp .lt 10, 3) := by decide +kernel
theorem dX10_away_66 : decode mX10_away.2.1 66 = .ok (.aload_n 0, 1) := by decide +kernel
theorem dX10_away_67 : decode mX10_away.2.1 67 = .ok (.bipush 7, 2) := by decide +kernel
theorem dX10_away_69 : decode mX10_away.2.1 69 = .ok (.invokevirtual 105, 3) := by decide +kernel
theorem dX10_away_72 : decode mX10_away.2.1 72 = .ok (.ireturn, 1) := by decide +kernel
theorem dX10_away_73 : decode mX10_away.2.1 73 = .ok (.iload 4, 2) := by decide +kernel
theorem dX10_away_75 : decode mX10_away.2.1 75 = .ok (.aload_n 0, 1) := by decide +kernel
theorem dX10_away_76 : decode mX10_away.2.1 76 = .ok (.getfield 53, 3) := by decide +kernel
theorem dX10_away_79 : decode mX10_away.2.1 79 = .ok (.getfield 332, 3) := by decide +kernel
theorem dX10_away_82 : decode mX10_away.2.1 82 = .ok (.if_icmp .ge 10, 3) := by decide +kernel
theorem dX10_away_85 : decode mX10_away.2.1 85 = .ok (.aload_n 0, 1) := by decide +kernel
theorem dX10_away_86 : decode mX10_away.2.1 86 = .ok (.bipush 12, 2) := by decide +kernel
theorem dX10_away_88 : decode mX10_away.2.1 88 = .ok (.invokevirtual 105, 3) := by decide +kernel
theorem dX10_away_91 : decode mX10_away.2.1 91 = .ok (.ireturn, 1) := by decide +kernel
theorem dX10_away_92 : decode mX10_away.2.1 92 = .ok (.aload_n 0, 1) := by decide +kernel
theorem dX10_away_93 : decode mX10_away.2.1 93 = .ok (.getfield 53, 3) := by decide +kernel
theorem dX10_away_96 : decode mX10_away.2.1 96 = .ok (.iload_n 1, 1) := by decide +kernel
theorem dX10_away_97 : decode mX10_away.2.1 97 = .ok (.iload_n 2, 1) := by decide +kernel
theorem dX10_away_98 : decode mX10_away.2.1 98 = .ok (.iload_n 3, 1) := by decide +kernel
theorem dX10_away_99 : decode mX10_away.2.1 99 = .ok (.iload 4, 2) := by decide +kernel
theorem dX10_away_101 : decode mX10_away.2.1 101 = .ok (.invokevirtual 335, 3) := by decide +kernel
theorem dX10_away_104 : decode mX10_away.2.1 104 = .ok (.aload_n 0, 1) := by decide +kernel
theorem dX10_away_105 : decode mX10_away.2.1 105 = .ok (.invokevirtual 112, 3) := by decide +kernel
theorem dX10_away_108 : decode mX10_away.2.1 108 = .ok (.ireturn, 1) := by decide +kernel
theorem dX10_filled_0 : decode mX10_filled.2.1 0 = .ok (.iload_n 1, 1) := by decide +kernel
theorem dX10_filled_1 : decode mX10_filled.2.1 1 = .ok (.invokestatic 326, 3) := by decide +kernel
theorem dX10_filled_4 : decode mX10_filled.2.1 4 = .ok (.ifCond .eq 10, 3) := by decide +kernel
theorem dX10_filled_7 : decode mX10_filled.2.1 7 = .ok (.iload_n 2, 1) := by decide +kernel
theorem dX10_filled_8 : decode mX10_filled.2.1 8 = .ok (.invokestatic 326, 3) := by decide +kernel
theorem dX10_filled_11 : decode mX10_filled.2.1 11 = .ok (.ifCond .ne 9, 3) := by decide +kernel
theorem dX10_filled_14 : decode mX10_filled.2.1 14 = .ok (.aload_n 0, 1) := by decide +kernel
theorem dX10_filled_15 : decode mX10_filled.2.1 15 = .ok (.iconst 5, 1) := by decide +kernel
theorem dX10_filled_16 : decode mX10_filled.2.1 16 = .ok (.invokevirtual 124, 3) := by decide +kernel
theorem dX10_filled_19 : decode mX10_filled.2.1 19 = .ok (.ireturn, 1) := by decide +kernel
theorem dX10_filled_20 : decode mX10_filled.2.1 20 = .ok (.aload_n 0, 1) := by decide +kernel
theorem dX10_filled_21 : decode mX10_filled.2.1 21 = .ok (.aload_n 0, 1) := by decide +kernel
theorem dX10_filled_22 : decode mX10_filled.2.1 22 = .ok (.getfield 53, 3) := by decide +kernel
theorem dX10_filled_25 : decode mX10_filled.2.1 25 = .ok (.aload_n 0, 1) := by decide +kernel
theorem dX10_filled_26 : decode mX10_filled.2.1 26 = .ok (.getfield 18, 3) := by decide +kernel
theorem dX10_filled_29 : decode mX10_filled.2.1 29 = .ok (.getfield 155, 3) := by decide +kernel
theorem dX10_filled_32 : decode mX10_filled.2.1 32 = .ok (.iload_n 1, 1) := by decide +kernel
theorem dX10_filled_33 : decode mX10_filled.2.1 33 = .ok (.iload_n 2, 1) := by decide +kernel
theorem dX10_filled_34 : decode mX10_filled.2.1 34 = .ok (.invokevirtual 339, 3) := by decide +kernel
theorem dX10_filled_37 : decode mX10_filled.2.1 37 = .ok (.invokevirtual 162, 3) := by decide +kernel
theorem dX10_filled_40 : decode mX10_filled.2.1 40 = .ok (.ireturn, 1) := by decide +kernel
theorem dX10_who_0 : decode mX10_who.2.1 0 = .ok (.aload_n 0, 1) := by decide +kernel
theorem dX10_who_1 : decode mX10_who.2.1 1 = .ok (.getfield 18, 3) := by decide +kernel
theorem dX10_who_4 : decode mX10_who.2.1 4 = .ok (.iload_n 1, 1) := by decide +kernel
theorem dX10_who_5 : decode mX10_who.2.1 5 = .ok (.invokevirtual 309, 3) := by decide +kernel
theorem dX10_who_8 : decode mX10_who.2.1 8 = .ok (.ifCond .ne 9, 3) := by decide +kernel
theorem dX10_who_11 : decode mX10_who.2.1 11 = .ok (.aload_n 0, 1) := by decide +kernel
theorem dX10_who_12 : decode mX10_who.2.1 12 = .ok (.iconst 2, 1) := by decide +kernel
theorem dX10_who_13 : decode mX10_who.2.1 13 = .ok (.invokevirtual 124, 3) := by decide +kernel
theorem dX10_who_16 : decode mX10_who.2.1 16 = .ok (.ireturn, 1) := by decide +kernel
theorem dX10_who_17 : decode mX10_who.2.1 17 = .ok (.iload_n 2, 1) := by decide +kernel
theorem dX10_who_18 : decode mX10_who.2.1 18 = .ok (.invokestatic 326, 3) := by decide +kernel
theorem dX10_who_21 : decode mX10_who.2.1 21 = .ok (.ifCond .eq 10, 3) := by decide +kernel
theorem dX10_who_24 : decode mX10_who.2.1 24 = .ok (.iload_n 3, 1) := by decide +kernel
theorem dX10_who_25 : decode mX10_who.2.1 25 = .ok (.invokestatic 326, 3) := by decide +kernel
theorem dX10_who_28 : decode mX10_who.2.1 28 = .ok (.ifCond .ne 9, 3) := by decide +kernel
theorem dX10_who_31 : decode mX10_who.2.1 31 = .ok (.aload_n 0, 1) := by decide +kernel
theorem dX10_who_32 : decode mX10_who.2.1 32 = .ok (.iconst 5, 1) := by decide +kernel
theorem dX10_who_33 : decode mX10_who.2.1 33 = .ok (.invokevirtual 124, 3) := by decide +kernel
theorem dX10_who_36 : decode mX10_who.2.1 36 = .ok (.ireturn, 1) := by decide +kernel
theorem dX10_who_37 : decode mX10_who.2.1 37 = .ok (.aload_n 0, 1) := by decide +kernel
theorem dX10_who_38 : decode mX10_who.2.1 38 = .ok (.getfield 53, 3) := by decide +kernel
theorem dX10_who_41 : decode mX10_who.2.1 41 = .ok (.aload_n 0, 1) := by decide +kernel
theorem dX10_who_42 : decode mX10_who.2.1 42 = .ok (.getfield 18, 3) := by decide +kernel
theorem dX10_who_45 : decode mX10_who.2.1 45 = .ok (.getfield 155, 3) := by decide +kernel
theorem dX10_who_48 : decode mX10_who.2.1 48 = .ok (.iload_n 2, 1) := by decide +kernel
theorem dX10_who_49 : decode mX10_who.2.1 49 = .ok (.iload_n 3, 1) := by decide +kernel
theorem dX10_who_50 : decode mX10_who.2.1 50 = .ok (.invokevirtual 339, 3) := by decide +kernel
theorem dX10_who_53 : decode mX10_who.2.1 53 = .ok (.pop, 1) := by decide +kernel
theorem dX10_who_54 : decode mX10_who.2.1 54 = .ok (.aload_n 0, 1) := by decide +kernel
theorem dX10_who_55 : decode mX10_who.2.1 55 = .ok (.getfield 53, 3) := by decide +kernel
theorem dX10_who_58 : decode mX10_who.2.1 58 = .ok (.getfield 342, 3) := by decide +kernel
theorem dX10_who_61 : decode mX10_who.2.1 61 = .ok (.iload_n 1, 1) := by decide +kernel
theorem dX10_who_62 : decode mX10_who.2.1 62 = .ok (.iaload, 1) := by decide +kernel
theorem dX10_who_63 : decode mX10_who.2.1 63 = .ok (.istore 4, 2) := by decide +kernel
theorem dX10_who_65 : decode mX10_who.2.1 65 = .ok (.iload 4, 2) := by decide +kernel
theorem dX10_who_67 : decode mX10_who.2.1 67 = .ok (.iconst (-1), 1) := by decide +kernel
theorem dX10_who_68 : decode mX10_who.2.1 68 = .ok (.if_icmp .ne 12, 3) := by decide +kernel
theorem dX10_who_71 : decode mX10_who.2.1 71 = .ok (.aload_n 0, 1) := by decide +kernel
theorem dX10_who_72 : decode mX10_who.2.1 72 = .ok (.bipush 8, 2) := by decide +kernel
theorem dX10_who_74 : decode mX10_who.2.1 74 = .ok (.invokevirtual 124, 3) := by decide +kernel
theorem dX10_who_77 : decode mX10_who.2.1 77 = .ok (.goto 9, 3) := by decide +kernel
theorem dX10_who_80 : decode mX10_who.2.1 80 = .ok (.aload_n 0, 1) := by decide +kernel
theorem dX10_who_81 : decode mX10_who.2.1 81 = .ok (.iload 4, 2) := by decide +kernel
theorem dX10_who_83 : decode mX10_who.2.1 83 = .ok (.invokevirtual 162, 3) := by decide +kernel
theorem dX10_who_86 : decode mX10_who.2.1 86 = .ok (.ireturn, 1) := by decide +kernel
theorem dX10_mark_0 : decode mX10_mark.2.1 0 = .ok (.iload_n 1, 1) := by decide +kernel
theorem dX10_mark_1 : decode mX10_mark.2.1 1 = .ok (.invokestatic 345, 3) := by decide +kernel
theorem dX10_mark_4 : decode mX10_mark.2.1 4 = .ok (.ifCond .eq 17, 3) := by decide +kernel
theorem dX10_mark_7 : decode mX10_mark.2.1 7 = .ok (.iload_n 2, 1) := by decide +kernel
theorem dX10_mark_8 : decode mX10_mark.2.1 8 = .ok (.invokestatic 348, 3) := by decide +kernel
theorem dX10_mark_11 : decode mX10_mark.2.1 11 = .ok (.ifCond .eq 10, 3) := by decide +kernel
theorem dX10_mark_14 : decode mX10_mark.2.1 14 = .ok (.iload_n 3, 1) := by decide +kernel
theorem dX10_mark_15 : decode mX10_mark.2.1 15 = .ok (.invokestatic 351, 3) := by decide +kernel
theorem dX10_mark_18 : decode mX10_mark.2.1 18 = .ok (.ifCond .ne 9, 3) := by decide +kernel
theorem dX10_mark_21 : decode mX10_mark.2.1 21 = .ok (.aload_n 0, 1) := by decide +kernel
theorem dX10_mark_22 : decode mX10_mark.2.1 22 = .ok (.iconst 2, 1) := by decide +kernel
theorem dX10_mark_23 : decode mX10_mark.2.1 23 = .ok (.invokevirtual 105, 3) := by decide +kernel
theorem dX10_mark_26 : decode mX10_mark.2.1 26 = .ok (.ireturn, 1) := by decide +kernel
theorem dX10_mark_27 : decode mX10_mark.2.1 27 = .ok (.iload 4, 2) := by decide +kernel
theorem dX10_mark_29 : decode mX10_mark.2.1 29 = .ok (.iconst (-1), 1) := by decide +kernel
theorem dX10_mark_30 : decode mX10_mark.2.1 30 = .ok (.if_icmp .lt 10, 3) := by decide +kernel
theorem dX10_mark_33 : decode mX10_mark.2.1 33 = .ok (.iload 4, 2) := by decide +kernel
theorem dX10_mark_35 : decode mX10_mark.2.1 35 = .ok (.bipush 100, 2) := by decide +kernel
theorem dX10_mark_37 : decode mX10_mark.2.1 37 = .ok (.if_icmp .le 9, 3) := by decide +kernel
theorem dX10_mark_40 : decode mX10_mark.2.1 40 = .ok (.aload_n 0, 1) := by decide +kernel
theorem dX10_mark_41 : decode mX10_mark.2.1 41 = .ok (.iconst 5, 1) := by decide +kernel
theorem dX10_mark_42 : decode mX10_mark.2.1 42 = .ok (.invokevirtual 105, 3) := by decide +kernel
theorem dX10_mark_45 : decode mX10_mark.2.1 45 = .ok (.ireturn, 1) := by decide +kernel
theorem dX10_mark_46 : decode mX10_mark.2.1 46 = .ok (.aload_n 0, 1) := by decide +kernel
theorem dX10_mark_47 : decode mX10_mark.2.1 47 = .ok (.getfield 60, 3) := by decide +kernel
theorem dX10_mark_50 : decode mX10_mark.2.1 50 = .ok (.iload_n 1, 1) := by decide +kernel
theorem dX10_mark_51 : decode mX10_mark.2.1 51 = .ok (.iload_n 2, 1) := by decide +kernel
theorem dX10_mark_52 : decode mX10_mark.2.1 52 = .ok (.iload_n 3, 1) := by decide +kernel
theorem dX10_mark_53 : decode mX10_mark.2.1 53 = .ok (.iload 4, 2) := by decide +kernel
theorem dX10_mark_55 : decode mX10_mark.2.1 55 = .ok (.invokevirtual 354, 3) := by decide +kernel
theorem dX10_mark_58 : decode mX10_mark.2.1 58 = .ok (.aload_n 0, 1) := by decide +kernel
theorem dX10_mark_59 : decode mX10_mark.2.1 59 = .ok (.invokevirtual 112, 3) := by decide +kernel
theorem dX10_mark_62 : decode mX10_mark.2.1 62 = .ok (.ireturn, 1) := by decide +kernel
theorem dX10_weight_0 : decode mX10_weight.2.1 0 = .ok (.iload_n 1, 1) := by decide +kernel
theorem dX10_weight_1 : decode mX10_weight.2.1 1 = .ok (.invokestatic 351, 3) := by decide +kernel
theorem dX10_weight_4 : decode mX10_weight.2.1 4 = .ok (.ifCond .ne 9, 3) := by decide +kernel
theorem dX10_weight_7 : decode mX10_weight.2.1 7 = .ok (.aload_n 0, 1) := by decide +kernel
theorem dX10_weight_8 : decode mX10_weight.2.1 8 = .ok (.iconst 2, 1) := by decide +kernel
theorem dX10_weight_9 : decode mX10_weight.2.1 9 = .ok (.invokevirtual 105, 3) := by decide +kernel
theorem dX10_weight_12 : decode mX10_weight.2.1 12 = .ok (.ireturn, 1) := by decide +kernel
theorem dX10_weight_13 : decode mX10_weight.2.1 13 = .ok (.iload_n 2, 1) := by decide +kernel
theorem dX10_weight_14 : decode mX10_weight.2.1 14 = .ok (.iconst 1, 1) := by decide +kernel
theorem dX10_weight_15 : decode mX10_weight.2.1 15 = .ok (.if_icmp .lt 9, 3) := by decide +kernel
theorem dX10_weight_18 : decode mX10_weight.2.1 18 = .ok (.iload_n 2, 1) := by decide +kernel
theorem dX10_weight_19 : decode mX10_weight.2.1 19 = .ok (.bipush 9, 2) := by decide +kernel
theorem dX10_weight_21 : decode mX10_weight.2.1 21 = .ok (.if_icmp .le 9, 3) := by decide +kernel
theorem dX10_weight_24 : decode mX10_weight.2.1 24 = .ok (.aload_n 0, 1) := by decide +kernel
theorem dX10_weight_25 : decode mX10_weight.2.1 25 = .ok (.iconst 5, 1) := by decide +kernel
theorem dX10_weight_26 : decode mX10_weight.2.1 26 = .ok (.invokevirtual 105, 3) := by decide +kernel
theorem dX10_weight_29 : decode mX10_weight.2.1 29 = .ok (.ireturn, 1) := by decide +kernel
theorem dX10_weight_30 : decode mX10_weight.2.1 30 = .ok (.aload_n 0, 1) := by decide +kernel
theorem dX10_weight_31 : decode mX10_weight.2.1 31 = .ok (.getfield 60, 3) := by decide +kernel
theorem dX10_weight_34 : decode mX10_weight.2.1 34 = .ok (.getfield 357, 3) := by decide +kernel
theorem dX10_weight_37 : decode mX10_weight.2.1 37 = .ok (.iload_n 1, 1) := by decide +kernel
theorem dX10_weight_38 : decode mX10_weight.2.1 38 = .ok (.iload_n 2, 1) := by decide +kernel
theorem dX10_weight_39 : decode mX10_weight.2.1 39 = .ok (.iastore, 1) := by decide +kernel
theorem dX10_weight_40 : decode mX10_weight.2.1 40 = .ok (.aload_n 0, 1) := by decide +kernel
theorem dX10_weight_41 : decode mX10_weight.2.1 41 = .ok (.invokevirtual 112, 3) := by decide +kernel
theorem dX10_weight_44 : decode mX10_weight.2.1 44 = .ok (.ireturn, 1) := by decide +kernel
theorem dX10_total_0 : decode mX10_total.2.1 0 = .ok (.iload_n 1, 1) := by decide +kernel
theorem dX10_total_1 : decode mX10_total.2.1 1 = .ok (.invokestatic 345, 3) := by decide +kernel
theorem dX10_total_4 : decode mX10_total.2.1 4 = .ok (.ifCond .ne 9, 3) := by decide +kernel
theorem dX10_total_7 : decode mX10_total.2.1 7 = .ok (.aload_n 0, 1) := by decide +kernel
theorem dX10_total_8 : decode mX10_total.2.1 8 = .ok (.iconst 2, 1) := by decide +kernel
theorem dX10_total_9 : decode mX10_total.2.1 9 = .ok (.invokevirtual 105, 3) := by decide +kernel
theorem dX10_total_12 : decode mX10_total.2.1 12 = .ok (.ireturn, 1) := by decide +kernel
theorem dX10_total_13 : decode mX10_total.2.1 13 = .ok (.aload_n 0, 1) := by decide +kernel
theorem dX10_total_14 : decode mX10_total.2.1 14 = .ok (.getfield 60, 3) := by decide +kernel
theorem dX10_total_17 : decode mX10_total.2.1 17 = .ok (.iload_n 1, 1) := by decide +kernel
theorem dX10_total_18 : decode mX10_total.2.1 18 = .ok (.invokevirtual 360, 3) := by decide +kernel
theorem dX10_total_21 : decode mX10_total.2.1 21 = .ok (.ifCond .ne 10, 3) := by decide +kernel
theorem dX10_total_24 : decode mX10_total.2.1 24 = .ok (.aload_n 0, 1) := by decide +kernel
theorem dX10_total_25 : decode mX10_total.2.1 25 = .ok (.bipush 8, 2) := by decide +kernel
theorem dX10_total_27 : decode mX10_total.2.1 27 = .ok (.invokevirtual 105, 3) := by decide +kernel
theorem dX10_total_30 : decode mX10_total.2.1 30 = .ok (.ireturn, 1) := by decide +kernel
theorem dX10_total_31 : decode mX10_total.2.1 31 = .ok (.aload_n 0, 1) := by decide +kernel
theorem dX10_total_32 : decode mX10_total.2.1 32 = .ok (.getfield 60, 3) := by decide +kernel
theorem dX10_total_35 : decode mX10_total.2.1 35 = .ok (.invokevirtual 363, 3) := by decide +kernel
theorem dX10_total_38 : decode mX10_total.2.1 38 = .ok (.aload_n 0, 1) := by decide +kernel
theorem dX10_total_39 : decode mX10_total.2.1 39 = .ok (.invokevirtual 112, 3) := by decide +kernel
theorem dX10_total_42 : decode mX10_total.2.1 42 = .ok (.ireturn, 1) := by decide +kernel
theorem dX10_upper_0 : decode mX10_upper.2.1 0 = .ok (.aload_n 0, 1) := by decide +kernel
theorem dX10_upper_1 : decode mX10_upper.2.1 1 = .ok (.getfield 60, 3) := by decide +kernel
theorem dX10_upper_4 : decode mX10_upper.2.1 4 = .ok (.getfield 366, 3) := by decide +kernel
theorem dX10_upper_7 : decode mX10_upper.2.1 7 = .ok (.lreturn, 1) := by decide +kernel
theorem dX10_lower_0 : decode mX10_lower.2.1 0 = .ok (.aload_n 0, 1) := by decide +kernel
theorem dX10_lower_1 : decode mX10_lower.2.1 1 = .ok (.getfield 60, 3) := by decide +kernel
theorem dX10_lower_4 : decode mX10_lower.2.1 4 = .ok (.getfield 370, 3) := by decide +kernel
theorem dX10_lower_7 : decode mX10_lower.2.1 7 = .ok (.lreturn, 1) := by decide +kernel
theorem dX10_rank_0 : decode mX10_rank.2.1 0 = .ok (.iload_n 1, 1) := by decide +kernel
theorem dX10_rank_1 : decode mX10_rank.2.1 1 = .ok (.invokestatic 345, 3) := by decide +kernel
theorem dX10_rank_4 : decode mX10_rank.2.1 4 = .ok (.ifCond .ne 9, 3) := by decide +kernel
theorem dX10_rank_7 : decode mX10_rank.2.1 7 = .ok (.aload_n 0, 1) := by decide +kernel
theorem dX10_rank_8 : decode mX10_rank.2.1 8 = .ok (.iconst 2, 1) := by decide +kernel
theorem dX10_rank_9 : decode mX10_rank.2.1 9 = .ok (.invokevirtual 124, 3) := by decide +kernel
theorem dX10_rank_12 : decode mX10_rank.2.1 12 = .ok (.ireturn, 1) := by decide +kernel
theorem dX10_rank_13 : decode mX10_rank.2.1 13 = .ok (.aload_n 0, 1) := by decide +kernel
theorem dX10_rank_14 : decode mX10_rank.2.1 14 = .ok (.getfield 60, 3) := by decide +kernel
theorem dX10_rank_17 : decode mX10_rank.2.1 17 = .ok (.iload_n 1, 1) := by decide +kernel
theorem dX10_rank_18 : decode mX10_rank.2.1 18 = .ok (.invokevirtual 373, 3) := by decide +kernel
theorem dX10_rank_21 : decode mX10_rank.2.1 21 = .ok (.istore_n 2, 1) := by decide +kernel
theorem dX10_rank_22 : decode mX10_rank.2.1 22 = .ok (.iload_n 2, 1) := by decide +kernel
theorem dX10_rank_23 : decode mX10_rank.2.1 23 = .ok (.iconst (-1), 1) := by decide +kernel
theorem dX10_rank_24 : decode mX10_rank.2.1 24 = .ok (.if_icmp .ne 12, 3) := by decide +kernel
theorem dX10_rank_27 : decode mX10_rank.2.1 27 = .ok (.aload_n 0, 1) := by decide +kernel
theorem dX10_rank_28 : decode mX10_rank.2.1 28 = .ok (.bipush 8, 2) := by decide +kernel
theorem dX10_rank_30 : decode mX10_rank.2.1 30 = .ok (.invokevirtual 124, 3) := by decide +kernel
theorem dX10_rank_33 : decode mX10_rank.2.1 33 = .ok (.goto 8, 3) := by decide +kernel
theorem dX10_rank_36 : decode mX10_rank.2.1 36 = .ok (.aload_n 0, 1) := by decide +kernel
theorem dX10_rank_37 : decode mX10_rank.2.1 37 = .ok (.iload_n 2, 1) := by decide +kernel
theorem dX10_rank_38 : decode mX10_rank.2.1 38 = .ok (.invokevirtual 162, 3) := by decide +kernel
theorem dX10_rank_41 : decode mX10_rank.2.1 41 = .ok (.ireturn, 1) := by decide +kernel
theorem dX10_agree_0 : decode mX10_agree.2.1 0 = .ok (.aload_n 0, 1) := by decide +kernel
theorem dX10_agree_1 : decode mX10_agree.2.1 1 = .ok (.iconst 0, 1) := by decide +kernel
theorem dX10_agree_2 : decode mX10_agree.2.1 2 = .ok (.putfield 84, 3) := by decide +kernel
theorem dX10_agree_5 : decode mX10_agree.2.1 5 = .ok (.iconst 1, 1) := by decide +kernel
theorem dX10_agree_6 : decode mX10_agree.2.1 6 = .ok (.ireturn, 1) := by decide +kernel
theorem dX10_refuse_0 : decode mX10_refuse.2.1 0 = .ok (.aload_n 0, 1) := by decide +kernel
theorem dX10_refuse_1 : decode mX10_refuse.2.1 1 = .ok (.iload_n 1, 1) := by decide +kernel
theorem dX10_refuse_2 : decode mX10_refuse.2.1 2 = .ok (.putfield 84, 3) := by decide +kernel
theorem dX10_refuse_5 : decode mX10_refuse.2.1 5 = .ok (.iconst 0, 1) := by decide +kernel
theorem dX10_refuse_6 : decode mX10_refuse.2.1 6 = .ok (.ireturn, 1) := by decide +kernel
theorem dX10_answer_0 : decode mX10_answer.2.1 0 = .ok (.aload_n 0, 1) := by decide +kernel
theorem dX10_answer_1 : decode mX10_answer.2.1 1 = .ok (.iconst 0, 1) := by decide +kernel
theorem dX10_answer_2 : decode mX10_answer.2.1 2 = .ok (.putfield 84, 3) := by decide +kernel
theorem dX10_answer_5 : decode mX10_answer.2.1 5 = .ok (.iload_n 1, 1) := by decide +kernel
theorem dX10_answer_6 : decode mX10_answer.2.1 6 = .ok (.ireturn, 1) := by decide +kernel
theorem dX10_none_0 : decode mX10_none.2.1 0 = .ok (.aload_n 0, 1) := by decide +kernel
theorem dX10_none_1 : decode mX10_none.2.1 1 = .ok (.iload_n 1, 1) := by decide +kernel
theorem dX10_none_2 : decode mX10_none.2.1 2 = .ok (.putfield 84, 3) := by decide +kernel
theorem dX10_none_5 : decode mX10_none.2.1 5 = .ok (.iconst (-1), 1) := by decide +kernel
theorem dX10_none_6 : decode mX10_none.2.1 6 = .ok (.ireturn, 1) := by decide +kernel
theorem dX10_placeStatus_0 : decode mX10_placeStatus.2.1 0 = .ok (.iload_n 1, 1) := by decide +kernel
theorem dX10_placeStatus_1 : decode mX10_placeStatus.2.1 1 = .ok (.invokestatic 101, 3) := by decide +kernel
theorem dX10_placeStatus_4 : decode mX10_placeStatus.2.1 4 = .ok (.ifCond .ne 5, 3) := by decide +kernel
theorem dX10_placeStatus_7 : decode mX10_placeStatus.2.1 7 = .ok (.iconst 1, 1) := by decide +kernel
theorem dX10_placeStatus_8 : decode mX10_placeStatus.2.1 8 = .ok (.ireturn, 1) := by decide +kernel
theorem dX10_placeStatus_9 : decode mX10_placeStatus.2.1 9 = .ok (.aload_n 0, 1) := by decide +kernel
theorem dX10_placeStatus_10 : decode mX10_placeStatus.2.1 10 = .ok (.getfield 11, 3) := by decide +kernel
theorem dX10_placeStatus_13 : decode mX10_placeStatus.2.1 13 = .ok (.iload_n 1, 1) := by decide +kernel
theorem dX10_placeStatus_14 : decode mX10_placeStatus.2.1 14 = .ok (.aaload, 1) := by decide +kernel
theorem dX10_placeStatus_15 : decode mX10_placeStatus.2.1 15 = .ok (.getfield 132, 3) := by decide +kernel
theorem dX10_placeStatus_18 : decode mX10_placeStatus.2.1 18 = .ok (.ifCond .ne 5, 3) := by decide +kernel
theorem dX10_placeStatus_21 : decode mX10_placeStatus.2.1 21 = .ok (.iconst 3, 1) := by decide +kernel
theorem dX10_placeStatus_22 : decode mX10_placeStatus.2.1 22 = .ok (.ireturn, 1) := by decide +kernel
theorem dX10_placeStatus_23 : decode mX10_placeStatus.2.1 23 = .ok (.aload_n 0, 1) := by decide +kernel
theorem dX10_placeStatus_24 : decode mX10_placeStatus.2.1 24 = .ok (.getfield 11, 3) := by decide +kernel
theorem dX10_placeStatus_27 : decode mX10_placeStatus.2.1 27 = .ok (.iload_n 1, 1) := by decide +kernel
theorem dX10_placeStatus_28 : decode mX10_placeStatus.2.1 28 = .ok (.aaload, 1) := by decide +kernel
theorem dX10_placeStatus_29 : decode mX10_placeStatus.2.1 29 = .ok (.iload_n 2, 1) := by decide +kernel
theorem dX10_placeStatus_30 : decode mX10_placeStatus.2.1 30 = .ok (.iconst 1, 1) := by decide +kernel
theorem dX10_placeStatus_31 : decode mX10_placeStatus.2.1 31 = .ok (.invokevirtual 139, 3) := by decide +kernel
theorem dX10_placeStatus_34 : decode mX10_placeStatus.2.1 34 = .ok (.ifCond .eq 7, 3) := by decide +kernel
theorem dX10_placeStatus_37 : decode mX10_placeStatus.2.1 37 = .ok (.iconst 0, 1) := by decide +kernel
theorem dX10_placeStatus_38 : decode mX10_placeStatus.2.1 38 = .ok (.goto 4, 3) := by decide +kernel
theorem dX10_placeStatus_41 : decode mX10_placeStatus.2.1 41 = .ok (.iconst 4, 1) := by decide +kernel
theorem dX10_placeStatus_42 : decode mX10_placeStatus.2.1 42 = .ok (.ireturn, 1) := by decide +kernel
theorem dX10_isTray_0 : decode mX10_isTray.2.1 0 = .ok (.iload_n 0, 1) := by decide +kernel
theorem dX10_isTray_1 : decode mX10_isTray.2.1 1 = .ok (.ifCond .lt 12, 3) := by decide +kernel
theorem dX10_isTray_4 : decode mX10_isTray.2.1 4 = .ok (.iload_n 0, 1) := by decide +kernel
theorem dX10_isTray_5 : decode mX10_isTray.2.1 5 = .ok (.iconst 4, 1) := by decide +kernel
theorem dX10_isTray_6 : decode mX10_isTray.2.1 6 = .ok (.if_icmp .ge 7, 3) := by decide +kernel
theorem dX10_isTray_9 : decode mX10_isTray.2.1 9 = .ok (.iconst 1, 1) := by decide +kernel
theorem dX10_isTray_10 : decode mX10_isTray.2.1 10 = .ok (.goto 4, 3) := by decide +kernel
theorem dX10_isTray_13 : decode mX10_isTray.2.1 13 = .ok (.iconst 0, 1) := by decide +kernel
theorem dX10_isTray_14 : decode mX10_isTray.2.1 14 = .ok (.ireturn, 1) := by decide +kernel
theorem dX10_isDay_0 : decode mX10_isDay.2.1 0 = .ok (.iload_n 0, 1) := by decide +kernel
theorem dX10_isDay_1 : decode mX10_isDay.2.1 1 = .ok (.ifCond .lt 14, 3) := by decide +kernel
theorem dX10_isDay_4 : decode mX10_isDay.2.1 4 = .ok (.iload_n 0, 1) := by decide +kernel
theorem dX10_isDay_5 : decode mX10_isDay.2.1 5 = .ok (.sipush 9999, 3) := by decide +kernel
theorem dX10_isDay_8 : decode mX10_isDay.2.1 8 = .ok (.if_icmp .gt 7, 3) := by decide +kernel
theorem dX10_isDay_11 : decode mX10_isDay.2.1 11 = .ok (.iconst 1, 1) := by decide +kernel
theorem dX10_isDay_12 : decode mX10_isDay.2.1 12 = .ok (.goto 4, 3) := by decide +kernel
theorem dX10_isDay_15 : decode mX10_isDay.2.1 15 = .ok (.iconst 0, 1) := by decide +kernel
theorem dX10_isDay_16 : decode mX10_isDay.2.1 16 = .ok (.ireturn, 1) := by decide +kernel
theorem dX11_init_0 : decode mX11_init.2.1 0 = .ok (.aload_n 0, 1) := by decide +kernel
theorem dX11_init_1 : decode mX11_init.2.1 1 = .ok (.invokespecial 1, 3) := by decide +kernel
theorem dX11_init_4 : decode mX11_init.2.1 4 = .ok (.aload_n 0, 1) := by decide +kernel
theorem dX11_init_5 : decode mX11_init.2.1 5 = .ok (.lconst 1, 1) := by decide +kernel
theorem dX11_init_6 : decode mX11_init.2.1 6 = .ok (.putfield 7, 3) := by decide +kernel
theorem dX11_init_9 : decode mX11_init.2.1 9 = .ok (.aload_n 0, 1) := by decide +kernel
theorem dX11_init_10 : decode mX11_init.2.1 10 = .ok (.iconst 4, 1) := by decide +kernel
theorem dX11_init_11 : decode mX11_init.2.1 11 = .ok (.newarray .int, 2) := by decide +kernel
theorem dX11_init_13 : decode mX11_init.2.1 13 = .ok (.putfield 13, 3) := by decide +kernel
theorem dX11_init_16 : decode mX11_init.2.1 16 = .ok (.aload_n 0, 1) := by decide +kernel
theorem dX11_init_17 : decode mX11_init.2.1 17 = .ok (.iconst 4, 1) := by decide +kernel
theorem dX11_init_18 : decode mX11_init.2.1 18 = .ok (.newarray .int, 2) := by decide +kernel
theorem dX11_init_20 : decode mX11_init.2.1 20 = .ok (.putfield 17, 3) := by decide +kernel
theorem dX11_init_23 : decode mX11_init.2.1 23 = .ok (.aload_n 0, 1) := by decide +kernel
theorem dX11_init_24 : decode mX11_init.2.1 24 = .ok (.sipush 160, 3) := by decide +kernel
theorem dX11_init_27 : decode mX11_init.2.1 27 = .ok (.newarray .long, 2) := by decide +kernel
theorem dX11_init_29 : decode mX11_init.2.1 29 = .ok (.putfield 20, 3) := by decide +kernel
theorem dX11_init_32 : decode mX11_init.2.1 32 = .ok (.aload_n 0, 1) := by decide +kernel
theorem dX11_init_33 : decode mX11_init.2.1 33 = .ok (.iconst 2, 1) := by decide +kernel
theorem dX11_init_34 : decode mX11_init.2.1 34 = .ok (.putfield 24, 3) := by decide +kernel
theorem dX11_init_37 : decode mX11_init.2.1 37 = .ok (.aload_n 0, 1) := by decide +kernel
theorem dX11_init_38 : decode mX11_init.2.1 38 = .ok (.bipush 20, 2) := by decide +kernel
theorem dX11_init_40 : decode mX11_init.2.1 40 = .ok (.newarray .int, 2) := by decide +kernel
theorem dX11_init_42 : decode mX11_init.2.1 42 = .ok (.putfield 28, 3) := by decide +kernel
theorem dX11_init_45 : decode mX11_init.2.1 45 = .ok (.aload_n 0, 1) := by decide +kernel
theorem dX11_init_46 : decode mX11_init.2.1 46 = .ok (.bipush 20, 2) := by decide +kernel
theorem dX11_init_48 : decode mX11_init.2.1 48 = .ok (.newarray .int, 2) := by decide +kernel
theorem dX11_init_50 : decode mX11_init.2.1 50 = .ok (.putfield 31, 3) := by decide +kernel
theorem dX11_init_53 : decode mX11_init.2.1 53 = .ok (.aload_n 0, 1) := by decide +kernel
theorem dX11_init_54 : decode mX11_init.2.1 54 = .ok (.bipush 20, 2) := by decide +kernel
theorem dX11_init_56 : decode mX11_init.2.1 56 = .ok (.newarray .int, 2) := by decide +kernel
theorem dX11_init_58 : decode mX11_init.2.1 58 = .ok (.putfield 34, 3) := by decide +kernel
theorem dX11_init_61 : decode mX11_init.2.1 61 = .ok (.aload_n 0, 1) := by decide +kernel
theorem dX11_init_62 : decode mX11_init.2.1 62 = .ok (.bipush 8, 2) := by decide +kernel
theorem dX11_init_64 : decode mX11_init.2.1 64 = .ok (.newarray .int, 2) := by decide +kernel
theorem dX11_init_66 : decode mX11_init.2.1 66 = .ok (.putfield 37, 3) := by decide +kernel
theorem dX11_init_69 : decode mX11_init.2.1 69 = .ok (.aload_n 0, 1) := by decide +kernel
theorem dX11_init_70 : decode mX11_init.2.1 70 = .ok (.sipush 2400, 3) := by decide +kernel
theorem dX11_init_73 : decode mX11_init.2.1 73 = .ok (.newarray .boolean, 2) := by decide +kernel
theorem dX11_init_75 : decode mX11_init.2.1 75 = .ok (.putfield 40, 3) := by decide +kernel
theorem dX11_init_78 : decode mX11_init.2.1 78 = .ok (.aload_n 0, 1) := by decide +kernel
theorem dX11_init_79 : decode mX11_init.2.1 79 = .ok (.bipush 8, 2) := by decide +kernel
theorem dX11_init_81 : decode mX11_init.2.1 81 = .ok (.newarray .long, 2) := by decide +kernel
theorem dX11_init_83 : decode mX11_init.2.1 83 = .ok (.putfield 44, 3) := by decide +kernel
theorem dX11_init_86 : decode mX11_init.2.1 86 = .ok (.aload_n 0, 1) := by decide +kernel
theorem dX11_init_87 : decode mX11_init.2.1 87 = .ok (.sipush 500, 3) := by decide +kernel
theorem dX11_init_90 : decode mX11_init.2.1 90 = .ok (.newarray .byte, 2) := by decide +kernel
theorem dX11_init_92 : decode mX11_init.2.1 92 = .ok (.putfield 47, 3) := by decide +kernel
theorem dX11_init_95 : decode mX11_init.2.1 95 = .ok (.aload_n 0, 1) := by decide +kernel
theorem dX11_init_96 : decode mX11_init.2.1 96 = .ok (.iconst (-1), 1) := by decide +kernel
theorem dX11_init_97 : decode mX11_init.2.1 97 = .ok (.putfield 51, 3) := by decide +kernel
theorem dX11_init_100 : decode mX11_init.2.1 100 = .ok (.aload_n 0, 1) := by decide +kernel
theorem dX11_init_101 : decode mX11_init.2.1 101 = .ok (.iconst (-1), 1) := by decide +kernel
theorem dX11_init_102 : decode mX11_init.2.1 102 = .ok (.putfield 54, 3) := by decide +kernel
theorem dX11_init_105 : decode mX11_init.2.1 105 = .ok (.aload_n 0, 1) := by decide +kernel
theorem dX11_init_106 : decode mX11_init.2.1 106 = .ok (.iconst (-1), 1) := by decide +kernel
theorem dX11_init_107 : decode mX11_init.2.1 107 = .ok (.putfield 57, 3) := by decide +kernel
theorem dX11_init_110 : decode mX11_init.2.1 110 = .ok (.aload_n 0, 1) := by decide +kernel
theorem dX11_init_111 : decode mX11_init.2.1 111 = .ok (.bipush 8, 2) := by decide +kernel
theorem dX11_init_113 : decode mX11_init.2.1 113 = .ok (.newarray .int, 2) := by decide +kernel
theorem dX11_init_115 : decode mX11_init.2.1 115 = .ok (.putfield 60, 3) := by decide +kernel
theorem dX11_init_118 : decode mX11_init.2.1 118 = .ok (.aload_n 0, 1) := by decide +kernel
theorem dX11_init_119 : decode mX11_init.2.1 119 = .ok (.bipush 9, 2) := by decide +kernel
theorem dX11_init_121 : decode mX11_init.2.1 121 = .ok (.newarray .int, 2) := by decide +kernel
theorem dX11_init_123 : decode mX11_init.2.1 123 = .ok (.putfield 63, 3) := by decide +kernel
theorem dX11_init_126 : decode mX11_init.2.1 126 = .ok (.aload_n 0, 1) := by decide +kernel
theorem dX11_init_127 : decode mX11_init.2.1 127 = .ok (.bipush 8, 2) := by decide +kernel
theorem dX11_init_129 : decode mX11_init.2.1 129 = .ok (.newarray .int, 2) := by decide +kernel
theorem dX11_init_131 : decode mX11_init.2.1 131 = .ok (.putfield 66, 3) := by decide +kernel
theorem dX11_init_134 : decode mX11_init.2.1 134 = .ok (.aload_n 0, 1) := by decide +kernel
theorem dX11_init_135 : decode mX11_init.2.1 135 = .ok (.bipush 8, 2) := by decide +kernel
theorem dX11_init_137 : decode mX11_init.2.1 137 = .ok (.newarray .int, 2) := by decide +kernel
theorem dX11_init_139 : decode mX11_init.2.1 139 = .ok (.putfield 69, 3) := by decide +kernel
theorem dX11_init_142 : decode mX11_init.2.1 142 = .ok (.aload_n 0, 1) := by decide +kernel
theorem dX11_init_143 : decode mX11_init.2.1 143 = .ok (.bipush 9, 2) := by decide +kernel
theorem dX11_init_145 : decode mX11_init.2.1 145 = .ok (.newarray .int, 2) := by decide +kernel
theorem dX11_init_147 : decode mX11_init.2.1 147 = .ok (.putfield 72, 3) := by decide +kernel
theorem dX11_init_150 : decode mX11_init.2.1 150 = .ok (.aload_n 0, 1) := by decide +kernel
theorem dX11_init_151 : decode mX11_init.2.1 151 = .ok (.bipush 60, 2) := by decide +kernel
theorem dX11_init_153 : decode mX11_init.2.1 153 = .ok (.newarray .int, 2) := by decide +kernel
theorem dX11_init_155 : decode mX11_init.2.1 155 = .ok (.putfield 75, 3) := by decide +kernel
theorem dX11_init_158 : decode mX11_init.2.1 158 = .ok (.aload_n 0, 1) := by decide +kernel
theorem dX11_init_159 : decode mX11_init.2.1 159 = .ok (.bipush 60, 2) := by decide +kernel
theorem dX11_init_161 : decode mX11_init.2.1 161 = .ok (.newarray .int, 2) := by decide +kernel
theorem dX11_init_163 : decode mX11_init.2.1 163 = .ok (.putfield 78, 3) := by decide +kernel
theorem dX11_init_166 : decode mX11_init.2.1 166 = .ok (.aload_n 0, 1) := by decide +kernel
theorem dX11_init_167 : decode mX11_init.2.1 167 = .ok (.bipush 60, 2) := by decide +kernel
theorem dX11_init_169 : decode mX11_init.2.1 169 = .ok (.newarray .int, 2) := by decide +kernel
theorem dX11_init_171 : decode mX11_init.2.1 171 = .ok (.putfield 81, 3) := by decide +kernel
theorem dX11_init_174 : decode mX11_init.2.1 174 = .ok (.aload_n 0, 1) := by decide +kernel
theorem dX11_init_175 : decode mX11_init.2.1 175 = .ok (.bipush 60, 2) := by decide +kernel
theorem dX11_init_177 : decode mX11_init.2.1 177 = .ok (.newarray .int, 2) := by decide +kernel
theorem dX11_init_179 : decode mX11_init.2.1 179 = .ok (.putfield 84, 3) := by decide +kernel
theorem dX11_init_182 : decode mX11_init.2.1 182 = .ok (.aload_n 0, 1) := by decide +kernel
theorem dX11_init_183 : decode mX11_init.2.1 183 = .ok (.bipush 60, 2) := by decide +kernel
theorem dX11_init_185 : decode mX11_init.2.1 185 = .ok (.newarray .int, 2) := by decide +kernel
theorem dX11_init_187 : decode mX11_init.2.1 187 = .ok (.putfield 87, 3) := by decide +kernel
theorem dX11_init_190 : decode mX11_init.2.1 190 = .ok (.aload_n 0, 1) := by decide +kernel
theorem dX11_init_191 : decode mX11_init.2.1 191 = .ok (.bipush 60, 2) := by decide +kernel
theorem dX11_init_193 : decode mX11_init.2.1 193 = .ok (.newarray .int, 2) := by decide +kernel
theorem dX11_init_195 : decode mX11_init.2.1 195 = .ok (.putfield 90, 3) := by decide +kernel
theorem dX11_init_198 : decode mX11_init.2.1 198 = .ok (.aload_n 0, 1) := by decide +kernel
theorem dX11_init_199 : decode mX11_init.2.1 199 = .ok (.bipush 60, 2) := by decide +kernel
theorem dX11_init_201 : decode mX11_init.2.1 201 = .ok (.newarray .int, 2) := by decide +kernel
theorem dX11_init_203 : decode mX11_init.2.1 203 = .ok (.putfield 93, 3) := by decide +kernel
theorem dX11_init_206 : decode mX11_init.2.1 206 = .ok (.aload_n 0, 1) := by decide +kernel
theorem dX11_init_207 : decode mX11_init.2.1 207 = .ok (.bipush 60, 2) := by decide +kernel
theorem dX11_init_209 : decode mX11_init.2.1 209 = .ok (.newarray .int, 2) := by decide +kernel
theorem dX11_init_211 : decode mX11_init.2.1 211 = .ok (.putfield 96, 3) := by decide +kernel
theorem dX11_init_214 : decode mX11_init.2.1 214 = .ok (.aload_n 0, 1) := by decide +kernel
theorem dX11_init_215 : decode mX11_init.2.1 215 = .ok (.bipush 60, 2) := by decide +kernel
theorem dX11_init_217 : decode mX11_init.2.1 217 = .ok (.newarray .int, 2) := by decide +kernel
theorem dX11_init_219 : decode mX11_init.2.1 219 = .ok (.putfield 99, 3) := by decide +kernel
theorem dX11_init_222 : decode mX11_init.2.1 222 = .ok (.aload_n 0, 1) := by decide +kernel
theorem dX11_init_223 : decode mX11_init.2.1 223 = .ok (.bipush 60, 2) := by decide +kernel
theorem dX11_init_225 : decode mX11_init.2.1 225 = .ok (.newarray .int, 2) := by decide +kernel
theorem dX11_init_227 : decode mX11_init.2.1 227 = .ok (.putfield 102, 3) := by decide +kernel
theorem dX11_init_230 : decode mX11_init.2.1 230 = .ok (.aload_n 0, 1) := by decide +kernel
theorem dX11_init_231 : decode mX11_init.2.1 231 = .ok (.bipush 60, 2) := by decide +kernel
theorem dX11_init_233 : decode mX11_init.2.1 233 = .ok (.newarray .int, 2) := by decide +kernel
theorem dX11_init_235 : decode mX11_init.2.1 235 = .ok (.putfield 105, 3) := by decide +kernel
theorem dX11_init_238 : decode mX11_init.2.1 238 = .ok (.aload_n 0, 1) := by decide +kernel
theorem dX11_init_239 : decode mX11_init.2.1 239 = .ok (.bipush 60, 2) := by decide +kernel
theorem dX11_init_241 : decode mX11_init.2.1 241 = .ok (.newarray .int, 2) := by decide +kernel
theorem dX11_init_243 : decode mX11_init.2.1 243 = .ok (.putfield 108, 3) := by decide +kernel
theorem dX11_init_246 : decode mX11_init.2.1 246 = .ok (.aload_n 0, 1) := by decide +kernel
theorem dX11_init_247 : decode mX11_init.2.1 247 = .ok (.iconst (-1), 1) := by decide +kernel
theorem dX11_init_248 : decode mX11_init.2.1 248 = .ok (.putfield 111, 3) := by decide +kernel
theorem dX11_init_251 : decode mX11_init.2.1 251 = .ok (.aload_n 0, 1) := by decide +kernel
theorem dX11_init_252 : decode mX11_init.2.1 252 = .ok (.iconst (-1), 1) := by decide +kernel
theorem dX11_init_253 : decode mX11_init.2.1 253 = .ok (.putfield 114, 3) := by decide +kernel
theorem dX11_init_256 : decode mX11_init.2.1 256 = .ok (.aload_n 0, 1) := by decide +kernel
theorem dX11_init_257 : decode mX11_init.2.1 257 = .ok (.iconst (-1), 1) := by decide +kernel
theorem dX11_init_258 : decode mX11_init.2.1 258 = .ok (.putfield 117, 3) := by decide +kernel
theorem dX11_init_261 : decode mX11_init.2.1 261 = .ok (.aload_n 0, 1) := by decide +kernel
theorem dX11_init_262 : decode mX11_init.2.1 262 = .ok (.sipush 3020, 3) := by decide +kernel
theorem dX11_init_265 : decode mX11_init.2.1 265 = .ok (.newarray .int, 2) := by decide +kernel
theorem dX11_init_267 : decode mX11_init.2.1 267 = .ok (.putfield 120, 3) := by decide +kernel
theorem dX11_init_270 : decode mX11_init.2.1 270 = .ok (.aload_n 0, 1) := by decide +kernel
theorem dX11_init_271 : decode mX11_init.2.1 271 = .ok (.sipush 3020, 3) := by decide +kernel
theorem dX11_init_274 : decode mX11_init.2.1 274 = .ok (.newarray .int, 2) := by decide +kernel
theorem dX11_init_276 : decode mX11_init.2.1 276 = .ok (.putfield 123, 3) := by decide +kernel
theorem dX11_init_279 : decode mX11_init.2.1 279 = .ok (.aload_n 0, 1) := by decide +kernel
theorem dX11_init_280 : decode mX11_init.2.1 280 = .ok (.sipush 3020, 3) := by decide +kernel
theorem dX11_init_283 : decode mX11_init.2.1 283 = .ok (.newarray .int, 2) := by decide +kernel
theorem dX11_init_285 : decode mX11_init.2.1 285 = .ok (.putfield 126, 3) := by decide +kernel
theorem dX11_init_288 : decode mX11_init.2.1 288 = .ok (.aload_n 0, 1) := by decide +kernel
theorem dX11_init_289 : decode mX11_init.2.1 289 = .ok (.sipush 3020, 3) := by decide +kernel
theorem dX11_init_292 : decode mX11_init.2.1 292 = .ok (.newarray .int, 2) := by decide +kernel
theorem dX11_init_294 : decode mX11_init.2.1 294 = .ok (.putfield 129, 3) := by decide +kernel
theorem dX11_init_297 : decode mX11_init.2.1 297 = .ok (.aload_n 0, 1) := by decide +kernel
theorem dX11_init_298 : decode mX11_init.2.1 298 = .ok (.sipush 3020, 3) := by decide +kernel
theorem dX11_init_301 : decode mX11_init.2.1 301 = .ok (.newarray .int, 2) := by decide +kernel
theorem dX11_init_303 : decode mX11_init.2.1 303 = .ok (.putfield 132, 3) := by decide +kernel
theorem dX11_init_306 : decode mX11_init.2.1 306 = .ok (.aload_n 0, 1) := by decide +kernel
theorem dX11_init_307 : decode mX11_init.2.1 307 = .ok (.sipush 3020, 3) := by decide +kernel
theorem dX11_init_310 : decode mX11_init.2.1 310 = .ok (.newarray .int, 2) := by decide +kernel
theorem dX11_init_312 : decode mX11_init.2.1 312 = .ok (.putfield 135, 3) := by decide +kernel
theorem dX11_init_315 : decode mX11_init.2.1 315 = .ok (.aload_n 0, 1) := by decide +kernel
theorem dX11_init_316 : decode mX11_init.2.1 316 = .ok (.bipush 20, 2) := by decide +kernel
theorem dX11_init_318 : decode mX11_init.2.1 318 = .ok (.newarray .int, 2) := by decide +kernel
theorem dX11_init_320 : decode mX11_init.2.1 320 = .ok (.putfield 138, 3) := by decide +kernel
theorem dX11_init_323 : decode mX11_init.2.1 323 = .ok (.aload_n 0, 1) := by decide +kernel
theorem dX11_init_324 : decode mX11_init.2.1 324 = .ok (.bipush 20, 2) := by decide +kernel
theorem dX11_init_326 : decode mX11_init.2.1 326 = .ok (.newarray .int, 2) := by decide +kernel
theorem dX11_init_328 : decode mX11_init.2.1 328 = .ok (.putfield 141, 3) := by decide +kernel
theorem dX11_init_331 : decode mX11_init.2.1 331 = .ok (.aload_n 0, 1) := by decide +kernel
theorem dX11_init_332 : decode mX11_init.2.1 332 = .ok (.bipush 20, 2) := by decide +kernel
theorem dX11_init_334 : decode mX11_init.2.1 334 = .ok (.newarray .int, 2) := by decide +kernel
theorem dX11_init_336 : decode mX11_init.2.1 336 = .ok (.putfield 144, 3) := by decide +kernel
theorem dX11_init_339 : decode mX11_init.2.1 339 = .ok (.aload_n 0, 1) := by decide +kernel
theorem dX11_init_340 : decode mX11_init.2.1 340 = .ok (.bipush 6, 2) := by decide +kernel
theorem dX11_init_342 : decode mX11_init.2.1 342 = .ok (.newarray .int, 2) := by decide +kernel
theorem dX11_init_344 : decode mX11_init.2.1 344 = .ok (.putfield 147, 3) := by decide +kernel
theorem dX11_init_347 : decode mX11_init.2.1 347 = .ok (.aload_n 0, 1) := by decide +kernel
theorem dX11_init_348 : decode mX11_init.2.1 348 = .ok (.bipush 6, 2) := by decide +kernel
theorem dX11_init_350 : decode mX11_init.2.1 350 = .ok (.newarray .int, 2) := by decide +kernel
theorem dX11_init_352 : decode mX11_init.2.1 352 = .ok (.putfield 150, 3) := by decide +kernel
theorem dX11_init_355 : decode mX11_init.2.1 355 = .ok (.aload_n 0, 1) := by decide +kernel
theorem dX11_init_356 : decode mX11_init.2.1 356 = .ok (.bipush 6, 2) := by decide +kernel
theorem dX11_init_358 : decode mX11_init.2.1 358 = .ok (.newarray .int, 2) := by decide +kernel
theorem dX11_init_360 : decode mX11_init.2.1 360 = .ok (.putfield 153, 3) := by decide +kernel
theorem dX11_init_363 : decode mX11_init.2.1 363 = .ok (.aload_n 0, 1) := by decide +kernel
theorem dX11_init_364 : decode mX11_init.2.1 364 = .ok (.bipush 6, 2) := by decide +kernel
theorem dX11_init_366 : decode mX11_init.2.1 366 = .ok (.newarray .int, 2) := by decide +kernel
theorem dX11_init_368 : decode mX11_init.2.1 368 = .ok (.putfield 156, 3) := by decide +kernel
theorem dX11_init_371 : decode mX11_init.2.1 371 = .ok (.aload_n 0, 1) := by decide +kernel
theorem dX11_init_372 : decode mX11_init.2.1 372 = .ok (.bipush 6, 2) := by decide +kernel
theorem dX11_init_374 : decode mX11_init.2.1 374 = .ok (.newarray .int, 2) := by decide +kernel
theorem dX11_init_376 : decode mX11_init.2.1 376 = .ok (.putfield 159, 3) := by decide +kernel
theorem dX11_init_379 : decode mX11_init.2.1 379 = .ok (.aload_n 0, 1) := by decide +kernel
theorem dX11_init_380 : decode mX11_init.2.1 380 = .ok (.sipush 19200, 3) := by decide +kernel
theorem dX11_init_383 : decode mX11_init.2.1 383 = .ok (.newarray .int, 2) := by decide +kernel
theorem dX11_init_385 : decode mX11_init.2.1 385 = .ok (.putfield 162, 3) := by decide +kernel
theorem dX11_init_388 : decode mX11_init.2.1 388 = .ok (.aload_n 0, 1) := by decide +kernel
theorem dX11_init_389 : decode mX11_init.2.1 389 = .ok (.sipush 19200, 3) := by decide +kernel
theorem dX11_init_392 : decode mX11_init.2.1 392 = .ok (.newarray .int, 2) := by decide +kernel
theorem dX11_init_394 : decode mX11_init.2.1 394 = .ok (.putfield 165, 3) := by decide +kernel
theorem dX11_init_397 : decode mX11_init.2.1 397 = .ok (.aload_n 0, 1) := by decide +kernel
theorem dX11_init_398 : decode mX11_init.2.1 398 = .ok (.sipush 19200, 3) := by decide +kernel
theorem dX11_init_401 : decode mX11_init.2.1 401 = .ok (.newarray .int, 2) := by decide +kernel
theorem dX11_init_403 : decode mX11_init.2.1 403 = .ok (.putfield 168, 3) := by decide +kernel
theorem dX11_init_406 : decode mX11_init.2.1 406 = .ok (.aload_n 0, 1) := by decide +kernel
theorem dX11_init_407 : decode mX11_init.2.1 407 = .ok (.sipush 2500, 3) := by decide +kernel
theorem dX11_init_410 : decode mX11_init.2.1 410 = .ok (.newarray .int, 2) := by decide +kernel
theorem dX11_init_412 : decode mX11_init.2.1 412 = .ok (.putfield 171, 3) := by decide +kernel
theorem dX11_init_415 : decode mX11_init.2.1 415 = .ok (.aload_n 0, 1) := by decide +kernel
theorem dX11_init_416 : decode mX11_init.2.1 416 = .ok (.iconst (-1), 1) := by decide +kernel
theorem dX11_init_417 : decode mX11_init.2.1 417 = .ok (.putfield 174, 3) := by decide +kernel
theorem dX11_init_420 : decode mX11_init.2.1 420 = .ok (.aload_n 0, 1) := by decide +kernel
theorem dX11_init_421 : decode mX11_init.2.1 421 = .ok (.bipush 16, 2) := by decide +kernel
theorem dX11_init_423 : decode mX11_init.2.1 423 = .ok (.newarray .int, 2) := by decide +kernel
theorem dX11_init_425 : decode mX11_init.2.1 425 = .ok (.putfield 177, 3) := by decide +kernel
theorem dX11_init_428 : decode mX11_init.2.1 428 = .ok (.aload_n 0, 1) := by decide +kernel
theorem dX11_init_429 : decode mX11_init.2.1 429 = .ok (.bipush 60, 2) := by decide +kernel
theorem dX11_init_431 : decode mX11_init.2.1 431 = .ok (.newarray .int, 2) := by decide +kernel
theorem dX11_init_433 : decode mX11_init.2.1 433 = .ok (.putfield 180, 3) := by decide +kernel
theorem dX11_init_436 : decode mX11_init.2.1 436 = .ok (.aload_n 0, 1) := by decide +kernel
theorem dX11_init_437 : decode mX11_init.2.1 437 = .ok (.bipush 60, 2) := by decide +kernel
theorem dX11_init_439 : decode mX11_init.2.1 439 = .ok (.newarray .int, 2) := by decide +kernel
theorem dX11_init_441 : decode mX11_init.2.1 441 = .ok (.putfield 183, 3) := by decide +kernel
theorem dX11_init_444 : decode mX11_init.2.1 444 = .ok (.aload_n 0, 1) := by decide +kernel
theorem dX11_init_445 : decode mX11_init.2.1 445 = .ok (.bipush 60, 2) := by decide +kernel
theorem dX11_init_447 : decode mX11_init.2.1 447 = .ok (.newarray .int, 2) := by decide +kernel
theorem dX11_init_449 : decode mX11_init.2.1 449 = .ok (.putfield 186, 3) := by decide +kernel
theorem dX11_init_452 : decode mX11_init.2.1 452 = .ok (.aload_n 0, 1) := by decide +kernel
theorem dX11_init_453 : decode mX11_init.2.1 453 = .ok (.bipush 60, 2) := by decide +kernel
theorem dX11_init_455 : decode mX11_init.2.1 455 = .ok (.newarray .int, 2) := by decide +kernel
theorem dX11_init_457 : decode mX11_init.2.1 457 = .ok (.putfield 189, 3) := by decide +kernel
theorem dX11_init_460 : decode mX11_init.2.1 460 = .ok (.aload_n 0, 1) := by decide +kernel
theorem dX11_init_461 : decode mX11_init.2.1 461 = .ok (.bipush 20, 2) := by decide +kernel
theorem dX11_init_463 : decode mX11_init.2.1 463 = .ok (.newarray .int, 2) := by decide +kernel
theorem dX11_init_465 : decode mX11_init.2.1 465 = .ok (.putfield 192, 3) := by decide +kernel
theorem dX11_init_468 : decode mX11_init.2.1 468 = .ok (.aload_n 0, 1) := by decide +kernel
theorem dX11_init_469 : decode mX11_init.2.1 469 = .ok (.bipush 16, 2) := by decide +kernel
theorem dX11_init_471 : decode mX11_init.2.1 471 = .ok (.newarray .int, 2) := by decide +kernel
theorem dX11_init_473 : decode mX11_init.2.1 473 = .ok (.putfield 195, 3) := by decide +kernel
theorem dX11_init_476 : decode mX11_init.2.1 476 = .ok (.aload_n 0, 1) := by decide +kernel
theorem dX11_init_477 : decode mX11_init.2.1 477 = .ok (.bipush 16, 2) := by decide +kernel
theorem dX11_init_479 : decode mX11_init.2.1 479 = .ok (.newarray .boolean, 2) := by decide +kernel
theorem dX11_init_481 : decode mX11_init.2.1 481 = .ok (.putfield 198, 3) := by decide +kernel
theorem dX11_init_484 : decode mX11_init.2.1 484 = .ok (.aload_n 0, 1) := by decide +kernel
theorem dX11_init_485 : decode mX11_init.2.1 485 = .ok (.bipush 16, 2) := by decide +kernel
theorem dX11_init_487 : decode mX11_init.2.1 487 = .ok (.newarray .boolean, 2) := by decide +kernel
theorem dX11_init_489 : decode mX11_init.2.1 489 = .ok (.putfield 201, 3) := by decide +kernel
theorem dX11_init_492 : decode mX11_init.2.1 492 = .ok (.aload_n 0, 1) := by decide +kernel
theorem dX11_init_493 : decode mX11_init.2.1 493 = .ok (.bipush 16, 2) := by decide +kernel
theorem dX11_init_495 : decode mX11_init.2.1 495 = .ok (.newarray .boolean, 2) := by decide +kernel
theorem dX11_init_497 : decode mX11_init.2.1 497 = .ok (.putfield 204, 3) := by decide +kernel
theorem dX11_init_500 : decode mX11_init.2.1 500 = .ok (.aload_n 0, 1) := by decide +kernel
theorem dX11_init_501 : decode mX11_init.2.1 501 = .ok (.sipush 162, 3) := by decide +kernel
theorem dX11_init_504 : decode mX11_init.2.1 504 = .ok (.newarray .int, 2) := by decide +kernel
theorem dX11_init_506 : decode mX11_init.2.1 506 = .ok (.putfield 207, 3) := by decide +kernel
theorem dX11_init_509 : decode mX11_init.2.1 509 = .ok (.aload_n 0, 1) := by decide +kernel
theorem dX11_init_510 : decode mX11_init.2.1 510 = .ok (.iconst 3, 1) := by decide +kernel
theorem dX11_init_511 : decode mX11_init.2.1 511 = .ok (.newarray .int, 2) := by decide +kernel
theorem dX11_init_513 : decode mX11_init.2.1 513 = .ok (.putfield 210, 3) := by decide +kernel
theorem dX11_init_516 : decode mX11_init.2.1 516 = .ok (.iconst 0, 1) := by decide +kernel
theorem dX11_init_517 : decode mX11_init.2.1 517 = .ok (.istore_n 1, 1) := by decide +kernel
theorem dX11_init_518 : decode mX11_init.2.1 518 = .ok (.iload_n 1, 1) := by decide +kernel
theorem dX11_init_519 : decode mX11_init.2.1 519 = .ok (.iconst 4, 1) := by decide +kernel
theorem dX11_init_520 : decode mX11_init.2.1 520 = .ok (.if_icmp .ge 16, 3) := by decide +kernel
theorem dX11_init_523 : decode mX11_init.2.1 523 = .ok (.aload_n 0, 1) := by decide +kernel
theorem dX11_init_524 : decode mX11_init.2.1 524 = .ok (.getfield 17, 3) := by decide +kernel
theorem dX11_init_527 : decode mX11_init.2.1 527 = .ok (.iload_n 1, 1) := by decide +kernel
theorem dX11_init_528 : decode mX11_init.2.1 528 = .ok (.iconst (-1), 1) := by decide +kernel
theorem dX11_init_529 : decode mX11_init.2.1 529 = .ok (.iastore, 1) := by decide +kernel
theorem dX11_init_530 : decode mX11_init.2.1 530 = .ok (.iinc 1 1, 3) := by decide +kernel
theorem dX11_init_533 : decode mX11_init.2.1 533 = .ok (.goto (-15), 3) := by decide +kernel
theorem dX11_init_536 : decode mX11_init.2.1 536 = .ok (.iconst 0, 1) := by decide +kernel
theorem dX11_init_537 : decode mX11_init.2.1 537 = .ok (.istore_n 1, 1) := by decide +kernel
theorem dX11_init_538 : decode mX11_init.2.1 538 = .ok (.iload_n 1, 1) := by decide +kernel
theorem dX11_init_539 : decode mX11_init.2.1 539 = .ok (.sipush 162, 3) := by decide +kernel
theorem dX11_init_542 : decode mX11_init.2.1 542 = .ok (.if_icmp .ge 16, 3) := by decide +kernel
theorem dX11_init_545 : decode mX11_init.2.1 545 = .ok (.aload_n 0, 1) := by decide +kernel
theorem dX11_init_546 : decode mX11_init.2.1 546 = .ok (.getfield 207, 3) := by decide +kernel
theorem dX11_init_549 : decode mX11_init.2.1 549 = .ok (.iload_n 1, 1) := by decide +kernel
theorem dX11_init_550 : decode mX11_init.2.1 550 = .ok (.iconst (-1), 1) := by decide +kernel
theorem dX11_init_551 : decode mX11_init.2.1 551 = .ok (.iastore, 1) := by decide +kernel
theorem dX11_init_552 : decode mX11_init.2.1 552 = .ok (.iinc 1 1, 3) := by decide +kernel
theorem dX11_init_555 : decode mX11_init.2.1 555 = .ok (.goto (-17), 3) := by decide +kernel
theorem dX11_init_558 : decode mX11_init.2.1 558 = .ok (.iconst 0, 1) := by decide +kernel
theorem dX11_init_559 : decode mX11_init.2.1 559 = .ok (.istore_n 1, 1) := by decide +kernel
theorem dX11_init_560 : decode mX11_init.2.1 560 = .ok (.iload_n 1, 1) := by decide +kernel
theorem dX11_init_561 : decode mX11_init.2.1 561 = .ok (.iconst 3, 1) := by decide +kernel
theorem dX11_init_562 : decode mX11_init.2.1 562 = .ok (.if_icmp .ge 16, 3) := by decide +kernel
theorem dX11_init_565 : decode mX11_init.2.1 565 = .ok (.aload_n 0, 1) := by decide +kernel
theorem dX11_init_566 : decode mX11_init.2.1 566 = .ok (.getfield 210, 3) := by decide +kernel
theorem dX11_init_569 : decode mX11_init.2.1 569 = .ok (.iload_n 1, 1) := by decide +kernel
theorem dX11_init_570 : decode mX11_init.2.1 570 = .ok (.iconst 1, 1) := by decide +kernel
theorem dX11_init_571 : decode mX11_init.2.1 571 = .ok (.iastore, 1) := by decide +kernel
theorem dX11_init_572 : decode mX11_init.2.1 572 = .ok (.iinc 1 1, 3) := by decide +kernel
theorem dX11_init_575 : decode mX11_init.2.1 575 = .ok (.goto (-15), 3) := by decide +kernel
theorem dX11_init_578 : decode mX11_init.2.1 578 = .ok (.return_, 1) := by decide +kernel
theorem dX11_status_0 : decode mX11_status.2.1 0 = .ok (.aload_n 0, 1) := by decide +kernel
theorem dX11_status_1 : decode mX11_status.2.1 1 = .ok (.iconst 0, 1) := by decide +kernel
theorem dX11_status_2 : decode mX11_status.2.1 2 = .ok (.putfield 213, 3) := by decide +kernel
theorem dX11_status_5 : decode mX11_status.2.1 5 = .ok (.aload_n 0, 1) := by decide +kernel
theorem dX11_status_6 : decode mX11_status.2.1 6 = .ok (.getfield 216, 3) := by decide +kernel
theorem dX11_status_9 : decode mX11_status.2.1 9 = .ok (.ireturn, 1) := by decide +kernel
theorem dX11_refuse_0 : decode mX11_refuse.2.1 0 = .ok (.aload_n 0, 1) := by decide +kernel
theorem dX11_refuse_1 : decode mX11_refuse.2.1 1 = .ok (.iload_n 1, 1) := by decide +kernel
theorem dX11_refuse_2 : decode mX11_refuse.2.1 2 = .ok (.putfield 216, 3) := by decide +kernel
theorem dX11_refuse_5 : decode mX11_refuse.2.1 5 = .ok (.iconst (-1), 1) := by decide +kernel
theorem dX11_refuse_6 : decode mX11_refuse.2.1 6 = .ok (.ireturn, 1) := by decide +kernel
theorem dX11_no_0 : decode mX11_no.2.1 0 = .ok (.aload_n 0, 1) := by decide +kernel
theorem dX11_no_1 : decode mX11_no.2.1 1 = .ok (.iload_n 1, 1) := by decide +kernel
theorem dX11_no_2 : decode mX11_no.2.1 2 = .ok (.putfield 216, 3) := by decide +kernel
theorem dX11_no_5 : decode mX11_no.2.1 5 = .ok (.iconst 0, 1) := by decide +kernel
theorem dX11_no_6 : decode mX11_no.2.1 6 = .ok (.ireturn, 1) := by decide +kernel
theorem dX11_isIn_0 : decode mX11_isIn.2.1 0 = .ok (.lload_n 0, 1) := by decide +kernel
theorem dX11_isIn_1 : decode mX11_isIn.2.1 1 = .ok (.lload_n 2, 1) := by decide +kernel
theorem dX11_isIn_2 : decode mX11_isIn.2.1 2 = .ok (.lcmp, 1) := by decide +kernel
theorem dX11_isIn_3 : decode mX11_isIn.2.1 3 = .ok (.ifCond .lt 14, 3) := by decide +kernel
theorem dX11_isIn_6 : decode mX11_isIn.2.1 6 = .ok (.lload_n 0, 1) := by decide +kernel
theorem dX11_isIn_7 : decode mX11_isIn.2.1 7 = .ok (.lload 4, 2) := by decide +kernel
theorem dX11_isIn_9 : decode mX11_isIn.2.1 9 = .ok (.lcmp, 1) := by decide +kernel
theorem dX11_isIn_10 : decode mX11_isIn.2.1 10 = .ok (.ifCond .gt 7, 3) := by decide +kernel
theorem dX11_isIn_13 : decode mX11_isIn.2.1 13 = .ok (.iconst 1, 1) := by decide +kernel
theorem dX11_isIn_14 : decode mX11_isIn.2.1 14 = .ok (.goto 4, 3) := by decide +kernel
theorem dX11_isIn_17 : decode mX11_isIn.2.1 17 = .ok (.iconst 0, 1) := by decide +kernel
theorem dX11_isIn_18 : decode mX11_isIn.2.1 18 = .ok (.ireturn, 1) := by decide +kernel
theorem dX11_isSpot_0 : decode mX11_isSpot.2.1 0 = .ok (.iload_n 0, 1) := by decide +kernel
theorem dX11_isSpot_1 : decode mX11_isSpot.2.1 1 = .ok (.i2l, 1) := by decide +kernel
theorem dX11_isSpot_2 : decode mX11_isSpot.2.1 2 = .ok (.lconst 0, 1) := by decide +kernel
theorem dX11_isSpot_3 : decode mX11_isSpot.2.1 3 = .ok (.ldc2_w 219, 3) := by decide +kernel
theorem dX11_isSpot_6 : decode mX11_isSpot.2.1 6 = .ok (.invokestatic 221, 3) := by decide +kernel
theorem dX11_isSpot_9 : decode mX11_isSpot.2.1 9 = .ok (.ifCond .eq 19, 3) := by decide +kernel
theorem dX11_isSpot_12 : decode mX11_isSpot.2.1 12 = .ok (.iload_n 1, 1) := by decide +kernel
theorem dX11_isSpot_13 : decode mX11_isSpot.2.1 13 = .ok (.i2l, 1) := by decide +kernel
theorem dX11_isSpot_14 : decode mX11_isSpot.2.1 14 = .ok (.lconst 0, 1) := by decide +kernel
theorem dX11_isSpot_15 : decode mX11_isSpot.2.1 15 = .ok (.ldc2_w 225, 3) := by decide +kernel
theorem dX11_isSpot_18 : decode mX11_isSpot.2.1 18 = .ok (.invokestatic 221, 3) := by decide +kernel
theorem dX11_isSpot_21 : decode mX11_isSpot.2.1 21 = .ok (.ifCond .eq 7, 3) := by decide +kernel
theorem dX11_isSpot_24 : decode mX11_isSpot.2.1 24 = .ok (.iconst 1, 1) := by decide +kernel
theorem dX11_isSpot_25 : decode mX11_isSpot.2.1 25 = .ok (.goto 4, 3) := by decide +kernel
theorem dX11_isSpot_28 : decode mX11_isSpot.2.1 28 = .ok (.iconst 0, 1) := by decide +kernel
theorem dX11_isSpot_29 : decode mX11_isSpot.2.1 29 = .ok (.ireturn, 1) := by decide +kernel
theorem dX11_cut_0 : decode mX11_cut.2.1 0 = .ok (.iload_n 0, 1) := by decide +kernel
theorem dX11_cut_1 : decode mX11_cut.2.1 1 = .ok (.ifCond .ne 10, 3) := by decide +kernel
theorem dX11_cut_4 : decode mX11_cut.2.1 4 = .ok (.lload_n 1, 1) := by decide +kernel
theorem dX11_cut_5 : decode mX11_cut.2.1 5 = .ok (.l2i, 1) := by decide +kernel
theorem dX11_cut_6 : decode mX11_cut.2.1 6 = .ok (.i2b, 1) := by decide +kernel
theorem dX11_cut_7 : decode mX11_cut.2.1 7 = .ok (.i2l, 1) := by decide +kernel
theorem dX11_cut_8 : decode mX11_cut.2.1 8 = .ok (.goto 27, 3) := by decide +kernel
theorem dX11_cut_11 : decode mX11_cut.2.1 11 = .ok (.iload_n 0, 1) := by decide +kernel
theorem dX11_cut_12 : decode mX11_cut.2.1 12 = .ok (.iconst 1, 1) := by decide +kernel
theorem dX11_cut_13 : decode mX11_cut.2.1 13 = .ok (.if_icmp .ne 10, 3) := by decide +kernel
theorem dX11_cut_16 : decode mX11_cut.2.1 16 = .ok (.lload_n 1, 1) := by decide +kernel
theorem dX11_cut_17 : decode mX11_cut.2.1 17 = .ok (.l2i, 1) := by decide +kernel
theorem dX11_cut_18 : decode mX11_cut.2.1 18 = .ok (.i2s, 1) := by decide +kernel
theorem dX11_cut_19 : decode mX11_cut.2.1 19 = .ok (.i2l, 1) := by decide +kernel
theorem dX11_cut_20 : decode mX11_cut.2.1 20 = .ok (.goto 15, 3) := by decide +kernel
theorem dX11_cut_23 : decode mX11_cut.2.1 23 = .ok (.iload_n 0, 1) := by decide +kernel
theorem dX11_cut_24 : decode mX11_cut.2.1 24 = .ok (.iconst 2, 1) := by decide +kernel
theorem dX11_cut_25 : decode mX11_cut.2.1 25 = .ok (.if_icmp .ne 9, 3) := by decide +kernel
theorem dX11_cut_28 : decode mX11_cut.2.1 28 = .ok (.lload_n 1, 1) := by decide +kernel
theorem dX11_cut_29 : decode mX11_cut.2.1 29 = .ok (.l2i, 1) := by decide +kernel
theorem dX11_cut_30 : decode mX11_cut.2.1 30 = .ok (.i2l, 1) := by decide +kernel
theorem dX11_cut_31 : decode mX11_cut.2.1 31 = .ok (.goto 4, 3) := by decide +kernel
theorem dX11_cut_34 : decode mX11_cut.2.1 34 = .ok (.lload_n 1, 1) := by decide +kernel
theorem dX11_cut_35 : decode mX11_cut.2.1 35 = .ok (.lreturn, 1) := by decide +kernel
theorem dX11_tray_0 : decode mX11_tray.2.1 0 = .ok (.aload_n 0, 1) := by decide +kernel
theorem dX11_tray_1 : decode mX11_tray.2.1 1 = .ok (.iconst 0, 1) := by decide +kernel
theorem dX11_tray_2 : decode mX11_tray.2.1 2 = .ok (.putfield 213, 3) := by decide +kernel
theorem dX11_tray_5 : decode mX11_tray.2.1 5 = .ok (.aload_n 0, 1) := by decide +kernel
theorem dX11_tray_6 : decode mX11_tray.2.1 6 = .ok (.iconst 0, 1) := by decide +kernel
theorem dX11_tray_7 : decode mX11_tray.2.1 7 = .ok (.putfield 216, 3) := by decide +kernel
theorem dX11_tray_10 : decode mX11_tray.2.1 10 = .ok (.iload_n 1, 1) := by decide +kernel
theorem dX11_tray_11 : decode mX11_tray.2.1 11 = .ok (.ifCond .lt 17, 3) := by decide +kernel
theorem dX11_tray_14 : decode mX11_tray.2.1 14 = .ok (.iload_n 1, 1) := by decide +kernel
theorem dX11_tray_15 : decode mX11_tray.2.1 15 = .ok (.iconst 4, 1) := by decide +kernel
theorem dX11_tray_16 : decode mX11_tray.2.1 16 = .ok (.if_icmp .ge 12, 3) := by decide +kernel
theorem dX11_tray_19 : decode mX11_tray.2.1 19 = .ok (.iload_n 2, 1) := by decide +kernel
theorem dX11_tray_20 : decode mX11_tray.2.1 20 = .ok (.ifCond .lt 8, 3) := by decide +kernel
theorem dX11_tray_23 : decode mX11_tray.2.1 23 = .ok (.iload_n 2, 1) := by decide +kernel
theorem dX11_tray_24 : decode mX11_tray.2.1 24 = .ok (.iconst 3, 1) := by decide +kernel
theorem dX11_tray_25 : decode mX11_tray.2.1 25 = .ok (.if_icmp .le 9, 3) := by decide +kernel
theorem dX11_tray_28 : decode mX11_tray.2.1 28 = .ok (.aload_n 0, 1) := by decide +kernel
theorem dX11_tray_29 : decode mX11_tray.2.1 29 = .ok (.iconst 1, 1) := by decide +kernel
theorem dX11_tray_30 : decode mX11_tray.2.1 30 = .ok (.invokevirtual 227, 3) := by decide +kernel
theorem dX11_tray_33 : decode mX11_tray.2.1 33 = .ok (.ireturn, 1) := by decide +kernel
theorem dX11_tray_34 : decode mX11_tray.2.1 34 = .ok (.iload_n 3, 1) := by decide +kernel
theorem dX11_tray_35 : decode mX11_tray.2.1 35 = .ok (.bipush 40, 2) := by decide +kernel
theorem dX11_tray_37 : decode mX11_tray.2.1 37 = .ok (.if_icmp .le 9, 3) := by decide +kernel
theorem dX11_tray_40 : decode mX11_tray.2.1 40 = .ok (.aload_n 0, 1) := by decide +kernel
theorem dX11_tray_41 : decode mX11_tray.2.1 41 = .ok (.iconst 5, 1) := by decide +kernel
theorem dX11_tray_42 : decode mX11_tray.2.1 42 = .ok (.invokevirtual 227, 3) := by decide +kernel
theorem dX11_tray_45 : decode mX11_tray.2.1 45 = .ok (.ireturn, 1) := by decide +kernel
theorem dX11_tray_46 : decode mX11_tray.2.1 46 = .ok (.iload_n 3, 1) := by decide +kernel
theorem dX11_tray_47 : decode mX11_tray.2.1 47 = .ok (.ifCond .ge 10, 3) := by decide +kernel
theorem dX11_tray_50 : decode mX11_tray.2.1 50 = .ok (.aload_n 0, 1) := by decide +kernel
theorem dX11_tray_51 : decode mX11_tray.2.1 51 = .ok (.bipush 6, 2) := by decide +kernel
theorem dX11_tray_53 : decode mX11_tray.2.1 53 = .ok (.invokevirtual 227, 3) := by decide +kernel
theorem dX11_tray_56 : decode mX11_tray.2.1 56 = .ok (.ireturn, 1) := by decide +kernel
theorem dX11_tray_57 : decode mX11_tray.2.1 57 = .ok (.aload_n 0, 1) := by decide +kernel
theorem dX11_tray_58 : decode mX11_tray.2.1 58 = .ok (.getfield 13, 3) := by decide +kernel
theorem dX11_tray_61 : decode mX11_tray.2.1 61 = .ok (.iload_n 1, 1) := by decide +kernel
theorem dX11_tray_62 : decode mX11_tray.2.1 62 = .ok (.iload_n 2, 1) := by decide +kernel
theorem dX11_tray_63 : decode mX11_tray.2.1 63 = .ok (.iastore, 1) := by decide +kernel
theorem dX11_tray_64 : decode mX11_tray.2.1 64 = .ok (.aload_n 0, 1) := by decide +kernel
theorem dX11_tray_65 : decode mX11_tray.2.1 65 = .ok (.getfield 17, 3) := by decide +kernel
theorem dX11_tray_68 : decode mX11_tray.2.1 68 = .ok (.iload_n 1, 1) := by decide +kernel
theorem dX11_tray_69 : decode mX11_tray.2.1 69 = .ok (.iload_n 3, 1) := by decide +kernel
theorem dX11_tray_70 : decode mX11_tray.2.1 70 = .ok (.iastore, 1) := by decide +kernel
theorem dX11_tray_71 : decode mX11_tray.2.1 71 = .ok (.iconst 0, 1) := by decide +kernel
theorem dX11_tray_72 : decode mX11_tray.2.1 72 = .ok (.istore 4, 2) := by decide +kernel
theorem dX11_tray_74 : decode mX11_tray.2.1 74 = .ok (.iload 4, 2) := by decide +kernel
theorem dX11_tray_76 : decode mX11_tray.2.1 76 = .ok (.iload_n 3, 1) := by decide +kernel
theorem dX11_tray_77 : decode mX11_tray.2.1 77 = .ok (.if_icmp .ge 22, 3) := by decide +kernel
theorem dX11_tray_80 : decode mX11_tray.2.1 80 = .ok (.aload_n 0, 1) := by decide +kernel
theorem dX11_tray_81 : decode mX11_tray.2.1 81 = .ok (.getfield 20, 3) := by decide +kernel
theorem dX11_tray_84 : decode mX11_tray.2.1 84 = .ok (.bipush 40, 2) := by decide +kernel
theorem dX11_tray_86 : decode mX11_tray.2.1 86 = .ok (.iload_n 1, 1) := by decide +kernel
theorem dX11_tray_87 : decode mX11_tray.2.1 87 = .ok (.imul, 1) := by decide +kernel
theorem dX11_tray_88 : decode mX11_tray.2.1 88 = .ok (.iload 4, 2) := by decide +kernel
theorem dX11_tray_90 : decode mX11_tray.2.1 90 = .ok (.iadd, 1) := by decide +kernel
theorem dX11_tray_91 : decode mX11_tray.2.1 91 = .ok (.lconst 0, 1) := by decide +kernel
theorem dX11_tray_92 : decode mX11_tray.2.1 92 = .ok (.lastore, 1) := by decide +kernel
theorem dX11_tray_93 : decode mX11_tray.2.1 93 = .ok (.iinc 4 1, 3) := by decide +kernel
theorem dX11_tray_96 : decode mX11_tray.2.1 96 = .ok (.goto (-22), 3) := by decide +kernel
theorem dX11_tray_99 : decode mX11_tray.2.1 99 = .ok (.iconst 1, 1) := by decide +kernel
theorem dX11_tray_100 : decode mX11_tray.2.1 100 = .ok (.ireturn, 1) := by decide +kernel
theorem dX11_trayed_0 : decode mX11_trayed.2.1 0 = .ok (.iload_n 1, 1) := by decide +kernel
theorem dX11_trayed_1 : decode mX11_trayed.2.1 1 = .ok (.ifCond .lt 8, 3) := by decide +kernel
theorem dX11_trayed_4 : decode mX11_trayed.2.1 4 = .ok (.iload_n 1, 1) := by decide +kernel
theorem dX11_trayed_5 : decode mX11_trayed.2.1 5 = .ok (.iconst 4, 1) := by decide +kernel
theorem dX11_trayed_6 : decode mX11_trayed.2.1 6 = .ok (.if_icmp .lt 7, 3) := by decide +kernel
theorem dX11_trayed_9 : decode mX11_trayed.2.1 9 = .ok (.iconst 1, 1) := by decide +kernel
theorem dX11_trayed_10 : decode mX11_trayed.2.1 10 = .ok (.goto 17, 3) := by decide +kernel
theorem dX11_trayed_13 : decode mX11_trayed.2.1 13 = .ok (.aload_n 0, 1) := by decide +kernel
theorem dX11_trayed_14 : decode mX11_trayed.2.1 14 = .ok (.getfield 17, 3) := by decide +kernel
theorem dX11_trayed_17 : decode mX11_trayed.2.1 17 = .ok (.iload_n 1, 1) := by decide +kernel
theorem dX11_trayed_18 : decode mX11_trayed.2.1 18 = .ok (.iaload, 1) := by decide +kernel
theorem dX11_trayed_19 : decode mX11_trayed.2.1 19 = .ok (.ifCond .ge 7, 3) := by decide +kernel
theorem dX11_trayed_22 : decode mX11_trayed.2.1 22 = .ok (.iconst 3, 1) := by decide +kernel
theorem dX11_trayed_23 : decode mX11_trayed.2.1 23 = .ok (.goto 4, 3) := by decide +kernel
theorem dX11_trayed_26 : decode mX11_trayed.2.1 26 = .ok (.iconst 0, 1) := by decide +kernel
theorem dX11_trayed_27 : decode mX11_trayed.2.1 27 = .ok (.ireturn, 1) := by decide +kernel
theorem dX11_placed_0 : decode mX11_placed.2.1 0 = .ok (.aload_n 0, 1) := by decide +kernel
theorem dX11_placed_1 : decode mX11_placed.2.1 1 = .ok (.iload_n 1, 1) := by decide +kernel
theorem dX11_placed_2 : decode mX11_placed.2.1 2 = .ok (.invokevirtual 231, 3) := by decide +kernel
theorem dX11_placed_5 : decode mX11_placed.2.1 5 = .ok (.istore_n 3, 1) := by decide +kernel
theorem dX11_placed_6 : decode mX11_placed.2.1 6 = .ok (.iload_n 3, 1) := by decide +kernel
theorem dX11_placed_7 : decode mX11_placed.2.1 7 = .ok (.ifCond .le 7, 3) := by decide +kernel
theorem dX11_placed_10 : decode mX11_placed.2.1 10 = .ok (.iload_n 3, 1) := by decide +kernel
theorem dX11_placed_11 : decode mX11_placed.2.1 11 = .ok (.goto 22, 3) := by decide +kernel
theorem dX11_placed_14 : decode mX11_placed.2.1 14 = .ok (.iload_n 2, 1) := by decide +kernel
theorem dX11_placed_15 : decode mX11_placed.2.1 15 = .ok (.ifCond .lt 13, 3) := by decide +kernel
theorem dX11_placed_18 : decode mX11_placed.2.1 18 = .ok (.iload_n 2, 1) := by decide +kernel
theorem dX11_placed_19 : decode mX11_placed.2.1 19 = .ok (.aload_n 0, 1) := by decide +kernel
theorem dX11_placed_20 : decode mX11_placed.2.1 20 = .ok (.getfield 17, 3) := by decide +kernel
theorem dX11_placed_23 : decode mX11_placed.2.1 23 = .ok (.iload_n 1, 1) := by decide +kernel
theorem dX11_placed_24 : decode mX11_placed.2.1 24 = .ok (.iaload, 1) := by decide +kernel
theorem dX11_placed_25 : decode mX11_placed.2.1 25 = .ok (.if_icmp .lt 7, 3) := by decide +kernel
theorem dX11_placed_28 : decode mX11_placed.2.1 28 = .ok (.iconst 4, 1) := by decide +kernel
theorem dX11_placed_29 : decode mX11_placed.2.1 29 = .ok (.goto 4, 3) := by decide +kernel
theorem dX11_placed_32 : decode mX11_placed.2.1 32 = .ok (.iconst 0, 1) := by decide +kernel
theorem dX11_placed_33 : decode mX11_placed.2.1 33 = .ok (.ireturn, 1) := by decide +kernel
theorem dX11_write_0 : decode mX11_write.2.1 0 = .ok (.aload_n 0, 1) := by decide +kernel
theorem dX11_write_1 : decode mX11_write.2.1 1 = .ok (.iconst 0, 1) := by decide +kernel
theorem dX11_write_2 : decode mX11_write.2.1 2 = .ok (.putfield 213, 3) := by decide +kernel
theorem dX11_write_5 : decode mX11_write.2.1 5 = .ok (.aload_n 0, 1) := by decide +kernel
theorem dX11_write_6 : decode mX11_write.2.1 6 = .ok (.aload_n 0, 1) := by decide +kernel
theorem dX11_write_7 : decode mX11_write.2.1 7 = .ok (.iload_n 1, 1) := by decide +kernel
theorem dX11_write_8 : decode mX11_write.2.1 8 = .ok (.iload_n 2, 1) := by decide +kernel
theorem dX11_write_9 : decode mX11_write.2.1 9 = .ok (.invokevirtual 235, 3) := by decide +kernel
theorem dX11_write_12 : decode mX11_write.2.1 12 = .ok (.putfield 216, 3) := by decide +kernel
theorem dX11_write_15 : decode mX11_write.2.1 15 = .ok (.aload_n 0, 1) := by decide +kernel
theorem dX11_write_16 : decode mX11_write.2.1 16 = .ok (.getfield 216, 3) := by decide +kernel
theorem dX11_write_19 : decode mX11_write.2.1 19 = .ok (.ifCond .le 5, 3) := by decide +kernel
theorem dX11_write_22 : decode mX11_write.2.1 22 = .ok (.iconst 0, 1) := by decide +kernel
theorem dX11_write_23 : decode mX11_write.2.1 23 = .ok (.ireturn, 1) := by decide +kernel
theorem dX11_write_24 : decode mX11_write.2.1 24 = .ok (.aload_n 0, 1) := by decide +kernel
theorem dX11_write_25 : decode mX11_write.2.1 25 = .ok (.getfield 20, 3) := by decide +kernel
theorem dX11_write_28 : decode mX11_write.2.1 28 = .ok (.bipush 40, 2) := by decide +kernel
theorem dX11_write_30 : decode mX11_write.2.1 30 = .ok (.iload_n 1, 1) := by decide +kernel
theorem dX11_write_31 : decode mX11_write.2.1 31 = .ok (.imul, 1) := by decide +kernel
theorem dX11_write_32 : decode mX11_write.2.1 32 = .ok (.iload_n 2, 1) := by decide +kernel
theorem dX11_write_33 : decode mX11_write.2.1 33 = .ok (.iadd, 1) := by decide +kernel
theorem dX11_write_34 : decode mX11_write.2.1 34 = .ok (.aload_n 0, 1) := by decide +kernel
theorem dX11_write_35 : decode mX11_write.2.1 35 = .ok (.getfield 13, 3) := by decide +kernel
theorem dX11_write_38 : decode mX11_write.2.1 38 = .ok (.iload_n 1, 1) := by decide +kernel
theorem dX11_write_39 : decode mX11_write.2.1 39 = .ok (.iaload, 1) := by decide +kernel
theorem dX11_write_40 : decode mX11_write.2.1 40 = .ok (.lload_n 3, 1) := by decide +kernel
theorem dX11_write_41 : decode mX11_write.2.1 41 = .ok (.invokestatic 239, 3) := by decide +kernel
theorem dX11_write_44 : decode mX11_write.2.1 44 = .ok (.lastore, 1) := by decide +kernel
theorem dX11_write_45 : decode mX11_write.2.1 45 = .ok (.iconst 1, 1) := by decide +kernel
theorem dX11_write_46 : decode mX11_write.2.1 46 = .ok (.ireturn, 1) := by decide +kernel
theorem dX11_read_0 : decode mX11_read.2.1 0 = .ok (.aload_n 0, 1) := by decide +kernel
theorem dX11_read_1 : decode mX11_read.2.1 1 = .ok (.iconst 0, 1) := by decide +kernel
theorem dX11_read_2 : decode mX11_read.2.1 2 = .ok (.putfield 213, 3) := by decide +kernel
theorem dX11_read_5 : decode mX11_read.2.1 5 = .ok (.aload_n 0, 1) := by decide +kernel
theorem dX11_read_6 : decode mX11_read.2.1 6 = .ok (.aload_n 0, 1) := by decide +kernel
theorem dX11_read_7 : decode mX11_read.2.1 7 = .ok (.iload_n 1, 1) := by decide +kernel
theorem dX11_read_8 : decode mX11_read.2.1 8 = .ok (.iload_n 2, 1) := by decide +kernel
theorem dX11_read_9 : decode mX11_read.2.1 9 = .ok (.invokevirtual 235, 3) := by decide +kernel
theorem dX11_read_12 : decode mX11_read.2.1 12 = .ok (.putfield 216, 3) := by decide +kernel
theorem dX11_read_15 : decode mX11_read.2.1 15 = .ok (.aload_n 0, 1) := by decide +kernel
theorem dX11_read_16 : decode mX11_read.2.1 16 = .ok (.getfield 216, 3) := by decide +kernel
theorem dX11_read_19 : decode mX11_read.2.1 19 = .ok (.ifCond .le 9, 3) := by decide +kernel
theorem dX11_read_22 : decode mX11_read.2.1 22 = .ok (.ldc2_w 243, 3) := by decide +kernel
theorem dX11_read_25 : decode mX11_read.2.1 25 = .ok (.goto 14, 3) := by decide +kernel
theorem dX11_read_28 : decode mX11_read.2.1 28 = .ok (.aload_n 0, 1) := by decide +kernel
theorem dX11_read_29 : decode mX11_read.2.1 29 = .ok (.getfield 20, 3) := by decide +kernel
theorem dX11_read_32 : decode mX11_read.2.1 32 = .ok (.bipush 40, 2) := by decide +kernel
theorem dX11_read_34 : decode mX11_read.2.1 34 = .ok (.iload_n 1, 1) := by decide +kernel
theorem dX11_read_35 : decode mX11_read.2.1 35 = .ok (.imul, 1) := by decide +kernel
theorem dX11_read_36 : decode mX11_read.2.1 36 = .ok (.iload_n 2, 1) := by decide +kernel
theorem dX11_read_37 : decode mX11_read.2.1 37 = .ok (.iadd, 1) := by decide +kernel
theorem dX11_read_38 : decode mX11_read.2.1 38 = .ok (.laload, 1) := by decide +kernel
theorem dX11_read_39 : decode mX11_read.2.1 39 = .ok (.lreturn, 1) := by decide +kernel
theorem dX11_pour_0 : decode mX11_pour.2.1 0 = .ok (.aload_n 0, 1) := by decide +kernel
theorem dX11_pour_1 : decode mX11_pour.2.1 1 = .ok (.iconst 0, 1) := by decide +kernel
theorem dX11_pour_2 : decode mX11_pour.2.1 2 = .ok (.putfield 213, 3) := by decide +kernel
theorem dX11_pour_5 : decode mX11_pour.2.1 5 = .ok (.aload_n 0, 1) := by decide +kernel
theorem dX11_pour_6 : decode mX11_pour.2.1 6 = .ok (.iconst 0, 1) := by decide +kernel
theorem dX11_pour_7 : decode mX11_pour.2.1 7 = .ok (.putfield 216, 3) := by decide +kernel
theorem dX11_pour_10 : decode mX11_pour.2.1 10 = .ok (.iload_n 1, 1) := by decide +kernel
theorem dX11_pour_11 : decode mX11_pour.2.1 11 = .ok (.ifCond .lt 17, 3) := by decide +kernel
theorem dX11_pour_14 : decode mX11_pour.2.1 14 = .ok (.iload_n 1, 1) := by decide +kernel
theorem dX11_pour_15 : decode mX11_pour.2.1 15 = .ok (.iconst 4, 1) := by decide +kernel
theorem dX11_pour_16 : decode mX11_pour.2.1 16 = .ok (.if_icmp .ge 12, 3) := by decide +kernel
theorem dX11_pour_19 : decode mX11_pour.2.1 19 = .ok (.iload_n 3, 1) := by decide +kernel
theorem dX11_pour_20 : decode mX11_pour.2.1 20 = .ok (.ifCond .lt 8, 3) := by decide +kernel
theorem dX11_pour_23 : decode mX11_pour.2.1 23 = .ok (.iload_n 3, 1) := by decide +kernel
theorem dX11_pour_24 : decode mX11_pour.2.1 24 = .ok (.iconst 4, 1) := by decide +kernel
theorem dX11_pour_25 : decode mX11_pour.2.1 25 = .ok (.if_icmp .lt 9, 3) := by decide +kernel
theorem dX11_pour_28 : decode mX11_pour.2.1 28 = .ok (.aload_n 0, 1) := by decide +kernel
theorem dX11_pour_29 : decode mX11_pour.2.1 29 = .ok (.iconst 1, 1) := by decide +kernel
theorem dX11_pour_30 : decode mX11_pour.2.1 30 = .ok (.invokevirtual 227, 3) := by decide +kernel
theorem dX11_pour_33 : decode mX11_pour.2.1 33 = .ok (.ireturn, 1) := by decide +kernel
theorem dX11_pour_34 : decode mX11_pour.2.1 34 = .ok (.aload_n 0, 1) := by decide +kernel
theorem dX11_pour_35 : decode mX11_pour.2.1 35 = .ok (.getfield 17, 3) := by decide +kernel
theorem dX11_pour_38 : decode mX11_pour.2.1 38 = .ok (.iload_n 1, 1) := by decide +kernel
theorem dX11_pour_39 : decode mX11_pour.2.1 39 = .ok (.iaload, 1) := by decide +kernel
theorem dX11_pour_40 : decode mX11_pour.2.1 40 = .ok (.ifCond .lt 12, 3) := by decide +kernel
theorem dX11_pour_43 : decode mX11_pour.2.1 43 = .ok (.aload_n 0, 1) := by decide +kernel
theorem dX11_pour_44 : decode mX11_pour.2.1 44 = .ok (.getfield 17, 3) := by decide +kernel
theorem dX11_pour_47 : decode mX11_pour.2.1 47 = .ok (.iload_n 3, 1) := by decide +kernel
theorem dX11_pour_48 : decode mX11_pour.2.1 48 = .ok (.iaload, 1) := by decide +kernel
theorem dX11_pour_49 : decode mX11_pour.2.1 49 = .ok (.ifCond .ge 9, 3) := by decide +kernel
theorem dX11_pour_52 : decode mX11_pour.2.1 52 = .ok (.aload_n 0, 1) := by decide +kernel
theorem dX11_pour_53 : decode mX11_pour.2.1 53 = .ok (.iconst 3, 1) := by decide +kernel
theorem dX11_pour_54 : decode mX11_pour.2.1 54 = .ok (.invokevirtual 227, 3) := by decide +kernel
theorem dX11_pour_57 : decode mX11_pour.2.1 57 = .ok (.ireturn, 1) := by decide +kernel
theorem dX11_pour_58 : decode mX11_pour.2.1 58 = .ok (.aload_n 0, 1) := by decide +kernel
theorem dX11_pour_59 : decode mX11_pour.2.1 59 = .ok (.getfield 13, 3) := by decide +kernel
theorem dX11_pour_62 : decode mX11_pour.2.1 62 = .ok (.iload_n 1, 1) := by decide +kernel
theorem dX11_pour_63 : decode mX11_pour.2.1 63 = .ok (.iaload, 1) := by decide +kernel
theorem dX11_pour_64 : decode mX11_pour.2.1 64 = .ok (.aload_n 0, 1) := by decide +kernel
theorem dX11_pour_65 : decode mX11_pour.2.1 65 = .ok (.getfield 13, 3) := by decide +kernel
theorem dX11_pour_68 : decode mX11_pour.2.1 68 = .ok (.iload_n 3, 1) := by decide +kernel
theorem dX11_pour_69 : decode mX11_pour.2.1 69 = .ok (.iaload, 1) := by decide +kernel
theorem dX11_pour_70 : decode mX11_pour.2.1 70 = .ok (.if_icmp .eq 10, 3) := by decide +kernel
theorem dX11_pour_73 : decode mX11_pour.2.1 73 = .ok (.aload_n 0, 1) := by decide +kernel
theorem dX11_pour_74 : decode mX11_pour.2.1 74 = .ok (.bipush 11, 2) := by decide +kernel
theorem dX11_pour_76 : decode mX11_pour.2.1 76 = .ok (.invokevirtual 227, 3) := by decide +kernel
theorem dX11_pour_79 : decode mX11_pour.2.1 79 = .ok (.ireturn, 1) := by decide +kernel
theorem dX11_pour_80 : decode mX11_pour.2.1 80 = .ok (.iload 5, 2) := by decide +kernel
theorem dX11_pour_82 : decode mX11_pour.2.1 82 = .ok (.ifCond .ge 10, 3) := by decide +kernel
theorem dX11_pour_85 : decode mX11_pour.2.1 85 = .ok (.aload_n 0, 1) := by decide +kernel
theorem dX11_pour_86 : decode mX11_pour.2.1 86 = .ok (.bipush 6, 2) := by decide +kernel
theorem dX11_pour_88 : decode mX11_pour.2.1 88 = .ok (.invokevirtual 227, 3) := by decide +kernel
theorem dX11_pour_91 : decode mX11_pour.2.1 91 = .ok (.ireturn, 1) := by decide +kernel
theorem dX11_pour_92 : decode mX11_pour.2.1 92 = .ok (.iload_n 2, 1) := by decide +kernel
theorem dX11_pour_93 : decode mX11_pour.2.1 93 = .ok (.ifCond .lt 43, 3) := by decide +kernel
theorem dX11_pour_96 : decode mX11_pour.2.1 96 = .ok (.iload 4, 2) := by decide +kernel
theorem dX11_pour_98 : decode mX11_pour.2.1 98 = .ok (.ifCond .lt 38, 3) := by decide +kernel
theorem dX11_pour_101 : decode mX11_pour.2.1 101 = .ok (.iload_n 2, 1) := by decide +kernel
theorem dX11_pour_102 : decode mX11_pour.2.1 102 = .ok (.i2l, 1) := by decide +kernel
theorem dX11_pour_103 : decode mX11_pour.2.1 103 = .ok (.iload 5, 2) := by decide +kernel
theorem dX11_pour_105 : decode mX11_pour.2.1 105 = .ok (.i2l, 1) := by decide +kernel
theorem dX11_pour_106 : decode mX11_pour.2.1 106 = .ok (.ladd, 1) := by decide +kernel
theorem dX11_pour_107 : decode mX11_pour.2.1 107 = .ok (.aload_n 0, 1) := by decide +kernel
theorem dX11_pour_108 : decode mX11_pour.2.1 108 = .ok (.getfield 17, 3) := by decide +kernel
theorem dX11_pour_111 : decode mX11_pour.2.1 111 = .ok (.iload_n 1, 1) := by decide +kernel
theorem dX11_pour_112 : decode mX11_pour.2.1 112 = .ok (.iaload, 1) := by decide +kernel
theorem dX11_pour_113 : decode mX11_pour.2.1 113 = .ok (.i2l, 1) := by decide +kernel
theorem dX11_pour_114 : decode mX11_pour.2.1 114 = .ok (.lcmp, 1) := by decide +kernel
theorem dX11_pour_115 : decode mX11_pour.2.1 115 = .ok (.ifCond .gt 21, 3) := by decide +kernel
theorem dX11_pour_118 : decode mX11_pour.2.1 118 = .ok (.iload 4, 2) := by decide +kernel
theorem dX11_pour_120 : decode mX11_pour.2.1 120 = .ok (.i2l, 1) := by decide +kernel
theorem dX11_pour_121 : decode mX11_pour.2.1 121 = .ok (.iload 5, 2) := by decide +kernel
theorem dX11_pour_123 : decode mX11_pour.2.1 123 = .ok (.i2l, 1) := by decide +kernel
theorem dX11_pour_124 : decode mX11_pour.2.1 124 = .ok (.ladd, 1) := by decide +kernel
theorem dX11_pour_125 : decode mX11_pour.2.1 125 = .ok (.aload_n 0, 1) := by decide +kernel
theorem dX11_pour_126 : decode mX11_pour.2.1 126 = .ok (.getfield 17, 3) := by decide +kernel
theorem dX11_pour_129 : decode mX11_pour.2.1 129 = .ok (.iload_n 3, 1) := by decide +kernel
theorem dX11_pour_130 : decode mX11_pour.2.1 130 = .ok (.iaload, 1) := by decide +kernel
theorem dX11_pour_131 : decode mX11_pour.2.1 131 = .ok (.i2l, 1) := by decide +kernel
theorem dX11_pour_132 : decode mX11_pour.2.1 132 = .ok (.lcmp, 1) := by decide +kernel
theorem dX11_pour_133 : decode mX11_pour.2.1 133 = .ok (.ifCond .le 9, 3) := by decide +kernel
theorem dX11_pour_136 : decode mX11_pour.2.1 136 = .ok (.aload_n 0, 1) := by decide +kernel
theorem dX11_pour_137 : decode mX11_pour.2.1 137 = .ok (.iconst 4, 1) := by decide +kernel
theorem dX11_pour_138 : decode mX11_pour.2.1 138 = .ok (.invokevirtual 227, 3) := by decide +kernel
theorem dX11_pour_141 : decode mX11_pour.2.1 141 = .ok (.ireturn, 1) := by decide +kernel
theorem dX11_pour_142 : decode mX11_pour.2.1 142 = .ok (.iload_n 2, 1) := by decide +kernel
theorem dX11_pour_143 : decode mX11_pour.2.1 143 = .ok (.iload 4, 2) := by decide +kernel
theorem dX11_pour_145 : decode mX11_pour.2.1 145 = .ok (.if_icmp .ge 7, 3) := by decide +kernel
theorem dX11_pour_148 : decode mX11_pour.2.1 148 = .ok (.iconst 1, 1) := by decide +kernel
theorem dX11_pour_149 : decode mX11_pour.2.1 149 = .ok (.goto 4, 3) := by decide +kernel
theorem dX11_pour_152 : decode mX11_pour.2.1 152 = .ok (.iconst 0, 1) := by decide +kernel
theorem dX11_pour_153 : decode mX11_pour.2.1 153 = .ok (.istore 6, 2) := by decide +kernel
theorem dX11_pour_155 : decode mX11_pour.2.1 155 = .ok (.iconst 0, 1) := by decide +kernel
theorem dX11_pour_156 : decode mX11_pour.2.1 156 = .ok (.istore 7, 2) := by decide +kernel
theorem dX11_pour_158 : decode mX11_pour.2.1 158 = .ok (.iload 7, 2) := by decide +kernel
theorem dX11_pour_160 : decode mX11_pour.2.1 160 = .ok (.iload 5, 2) := by decide +kernel
theorem dX11_pour_162 : decode mX11_pour.2.1 162 = .ok (.if_icmp .ge 57, 3) := by decide +kernel
theorem dX11_pour_165 : decode mX11_pour.2.1 165 = .ok (.iload 6, 2) := by decide +kernel
theorem dX11_pour_167 : decode mX11_pour.2.1 167 = .ok (.ifCond .eq 13, 3) := by decide +kernel
theorem dX11_pour_170 : decode mX11_pour.2.1 170 = .ok (.iload 5, 2) := by decide +kernel
theorem dX11_pour_172 : decode mX11_pour.2.1 172 = .ok (.iconst 1, 1) := by decide +kernel
theorem dX11_pour_173 : decode mX11_pour.2.1 173 = .ok (.isub, 1) := by decide +kernel
theorem dX11_pour_174 : decode mX11_pour.2.1 174 = .ok (.iload 7, 2) := by decide +kernel
theorem dX11_pour_176 : decode mX11_pour.2.1 176 = .ok (.isub, 1) := by decide +kernel
theorem dX11_pour_177 : decode mX11_pour.2.1 177 = .ok (.goto 5, 3) := by decide +kernel
theorem dX11_pour_180 : decode mX11_pour.2.1 180 = .ok (.iload 7, 2) := by decide +kernel
theorem dX11_pour_182 : decode mX11_pour.2.1 182 = .ok (.istore 8, 2) := by decide +kernel
theorem dX11_pour_184 : decode mX11_pour.2.1 184 = .ok (.aload_n 0, 1) := by decide +kernel
theorem dX11_pour_185 : decode mX11_pour.2.1 185 = .ok (.getfield 20, 3) := by decide +kernel
theorem dX11_pour_188 : decode mX11_pour.2.1 188 = .ok (.bipush 40, 2) := by decide +kernel
theorem dX11_pour_190 : decode mX11_pour.2.1 190 = .ok (.iload_n 3, 1) := by decide +kernel
theorem dX11_pour_191 : decode mX11_pour.2.1 191 = .ok (.imul, 1) := by decide +kernel
theorem dX11_pour_192 : decode mX11_pour.2.1 192 = .ok (.iload 4, 2) := by decide +kernel
theorem dX11_pour_194 : decode mX11_pour.2.1 194 = .ok (.iadd, 1) := by decide +kernel
theorem dX11_pour_195 : decode mX11_pour.2.1 195 = .ok (.iload 8, 2) := by decide +kernel
theorem dX11_pour_197 : decode mX11_pour.2.1 197 = .ok (.iadd, 1) := by decide +kernel
theorem dX11_pour_198 : decode mX11_pour.2.1 198 = .ok (.aload_n 0, 1) := by decide +kernel
theorem dX11_pour_199 : decode mX11_pour.2.1 199 = .ok (.getfield 20, 3) := by decide +kernel
theorem dX11_pour_202 : decode mX11_pour.2.1 202 = .ok (.bipush 40, 2) := by decide +kernel
theorem dX11_pour_204 : decode mX11_pour.2.1 204 = .ok (.iload_n 1, 1) := by decide +kernel
theorem dX11_pour_205 : decode mX11_pour.2.1 205 = .ok (.imul, 1) := by decide +kernel
theorem dX11_pour_206 : decode mX11_pour.2.1 206 = .ok (.iload_n 2, 1) := by decide +kernel
theorem dX11_pour_207 : decode mX11_pour.2.1 207 = .ok (.iadd, 1) := by decide +kernel
theorem dX11_pour_208 : decode mX11_pour.2.1 208 = .ok (.iload 8, 2) := by decide +kernel
theorem dX11_pour_210 : decode mX11_pour.2.1 210 = .ok (.iadd, 1) := by decide +kernel
theorem dX11_pour_211 : decode mX11_pour.2.1 211 = .ok (.laload, 1) := by decide +kernel
theorem dX11_pour_212 : decode mX11_pour.2.1 212 = .ok (.lastore, 1) := by decide +kernel
theorem dX11_pour_213 : decode mX11_pour.2.1 213 = .ok (.iinc 7 1, 3) := by decide +kernel
theorem dX11_pour_216 : decode mX11_pour.2.1 216 = .ok (.goto (-58), 3) := by decide +kernel
theorem dX11_pour_219 : decode mX11_pour.2.1 219 = .ok (.iconst 1, 1) := by decide +kernel
theorem dX11_pour_220 : decode mX11_pour.2.1 220 = .ok (.ireturn, 1) := by decide +kernel
theorem dX11_isMarcher_0 : decode mX11_isMarcher.2.1 0 = .ok (.iload_n 1, 1) := by decide +kernel
theorem dX11_isMarcher_1 : decode mX11_isMarcher.2.1 1 = .ok (.i2l, 1) := by decide +kernel
theorem dX11_isMarcher_2 : decode mX11_isMarcher.2.1 2 = .ok (.lconst 0, 1) := by decide +kernel
theorem dX11_isMarcher_3 : decode mX11_isMarcher.2.1 3 = .ok (.aload_n 0, 1) := by decide +kernel
theorem dX11_isMarcher_4 : decode mX11_isMarcher.2.1 4 = .ok (.getfield 245, 3) := by decide +kernel
theorem dX11_isMarcher_7 : decode mX11_isMarcher.2.1 7 = .ok (.iconst 1, 1) := by decide +kernel
theorem dX11_isMarcher_8 : decode mX11_isMarcher.2.1 8 = .ok (.isub, 1) := by decide +kernel
theorem dX11_isMarcher_9 : decode mX11_isMarcher.2.1 9 = .ok (.i2l, 1) := by decide +kernel
theorem dX11_isMarcher_10 : decode mX11_isMarcher.2.1 10 = .ok (.invokestatic 221, 3) := by decide +kernel
theorem dX11_isMarcher_13 : decode mX11_isMarcher.2.1 13 = .ok (.ireturn, 1) := by decide +kernel
theorem dX11_marcher_0 : decode mX11_marcher.2.1 0 = .ok (.aload_n 0, 1) := by decide +kernel
theorem dX11_marcher_1 : decode mX11_marcher.2.1 1 = .ok (.iconst 0, 1) := by decide +kernel
theorem dX11_marcher_2 : decode mX11_marcher.2.1 2 = .ok (.putfield 213, 3) := by decide +kernel
theorem dX11_marcher_5 : decode mX11_marcher.2.1 5 = .ok (.aload_n 0, 1) := by decide +kernel
theorem dX11_marcher_6 : decode mX11_marcher.2.1 6 = .ok (.iconst 0, 1) := by decide +kernel
theorem dX11_marcher_7 : decode mX11_marcher.2.1 7 = .ok (.putfield 216, 3) := by decide +kernel
theorem dX11_marcher_10 : decode mX11_marcher.2.1 10 = .ok (.iload_n 1, 1) := by decide +kernel
theorem dX11_marcher_11 : decode mX11_marcher.2.1 11 = .ok (.iload_n 2, 1) := by decide +kernel
theorem dX11_marcher_12 : decode mX11_marcher.2.1 12 = .ok (.invokestatic 248, 3) := by decide +kernel
theorem dX11_marcher_15 : decode mX11_marcher.2.1 15 = .ok (.ifCond .eq 15, 3) := by decide +kernel
theorem dX11_marcher_18 : decode mX11_marcher.2.1 18 = .ok (.iload_n 3, 1) := by decide +kernel
theorem dX11_marcher_19 : decode mX11_marcher.2.1 19 = .ok (.i2l, 1) := by decide +kernel
theorem dX11_marcher_20 : decode mX11_marcher.2.1 20 = .ok (.lconst 0, 1) := by decide +kernel
theorem dX11_marcher_21 : decode mX11_marcher.2.1 21 = .ok (.ldc2_w 252, 3) := by decide +kernel
theorem dX11_marcher_24 : decode mX11_marcher.2.1 24 = .ok (.invokestatic 221, 3) := by decide +kernel
theorem dX11_marcher_27 : decode mX11_marcher.2.1 27 = .ok (.ifCond .ne 9, 3) := by decide +kernel
theorem dX11_marcher_30 : decode mX11_marcher.2.1 30 = .ok (.aload_n 0, 1) := by decide +kernel
theorem dX11_marcher_31 : decode mX11_marcher.2.1 31 = .ok (.iconst 5, 1) := by decide +kernel
theorem dX11_marcher_32 : decode mX11_marcher.2.1 32 = .ok (.invokevirtual 254, 3) := by decide +kernel
theorem dX11_marcher_35 : decode mX11_marcher.2.1 35 = .ok (.ireturn, 1) := by decide +kernel
theorem dX11_marcher_36 : decode mX11_marcher.2.1 36 = .ok (.aload_n 0, 1) := by decide +kernel
theorem dX11_marcher_37 : decode mX11_marcher.2.1 37 = .ok (.getfield 245, 3) := by decide +kernel
theorem dX11_marcher_40 : decode mX11_marcher.2.1 40 = .ok (.bipush 20, 2) := by decide +kernel
theorem dX11_marcher_42 : decode mX11_marcher.2.1 42 = .ok (.if_icmp .ne 10, 3) := by decide +kernel
theorem dX11_marcher_45 : decode mX11_marcher.2.1 45 = .ok (.aload_n 0, 1) := by decide +kernel
theorem dX11_marcher_46 : decode mX11_marcher.2.1 46 = .ok (.bipush 7, 2) := by decide +kernel
theorem dX11_marcher_48 : decode mX11_marcher.2.1 48 = .ok (.invokevirtual 254, 3) := by decide +kernel
theorem dX11_marcher_51 : decode mX11_marcher.2.1 51 = .ok (.ireturn, 1) := by decide +kernel
theorem dX11_marcher_52 : decode mX11_marcher.2.1 52 = .ok (.aload_n 0, 1) := by decide +kernel
theorem dX11_marcher_53 : decode mX11_marcher.2.1 53 = .ok (.getfield 28, 3) := by decide +kernel
theorem dX11_marcher_56 : decode mX11_marcher.2.1 56 = .ok (.aload_n 0, 1) := by decide +kernel
theorem dX11_marcher_57 : decode mX11_marcher.2.1 57 = .ok (.getfield 245, 3) := by decide +kernel
theorem dX11_marcher_60 : decode mX11_marcher.2.1 60 = .ok (.iload_n 1, 1) := by decide +kernel
theorem dX11_marcher_61 : decode mX11_marcher.2.1 61 = .ok (.iastore, 1) := by decide +kernel
theorem dX11_marcher_62 : decode mX11_marcher.2.1 62 = .ok (.aload_n 0, 1) := by decide +kernel
theorem dX11_marcher_63 : decode mX11_marcher.2.1 63 = .ok (.getfield 31, 3) := by decide +kernel
theorem dX11_marcher_66 : decode mX11_marcher.2.1 66 = .ok (.aload_n 0, 1) := by decide +kernel
theorem dX11_marcher_67 : decode mX11_marcher.2.1 67 = .ok (.getfield 245, 3) := by decide +kernel
theorem dX11_marcher_70 : decode mX11_marcher.2.1 70 = .ok (.iload_n 2, 1) := by decide +kernel
theorem dX11_marcher_71 : decode mX11_marcher.2.1 71 = .ok (.iastore, 1) := by decide +kernel
theorem dX11_marcher_72 : decode mX11_marcher.2.1 72 = .ok (.aload_n 0, 1) := by decide +kernel
theorem dX11_marcher_73 : decode mX11_marcher.2.1 73 = .ok (.getfield 34, 3) := by decide +kernel
theorem dX11_marcher_76 : decode mX11_marcher.2.1 76 = .ok (.aload_n 0, 1) := by decide +kernel
theorem dX11_marcher_77 : decode mX11_marcher.2.1 77 = .ok (.getfield 245, 3) := by decide +kernel
theorem dX11_marcher_80 : decode mX11_marcher.2.1 80 = .ok (.iload_n 3, 1) := by decide +kernel
theorem dX11_marcher_81 : decode mX11_marcher.2.1 81 = .ok (.iastore, 1) := by decide +kernel
theorem dX11_marcher_82 : decode mX11_marcher.2.1 82 = .ok (.aload_n 0, 1) := by decide +kernel
theorem dX11_marcher_83 : decode mX11_marcher.2.1 83 = .ok (.dup, 1) := by decide +kernel
theorem dX11_marcher_84 : decode mX11_marcher.2.1 84 = .ok (.getfield 245, 3) := by decide +kernel
theorem dX11_marcher_87 : decode mX11_marcher.2.1 87 = .ok (.iconst 1, 1) := by decide +kernel
theorem dX11_marcher_88 : decode mX11_marcher.2.1 88 = .ok (.iadd, 1) := by decide +kernel
theorem dX11_marcher_89 : decode mX11_marcher.2.1 89 = .ok (.putfield 245, 3) := by decide +kernel
theorem dX11_marcher_92 : decode mX11_marcher.2.1 92 = .ok (.aload_n 0, 1) := by decide +kernel
theorem dX11_marcher_93 : decode mX11_marcher.2.1 93 = .ok (.getfield 245, 3) := by decide +kernel
theorem dX11_marcher_96 : decode mX11_marcher.2.1 96 = .ok (.iconst 1, 1) := by decide +kernel
theorem dX11_marcher_97 : decode mX11_marcher.2.1 97 = .ok (.isub, 1) := by decide +kernel
theorem dX11_marcher_98 : decode mX11_marcher.2.1 98 = .ok (.ireturn, 1) := by decide +kernel
theorem dX11_prop_0 : decode mX11_prop.2.1 0 = .ok (.aload_n 0, 1) := by decide +kernel
theorem dX11_prop_1 : decode mX11_prop.2.1 1 = .ok (.iconst 0, 1) := by decide +kernel
theorem dX11_prop_2 : decode mX11_prop.2.1 2 = .ok (.putfield 213, 3) := by decide +kernel
theorem dX11_prop_5 : decode mX11_prop.2.1 5 = .ok (.aload_n 0, 1) := by decide +kernel
theorem dX11_prop_6 : decode mX11_prop.2.1 6 = .ok (.iconst 0, 1) := by decide +kernel
theorem dX11_prop_7 : decode mX11_prop.2.1 7 = .ok (.putfield 216, 3) := by decide +kernel
theorem dX11_prop_10 : decode mX11_prop.2.1 10 = .ok (.iload_n 1, 1) := by decide +kernel
theorem dX11_prop_11 : decode mX11_prop.2.1 11 = .ok (.iload_n 2, 1) := by decide +kernel
theorem dX11_prop_12 : decode mX11_prop.2.1 12 = .ok (.invokestatic 248, 3) := by decide +kernel
theorem dX11_prop_15 : decode mX11_prop.2.1 15 = .ok (.ifCond .ne 9, 3) := by decide +kernel
theorem dX11_prop_18 : decode mX11_prop.2.1 18 = .ok (.aload_n 0, 1) := by decide +kernel
theorem dX11_prop_19 : decode mX11_prop.2.1 19 = .ok (.iconst 5, 1) := by decide +kernel
theorem dX11_prop_20 : decode mX11_prop.2.1 20 = .ok (.invokevirtual 227, 3) := by decide +kernel
theorem dX11_prop_23 : decode mX11_prop.2.1 23 = .ok (.ireturn, 1) := by decide +kernel
theorem dX11_prop_24 : decode mX11_prop.2.1 24 = .ok (.aload_n 0, 1) := by decide +kernel
theorem dX11_prop_25 : decode mX11_prop.2.1 25 = .ok (.getfield 257, 3) := by decide +kernel
theorem dX11_prop_28 : decode mX11_prop.2.1 28 = .ok (.bipush 30, 2) := by decide +kernel
theorem dX11_prop_30 : decode mX11_prop.2.1 30 = .ok (.if_icmp .ne 10, 3) := by decide +kernel
theorem dX11_prop_33 : decode mX11_prop.2.1 33 = .ok (.aload_n 0, 1) := by decide +kernel
theorem dX11_prop_34 : decode mX11_prop.2.1 34 = .ok (.bipush 7, 2) := by decide +kernel
theorem dX11_prop_36 : decode mX11_prop.2.1 36 = .ok (.invokevirtual 227, 3) := by decide +kernel
theorem dX11_prop_39 : decode mX11_prop.2.1 39 = .ok (.ireturn, 1) := by decide +kernel
theorem dX11_prop_40 : decode mX11_prop.2.1 40 = .ok (.aload_n 0, 1) := by decide +kernel
theorem dX11_prop_41 : decode mX11_prop.2.1 41 = .ok (.getfield 40, 3) := by decide +kernel
theorem dX11_prop_44 : decode mX11_prop.2.1 44 = .ok (.bipush 40, 2) := by decide +kernel
theorem dX11_prop_46 : decode mX11_prop.2.1 46 = .ok (.iload_n 1, 1) := by decide +kernel
theorem dX11_prop_47 : decode mX11_prop.2.1 47 = .ok (.imul, 1) := by decide +kernel
theorem dX11_prop_48 : decode mX11_prop.2.1 48 = .ok (.iload_n 2, 1) := by decide +kernel
theorem dX11_prop_49 : decode mX11_prop.2.1 49 = .ok (.iadd, 1) := by decide +kernel
theorem dX11_prop_50 : decode mX11_prop.2.1 50 = .ok (.baload, 1) := by decide +kernel
theorem dX11_prop_51 : decode mX11_prop.2.1 51 = .ok (.ifCond .eq 10, 3) := by decide +kernel
theorem dX11_prop_54 : decode mX11_prop.2.1 54 = .ok (.aload_n 0, 1) := by decide +kernel
theorem dX11_prop_55 : decode mX11_prop.2.1 55 = .ok (.bipush 9, 2) := by decide +kernel
theorem dX11_prop_57 : decode mX11_prop.2.1 57 = .ok (.invokevirtual 227, 3) := by decide +kernel
theorem dX11_prop_60 : decode mX11_prop.2.1 60 = .ok (.ireturn, 1) := by decide +kernel
theorem dX11_prop_61 : decode mX11_prop.2.1 61 = .ok (.aload_n 0, 1) := by decide +kernel
theorem dX11_prop_62 : decode mX11_prop.2.1 62 = .ok (.getfield 40, 3) := by decide +kernel
theorem dX11_prop_65 : decode mX11_prop.2.1 65 = .ok (.bipush 40, 2) := by decide +kernel
theorem dX11_prop_67 : decode mX11_prop.2.1 67 = .ok (.iload_n 1, 1) := by decide +kernel
theorem dX11_prop_68 : decode mX11_prop.2.1 68 = .ok (.imul, 1) := by decide +kernel
theorem dX11_prop_69 : decode mX11_prop.2.1 69 = .ok (.iload_n 2, 1) := by decide +kernel
theorem dX11_prop_70 : decode mX11_prop.2.1 70 = .ok (.iadd, 1) := by decide +kernel
theorem dX11_prop_71 : decode mX11_prop.2.1 71 = .ok (.iconst 1, 1) := by decide +kernel
theorem dX11_prop_72 : decode mX11_prop.2.1 72 = .ok (.bastore, 1) := by decide +kernel
theorem dX11_prop_73 : decode mX11_prop.2.1 73 = .ok (.aload_n 0, 1) := by decide +kernel
theorem dX11_prop_74 : decode mX11_prop.2.1 74 = .ok (.dup, 1) := by decide +kernel
theorem dX11_prop_75 : decode mX11_prop.2.1 75 = .ok (.getfield 257, 3) := by decide +kernel
theorem dX11_prop_78 : decode mX11_prop.2.1 78 = .ok (.iconst 1, 1) := by decide +kernel
theorem dX11_prop_79 : decode mX11_prop.2.1 79 = .ok (.iadd, 1) := by decide +kernel
theorem dX11_prop_80 : decode mX11_prop.2.1 80 = .ok (.putfield 257, 3) := by decide +kernel
theorem dX11_prop_83 : decode mX11_prop.2.1 83 = .ok (.iconst 1, 1) := by decide +kernel
theorem dX11_prop_84 : decode mX11_prop.2.1 84 = .ok (.ireturn, 1) := by decide +kernel
theorem dX11_isName_0 : decode mX11_isName.2.1 0 = .ok (.lload_n 0, 1) := by decide +kernel
theorem dX11_isName_1 : decode mX11_isName.2.1 1 = .ok (.lconst 1, 1) := by decide +kernel
theorem dX11_isName_2 : decode mX11_isName.2.1 2 = .ok (.lcmp, 1) := by decide +kernel
theorem dX11_isName_3 : decode mX11_isName.2.1 3 = .ok (.ifCond .lt 11, 3) := by decide +kernel
theorem dX11_isName_6 : decode mX11_isName.2.1 6 = .ok (.lload_n 0, 1) := by decide +kernel
theorem dX11_isName_7 : decode mX11_isName.2.1 7 = .ok (.ldc2_w 260, 3) := by decide +kernel
theorem dX11_isName_10 : decode mX11_isName.2.1 10 = .ok (.lcmp, 1) := by decide +kernel
theorem dX11_isName_11 : decode mX11_isName.2.1 11 = .ok (.ifCond .lt 5, 3) := by decide +kernel
theorem dX11_isName_14 : decode mX11_isName.2.1 14 = .ok (.iconst 0, 1) := by decide +kernel
theorem dX11_isName_15 : decode mX11_isName.2.1 15 = .ok (.ireturn, 1) := by decide +kernel
theorem dX11_isName_16 : decode mX11_isName.2.1 16 = .ok (.lload_n 0, 1) := by decide +kernel
theorem dX11_isName_17 : decode mX11_isName.2.1 17 = .ok (.lstore_n 2, 1) := by decide +kernel
theorem dX11_isName_18 : decode mX11_isName.2.1 18 = .ok (.lload_n 2, 1) := by decide +kernel
theorem dX11_isName_19 : decode mX11_isName.2.1 19 = .ok (.lconst 0, 1) := by decide +kernel
theorem dX11_isName_20 : decode mX11_isName.2.1 20 = .ok (.lcmp, 1) := by decide +kernel
theorem dX11_isName_21 : decode mX11_isName.2.1 21 = .ok (.ifCond .le 36, 3) := by decide +kernel
theorem dX11_isName_24 : decode mX11_isName.2.1 24 = .ok (.lload_n 2, 1) := by decide +kernel
theorem dX11_isName_25 : decode mX11_isName.2.1 25 = .ok (.ldc2_w 262, 3) := by decide +kernel
theorem dX11_isName_28 : decode mX11_isName.2.1 28 = .ok (.lrem, 1) := by decide +kernel
theorem dX11_isName_29 : decode mX11_isName.2.1 29 = .ok (.lconst 1, 1) := by decide +kernel
theorem dX11_isName_30 : decode mX11_isName.2.1 30 = .ok (.lcmp, 1) := by decide +kernel
theorem dX11_isName_31 : decode mX11_isName.2.1 31 = .ok (.ifCond .lt 15, 3) := by decide +kernel
theorem dX11_isName_34 : decode mX11_isName.2.1 34 = .ok (.lload_n 2, 1) := by decide +kernel
theorem dX11_isName_35 : decode mX11_isName.2.1 35 = .ok (.ldc2_w 262, 3) := by decide +kernel
theorem dX11_isName_38 : decode mX11_isName.2.1 38 = .ok (.lrem, 1) := by decide +kernel
theorem dX11_isName_39 : decode mX11_isName.2.1 39 = .ok (.ldc2_w 264, 3) := by decide +kernel
theorem dX11_isName_42 : decode mX11_isName.2.1 42 = .ok (.lcmp, 1) := by decide +kernel
theorem dX11_isName_43 : decode mX11_isName.2.1 43 = .ok (.ifCond .le 5, 3) := by decide +kernel
theorem dX11_isName_46 : decode mX11_isName.2.1 46 = .ok (.iconst 0, 1) := by decide +kernel
theorem dX11_isName_47 : decode mX11_isName.2.1 47 = .ok (.ireturn, 1) := by decide +kernel
theorem dX11_isName_48 : decode mX11_isName.2.1 48 = .ok (.lload_n 2, 1) := by decide +kernel
theorem dX11_isName_49 : decode mX11_isName.2.1 49 = .ok (.ldc2_w 262, 3) := by decide +kernel
theorem dX11_isName_52 : decode mX11_isName.2.1 52 = .ok (.ldiv, 1) := by decide +kernel
theorem dX11_isName_53 : decode mX11_isName.2.1 53 = .ok (.lstore_n 2, 1) := by decide +kernel
theorem dX11_isName_54 : decode mX11_isName.2.1 54 = .ok (.goto (-36), 3) := by decide +kernel
theorem dX11_isName_57 : decode mX11_isName.2.1 57 = .ok (.iconst 1, 1) := by decide +kernel
theorem dX11_isName_58 : decode mX11_isName.2.1 58 = .ok (.ireturn, 1) := by decide +kernel
theorem dX11_groupOf_0 : decode mX11_groupOf.2.1 0 = .ok (.iconst 0, 1) := by decide +kernel
theorem dX11_groupOf_1 : decode mX11_groupOf.2.1 1 = .ok (.istore_n 3, 1) := by decide +kernel
theorem dX11_groupOf_2 : decode mX11_groupOf.2.1 2 = .ok (.iload_n 3, 1) := by decide +kernel
theorem dX11_groupOf_3 : decode mX11_groupOf.2.1 3 = .ok (.aload_n 0, 1) := by decide +kernel
theorem dX11_groupOf_4 : decode mX11_groupOf.2.1 4 = .ok (.getfield 266, 3) := by decide +kernel
theorem dX11_groupOf_7 : decode mX11_groupOf.2.1 7 = .ok (.if_icmp .ge 22, 3) := by decide +kernel
theorem dX11_groupOf_10 : decode mX11_groupOf.2.1 10 = .ok (.aload_n 0, 1) := by decide +kernel
theorem dX11_groupOf_11 : decode mX11_groupOf.2.1 11 = .ok (.getfield 44, 3) := by decide +kernel
theorem dX11_groupOf_14 : decode mX11_groupOf.2.1 14 = .ok (.iload_n 3, 1) := by decide +kernel
theorem dX11_groupOf_15 : decode mX11_groupOf.2.1 15 = .ok (.laload, 1) := by decide +kernel
theorem dX11_groupOf_16 : decode mX11_groupOf.2.1 16 = .ok (.lload_n 1, 1) := by decide +kernel
theorem dX11_groupOf_17 : decode mX11_groupOf.2.1 17 = .ok (.lcmp, 1) := by decide +kernel
theorem dX11_groupOf_18 : decode mX11_groupOf.2.1 18 = .ok (.ifCond .ne 5, 3) := by decide +kernel
theorem dX11_groupOf_21 : decode mX11_groupOf.2.1 21 = .ok (.iload_n 3, 1) := by decide +kernel
theorem dX11_groupOf_22 : decode mX11_groupOf.2.1 22 = .ok (.ireturn, 1) := by decide +kernel
theorem dX11_groupOf_23 : decode mX11_groupOf.2.1 23 = .ok (.iinc 3 1, 3) := by decide +kernel
theorem dX11_groupOf_26 : decode mX11_groupOf.2.1 26 = .ok (.goto (-24), 3) := by decide +kernel
theorem dX11_groupOf_29 : decode mX11_groupOf.2.1 29 = .ok (.iconst (-1), 1) := by decide +kernel
theorem dX11_groupOf_30 : decode mX11_groupOf.2.1 30 = .ok (.ireturn, 1) := by decide +kernel
theorem dX11_group_0 : decode mX11_group.2.1 0 = .ok (.aload_n 0, 1) := by decide +kernel
theorem dX11_group_1 : decode mX11_group.2.1 1 = .ok (.iconst 0, 1) := by decide +kernel
theorem dX11_group_2 : decode mX11_group.2.1 2 = .ok (.putfield 213, 3) := by decide +kernel
theorem dX11_group_5 : decode mX11_group.2.1 5 = .ok (.aload_n 0, 1) := by decide +kernel
theorem dX11_group_6 : decode mX11_group.2.1 6 = .ok (.iconst 0, 1) := by decide +kernel
theorem dX11_group_7 : decode mX11_group.2.1 7 = .ok (.putfield 216, 3) := by decide +kernel
theorem dX11_group_10 : decode mX11_group.2.1 10 = .ok (.lload_n 1, 1) := by decide +kernel
theorem dX11_group_11 : decode mX11_group.2.1 11 = .ok (.invokestatic 269, 3) := by decide +kernel
theorem dX11_group_14 : decode mX11_group.2.1 14 = .ok (.ifCond .eq 18, 3) := by decide +kernel
theorem dX11_group_17 : decode mX11_group.2.1 17 = .ok (.iload_n 3, 1) := by decide +kernel
theorem dX11_group_18 : decode mX11_group.2.1 18 = .ok (.iconst 1, 1) := by decide +kernel
theorem dX11_group_19 : decode mX11_group.2.1 19 = .ok (.if_icmp .lt 13, 3) := by decide +kernel
theorem dX11_group_22 : decode mX11_group.2.1 22 = .ok (.iload_n 3, 1) := by decide +kernel
theorem dX11_group_23 : decode mX11_group.2.1 23 = .ok (.iconst 1, 1) := by decide +kernel
theorem dX11_group_24 : decode mX11_group.2.1 24 = .ok (.aload_n 0, 1) := by decide +kernel
theorem dX11_group_25 : decode mX11_group.2.1 25 = .ok (.getfield 245, 3) := by decide +kernel
theorem dX11_group_28 : decode mX11_group.2.1 28 = .ok (.ishl, 1) := by decide +kernel
theorem dX11_group_29 : decode mX11_group.2.1 29 = .ok (.if_icmp .lt 9, 3) := by decide +kernel
theorem dX11_group_32 : decode mX11_group.2.1 32 = .ok (.aload_n 0, 1) := by decide +kernel
theorem dX11_group_33 : decode mX11_group.2.1 33 = .ok (.iconst 5, 1) := by decide +kernel
theorem dX11_group_34 : decode mX11_group.2.1 34 = .ok (.invokevirtual 254, 3) := by decide +kernel
theorem dX11_group_37 : decode mX11_group.2.1 37 = .ok (.ireturn, 1) := by decide +kernel
theorem dX11_group_38 : decode mX11_group.2.1 38 = .ok (.aload_n 0, 1) := by decide +kernel
theorem dX11_group_39 : decode mX11_group.2.1 39 = .ok (.lload_n 1, 1) := by decide +kernel
theorem dX11_group_40 : decode mX11_group.2.1 40 = .ok (.invokevirtual 273, 3) := by decide +kernel
theorem dX11_group_43 : decode mX11_group.2.1 43 = .ok (.istore 4, 2) := by decide +kernel
theorem dX11_group_45 : decode mX11_group.2.1 45 = .ok (.iload 4, 2) := by decide +kernel
theorem dX11_group_47 : decode mX11_group.2.1 47 = .ok (.ifCond .ge 19, 3) := by decide +kernel
theorem dX11_group_50 : decode mX11_group.2.1 50 = .ok (.aload_n 0, 1) := by decide +kernel
theorem dX11_group_51 : decode mX11_group.2.1 51 = .ok (.getfield 266, 3) := by decide +kernel
theorem dX11_group_54 : decode mX11_group.2.1 54 = .ok (.bipush 8, 2) := by decide +kernel
theorem dX11_group_56 : decode mX11_group.2.1 56 = .ok (.if_icmp .ne 10, 3) := by decide +kernel
theorem dX11_group_59 : decode mX11_group.2.1 59 = .ok (.aload_n 0, 1) := by decide +kernel
theorem dX11_group_60 : decode mX11_group.2.1 60 = .ok (.bipush 7, 2) := by decide +kernel
theorem dX11_group_62 : decode mX11_group.2.1 62 = .ok (.invokevirtual 254, 3) := by decide +kernel
theorem dX11_group_65 : decode mX11_group.2.1 65 = .ok (.ireturn, 1) := by decide +kernel
theorem dX11_group_66 : decode mX11_group.2.1 66 = .ok (.iload 4, 2) := by decide +kernel
theorem dX11_group_68 : decode mX11_group.2.1 68 = .ok (.ifCond .ge 19, 3) := by decide +kernel
theorem dX11_group_71 : decode mX11_group.2.1 71 = .ok (.aload_n 0, 1) := by decide +kernel
theorem dX11_group_72 : decode mX11_group.2.1 72 = .ok (.getfield 266, 3) := by decide +kernel
theorem dX11_group_75 : decode mX11_group.2.1 75 = .ok (.istore 4, 2) := by decide +kernel
theorem dX11_group_77 : decode mX11_group.2.1 77 = .ok (.aload_n 0, 1) := by decide +kernel
theorem dX11_group_78 : decode mX11_group.2.1 78 = .ok (.dup, 1) := by decide +kernel
theorem dX11_group_79 : decode mX11_group.2.1 79 = .ok (.getfield 266, 3) := by decide +kernel
theorem dX11_group_82 : decode mX11_group.2.1 82 = .ok (.iconst 1, 1) := by decide +kernel
theorem dX11_group_83 : decode mX11_group.2.1 83 = .ok (.iadd, 1) := by decide +kernel
theorem dX11_group_84 : decode mX11_group.2.1 84 = .ok (.putfield 266, 3) := by decide +kernel
theorem dX11_group_87 : decode mX11_group.2.1 87 = .ok (.aload_n 0, 1) := by decide +kernel
theorem dX11_group_88 : decode mX11_group.2.1 88 = .ok (.getfield 44, 3) := by decide +kernel
theorem dX11_group_91 : decode mX11_group.2.1 91 = .ok (.iload 4, 2) := by decide +kernel
theorem dX11_group_93 : decode mX11_group.2.1 93 = .ok (.lload_n 1, 1) := by decide +kernel
theorem dX11_group_94 : decode mX11_group.2.1 94 = .ok (.lastore, 1) := by decide +kernel
theorem dX11_group_95 : decode mX11_group.2.1 95 = .ok (.aload_n 0, 1) := by decide +kernel
theorem dX11_group_96 : decode mX11_group.2.1 96 = .ok (.getfield 37, 3) := by decide +kernel
theorem dX11_group_99 : decode mX11_group.2.1 99 = .ok (.iload 4, 2) := by decide +kernel
theorem dX11_group_101 : decode mX11_group.2.1 101 = .ok (.iload_n 3, 1) := by decide +kernel
theorem dX11_group_102 : decode mX11_group.2.1 102 = .ok (.iastore, 1) := by decide +kernel
theorem dX11_group_103 : decode mX11_group.2.1 103 = .ok (.iload 4, 2) := by decide +kernel
theorem dX11_group_105 : decode mX11_group.2.1 105 = .ok (.ireturn, 1) := by decide +kernel
theorem dX11_steps_0 : decode mX11_steps.2.1 0 = .ok (.aload_n 0, 1) := by decide +kernel
theorem dX11_steps_1 : decode mX11_steps.2.1 1 = .ok (.iconst 0, 1) := by decide +kernel
theorem dX11_steps_2 : decode mX11_steps.2.1 2 = .ok (.putfield 213, 3) := by decide +kernel
theorem dX11_steps_5 : decode mX11_steps.2.1 5 = .ok (.aload_n 0, 1) := by decide +kernel
theorem dX11_steps_6 : decode mX11_steps.2.1 6 = .ok (.iconst 0, 1) := by decide +kernel
theorem dX11_steps_7 : decode mX11_steps.2.1 7 = .ok (.putfield 216, 3) := by decide +kernel
theorem dX11_steps_10 : decode mX11_steps.2.1 10 = .ok (.iload_n 1, 1) := by decide +kernel
theorem dX11_steps_11 : decode mX11_steps.2.1 11 = .ok (.i2l, 1) := by decide +kernel
theorem dX11_steps_12 : decode mX11_steps.2.1 12 = .ok (.lconst 1, 1) := by decide +kernel
theorem dX11_steps_13 : decode mX11_steps.2.1 13 = .ok (.ldc2_w 277, 3) := by decide +kernel
theorem dX11_steps_16 : decode mX11_steps.2.1 16 = .ok (.invokestatic 221, 3) := by decide +kernel
theorem dX11_steps_19 : decode mX11_steps.2.1 19 = .ok (.ifCond .ne 9, 3) := by decide +kernel
theorem dX11_steps_22 : decode mX11_steps.2.1 22 = .ok (.aload_n 0, 1) := by decide +kernel
theorem dX11_steps_23 : decode mX11_steps.2.1 23 = .ok (.iconst 5, 1) := by decide +kernel
theorem dX11_steps_24 : decode mX11_steps.2.1 24 = .ok (.invokevirtual 227, 3) := by decide +kernel
theorem dX11_steps_27 : decode mX11_steps.2.1 27 = .ok (.ireturn, 1) := by decide +kernel
theorem dX11_steps_28 : decode mX11_steps.2.1 28 = .ok (.aload_n 0, 1) := by decide +kernel
theorem dX11_steps_29 : decode mX11_steps.2.1 29 = .ok (.iload_n 1, 1) := by decide +kernel
theorem dX11_steps_30 : decode mX11_steps.2.1 30 = .ok (.putfield 24, 3) := by decide +kernel
theorem dX11_steps_33 : decode mX11_steps.2.1 33 = .ok (.iconst 1, 1) := by decide +kernel
theorem dX11_steps_34 : decode mX11_steps.2.1 34 = .ok (.ireturn, 1) := by decide +kernel
theorem dX11_look_0 : decode mX11_look.2.1 0 = .ok (.iload_n 1, 1) := by decide +kernel
theorem dX11_look_1 : decode mX11_look.2.1 1 = .ok (.aload_n 0, 1) := by decide +kernel
theorem dX11_look_2 : decode mX11_look.2.1 2 = .ok (.getfield 279, 3) := by decide +kernel
theorem dX11_look_5 : decode mX11_look.2.1 5 = .ok (.if_icmp .ge 16, 3) := by decide +kernel
theorem dX11_look_8 : decode mX11_look.2.1 8 = .ok (.aload_n 0, 1) := by decide +kernel
theorem dX11_look_9 : decode mX11_look.2.1 9 = .ok (.getfield 47, 3) := by decide +kernel
theorem dX11_look_12 : decode mX11_look.2.1 12 = .ok (.iload_n 1, 1) := by decide +kernel
theorem dX11_look_13 : decode mX11_look.2.1 13 = .ok (.baload, 1) := by decide +kernel
theorem dX11_look_14 : decode mX11_look.2.1 14 = .ok (.sipush 255, 3) := by decide +kernel
theorem dX11_look_17 : decode mX11_look.2.1 17 = .ok (.iand, 1) := by decide +kernel
theorem dX11_look_18 : decode mX11_look.2.1 18 = .ok (.goto 4, 3) := by decide +kernel
theorem dX11_look_21 : decode mX11_look.2.1 21 = .ok (.iconst 0, 1) := by decide +kernel
theorem dX11_look_22 : decode mX11_look.2.1 22 = .ok (.ireturn, 1) := by decide +kernel
theorem dX11_isLetter_0 : decode mX11_isLetter.2.1 0 = .ok (.iload_n 0, 1) := by decide +kernel
theorem dX11_isLetter_1 : decode mX11_isLetter.2.1 1 = .ok (.bipush 97, 2) := by decide +kernel
theorem dX11_isLetter_3 : decode mX11_isLetter.2.1 3 = .ok (.if_icmp .lt 13, 3) := by decide +kernel
theorem dX11_isLetter_6 : decode mX11_isLetter.2.1 6 = .ok (.iload_n 0, 1) := by decide +kernel
theorem dX11_isLetter_7 : decode mX11_isLetter.2.1 7 = .ok (.bipush 122, 2) := by decide +kernel
theorem dX11_isLetter_9 : decode mX11_isLetter.2.1 9 = .ok (.if_icmp .gt 7, 3) := by decide +kernel
theorem dX11_isLetter_12 : decode mX11_isLetter.2.1 12 = .ok (.iconst 1, 1) := by decide +kernel
theorem dX11_isLetter_13 : decode mX11_isLetter.2.1 13 = .ok (.goto 4, 3) := by decide +kernel
theorem dX11_isLetter_16 : decode mX11_isLetter.2.1 16 = .ok (.iconst 0, 1) := by decide +kernel
theorem dX11_isLetter_17 : decode mX11_isLetter.2.1 17 = .ok (.ireturn, 1) := by decide +kernel
theorem dX11_isDigit_0 : decode mX11_isDigit.2.1 0 = .ok (.iload_n 0, 1) := by decide +kernel
theorem dX11_isDigit_1 : decode mX11_isDigit.2.1 1 = .ok (.bipush 48, 2) := by decide +kernel
theorem dX11_isDigit_3 : decode mX11_isDigit.2.1 3 = .ok (.if_icmp .lt 13, 3) := by decide +kernel
theorem dX11_isDigit_6 : decode mX11_isDigit.2.1 6 = .ok (.iload_n 0, 1) := by decide +kernel
theorem dX11_isDigit_7 : decode mX11_isDigit.2.1 7 = .ok (.bipush 57, 2) := by decide +kernel
theorem dX11_isDigit_9 : decode mX11_isDigit.2.1 9 = .ok (.if_icmp .gt 7, 3) := by decide +kernel
theorem dX11_isDigit_12 : decode mX11_isDigit.2.1 12 = .ok (.iconst 1, 1) := by decide +kernel
theorem dX11_isDigit_13 : decode mX11_isDigit.2.1 13 = .ok (.goto 4, 3) := by decide +kernel
theorem dX11_isDigit_16 : decode mX11_isDigit.2.1 16 = .ok (.iconst 0, 1) := by decide +kernel
theorem dX11_isDigit_17 : decode mX11_isDigit.2.1 17 = .ok (.ireturn, 1) := by decide +kernel
theorem dX11_next_0 : decode mX11_next.2.1 0 = .ok (.aload_n 0, 1) := by decide +kernel
theorem dX11_next_1 : decode mX11_next.2.1 1 = .ok (.aload_n 0, 1) := by decide +kernel
theorem dX11_next_2 : decode mX11_next.2.1 2 = .ok (.getfield 282, 3) := by decide +kernel
theorem dX11_next_5 : decode mX11_next.2.1 5 = .ok (.putfield 285, 3) := by decide +kernel
theorem dX11_next_8 : decode mX11_next.2.1 8 = .ok (.aload_n 0, 1) := by decide +kernel
theorem dX11_next_9 : decode mX11_next.2.1 9 = .ok (.getfield 285, 3) := by decide +kernel
theorem dX11_next_12 : decode mX11_next.2.1 12 = .ok (.aload_n 0, 1) := by decide +kernel
theorem dX11_next_13 : decode mX11_next.2.1 13 = .ok (.getfield 279, 3) := by decide +kernel
theorem dX11_next_16 : decode mX11_next.2.1 16 = .ok (.if_icmp .ge 42, 3) := by decide +kernel
theorem dX11_next_19 : decode mX11_next.2.1 19 = .ok (.aload_n 0, 1) := by decide +kernel
theorem dX11_next_20 : decode mX11_next.2.1 20 = .ok (.aload_n 0, 1) := by decide +kernel
theorem dX11_next_21 : decode mX11_next.2.1 21 = .ok (.getfield 285, 3) := by decide +kernel
theorem dX11_next_24 : decode mX11_next.2.1 24 = .ok (.invokevirtual 288, 3) := by decide +kernel
theorem dX11_next_27 : decode mX11_next.2.1 27 = .ok (.bipush 10, 2) := by decide +kernel
theorem dX11_next_29 : decode mX11_next.2.1 29 = .ok (.if_icmp .eq 16, 3) := by decide +kernel
theorem dX11_next_32 : decode mX11_next.2.1 32 = .ok (.aload_n 0, 1) := by decide +kernel
theorem dX11_next_33 : decode mX11_next.2.1 33 = .ok (.aload_n 0, 1) := by decide +kernel
theorem dX11_next_34 : decode mX11_next.2.1 34 = .ok (.getfield 285, 3) := by decide +kernel
theorem dX11_next_37 : decode mX11_next.2.1 37 = .ok (.invokevirtual 288, 3) := by decide +kernel
theorem dX11_next_40 : decode mX11_next.2.1 40 = .ok (.bipush 32, 2) := by decide +kernel
theorem dX11_next_42 : decode mX11_next.2.1 42 = .ok (.if_icmp .ne 16, 3) := by decide +kernel
theorem dX11_next_45 : decode mX11_next.2.1 45 = .ok (.aload_n 0, 1) := by decide +kernel
theorem dX11_next_46 : decode mX11_next.2.1 46 = .ok (.dup, 1) := by decide +kernel
theorem dX11_next_47 : decode mX11_next.2.1 47 = .ok (.getfield 285, 3) := by decide +kernel
theorem dX11_next_50 : decode mX11_next.2.1 50 = .ok (.iconst 1, 1) := by decide +kernel
theorem dX11_next_51 : decode mX11_next.2.1 51 = .ok (.iadd, 1) := by decide +kernel
theorem dX11_next_52 : decode mX11_next.2.1 52 = .ok (.putfield 285, 3) := by decide +kernel
theorem dX11_next_55 : decode mX11_next.2.1 55 = .ok (.goto (-47), 3) := by decide +kernel
theorem dX11_next_58 : decode mX11_next.2.1 58 = .ok (.aload_n 0, 1) := by decide +kernel
theorem dX11_next_59 : decode mX11_next.2.1 59 = .ok (.aload_n 0, 1) := by decide +kernel
theorem dX11_next_60 : decode mX11_next.2.1 60 = .ok (.getfield 285, 3) := by decide +kernel
theorem dX11_next_63 : decode mX11_next.2.1 63 = .ok (.putfield 282, 3) := by decide +kernel
theorem dX11_next_66 : decode mX11_next.2.1 66 = .ok (.aload_n 0, 1) := by decide +kernel
theorem dX11_next_67 : decode mX11_next.2.1 67 = .ok (.getfield 285, 3) := by decide +kernel
theorem dX11_next_70 : decode mX11_next.2.1 70 = .ok (.aload_n 0, 1) := by decide +kernel
theorem dX11_next_71 : decode mX11_next.2.1 71 = .ok (.getfield 279, 3) := by decide +kernel
theorem dX11_next_74 : decode mX11_next.2.1 74 = .ok (.if_icmp .lt 9, 3) := by decide +kernel
theorem dX11_next_77 : decode mX11_next.2.1 77 = .ok (.aload_n 0, 1) := by decide +kernel
theorem dX11_next_78 : decode mX11_next.2.1 78 = .ok (.iconst 0, 1) := by decide +kernel
theorem dX11_next_79 : decode mX11_next.2.1 79 = .ok (.putfield 291, 3) := by decide +kernel
theorem dX11_next_82 : decode mX11_next.2.1 82 = .ok (.return_, 1) := by decide +kernel
theorem dX11_next_83 : decode mX11_next.2.1 83 = .ok (.aload_n 0, 1) := by decide +kernel
theorem dX11_next_84 : decode mX11_next.2.1 84 = .ok (.aload_n 0, 1) := by decide +kernel
theorem dX11_next_85 : decode mX11_next.2.1 85 = .ok (.getfield 285, 3) := by decide +kernel
theorem dX11_next_88 : decode mX11_next.2.1 88 = .ok (.invokevirtual 288, 3) := by decide +kernel
theorem dX11_next_91 : decode mX11_next.2.1 91 = .ok (.istore_n 1, 1) := by decide +kernel
theorem dX11_next_92 : decode mX11_next.2.1 92 = .ok (.iload_n 1, 1) := by decide +kernel
theorem dX11_next_93 : decode mX11_next.2.1 93 = .ok (.invokestatic 294, 3) := by decide +kernel
theorem dX11_next_96 : decode mX11_next.2.1 96 = .ok (.ifCond .eq 102, 3) := by decide +kernel
theorem dX11_next_99 : decode mX11_next.2.1 99 = .ok (.aload_n 0, 1) := by decide +kernel
theorem dX11_next_100 : decode mX11_next.2.1 100 = .ok (.iconst 1, 1) := by decide +kernel
theorem dX11_next_101 : decode mX11_next.2.1 101 = .ok (.putfield 291, 3) := by decide +kernel
theorem dX11_next_104 : decode mX11_next.2.1 104 = .ok (.aload_n 0, 1) := by decide +kernel
theorem dX11_next_105 : decode mX11_next.2.1 105 = .ok (.lconst 0, 1) := by decide +kernel
theorem dX11_next_106 : decode mX11_next.2.1 106 = .ok (.putfield 297, 3) := by decide +kernel
theorem dX11_next_109 : decode mX11_next.2.1 109 = .ok (.aload_n 0, 1) := by decide +kernel
theorem dX11_next_110 : decode mX11_next.2.1 110 = .ok (.aload_n 0, 1) := by decide +kernel
theorem dX11_next_111 : decode mX11_next.2.1 111 = .ok (.getfield 282, 3) := by decide +kernel
theorem dX11_next_114 : decode mX11_next.2.1 114 = .ok (.invokevirtual 288, 3) := by decide +kernel
theorem dX11_next_117 : decode mX11_next.2.1 117 = .ok (.invokestatic 294, 3) := by decide +kernel
theorem dX11_next_120 : decode mX11_next.2.1 120 = .ok (.ifCond .eq 62, 3) := by decide +kernel
theorem dX11_next_123 : decode mX11_next.2.1 123 = .ok (.aload_n 0, 1) := by decide +kernel
theorem dX11_next_124 : decode mX11_next.2.1 124 = .ok (.aload_n 0, 1) := by decide +kernel
theorem dX11_next_125 : decode mX11_next.2.1 125 = .ok (.getfield 282, 3) := by decide +kernel
theorem dX11_next_128 : decode mX11_next.2.1 128 = .ok (.aload_n 0, 1) := by decide +kernel
theorem dX11_next_129 : decode mX11_next.2.1 129 = .ok (.getfield 285, 3) := by decide +kernel
theorem dX11_next_132 : decode mX11_next.2.1 132 = .ok (.isub, 1) := by decide +kernel
theorem dX11_next_133 : decode mX11_next.2.1 133 = .ok (.bipush 8, 2) := by decide +kernel
theorem dX11_next_135 : decode mX11_next.2.1 135 = .ok (.if_icmp .ge 28, 3) := by decide +kernel
theorem dX11_next_138 : decode mX11_next.2.1 138 = .ok (.aload_n 0, 1) := by decide +kernel
theorem dX11_next_139 : decode mX11_next.2.1 139 = .ok (.getfield 297, 3) := by decide +kernel
theorem dX11_next_142 : decode mX11_next.2.1 142 = .ok (.ldc2_w 262, 3) := by decide +kernel
theorem dX11_next_145 : decode mX11_next.2.1 145 = .ok (.lmul, 1) := by decide +kernel
theorem dX11_next_146 : decode mX11_next.2.1 146 = .ok (.aload_n 0, 1) := by decide +kernel
theorem dX11_next_147 : decode mX11_next.2.1 147 = .ok (.aload_n 0, 1) := by decide +kernel
theorem dX11_next_148 : decode mX11_next.2.1 148 = .ok (.getfield 282, 3) := by decide +kernel
theorem dX11_next_151 : decode mX11_next.2.1 151 = .ok (.invokevirtual 288, 3) := by decide +kernel
theorem dX11_next_154 : decode mX11_next.2.1 154 = .ok (.i2l, 1) := by decide +kernel
theorem dX11_next_155 : decode mX11_next.2.1 155 = .ok (.ladd, 1) := by decide +kernel
theorem dX11_next_156 : decode mX11_next.2.1 156 = .ok (.ldc2_w 300, 3) := by decide +kernel
theorem dX11_next_159 : decode mX11_next.2.1 159 = .ok (.lsub, 1) := by decide +kernel
theorem dX11_next_160 : decode mX11_next.2.1 160 = .ok (.goto 6, 3) := by decide +kernel
theorem dX11_next_163 : decode mX11_next.2.1 163 = .ok (.ldc2_w 243, 3) := by decide +kernel
theorem dX11_next_166 : decode mX11_next.2.1 166 = .ok (.putfield 297, 3) := by decide +kernel
theorem dX11_next_169 : decode mX11_next.2.1 169 = .ok (.aload_n 0, 1) := by decide +kernel
theorem dX11_next_170 : decode mX11_next.2.1 170 = .ok (.dup, 1) := by decide +kernel
theorem dX11_next_171 : decode mX11_next.2.1 171 = .ok (.getfield 282, 3) := by decide +kernel
theorem dX11_next_174 : decode mX11_next.2.1 174 = .ok (.iconst 1, 1) := by decide +kernel
theorem dX11_next_175 : decode mX11_next.2.1 175 = .ok (.iadd, 1) := by decide +kernel
theorem dX11_next_176 : decode mX11_next.2.1 176 = .ok (.putfield 282, 3) := by decide +kernel
theorem dX11_next_179 : decode mX11_next.2.1 179 = .ok (.goto (-70), 3) := by decide +kernel
theorem dX11_next_182 : decode mX11_next.2.1 182 = .ok (.aload_n 0, 1) := by decide +kernel
theorem dX11_next_183 : decode mX11_next.2.1 183 = .ok (.aload_n 0, 1) := by decide +kernel
theorem dX11_next_184 : decode mX11_next.2.1 184 = .ok (.getfield 282, 3) := by decide +kernel
theorem dX11_next_187 : decode mX11_next.2.1 187 = .ok (.aload_n 0, 1) := by decide +kernel
theorem dX11_next_188 : decode mX11_next.2.1 188 = .ok (.getfield 285, 3) := by decide +kernel
theorem dX11_next_191 : decode mX11_next.2.1 191 = .ok (.isub, 1) := by decide +kernel
theorem dX11_next_192 : decode mX11_next.2.1 192 = .ok (.putfield 302, 3) := by decide +kernel
theorem dX11_next_195 : decode mX11_next.2.1 195 = .ok (.goto 157, 3) := by decide +kernel
theorem dX11_next_198 : decode mX11_next.2.1 198 = .ok (.iload_n 1, 1) := by decide +kernel
theorem dX11_next_199 : decode mX11_next.2.1 199 = .ok (.invokestatic 305, 3) := by decide +kernel
theorem dX11_next_202 : decode mX11_next.2.1 202 = .ok (.ifCond .eq 96, 3) := by decide +kernel
theorem dX11_next_205 : decode mX11_next.2.1 205 = .ok (.aload_n 0, 1) := by decide +kernel
theorem dX11_next_206 : decode mX11_next.2.1 206 = .ok (.iconst 0, 1) := by decide +kernel
theorem dX11_next_207 : decode mX11_next.2.1 207 = .ok (.putfield 308, 3) := by decide +kernel
theorem dX11_next_210 : decode mX11_next.2.1 210 = .ok (.aload_n 0, 1) := by decide +kernel
theorem dX11_next_211 : decode mX11_next.2.1 211 = .ok (.aload_n 0, 1) := by decide +kernel
theorem dX11_next_212 : decode mX11_next.2.1 212 = .ok (.getfield 282, 3) := by decide +kernel
theorem dX11_next_215 : decode mX11_next.2.1 215 = .ok (.invokevirtual 288, 3) := by decide +kernel
theorem dX11_next_218 : decode mX11_next.2.1 218 = .ok (.invokestatic 305, 3) := by decide +kernel
theorem dX11_next_221 : decode mX11_next.2.1 221 = .ok (.ifCond .eq 52, 3) := by decide +kernel
theorem dX11_next_224 : decode mX11_next.2.1 224 = .ok (.aload_n 0, 1) := by decide +kernel
theorem dX11_next_225 : decode mX11_next.2.1 225 = .ok (.getfield 282, 3) := by decide +kernel
theorem dX11_next_228 : decode mX11_next.2.1 228 = .ok (.aload_n 0, 1) := by decide +kernel
theorem dX11_next_229 : decode mX11_next.2.1 229 = .ok (.getfield 285, 3) := by decide +kernel
theorem dX11_next_232 : decode mX11_next.2.1 232 = .ok (.isub, 1) := by decide +kernel
theorem dX11_next_233 : decode mX11_next.2.1 233 = .ok (.iconst 3, 1) := by decide +kernel
theorem dX11_next_234 : decode mX11_next.2.1 234 = .ok (.if_icmp .ge 26, 3) := by decide +kernel
theorem dX11_next_237 : decode mX11_next.2.1 237 = .ok (.aload_n 0, 1) := by decide +kernel
theorem dX11_next_238 : decode mX11_next.2.1 238 = .ok (.bipush 10, 2) := by decide +kernel
theorem dX11_next_240 : decode mX11_next.2.1 240 = .ok (.aload_n 0, 1) := by decide +kernel
theorem dX11_next_241 : decode mX11_next.2.1 241 = .ok (.getfield 308, 3) := by decide +kernel
theorem dX11_next_244 : decode mX11_next.2.1 244 = .ok (.imul, 1) := by decide +kernel
theorem dX11_next_245 : decode mX11_next.2.1 245 = .ok (.aload_n 0, 1) := by decide +kernel
theorem dX11_next_246 : decode mX11_next.2.1 246 = .ok (.aload_n 0, 1) := by decide +kernel
theorem dX11_next_247 : decode mX11_next.2.1 247 = .ok (.getfield 282, 3) := by decide +kernel
theorem dX11_next_250 : decode mX11_next.2.1 250 = .ok (.invokevirtual 288, 3) := by decide +kernel
theorem dX11_next_253 : decode mX11_next.2.1 253 = .ok (.iadd, 1) := by decide +kernel
theorem dX11_next_254 : decode mX11_next.2.1 254 = .ok (.bipush 48, 2) := by decide +kernel
theorem dX11_next_256 : decode mX11_next.2.1 256 = .ok (.isub, 1) := by decide +kernel
theorem dX11_next_257 : decode mX11_next.2.1 257 = .ok (.putfield 308, 3) := by decide +kernel
theorem dX11_next_260 : decode mX11_next.2.1 260 = .ok (.aload_n 0, 1) := by decide +kernel
theorem dX11_next_261 : decode mX11_next.2.1 261 = .ok (.dup, 1) := by decide +kernel
theorem dX11_next_262 : decode mX11_next.2.1 262 = .ok (.getfield 282, 3) := by decide +kernel
theorem dX11_next_265 : decode mX11_next.2.1 265 = .ok (.iconst 1, 1) := by decide +kernel
theorem dX11_next_266 : decode mX11_next.2.1 266 = .ok (.iadd, 1) := by decide +kernel
theorem dX11_next_267 : decode mX11_next.2.1 267 = .ok (.putfield 282, 3) := by decide +kernel
theorem dX11_next_270 : decode mX11_next.2.1 270 = .ok (.goto (-60), 3) := by decide +kernel
theorem dX11_next_273 : decode mX11_next.2.1 273 = .ok (.aload_n 0, 1) := by decide +kernel
theorem dX11_next_274 : decode mX11_next.2.1 274 = .ok (.aload_n 0, 1) := by decide +kernel
theorem dX11_next_275 : decode mX11_next.2.1 275 = .ok (.getfield 282, 3) := by decide +kernel
theorem dX11_next_278 : decode mX11_next.2.1 278 = .ok (.aload_n 0, 1) := by decide +kernel
theorem dX11_next_279 : decode mX11_next.2.1 279 = .ok (.getfield 285, 3) := by decide +kernel
theorem dX11_next_282 : decode mX11_next.2.1 282 = .ok (.isub, 1) := by decide +kernel
theorem dX11_next_283 : decode mX11_next.2.1 283 = .ok (.iconst 3, 1) := by decide +kernel
theorem dX11_next_284 : decode mX11_next.2.1 284 = .ok (.if_icmp .le 7, 3) := by decide +kernel
theorem dX11_next_287 : decode mX11_next.2.1 287 = .ok (.iconst 4, 1) := by decide +kernel
theorem dX11_next_288 : decode mX11_next.2.1 288 = .ok (.goto 4, 3) := by decide +kernel
theorem dX11_next_291 : decode mX11_next.2.1 291 = .ok (.iconst 2, 1) := by decide +kernel
theorem dX11_next_292 : decode mX11_next.2.1 292 = .ok (.putfield 291, 3) := by decide +kernel
theorem dX11_next_295 : decode mX11_next.2.1 295 = .ok (.goto 57, 3) := by decide +kernel
theorem dX11_next_298 : decode mX11_next.2.1 298 = .ok (.aload_n 0, 1) := by decide +kernel
theorem dX11_next_299 : decode mX11_next.2.1 299 = .ok (.aload_n 0, 1) := by decide +kernel
theorem dX11_next_300 : decode mX11_next.2.1 300 = .ok (.getfield 285, 3) := by decide +kernel
theorem dX11_next_303 : decode mX11_next.2.1 303 = .ok (.iconst 1, 1) := by decide +kernel
theorem dX11_next_304 : decode mX11_next.2.1 304 = .ok (.iadd, 1) := by decide +kernel
theorem dX11_next_305 : decode mX11_next.2.1 305 = .ok (.putfield 282, 3) := by decide +kernel
theorem dX11_next_308 : decode mX11_next.2.1 308 = .ok (.aload_n 0, 1) := by decide +kernel
theorem dX11_next_309 : decode mX11_next.2.1 309 = .ok (.iload_n 1, 1) := by decide +kernel
theorem dX11_next_310 : decode mX11_next.2.1 310 = .ok (.putfield 308, 3) := by decide +kernel
theorem dX11_next_313 : decode mX11_next.2.1 313 = .ok (.aload_n 0, 1) := by decide +kernel
theorem dX11_next_314 : decode mX11_next.2.1 314 = .ok (.iload_n 1, 1) := by decide +kernel
theorem dX11_next_315 : decode mX11_next.2.1 315 = .ok (.bipush 58, 2) := by decide +kernel
theorem dX11_next_317 : decode mX11_next.2.1 317 = .ok (.if_icmp .eq 27, 3) := by decide +kernel
theorem dX11_next_320 : decode mX11_next.2.1 320 = .ok (.iload_n 1, 1) := by decide +kernel
theorem dX11_next_321 : decode mX11_next.2.1 321 = .ok (.bipush 59, 2) := by decide +kernel
theorem dX11_next_323 : decode mX11_next.2.1 323 = .ok (.if_icmp .eq 21, 3) := by decide +kernel
theorem dX11_next_326 : decode mX11_next.2.1 326 = .ok (.iload_n 1, 1) := by decide +kernel
theorem dX11_next_327 : decode mX11_next.2.1 327 = .ok (.bipush 123, 2) := by decide +kernel
theorem dX11_next_329 : decode mX11_next.2.1 329 = .ok (.if_icmp .eq 15, 3) := by decide +kernel
theorem dX11_next_332 : decode mX11_next.2.1 332 = .ok (.iload_n 1, 1) := by decide +kernel
theorem dX11_next_333 : decode mX11_next.2.1 333 = .ok (.bipush 125, 2) := by decide +kernel
theorem dX11_next_335 : decode mX11_next.2.1 335 = .ok (.if_icmp .eq 9, 3) := by decide +kernel
theorem dX11_next_338 : decode mX11_next.2.1 338 = .ok (.iload_n 1, 1) := by decide +kernel
theorem dX11_next_339 : decode mX11_next.2.1 339 = .ok (.bipush 45, 2) := by decide +kernel
theorem dX11_next_341 : decode mX11_next.2.1 341 = .ok (.if_icmp .ne 7, 3) := by decide +kernel
theorem dX11_next_344 : decode mX11_next.2.1 344 = .ok (.iconst 3, 1) := by decide +kernel
theorem dX11_next_345 : decode mX11_next.2.1 345 = .ok (.goto 4, 3) := by decide +kernel
theorem dX11_next_348 : decode mX11_next.2.1 348 = .ok (.iconst 4, 1) := by decide +kernel
theorem dX11_next_349 : decode mX11_next.2.1 349 = .ok (.putfield 291, 3) := by decide +kernel
theorem dX11_next_352 : decode mX11_next.2.1 352 = .ok (.return_, 1) := by decide +kernel
theorem dX11_spelled_0 : decode mX11_spelled.2.1 0 = .ok (.iload_n 0, 1) := by decide +kernel
theorem dX11_spelled_1 : decode mX11_spelled.2.1 1 = .ok (.i2l, 1) := by decide +kernel
theorem dX11_spelled_2 : decode mX11_spelled.2.1 2 = .ok (.ldc2_w 300, 3) := by decide +kernel
theorem dX11_spelled_5 : decode mX11_spelled.2.1 5 = .ok (.lsub, 1) := by decide +kernel
theorem dX11_spelled_6 : decode mX11_spelled.2.1 6 = .ok (.lstore 6, 2) := by decide +kernel
theorem dX11_spelled_8 : decode mX11_spelled.2.1 8 = .ok (.lload 6, 2) := by decide +kernel
theorem dX11_spelled_10 : decode mX11_spelled.2.1 10 = .ok (.ldc2_w 262, 3) := by decide +kernel
theorem dX11_spelled_13 : decode mX11_spelled.2.1 13 = .ok (.lmul, 1) := by decide +kernel
theorem dX11_spelled_14 : decode mX11_spelled.2.1 14 = .ok (.iload_n 1, 1) := by decide +kernel
theorem dX11_spelled_15 : decode mX11_spelled.2.1 15 = .ok (.i2l, 1) := by decide +kernel
theorem dX11_spelled_16 : decode mX11_spelled.2.1 16 = .ok (.ladd, 1) := by decide +kernel
theorem dX11_spelled_17 : decode mX11_spelled.2.1 17 = .ok (.ldc2_w 300, 3) := by decide +kernel
theorem dX11_spelled_20 : decode mX11_spelled.2.1 20 = .ok (.lsub, 1) := by decide +kernel
theorem dX11_spelled_21 : decode mX11_spelled.2.1 21 = .ok (.lstore 6, 2) := by decide +kernel
theorem dX11_spelled_23 : decode mX11_spelled.2.1 23 = .ok (.iload_n 2, 1) := by decide +kernel
theorem dX11_spelled_24 : decode mX11_spelled.2.1 24 = .ok (.ifCond .le 19, 3) := by decide +kernel
theorem dX11_spelled_27 : decode mX11_spelled.2.1 27 = .ok (.lload 6, 2) := by decide +kernel
theorem dX11_spelled_29 : decode mX11_spelled.2.1 29 = .ok (.ldc2_w 262, 3) := by decide +kernel
theorem dX11_spelled_32 : decode mX11_spelled.2.1 32 = .ok (.lmul, 1) := by decide +kernel
theorem dX11_spelled_33 : decode mX11_spelled.2.1 33 = .ok (.iload_n 2, 1) := by decide +kernel
theorem dX11_spelled_34 : decode mX11_spelled.2.1 34 = .ok (.i2l, 1) := by decide +kernel
theorem dX11_spelled_35 : decode mX11_spelled.2.1 35 = .ok (.ladd, 1) := by decide +kernel
theorem dX11_spelled_36 : decode mX11_spelled.2.1 36 = .ok (.ldc2_w 300, 3) := by decide +kernel
theorem dX11_spelled_39 : decode mX11_spelled.2.1 39 = .ok (.lsub, 1) := by decide +kernel
theorem dX11_spelled_40 : decode mX11_spelled.2.1 40 = .ok (.goto 5, 3) := by decide +kernel
theorem dX11_spelled_43 : decode mX11_spelled.2.1 43 = .ok (.lload 6, 2) := by decide +kernel
theorem dX11_spelled_45 : decode mX11_spelled.2.1 45 = .ok (.lstore 6, 2) := by decide +kernel
theorem dX11_spelled_47 : decode mX11_spelled.2.1 47 = .ok (.iload_n 3, 1) := by decide +kernel
theorem dX11_spelled_48 : decode mX11_spelled.2.1 48 = .ok (.ifCond .le 19, 3) := by decide +kernel
theorem dX11_spelled_51 : decode mX11_spelled.2.1 51 = .ok (.lload 6, 2) := by decide +kernel
theorem dX11_spelled_53 : decode mX11_spelled.2.1 53 = .ok (.ldc2_w 262, 3) := by decide +kernel
theorem dX11_spelled_56 : decode mX11_spelled.2.1 56 = .ok (.lmul, 1) := by decide +kernel
theorem dX11_spelled_57 : decode mX11_spelled.2.1 57 = .ok (.iload_n 3, 1) := by decide +kernel
theorem dX11_spelled_58 : decode mX11_spelled.2.1 58 = .ok (.i2l, 1) := by decide +kernel
theorem dX11_spelled_59 : decode mX11_spelled.2.1 59 = .ok (.ladd, 1) := by decide +kernel
theorem dX11_spelled_60 : decode mX11_spelled.2.1 60 = .ok (.ldc2_w 300, 3) := by decide +kernel
theorem dX11_spelled_63 : decode mX11_spelled.2.1 63 = .ok (.lsub, 1) := by decide +kernel
theorem dX11_spelled_64 : decode mX11_spelled.2.1 64 = .ok (.goto 5, 3) := by decide +kernel
theorem dX11_spelled_67 : decode mX11_spelled.2.1 67 = .ok (.lload 6, 2) := by decide +kernel
theorem dX11_spelled_69 : decode mX11_spelled.2.1 69 = .ok (.lstore 6, 2) := by decide +kernel
theorem dX11_spelled_71 : decode mX11_spelled.2.1 71 = .ok (.iload 4, 2) := by decide +kernel
theorem dX11_spelled_73 : decode mX11_spelled.2.1 73 = .ok (.ifCond .le 20, 3) := by decide +kernel
theorem dX11_spelled_76 : decode mX11_spelled.2.1 76 = .ok (.lload 6, 2) := by decide +kernel
theorem dX11_spelled_78 : decode mX11_spelled.2.1 78 = .ok (.ldc2_w 262, 3) := by decide +kernel
theorem dX11_spelled_81 : decode mX11_spelled.2.1 81 = .ok (.lmul, 1) := by decide +kernel
theorem dX11_spelled_82 : decode mX11_spelled.2.1 82 = .ok (.iload 4, 2) := by decide +kernel
theorem dX11_spelled_84 : decode mX11_spelled.2.1 84 = .ok (.i2l, 1) := by decide +kernel
theorem dX11_spelled_85 : decode mX11_spelled.2.1 85 = .ok (.ladd, 1) := by decide +kernel
theorem dX11_spelled_86 : decode mX11_spelled.2.1 86 = .ok (.ldc2_w 300, 3) := by decide +kernel
theorem dX11_spelled_89 : decode mX11_spelled.2.1 89 = .ok (.lsub, 1) := by decide +kernel
theorem dX11_spelled_90 : decode mX11_spelled.2.1 90 = .ok (.goto 5, 3) := by decide +kernel
theorem dX11_spelled_93 : decode mX11_spelled.2.1 93 = .ok (.lload 6, 2) := by decide +kernel
theorem dX11_spelled_95 : decode mX11_spelled.2.1 95 = .ok (.lstore 6, 2) := by decide +kernel
theorem dX11_spelled_97 : decode mX11_spelled.2.1 97 = .ok (.iload 5, 2) := by decide +kernel
theorem dX11_spelled_99 : decode mX11_spelled.2.1 99 = .ok (.ifCond .le 20, 3) := by decide +kernel
theorem dX11_spelled_102 : decode mX11_spelled.2.1 102 = .ok (.lload 6, 2) := by decide +kernel
theorem dX11_spelled_104 : decode mX11_spelled.2.1 104 = .ok (.ldc2_w 262, 3) := by decide +kernel
theorem dX11_spelled_107 : decode mX11_spelled.2.1 107 = .ok (.lmul, 1) := by decide +kernel
theorem dX11_spelled_108 : decode mX11_spelled.2.1 108 = .ok (.iload 5, 2) := by decide +kernel
theorem dX11_spelled_110 : decode mX11_spelled.2.1 110 = .ok (.i2l, 1) := by decide +kernel
theorem dX11_spelled_111 : decode mX11_spelled.2.1 111 = .ok (.ladd, 1) := by decide +kernel
theorem dX11_spelled_112 : decode mX11_spelled.2.1 112 = .ok (.ldc2_w 300, 3) := by decide +kernel
theorem dX11_spelled_115 : decode mX11_spelled.2.1 115 = .ok (.lsub, 1) := by decide +kernel
theorem dX11_spelled_116 : decode mX11_spelled.2.1 116 = .ok (.goto 5, 3) := by decide +kernel
theorem dX11_spelled_119 : decode mX11_spelled.2.1 119 = .ok (.lload 6, 2) := by decide +kernel
theorem dX11_spelled_121 : decode mX11_spelled.2.1 121 = .ok (.lreturn, 1) := by decide +kernel
theorem dX11_isWord_0 : decode mX11_isWord.2.1 0 = .ok (.aload_n 0, 1) := by decide +kernel
theorem dX11_isWord_1 : decode mX11_isWord.2.1 1 = .ok (.getfield 291, 3) := by decide +kernel
theorem dX11_isWord_4 : decode mX11_isWord.2.1 4 = .ok (.iconst 1, 1) := by decide +kernel
theorem dX11_isWord_5 : decode mX11_isWord.2.1 5 = .ok (.if_icmp .ne 16, 3) := by decide +kernel
theorem dX11_isWord_8 : decode mX11_isWord.2.1 8 = .ok (.aload_n 0, 1) := by decide +kernel
theorem dX11_isWord_9 : decode mX11_isWord.2.1 9 = .ok (.getfield 297, 3) := by decide +kernel
theorem dX11_isWord_12 : decode mX11_isWord.2.1 12 = .ok (.lload_n 1, 1) := by decide +kernel
theorem dX11_isWord_13 : decode mX11_isWord.2.1 13 = .ok (.lcmp, 1) := by decide +kernel
theorem dX11_isWord_14 : decode mX11_isWord.2.1 14 = .ok (.ifCond .ne 7, 3) := by decide +kernel
theorem dX11_isWord_17 : decode mX11_isWord.2.1 17 = .ok (.iconst 1, 1) := by decide +kernel
theorem dX11_isWord_18 : decode mX11_isWord.2.1 18 = .ok (.goto 4, 3) := by decide +kernel
theorem dX11_isWord_21 : decode mX11_isWord.2.1 21 = .ok (.iconst 0, 1) := by decide +kernel
theorem dX11_isWord_22 : decode mX11_isWord.2.1 22 = .ok (.ireturn, 1) := by decide +kernel
theorem dX11_isSign_0 : decode mX11_isSign.2.1 0 = .ok (.aload_n 0, 1) := by decide +kernel
theorem dX11_isSign_1 : decode mX11_isSign.2.1 1 = .ok (.getfield 291, 3) := by decide +kernel
theorem dX11_isSign_4 : decode mX11_isSign.2.1 4 = .ok (.iconst 3, 1) := by decide +kernel
theorem dX11_isSign_5 : decode mX11_isSign.2.1 5 = .ok (.if_icmp .ne 15, 3) := by decide +kernel
theorem dX11_isSign_8 : decode mX11_isSign.2.1 8 = .ok (.aload_n 0, 1) := by decide +kernel
theorem dX11_isSign_9 : decode mX11_isSign.2.1 9 = .ok (.getfield 308, 3) := by decide +kernel
theorem dX11_isSign_12 : decode mX11_isSign.2.1 12 = .ok (.iload_n 1, 1) := by decide +kernel
theorem dX11_isSign_13 : decode mX11_isSign.2.1 13 = .ok (.if_icmp .ne 7, 3) := by decide +kernel
theorem dX11_isSign_16 : decode mX11_isSign.2.1 16 = .ok (.iconst 1, 1) := by decide +kernel
theorem dX11_isSign_17 : decode mX11_isSign.2.1 17 = .ok (.goto 4, 3) := by decide +kernel
theorem dX11_isSign_20 : decode mX11_isSign.2.1 20 = .ok (.iconst 0, 1) := by decide +kernel
theorem dX11_isSign_21 : decode mX11_isSign.2.1 21 = .ok (.ireturn, 1) := by decide +kernel
theorem dX11_fail_0 : decode mX11_fail.2.1 0 = .ok (.aload_n 0, 1) := by decide +kernel
theorem dX11_fail_1 : decode mX11_fail.2.1 1 = .ok (.getfield 311, 3) := by decide +kernel
theorem dX11_fail_4 : decode mX11_fail.2.1 4 = .ok (.ifCond .le 4, 3) := by decide +kernel
theorem dX11_fail_7 : decode mX11_fail.2.1 7 = .ok (.return_, 1) := by decide +kernel
theorem dX11_fail_8 : decode mX11_fail.2.1 8 = .ok (.aload_n 0, 1) := by decide +kernel
theorem dX11_fail_9 : decode mX11_fail.2.1 9 = .ok (.iload_n 1, 1) := by decide +kernel
theorem dX11_fail_10 : decode mX11_fail.2.1 10 = .ok (.putfield 311, 3) := by decide +kernel
theorem dX11_fail_13 : decode mX11_fail.2.1 13 = .ok (.aload_n 0, 1) := by decide +kernel
theorem dX11_fail_14 : decode mX11_fail.2.1 14 = .ok (.iload_n 2, 1) := by decide +kernel
theorem dX11_fail_15 : decode mX11_fail.2.1 15 = .ok (.putfield 314, 3) := by decide +kernel
theorem dX11_fail_18 : decode mX11_fail.2.1 18 = .ok (.return_, 1) := by decide +kernel
theorem dX11_wrong_0 : decode mX11_wrong.2.1 0 = .ok (.aload_n 0, 1) := by decide +kernel
theorem dX11_wrong_1 : decode mX11_wrong.2.1 1 = .ok (.aload_n 0, 1) := by decide +kernel
theorem dX11_wrong_2 : decode mX11_wrong.2.1 2 = .ok (.getfield 291, 3) := by decide +kernel
theorem dX11_wrong_5 : decode mX11_wrong.2.1 5 = .ok (.iconst 4, 1) := by decide +kernel
theorem dX11_wrong_6 : decode mX11_wrong.2.1 6 = .ok (.if_icmp .ne 7, 3) := by decide +kernel
theorem dX11_wrong_9 : decode mX11_wrong.2.1 9 = .ok (.iconst 1, 1) := by decide +kernel
theorem dX11_wrong_10 : decode mX11_wrong.2.1 10 = .ok (.goto 4, 3) := by decide +kernel
theorem dX11_wrong_13 : decode mX11_wrong.2.1 13 = .ok (.iconst 2, 1) := by decide +kernel
theorem dX11_wrong_14 : decode mX11_wrong.2.1 14 = .ok (.aload_n 0, 1) := by decide +kernel
theorem dX11_wrong_15 : decode mX11_wrong.2.1 15 = .ok (.getfield 285, 3) := by decide +kernel
theorem dX11_wrong_18 : decode mX11_wrong.2.1 18 = .ok (.invokevirtual 317, 3) := by decide +kernel
theorem dX11_wrong_21 : decode mX11_wrong.2.1 21 = .ok (.return_, 1) := by decide +kernel
theorem dX11_sign_0 : decode mX11_sign.2.1 0 = .ok (.aload_n 0, 1) := by decide +kernel
theorem dX11_sign_1 : decode mX11_sign.2.1 1 = .ok (.getfield 311, 3) := by decide +kernel
theorem dX11_sign_4 : decode mX11_sign.2.1 4 = .ok (.ifCond .le 4, 3) := by decide +kernel
theorem dX11_sign_7 : decode mX11_sign.2.1 7 = .ok (.return_, 1) := by decide +kernel
theorem dX11_sign_8 : decode mX11_sign.2.1 8 = .ok (.aload_n 0, 1) := by decide +kernel
theorem dX11_sign_9 : decode mX11_sign.2.1 9 = .ok (.iload_n 1, 1) := by decide +kernel
theorem dX11_sign_10 : decode mX11_sign.2.1 10 = .ok (.invokevirtual 321, 3) := by decide +kernel
theorem dX11_sign_13 : decode mX11_sign.2.1 13 = .ok (.ifCond .eq 10, 3) := by decide +kernel
theorem dX11_sign_16 : decode mX11_sign.2.1 16 = .ok (.aload_n 0, 1) := by decide +kernel
theorem dX11_sign_17 : decode mX11_sign.2.1 17 = .ok (.invokevirtual 324, 3) := by decide +kernel
theorem dX11_sign_20 : decode mX11_sign.2.1 20 = .ok (.goto 7, 3) := by decide +kernel
theorem dX11_sign_23 : decode mX11_sign.2.1 23 = .ok (.aload_n 0, 1) := by decide +kernel
theorem dX11_sign_24 : decode mX11_sign.2.1 24 = .ok (.invokevirtual 327, 3) := by decide +kernel
theorem dX11_sign_27 : decode mX11_sign.2.1 27 = .ok (.return_, 1) := by decide +kernel
theorem dX11_count_0 : decode mX11_count.2.1 0 = .ok (.aload_n 0, 1) := by decide +kernel
theorem dX11_count_1 : decode mX11_count.2.1 1 = .ok (.getfield 311, 3) := by decide +kernel
theorem dX11_count_4 : decode mX11_count.2.1 4 = .ok (.ifCond .ne 15, 3) := by decide +kernel
theorem dX11_count_7 : decode mX11_count.2.1 7 = .ok (.aload_n 0, 1) := by decide +kernel
theorem dX11_count_8 : decode mX11_count.2.1 8 = .ok (.getfield 291, 3) := by decide +kernel
theorem dX11_count_11 : decode mX11_count.2.1 11 = .ok (.iconst 2, 1) := by decide +kernel
theorem dX11_count_12 : decode mX11_count.2.1 12 = .ok (.if_icmp .eq 7, 3) := by decide +kernel
theorem dX11_count_15 : decode mX11_count.2.1 15 = .ok (.aload_n 0, 1) := by decide +kernel
theorem dX11_count_16 : decode mX11_count.2.1 16 = .ok (.invokevirtual 327, 3) := by decide +kernel
theorem dX11_count_19 : decode mX11_count.2.1 19 = .ok (.aload_n 0, 1) := by decide +kernel
theorem dX11_count_20 : decode mX11_count.2.1 20 = .ok (.getfield 311, 3) := by decide +kernel
theorem dX11_count_23 : decode mX11_count.2.1 23 = .ok (.ifCond .ne 27, 3) := by decide +kernel
theorem dX11_count_26 : decode mX11_count.2.1 26 = .ok (.aload_n 0, 1) := by decide +kernel
theorem dX11_count_27 : decode mX11_count.2.1 27 = .ok (.getfield 308, 3) := by decide +kernel
theorem dX11_count_30 : decode mX11_count.2.1 30 = .ok (.i2l, 1) := by decide +kernel
theorem dX11_count_31 : decode mX11_count.2.1 31 = .ok (.iload_n 1, 1) := by decide +kernel
theorem dX11_count_32 : decode mX11_count.2.1 32 = .ok (.i2l, 1) := by decide +kernel
theorem dX11_count_33 : decode mX11_count.2.1 33 = .ok (.iload_n 2, 1) := by decide +kernel
theorem dX11_count_34 : decode mX11_count.2.1 34 = .ok (.i2l, 1) := by decide +kernel
theorem dX11_count_35 : decode mX11_count.2.1 35 = .ok (.invokestatic 221, 3) := by decide +kernel
theorem dX11_count_38 : decode mX11_count.2.1 38 = .ok (.ifCond .ne 12, 3) := by decide +kernel
theorem dX11_count_41 : decode mX11_count.2.1 41 = .ok (.aload_n 0, 1) := by decide +kernel
theorem dX11_count_42 : decode mX11_count.2.1 42 = .ok (.iconst 4, 1) := by decide +kernel
theorem dX11_count_43 : decode mX11_count.2.1 43 = .ok (.aload_n 0, 1) := by decide +kernel
theorem dX11_count_44 : decode mX11_count.2.1 44 = .ok (.getfield 285, 3) := by decide +kernel
theorem dX11_count_47 : decode mX11_count.2.1 47 = .ok (.invokevirtual 317, 3) := by decide +kernel
theorem dX11_count_50 : decode mX11_count.2.1 50 = .ok (.aload_n 0, 1) := by decide +kernel
theorem dX11_count_51 : decode mX11_count.2.1 51 = .ok (.getfield 311, 3) := by decide +kernel
theorem dX11_count_54 : decode mX11_count.2.1 54 = .ok (.ifCond .le 5, 3) := by decide +kernel
theorem dX11_count_57 : decode mX11_count.2.1 57 = .ok (.iconst 0, 1) := by decide +kernel
theorem dX11_count_58 : decode mX11_count.2.1 58 = .ok (.ireturn, 1) := by decide +kernel
theorem dX11_count_59 : decode mX11_count.2.1 59 = .ok (.aload_n 0, 1) := by decide +kernel
theorem dX11_count_60 : decode mX11_count.2.1 60 = .ok (.getfield 308, 3) := by decide +kernel
theorem dX11_count_63 : decode mX11_count.2.1 63 = .ok (.istore_n 3, 1) := by decide +kernel
theorem dX11_count_64 : decode mX11_count.2.1 64 = .ok (.aload_n 0, 1) := by decide +kernel
theorem dX11_count_65 : decode mX11_count.2.1 65 = .ok (.invokevirtual 324, 3) := by decide +kernel
theorem dX11_count_68 : decode mX11_count.2.1 68 = .ok (.iload_n 3, 1) := by decide +kernel
theorem dX11_count_69 : decode mX11_count.2.1 69 = .ok (.ireturn, 1) := by decide +kernel
theorem dX11_orderKind_0 : decode mX11_orderKind.2.1 0 = .ok (.aload_n 0, 1) := by decide +kernel
theorem dX11_orderKind_1 : decode mX11_orderKind.2.1 1 = .ok (.bipush 103, 2) := by decide +kernel
theorem dX11_orderKind_3 : decode mX11_orderKind.2.1 3 = .ok (.bipush 111, 2) := by decide +kernel
theorem dX11_orderKind_5 : decode mX11_orderKind.2.1 5 = .ok (.iconst 0, 1) := by decide +kernel
theorem dX11_orderKind_6 : decode mX11_orderKind.2.1 6 = .ok (.iconst 0, 1) := by decide +kernel
theorem dX11_orderKind_7 : decode mX11_orderKind.2.1 7 = .ok (.iconst 0, 1) := by decide +kernel
theorem dX11_orderKind_8 : decode mX11_orderKind.2.1 8 = .ok (.iconst 0, 1) := by decide +kernel
theorem dX11_orderKind_9 : decode mX11_orderKind.2.1 9 = .ok (.invokestatic 330, 3) := by decide +kernel
theorem dX11_orderKind_12 : decode mX11_orderKind.2.1 12 = .ok (.invokevirtual 334, 3) := by decide +kernel
theorem dX11_orderKind_15 : decode mX11_orderKind.2.1 15 = .ok (.ifCond .eq 5, 3) := by decide +kernel
theorem dX11_orderKind_18 : decode mX11_orderKind.2.1 18 = .ok (.iconst 0, 1) := by decide +kernel
theorem dX11_orderKind_19 : decode mX11_orderKind.2.1 19 = .ok (.ireturn, 1) := by decide +kernel
theorem dX11_orderKind_20 : decode mX11_orderKind.2.1 20 = .ok (.aload_n 0, 1) := by decide +kernel
theorem dX11_orderKind_21 : decode mX11_orderKind.2.1 21 = .ok (.bipush 98, 2) := by decide +kernel
theorem dX11_orderKind_23 : decode mX11_orderKind.2.1 23 = .ok (.bipush 97, 2) := by decide +kernel
theorem dX11_orderKind_25 : decode mX11_orderKind.2.1 25 = .ok (.bipush 99, 2) := by decide +kernel
theorem dX11_orderKind_27 : decode mX11_orderKind.2.1 27 = .ok (.bipush 107, 2) := by decide +kernel
theorem dX11_orderKind_29 : decode mX11_orderKind.2.1 29 = .ok (.iconst 0, 1) := by decide +kernel
theorem dX11_orderKind_30 : decode mX11_orderKind.2.1 30 = .ok (.iconst 0, 1) := by decide +kernel
theorem dX11_orderKind_31 : decode mX11_orderKind.2.1 31 = .ok (.invokestatic 330, 3) := by decide +kernel
theorem dX11_orderKind_34 : decode mX11_orderKind.2.1 34 = .ok (.invokevirtual 334, 3) := by decide +kernel
theorem dX11_orderKind_37 : decode mX11_orderKind.2.1 37 = .ok (.ifCond .eq 5, 3) := by decide +kernel
theorem dX11_orderKind_40 : decode mX11_orderKind.2.1 40 = .ok (.iconst 1, 1) := by decide +kernel
theorem dX11_orderKind_41 : decode mX11_orderKind.2.1 41 = .ok (.ireturn, 1) := by decide +kernel
theorem dX11_orderKind_42 : decode mX11_orderKind.2.1 42 = .ok (.aload_n 0, 1) := by decide +kernel
theorem dX11_orderKind_43 : decode mX11_orderKind.2.1 43 = .ok (.bipush 109, 2) := by decide +kernel
theorem dX11_orderKind_45 : decode mX11_orderKind.2.1 45 = .ok (.bipush 97, 2) := by decide +kernel
theorem dX11_orderKind_47 : decode mX11_orderKind.2.1 47 = .ok (.bipush 114, 2) := by decide +kernel
theorem dX11_orderKind_49 : decode mX11_orderKind.2.1 49 = .ok (.bipush 107, 2) := by decide +kernel
theorem dX11_orderKind_51 : decode mX11_orderKind.2.1 51 = .ok (.iconst 0, 1) := by decide +kernel
theorem dX11_orderKind_52 : decode mX11_orderKind.2.1 52 = .ok (.iconst 0, 1) := by decide +kernel
theorem dX11_orderKind_53 : decode mX11_orderKind.2.1 53 = .ok (.invokestatic 330, 3) := by decide +kernel
theorem dX11_orderKind_56 : decode mX11_orderKind.2.1 56 = .ok (.invokevirtual 334, 3) := by decide +kernel
theorem dX11_orderKind_59 : decode mX11_orderKind.2.1 59 = .ok (.ifCond .eq 5, 3) := by decide +kernel
theorem dX11_orderKind_62 : decode mX11_orderKind.2.1 62 = .ok (.iconst 2, 1) := by decide +kernel
theorem dX11_orderKind_63 : decode mX11_orderKind.2.1 63 = .ok (.ireturn, 1) := by decide +kernel
theorem dX11_orderKind_64 : decode mX11_orderKind.2.1 64 = .ok (.aload_n 0, 1) := by decide +kernel
theorem dX11_orderKind_65 : decode mX11_orderKind.2.1 65 = .ok (.bipush 104, 2) := by decide +kernel
theorem dX11_orderKind_67 : decode mX11_orderKind.2.1 67 = .ok (.bipush 97, 2) := by decide +kernel
theorem dX11_orderKind_69 : decode mX11_orderKind.2.1 69 = .ok (.bipush 108, 2) := by decide +kernel
theorem dX11_orderKind_71 : decode mX11_orderKind.2.1 71 = .ok (.bipush 116, 2) := by decide +kernel
theorem dX11_orderKind_73 : decode mX11_orderKind.2.1 73 = .ok (.iconst 0, 1) := by decide +kernel
theorem dX11_orderKind_74 : decode mX11_orderKind.2.1 74 = .ok (.iconst 0, 1) := by decide +kernel
theorem dX11_orderKind_75 : decode mX11_orderKind.2.1 75 = .ok (.invokestatic 330, 3) := by decide +kernel
theorem dX11_orderKind_78 : decode mX11_orderKind.2.1 78 = .ok (.invokevirtual 334, 3) := by decide +kernel
theorem dX11_orderKind_81 : decode mX11_orderKind.2.1 81 = .ok (.ifCond .eq 5, 3) := by decide +kernel
theorem dX11_orderKind_84 : decode mX11_orderKind.2.1 84 = .ok (.iconst 3, 1) := by decide +kernel
theorem dX11_orderKind_85 : decode mX11_orderKind.2.1 85 = .ok (.ireturn, 1) := by decide +kernel
theorem dX11_orderKind_86 : decode mX11_orderKind.2.1 86 = .ok (.aload_n 0, 1) := by decide +kernel
theorem dX11_orderKind_87 : decode mX11_orderKind.2.1 87 = .ok (.bipush 102, 2) := by decide +kernel
theorem dX11_orderKind_89 : decode mX11_orderKind.2.1 89 = .ok (.bipush 111, 2) := by decide +kernel
theorem dX11_orderKind_91 : decode mX11_orderKind.2.1 91 = .ok (.bipush 108, 2) := by decide +kernel
theorem dX11_orderKind_93 : decode mX11_orderKind.2.1 93 = .ok (.bipush 108, 2) := by decide +kernel
theorem dX11_orderKind_95 : decode mX11_orderKind.2.1 95 = .ok (.bipush 111, 2) := by decide +kernel
theorem dX11_orderKind_97 : decode mX11_orderKind.2.1 97 = .ok (.bipush 119, 2) := by decide +kernel
theorem dX11_orderKind_99 : decode mX11_orderKind.2.1 99 = .ok (.invokestatic 330, 3) := by decide +kernel
theorem dX11_orderKind_102 : decode mX11_orderKind.2.1 102 = .ok (.invokevirtual 334, 3) := by decide +kernel
theorem dX11_orderKind_105 : decode mX11_orderKind.2.1 105 = .ok (.ifCond .eq 5, 3) := by decide +kernel
theorem dX11_orderKind_108 : decode mX11_orderKind.2.1 108 = .ok (.iconst 4, 1) := by decide +kernel
theorem dX11_orderKind_109 : decode mX11_orderKind.2.1 109 = .ok (.ireturn, 1) := by decide +kernel
theorem dX11_orderKind_110 : decode mX11_orderKind.2.1 110 = .ok (.aload_n 0, 1) := by decide +kernel
theorem dX11_orderKind_111 : decode mX11_orderKind.2.1 111 = .ok (.bipush 116, 2) := by decide +kernel
theorem dX11_orderKind_113 : decode mX11_orderKind.2.1 113 = .ok (.bipush 117, 2) := by decide +kernel
theorem dX11_orderKind_115 : decode mX11_orderKind.2.1 115 = .ok (.bipush 114, 2) := by decide +kernel
theorem dX11_orderKind_117 : decode mX11_orderKind.2.1 117 = .ok (.bipush 110, 2) := by decide +kernel
theorem dX11_orderKind_119 : decode mX11_orderKind.2.1 119 = .ok (.iconst 0, 1) := by decide +kernel
theorem dX11_orderKind_120 : decode mX11_orderKind.2.1 120 = .ok (.iconst 0, 1) := by decide +kernel
theorem dX11_orderKind_121 : decode mX11_orderKind.2.1 121 = .ok (.invokestatic 330, 3) := by decide +kernel
theorem dX11_orderKind_124 : decode mX11_orderKind.2.1 124 = .ok (.invokevirtual 334, 3) := by decide +kernel
theorem dX11_orderKind_127 : decode mX11_orderKind.2.1 127 = .ok (.ifCond .eq 5, 3) := by decide +kernel
theorem dX11_orderKind_130 : decode mX11_orderKind.2.1 130 = .ok (.iconst 5, 1) := by decide +kernel
theorem dX11_orderKind_131 : decode mX11_orderKind.2.1 131 = .ok (.ireturn, 1) := by decide +kernel
theorem dX11_orderKind_132 : decode mX11_orderKind.2.1 132 = .ok (.aload_n 0, 1) := by decide +kernel
theorem dX11_orderKind_133 : decode mX11_orderKind.2.1 133 = .ok (.bipush 119, 2) := by decide +kernel
theorem dX11_orderKind_135 : decode mX11_orderKind.2.1 135 = .ok (.bipush 104, 2) := by decide +kernel
theorem dX11_orderKind_137 : decode mX11_orderKind.2.1 137 = .ok (.bipush 101, 2) := by decide +kernel
theorem dX11_orderKind_139 : decode mX11_orderKind.2.1 139 = .ok (.bipush 101, 2) := by decide +kernel
theorem dX11_orderKind_141 : decode mX11_orderKind.2.1 141 = .ok (.bipush 108, 2) := by decide +kernel
theorem dX11_orderKind_143 : decode mX11_orderKind.2.1 143 = .ok (.iconst 0, 1) := by decide +kernel
theorem dX11_orderKind_144 : decode mX11_orderKind.2.1 144 = .ok (.invokestatic 330, 3) := by decide +kernel
theorem dX11_orderKind_147 : decode mX11_orderKind.2.1 147 = .ok (.invokevirtual 334, 3) := by decide +kernel
theorem dX11_orderKind_150 : decode mX11_orderKind.2.1 150 = .ok (.ifCond .eq 6, 3) := by decide +kernel
theorem dX11_orderKind_153 : decode mX11_orderKind.2.1 153 = .ok (.bipush 6, 2) := by decide +kernel
theorem dX11_orderKind_155 : decode mX11_orderKind.2.1 155 = .ok (.ireturn, 1) := by decide +kernel
theorem dX11_orderKind_156 : decode mX11_orderKind.2.1 156 = .ok (.aload_n 0, 1) := by decide +kernel
theorem dX11_orderKind_157 : decode mX11_orderKind.2.1 157 = .ok (.bipush 111, 2) := by decide +kernel
theorem dX11_orderKind_159 : decode mX11_orderKind.2.1 159 = .ok (.bipush 112, 2) := by decide +kernel
theorem dX11_orderKind_161 : decode mX11_orderKind.2.1 161 = .ok (.bipush 101, 2) := by decide +kernel
theorem dX11_orderKind_163 : decode mX11_orderKind.2.1 163 = .ok (.bipush 110, 2) := by decide +kernel
theorem dX11_orderKind_165 : decode mX11_orderKind.2.1 165 = .ok (.iconst 0, 1) := by decide +kernel
theorem dX11_orderKind_166 : decode mX11_orderKind.2.1 166 = .ok (.iconst 0, 1) := by decide +kernel
theorem dX11_orderKind_167 : decode mX11_orderKind.2.1 167 = .ok (.invokestatic 330, 3) := by decide +kernel
theorem dX11_orderKind_170 : decode mX11_orderKind.2.1 170 = .ok (.invokevirtual 334, 3) := by decide +kernel
theorem dX11_orderKind_173 : decode mX11_orderKind.2.1 173 = .ok (.ifCond .eq 6, 3) := by decide +kernel
theorem dX11_orderKind_176 : decode mX11_orderKind.2.1 176 = .ok (.bipush 7, 2) := by decide +kernel
theorem dX11_orderKind_178 : decode mX11_orderKind.2.1 178 = .ok (.ireturn, 1) := by decide +kernel
theorem dX11_orderKind_179 : decode mX11_orderKind.2.1 179 = .ok (.aload_n 0, 1) := by decide +kernel
theorem dX11_orderKind_180 : decode mX11_orderKind.2.1 180 = .ok (.bipush 99, 2) := by decide +kernel
theorem dX11_orderKind_182 : decode mX11_orderKind.2.1 182 = .ok (.bipush 108, 2) := by decide +kernel
theorem dX11_orderKind_184 : decode mX11_orderKind.2.1 184 = .ok (.bipush 111, 2) := by decide +kernel
theorem dX11_orderKind_186 : decode mX11_orderKind.2.1 186 = .ok (.bipush 115, 2) := by decide +kernel
theorem dX11_orderKind_188 : decode mX11_orderKind.2.1 188 = .ok (.bipush 101, 2) := by decide +kernel
theorem dX11_orderKind_190 : decode mX11_orderKind.2.1 190 = .ok (.iconst 0, 1) := by decide +kernel
theorem dX11_orderKind_191 : decode mX11_orderKind.2.1 191 = .ok (.invokestatic 330, 3) := by decide +kernel
theorem dX11_orderKind_194 : decode mX11_orderKind.2.1 194 = .ok (.invokevirtual 334, 3) := by decide +kernel
theorem dX11_orderKind_197 : decode mX11_orderKind.2.1 197 = .ok (.ifCond .eq 6, 3) := by decide +kernel
theorem dX11_orderKind_200 : decode mX11_orderKind.2.1 200 = .ok (.bipush 8, 2) := by decide +kernel
theorem dX11_orderKind_202 : decode mX11_orderKind.2.1 202 = .ok (.ireturn, 1) := by decide +kernel
theorem dX11_orderKind_203 : decode mX11_orderKind.2.1 203 = .ok (.aload_n 0, 1) := by decide +kernel
theorem dX11_orderKind_204 : decode mX11_orderKind.2.1 204 = .ok (.bipush 115, 2) := by decide +kernel
theorem dX11_orderKind_206 : decode mX11_orderKind.2.1 206 = .ok (.bipush 104, 2) := by decide +kernel
theorem dX11_orderKind_208 : decode mX11_orderKind.2.1 208 = .ok (.bipush 105, 2) := by decide +kernel
theorem dX11_orderKind_210 : decode mX11_orderKind.2.1 210 = .ok (.bipush 102, 2) := by decide +kernel
theorem dX11_orderKind_212 : decode mX11_orderKind.2.1 212 = .ok (.bipush 116, 2) := by decide +kernel
theorem dX11_orderKind_214 : decode mX11_orderKind.2.1 214 = .ok (.iconst 0, 1) := by decide +kernel
theorem dX11_orderKind_215 : decode mX11_orderKind.2.1 215 = .ok (.invokestatic 330, 3) := by decide +kernel
theorem dX11_orderKind_218 : decode mX11_orderKind.2.1 218 = .ok (.invokevirtual 334, 3) := by decide +kernel
theorem dX11_orderKind_221 : decode mX11_orderKind.2.1 221 = .ok (.ifCond .eq 6, 3) := by decide +kernel
theorem dX11_orderKind_224 : decode mX11_orderKind.2.1 224 = .ok (.bipush 9, 2) := by decide +kernel
theorem dX11_orderKind_226 : decode mX11_orderKind.2.1 226 = .ok (.ireturn, 1) := by decide +kernel
theorem dX11_orderKind_227 : decode mX11_orderKind.2.1 227 = .ok (.aload_n 0, 1) := by decide +kernel
theorem dX11_orderKind_228 : decode mX11_orderKind.2.1 228 = .ok (.bipush 97, 2) := by decide +kernel
theorem dX11_orderKind_230 : decode mX11_orderKind.2.1 230 = .ok (.bipush 103, 2) := by decide +kernel
theorem dX11_orderKind_232 : decode mX11_orderKind.2.1 232 = .ok (.bipush 97, 2) := by decide +kernel
theorem dX11_orderKind_234 : decode mX11_orderKind.2.1 234 = .ok (.bipush 105, 2) := by decide +kernel
theorem dX11_orderKind_236 : decode mX11_orderKind.2.1 236 = .ok (.bipush 110, 2) := by decide +kernel
theorem dX11_orderKind_238 : decode mX11_orderKind.2.1 238 = .ok (.iconst 0, 1) := by decide +kernel
theorem dX11_orderKind_239 : decode mX11_orderKind.2.1 239 = .ok (.invokestatic 330, 3) := by decide +kernel
theorem dX11_orderKind_242 : decode mX11_orderKind.2.1 242 = .ok (.invokevirtual 334, 3) := by decide +kernel
theorem dX11_orderKind_245 : decode mX11_orderKind.2.1 245 = .ok (.ifCond .eq 8, 3) := by decide +kernel
theorem dX11_orderKind_248 : decode mX11_orderKind.2.1 248 = .ok (.bipush 10, 2) := by decide +kernel
theorem dX11_orderKind_250 : decode mX11_orderKind.2.1 250 = .ok (.goto 4, 3) := by decide +kernel
theorem dX11_orderKind_253 : decode mX11_orderKind.2.1 253 = .ok (.iconst (-1), 1) := by decide +kernel
theorem dX11_orderKind_254 : decode mX11_orderKind.2.1 254 = .ok (.ireturn, 1) := by decide +kernel
theorem dX11_readWhole_0 : decode mX11_readWhole.2.1 0 = .ok (.aload_n 0, 1) := by decide +kernel
theorem dX11_readWhole_1 : decode mX11_readWhole.2.1 1 = .ok (.getfield 311, 3) := by decide +kernel
theorem dX11_readWhole_4 : decode mX11_readWhole.2.1 4 = .ok (.ifCond .ne 16, 3) := by decide +kernel
theorem dX11_readWhole_7 : decode mX11_readWhole.2.1 7 = .ok (.aload_n 0, 1) := by decide +kernel
theorem dX11_readWhole_8 : decode mX11_readWhole.2.1 8 = .ok (.bipush 45, 2) := by decide +kernel
theorem dX11_readWhole_10 : decode mX11_readWhole.2.1 10 = .ok (.invokevirtual 321, 3) := by decide +kernel
theorem dX11_readWhole_13 : decode mX11_readWhole.2.1 13 = .ok (.ifCond .eq 7, 3) := by decide +kernel
theorem dX11_readWhole_16 : decode mX11_readWhole.2.1 16 = .ok (.iconst 1, 1) := by decide +kernel
theorem dX11_readWhole_17 : decode mX11_readWhole.2.1 17 = .ok (.goto 4, 3) := by decide +kernel
theorem dX11_readWhole_20 : decode mX11_readWhole.2.1 20 = .ok (.iconst 0, 1) := by decide +kernel
theorem dX11_readWhole_21 : decode mX11_readWhole.2.1 21 = .ok (.istore_n 1, 1) := by decide +kernel
theorem dX11_readWhole_22 : decode mX11_readWhole.2.1 22 = .ok (.iload_n 1, 1) := by decide +kernel
theorem dX11_readWhole_23 : decode mX11_readWhole.2.1 23 = .ok (.ifCond .eq 7, 3) := by decide +kernel
theorem dX11_readWhole_26 : decode mX11_readWhole.2.1 26 = .ok (.aload_n 0, 1) := by decide +kernel
theorem dX11_readWhole_27 : decode mX11_readWhole.2.1 27 = .ok (.invokevirtual 324, 3) := by decide +kernel
theorem dX11_readWhole_30 : decode mX11_readWhole.2.1 30 = .ok (.aload_n 0, 1) := by decide +kernel
theorem dX11_readWhole_31 : decode mX11_readWhole.2.1 31 = .ok (.iconst 0, 1) := by decide +kernel
theorem dX11_readWhole_32 : decode mX11_readWhole.2.1 32 = .ok (.bipush 59, 2) := by decide +kernel
theorem dX11_readWhole_34 : decode mX11_readWhole.2.1 34 = .ok (.invokevirtual 337, 3) := by decide +kernel
theorem dX11_readWhole_37 : decode mX11_readWhole.2.1 37 = .ok (.istore_n 2, 1) := by decide +kernel
theorem dX11_readWhole_38 : decode mX11_readWhole.2.1 38 = .ok (.iload_n 1, 1) := by decide +kernel
theorem dX11_readWhole_39 : decode mX11_readWhole.2.1 39 = .ok (.ifCond .eq 8, 3) := by decide +kernel
theorem dX11_readWhole_42 : decode mX11_readWhole.2.1 42 = .ok (.iload_n 2, 1) := by decide +kernel
theorem dX11_readWhole_43 : decode mX11_readWhole.2.1 43 = .ok (.ineg, 1) := by decide +kernel
theorem dX11_readWhole_44 : decode mX11_readWhole.2.1 44 = .ok (.goto 4, 3) := by decide +kernel
theorem dX11_readWhole_47 : decode mX11_readWhole.2.1 47 = .ok (.iload_n 2, 1) := by decide +kernel
theorem dX11_readWhole_48 : decode mX11_readWhole.2.1 48 = .ok (.ireturn, 1) := by decide +kernel
theorem dX11_readOrder_0 : decode mX11_readOrder.2.1 0 = .ok (.aload_n 0, 1) := by decide +kernel
theorem dX11_readOrder_1 : decode mX11_readOrder.2.1 1 = .ok (.invokevirtual 340, 3) := by decide +kernel
theorem dX11_readOrder_4 : decode mX11_readOrder.2.1 4 = .ok (.istore_n 2, 1) := by decide +kernel
theorem dX11_readOrder_5 : decode mX11_readOrder.2.1 5 = .ok (.iload_n 2, 1) := by decide +kernel
theorem dX11_readOrder_6 : decode mX11_readOrder.2.1 6 = .ok (.ifCond .ge 7, 3) := by decide +kernel
theorem dX11_readOrder_9 : decode mX11_readOrder.2.1 9 = .ok (.aload_n 0, 1) := by decide +kernel
theorem dX11_readOrder_10 : decode mX11_readOrder.2.1 10 = .ok (.invokevirtual 327, 3) := by decide +kernel
theorem dX11_readOrder_13 : decode mX11_readOrder.2.1 13 = .ok (.aload_n 0, 1) := by decide +kernel
theorem dX11_readOrder_14 : decode mX11_readOrder.2.1 14 = .ok (.getfield 311, 3) := by decide +kernel
theorem dX11_readOrder_17 : decode mX11_readOrder.2.1 17 = .ok (.ifCond .ne 21, 3) := by decide +kernel
theorem dX11_readOrder_20 : decode mX11_readOrder.2.1 20 = .ok (.aload_n 0, 1) := by decide +kernel
theorem dX11_readOrder_21 : decode mX11_readOrder.2.1 21 = .ok (.getfield 344, 3) := by decide +kernel
theorem dX11_readOrder_24 : decode mX11_readOrder.2.1 24 = .ok (.bipush 60, 2) := by decide +kernel
theorem dX11_readOrder_26 : decode mX11_readOrder.2.1 26 = .ok (.if_icmp .ne 12, 3) := by decide +kernel
theorem dX11_readOrder_29 : decode mX11_readOrder.2.1 29 = .ok (.aload_n 0, 1) := by decide +kernel
theorem dX11_readOrder_30 : decode mX11_readOrder.2.1 30 = .ok (.iconst 5, 1) := by decide +kernel
theorem dX11_readOrder_31 : decode mX11_readOrder.2.1 31 = .ok (.aload_n 0, 1) := by decide +kernel
theorem dX11_readOrder_32 : decode mX11_readOrder.2.1 32 = .ok (.getfield 285, 3) := by decide +kernel
theorem dX11_readOrder_35 : decode mX11_readOrder.2.1 35 = .ok (.invokevirtual 317, 3) := by decide +kernel
theorem dX11_readOrder_38 : decode mX11_readOrder.2.1 38 = .ok (.aload_n 0, 1) := by decide +kernel
theorem dX11_readOrder_39 : decode mX11_readOrder.2.1 39 = .ok (.getfield 311, 3) := by decide +kernel
theorem dX11_readOrder_42 : decode mX11_readOrder.2.1 42 = .ok (.ifCond .ne 24, 3) := by decide +kernel
theorem dX11_readOrder_45 : decode mX11_readOrder.2.1 45 = .ok (.iload_n 2, 1) := by decide +kernel
theorem dX11_readOrder_46 : decode mX11_readOrder.2.1 46 = .ok (.bipush 10, 2) := by decide +kernel
theorem dX11_readOrder_48 : decode mX11_readOrder.2.1 48 = .ok (.if_icmp .ne 18, 3) := by decide +kernel
theorem dX11_readOrder_51 : decode mX11_readOrder.2.1 51 = .ok (.iload_n 1, 1) := by decide +kernel
theorem dX11_readOrder_52 : decode mX11_readOrder.2.1 52 = .ok (.iconst 3, 1) := by decide +kernel
theorem dX11_readOrder_53 : decode mX11_readOrder.2.1 53 = .ok (.if_icmp .ne 13, 3) := by decide +kernel
theorem dX11_readOrder_56 : decode mX11_readOrder.2.1 56 = .ok (.aload_n 0, 1) := by decide +kernel
theorem dX11_readOrder_57 : decode mX11_readOrder.2.1 57 = .ok (.bipush 6, 2) := by decide +kernel
theorem dX11_readOrder_59 : decode mX11_readOrder.2.1 59 = .ok (.aload_n 0, 1) := by decide +kernel
theorem dX11_readOrder_60 : decode mX11_readOrder.2.1 60 = .ok (.getfield 285, 3) := by decide +kernel
theorem dX11_readOrder_63 : decode mX11_readOrder.2.1 63 = .ok (.invokevirtual 317, 3) := by decide +kernel
theorem dX11_readOrder_66 : decode mX11_readOrder.2.1 66 = .ok (.aload_n 0, 1) := by decide +kernel
theorem dX11_readOrder_67 : decode mX11_readOrder.2.1 67 = .ok (.getfield 311, 3) := by decide +kernel
theorem dX11_readOrder_70 : decode mX11_readOrder.2.1 70 = .ok (.ifCond .le 4, 3) := by decide +kernel
theorem dX11_readOrder_73 : decode mX11_readOrder.2.1 73 = .ok (.return_, 1) := by decide +kernel
theorem dX11_readOrder_74 : decode mX11_readOrder.2.1 74 = .ok (.aload_n 0, 1) := by decide +kernel
theorem dX11_readOrder_75 : decode mX11_readOrder.2.1 75 = .ok (.getfield 344, 3) := by decide +kernel
theorem dX11_readOrder_78 : decode mX11_readOrder.2.1 78 = .ok (.istore_n 3, 1) := by decide +kernel
theorem dX11_readOrder_79 : decode mX11_readOrder.2.1 79 = .ok (.aload_n 0, 1) := by decide +kernel
theorem dX11_readOrder_80 : decode mX11_readOrder.2.1 80 = .ok (.dup, 1) := by decide +kernel
theorem dX11_readOrder_81 : decode mX11_readOrder.2.1 81 = .ok (.getfield 344, 3) := by decide +kernel
theorem dX11_readOrder_84 : decode mX11_readOrder.2.1 84 = .ok (.iconst 1, 1) := by decide +kernel
theorem dX11_readOrder_85 : decode mX11_readOrder.2.1 85 = .ok (.iadd, 1) := by decide +kernel
theorem dX11_readOrder_86 : decode mX11_readOrder.2.1 86 = .ok (.putfield 344, 3) := by decide +kernel
theorem dX11_readOrder_89 : decode mX11_readOrder.2.1 89 = .ok (.aload_n 0, 1) := by decide +kernel
theorem dX11_readOrder_90 : decode mX11_readOrder.2.1 90 = .ok (.getfield 93, 3) := by decide +kernel
theorem dX11_readOrder_93 : decode mX11_readOrder.2.1 93 = .ok (.iload_n 3, 1) := by decide +kernel
theorem dX11_readOrder_94 : decode mX11_readOrder.2.1 94 = .ok (.iload_n 2, 1) := by decide +kernel
theorem dX11_readOrder_95 : decode mX11_readOrder.2.1 95 = .ok (.iastore, 1) := by decide +kernel
theorem dX11_readOrder_96 : decode mX11_readOrder.2.1 96 = .ok (.aload_n 0, 1) := by decide +kernel
theorem dX11_readOrder_97 : decode mX11_readOrder.2.1 97 = .ok (.getfield 105, 3) := by decide +kernel
theorem dX11_readOrder_100 : decode mX11_readOrder.2.1 100 = .ok (.iload_n 3, 1) := by decide +kernel
theorem dX11_readOrder_101 : decode mX11_readOrder.2.1 101 = .ok (.aload_n 0, 1) := by decide +kernel
theorem dX11_readOrder_102 : decode mX11_readOrder.2.1 102 = .ok (.getfield 285, 3) := by decide +kernel
theorem dX11_readOrder_105 : decode mX11_readOrder.2.1 105 = .ok (.iastore, 1) := by decide +kernel
theorem dX11_readOrder_106 : decode mX11_readOrder.2.1 106 = .ok (.aload_n 0, 1) := by decide +kernel
theorem dX11_readOrder_107 : decode mX11_readOrder.2.1 107 = .ok (.getfield 99, 3) := by decide +kernel
theorem dX11_readOrder_110 : decode mX11_readOrder.2.1 110 = .ok (.iload_n 3, 1) := by decide +kernel
theorem dX11_readOrder_111 : decode mX11_readOrder.2.1 111 = .ok (.iconst 0, 1) := by decide +kernel
theorem dX11_readOrder_112 : decode mX11_readOrder.2.1 112 = .ok (.iastore, 1) := by decide +kernel
theorem dX11_readOrder_113 : decode mX11_readOrder.2.1 113 = .ok (.aload_n 0, 1) := by decide +kernel
theorem dX11_readOrder_114 : decode mX11_readOrder.2.1 114 = .ok (.getfield 102, 3) := by decide +kernel
theorem dX11_readOrder_117 : decode mX11_readOrder.2.1 117 = .ok (.iload_n 3, 1) := by decide +kernel
theorem dX11_readOrder_118 : decode mX11_readOrder.2.1 118 = .ok (.iconst 0, 1) := by decide +kernel
theorem dX11_readOrder_119 : decode mX11_readOrder.2.1 119 = .ok (.iastore, 1) := by decide +kernel
theorem dX11_readOrder_120 : decode mX11_readOrder.2.1 120 = .ok (.aload_n 0, 1) := by decide +kernel
theorem dX11_readOrder_121 : decode mX11_readOrder.2.1 121 = .ok (.invokevirtual 324, 3) := by decide +kernel
theorem dX11_readOrder_124 : decode mX11_readOrder.2.1 124 = .ok (.iload_n 2, 1) := by decide +kernel
theorem dX11_readOrder_125 : decode mX11_readOrder.2.1 125 = .ok (.bipush 10, 2) := by decide +kernel
theorem dX11_readOrder_127 : decode mX11_readOrder.2.1 127 = .ok (.if_icmp .ne 62, 3) := by decide +kernel
theorem dX11_readOrder_130 : decode mX11_readOrder.2.1 130 = .ok (.aload_n 0, 1) := by decide +kernel
theorem dX11_readOrder_131 : decode mX11_readOrder.2.1 131 = .ok (.getfield 96, 3) := by decide +kernel
theorem dX11_readOrder_134 : decode mX11_readOrder.2.1 134 = .ok (.iload_n 3, 1) := by decide +kernel
theorem dX11_readOrder_135 : decode mX11_readOrder.2.1 135 = .ok (.aload_n 0, 1) := by decide +kernel
theorem dX11_readOrder_136 : decode mX11_readOrder.2.1 136 = .ok (.iconst 2, 1) := by decide +kernel
theorem dX11_readOrder_137 : decode mX11_readOrder.2.1 137 = .ok (.bipush 20, 2) := by decide +kernel
theorem dX11_readOrder_139 : decode mX11_readOrder.2.1 139 = .ok (.invokevirtual 337, 3) := by decide +kernel
theorem dX11_readOrder_142 : decode mX11_readOrder.2.1 142 = .ok (.iastore, 1) := by decide +kernel
theorem dX11_readOrder_143 : decode mX11_readOrder.2.1 143 = .ok (.aload_n 0, 1) := by decide +kernel
theorem dX11_readOrder_144 : decode mX11_readOrder.2.1 144 = .ok (.bipush 123, 2) := by decide +kernel
theorem dX11_readOrder_146 : decode mX11_readOrder.2.1 146 = .ok (.invokevirtual 347, 3) := by decide +kernel
theorem dX11_readOrder_149 : decode mX11_readOrder.2.1 149 = .ok (.aload_n 0, 1) := by decide +kernel
theorem dX11_readOrder_150 : decode mX11_readOrder.2.1 150 = .ok (.getfield 311, 3) := by decide +kernel
theorem dX11_readOrder_153 : decode mX11_readOrder.2.1 153 = .ok (.ifCond .ne 22, 3) := by decide +kernel
theorem dX11_readOrder_156 : decode mX11_readOrder.2.1 156 = .ok (.aload_n 0, 1) := by decide +kernel
theorem dX11_readOrder_157 : decode mX11_readOrder.2.1 157 = .ok (.bipush 125, 2) := by decide +kernel
theorem dX11_readOrder_159 : decode mX11_readOrder.2.1 159 = .ok (.invokevirtual 321, 3) := by decide +kernel
theorem dX11_readOrder_162 : decode mX11_readOrder.2.1 162 = .ok (.ifCond .ne 13, 3) := by decide +kernel
theorem dX11_readOrder_165 : decode mX11_readOrder.2.1 165 = .ok (.aload_n 0, 1) := by decide +kernel
theorem dX11_readOrder_166 : decode mX11_readOrder.2.1 166 = .ok (.iload_n 1, 1) := by decide +kernel
theorem dX11_readOrder_167 : decode mX11_readOrder.2.1 167 = .ok (.iconst 1, 1) := by decide +kernel
theorem dX11_readOrder_168 : decode mX11_readOrder.2.1 168 = .ok (.iadd, 1) := by decide +kernel
theorem dX11_readOrder_169 : decode mX11_readOrder.2.1 169 = .ok (.invokevirtual 351, 3) := by decide +kernel
theorem dX11_readOrder_172 : decode mX11_readOrder.2.1 172 = .ok (.goto (-23), 3) := by decide +kernel
theorem dX11_readOrder_175 : decode mX11_readOrder.2.1 175 = .ok (.aload_n 0, 1) := by decide +kernel
theorem dX11_readOrder_176 : decode mX11_readOrder.2.1 176 = .ok (.getfield 311, 3) := by decide +kernel
theorem dX11_readOrder_179 : decode mX11_readOrder.2.1 179 = .ok (.ifCond .ne 213, 3) := by decide +kernel
theorem dX11_readOrder_182 : decode mX11_readOrder.2.1 182 = .ok (.aload_n 0, 1) := by decide +kernel
theorem dX11_readOrder_183 : decode mX11_readOrder.2.1 183 = .ok (.invokevirtual 324, 3) := by decide +kernel
theorem dX11_readOrder_186 : decode mX11_readOrder.2.1 186 = .ok (.goto 206, 3) := by decide +kernel
theorem dX11_readOrder_189 : decode mX11_readOrder.2.1 189 = .ok (.iload_n 2, 1) := by decide +kernel
theorem dX11_readOrder_190 : decode mX11_readOrder.2.1 190 = .ok (.bipush 6, 2) := by decide +kernel
theorem dX11_readOrder_192 : decode mX11_readOrder.2.1 192 = .ok (.if_icmp .ne 95, 3) := by decide +kernel
theorem dX11_readOrder_195 : decode mX11_readOrder.2.1 195 = .ok (.aload_n 0, 1) := by decide +kernel
theorem dX11_readOrder_196 : decode mX11_readOrder.2.1 196 = .ok (.bipush 108, 2) := by decide +kernel
theorem dX11_readOrder_198 : decode mX11_readOrder.2.1 198 = .ok (.bipush 101, 2) := by decide +kernel
theorem dX11_readOrder_200 : decode mX11_readOrder.2.1 200 = .ok (.bipush 102, 2) := by decide +kernel
theorem dX11_readOrder_202 : decode mX11_readOrder.2.1 202 = .ok (.bipush 116, 2) := by decide +kernel
theorem dX11_readOrder_204 : decode mX11_readOrder.2.1 204 = .ok (.iconst 0, 1) := by decide +kernel
theorem dX11_readOrder_205 : decode mX11_readOrder.2.1 205 = .ok (.iconst 0, 1) := by decide +kernel
theorem dX11_readOrder_206 : decode mX11_readOrder.2.1 206 = .ok (.invokestatic 330, 3) := by decide +kernel
theorem dX11_readOrder_209 : decode mX11_readOrder.2.1 209 = .ok (.invokevirtual 334, 3) := by decide +kernel
theorem dX11_readOrder_212 : decode mX11_readOrder.2.1 212 = .ok (.istore 4, 2) := by decide +kernel
theorem dX11_readOrder_214 : decode mX11_readOrder.2.1 214 = .ok (.iload 4, 2) := by decide +kernel
theorem dX11_readOrder_216 : decode mX11_readOrder.2.1 216 = .ok (.ifCond .ne 28, 3) := by decide +kernel
theorem dX11_readOrder_219 : decode mX11_readOrder.2.1 219 = .ok (.aload_n 0, 1) := by decide +kernel
theorem dX11_readOrder_220 : decode mX11_readOrder.2.1 220 = .ok (.bipush 114, 2) := by decide +kernel
theorem dX11_readOrder_222 : decode mX11_readOrder.2.1 222 = .ok (.bipush 105, 2) := by decide +kernel
theorem dX11_readOrder_224 : decode mX11_readOrder.2.1 224 = .ok (.bipush 103, 2) := by decide +kernel
theorem dX11_readOrder_226 : decode mX11_readOrder.2.1 226 = .ok (.bipush 104, 2) := by decide +kernel
theorem dX11_readOrder_228 : decode mX11_readOrder.2.1 228 = .ok (.bipush 116, 2) := by decide +kernel
theorem dX11_readOrder_230 : decode mX11_readOrder.2.1 230 = .ok (.iconst 0, 1) := by decide +kernel
theorem dX11_readOrder_231 : decode mX11_readOrder.2.1 231 = .ok (.invokestatic 330, 3) := by decide +kernel
theorem dX11_readOrder_234 : decode mX11_readOrder.2.1 234 = .ok (.invokevirtual 334, 3) := by decide +kernel
theorem dX11_readOrder_237 : decode mX11_readOrder.2.1 237 = .ok (.ifCond .ne 7, 3) := by decide +kernel
theorem dX11_readOrder_240 : decode mX11_readOrder.2.1 240 = .ok (.aload_n 0, 1) := by decide +kernel
theorem dX11_readOrder_241 : decode mX11_readOrder.2.1 241 = .ok (.invokevirtual 327, 3) := by decide +kernel
theorem dX11_readOrder_244 : decode mX11_readOrder.2.1 244 = .ok (.aload_n 0, 1) := by decide +kernel
theorem dX11_readOrder_245 : decode mX11_readOrder.2.1 245 = .ok (.getfield 311, 3) := by decide +kernel
theorem dX11_readOrder_248 : decode mX11_readOrder.2.1 248 = .ok (.ifCond .ne 7, 3) := by decide +kernel
theorem dX11_readOrder_251 : decode mX11_readOrder.2.1 251 = .ok (.aload_n 0, 1) := by decide +kernel
theorem dX11_readOrder_252 : decode mX11_readOrder.2.1 252 = .ok (.invokevirtual 324, 3) := by decide +kernel
theorem dX11_readOrder_255 : decode mX11_readOrder.2.1 255 = .ok (.aload_n 0, 1) := by decide +kernel
theorem dX11_readOrder_256 : decode mX11_readOrder.2.1 256 = .ok (.getfield 99, 3) := by decide +kernel
theorem dX11_readOrder_259 : decode mX11_readOrder.2.1 259 = .ok (.iload_n 3, 1) := by decide +kernel
theorem dX11_readOrder_260 : decode mX11_readOrder.2.1 260 = .ok (.iload 4, 2) := by decide +kernel
theorem dX11_readOrder_262 : decode mX11_readOrder.2.1 262 = .ok (.ifCond .eq 7, 3) := by decide +kernel
theorem dX11_readOrder_265 : decode mX11_readOrder.2.1 265 = .ok (.iconst (-1), 1) := by decide +kernel
theorem dX11_readOrder_266 : decode mX11_readOrder.2.1 266 = .ok (.goto 4, 3) := by decide +kernel
theorem dX11_readOrder_269 : decode mX11_readOrder.2.1 269 = .ok (.iconst 1, 1) := by decide +kernel
theorem dX11_readOrder_270 : decode mX11_readOrder.2.1 270 = .ok (.iastore, 1) := by decide +kernel
theorem dX11_readOrder_271 : decode mX11_readOrder.2.1 271 = .ok (.aload_n 0, 1) := by decide +kernel
theorem dX11_readOrder_272 : decode mX11_readOrder.2.1 272 = .ok (.getfield 96, 3) := by decide +kernel
theorem dX11_readOrder_275 : decode mX11_readOrder.2.1 275 = .ok (.iload_n 3, 1) := by decide +kernel
theorem dX11_readOrder_276 : decode mX11_readOrder.2.1 276 = .ok (.aload_n 0, 1) := by decide +kernel
theorem dX11_readOrder_277 : decode mX11_readOrder.2.1 277 = .ok (.iconst 1, 1) := by decide +kernel
theorem dX11_readOrder_278 : decode mX11_readOrder.2.1 278 = .ok (.bipush 99, 2) := by decide +kernel
theorem dX11_readOrder_280 : decode mX11_readOrder.2.1 280 = .ok (.invokevirtual 337, 3) := by decide +kernel
theorem dX11_readOrder_283 : decode mX11_readOrder.2.1 283 = .ok (.iastore, 1) := by decide +kernel
theorem dX11_readOrder_284 : decode mX11_readOrder.2.1 284 = .ok (.goto 108, 3) := by decide +kernel
theorem dX11_readOrder_287 : decode mX11_readOrder.2.1 287 = .ok (.iload_n 2, 1) := by decide +kernel
theorem dX11_readOrder_288 : decode mX11_readOrder.2.1 288 = .ok (.bipush 9, 2) := by decide +kernel
theorem dX11_readOrder_290 : decode mX11_readOrder.2.1 290 = .ok (.if_icmp .ne 39, 3) := by decide +kernel
theorem dX11_readOrder_293 : decode mX11_readOrder.2.1 293 = .ok (.aload_n 0, 1) := by decide +kernel
theorem dX11_readOrder_294 : decode mX11_readOrder.2.1 294 = .ok (.getfield 99, 3) := by decide +kernel
theorem dX11_readOrder_297 : decode mX11_readOrder.2.1 297 = .ok (.iload_n 3, 1) := by decide +kernel
theorem dX11_readOrder_298 : decode mX11_readOrder.2.1 298 = .ok (.aload_n 0, 1) := by decide +kernel
theorem dX11_readOrder_299 : decode mX11_readOrder.2.1 299 = .ok (.invokevirtual 354, 3) := by decide +kernel
theorem dX11_readOrder_302 : decode mX11_readOrder.2.1 302 = .ok (.iastore, 1) := by decide +kernel
theorem dX11_readOrder_303 : decode mX11_readOrder.2.1 303 = .ok (.aload_n 0, 1) := by decide +kernel
theorem dX11_readOrder_304 : decode mX11_readOrder.2.1 304 = .ok (.getfield 102, 3) := by decide +kernel
theorem dX11_readOrder_307 : decode mX11_readOrder.2.1 307 = .ok (.iload_n 3, 1) := by decide +kernel
theorem dX11_readOrder_308 : decode mX11_readOrder.2.1 308 = .ok (.aload_n 0, 1) := by decide +kernel
theorem dX11_readOrder_309 : decode mX11_readOrder.2.1 309 = .ok (.invokevirtual 354, 3) := by decide +kernel
theorem dX11_readOrder_312 : decode mX11_readOrder.2.1 312 = .ok (.iastore, 1) := by decide +kernel
theorem dX11_readOrder_313 : decode mX11_readOrder.2.1 313 = .ok (.aload_n 0, 1) := by decide +kernel
theorem dX11_readOrder_314 : decode mX11_readOrder.2.1 314 = .ok (.getfield 96, 3) := by decide +kernel
theorem dX11_readOrder_317 : decode mX11_readOrder.2.1 317 = .ok (.iload_n 3, 1) := by decide +kernel
theorem dX11_readOrder_318 : decode mX11_readOrder.2.1 318 = .ok (.aload_n 0, 1) := by decide +kernel
theorem dX11_readOrder_319 : decode mX11_readOrder.2.1 319 = .ok (.iconst 1, 1) := by decide +kernel
theorem dX11_readOrder_320 : decode mX11_readOrder.2.1 320 = .ok (.bipush 99, 2) := by decide +kernel
theorem dX11_readOrder_322 : decode mX11_readOrder.2.1 322 = .ok (.invokevirtual 337, 3) := by decide +kernel
theorem dX11_readOrder_325 : decode mX11_readOrder.2.1 325 = .ok (.iastore, 1) := by decide +kernel
theorem dX11_readOrder_326 : decode mX11_readOrder.2.1 326 = .ok (.goto 66, 3) := by decide +kernel
theorem dX11_readOrder_329 : decode mX11_readOrder.2.1 329 = .ok (.iload_n 2, 1) := by decide +kernel
theorem dX11_readOrder_330 : decode mX11_readOrder.2.1 330 = .ok (.bipush 7, 2) := by decide +kernel
theorem dX11_readOrder_332 : decode mX11_readOrder.2.1 332 = .ok (.if_icmp .eq 9, 3) := by decide +kernel
theorem dX11_readOrder_335 : decode mX11_readOrder.2.1 335 = .ok (.iload_n 2, 1) := by decide +kernel
theorem dX11_readOrder_336 : decode mX11_readOrder.2.1 336 = .ok (.bipush 8, 2) := by decide +kernel
theorem dX11_readOrder_338 : decode mX11_readOrder.2.1 338 = .ok (.if_icmp .ne 31, 3) := by decide +kernel
theorem dX11_readOrder_341 : decode mX11_readOrder.2.1 341 = .ok (.aload_n 0, 1) := by decide +kernel
theorem dX11_readOrder_342 : decode mX11_readOrder.2.1 342 = .ok (.getfield 99, 3) := by decide +kernel
theorem dX11_readOrder_345 : decode mX11_readOrder.2.1 345 = .ok (.iload_n 3, 1) := by decide +kernel
theorem dX11_readOrder_346 : decode mX11_readOrder.2.1 346 = .ok (.aload_n 0, 1) := by decide +kernel
theorem dX11_readOrder_347 : decode mX11_readOrder.2.1 347 = .ok (.iconst 2, 1) := by decide +kernel
theorem dX11_readOrder_348 : decode mX11_readOrder.2.1 348 = .ok (.iconst 5, 1) := by decide +kernel
theorem dX11_readOrder_349 : decode mX11_readOrder.2.1 349 = .ok (.invokevirtual 337, 3) := by decide +kernel
theorem dX11_readOrder_352 : decode mX11_readOrder.2.1 352 = .ok (.iastore, 1) := by decide +kernel
theorem dX11_readOrder_353 : decode mX11_readOrder.2.1 353 = .ok (.aload_n 0, 1) := by decide +kernel
theorem dX11_readOrder_354 : decode mX11_readOrder.2.1 354 = .ok (.getfield 96, 3) := by decide +kernel
theorem dX11_readOrder_357 : decode mX11_readOrder.2.1 357 = .ok (.iload_n 3, 1) := by decide +kernel
theorem dX11_readOrder_358 : decode mX11_readOrder.2.1 358 = .ok (.aload_n 0, 1) := by decide +kernel
theorem dX11_readOrder_359 : decode mX11_readOrder.2.1 359 = .ok (.iconst 1, 1) := by decide +kernel
theorem dX11_readOrder_360 : decode mX11_readOrder.2.1 360 = .ok (.bipush 99, 2) := by decide +kernel
theorem dX11_readOrder_362 : decode mX11_readOrder.2.1 362 = .ok (.invokevirtual 337, 3) := by decide +kernel
theorem dX11_readOrder_365 : decode mX11_readOrder.2.1 365 = .ok (.iastore, 1) := by decide +kernel
theorem dX11_readOrder_366 : decode mX11_readOrder.2.1 366 = .ok (.goto 26, 3) := by decide +kernel
theorem dX11_readOrder_369 : decode mX11_readOrder.2.1 369 = .ok (.aload_n 0, 1) := by decide +kernel
theorem dX11_readOrder_370 : decode mX11_readOrder.2.1 370 = .ok (.getfield 96, 3) := by decide +kernel
theorem dX11_readOrder_373 : decode mX11_readOrder.2.1 373 = .ok (.iload_n 3, 1) := by decide +kernel
theorem dX11_readOrder_374 : decode mX11_readOrder.2.1 374 = .ok (.aload_n 0, 1) := by decide +kernel
theorem dX11_readOrder_375 : decode mX11_readOrder.2.1 375 = .ok (.iconst 1, 1) := by decide +kernel
theorem dX11_readOrder_376 : decode mX11_readOrder.2.1 376 = .ok (.iload_n 2, 1) := by decide +kernel
theorem dX11_readOrder_377 : decode mX11_readOrder.2.1 377 = .ok (.iconst 5, 1) := by decide +kernel
theorem dX11_readOrder_378 : decode mX11_readOrder.2.1 378 = .ok (.if_icmp .ne 8, 3) := by decide +kernel
theorem dX11_readOrder_381 : decode mX11_readOrder.2.1 381 = .ok (.bipush 7, 2) := by decide +kernel
theorem dX11_readOrder_383 : decode mX11_readOrder.2.1 383 = .ok (.goto 5, 3) := by decide +kernel
theorem dX11_readOrder_386 : decode mX11_readOrder.2.1 386 = .ok (.bipush 99, 2) := by decide +kernel
theorem dX11_readOrder_388 : decode mX11_readOrder.2.1 388 = .ok (.invokevirtual 337, 3) := by decide +kernel
theorem dX11_readOrder_391 : decode mX11_readOrder.2.1 391 = .ok (.iastore, 1) := by decide +kernel
theorem dX11_readOrder_392 : decode mX11_readOrder.2.1 392 = .ok (.aload_n 0, 1) := by decide +kernel
theorem dX11_readOrder_393 : decode mX11_readOrder.2.1 393 = .ok (.getfield 108, 3) := by decide +kernel
theorem dX11_readOrder_396 : decode mX11_readOrder.2.1 396 = .ok (.iload_n 3, 1) := by decide +kernel
theorem dX11_readOrder_397 : decode mX11_readOrder.2.1 397 = .ok (.aload_n 0, 1) := by decide +kernel
theorem dX11_readOrder_398 : decode mX11_readOrder.2.1 398 = .ok (.getfield 344, 3) := by decide +kernel
theorem dX11_readOrder_401 : decode mX11_readOrder.2.1 401 = .ok (.iastore, 1) := by decide +kernel
theorem dX11_readOrder_402 : decode mX11_readOrder.2.1 402 = .ok (.return_, 1) := by decide +kernel
theorem dX11_readLine_0 : decode mX11_readLine.2.1 0 = .ok (.aload_n 0, 1) := by decide +kernel
theorem dX11_readLine_1 : decode mX11_readLine.2.1 1 = .ok (.getfield 291, 3) := by decide +kernel
theorem dX11_readLine_4 : decode mX11_readLine.2.1 4 = .ok (.iconst 1, 1) := by decide +kernel
theorem dX11_readLine_5 : decode mX11_readLine.2.1 5 = .ok (.if_icmp .eq 8, 3) := by decide +kernel
theorem dX11_readLine_8 : decode mX11_readLine.2.1 8 = .ok (.aload_n 0, 1) := by decide +kernel
theorem dX11_readLine_9 : decode mX11_readLine.2.1 9 = .ok (.invokevirtual 327, 3) := by decide +kernel
theorem dX11_readLine_12 : decode mX11_readLine.2.1 12 = .ok (.return_, 1) := by decide +kernel
theorem dX11_readLine_13 : decode mX11_readLine.2.1 13 = .ok (.aload_n 0, 1) := by decide +kernel
theorem dX11_readLine_14 : decode mX11_readLine.2.1 14 = .ok (.getfield 302, 3) := by decide +kernel
theorem dX11_readLine_17 : decode mX11_readLine.2.1 17 = .ok (.bipush 8, 2) := by decide +kernel
theorem dX11_readLine_19 : decode mX11_readLine.2.1 19 = .ok (.if_icmp .le 7, 3) := by decide +kernel
theorem dX11_readLine_22 : decode mX11_readLine.2.1 22 = .ok (.iconst (-1), 1) := by decide +kernel
theorem dX11_readLine_23 : decode mX11_readLine.2.1 23 = .ok (.goto 11, 3) := by decide +kernel
theorem dX11_readLine_26 : decode mX11_readLine.2.1 26 = .ok (.aload_n 0, 1) := by decide +kernel
theorem dX11_readLine_27 : decode mX11_readLine.2.1 27 = .ok (.aload_n 0, 1) := by decide +kernel
theorem dX11_readLine_28 : decode mX11_readLine.2.1 28 = .ok (.getfield 297, 3) := by decide +kernel
theorem dX11_readLine_31 : decode mX11_readLine.2.1 31 = .ok (.invokevirtual 273, 3) := by decide +kernel
theorem dX11_readLine_34 : decode mX11_readLine.2.1 34 = .ok (.istore_n 1, 1) := by decide +kernel
theorem dX11_readLine_35 : decode mX11_readLine.2.1 35 = .ok (.iload_n 1, 1) := by decide +kernel
theorem dX11_readLine_36 : decode mX11_readLine.2.1 36 = .ok (.ifCond .ge 12, 3) := by decide +kernel
theorem dX11_readLine_39 : decode mX11_readLine.2.1 39 = .ok (.aload_n 0, 1) := by decide +kernel
theorem dX11_readLine_40 : decode mX11_readLine.2.1 40 = .ok (.iconst 3, 1) := by decide +kernel
theorem dX11_readLine_41 : decode mX11_readLine.2.1 41 = .ok (.aload_n 0, 1) := by decide +kernel
theorem dX11_readLine_42 : decode mX11_readLine.2.1 42 = .ok (.getfield 285, 3) := by decide +kernel
theorem dX11_readLine_45 : decode mX11_readLine.2.1 45 = .ok (.invokevirtual 317, 3) := by decide +kernel
theorem dX11_readLine_48 : decode mX11_readLine.2.1 48 = .ok (.iconst 0, 1) := by decide +kernel
theorem dX11_readLine_49 : decode mX11_readLine.2.1 49 = .ok (.istore_n 2, 1) := by decide +kernel
theorem dX11_readLine_50 : decode mX11_readLine.2.1 50 = .ok (.iload_n 2, 1) := by decide +kernel
theorem dX11_readLine_51 : decode mX11_readLine.2.1 51 = .ok (.aload_n 0, 1) := by decide +kernel
theorem dX11_readLine_52 : decode mX11_readLine.2.1 52 = .ok (.getfield 357, 3) := by decide +kernel
theorem dX11_readLine_55 : decode mX11_readLine.2.1 55 = .ok (.if_icmp .ge 28, 3) := by decide +kernel
theorem dX11_readLine_58 : decode mX11_readLine.2.1 58 = .ok (.aload_n 0, 1) := by decide +kernel
theorem dX11_readLine_59 : decode mX11_readLine.2.1 59 = .ok (.getfield 69, 3) := by decide +kernel
theorem dX11_readLine_62 : decode mX11_readLine.2.1 62 = .ok (.iload_n 2, 1) := by decide +kernel
theorem dX11_readLine_63 : decode mX11_readLine.2.1 63 = .ok (.iaload, 1) := by decide +kernel
theorem dX11_readLine_64 : decode mX11_readLine.2.1 64 = .ok (.iload_n 1, 1) := by decide +kernel
theorem dX11_readLine_65 : decode mX11_readLine.2.1 65 = .ok (.if_icmp .ne 12, 3) := by decide +kernel
theorem dX11_readLine_68 : decode mX11_readLine.2.1 68 = .ok (.aload_n 0, 1) := by decide +kernel
theorem dX11_readLine_69 : decode mX11_readLine.2.1 69 = .ok (.iconst 3, 1) := by decide +kernel
theorem dX11_readLine_70 : decode mX11_readLine.2.1 70 = .ok (.aload_n 0, 1) := by decide +kernel
theorem dX11_readLine_71 : decode mX11_readLine.2.1 71 = .ok (.getfield 285, 3) := by decide +kernel
theorem dX11_readLine_74 : decode mX11_readLine.2.1 74 = .ok (.invokevirtual 317, 3) := by decide +kernel
theorem dX11_readLine_77 : decode mX11_readLine.2.1 77 = .ok (.iinc 2 1, 3) := by decide +kernel
theorem dX11_readLine_80 : decode mX11_readLine.2.1 80 = .ok (.goto (-30), 3) := by decide +kernel
theorem dX11_readLine_83 : decode mX11_readLine.2.1 83 = .ok (.aload_n 0, 1) := by decide +kernel
theorem dX11_readLine_84 : decode mX11_readLine.2.1 84 = .ok (.getfield 311, 3) := by decide +kernel
theorem dX11_readLine_87 : decode mX11_readLine.2.1 87 = .ok (.ifCond .le 4, 3) := by decide +kernel
theorem dX11_readLine_90 : decode mX11_readLine.2.1 90 = .ok (.return_, 1) := by decide +kernel
theorem dX11_readLine_91 : decode mX11_readLine.2.1 91 = .ok (.aload_n 0, 1) := by decide +kernel
theorem dX11_readLine_92 : decode mX11_readLine.2.1 92 = .ok (.getfield 69, 3) := by decide +kernel
theorem dX11_readLine_95 : decode mX11_readLine.2.1 95 = .ok (.aload_n 0, 1) := by decide +kernel
theorem dX11_readLine_96 : decode mX11_readLine.2.1 96 = .ok (.getfield 357, 3) := by decide +kernel
theorem dX11_readLine_99 : decode mX11_readLine.2.1 99 = .ok (.iload_n 1, 1) := by decide +kernel
theorem dX11_readLine_100 : decode mX11_readLine.2.1 100 = .ok (.iastore, 1) := by decide +kernel
theorem dX11_readLine_101 : decode mX11_readLine.2.1 101 = .ok (.aload_n 0, 1) := by decide +kernel
theorem dX11_readLine_102 : decode mX11_readLine.2.1 102 = .ok (.getfield 66, 3) := by decide +kernel
theorem dX11_readLine_105 : decode mX11_readLine.2.1 105 = .ok (.aload_n 0, 1) := by decide +kernel
theorem dX11_readLine_106 : decode mX11_readLine.2.1 106 = .ok (.getfield 357, 3) := by decide +kernel
theorem dX11_readLine_109 : decode mX11_readLine.2.1 109 = .ok (.aload_n 0, 1) := by decide +kernel
theorem dX11_readLine_110 : decode mX11_readLine.2.1 110 = .ok (.getfield 37, 3) := by decide +kernel
theorem dX11_readLine_113 : decode mX11_readLine.2.1 113 = .ok (.iload_n 1, 1) := by decide +kernel
theorem dX11_readLine_114 : decode mX11_readLine.2.1 114 = .ok (.iaload, 1) := by decide +kernel
theorem dX11_readLine_115 : decode mX11_readLine.2.1 115 = .ok (.iastore, 1) := by decide +kernel
theorem dX11_readLine_116 : decode mX11_readLine.2.1 116 = .ok (.aload_n 0, 1) := by decide +kernel
theorem dX11_readLine_117 : decode mX11_readLine.2.1 117 = .ok (.invokevirtual 324, 3) := by decide +kernel
theorem dX11_readLine_120 : decode mX11_readLine.2.1 120 = .ok (.aload_n 0, 1) := by decide +kernel
theorem dX11_readLine_121 : decode mX11_readLine.2.1 121 = .ok (.bipush 58, 2) := by decide +kernel
theorem dX11_readLine_123 : decode mX11_readLine.2.1 123 = .ok (.invokevirtual 347, 3) := by decide +kernel
theorem dX11_readLine_126 : decode mX11_readLine.2.1 126 = .ok (.aload_n 0, 1) := by decide +kernel
theorem dX11_readLine_127 : decode mX11_readLine.2.1 127 = .ok (.getfield 311, 3) := by decide +kernel
theorem dX11_readLine_130 : decode mX11_readLine.2.1 130 = .ok (.ifCond .ne 20, 3) := by decide +kernel
theorem dX11_readLine_133 : decode mX11_readLine.2.1 133 = .ok (.aload_n 0, 1) := by decide +kernel
theorem dX11_readLine_134 : decode mX11_readLine.2.1 134 = .ok (.bipush 59, 2) := by decide +kernel
theorem dX11_readLine_136 : decode mX11_readLine.2.1 136 = .ok (.invokevirtual 321, 3) := by decide +kernel
theorem dX11_readLine_139 : decode mX11_readLine.2.1 139 = .ok (.ifCond .ne 11, 3) := by decide +kernel
theorem dX11_readLine_142 : decode mX11_readLine.2.1 142 = .ok (.aload_n 0, 1) := by decide +kernel
theorem dX11_readLine_143 : decode mX11_readLine.2.1 143 = .ok (.iconst 0, 1) := by decide +kernel
theorem dX11_readLine_144 : decode mX11_readLine.2.1 144 = .ok (.invokevirtual 351, 3) := by decide +kernel
