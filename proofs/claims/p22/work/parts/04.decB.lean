theorem d_Tr_loopCount_12 : dec m_Tr_loopCount 12 = .ok (.iload_n 1, 1) := by decide +kernel
theorem d_Tr_loopCount_13 : dec m_Tr_loopCount 13 = .ok (.aload_n 0, 1) := by decide +kernel
theorem d_Tr_loopCount_14 : dec m_Tr_loopCount 14 = .ok (.getfield 38, 3) := by decide +kernel
theorem d_Tr_loopCount_17 : dec m_Tr_loopCount 17 = .ok (.iload_n 2, 1) := by decide +kernel
theorem d_Tr_loopCount_18 : dec m_Tr_loopCount 18 = .ok (.invokevirtual 53, 3) := by decide +kernel
theorem d_Tr_loopCount_21 : dec m_Tr_loopCount 21 = .ok (.iadd, 1) := by decide +kernel
theorem d_Tr_loopCount_22 : dec m_Tr_loopCount 22 = .ok (.istore_n 1, 1) := by decide +kernel
theorem d_Tr_loopCount_23 : dec m_Tr_loopCount 23 = .ok (.iinc 2 1, 3) := by decide +kernel
theorem d_Tr_loopCount_26 : dec m_Tr_loopCount 26 = .ok (.goto (-22), 3) := by decide +kernel
theorem d_Tr_loopCount_29 : dec m_Tr_loopCount 29 = .ok (.iload_n 1, 1) := by decide +kernel
theorem d_Tr_loopCount_30 : dec m_Tr_loopCount 30 = .ok (.ireturn, 1) := by decide +kernel
theorem d_Tr_openedCount_0 : dec m_Tr_openedCount 0 = .ok (.iconst 0, 1) := by decide +kernel
theorem d_Tr_openedCount_1 : dec m_Tr_openedCount 1 = .ok (.istore_n 1, 1) := by decide +kernel
theorem d_Tr_openedCount_2 : dec m_Tr_openedCount 2 = .ok (.iconst 0, 1) := by decide +kernel
theorem d_Tr_openedCount_3 : dec m_Tr_openedCount 3 = .ok (.istore_n 2, 1) := by decide +kernel
theorem d_Tr_openedCount_4 : dec m_Tr_openedCount 4 = .ok (.iload_n 2, 1) := by decide +kernel
theorem d_Tr_openedCount_5 : dec m_Tr_openedCount 5 = .ok (.aload_n 0, 1) := by decide +kernel
theorem d_Tr_openedCount_6 : dec m_Tr_openedCount 6 = .ok (.getfield 49, 3) := by decide +kernel
theorem d_Tr_openedCount_9 : dec m_Tr_openedCount 9 = .ok (.if_icmp .ge 20, 3) := by decide +kernel
theorem d_Tr_openedCount_12 : dec m_Tr_openedCount 12 = .ok (.aload_n 0, 1) := by decide +kernel
theorem d_Tr_openedCount_13 : dec m_Tr_openedCount 13 = .ok (.iload_n 2, 1) := by decide +kernel
theorem d_Tr_openedCount_14 : dec m_Tr_openedCount 14 = .ok (.invokevirtual 109, 3) := by decide +kernel
theorem d_Tr_openedCount_17 : dec m_Tr_openedCount 17 = .ok (.ifCond .ne 6, 3) := by decide +kernel
theorem d_Tr_openedCount_20 : dec m_Tr_openedCount 20 = .ok (.iinc 1 1, 3) := by decide +kernel
theorem d_Tr_openedCount_23 : dec m_Tr_openedCount 23 = .ok (.iinc 2 1, 3) := by decide +kernel
theorem d_Tr_openedCount_26 : dec m_Tr_openedCount 26 = .ok (.goto (-22), 3) := by decide +kernel
theorem d_Tr_openedCount_29 : dec m_Tr_openedCount 29 = .ok (.iload_n 1, 1) := by decide +kernel
theorem d_Tr_openedCount_30 : dec m_Tr_openedCount 30 = .ok (.ireturn, 1) := by decide +kernel
theorem d_Tr_greatestDepth_0 : dec m_Tr_greatestDepth 0 = .ok (.iconst 0, 1) := by decide +kernel
theorem d_Tr_greatestDepth_1 : dec m_Tr_greatestDepth 1 = .ok (.istore_n 1, 1) := by decide +kernel
theorem d_Tr_greatestDepth_2 : dec m_Tr_greatestDepth 2 = .ok (.iconst 0, 1) := by decide +kernel
theorem d_Tr_greatestDepth_3 : dec m_Tr_greatestDepth 3 = .ok (.istore_n 2, 1) := by decide +kernel
theorem d_Tr_greatestDepth_4 : dec m_Tr_greatestDepth 4 = .ok (.iload_n 2, 1) := by decide +kernel
theorem d_Tr_greatestDepth_5 : dec m_Tr_greatestDepth 5 = .ok (.aload_n 0, 1) := by decide +kernel
theorem d_Tr_greatestDepth_6 : dec m_Tr_greatestDepth 6 = .ok (.getfield 49, 3) := by decide +kernel
theorem d_Tr_greatestDepth_9 : dec m_Tr_greatestDepth 9 = .ok (.if_icmp .ge 22, 3) := by decide +kernel
theorem d_Tr_greatestDepth_12 : dec m_Tr_greatestDepth 12 = .ok (.iload_n 1, 1) := by decide +kernel
theorem d_Tr_greatestDepth_13 : dec m_Tr_greatestDepth 13 = .ok (.aload_n 0, 1) := by decide +kernel
theorem d_Tr_greatestDepth_14 : dec m_Tr_greatestDepth 14 = .ok (.getfield 23, 3) := by decide +kernel
theorem d_Tr_greatestDepth_17 : dec m_Tr_greatestDepth 17 = .ok (.iload_n 2, 1) := by decide +kernel
theorem d_Tr_greatestDepth_18 : dec m_Tr_greatestDepth 18 = .ok (.invokevirtual 53, 3) := by decide +kernel
theorem d_Tr_greatestDepth_21 : dec m_Tr_greatestDepth 21 = .ok (.invokestatic 147, 3) := by decide +kernel
theorem d_Tr_greatestDepth_24 : dec m_Tr_greatestDepth 24 = .ok (.istore_n 1, 1) := by decide +kernel
theorem d_Tr_greatestDepth_25 : dec m_Tr_greatestDepth 25 = .ok (.iinc 2 1, 3) := by decide +kernel
theorem d_Tr_greatestDepth_28 : dec m_Tr_greatestDepth 28 = .ok (.goto (-24), 3) := by decide +kernel
theorem d_Tr_greatestDepth_31 : dec m_Tr_greatestDepth 31 = .ok (.iload_n 1, 1) := by decide +kernel
theorem d_Tr_greatestDepth_32 : dec m_Tr_greatestDepth 32 = .ok (.ireturn, 1) := by decide +kernel
theorem d_Cp_init_0 : dec m_Cp_init 0 = .ok (.aload_n 0, 1) := by decide +kernel
theorem d_Cp_init_1 : dec m_Cp_init 1 = .ok (.invokespecial 1, 3) := by decide +kernel
theorem d_Cp_init_4 : dec m_Cp_init 4 = .ok (.aload_n 0, 1) := by decide +kernel
theorem d_Cp_init_5 : dec m_Cp_init 5 = .ok (.new 7, 3) := by decide +kernel
theorem d_Cp_init_8 : dec m_Cp_init 8 = .ok (.dup, 1) := by decide +kernel
theorem d_Cp_init_9 : dec m_Cp_init 9 = .ok (.invokespecial 9, 3) := by decide +kernel
theorem d_Cp_init_12 : dec m_Cp_init 12 = .ok (.putfield 10, 3) := by decide +kernel
theorem d_Cp_init_15 : dec m_Cp_init 15 = .ok (.aload_n 0, 1) := by decide +kernel
theorem d_Cp_init_16 : dec m_Cp_init 16 = .ok (.new 7, 3) := by decide +kernel
theorem d_Cp_init_19 : dec m_Cp_init 19 = .ok (.dup, 1) := by decide +kernel
theorem d_Cp_init_20 : dec m_Cp_init 20 = .ok (.invokespecial 9, 3) := by decide +kernel
theorem d_Cp_init_23 : dec m_Cp_init 23 = .ok (.putfield 16, 3) := by decide +kernel
theorem d_Cp_init_26 : dec m_Cp_init 26 = .ok (.aload_n 0, 1) := by decide +kernel
theorem d_Cp_init_27 : dec m_Cp_init 27 = .ok (.iconst 0, 1) := by decide +kernel
theorem d_Cp_init_28 : dec m_Cp_init 28 = .ok (.putfield 19, 3) := by decide +kernel
theorem d_Cp_init_31 : dec m_Cp_init 31 = .ok (.aload_n 0, 1) := by decide +kernel
theorem d_Cp_init_32 : dec m_Cp_init 32 = .ok (.new 23, 3) := by decide +kernel
theorem d_Cp_init_35 : dec m_Cp_init 35 = .ok (.dup, 1) := by decide +kernel
theorem d_Cp_init_36 : dec m_Cp_init 36 = .ok (.invokespecial 25, 3) := by decide +kernel
theorem d_Cp_init_39 : dec m_Cp_init 39 = .ok (.putfield 26, 3) := by decide +kernel
theorem d_Cp_init_42 : dec m_Cp_init 42 = .ok (.aload_n 0, 1) := by decide +kernel
theorem d_Cp_init_43 : dec m_Cp_init 43 = .ok (.new 30, 3) := by decide +kernel
theorem d_Cp_init_46 : dec m_Cp_init 46 = .ok (.dup, 1) := by decide +kernel
theorem d_Cp_init_47 : dec m_Cp_init 47 = .ok (.invokespecial 32, 3) := by decide +kernel
theorem d_Cp_init_50 : dec m_Cp_init 50 = .ok (.putfield 33, 3) := by decide +kernel
theorem d_Cp_init_53 : dec m_Cp_init 53 = .ok (.aload_n 0, 1) := by decide +kernel
theorem d_Cp_init_54 : dec m_Cp_init 54 = .ok (.new 37, 3) := by decide +kernel
theorem d_Cp_init_57 : dec m_Cp_init 57 = .ok (.dup, 1) := by decide +kernel
theorem d_Cp_init_58 : dec m_Cp_init 58 = .ok (.aload_n 0, 1) := by decide +kernel
theorem d_Cp_init_59 : dec m_Cp_init 59 = .ok (.getfield 33, 3) := by decide +kernel
theorem d_Cp_init_62 : dec m_Cp_init 62 = .ok (.invokespecial 39, 3) := by decide +kernel
theorem d_Cp_init_65 : dec m_Cp_init 65 = .ok (.putfield 42, 3) := by decide +kernel
theorem d_Cp_init_68 : dec m_Cp_init 68 = .ok (.aload_n 0, 1) := by decide +kernel
theorem d_Cp_init_69 : dec m_Cp_init 69 = .ok (.new 46, 3) := by decide +kernel
theorem d_Cp_init_72 : dec m_Cp_init 72 = .ok (.dup, 1) := by decide +kernel
theorem d_Cp_init_73 : dec m_Cp_init 73 = .ok (.invokespecial 48, 3) := by decide +kernel
theorem d_Cp_init_76 : dec m_Cp_init 76 = .ok (.putfield 49, 3) := by decide +kernel
theorem d_Cp_init_79 : dec m_Cp_init 79 = .ok (.aload_n 0, 1) := by decide +kernel
theorem d_Cp_init_80 : dec m_Cp_init 80 = .ok (.new 53, 3) := by decide +kernel
theorem d_Cp_init_83 : dec m_Cp_init 83 = .ok (.dup, 1) := by decide +kernel
theorem d_Cp_init_84 : dec m_Cp_init 84 = .ok (.invokespecial 55, 3) := by decide +kernel
theorem d_Cp_init_87 : dec m_Cp_init 87 = .ok (.putfield 56, 3) := by decide +kernel
theorem d_Cp_init_90 : dec m_Cp_init 90 = .ok (.return_, 1) := by decide +kernel
theorem d_Cp_setPosition_0 : dec m_Cp_setPosition 0 = .ok (.iload_n 1, 1) := by decide +kernel
theorem d_Cp_setPosition_1 : dec m_Cp_setPosition 1 = .ok (.invokestatic 60, 3) := by decide +kernel
theorem d_Cp_setPosition_4 : dec m_Cp_setPosition 4 = .ok (.ifCond .ne 5, 3) := by decide +kernel
theorem d_Cp_setPosition_7 : dec m_Cp_setPosition 7 = .ok (.iconst (-1), 1) := by decide +kernel
theorem d_Cp_setPosition_8 : dec m_Cp_setPosition 8 = .ok (.ireturn, 1) := by decide +kernel
theorem d_Cp_setPosition_9 : dec m_Cp_setPosition 9 = .ok (.iload_n 2, 1) := by decide +kernel
theorem d_Cp_setPosition_10 : dec m_Cp_setPosition 10 = .ok (.ifCond .lt 17, 3) := by decide +kernel
theorem d_Cp_setPosition_13 : dec m_Cp_setPosition 13 = .ok (.iload_n 2, 1) := by decide +kernel
theorem d_Cp_setPosition_14 : dec m_Cp_setPosition 14 = .ok (.iconst 1, 1) := by decide +kernel
theorem d_Cp_setPosition_15 : dec m_Cp_setPosition 15 = .ok (.if_icmp .gt 12, 3) := by decide +kernel
theorem d_Cp_setPosition_18 : dec m_Cp_setPosition 18 = .ok (.iload_n 3, 1) := by decide +kernel
theorem d_Cp_setPosition_19 : dec m_Cp_setPosition 19 = .ok (.ifCond .lt 8, 3) := by decide +kernel
theorem d_Cp_setPosition_22 : dec m_Cp_setPosition 22 = .ok (.iload_n 3, 1) := by decide +kernel
theorem d_Cp_setPosition_23 : dec m_Cp_setPosition 23 = .ok (.iconst 2, 1) := by decide +kernel
theorem d_Cp_setPosition_24 : dec m_Cp_setPosition 24 = .ok (.if_icmp .le 6, 3) := by decide +kernel
theorem d_Cp_setPosition_27 : dec m_Cp_setPosition 27 = .ok (.bipush (-2), 2) := by decide +kernel
theorem d_Cp_setPosition_29 : dec m_Cp_setPosition 29 = .ok (.ireturn, 1) := by decide +kernel
theorem d_Cp_setPosition_30 : dec m_Cp_setPosition 30 = .ok (.aload_n 0, 1) := by decide +kernel
theorem d_Cp_setPosition_31 : dec m_Cp_setPosition 31 = .ok (.getfield 10, 3) := by decide +kernel
theorem d_Cp_setPosition_34 : dec m_Cp_setPosition 34 = .ok (.getfield 64, 3) := by decide +kernel
theorem d_Cp_setPosition_37 : dec m_Cp_setPosition 37 = .ok (.astore 4, 2) := by decide +kernel
theorem d_Cp_setPosition_39 : dec m_Cp_setPosition 39 = .ok (.aload 4, 2) := by decide +kernel
theorem d_Cp_setPosition_41 : dec m_Cp_setPosition 41 = .ok (.getfield 68, 3) := by decide +kernel
theorem d_Cp_setPosition_44 : dec m_Cp_setPosition 44 = .ok (.iload_n 1, 1) := by decide +kernel
theorem d_Cp_setPosition_45 : dec m_Cp_setPosition 45 = .ok (.invokevirtual 74, 3) := by decide +kernel
theorem d_Cp_setPosition_48 : dec m_Cp_setPosition 48 = .ok (.istore 5, 2) := by decide +kernel
theorem d_Cp_setPosition_50 : dec m_Cp_setPosition 50 = .ok (.iload 5, 2) := by decide +kernel
theorem d_Cp_setPosition_52 : dec m_Cp_setPosition 52 = .ok (.iload_n 3, 1) := by decide +kernel
theorem d_Cp_setPosition_53 : dec m_Cp_setPosition 53 = .ok (.if_icmp .ne 19, 3) := by decide +kernel
theorem d_Cp_setPosition_56 : dec m_Cp_setPosition 56 = .ok (.aload 4, 2) := by decide +kernel
theorem d_Cp_setPosition_58 : dec m_Cp_setPosition 58 = .ok (.getfield 80, 3) := by decide +kernel
theorem d_Cp_setPosition_61 : dec m_Cp_setPosition 61 = .ok (.iload_n 1, 1) := by decide +kernel
theorem d_Cp_setPosition_62 : dec m_Cp_setPosition 62 = .ok (.invokevirtual 74, 3) := by decide +kernel
theorem d_Cp_setPosition_65 : dec m_Cp_setPosition 65 = .ok (.iload_n 2, 1) := by decide +kernel
theorem d_Cp_setPosition_66 : dec m_Cp_setPosition 66 = .ok (.if_icmp .ne 6, 3) := by decide +kernel
theorem d_Cp_setPosition_69 : dec m_Cp_setPosition 69 = .ok (.bipush (-5), 2) := by decide +kernel
theorem d_Cp_setPosition_71 : dec m_Cp_setPosition 71 = .ok (.ireturn, 1) := by decide +kernel
theorem d_Cp_setPosition_72 : dec m_Cp_setPosition 72 = .ok (.aload_n 0, 1) := by decide +kernel
theorem d_Cp_setPosition_73 : dec m_Cp_setPosition 73 = .ok (.getfield 26, 3) := by decide +kernel
theorem d_Cp_setPosition_76 : dec m_Cp_setPosition 76 = .ok (.aload_n 0, 1) := by decide +kernel
theorem d_Cp_setPosition_77 : dec m_Cp_setPosition 77 = .ok (.getfield 10, 3) := by decide +kernel
theorem d_Cp_setPosition_80 : dec m_Cp_setPosition 80 = .ok (.invokevirtual 83, 3) := by decide +kernel
theorem d_Cp_setPosition_83 : dec m_Cp_setPosition 83 = .ok (.aload 4, 2) := by decide +kernel
theorem d_Cp_setPosition_85 : dec m_Cp_setPosition 85 = .ok (.getfield 80, 3) := by decide +kernel
theorem d_Cp_setPosition_88 : dec m_Cp_setPosition 88 = .ok (.iload_n 1, 1) := by decide +kernel
theorem d_Cp_setPosition_89 : dec m_Cp_setPosition 89 = .ok (.iload_n 2, 1) := by decide +kernel
theorem d_Cp_setPosition_90 : dec m_Cp_setPosition 90 = .ok (.invokevirtual 87, 3) := by decide +kernel
theorem d_Cp_setPosition_93 : dec m_Cp_setPosition 93 = .ok (.aload 4, 2) := by decide +kernel
theorem d_Cp_setPosition_95 : dec m_Cp_setPosition 95 = .ok (.getfield 68, 3) := by decide +kernel
theorem d_Cp_setPosition_98 : dec m_Cp_setPosition 98 = .ok (.iload_n 1, 1) := by decide +kernel
theorem d_Cp_setPosition_99 : dec m_Cp_setPosition 99 = .ok (.iload_n 3, 1) := by decide +kernel
theorem d_Cp_setPosition_100 : dec m_Cp_setPosition 100 = .ok (.invokevirtual 87, 3) := by decide +kernel
theorem d_Cp_setPosition_103 : dec m_Cp_setPosition 103 = .ok (.aload_n 0, 1) := by decide +kernel
theorem d_Cp_setPosition_104 : dec m_Cp_setPosition 104 = .ok (.getfield 10, 3) := by decide +kernel
theorem d_Cp_setPosition_107 : dec m_Cp_setPosition 107 = .ok (.getfield 91, 3) := by decide +kernel
theorem d_Cp_setPosition_110 : dec m_Cp_setPosition 110 = .ok (.invokevirtual 95, 3) := by decide +kernel
theorem d_Cp_setPosition_113 : dec m_Cp_setPosition 113 = .ok (.iload 5, 2) := by decide +kernel
theorem d_Cp_setPosition_115 : dec m_Cp_setPosition 115 = .ok (.ireturn, 1) := by decide +kernel
theorem d_Cp_guess_0 : dec m_Cp_guess 0 = .ok (.iload_n 1, 1) := by decide +kernel
theorem d_Cp_guess_1 : dec m_Cp_guess 1 = .ok (.invokestatic 60, 3) := by decide +kernel
theorem d_Cp_guess_4 : dec m_Cp_guess 4 = .ok (.ifCond .ne 5, 3) := by decide +kernel
theorem d_Cp_guess_7 : dec m_Cp_guess 7 = .ok (.iconst (-1), 1) := by decide +kernel
theorem d_Cp_guess_8 : dec m_Cp_guess 8 = .ok (.ireturn, 1) := by decide +kernel
theorem d_Cp_guess_9 : dec m_Cp_guess 9 = .ok (.iload_n 2, 1) := by decide +kernel
theorem d_Cp_guess_10 : dec m_Cp_guess 10 = .ok (.invokestatic 100, 3) := by decide +kernel
theorem d_Cp_guess_13 : dec m_Cp_guess 13 = .ok (.ifCond .eq 10, 3) := by decide +kernel
theorem d_Cp_guess_16 : dec m_Cp_guess 16 = .ok (.iload_n 3, 1) := by decide +kernel
theorem d_Cp_guess_17 : dec m_Cp_guess 17 = .ok (.invokestatic 100, 3) := by decide +kernel
theorem d_Cp_guess_20 : dec m_Cp_guess 20 = .ok (.ifCond .ne 6, 3) := by decide +kernel
theorem d_Cp_guess_23 : dec m_Cp_guess 23 = .ok (.bipush (-2), 2) := by decide +kernel
theorem d_Cp_guess_25 : dec m_Cp_guess 25 = .ok (.ireturn, 1) := by decide +kernel
theorem d_Cp_guess_26 : dec m_Cp_guess 26 = .ok (.aload_n 0, 1) := by decide +kernel
theorem d_Cp_guess_27 : dec m_Cp_guess 27 = .ok (.getfield 10, 3) := by decide +kernel
theorem d_Cp_guess_30 : dec m_Cp_guess 30 = .ok (.getfield 64, 3) := by decide +kernel
theorem d_Cp_guess_33 : dec m_Cp_guess 33 = .ok (.astore 4, 2) := by decide +kernel
theorem d_Cp_guess_35 : dec m_Cp_guess 35 = .ok (.aload 4, 2) := by decide +kernel
theorem d_Cp_guess_37 : dec m_Cp_guess 37 = .ok (.getfield 103, 3) := by decide +kernel
theorem d_Cp_guess_40 : dec m_Cp_guess 40 = .ok (.iload_n 1, 1) := by decide +kernel
theorem d_Cp_guess_41 : dec m_Cp_guess 41 = .ok (.invokevirtual 74, 3) := by decide +kernel
theorem d_Cp_guess_44 : dec m_Cp_guess 44 = .ok (.istore 5, 2) := by decide +kernel
theorem d_Cp_guess_46 : dec m_Cp_guess 46 = .ok (.iload 5, 2) := by decide +kernel
theorem d_Cp_guess_48 : dec m_Cp_guess 48 = .ok (.iload_n 2, 1) := by decide +kernel
theorem d_Cp_guess_49 : dec m_Cp_guess 49 = .ok (.if_icmp .ne 19, 3) := by decide +kernel
theorem d_Cp_guess_52 : dec m_Cp_guess 52 = .ok (.aload 4, 2) := by decide +kernel
theorem d_Cp_guess_54 : dec m_Cp_guess 54 = .ok (.getfield 106, 3) := by decide +kernel
theorem d_Cp_guess_57 : dec m_Cp_guess 57 = .ok (.iload_n 1, 1) := by decide +kernel
theorem d_Cp_guess_58 : dec m_Cp_guess 58 = .ok (.invokevirtual 74, 3) := by decide +kernel
theorem d_Cp_guess_61 : dec m_Cp_guess 61 = .ok (.iload_n 3, 1) := by decide +kernel
theorem d_Cp_guess_62 : dec m_Cp_guess 62 = .ok (.if_icmp .ne 6, 3) := by decide +kernel
theorem d_Cp_guess_65 : dec m_Cp_guess 65 = .ok (.bipush (-5), 2) := by decide +kernel
theorem d_Cp_guess_67 : dec m_Cp_guess 67 = .ok (.ireturn, 1) := by decide +kernel
theorem d_Cp_guess_68 : dec m_Cp_guess 68 = .ok (.aload_n 0, 1) := by decide +kernel
theorem d_Cp_guess_69 : dec m_Cp_guess 69 = .ok (.getfield 26, 3) := by decide +kernel
theorem d_Cp_guess_72 : dec m_Cp_guess 72 = .ok (.aload_n 0, 1) := by decide +kernel
theorem d_Cp_guess_73 : dec m_Cp_guess 73 = .ok (.getfield 10, 3) := by decide +kernel
theorem d_Cp_guess_76 : dec m_Cp_guess 76 = .ok (.invokevirtual 83, 3) := by decide +kernel
theorem d_Cp_guess_79 : dec m_Cp_guess 79 = .ok (.aload 4, 2) := by decide +kernel
theorem d_Cp_guess_81 : dec m_Cp_guess 81 = .ok (.getfield 103, 3) := by decide +kernel
theorem d_Cp_guess_84 : dec m_Cp_guess 84 = .ok (.iload_n 1, 1) := by decide +kernel
theorem d_Cp_guess_85 : dec m_Cp_guess 85 = .ok (.iload_n 2, 1) := by decide +kernel
theorem d_Cp_guess_86 : dec m_Cp_guess 86 = .ok (.invokevirtual 87, 3) := by decide +kernel
theorem d_Cp_guess_89 : dec m_Cp_guess 89 = .ok (.aload 4, 2) := by decide +kernel
theorem d_Cp_guess_91 : dec m_Cp_guess 91 = .ok (.getfield 106, 3) := by decide +kernel
theorem d_Cp_guess_94 : dec m_Cp_guess 94 = .ok (.iload_n 1, 1) := by decide +kernel
theorem d_Cp_guess_95 : dec m_Cp_guess 95 = .ok (.iload_n 3, 1) := by decide +kernel
theorem d_Cp_guess_96 : dec m_Cp_guess 96 = .ok (.invokevirtual 87, 3) := by decide +kernel
theorem d_Cp_guess_99 : dec m_Cp_guess 99 = .ok (.aload_n 0, 1) := by decide +kernel
theorem d_Cp_guess_100 : dec m_Cp_guess 100 = .ok (.getfield 10, 3) := by decide +kernel
theorem d_Cp_guess_103 : dec m_Cp_guess 103 = .ok (.getfield 91, 3) := by decide +kernel
theorem d_Cp_guess_106 : dec m_Cp_guess 106 = .ok (.invokevirtual 95, 3) := by decide +kernel
theorem d_Cp_guess_109 : dec m_Cp_guess 109 = .ok (.iload 5, 2) := by decide +kernel
theorem d_Cp_guess_111 : dec m_Cp_guess 111 = .ok (.ireturn, 1) := by decide +kernel
theorem d_Cp_addMove_0 : dec m_Cp_addMove 0 = .ok (.iload_n 1, 1) := by decide +kernel
theorem d_Cp_addMove_1 : dec m_Cp_addMove 1 = .ok (.invokestatic 60, 3) := by decide +kernel
theorem d_Cp_addMove_4 : dec m_Cp_addMove 4 = .ok (.ifCond .eq 10, 3) := by decide +kernel
theorem d_Cp_addMove_7 : dec m_Cp_addMove 7 = .ok (.iload_n 2, 1) := by decide +kernel
theorem d_Cp_addMove_8 : dec m_Cp_addMove 8 = .ok (.invokestatic 60, 3) := by decide +kernel
theorem d_Cp_addMove_11 : dec m_Cp_addMove 11 = .ok (.ifCond .ne 5, 3) := by decide +kernel
theorem d_Cp_addMove_14 : dec m_Cp_addMove 14 = .ok (.iconst (-1), 1) := by decide +kernel
theorem d_Cp_addMove_15 : dec m_Cp_addMove 15 = .ok (.ireturn, 1) := by decide +kernel
theorem d_Cp_addMove_16 : dec m_Cp_addMove 16 = .ok (.aload_n 0, 1) := by decide +kernel
theorem d_Cp_addMove_17 : dec m_Cp_addMove 17 = .ok (.getfield 10, 3) := by decide +kernel
theorem d_Cp_addMove_20 : dec m_Cp_addMove 20 = .ok (.getfield 64, 3) := by decide +kernel
theorem d_Cp_addMove_23 : dec m_Cp_addMove 23 = .ok (.astore_n 3, 1) := by decide +kernel
theorem d_Cp_addMove_24 : dec m_Cp_addMove 24 = .ok (.aload_n 3, 1) := by decide +kernel
theorem d_Cp_addMove_25 : dec m_Cp_addMove 25 = .ok (.iload_n 1, 1) := by decide +kernel
theorem d_Cp_addMove_26 : dec m_Cp_addMove 26 = .ok (.iload_n 2, 1) := by decide +kernel
theorem d_Cp_addMove_27 : dec m_Cp_addMove 27 = .ok (.invokevirtual 109, 3) := by decide +kernel
theorem d_Cp_addMove_30 : dec m_Cp_addMove 30 = .ok (.bipush (-5), 2) := by decide +kernel
theorem d_Cp_addMove_32 : dec m_Cp_addMove 32 = .ok (.if_icmp .eq 6, 3) := by decide +kernel
theorem d_Cp_addMove_35 : dec m_Cp_addMove 35 = .ok (.bipush (-5), 2) := by decide +kernel
theorem d_Cp_addMove_37 : dec m_Cp_addMove 37 = .ok (.ireturn, 1) := by decide +kernel
theorem d_Cp_addMove_38 : dec m_Cp_addMove 38 = .ok (.aload_n 3, 1) := by decide +kernel
theorem d_Cp_addMove_39 : dec m_Cp_addMove 39 = .ok (.getfield 113, 3) := by decide +kernel
theorem d_Cp_addMove_42 : dec m_Cp_addMove 42 = .ok (.bipush 60, 2) := by decide +kernel
theorem d_Cp_addMove_44 : dec m_Cp_addMove 44 = .ok (.if_icmp .lt 6, 3) := by decide +kernel
theorem d_Cp_addMove_47 : dec m_Cp_addMove 47 = .ok (.bipush (-3), 2) := by decide +kernel
theorem d_Cp_addMove_49 : dec m_Cp_addMove 49 = .ok (.ireturn, 1) := by decide +kernel
theorem d_Cp_addMove_50 : dec m_Cp_addMove 50 = .ok (.aload_n 0, 1) := by decide +kernel
theorem d_Cp_addMove_51 : dec m_Cp_addMove 51 = .ok (.getfield 26, 3) := by decide +kernel
theorem d_Cp_addMove_54 : dec m_Cp_addMove 54 = .ok (.aload_n 0, 1) := by decide +kernel
theorem d_Cp_addMove_55 : dec m_Cp_addMove 55 = .ok (.getfield 10, 3) := by decide +kernel
theorem d_Cp_addMove_58 : dec m_Cp_addMove 58 = .ok (.invokevirtual 83, 3) := by decide +kernel
theorem d_Cp_addMove_61 : dec m_Cp_addMove 61 = .ok (.aload_n 3, 1) := by decide +kernel
theorem d_Cp_addMove_62 : dec m_Cp_addMove 62 = .ok (.iload_n 1, 1) := by decide +kernel
theorem d_Cp_addMove_63 : dec m_Cp_addMove 63 = .ok (.iload_n 2, 1) := by decide +kernel
theorem d_Cp_addMove_64 : dec m_Cp_addMove 64 = .ok (.invokevirtual 117, 3) := by decide +kernel
theorem d_Cp_addMove_67 : dec m_Cp_addMove 67 = .ok (.aload_n 0, 1) := by decide +kernel
theorem d_Cp_addMove_68 : dec m_Cp_addMove 68 = .ok (.getfield 10, 3) := by decide +kernel
theorem d_Cp_addMove_71 : dec m_Cp_addMove 71 = .ok (.getfield 91, 3) := by decide +kernel
theorem d_Cp_addMove_74 : dec m_Cp_addMove 74 = .ok (.invokevirtual 95, 3) := by decide +kernel
theorem d_Cp_addMove_77 : dec m_Cp_addMove 77 = .ok (.aload_n 3, 1) := by decide +kernel
theorem d_Cp_addMove_78 : dec m_Cp_addMove 78 = .ok (.getfield 120, 3) := by decide +kernel
theorem d_Cp_addMove_81 : dec m_Cp_addMove 81 = .ok (.iload_n 1, 1) := by decide +kernel
theorem d_Cp_addMove_82 : dec m_Cp_addMove 82 = .ok (.invokevirtual 74, 3) := by decide +kernel
theorem d_Cp_addMove_85 : dec m_Cp_addMove 85 = .ok (.ireturn, 1) := by decide +kernel
theorem d_Cp_removeMove_0 : dec m_Cp_removeMove 0 = .ok (.iload_n 1, 1) := by decide +kernel
theorem d_Cp_removeMove_1 : dec m_Cp_removeMove 1 = .ok (.invokestatic 60, 3) := by decide +kernel
theorem d_Cp_removeMove_4 : dec m_Cp_removeMove 4 = .ok (.ifCond .eq 10, 3) := by decide +kernel
theorem d_Cp_removeMove_7 : dec m_Cp_removeMove 7 = .ok (.iload_n 2, 1) := by decide +kernel
theorem d_Cp_removeMove_8 : dec m_Cp_removeMove 8 = .ok (.invokestatic 60, 3) := by decide +kernel
theorem d_Cp_removeMove_11 : dec m_Cp_removeMove 11 = .ok (.ifCond .ne 5, 3) := by decide +kernel
theorem d_Cp_removeMove_14 : dec m_Cp_removeMove 14 = .ok (.iconst (-1), 1) := by decide +kernel
theorem d_Cp_removeMove_15 : dec m_Cp_removeMove 15 = .ok (.ireturn, 1) := by decide +kernel
theorem d_Cp_removeMove_16 : dec m_Cp_removeMove 16 = .ok (.aload_n 0, 1) := by decide +kernel
theorem d_Cp_removeMove_17 : dec m_Cp_removeMove 17 = .ok (.getfield 10, 3) := by decide +kernel
theorem d_Cp_removeMove_20 : dec m_Cp_removeMove 20 = .ok (.getfield 64, 3) := by decide +kernel
theorem d_Cp_removeMove_23 : dec m_Cp_removeMove 23 = .ok (.astore_n 3, 1) := by decide +kernel
theorem d_Cp_removeMove_24 : dec m_Cp_removeMove 24 = .ok (.aload_n 3, 1) := by decide +kernel
theorem d_Cp_removeMove_25 : dec m_Cp_removeMove 25 = .ok (.iload_n 1, 1) := by decide +kernel
theorem d_Cp_removeMove_26 : dec m_Cp_removeMove 26 = .ok (.iload_n 2, 1) := by decide +kernel
theorem d_Cp_removeMove_27 : dec m_Cp_removeMove 27 = .ok (.invokevirtual 109, 3) := by decide +kernel
theorem d_Cp_removeMove_30 : dec m_Cp_removeMove 30 = .ok (.istore 4, 2) := by decide +kernel
theorem d_Cp_removeMove_32 : dec m_Cp_removeMove 32 = .ok (.iload 4, 2) := by decide +kernel
theorem d_Cp_removeMove_34 : dec m_Cp_removeMove 34 = .ok (.bipush (-5), 2) := by decide +kernel
theorem d_Cp_removeMove_36 : dec m_Cp_removeMove 36 = .ok (.if_icmp .ne 5, 3) := by decide +kernel
theorem d_Cp_removeMove_39 : dec m_Cp_removeMove 39 = .ok (.iconst (-1), 1) := by decide +kernel
theorem d_Cp_removeMove_40 : dec m_Cp_removeMove 40 = .ok (.ireturn, 1) := by decide +kernel
theorem d_Cp_removeMove_41 : dec m_Cp_removeMove 41 = .ok (.aload_n 0, 1) := by decide +kernel
theorem d_Cp_removeMove_42 : dec m_Cp_removeMove 42 = .ok (.getfield 26, 3) := by decide +kernel
theorem d_Cp_removeMove_45 : dec m_Cp_removeMove 45 = .ok (.aload_n 0, 1) := by decide +kernel
theorem d_Cp_removeMove_46 : dec m_Cp_removeMove 46 = .ok (.getfield 10, 3) := by decide +kernel
theorem d_Cp_removeMove_49 : dec m_Cp_removeMove 49 = .ok (.invokevirtual 83, 3) := by decide +kernel
theorem d_Cp_removeMove_52 : dec m_Cp_removeMove 52 = .ok (.aload_n 3, 1) := by decide +kernel
theorem d_Cp_removeMove_53 : dec m_Cp_removeMove 53 = .ok (.iload_n 1, 1) := by decide +kernel
theorem d_Cp_removeMove_54 : dec m_Cp_removeMove 54 = .ok (.iload 4, 2) := by decide +kernel
theorem d_Cp_removeMove_56 : dec m_Cp_removeMove 56 = .ok (.invokevirtual 123, 3) := by decide +kernel
theorem d_Cp_removeMove_59 : dec m_Cp_removeMove 59 = .ok (.aload_n 0, 1) := by decide +kernel
theorem d_Cp_removeMove_60 : dec m_Cp_removeMove 60 = .ok (.getfield 10, 3) := by decide +kernel
theorem d_Cp_removeMove_63 : dec m_Cp_removeMove 63 = .ok (.getfield 91, 3) := by decide +kernel
theorem d_Cp_removeMove_66 : dec m_Cp_removeMove 66 = .ok (.invokevirtual 95, 3) := by decide +kernel
theorem d_Cp_removeMove_69 : dec m_Cp_removeMove 69 = .ok (.aload_n 3, 1) := by decide +kernel
theorem d_Cp_removeMove_70 : dec m_Cp_removeMove 70 = .ok (.getfield 120, 3) := by decide +kernel
theorem d_Cp_removeMove_73 : dec m_Cp_removeMove 73 = .ok (.iload_n 1, 1) := by decide +kernel
theorem d_Cp_removeMove_74 : dec m_Cp_removeMove 74 = .ok (.invokevirtual 74, 3) := by decide +kernel
theorem d_Cp_removeMove_77 : dec m_Cp_removeMove 77 = .ok (.ireturn, 1) := by decide +kernel
theorem d_Cp_begin_0 : dec m_Cp_begin 0 = .ok (.iload_n 1, 1) := by decide +kernel
theorem d_Cp_begin_1 : dec m_Cp_begin 1 = .ok (.invokestatic 60, 3) := by decide +kernel
theorem d_Cp_begin_4 : dec m_Cp_begin 4 = .ok (.ifCond .ne 5, 3) := by decide +kernel
theorem d_Cp_begin_7 : dec m_Cp_begin 7 = .ok (.iconst (-1), 1) := by decide +kernel
theorem d_Cp_begin_8 : dec m_Cp_begin 8 = .ok (.ireturn, 1) := by decide +kernel
theorem d_Cp_begin_9 : dec m_Cp_begin 9 = .ok (.aload_n 0, 1) := by decide +kernel
theorem d_Cp_begin_10 : dec m_Cp_begin 10 = .ok (.getfield 26, 3) := by decide +kernel
theorem d_Cp_begin_13 : dec m_Cp_begin 13 = .ok (.aload_n 0, 1) := by decide +kernel
theorem d_Cp_begin_14 : dec m_Cp_begin 14 = .ok (.getfield 10, 3) := by decide +kernel
theorem d_Cp_begin_17 : dec m_Cp_begin 17 = .ok (.invokevirtual 83, 3) := by decide +kernel
theorem d_Cp_begin_20 : dec m_Cp_begin 20 = .ok (.aload_n 0, 1) := by decide +kernel
theorem d_Cp_begin_21 : dec m_Cp_begin 21 = .ok (.getfield 10, 3) := by decide +kernel
theorem d_Cp_begin_24 : dec m_Cp_begin 24 = .ok (.getfield 91, 3) := by decide +kernel
theorem d_Cp_begin_27 : dec m_Cp_begin 27 = .ok (.iload_n 1, 1) := by decide +kernel
theorem d_Cp_begin_28 : dec m_Cp_begin 28 = .ok (.invokevirtual 137, 3) := by decide +kernel
theorem d_Cp_begin_31 : dec m_Cp_begin 31 = .ok (.aload_n 0, 1) := by decide +kernel
theorem d_Cp_begin_32 : dec m_Cp_begin 32 = .ok (.getfield 10, 3) := by decide +kernel
theorem d_Cp_begin_35 : dec m_Cp_begin 35 = .ok (.getfield 91, 3) := by decide +kernel
theorem d_Cp_begin_38 : dec m_Cp_begin 38 = .ok (.getfield 141, 3) := by decide +kernel
theorem d_Cp_begin_41 : dec m_Cp_begin 41 = .ok (.iconst 0, 1) := by decide +kernel
theorem d_Cp_begin_42 : dec m_Cp_begin 42 = .ok (.invokevirtual 74, 3) := by decide +kernel
theorem d_Cp_begin_45 : dec m_Cp_begin 45 = .ok (.ireturn, 1) := by decide +kernel
theorem d_Cp_open_0 : dec m_Cp_open 0 = .ok (.iload_n 1, 1) := by decide +kernel
theorem d_Cp_open_1 : dec m_Cp_open 1 = .ok (.iconst 1, 1) := by decide +kernel
theorem d_Cp_open_2 : dec m_Cp_open 2 = .ok (.if_icmp .lt 9, 3) := by decide +kernel
theorem d_Cp_open_5 : dec m_Cp_open 5 = .ok (.iload_n 1, 1) := by decide +kernel
theorem d_Cp_open_6 : dec m_Cp_open 6 = .ok (.bipush 100, 2) := by decide +kernel
theorem d_Cp_open_8 : dec m_Cp_open 8 = .ok (.if_icmp .le 6, 3) := by decide +kernel
theorem d_Cp_open_11 : dec m_Cp_open 11 = .ok (.bipush (-2), 2) := by decide +kernel
theorem d_Cp_open_13 : dec m_Cp_open 13 = .ok (.ireturn, 1) := by decide +kernel
theorem d_Cp_open_14 : dec m_Cp_open 14 = .ok (.aload_n 0, 1) := by decide +kernel
theorem d_Cp_open_15 : dec m_Cp_open 15 = .ok (.getfield 10, 3) := by decide +kernel
theorem d_Cp_open_18 : dec m_Cp_open 18 = .ok (.getfield 91, 3) := by decide +kernel
theorem d_Cp_open_21 : dec m_Cp_open 21 = .ok (.astore_n 2, 1) := by decide +kernel
theorem d_Cp_open_22 : dec m_Cp_open 22 = .ok (.aload_n 2, 1) := by decide +kernel
theorem d_Cp_open_23 : dec m_Cp_open 23 = .ok (.invokevirtual 144, 3) := by decide +kernel
theorem d_Cp_open_26 : dec m_Cp_open 26 = .ok (.ifCond .eq 6, 3) := by decide +kernel
theorem d_Cp_open_29 : dec m_Cp_open 29 = .ok (.bipush (-4), 2) := by decide +kernel
theorem d_Cp_open_31 : dec m_Cp_open 31 = .ok (.ireturn, 1) := by decide +kernel
theorem d_Cp_open_32 : dec m_Cp_open 32 = .ok (.aload_n 2, 1) := by decide +kernel
theorem d_Cp_open_33 : dec m_Cp_open 33 = .ok (.invokevirtual 148, 3) := by decide +kernel
theorem d_Cp_open_36 : dec m_Cp_open 36 = .ok (.ifCond .ne 6, 3) := by decide +kernel
theorem d_Cp_open_39 : dec m_Cp_open 39 = .ok (.bipush (-5), 2) := by decide +kernel
theorem d_Cp_open_41 : dec m_Cp_open 41 = .ok (.ireturn, 1) := by decide +kernel
theorem d_Cp_open_42 : dec m_Cp_open 42 = .ok (.aload_n 0, 1) := by decide +kernel
theorem d_Cp_open_43 : dec m_Cp_open 43 = .ok (.getfield 26, 3) := by decide +kernel
theorem d_Cp_open_46 : dec m_Cp_open 46 = .ok (.aload_n 0, 1) := by decide +kernel
theorem d_Cp_open_47 : dec m_Cp_open 47 = .ok (.getfield 10, 3) := by decide +kernel
theorem d_Cp_open_50 : dec m_Cp_open 50 = .ok (.invokevirtual 83, 3) := by decide +kernel
theorem d_Cp_open_53 : dec m_Cp_open 53 = .ok (.iconst 0, 1) := by decide +kernel
theorem d_Cp_open_54 : dec m_Cp_open 54 = .ok (.istore_n 3, 1) := by decide +kernel
theorem d_Cp_open_55 : dec m_Cp_open 55 = .ok (.iload_n 3, 1) := by decide +kernel
theorem d_Cp_open_56 : dec m_Cp_open 56 = .ok (.iload_n 1, 1) := by decide +kernel
theorem d_Cp_open_57 : dec m_Cp_open 57 = .ok (.if_icmp .ge 20, 3) := by decide +kernel
theorem d_Cp_open_60 : dec m_Cp_open 60 = .ok (.aload_n 2, 1) := by decide +kernel
theorem d_Cp_open_61 : dec m_Cp_open 61 = .ok (.invokevirtual 148, 3) := by decide +kernel
theorem d_Cp_open_64 : dec m_Cp_open 64 = .ok (.ifCond .eq 13, 3) := by decide +kernel
theorem d_Cp_open_67 : dec m_Cp_open 67 = .ok (.aload_n 2, 1) := by decide +kernel
theorem d_Cp_open_68 : dec m_Cp_open 68 = .ok (.invokevirtual 151, 3) := by decide +kernel
theorem d_Cp_open_71 : dec m_Cp_open 71 = .ok (.iinc 3 1, 3) := by decide +kernel
theorem d_Cp_open_74 : dec m_Cp_open 74 = .ok (.goto (-19), 3) := by decide +kernel
theorem d_Cp_open_77 : dec m_Cp_open 77 = .ok (.iload_n 3, 1) := by decide +kernel
theorem d_Cp_open_78 : dec m_Cp_open 78 = .ok (.ireturn, 1) := by decide +kernel
theorem d_Cp_undo_0 : dec m_Cp_undo 0 = .ok (.aload_n 0, 1) := by decide +kernel
theorem d_Cp_undo_1 : dec m_Cp_undo 1 = .ok (.getfield 26, 3) := by decide +kernel
theorem d_Cp_undo_4 : dec m_Cp_undo 4 = .ok (.getfield 164, 3) := by decide +kernel
theorem d_Cp_undo_7 : dec m_Cp_undo 7 = .ok (.ifCond .ne 6, 3) := by decide +kernel
theorem d_Cp_undo_10 : dec m_Cp_undo 10 = .ok (.bipush (-5), 2) := by decide +kernel
theorem d_Cp_undo_12 : dec m_Cp_undo 12 = .ok (.ireturn, 1) := by decide +kernel
theorem d_Cp_undo_13 : dec m_Cp_undo 13 = .ok (.aload_n 0, 1) := by decide +kernel
theorem d_Cp_undo_14 : dec m_Cp_undo 14 = .ok (.getfield 26, 3) := by decide +kernel
theorem d_Cp_undo_17 : dec m_Cp_undo 17 = .ok (.aload_n 0, 1) := by decide +kernel
theorem d_Cp_undo_18 : dec m_Cp_undo 18 = .ok (.getfield 10, 3) := by decide +kernel
theorem d_Cp_undo_21 : dec m_Cp_undo 21 = .ok (.invokevirtual 167, 3) := by decide +kernel
theorem d_Cp_undo_24 : dec m_Cp_undo 24 = .ok (.aload_n 0, 1) := by decide +kernel
theorem d_Cp_undo_25 : dec m_Cp_undo 25 = .ok (.getfield 26, 3) := by decide +kernel
theorem d_Cp_undo_28 : dec m_Cp_undo 28 = .ok (.getfield 164, 3) := by decide +kernel
theorem d_Cp_undo_31 : dec m_Cp_undo 31 = .ok (.ireturn, 1) := by decide +kernel
theorem d_Cp_keep_0 : dec m_Cp_keep 0 = .ok (.aload_n 0, 1) := by decide +kernel
theorem d_Cp_keep_1 : dec m_Cp_keep 1 = .ok (.getfield 16, 3) := by decide +kernel
theorem d_Cp_keep_4 : dec m_Cp_keep 4 = .ok (.aload_n 0, 1) := by decide +kernel
theorem d_Cp_keep_5 : dec m_Cp_keep 5 = .ok (.getfield 10, 3) := by decide +kernel
theorem d_Cp_keep_8 : dec m_Cp_keep 8 = .ok (.invokevirtual 170, 3) := by decide +kernel
theorem d_Cp_keep_11 : dec m_Cp_keep 11 = .ok (.aload_n 0, 1) := by decide +kernel
theorem d_Cp_keep_12 : dec m_Cp_keep 12 = .ok (.iconst 1, 1) := by decide +kernel
theorem d_Cp_keep_13 : dec m_Cp_keep 13 = .ok (.putfield 19, 3) := by decide +kernel
theorem d_Cp_keep_16 : dec m_Cp_keep 16 = .ok (.aload_n 0, 1) := by decide +kernel
theorem d_Cp_keep_17 : dec m_Cp_keep 17 = .ok (.getfield 10, 3) := by decide +kernel
theorem d_Cp_keep_20 : dec m_Cp_keep 20 = .ok (.getfield 64, 3) := by decide +kernel
theorem d_Cp_keep_23 : dec m_Cp_keep 23 = .ok (.getfield 113, 3) := by decide +kernel
theorem d_Cp_keep_26 : dec m_Cp_keep 26 = .ok (.ireturn, 1) := by decide +kernel
theorem d_Cp_restore_0 : dec m_Cp_restore 0 = .ok (.aload_n 0, 1) := by decide +kernel
theorem d_Cp_restore_1 : dec m_Cp_restore 1 = .ok (.getfield 19, 3) := by decide +kernel
theorem d_Cp_restore_4 : dec m_Cp_restore 4 = .ok (.ifCond .ne 6, 3) := by decide +kernel
theorem d_Cp_restore_7 : dec m_Cp_restore 7 = .ok (.bipush (-5), 2) := by decide +kernel
theorem d_Cp_restore_9 : dec m_Cp_restore 9 = .ok (.ireturn, 1) := by decide +kernel
theorem d_Cp_restore_10 : dec m_Cp_restore 10 = .ok (.aload_n 0, 1) := by decide +kernel
theorem d_Cp_restore_11 : dec m_Cp_restore 11 = .ok (.getfield 26, 3) := by decide +kernel
theorem d_Cp_restore_14 : dec m_Cp_restore 14 = .ok (.aload_n 0, 1) := by decide +kernel
theorem d_Cp_restore_15 : dec m_Cp_restore 15 = .ok (.getfield 10, 3) := by decide +kernel
theorem d_Cp_restore_18 : dec m_Cp_restore 18 = .ok (.invokevirtual 83, 3) := by decide +kernel
theorem d_Cp_restore_21 : dec m_Cp_restore 21 = .ok (.aload_n 0, 1) := by decide +kernel
theorem d_Cp_restore_22 : dec m_Cp_restore 22 = .ok (.getfield 10, 3) := by decide +kernel
theorem d_Cp_restore_25 : dec m_Cp_restore 25 = .ok (.aload_n 0, 1) := by decide +kernel
theorem d_Cp_restore_26 : dec m_Cp_restore 26 = .ok (.getfield 16, 3) := by decide +kernel
theorem d_Cp_restore_29 : dec m_Cp_restore 29 = .ok (.invokevirtual 170, 3) := by decide +kernel
theorem d_Cp_restore_32 : dec m_Cp_restore 32 = .ok (.aload_n 0, 1) := by decide +kernel
theorem d_Cp_restore_33 : dec m_Cp_restore 33 = .ok (.getfield 10, 3) := by decide +kernel
theorem d_Cp_restore_36 : dec m_Cp_restore 36 = .ok (.getfield 64, 3) := by decide +kernel
theorem d_Cp_restore_39 : dec m_Cp_restore 39 = .ok (.getfield 113, 3) := by decide +kernel
theorem d_Cp_restore_42 : dec m_Cp_restore 42 = .ok (.ireturn, 1) := by decide +kernel
theorem d_Cp_position_0 : dec m_Cp_position 0 = .ok (.iload_n 1, 1) := by decide +kernel
theorem d_Cp_position_1 : dec m_Cp_position 1 = .ok (.invokestatic 60, 3) := by decide +kernel
theorem d_Cp_position_4 : dec m_Cp_position 4 = .ok (.ifCond .ne 5, 3) := by decide +kernel
theorem d_Cp_position_7 : dec m_Cp_position 7 = .ok (.iconst (-1), 1) := by decide +kernel
theorem d_Cp_position_8 : dec m_Cp_position 8 = .ok (.ireturn, 1) := by decide +kernel
theorem d_Cp_position_9 : dec m_Cp_position 9 = .ok (.aload_n 0, 1) := by decide +kernel
theorem d_Cp_position_10 : dec m_Cp_position 10 = .ok (.getfield 10, 3) := by decide +kernel
theorem d_Cp_position_13 : dec m_Cp_position 13 = .ok (.getfield 64, 3) := by decide +kernel
theorem d_Cp_position_16 : dec m_Cp_position 16 = .ok (.astore_n 3, 1) := by decide +kernel
theorem d_Cp_position_17 : dec m_Cp_position 17 = .ok (.iload_n 2, 1) := by decide +kernel
theorem d_Cp_position_18 : dec m_Cp_position 18 = .ok (.tableswitch 147 0 7 #[46, 55, 64, 73, 82, 91, 105, 130], 46) := by decide +kernel
theorem d_Cp_position_64 : dec m_Cp_position 64 = .ok (.aload_n 3, 1) := by decide +kernel
theorem d_Cp_position_65 : dec m_Cp_position 65 = .ok (.getfield 80, 3) := by decide +kernel
theorem d_Cp_position_68 : dec m_Cp_position 68 = .ok (.iload_n 1, 1) := by decide +kernel
theorem d_Cp_position_69 : dec m_Cp_position 69 = .ok (.invokevirtual 74, 3) := by decide +kernel
theorem d_Cp_position_72 : dec m_Cp_position 72 = .ok (.ireturn, 1) := by decide +kernel
theorem d_Cp_position_73 : dec m_Cp_position 73 = .ok (.aload_n 3, 1) := by decide +kernel
theorem d_Cp_position_74 : dec m_Cp_position 74 = .ok (.getfield 68, 3) := by decide +kernel
theorem d_Cp_position_77 : dec m_Cp_position 77 = .ok (.iload_n 1, 1) := by decide +kernel
theorem d_Cp_position_78 : dec m_Cp_position 78 = .ok (.invokevirtual 74, 3) := by decide +kernel
theorem d_Cp_position_81 : dec m_Cp_position 81 = .ok (.ireturn, 1) := by decide +kernel
theorem d_Cp_position_82 : dec m_Cp_position 82 = .ok (.aload_n 3, 1) := by decide +kernel
theorem d_Cp_position_83 : dec m_Cp_position 83 = .ok (.getfield 103, 3) := by decide +kernel
theorem d_Cp_position_86 : dec m_Cp_position 86 = .ok (.iload_n 1, 1) := by decide +kernel
theorem d_Cp_position_87 : dec m_Cp_position 87 = .ok (.invokevirtual 74, 3) := by decide +kernel
theorem d_Cp_position_90 : dec m_Cp_position 90 = .ok (.ireturn, 1) := by decide +kernel
theorem d_Cp_position_91 : dec m_Cp_position 91 = .ok (.aload_n 3, 1) := by decide +kernel
theorem d_Cp_position_92 : dec m_Cp_position 92 = .ok (.getfield 106, 3) := by decide +kernel
theorem d_Cp_position_95 : dec m_Cp_position 95 = .ok (.iload_n 1, 1) := by decide +kernel
theorem d_Cp_position_96 : dec m_Cp_position 96 = .ok (.invokevirtual 74, 3) := by decide +kernel
theorem d_Cp_position_99 : dec m_Cp_position 99 = .ok (.ireturn, 1) := by decide +kernel
theorem d_Cp_position_100 : dec m_Cp_position 100 = .ok (.aload_n 3, 1) := by decide +kernel
theorem d_Cp_position_101 : dec m_Cp_position 101 = .ok (.getfield 120, 3) := by decide +kernel
theorem d_Cp_position_104 : dec m_Cp_position 104 = .ok (.iload_n 1, 1) := by decide +kernel
theorem d_Cp_position_105 : dec m_Cp_position 105 = .ok (.invokevirtual 74, 3) := by decide +kernel
theorem d_Cp_position_108 : dec m_Cp_position 108 = .ok (.ireturn, 1) := by decide +kernel
theorem d_Cp_position_109 : dec m_Cp_position 109 = .ok (.aload_n 3, 1) := by decide +kernel
theorem d_Cp_position_110 : dec m_Cp_position 110 = .ok (.iload_n 1, 1) := by decide +kernel
theorem d_Cp_position_111 : dec m_Cp_position 111 = .ok (.invokevirtual 173, 3) := by decide +kernel
theorem d_Cp_position_114 : dec m_Cp_position 114 = .ok (.ifCond .eq 7, 3) := by decide +kernel
theorem d_Cp_position_117 : dec m_Cp_position 117 = .ok (.iconst 1, 1) := by decide +kernel
theorem d_Cp_position_118 : dec m_Cp_position 118 = .ok (.goto 4, 3) := by decide +kernel
theorem d_Cp_position_121 : dec m_Cp_position 121 = .ok (.iconst 0, 1) := by decide +kernel
theorem d_Cp_position_122 : dec m_Cp_position 122 = .ok (.ireturn, 1) := by decide +kernel
theorem d_Cp_position_123 : dec m_Cp_position 123 = .ok (.aload_n 0, 1) := by decide +kernel
theorem d_Cp_position_124 : dec m_Cp_position 124 = .ok (.getfield 49, 3) := by decide +kernel
theorem d_Cp_position_127 : dec m_Cp_position 127 = .ok (.aload_n 3, 1) := by decide +kernel
theorem d_Cp_position_128 : dec m_Cp_position 128 = .ok (.invokevirtual 176, 3) := by decide +kernel
theorem d_Cp_position_131 : dec m_Cp_position 131 = .ok (.aload_n 0, 1) := by decide +kernel
theorem d_Cp_position_132 : dec m_Cp_position 132 = .ok (.getfield 49, 3) := by decide +kernel
theorem d_Cp_position_135 : dec m_Cp_position 135 = .ok (.iload_n 1, 1) := by decide +kernel
theorem d_Cp_position_136 : dec m_Cp_position 136 = .ok (.invokevirtual 179, 3) := by decide +kernel
theorem d_Cp_position_139 : dec m_Cp_position 139 = .ok (.ifCond .eq 7, 3) := by decide +kernel
theorem d_Cp_position_142 : dec m_Cp_position 142 = .ok (.iconst 1, 1) := by decide +kernel
theorem d_Cp_position_143 : dec m_Cp_position 143 = .ok (.goto 4, 3) := by decide +kernel
theorem d_Cp_position_146 : dec m_Cp_position 146 = .ok (.iconst 0, 1) := by decide +kernel
theorem d_Cp_position_147 : dec m_Cp_position 147 = .ok (.ireturn, 1) := by decide +kernel
theorem d_Cp_position_148 : dec m_Cp_position 148 = .ok (.aload_n 0, 1) := by decide +kernel
theorem d_Cp_position_149 : dec m_Cp_position 149 = .ok (.getfield 49, 3) := by decide +kernel
theorem d_Cp_position_152 : dec m_Cp_position 152 = .ok (.aload_n 3, 1) := by decide +kernel
theorem d_Cp_position_153 : dec m_Cp_position 153 = .ok (.invokevirtual 176, 3) := by decide +kernel
theorem d_Cp_position_156 : dec m_Cp_position 156 = .ok (.aload_n 0, 1) := by decide +kernel
theorem d_Cp_position_157 : dec m_Cp_position 157 = .ok (.getfield 49, 3) := by decide +kernel
theorem d_Cp_position_160 : dec m_Cp_position 160 = .ok (.iload_n 1, 1) := by decide +kernel
theorem d_Cp_position_161 : dec m_Cp_position 161 = .ok (.invokevirtual 182, 3) := by decide +kernel
theorem d_Cp_position_164 : dec m_Cp_position 164 = .ok (.ireturn, 1) := by decide +kernel
theorem d_Cp_position_165 : dec m_Cp_position 165 = .ok (.bipush (-2), 2) := by decide +kernel
theorem d_Cp_position_167 : dec m_Cp_position 167 = .ok (.ireturn, 1) := by decide +kernel
theorem d_Cp_move_0 : dec m_Cp_move 0 = .ok (.iload_n 1, 1) := by decide +kernel
theorem d_Cp_move_1 : dec m_Cp_move 1 = .ok (.invokestatic 60, 3) := by decide +kernel
theorem d_Cp_move_4 : dec m_Cp_move 4 = .ok (.ifCond .ne 5, 3) := by decide +kernel
theorem d_Cp_move_7 : dec m_Cp_move 7 = .ok (.iconst (-1), 1) := by decide +kernel
theorem d_Cp_move_8 : dec m_Cp_move 8 = .ok (.ireturn, 1) := by decide +kernel
theorem d_Cp_move_9 : dec m_Cp_move 9 = .ok (.iload_n 2, 1) := by decide +kernel
theorem d_Cp_move_10 : dec m_Cp_move 10 = .ok (.ifCond .ge 6, 3) := by decide +kernel
theorem d_Cp_move_13 : dec m_Cp_move 13 = .ok (.bipush (-2), 2) := by decide +kernel
theorem d_Cp_move_15 : dec m_Cp_move 15 = .ok (.ireturn, 1) := by decide +kernel
theorem d_Cp_move_16 : dec m_Cp_move 16 = .ok (.aload_n 0, 1) := by decide +kernel
theorem d_Cp_move_17 : dec m_Cp_move 17 = .ok (.getfield 10, 3) := by decide +kernel
theorem d_Cp_move_20 : dec m_Cp_move 20 = .ok (.getfield 64, 3) := by decide +kernel
theorem d_Cp_move_23 : dec m_Cp_move 23 = .ok (.iload_n 1, 1) := by decide +kernel
theorem d_Cp_move_24 : dec m_Cp_move 24 = .ok (.iload_n 2, 1) := by decide +kernel
theorem d_Cp_move_25 : dec m_Cp_move 25 = .ok (.invokevirtual 185, 3) := by decide +kernel
theorem d_Cp_move_28 : dec m_Cp_move 28 = .ok (.ireturn, 1) := by decide +kernel
theorem d_Cp_node_0 : dec m_Cp_node 0 = .ok (.aload_n 0, 1) := by decide +kernel
theorem d_Cp_node_1 : dec m_Cp_node 1 = .ok (.getfield 10, 3) := by decide +kernel
theorem d_Cp_node_4 : dec m_Cp_node 4 = .ok (.getfield 91, 3) := by decide +kernel
theorem d_Cp_node_7 : dec m_Cp_node 7 = .ok (.astore_n 3, 1) := by decide +kernel
theorem d_Cp_node_8 : dec m_Cp_node 8 = .ok (.aload_n 3, 1) := by decide +kernel
theorem d_Cp_node_9 : dec m_Cp_node 9 = .ok (.iload_n 1, 1) := by decide +kernel
theorem d_Cp_node_10 : dec m_Cp_node 10 = .ok (.invokevirtual 188, 3) := by decide +kernel
theorem d_Cp_node_13 : dec m_Cp_node 13 = .ok (.ifCond .ne 5, 3) := by decide +kernel
theorem d_Cp_node_16 : dec m_Cp_node 16 = .ok (.iconst (-1), 1) := by decide +kernel
theorem d_Cp_node_17 : dec m_Cp_node 17 = .ok (.ireturn, 1) := by decide +kernel
theorem d_Cp_node_18 : dec m_Cp_node 18 = .ok (.iload_n 2, 1) := by decide +kernel
theorem d_Cp_node_19 : dec m_Cp_node 19 = .ok (.tableswitch 117 0 7 #[45, 54, 63, 72, 81, 90, 99, 108], 45) := by decide +kernel
theorem d_Cp_node_64 : dec m_Cp_node 64 = .ok (.aload_n 3, 1) := by decide +kernel
theorem d_Cp_node_65 : dec m_Cp_node 65 = .ok (.getfield 191, 3) := by decide +kernel
theorem d_Cp_node_68 : dec m_Cp_node 68 = .ok (.iload_n 1, 1) := by decide +kernel
theorem d_Cp_node_69 : dec m_Cp_node 69 = .ok (.invokevirtual 74, 3) := by decide +kernel
theorem d_Cp_node_72 : dec m_Cp_node 72 = .ok (.ireturn, 1) := by decide +kernel
theorem d_Cp_node_73 : dec m_Cp_node 73 = .ok (.aload_n 3, 1) := by decide +kernel
theorem d_Cp_node_74 : dec m_Cp_node 74 = .ok (.getfield 194, 3) := by decide +kernel
theorem d_Cp_node_77 : dec m_Cp_node 77 = .ok (.iload_n 1, 1) := by decide +kernel
theorem d_Cp_node_78 : dec m_Cp_node 78 = .ok (.invokevirtual 74, 3) := by decide +kernel
theorem d_Cp_node_81 : dec m_Cp_node 81 = .ok (.ireturn, 1) := by decide +kernel
theorem d_Cp_node_82 : dec m_Cp_node 82 = .ok (.aload_n 3, 1) := by decide +kernel
theorem d_Cp_node_83 : dec m_Cp_node 83 = .ok (.getfield 141, 3) := by decide +kernel
theorem d_Cp_node_86 : dec m_Cp_node 86 = .ok (.iload_n 1, 1) := by decide +kernel
theorem d_Cp_node_87 : dec m_Cp_node 87 = .ok (.invokevirtual 74, 3) := by decide +kernel
theorem d_Cp_node_90 : dec m_Cp_node 90 = .ok (.ireturn, 1) := by decide +kernel
theorem d_Cp_node_91 : dec m_Cp_node 91 = .ok (.aload_n 3, 1) := by decide +kernel
theorem d_Cp_node_92 : dec m_Cp_node 92 = .ok (.getfield 197, 3) := by decide +kernel
theorem d_Cp_node_95 : dec m_Cp_node 95 = .ok (.iload_n 1, 1) := by decide +kernel
theorem d_Cp_node_96 : dec m_Cp_node 96 = .ok (.invokevirtual 74, 3) := by decide +kernel
theorem d_Cp_node_99 : dec m_Cp_node 99 = .ok (.ireturn, 1) := by decide +kernel
theorem d_Cp_node_100 : dec m_Cp_node 100 = .ok (.aload_n 3, 1) := by decide +kernel
theorem d_Cp_node_101 : dec m_Cp_node 101 = .ok (.getfield 200, 3) := by decide +kernel
theorem d_Cp_node_104 : dec m_Cp_node 104 = .ok (.iload_n 1, 1) := by decide +kernel
theorem d_Cp_node_105 : dec m_Cp_node 105 = .ok (.invokevirtual 74, 3) := by decide +kernel
theorem d_Cp_node_108 : dec m_Cp_node 108 = .ok (.ireturn, 1) := by decide +kernel
theorem d_Cp_node_109 : dec m_Cp_node 109 = .ok (.aload_n 3, 1) := by decide +kernel
theorem d_Cp_node_110 : dec m_Cp_node 110 = .ok (.getfield 203, 3) := by decide +kernel
theorem d_Cp_node_113 : dec m_Cp_node 113 = .ok (.iload_n 1, 1) := by decide +kernel
theorem d_Cp_node_114 : dec m_Cp_node 114 = .ok (.invokevirtual 74, 3) := by decide +kernel
theorem d_Cp_node_117 : dec m_Cp_node 117 = .ok (.ireturn, 1) := by decide +kernel
theorem d_Cp_node_118 : dec m_Cp_node 118 = .ok (.aload_n 3, 1) := by decide +kernel
theorem d_Cp_node_119 : dec m_Cp_node 119 = .ok (.getfield 206, 3) := by decide +kernel
theorem d_Cp_node_122 : dec m_Cp_node 122 = .ok (.iload_n 1, 1) := by decide +kernel
theorem d_Cp_node_123 : dec m_Cp_node 123 = .ok (.invokevirtual 74, 3) := by decide +kernel
theorem d_Cp_node_126 : dec m_Cp_node 126 = .ok (.ireturn, 1) := by decide +kernel
theorem d_Cp_node_127 : dec m_Cp_node 127 = .ok (.aload_n 3, 1) := by decide +kernel
theorem d_Cp_node_128 : dec m_Cp_node 128 = .ok (.getfield 209, 3) := by decide +kernel
theorem d_Cp_node_131 : dec m_Cp_node 131 = .ok (.iload_n 1, 1) := by decide +kernel
theorem d_Cp_node_132 : dec m_Cp_node 132 = .ok (.invokevirtual 74, 3) := by decide +kernel
theorem d_Cp_node_135 : dec m_Cp_node 135 = .ok (.ireturn, 1) := by decide +kernel
theorem d_Cp_node_136 : dec m_Cp_node 136 = .ok (.bipush (-2), 2) := by decide +kernel
theorem d_Cp_node_138 : dec m_Cp_node 138 = .ok (.ireturn, 1) := by decide +kernel
theorem d_Cp_way_0 : dec m_Cp_way 0 = .ok (.iload_n 1, 1) := by decide +kernel
theorem d_Cp_way_1 : dec m_Cp_way 1 = .ok (.ifCond .ge 6, 3) := by decide +kernel
theorem d_Cp_way_4 : dec m_Cp_way 4 = .ok (.bipush (-2), 2) := by decide +kernel
theorem d_Cp_way_6 : dec m_Cp_way 6 = .ok (.ireturn, 1) := by decide +kernel
theorem d_Cp_way_7 : dec m_Cp_way 7 = .ok (.aload_n 0, 1) := by decide +kernel
theorem d_Cp_way_8 : dec m_Cp_way 8 = .ok (.getfield 10, 3) := by decide +kernel
theorem d_Cp_way_11 : dec m_Cp_way 11 = .ok (.getfield 91, 3) := by decide +kernel
theorem d_Cp_way_14 : dec m_Cp_way 14 = .ok (.iload_n 1, 1) := by decide +kernel
theorem d_Cp_way_15 : dec m_Cp_way 15 = .ok (.invokevirtual 212, 3) := by decide +kernel
theorem d_Cp_way_18 : dec m_Cp_way 18 = .ok (.ireturn, 1) := by decide +kernel
theorem d_Cp_proofSize_0 : dec m_Cp_proofSize 0 = .ok (.aload_n 0, 1) := by decide +kernel
theorem d_Cp_proofSize_1 : dec m_Cp_proofSize 1 = .ok (.getfield 10, 3) := by decide +kernel
theorem d_Cp_proofSize_4 : dec m_Cp_proofSize 4 = .ok (.getfield 91, 3) := by decide +kernel
theorem d_Cp_proofSize_7 : dec m_Cp_proofSize 7 = .ok (.invokevirtual 215, 3) := by decide +kernel
theorem d_Cp_proofSize_10 : dec m_Cp_proofSize 10 = .ok (.ifCond .ne 6, 3) := by decide +kernel
theorem d_Cp_proofSize_13 : dec m_Cp_proofSize 13 = .ok (.bipush (-4), 2) := by decide +kernel
theorem d_Cp_proofSize_15 : dec m_Cp_proofSize 15 = .ok (.ireturn, 1) := by decide +kernel
theorem d_Cp_proofSize_16 : dec m_Cp_proofSize 16 = .ok (.aload_n 0, 1) := by decide +kernel
theorem d_Cp_proofSize_17 : dec m_Cp_proofSize 17 = .ok (.getfield 56, 3) := by decide +kernel
theorem d_Cp_proofSize_20 : dec m_Cp_proofSize 20 = .ok (.aload_n 0, 1) := by decide +kernel
theorem d_Cp_proofSize_21 : dec m_Cp_proofSize 21 = .ok (.getfield 10, 3) := by decide +kernel
theorem d_Cp_proofSize_24 : dec m_Cp_proofSize 24 = .ok (.getfield 91, 3) := by decide +kernel
theorem d_Cp_proofSize_27 : dec m_Cp_proofSize 27 = .ok (.invokevirtual 222, 3) := by decide +kernel
theorem d_Cp_proofSize_30 : dec m_Cp_proofSize 30 = .ok (.ireturn, 1) := by decide +kernel
theorem d_Cp_count_0 : dec m_Cp_count 0 = .ok (.iload_n 1, 1) := by decide +kernel
theorem d_Cp_count_1 : dec m_Cp_count 1 = .ok (.iconst 2, 1) := by decide +kernel
theorem d_Cp_count_2 : dec m_Cp_count 2 = .ok (.if_icmp .lt 39, 3) := by decide +kernel
theorem d_Cp_count_5 : dec m_Cp_count 5 = .ok (.iload_n 1, 1) := by decide +kernel
theorem d_Cp_count_6 : dec m_Cp_count 6 = .ok (.bipush 7, 2) := by decide +kernel
theorem d_Cp_count_8 : dec m_Cp_count 8 = .ok (.if_icmp .gt 33, 3) := by decide +kernel
theorem d_Cp_count_11 : dec m_Cp_count 11 = .ok (.aload_n 0, 1) := by decide +kernel
theorem d_Cp_count_12 : dec m_Cp_count 12 = .ok (.getfield 10, 3) := by decide +kernel
theorem d_Cp_count_15 : dec m_Cp_count 15 = .ok (.getfield 91, 3) := by decide +kernel
theorem d_Cp_count_18 : dec m_Cp_count 18 = .ok (.invokevirtual 144, 3) := by decide +kernel
theorem d_Cp_count_21 : dec m_Cp_count 21 = .ok (.ifCond .eq 8, 3) := by decide +kernel
theorem d_Cp_count_24 : dec m_Cp_count 24 = .ok (.bipush (-5), 2) := by decide +kernel
theorem d_Cp_count_26 : dec m_Cp_count 26 = .ok (.goto 14, 3) := by decide +kernel
theorem d_Cp_count_29 : dec m_Cp_count 29 = .ok (.aload_n 0, 1) := by decide +kernel
theorem d_Cp_count_30 : dec m_Cp_count 30 = .ok (.getfield 10, 3) := by decide +kernel
theorem d_Cp_count_33 : dec m_Cp_count 33 = .ok (.getfield 91, 3) := by decide +kernel
theorem d_Cp_count_36 : dec m_Cp_count 36 = .ok (.iload_n 1, 1) := by decide +kernel
theorem d_Cp_count_37 : dec m_Cp_count 37 = .ok (.invokestatic 226, 3) := by decide +kernel
theorem d_Cp_count_40 : dec m_Cp_count 40 = .ok (.ireturn, 1) := by decide +kernel
theorem d_Cp_count_41 : dec m_Cp_count 41 = .ok (.iload_n 1, 1) := by decide +kernel
theorem d_Cp_count_42 : dec m_Cp_count 42 = .ok (.tableswitch 118 0 10 #[58, 69, 118, 118, 118, 118, 118, 118, 80, 102, 110], 58) := by decide +kernel
theorem d_Cp_count_100 : dec m_Cp_count 100 = .ok (.aload_n 0, 1) := by decide +kernel
theorem d_Cp_count_101 : dec m_Cp_count 101 = .ok (.getfield 10, 3) := by decide +kernel
theorem d_Cp_count_104 : dec m_Cp_count 104 = .ok (.getfield 64, 3) := by decide +kernel
theorem d_Cp_count_107 : dec m_Cp_count 107 = .ok (.getfield 113, 3) := by decide +kernel
theorem d_Cp_count_110 : dec m_Cp_count 110 = .ok (.ireturn, 1) := by decide +kernel
theorem d_Cp_count_111 : dec m_Cp_count 111 = .ok (.aload_n 0, 1) := by decide +kernel
theorem d_Cp_count_112 : dec m_Cp_count 112 = .ok (.getfield 10, 3) := by decide +kernel
theorem d_Cp_count_115 : dec m_Cp_count 115 = .ok (.getfield 91, 3) := by decide +kernel
theorem d_Cp_count_118 : dec m_Cp_count 118 = .ok (.getfield 229, 3) := by decide +kernel
theorem d_Cp_count_121 : dec m_Cp_count 121 = .ok (.ireturn, 1) := by decide +kernel
theorem d_Cp_count_122 : dec m_Cp_count 122 = .ok (.aload_n 0, 1) := by decide +kernel
theorem d_Cp_count_123 : dec m_Cp_count 123 = .ok (.getfield 49, 3) := by decide +kernel
theorem d_Cp_count_126 : dec m_Cp_count 126 = .ok (.aload_n 0, 1) := by decide +kernel
theorem d_Cp_count_127 : dec m_Cp_count 127 = .ok (.getfield 10, 3) := by decide +kernel
theorem d_Cp_count_130 : dec m_Cp_count 130 = .ok (.getfield 64, 3) := by decide +kernel
theorem d_Cp_count_133 : dec m_Cp_count 133 = .ok (.invokevirtual 176, 3) := by decide +kernel
theorem d_Cp_count_136 : dec m_Cp_count 136 = .ok (.aload_n 0, 1) := by decide +kernel
theorem d_Cp_count_137 : dec m_Cp_count 137 = .ok (.getfield 49, 3) := by decide +kernel
theorem d_Cp_count_140 : dec m_Cp_count 140 = .ok (.invokevirtual 230, 3) := by decide +kernel
theorem d_Cp_count_143 : dec m_Cp_count 143 = .ok (.ireturn, 1) := by decide +kernel
theorem d_Cp_count_144 : dec m_Cp_count 144 = .ok (.aload_n 0, 1) := by decide +kernel
theorem d_Cp_count_145 : dec m_Cp_count 145 = .ok (.getfield 26, 3) := by decide +kernel
theorem d_Cp_count_148 : dec m_Cp_count 148 = .ok (.getfield 164, 3) := by decide +kernel
theorem d_Cp_count_151 : dec m_Cp_count 151 = .ok (.ireturn, 1) := by decide +kernel
theorem d_Cp_count_152 : dec m_Cp_count 152 = .ok (.aload_n 0, 1) := by decide +kernel
theorem d_Cp_count_153 : dec m_Cp_count 153 = .ok (.getfield 33, 3) := by decide +kernel
theorem d_Cp_count_156 : dec m_Cp_count 156 = .ok (.getfield 160, 3) := by decide +kernel
theorem d_Cp_count_159 : dec m_Cp_count 159 = .ok (.ireturn, 1) := by decide +kernel
theorem d_Cp_count_160 : dec m_Cp_count 160 = .ok (.bipush (-2), 2) := by decide +kernel
theorem d_Cp_count_162 : dec m_Cp_count 162 = .ok (.ireturn, 1) := by decide +kernel
theorem d_Cp_tellTree_0 : dec m_Cp_tellTree 0 = .ok (.iload_n 1, 1) := by decide +kernel
theorem d_Cp_tellTree_1 : dec m_Cp_tellTree 1 = .ok (.tableswitch 68 2 6 #[35, 44, 53, 58, 63], 35) := by decide +kernel
theorem d_Cp_tellTree_36 : dec m_Cp_tellTree 36 = .ok (.aload_n 0, 1) := by decide +kernel
theorem d_Cp_tellTree_37 : dec m_Cp_tellTree 37 = .ok (.getfield 141, 3) := by decide +kernel
theorem d_Cp_tellTree_40 : dec m_Cp_tellTree 40 = .ok (.iconst 0, 1) := by decide +kernel
theorem d_Cp_tellTree_41 : dec m_Cp_tellTree 41 = .ok (.invokevirtual 74, 3) := by decide +kernel
theorem d_Cp_tellTree_44 : dec m_Cp_tellTree 44 = .ok (.ireturn, 1) := by decide +kernel
theorem d_Cp_tellTree_45 : dec m_Cp_tellTree 45 = .ok (.aload_n 0, 1) := by decide +kernel
theorem d_Cp_tellTree_46 : dec m_Cp_tellTree 46 = .ok (.getfield 197, 3) := by decide +kernel
theorem d_Cp_tellTree_49 : dec m_Cp_tellTree 49 = .ok (.iconst 0, 1) := by decide +kernel
theorem d_Cp_tellTree_50 : dec m_Cp_tellTree 50 = .ok (.invokevirtual 74, 3) := by decide +kernel
theorem d_Cp_tellTree_53 : dec m_Cp_tellTree 53 = .ok (.ireturn, 1) := by decide +kernel
theorem d_Cp_tellTree_54 : dec m_Cp_tellTree 54 = .ok (.aload_n 0, 1) := by decide +kernel
theorem d_Cp_tellTree_55 : dec m_Cp_tellTree 55 = .ok (.invokevirtual 215, 3) := by decide +kernel
theorem d_Cp_tellTree_58 : dec m_Cp_tellTree 58 = .ok (.ireturn, 1) := by decide +kernel
theorem d_Cp_tellTree_59 : dec m_Cp_tellTree 59 = .ok (.aload_n 0, 1) := by decide +kernel
theorem d_Cp_tellTree_60 : dec m_Cp_tellTree 60 = .ok (.invokevirtual 233, 3) := by decide +kernel
theorem d_Cp_tellTree_63 : dec m_Cp_tellTree 63 = .ok (.ireturn, 1) := by decide +kernel
theorem d_Cp_tellTree_64 : dec m_Cp_tellTree 64 = .ok (.aload_n 0, 1) := by decide +kernel
theorem d_Cp_tellTree_65 : dec m_Cp_tellTree 65 = .ok (.invokevirtual 236, 3) := by decide +kernel
theorem d_Cp_tellTree_68 : dec m_Cp_tellTree 68 = .ok (.ireturn, 1) := by decide +kernel
theorem d_Cp_tellTree_69 : dec m_Cp_tellTree 69 = .ok (.aload_n 0, 1) := by decide +kernel
theorem d_Cp_tellTree_70 : dec m_Cp_tellTree 70 = .ok (.invokevirtual 239, 3) := by decide +kernel
theorem d_Cp_tellTree_73 : dec m_Cp_tellTree 73 = .ok (.ireturn, 1) := by decide +kernel
theorem d_Cp_isPosition_0 : dec m_Cp_isPosition 0 = .ok (.iload_n 0, 1) := by decide +kernel
theorem d_Cp_isPosition_1 : dec m_Cp_isPosition 1 = .ok (.ifCond .lt 13, 3) := by decide +kernel
theorem d_Cp_isPosition_4 : dec m_Cp_isPosition 4 = .ok (.iload_n 0, 1) := by decide +kernel
theorem d_Cp_isPosition_5 : dec m_Cp_isPosition 5 = .ok (.bipush 20, 2) := by decide +kernel
theorem d_Cp_isPosition_7 : dec m_Cp_isPosition 7 = .ok (.if_icmp .ge 7, 3) := by decide +kernel
theorem d_Cp_isPosition_10 : dec m_Cp_isPosition 10 = .ok (.iconst 1, 1) := by decide +kernel
theorem d_Cp_isPosition_11 : dec m_Cp_isPosition 11 = .ok (.goto 4, 3) := by decide +kernel
theorem d_Cp_isPosition_14 : dec m_Cp_isPosition 14 = .ok (.iconst 0, 1) := by decide +kernel
theorem d_Cp_isPosition_15 : dec m_Cp_isPosition 15 = .ok (.ireturn, 1) := by decide +kernel
theorem d_Cp_isGuess_0 : dec m_Cp_isGuess 0 = .ok (.iload_n 0, 1) := by decide +kernel
theorem d_Cp_isGuess_1 : dec m_Cp_isGuess 1 = .ok (.iconst 1, 1) := by decide +kernel
theorem d_Cp_isGuess_2 : dec m_Cp_isGuess 2 = .ok (.if_icmp .lt 13, 3) := by decide +kernel
theorem d_Cp_isGuess_5 : dec m_Cp_isGuess 5 = .ok (.iload_n 0, 1) := by decide +kernel
theorem d_Cp_isGuess_6 : dec m_Cp_isGuess 6 = .ok (.bipush 9, 2) := by decide +kernel
theorem d_Cp_isGuess_8 : dec m_Cp_isGuess 8 = .ok (.if_icmp .gt 7, 3) := by decide +kernel
theorem d_Cp_isGuess_11 : dec m_Cp_isGuess 11 = .ok (.iconst 1, 1) := by decide +kernel
theorem d_Cp_isGuess_12 : dec m_Cp_isGuess 12 = .ok (.goto 4, 3) := by decide +kernel
theorem d_Cp_isGuess_15 : dec m_Cp_isGuess 15 = .ok (.iconst 0, 1) := by decide +kernel
theorem d_Cp_isGuess_16 : dec m_Cp_isGuess 16 = .ok (.ireturn, 1) := by decide +kernel
theorem d_Lw_cell_0 : dec m_Lw_cell 0 = .ok (.iload_n 1, 1) := by decide +kernel
theorem d_Lw_cell_1 : dec m_Lw_cell 1 = .ok (.aload_n 0, 1) := by decide +kernel
theorem d_Lw_cell_2 : dec m_Lw_cell 2 = .ok (.arraylength, 1) := by decide +kernel
theorem d_Lw_cell_3 : dec m_Lw_cell 3 = .ok (.if_icmp .ge 9, 3) := by decide +kernel
theorem d_Lw_cell_6 : dec m_Lw_cell 6 = .ok (.aload_n 0, 1) := by decide +kernel
theorem d_Lw_cell_7 : dec m_Lw_cell 7 = .ok (.iload_n 1, 1) := by decide +kernel
theorem d_Lw_cell_8 : dec m_Lw_cell 8 = .ok (.iaload, 1) := by decide +kernel
theorem d_Lw_cell_9 : dec m_Lw_cell 9 = .ok (.goto 15, 3) := by decide +kernel
theorem d_Lw_cell_12 : dec m_Lw_cell 12 = .ok (.sipush 7919, 3) := by decide +kernel
theorem d_Lw_cell_15 : dec m_Lw_cell 15 = .ok (.iload_n 1, 1) := by decide +kernel
theorem d_Lw_cell_16 : dec m_Lw_cell 16 = .ok (.iconst 3, 1) := by decide +kernel
theorem d_Lw_cell_17 : dec m_Lw_cell 17 = .ok (.iadd, 1) := by decide +kernel
theorem d_Lw_cell_18 : dec m_Lw_cell 18 = .ok (.imul, 1) := by decide +kernel
theorem d_Lw_cell_19 : dec m_Lw_cell 19 = .ok (.iload_n 1, 1) := by decide +kernel
theorem d_Lw_cell_20 : dec m_Lw_cell 20 = .ok (.bipush 11, 2) := by decide +kernel
theorem d_Lw_cell_22 : dec m_Lw_cell 22 = .ok (.iadd, 1) := by decide +kernel
theorem d_Lw_cell_23 : dec m_Lw_cell 23 = .ok (.imul, 1) := by decide +kernel
theorem d_Lw_cell_24 : dec m_Lw_cell 24 = .ok (.ireturn, 1) := by decide +kernel
theorem d_Lw_low_0 : dec m_Lw_low 0 = .ok (.iload_n 0, 1) := by decide +kernel
theorem d_Lw_low_1 : dec m_Lw_low 1 = .ok (.ldc 7, 2) := by decide +kernel
theorem d_Lw_low_3 : dec m_Lw_low 3 = .ok (.iand, 1) := by decide +kernel
theorem d_Lw_low_4 : dec m_Lw_low 4 = .ok (.iload_n 1, 1) := by decide +kernel
theorem d_Lw_low_5 : dec m_Lw_low 5 = .ok (.irem, 1) := by decide +kernel
theorem d_Lw_low_6 : dec m_Lw_low 6 = .ok (.ireturn, 1) := by decide +kernel
theorem d_Lw_digest_0 : dec m_Lw_digest 0 = .ok (.ldc2_w 8, 3) := by decide +kernel
theorem d_Lw_digest_3 : dec m_Lw_digest 3 = .ok (.lstore_n 1, 1) := by decide +kernel
theorem d_Lw_digest_4 : dec m_Lw_digest 4 = .ok (.iconst 0, 1) := by decide +kernel
theorem d_Lw_digest_5 : dec m_Lw_digest 5 = .ok (.istore_n 3, 1) := by decide +kernel
theorem d_Lw_digest_6 : dec m_Lw_digest 6 = .ok (.iload_n 3, 1) := by decide +kernel
theorem d_Lw_digest_7 : dec m_Lw_digest 7 = .ok (.bipush 9, 2) := by decide +kernel
theorem d_Lw_digest_9 : dec m_Lw_digest 9 = .ok (.if_icmp .ge 22, 3) := by decide +kernel
theorem d_Lw_digest_12 : dec m_Lw_digest 12 = .ok (.ldc2_w 10, 3) := by decide +kernel
theorem d_Lw_digest_15 : dec m_Lw_digest 15 = .ok (.lload_n 1, 1) := by decide +kernel
theorem d_Lw_digest_16 : dec m_Lw_digest 16 = .ok (.lmul, 1) := by decide +kernel
theorem d_Lw_digest_17 : dec m_Lw_digest 17 = .ok (.aload_n 0, 1) := by decide +kernel
theorem d_Lw_digest_18 : dec m_Lw_digest 18 = .ok (.iload_n 3, 1) := by decide +kernel
theorem d_Lw_digest_19 : dec m_Lw_digest 19 = .ok (.invokevirtual 12, 3) := by decide +kernel
theorem d_Lw_digest_22 : dec m_Lw_digest 22 = .ok (.i2l, 1) := by decide +kernel
theorem d_Lw_digest_23 : dec m_Lw_digest 23 = .ok (.ladd, 1) := by decide +kernel
theorem d_Lw_digest_24 : dec m_Lw_digest 24 = .ok (.lstore_n 1, 1) := by decide +kernel
theorem d_Lw_digest_25 : dec m_Lw_digest 25 = .ok (.iinc 3 1, 3) := by decide +kernel
theorem d_Lw_digest_28 : dec m_Lw_digest 28 = .ok (.goto (-22), 3) := by decide +kernel
theorem d_Lw_digest_31 : dec m_Lw_digest 31 = .ok (.iconst 0, 1) := by decide +kernel
theorem d_Lw_digest_32 : dec m_Lw_digest 32 = .ok (.istore_n 3, 1) := by decide +kernel
theorem d_Lw_digest_33 : dec m_Lw_digest 33 = .ok (.iload_n 3, 1) := by decide +kernel
theorem d_Lw_digest_34 : dec m_Lw_digest 34 = .ok (.bipush 20, 2) := by decide +kernel
theorem d_Lw_digest_36 : dec m_Lw_digest 36 = .ok (.if_icmp .ge 74, 3) := by decide +kernel
theorem d_Lw_digest_39 : dec m_Lw_digest 39 = .ok (.iconst 0, 1) := by decide +kernel
theorem d_Lw_digest_40 : dec m_Lw_digest 40 = .ok (.istore 4, 2) := by decide +kernel
theorem d_Lw_digest_42 : dec m_Lw_digest 42 = .ok (.iload 4, 2) := by decide +kernel
theorem d_Lw_digest_44 : dec m_Lw_digest 44 = .ok (.iconst 5, 1) := by decide +kernel
theorem d_Lw_digest_45 : dec m_Lw_digest 45 = .ok (.if_icmp .ge 24, 3) := by decide +kernel
theorem d_Lw_digest_48 : dec m_Lw_digest 48 = .ok (.ldc2_w 10, 3) := by decide +kernel
theorem d_Lw_digest_51 : dec m_Lw_digest 51 = .ok (.lload_n 1, 1) := by decide +kernel
theorem d_Lw_digest_52 : dec m_Lw_digest 52 = .ok (.lmul, 1) := by decide +kernel
theorem d_Lw_digest_53 : dec m_Lw_digest 53 = .ok (.aload_n 0, 1) := by decide +kernel
theorem d_Lw_digest_54 : dec m_Lw_digest 54 = .ok (.iload_n 3, 1) := by decide +kernel
theorem d_Lw_digest_55 : dec m_Lw_digest 55 = .ok (.iload 4, 2) := by decide +kernel
theorem d_Lw_digest_57 : dec m_Lw_digest 57 = .ok (.invokevirtual 18, 3) := by decide +kernel
theorem d_Lw_digest_60 : dec m_Lw_digest 60 = .ok (.i2l, 1) := by decide +kernel
theorem d_Lw_digest_61 : dec m_Lw_digest 61 = .ok (.ladd, 1) := by decide +kernel
theorem d_Lw_digest_62 : dec m_Lw_digest 62 = .ok (.lstore_n 1, 1) := by decide +kernel
theorem d_Lw_digest_63 : dec m_Lw_digest 63 = .ok (.iinc 4 1, 3) := by decide +kernel
theorem d_Lw_digest_66 : dec m_Lw_digest 66 = .ok (.goto (-24), 3) := by decide +kernel
theorem d_Lw_digest_69 : dec m_Lw_digest 69 = .ok (.iconst 0, 1) := by decide +kernel
theorem d_Lw_digest_70 : dec m_Lw_digest 70 = .ok (.istore 4, 2) := by decide +kernel
theorem d_Lw_digest_72 : dec m_Lw_digest 72 = .ok (.iload 4, 2) := by decide +kernel
theorem d_Lw_digest_74 : dec m_Lw_digest 74 = .ok (.aload_n 0, 1) := by decide +kernel
theorem d_Lw_digest_75 : dec m_Lw_digest 75 = .ok (.iload_n 3, 1) := by decide +kernel
theorem d_Lw_digest_76 : dec m_Lw_digest 76 = .ok (.iconst 4, 1) := by decide +kernel
theorem d_Lw_digest_77 : dec m_Lw_digest 77 = .ok (.invokevirtual 18, 3) := by decide +kernel
theorem d_Lw_digest_80 : dec m_Lw_digest 80 = .ok (.if_icmp .ge 24, 3) := by decide +kernel
theorem d_Lw_digest_83 : dec m_Lw_digest 83 = .ok (.ldc2_w 10, 3) := by decide +kernel
theorem d_Lw_digest_86 : dec m_Lw_digest 86 = .ok (.lload_n 1, 1) := by decide +kernel
theorem d_Lw_digest_87 : dec m_Lw_digest 87 = .ok (.lmul, 1) := by decide +kernel
theorem d_Lw_digest_88 : dec m_Lw_digest 88 = .ok (.aload_n 0, 1) := by decide +kernel
theorem d_Lw_digest_89 : dec m_Lw_digest 89 = .ok (.iload_n 3, 1) := by decide +kernel
theorem d_Lw_digest_90 : dec m_Lw_digest 90 = .ok (.iload 4, 2) := by decide +kernel
theorem d_Lw_digest_92 : dec m_Lw_digest 92 = .ok (.invokevirtual 22, 3) := by decide +kernel
theorem d_Lw_digest_95 : dec m_Lw_digest 95 = .ok (.i2l, 1) := by decide +kernel
theorem d_Lw_digest_96 : dec m_Lw_digest 96 = .ok (.ladd, 1) := by decide +kernel
theorem d_Lw_digest_97 : dec m_Lw_digest 97 = .ok (.lstore_n 1, 1) := by decide +kernel
theorem d_Lw_digest_98 : dec m_Lw_digest 98 = .ok (.iinc 4 1, 3) := by decide +kernel
theorem d_Lw_digest_101 : dec m_Lw_digest 101 = .ok (.goto (-29), 3) := by decide +kernel
theorem d_Lw_digest_104 : dec m_Lw_digest 104 = .ok (.iinc 3 1, 3) := by decide +kernel
theorem d_Lw_digest_107 : dec m_Lw_digest 107 = .ok (.goto (-74), 3) := by decide +kernel
theorem d_Lw_digest_110 : dec m_Lw_digest 110 = .ok (.iconst 0, 1) := by decide +kernel
theorem d_Lw_digest_111 : dec m_Lw_digest 111 = .ok (.istore_n 3, 1) := by decide +kernel
theorem d_Lw_digest_112 : dec m_Lw_digest 112 = .ok (.iload_n 3, 1) := by decide +kernel
theorem d_Lw_digest_113 : dec m_Lw_digest 113 = .ok (.aload_n 0, 1) := by decide +kernel
theorem d_Lw_digest_114 : dec m_Lw_digest 114 = .ok (.iconst 1, 1) := by decide +kernel
theorem d_Lw_digest_115 : dec m_Lw_digest 115 = .ok (.invokevirtual 12, 3) := by decide +kernel
theorem d_Lw_digest_118 : dec m_Lw_digest 118 = .ok (.if_icmp .ge 46, 3) := by decide +kernel
theorem d_Lw_digest_121 : dec m_Lw_digest 121 = .ok (.iconst 0, 1) := by decide +kernel
theorem d_Lw_digest_122 : dec m_Lw_digest 122 = .ok (.istore 4, 2) := by decide +kernel
theorem d_Lw_digest_124 : dec m_Lw_digest 124 = .ok (.iload 4, 2) := by decide +kernel
theorem d_Lw_digest_126 : dec m_Lw_digest 126 = .ok (.bipush 6, 2) := by decide +kernel
theorem d_Lw_digest_128 : dec m_Lw_digest 128 = .ok (.if_icmp .ge 24, 3) := by decide +kernel
theorem d_Lw_digest_131 : dec m_Lw_digest 131 = .ok (.ldc2_w 10, 3) := by decide +kernel
theorem d_Lw_digest_134 : dec m_Lw_digest 134 = .ok (.lload_n 1, 1) := by decide +kernel
theorem d_Lw_digest_135 : dec m_Lw_digest 135 = .ok (.lmul, 1) := by decide +kernel
theorem d_Lw_digest_136 : dec m_Lw_digest 136 = .ok (.aload_n 0, 1) := by decide +kernel
theorem d_Lw_digest_137 : dec m_Lw_digest 137 = .ok (.iload_n 3, 1) := by decide +kernel
theorem d_Lw_digest_138 : dec m_Lw_digest 138 = .ok (.iload 4, 2) := by decide +kernel
theorem d_Lw_digest_140 : dec m_Lw_digest 140 = .ok (.invokevirtual 25, 3) := by decide +kernel
theorem d_Lw_digest_143 : dec m_Lw_digest 143 = .ok (.i2l, 1) := by decide +kernel
theorem d_Lw_digest_144 : dec m_Lw_digest 144 = .ok (.ladd, 1) := by decide +kernel
theorem d_Lw_digest_145 : dec m_Lw_digest 145 = .ok (.lstore_n 1, 1) := by decide +kernel
theorem d_Lw_digest_146 : dec m_Lw_digest 146 = .ok (.iinc 4 1, 3) := by decide +kernel
theorem d_Lw_digest_149 : dec m_Lw_digest 149 = .ok (.goto (-25), 3) := by decide +kernel
theorem d_Lw_digest_152 : dec m_Lw_digest 152 = .ok (.iload_n 3, 1) := by decide +kernel
theorem d_Lw_digest_153 : dec m_Lw_digest 153 = .ok (.iconst 1, 1) := by decide +kernel
theorem d_Lw_digest_154 : dec m_Lw_digest 154 = .ok (.iload_n 3, 1) := by decide +kernel
theorem d_Lw_digest_155 : dec m_Lw_digest 155 = .ok (.bipush 20, 2) := by decide +kernel
theorem d_Lw_digest_157 : dec m_Lw_digest 157 = .ok (.idiv, 1) := by decide +kernel
theorem d_Lw_digest_158 : dec m_Lw_digest 158 = .ok (.iadd, 1) := by decide +kernel
theorem d_Lw_digest_159 : dec m_Lw_digest 159 = .ok (.iadd, 1) := by decide +kernel
theorem d_Lw_digest_160 : dec m_Lw_digest 160 = .ok (.istore_n 3, 1) := by decide +kernel
theorem d_Lw_digest_161 : dec m_Lw_digest 161 = .ok (.goto (-49), 3) := by decide +kernel
theorem d_Lw_digest_164 : dec m_Lw_digest 164 = .ok (.lload_n 1, 1) := by decide +kernel
theorem d_Lw_digest_165 : dec m_Lw_digest 165 = .ok (.lreturn, 1) := by decide +kernel
theorem d_Lw_act_0 : dec m_Lw_act 0 = .ok (.iload_n 1, 1) := by decide +kernel
theorem d_Lw_act_1 : dec m_Lw_act 1 = .ok (.iconst 4, 1) := by decide +kernel
theorem d_Lw_act_2 : dec m_Lw_act 2 = .ok (.ishr, 1) := by decide +kernel
theorem d_Lw_act_3 : dec m_Lw_act 3 = .ok (.iload_n 2, 1) := by decide +kernel
theorem d_Lw_act_4 : dec m_Lw_act 4 = .ok (.bipush 20, 2) := by decide +kernel
theorem d_Lw_act_6 : dec m_Lw_act 6 = .ok (.ishr, 1) := by decide +kernel
theorem d_Lw_act_7 : dec m_Lw_act 7 = .ok (.bipush 15, 2) := by decide +kernel
theorem d_Lw_act_9 : dec m_Lw_act 9 = .ok (.iand, 1) := by decide +kernel
theorem d_Lw_act_10 : dec m_Lw_act 10 = .ok (.ifCond .ne 8, 3) := by decide +kernel
theorem d_Lw_act_13 : dec m_Lw_act 13 = .ok (.bipush 22, 2) := by decide +kernel
theorem d_Lw_act_15 : dec m_Lw_act 15 = .ok (.goto 5, 3) := by decide +kernel
theorem d_Lw_act_18 : dec m_Lw_act 18 = .ok (.bipush 8, 2) := by decide +kernel
theorem d_Lw_act_20 : dec m_Lw_act 20 = .ok (.invokestatic 28, 3) := by decide +kernel
theorem d_Lw_act_23 : dec m_Lw_act 23 = .ok (.istore_n 3, 1) := by decide +kernel
theorem d_Lw_act_24 : dec m_Lw_act 24 = .ok (.iload_n 2, 1) := by decide +kernel
theorem d_Lw_act_25 : dec m_Lw_act 25 = .ok (.iload_n 2, 1) := by decide +kernel
theorem d_Lw_act_26 : dec m_Lw_act 26 = .ok (.bipush 20, 2) := by decide +kernel
theorem d_Lw_act_28 : dec m_Lw_act 28 = .ok (.ishr, 1) := by decide +kernel
theorem d_Lw_act_29 : dec m_Lw_act 29 = .ok (.bipush 15, 2) := by decide +kernel
theorem d_Lw_act_31 : dec m_Lw_act 31 = .ok (.iand, 1) := by decide +kernel
theorem d_Lw_act_32 : dec m_Lw_act 32 = .ok (.iconst 1, 1) := by decide +kernel
theorem d_Lw_act_33 : dec m_Lw_act 33 = .ok (.if_icmp .ne 8, 3) := by decide +kernel
theorem d_Lw_act_36 : dec m_Lw_act 36 = .ok (.bipush 22, 2) := by decide +kernel
theorem d_Lw_act_38 : dec m_Lw_act 38 = .ok (.goto 5, 3) := by decide +kernel
theorem d_Lw_act_41 : dec m_Lw_act 41 = .ok (.bipush 8, 2) := by decide +kernel
theorem d_Lw_act_43 : dec m_Lw_act 43 = .ok (.invokestatic 28, 3) := by decide +kernel
theorem d_Lw_act_46 : dec m_Lw_act 46 = .ok (.istore 4, 2) := by decide +kernel
theorem d_Lw_act_48 : dec m_Lw_act 48 = .ok (.iload_n 1, 1) := by decide +kernel
theorem d_Lw_act_49 : dec m_Lw_act 49 = .ok (.bipush 15, 2) := by decide +kernel
theorem d_Lw_act_51 : dec m_Lw_act 51 = .ok (.iand, 1) := by decide +kernel
theorem d_Lw_act_52 : dec m_Lw_act 52 = .ok (.tableswitch 138 0 10 #[60, 60, 60, 60, 60, 60, 68, 76, 94, 132, 132], 60) := by decide +kernel
theorem d_Lw_act_112 : dec m_Lw_act 112 = .ok (.aload_n 0, 1) := by decide +kernel
theorem d_Lw_act_113 : dec m_Lw_act 113 = .ok (.iload_n 3, 1) := by decide +kernel
theorem d_Lw_act_114 : dec m_Lw_act 114 = .ok (.iload 4, 2) := by decide +kernel
theorem d_Lw_act_116 : dec m_Lw_act 116 = .ok (.invokevirtual 33, 3) := by decide +kernel
theorem d_Lw_act_119 : dec m_Lw_act 119 = .ok (.ireturn, 1) := by decide +kernel
theorem d_Lw_act_120 : dec m_Lw_act 120 = .ok (.aload_n 0, 1) := by decide +kernel
theorem d_Lw_act_121 : dec m_Lw_act 121 = .ok (.iload_n 3, 1) := by decide +kernel
theorem d_Lw_act_122 : dec m_Lw_act 122 = .ok (.iload 4, 2) := by decide +kernel
theorem d_Lw_act_124 : dec m_Lw_act 124 = .ok (.invokevirtual 36, 3) := by decide +kernel
theorem d_Lw_act_127 : dec m_Lw_act 127 = .ok (.ireturn, 1) := by decide +kernel
theorem d_Lw_act_128 : dec m_Lw_act 128 = .ok (.aload_n 0, 1) := by decide +kernel
theorem d_Lw_act_129 : dec m_Lw_act 129 = .ok (.iload_n 3, 1) := by decide +kernel
theorem d_Lw_act_130 : dec m_Lw_act 130 = .ok (.iload_n 2, 1) := by decide +kernel
theorem d_Lw_act_131 : dec m_Lw_act 131 = .ok (.iconst 3, 1) := by decide +kernel
theorem d_Lw_act_132 : dec m_Lw_act 132 = .ok (.invokestatic 28, 3) := by decide +kernel
theorem d_Lw_act_135 : dec m_Lw_act 135 = .ok (.iload_n 2, 1) := by decide +kernel
theorem d_Lw_act_136 : dec m_Lw_act 136 = .ok (.iconst 2, 1) := by decide +kernel
theorem d_Lw_act_137 : dec m_Lw_act 137 = .ok (.ishr, 1) := by decide +kernel
theorem d_Lw_act_138 : dec m_Lw_act 138 = .ok (.iconst 4, 1) := by decide +kernel
theorem d_Lw_act_139 : dec m_Lw_act 139 = .ok (.invokestatic 28, 3) := by decide +kernel
theorem d_Lw_act_142 : dec m_Lw_act 142 = .ok (.invokevirtual 39, 3) := by decide +kernel
theorem d_Lw_act_145 : dec m_Lw_act 145 = .ok (.ireturn, 1) := by decide +kernel
theorem d_Lw_act_146 : dec m_Lw_act 146 = .ok (.iload_n 2, 1) := by decide +kernel
theorem d_Lw_act_147 : dec m_Lw_act 147 = .ok (.iconst 3, 1) := by decide +kernel
theorem d_Lw_act_148 : dec m_Lw_act 148 = .ok (.iand, 1) := by decide +kernel
theorem d_Lw_act_149 : dec m_Lw_act 149 = .ok (.ifCond .ne 10, 3) := by decide +kernel
theorem d_Lw_act_152 : dec m_Lw_act 152 = .ok (.aload_n 0, 1) := by decide +kernel
theorem d_Lw_act_153 : dec m_Lw_act 153 = .ok (.invokevirtual 43, 3) := by decide +kernel
theorem d_Lw_act_156 : dec m_Lw_act 156 = .ok (.goto 27, 3) := by decide +kernel
theorem d_Lw_act_159 : dec m_Lw_act 159 = .ok (.aload_n 0, 1) := by decide +kernel
theorem d_Lw_act_160 : dec m_Lw_act 160 = .ok (.iload_n 3, 1) := by decide +kernel
theorem d_Lw_act_161 : dec m_Lw_act 161 = .ok (.iload_n 2, 1) := by decide +kernel
theorem d_Lw_act_162 : dec m_Lw_act 162 = .ok (.iconst 2, 1) := by decide +kernel
theorem d_Lw_act_163 : dec m_Lw_act 163 = .ok (.ishr, 1) := by decide +kernel
theorem d_Lw_act_164 : dec m_Lw_act 164 = .ok (.bipush 10, 2) := by decide +kernel
theorem d_Lw_act_166 : dec m_Lw_act 166 = .ok (.invokestatic 28, 3) := by decide +kernel
theorem d_Lw_act_169 : dec m_Lw_act 169 = .ok (.iconst 1, 1) := by decide +kernel
theorem d_Lw_act_170 : dec m_Lw_act 170 = .ok (.iload_n 2, 1) := by decide +kernel
theorem d_Lw_act_171 : dec m_Lw_act 171 = .ok (.bipush 6, 2) := by decide +kernel
theorem d_Lw_act_173 : dec m_Lw_act 173 = .ok (.ishr, 1) := by decide +kernel
theorem d_Lw_act_174 : dec m_Lw_act 174 = .ok (.bipush 9, 2) := by decide +kernel
theorem d_Lw_act_176 : dec m_Lw_act 176 = .ok (.invokestatic 28, 3) := by decide +kernel
theorem d_Lw_act_179 : dec m_Lw_act 179 = .ok (.iadd, 1) := by decide +kernel
theorem d_Lw_act_180 : dec m_Lw_act 180 = .ok (.invokevirtual 47, 3) := by decide +kernel
theorem d_Lw_act_183 : dec m_Lw_act 183 = .ok (.ireturn, 1) := by decide +kernel
theorem d_Lw_act_184 : dec m_Lw_act 184 = .ok (.aload_n 0, 1) := by decide +kernel
theorem d_Lw_act_185 : dec m_Lw_act 185 = .ok (.iload_n 3, 1) := by decide +kernel
theorem d_Lw_act_186 : dec m_Lw_act 186 = .ok (.invokevirtual 50, 3) := by decide +kernel
theorem d_Lw_act_189 : dec m_Lw_act 189 = .ok (.ireturn, 1) := by decide +kernel
theorem d_Lw_act_190 : dec m_Lw_act 190 = .ok (.aload_n 0, 1) := by decide +kernel
theorem d_Lw_act_191 : dec m_Lw_act 191 = .ok (.iload_n 2, 1) := by decide +kernel
theorem d_Lw_act_192 : dec m_Lw_act 192 = .ok (.bipush 40, 2) := by decide +kernel
theorem d_Lw_act_194 : dec m_Lw_act 194 = .ok (.invokestatic 28, 3) := by decide +kernel
theorem d_Lw_act_197 : dec m_Lw_act 197 = .ok (.invokevirtual 53, 3) := by decide +kernel
theorem d_Lw_act_200 : dec m_Lw_act 200 = .ok (.ireturn, 1) := by decide +kernel
theorem d_Lw_holds_0 : dec m_Lw_holds 0 = .ok (.iconst 0, 1) := by decide +kernel
theorem d_Lw_holds_1 : dec m_Lw_holds 1 = .ok (.istore_n 1, 1) := by decide +kernel
theorem d_Lw_holds_2 : dec m_Lw_holds 2 = .ok (.iconst 0, 1) := by decide +kernel
theorem d_Lw_holds_3 : dec m_Lw_holds 3 = .ok (.istore_n 2, 1) := by decide +kernel
theorem d_Lw_holds_4 : dec m_Lw_holds 4 = .ok (.iload_n 2, 1) := by decide +kernel
theorem d_Lw_holds_5 : dec m_Lw_holds 5 = .ok (.bipush 20, 2) := by decide +kernel
theorem d_Lw_holds_7 : dec m_Lw_holds 7 = .ok (.if_icmp .ge 247, 3) := by decide +kernel
theorem d_Lw_holds_10 : dec m_Lw_holds 10 = .ok (.aload_n 0, 1) := by decide +kernel
theorem d_Lw_holds_11 : dec m_Lw_holds 11 = .ok (.iload_n 2, 1) := by decide +kernel
theorem d_Lw_holds_12 : dec m_Lw_holds 12 = .ok (.bipush 7, 2) := by decide +kernel
theorem d_Lw_holds_14 : dec m_Lw_holds 14 = .ok (.invokevirtual 18, 3) := by decide +kernel
theorem d_Lw_holds_17 : dec m_Lw_holds 17 = .ok (.istore_n 3, 1) := by decide +kernel
theorem d_Lw_holds_18 : dec m_Lw_holds 18 = .ok (.sipush 1000, 3) := by decide +kernel
theorem d_Lw_holds_21 : dec m_Lw_holds 21 = .ok (.istore 4, 2) := by decide +kernel
theorem d_Lw_holds_23 : dec m_Lw_holds 23 = .ok (.iconst (-1), 1) := by decide +kernel
theorem d_Lw_holds_24 : dec m_Lw_holds 24 = .ok (.istore 5, 2) := by decide +kernel
theorem d_Lw_holds_26 : dec m_Lw_holds 26 = .ok (.iconst 1, 1) := by decide +kernel
theorem d_Lw_holds_27 : dec m_Lw_holds 27 = .ok (.istore 6, 2) := by decide +kernel
theorem d_Lw_holds_29 : dec m_Lw_holds 29 = .ok (.aload_n 0, 1) := by decide +kernel
theorem d_Lw_holds_30 : dec m_Lw_holds 30 = .ok (.iload_n 2, 1) := by decide +kernel
theorem d_Lw_holds_31 : dec m_Lw_holds 31 = .ok (.iconst 4, 1) := by decide +kernel
theorem d_Lw_holds_32 : dec m_Lw_holds 32 = .ok (.invokevirtual 18, 3) := by decide +kernel
theorem d_Lw_holds_35 : dec m_Lw_holds 35 = .ok (.istore 7, 2) := by decide +kernel
theorem d_Lw_holds_37 : dec m_Lw_holds 37 = .ok (.iconst 0, 1) := by decide +kernel
theorem d_Lw_holds_38 : dec m_Lw_holds 38 = .ok (.istore 8, 2) := by decide +kernel
theorem d_Lw_holds_40 : dec m_Lw_holds 40 = .ok (.iload 8, 2) := by decide +kernel
theorem d_Lw_holds_42 : dec m_Lw_holds 42 = .ok (.iload 7, 2) := by decide +kernel
theorem d_Lw_holds_44 : dec m_Lw_holds 44 = .ok (.if_icmp .ge 78, 3) := by decide +kernel
theorem d_Lw_holds_47 : dec m_Lw_holds 47 = .ok (.aload_n 0, 1) := by decide +kernel
theorem d_Lw_holds_48 : dec m_Lw_holds 48 = .ok (.aload_n 0, 1) := by decide +kernel
theorem d_Lw_holds_49 : dec m_Lw_holds 49 = .ok (.iload_n 2, 1) := by decide +kernel
theorem d_Lw_holds_50 : dec m_Lw_holds 50 = .ok (.iload 8, 2) := by decide +kernel
theorem d_Lw_holds_52 : dec m_Lw_holds 52 = .ok (.invokevirtual 22, 3) := by decide +kernel
theorem d_Lw_holds_55 : dec m_Lw_holds 55 = .ok (.bipush 7, 2) := by decide +kernel
theorem d_Lw_holds_57 : dec m_Lw_holds 57 = .ok (.invokevirtual 18, 3) := by decide +kernel
theorem d_Lw_holds_60 : dec m_Lw_holds 60 = .ok (.istore 9, 2) := by decide +kernel
theorem d_Lw_holds_62 : dec m_Lw_holds 62 = .ok (.iload 9, 2) := by decide +kernel
theorem d_Lw_holds_64 : dec m_Lw_holds 64 = .ok (.ifCond .lt 15, 3) := by decide +kernel
theorem d_Lw_holds_67 : dec m_Lw_holds 67 = .ok (.iload 9, 2) := by decide +kernel
theorem d_Lw_holds_69 : dec m_Lw_holds 69 = .ok (.iload 4, 2) := by decide +kernel
theorem d_Lw_holds_71 : dec m_Lw_holds 71 = .ok (.if_icmp .ge 8, 3) := by decide +kernel
theorem d_Lw_holds_74 : dec m_Lw_holds 74 = .ok (.iload 9, 2) := by decide +kernel
theorem d_Lw_holds_76 : dec m_Lw_holds 76 = .ok (.goto 5, 3) := by decide +kernel
theorem d_Lw_holds_79 : dec m_Lw_holds 79 = .ok (.iload 4, 2) := by decide +kernel
theorem d_Lw_holds_81 : dec m_Lw_holds 81 = .ok (.istore 4, 2) := by decide +kernel
theorem d_Lw_holds_83 : dec m_Lw_holds 83 = .ok (.iload 9, 2) := by decide +kernel
theorem d_Lw_holds_85 : dec m_Lw_holds 85 = .ok (.iload 5, 2) := by decide +kernel
theorem d_Lw_holds_87 : dec m_Lw_holds 87 = .ok (.if_icmp .le 8, 3) := by decide +kernel
theorem d_Lw_holds_90 : dec m_Lw_holds 90 = .ok (.iload 9, 2) := by decide +kernel
theorem d_Lw_holds_92 : dec m_Lw_holds 92 = .ok (.goto 5, 3) := by decide +kernel
theorem d_Lw_holds_95 : dec m_Lw_holds 95 = .ok (.iload 5, 2) := by decide +kernel
theorem d_Lw_holds_97 : dec m_Lw_holds 97 = .ok (.istore 5, 2) := by decide +kernel
theorem d_Lw_holds_99 : dec m_Lw_holds 99 = .ok (.iload 6, 2) := by decide +kernel
theorem d_Lw_holds_101 : dec m_Lw_holds 101 = .ok (.ifCond .eq 12, 3) := by decide +kernel
theorem d_Lw_holds_104 : dec m_Lw_holds 104 = .ok (.iload 9, 2) := by decide +kernel
theorem d_Lw_holds_106 : dec m_Lw_holds 106 = .ok (.ifCond .lt 7, 3) := by decide +kernel
theorem d_Lw_holds_109 : dec m_Lw_holds 109 = .ok (.iconst 1, 1) := by decide +kernel
theorem d_Lw_holds_110 : dec m_Lw_holds 110 = .ok (.goto 4, 3) := by decide +kernel
theorem d_Lw_holds_113 : dec m_Lw_holds 113 = .ok (.iconst 0, 1) := by decide +kernel
theorem d_Lw_holds_114 : dec m_Lw_holds 114 = .ok (.istore 6, 2) := by decide +kernel
theorem d_Lw_holds_116 : dec m_Lw_holds 116 = .ok (.iinc 8 1, 3) := by decide +kernel
theorem d_Lw_holds_119 : dec m_Lw_holds 119 = .ok (.goto (-79), 3) := by decide +kernel
theorem d_Lw_holds_122 : dec m_Lw_holds 122 = .ok (.aload_n 0, 1) := by decide +kernel
theorem d_Lw_holds_123 : dec m_Lw_holds 123 = .ok (.iload_n 2, 1) := by decide +kernel
theorem d_Lw_holds_124 : dec m_Lw_holds 124 = .ok (.iconst 0, 1) := by decide +kernel
theorem d_Lw_holds_125 : dec m_Lw_holds 125 = .ok (.invokevirtual 18, 3) := by decide +kernel
theorem d_Lw_holds_128 : dec m_Lw_holds 128 = .ok (.ifCond .ne 23, 3) := by decide +kernel
theorem d_Lw_holds_131 : dec m_Lw_holds 131 = .ok (.iload 4, 2) := by decide +kernel
theorem d_Lw_holds_133 : dec m_Lw_holds 133 = .ok (.sipush 1000, 3) := by decide +kernel
theorem d_Lw_holds_136 : dec m_Lw_holds 136 = .ok (.if_icmp .ge 10, 3) := by decide +kernel
theorem d_Lw_holds_139 : dec m_Lw_holds 139 = .ok (.iload 4, 2) := by decide +kernel
theorem d_Lw_holds_141 : dec m_Lw_holds 141 = .ok (.iconst 1, 1) := by decide +kernel
theorem d_Lw_holds_142 : dec m_Lw_holds 142 = .ok (.iadd, 1) := by decide +kernel
theorem d_Lw_holds_143 : dec m_Lw_holds 143 = .ok (.goto 22, 3) := by decide +kernel
theorem d_Lw_holds_146 : dec m_Lw_holds 146 = .ok (.bipush (-5), 2) := by decide +kernel
theorem d_Lw_holds_148 : dec m_Lw_holds 148 = .ok (.goto 17, 3) := by decide +kernel
theorem d_Lw_holds_151 : dec m_Lw_holds 151 = .ok (.iload 6, 2) := by decide +kernel
theorem d_Lw_holds_153 : dec m_Lw_holds 153 = .ok (.ifCond .eq 10, 3) := by decide +kernel
theorem d_Lw_holds_156 : dec m_Lw_holds 156 = .ok (.iload 5, 2) := by decide +kernel
theorem d_Lw_holds_158 : dec m_Lw_holds 158 = .ok (.iconst 1, 1) := by decide +kernel
theorem d_Lw_holds_159 : dec m_Lw_holds 159 = .ok (.iadd, 1) := by decide +kernel
theorem d_Lw_holds_160 : dec m_Lw_holds 160 = .ok (.goto 5, 3) := by decide +kernel
theorem d_Lw_holds_163 : dec m_Lw_holds 163 = .ok (.bipush (-5), 2) := by decide +kernel
theorem d_Lw_holds_165 : dec m_Lw_holds 165 = .ok (.istore 8, 2) := by decide +kernel
theorem d_Lw_holds_167 : dec m_Lw_holds 167 = .ok (.aload_n 0, 1) := by decide +kernel
theorem d_Lw_holds_168 : dec m_Lw_holds 168 = .ok (.iload_n 2, 1) := by decide +kernel
theorem d_Lw_holds_169 : dec m_Lw_holds 169 = .ok (.iconst 5, 1) := by decide +kernel
theorem d_Lw_holds_170 : dec m_Lw_holds 170 = .ok (.invokevirtual 18, 3) := by decide +kernel
theorem d_Lw_holds_173 : dec m_Lw_holds 173 = .ok (.iconst 1, 1) := by decide +kernel
theorem d_Lw_holds_174 : dec m_Lw_holds 174 = .ok (.if_icmp .ne 22, 3) := by decide +kernel
theorem d_Lw_holds_177 : dec m_Lw_holds 177 = .ok (.aload_n 0, 1) := by decide +kernel
theorem d_Lw_holds_178 : dec m_Lw_holds 178 = .ok (.iload_n 2, 1) := by decide +kernel
theorem d_Lw_holds_179 : dec m_Lw_holds 179 = .ok (.iconst 1, 1) := by decide +kernel
theorem d_Lw_holds_180 : dec m_Lw_holds 180 = .ok (.invokevirtual 18, 3) := by decide +kernel
theorem d_Lw_holds_183 : dec m_Lw_holds 183 = .ok (.iconst 1, 1) := by decide +kernel
theorem d_Lw_holds_184 : dec m_Lw_holds 184 = .ok (.if_icmp .ne 7, 3) := by decide +kernel
theorem d_Lw_holds_187 : dec m_Lw_holds 187 = .ok (.iconst 0, 1) := by decide +kernel
theorem d_Lw_holds_188 : dec m_Lw_holds 188 = .ok (.goto 10, 3) := by decide +kernel
theorem d_Lw_holds_191 : dec m_Lw_holds 191 = .ok (.bipush (-5), 2) := by decide +kernel
theorem d_Lw_holds_193 : dec m_Lw_holds 193 = .ok (.goto 5, 3) := by decide +kernel
theorem d_Lw_holds_196 : dec m_Lw_holds 196 = .ok (.iload 8, 2) := by decide +kernel
theorem d_Lw_holds_198 : dec m_Lw_holds 198 = .ok (.istore 8, 2) := by decide +kernel
theorem d_Lw_holds_200 : dec m_Lw_holds 200 = .ok (.iload_n 1, 1) := by decide +kernel
theorem d_Lw_holds_201 : dec m_Lw_holds 201 = .ok (.iload_n 3, 1) := by decide +kernel
theorem d_Lw_holds_202 : dec m_Lw_holds 202 = .ok (.ifCond .lt 7, 3) := by decide +kernel
theorem d_Lw_holds_205 : dec m_Lw_holds 205 = .ok (.iconst 1, 1) := by decide +kernel
theorem d_Lw_holds_206 : dec m_Lw_holds 206 = .ok (.goto 4, 3) := by decide +kernel
theorem d_Lw_holds_209 : dec m_Lw_holds 209 = .ok (.iconst 0, 1) := by decide +kernel
theorem d_Lw_holds_210 : dec m_Lw_holds 210 = .ok (.iadd, 1) := by decide +kernel
theorem d_Lw_holds_211 : dec m_Lw_holds 211 = .ok (.istore_n 1, 1) := by decide +kernel
theorem d_Lw_holds_212 : dec m_Lw_holds 212 = .ok (.iload_n 3, 1) := by decide +kernel
theorem d_Lw_holds_213 : dec m_Lw_holds 213 = .ok (.iload 8, 2) := by decide +kernel
theorem d_Lw_holds_215 : dec m_Lw_holds 215 = .ok (.if_icmp .ne 31, 3) := by decide +kernel
theorem d_Lw_holds_218 : dec m_Lw_holds 218 = .ok (.iload_n 3, 1) := by decide +kernel
theorem d_Lw_holds_219 : dec m_Lw_holds 219 = .ok (.ifCond .lt 7, 3) := by decide +kernel
theorem d_Lw_holds_222 : dec m_Lw_holds 222 = .ok (.iconst 1, 1) := by decide +kernel
theorem d_Lw_holds_223 : dec m_Lw_holds 223 = .ok (.goto 4, 3) := by decide +kernel
theorem d_Lw_holds_226 : dec m_Lw_holds 226 = .ok (.iconst 0, 1) := by decide +kernel
theorem d_Lw_holds_227 : dec m_Lw_holds 227 = .ok (.aload_n 0, 1) := by decide +kernel
theorem d_Lw_holds_228 : dec m_Lw_holds 228 = .ok (.iload_n 2, 1) := by decide +kernel
theorem d_Lw_holds_229 : dec m_Lw_holds 229 = .ok (.bipush 6, 2) := by decide +kernel
theorem d_Lw_holds_231 : dec m_Lw_holds 231 = .ok (.invokevirtual 18, 3) := by decide +kernel
theorem d_Lw_holds_234 : dec m_Lw_holds 234 = .ok (.iconst 1, 1) := by decide +kernel
theorem d_Lw_holds_235 : dec m_Lw_holds 235 = .ok (.if_icmp .ne 7, 3) := by decide +kernel
theorem d_Lw_holds_238 : dec m_Lw_holds 238 = .ok (.iconst 1, 1) := by decide +kernel
theorem d_Lw_holds_239 : dec m_Lw_holds 239 = .ok (.goto 4, 3) := by decide +kernel
theorem d_Lw_holds_242 : dec m_Lw_holds 242 = .ok (.iconst 0, 1) := by decide +kernel
theorem d_Lw_holds_243 : dec m_Lw_holds 243 = .ok (.if_icmp .eq 5, 3) := by decide +kernel
theorem d_Lw_holds_246 : dec m_Lw_holds 246 = .ok (.iconst 0, 1) := by decide +kernel
theorem d_Lw_holds_247 : dec m_Lw_holds 247 = .ok (.ireturn, 1) := by decide +kernel
theorem d_Lw_holds_248 : dec m_Lw_holds 248 = .ok (.iinc 2 1, 3) := by decide +kernel
theorem d_Lw_holds_251 : dec m_Lw_holds 251 = .ok (.goto (-247), 3) := by decide +kernel
theorem d_Lw_holds_254 : dec m_Lw_holds 254 = .ok (.aload_n 0, 1) := by decide +kernel
theorem d_Lw_holds_255 : dec m_Lw_holds 255 = .ok (.iconst 1, 1) := by decide +kernel
theorem d_Lw_holds_256 : dec m_Lw_holds 256 = .ok (.invokevirtual 12, 3) := by decide +kernel
theorem d_Lw_holds_259 : dec m_Lw_holds 259 = .ok (.istore_n 2, 1) := by decide +kernel
theorem d_Lw_holds_260 : dec m_Lw_holds 260 = .ok (.aload_n 0, 1) := by decide +kernel
theorem d_Lw_holds_261 : dec m_Lw_holds 261 = .ok (.iconst 2, 1) := by decide +kernel
theorem d_Lw_holds_262 : dec m_Lw_holds 262 = .ok (.invokevirtual 12, 3) := by decide +kernel
theorem d_Lw_holds_265 : dec m_Lw_holds 265 = .ok (.istore_n 3, 1) := by decide +kernel
theorem d_Lw_holds_266 : dec m_Lw_holds 266 = .ok (.aload_n 0, 1) := by decide +kernel
theorem d_Lw_holds_267 : dec m_Lw_holds 267 = .ok (.iconst 3, 1) := by decide +kernel
theorem d_Lw_holds_268 : dec m_Lw_holds 268 = .ok (.invokevirtual 12, 3) := by decide +kernel
theorem d_Lw_holds_271 : dec m_Lw_holds 271 = .ok (.istore 4, 2) := by decide +kernel
theorem d_Lw_holds_273 : dec m_Lw_holds 273 = .ok (.iload_n 2, 1) := by decide +kernel
theorem d_Lw_holds_274 : dec m_Lw_holds 274 = .ok (.ifCond .ne 8, 3) := by decide +kernel
theorem d_Lw_holds_277 : dec m_Lw_holds 277 = .ok (.bipush (-5), 2) := by decide +kernel
theorem d_Lw_holds_279 : dec m_Lw_holds 279 = .ok (.goto 21, 3) := by decide +kernel
theorem d_Lw_holds_282 : dec m_Lw_holds 282 = .ok (.iload_n 3, 1) := by decide +kernel
theorem d_Lw_holds_283 : dec m_Lw_holds 283 = .ok (.ifCond .ne 7, 3) := by decide +kernel
theorem d_Lw_holds_286 : dec m_Lw_holds 286 = .ok (.iconst 1, 1) := by decide +kernel
theorem d_Lw_holds_287 : dec m_Lw_holds 287 = .ok (.goto 13, 3) := by decide +kernel
theorem d_Lw_holds_290 : dec m_Lw_holds 290 = .ok (.iload 4, 2) := by decide +kernel
theorem d_Lw_holds_292 : dec m_Lw_holds 292 = .ok (.ifCond .ne 7, 3) := by decide +kernel
theorem d_Lw_holds_295 : dec m_Lw_holds 295 = .ok (.iconst 2, 1) := by decide +kernel
theorem d_Lw_holds_296 : dec m_Lw_holds 296 = .ok (.goto 4, 3) := by decide +kernel
theorem d_Lw_holds_299 : dec m_Lw_holds 299 = .ok (.iconst 0, 1) := by decide +kernel
theorem d_Lw_holds_300 : dec m_Lw_holds 300 = .ok (.istore 5, 2) := by decide +kernel
theorem d_Lw_holds_302 : dec m_Lw_holds 302 = .ok (.iload_n 2, 1) := by decide +kernel
theorem d_Lw_holds_303 : dec m_Lw_holds 303 = .ok (.ifCond .eq 84, 3) := by decide +kernel
theorem d_Lw_holds_306 : dec m_Lw_holds 306 = .ok (.iload_n 3, 1) := by decide +kernel
theorem d_Lw_holds_307 : dec m_Lw_holds 307 = .ok (.ifCond .ne 7, 3) := by decide +kernel
theorem d_Lw_holds_310 : dec m_Lw_holds 310 = .ok (.iconst 1, 1) := by decide +kernel
theorem d_Lw_holds_311 : dec m_Lw_holds 311 = .ok (.goto 4, 3) := by decide +kernel
theorem d_Lw_holds_314 : dec m_Lw_holds 314 = .ok (.iconst 0, 1) := by decide +kernel
theorem d_Lw_holds_315 : dec m_Lw_holds 315 = .ok (.iload 4, 2) := by decide +kernel
theorem d_Lw_holds_317 : dec m_Lw_holds 317 = .ok (.sipush 9999, 3) := by decide +kernel
theorem d_Lw_holds_320 : dec m_Lw_holds 320 = .ok (.if_icmp .ne 7, 3) := by decide +kernel
theorem d_Lw_holds_323 : dec m_Lw_holds 323 = .ok (.iconst 1, 1) := by decide +kernel
theorem d_Lw_holds_324 : dec m_Lw_holds 324 = .ok (.goto 4, 3) := by decide +kernel
theorem d_Lw_holds_327 : dec m_Lw_holds 327 = .ok (.iconst 0, 1) := by decide +kernel
theorem d_Lw_holds_328 : dec m_Lw_holds 328 = .ok (.if_icmp .ne 63, 3) := by decide +kernel
theorem d_Lw_holds_331 : dec m_Lw_holds 331 = .ok (.iload 4, 2) := by decide +kernel
theorem d_Lw_holds_333 : dec m_Lw_holds 333 = .ok (.ifCond .ne 7, 3) := by decide +kernel
theorem d_Lw_holds_336 : dec m_Lw_holds 336 = .ok (.iconst 1, 1) := by decide +kernel
theorem d_Lw_holds_337 : dec m_Lw_holds 337 = .ok (.goto 4, 3) := by decide +kernel
theorem d_Lw_holds_340 : dec m_Lw_holds 340 = .ok (.iconst 0, 1) := by decide +kernel
theorem d_Lw_holds_341 : dec m_Lw_holds 341 = .ok (.iload_n 3, 1) := by decide +kernel
theorem d_Lw_holds_342 : dec m_Lw_holds 342 = .ok (.sipush 9999, 3) := by decide +kernel
theorem d_Lw_holds_345 : dec m_Lw_holds 345 = .ok (.if_icmp .ne 7, 3) := by decide +kernel
theorem d_Lw_holds_348 : dec m_Lw_holds 348 = .ok (.iconst 1, 1) := by decide +kernel
theorem d_Lw_holds_349 : dec m_Lw_holds 349 = .ok (.goto 4, 3) := by decide +kernel
theorem d_Lw_holds_352 : dec m_Lw_holds 352 = .ok (.iconst 0, 1) := by decide +kernel
theorem d_Lw_holds_353 : dec m_Lw_holds 353 = .ok (.if_icmp .ne 38, 3) := by decide +kernel
theorem d_Lw_holds_356 : dec m_Lw_holds 356 = .ok (.iload 5, 2) := by decide +kernel
theorem d_Lw_holds_358 : dec m_Lw_holds 358 = .ok (.ifCond .eq 29, 3) := by decide +kernel
theorem d_Lw_holds_361 : dec m_Lw_holds 361 = .ok (.aload_n 0, 1) := by decide +kernel
theorem d_Lw_holds_362 : dec m_Lw_holds 362 = .ok (.aload_n 0, 1) := by decide +kernel
theorem d_Lw_holds_363 : dec m_Lw_holds 363 = .ok (.iconst 0, 1) := by decide +kernel
theorem d_Lw_holds_364 : dec m_Lw_holds 364 = .ok (.iconst 0, 1) := by decide +kernel
theorem d_Lw_holds_365 : dec m_Lw_holds 365 = .ok (.invokevirtual 25, 3) := by decide +kernel
theorem d_Lw_holds_368 : dec m_Lw_holds 368 = .ok (.bipush 6, 2) := by decide +kernel
theorem d_Lw_holds_370 : dec m_Lw_holds 370 = .ok (.invokevirtual 18, 3) := by decide +kernel
theorem d_Lw_holds_373 : dec m_Lw_holds 373 = .ok (.iload 5, 2) := by decide +kernel
theorem d_Lw_holds_375 : dec m_Lw_holds 375 = .ok (.iconst 1, 1) := by decide +kernel
theorem d_Lw_holds_376 : dec m_Lw_holds 376 = .ok (.if_icmp .ne 7, 3) := by decide +kernel
theorem d_Lw_holds_379 : dec m_Lw_holds 379 = .ok (.iconst 1, 1) := by decide +kernel
theorem d_Lw_holds_380 : dec m_Lw_holds 380 = .ok (.goto 4, 3) := by decide +kernel
theorem d_Lw_holds_383 : dec m_Lw_holds 383 = .ok (.iconst 0, 1) := by decide +kernel
theorem d_Lw_holds_384 : dec m_Lw_holds 384 = .ok (.if_icmp .ne 7, 3) := by decide +kernel
theorem d_Lw_holds_387 : dec m_Lw_holds 387 = .ok (.iconst 1, 1) := by decide +kernel
theorem d_Lw_holds_388 : dec m_Lw_holds 388 = .ok (.goto 4, 3) := by decide +kernel
theorem d_Lw_holds_391 : dec m_Lw_holds 391 = .ok (.iconst 0, 1) := by decide +kernel
theorem d_Lw_holds_392 : dec m_Lw_holds 392 = .ok (.istore 6, 2) := by decide +kernel
theorem d_Lw_holds_394 : dec m_Lw_holds 394 = .ok (.iconst 0, 1) := by decide +kernel
theorem d_Lw_holds_395 : dec m_Lw_holds 395 = .ok (.istore 7, 2) := by decide +kernel
theorem d_Lw_holds_397 : dec m_Lw_holds 397 = .ok (.iload_n 2, 1) := by decide +kernel
theorem d_Lw_holds_398 : dec m_Lw_holds 398 = .ok (.ifCond .le 71, 3) := by decide +kernel
theorem d_Lw_holds_401 : dec m_Lw_holds 401 = .ok (.iload 7, 2) := by decide +kernel
theorem d_Lw_holds_403 : dec m_Lw_holds 403 = .ok (.bipush 30, 2) := by decide +kernel
theorem d_Lw_holds_405 : dec m_Lw_holds 405 = .ok (.if_icmp .ge 64, 3) := by decide +kernel
theorem d_Lw_holds_408 : dec m_Lw_holds 408 = .ok (.aload_n 0, 1) := by decide +kernel
theorem d_Lw_holds_409 : dec m_Lw_holds 409 = .ok (.iload 7, 2) := by decide +kernel
theorem d_Lw_holds_411 : dec m_Lw_holds 411 = .ok (.invokevirtual 56, 3) := by decide +kernel
theorem d_Lw_holds_414 : dec m_Lw_holds 414 = .ok (.ifCond .lt 55, 3) := by decide +kernel
theorem d_Lw_holds_417 : dec m_Lw_holds 417 = .ok (.aload_n 0, 1) := by decide +kernel
theorem d_Lw_holds_418 : dec m_Lw_holds 418 = .ok (.aload_n 0, 1) := by decide +kernel
theorem d_Lw_holds_419 : dec m_Lw_holds 419 = .ok (.iload 7, 2) := by decide +kernel
theorem d_Lw_holds_421 : dec m_Lw_holds 421 = .ok (.invokevirtual 56, 3) := by decide +kernel
theorem d_Lw_holds_424 : dec m_Lw_holds 424 = .ok (.bipush 6, 2) := by decide +kernel
theorem d_Lw_holds_426 : dec m_Lw_holds 426 = .ok (.invokevirtual 25, 3) := by decide +kernel
theorem d_Lw_holds_429 : dec m_Lw_holds 429 = .ok (.iload 7, 2) := by decide +kernel
theorem d_Lw_holds_431 : dec m_Lw_holds 431 = .ok (.if_icmp .ne 30, 3) := by decide +kernel
theorem d_Lw_holds_434 : dec m_Lw_holds 434 = .ok (.iload 7, 2) := by decide +kernel
theorem d_Lw_holds_436 : dec m_Lw_holds 436 = .ok (.ifCond .le 27, 3) := by decide +kernel
theorem d_Lw_holds_439 : dec m_Lw_holds 439 = .ok (.aload_n 0, 1) := by decide +kernel
theorem d_Lw_holds_440 : dec m_Lw_holds 440 = .ok (.aload_n 0, 1) := by decide +kernel
theorem d_Lw_holds_441 : dec m_Lw_holds 441 = .ok (.iload 7, 2) := by decide +kernel
theorem d_Lw_holds_443 : dec m_Lw_holds 443 = .ok (.invokevirtual 56, 3) := by decide +kernel
theorem d_Lw_holds_446 : dec m_Lw_holds 446 = .ok (.iconst 1, 1) := by decide +kernel
theorem d_Lw_holds_447 : dec m_Lw_holds 447 = .ok (.invokevirtual 25, 3) := by decide +kernel
theorem d_Lw_holds_450 : dec m_Lw_holds 450 = .ok (.aload_n 0, 1) := by decide +kernel
theorem d_Lw_holds_451 : dec m_Lw_holds 451 = .ok (.iload 7, 2) := by decide +kernel
theorem d_Lw_holds_453 : dec m_Lw_holds 453 = .ok (.iconst 1, 1) := by decide +kernel
theorem d_Lw_holds_454 : dec m_Lw_holds 454 = .ok (.isub, 1) := by decide +kernel
theorem d_Lw_holds_455 : dec m_Lw_holds 455 = .ok (.invokevirtual 56, 3) := by decide +kernel
theorem d_Lw_holds_458 : dec m_Lw_holds 458 = .ok (.if_icmp .eq 5, 3) := by decide +kernel
theorem d_Lw_holds_461 : dec m_Lw_holds 461 = .ok (.iconst 0, 1) := by decide +kernel
theorem d_Lw_holds_462 : dec m_Lw_holds 462 = .ok (.ireturn, 1) := by decide +kernel
theorem d_Lw_holds_463 : dec m_Lw_holds 463 = .ok (.iinc 7 1, 3) := by decide +kernel
theorem d_Lw_holds_466 : dec m_Lw_holds 466 = .ok (.goto (-69), 3) := by decide +kernel
theorem d_Lw_holds_469 : dec m_Lw_holds 469 = .ok (.iload_n 1, 1) := by decide +kernel
theorem d_Lw_holds_470 : dec m_Lw_holds 470 = .ok (.aload_n 0, 1) := by decide +kernel
theorem d_Lw_holds_471 : dec m_Lw_holds 471 = .ok (.bipush 8, 2) := by decide +kernel
theorem d_Lw_holds_473 : dec m_Lw_holds 473 = .ok (.invokevirtual 12, 3) := by decide +kernel
theorem d_Lw_holds_476 : dec m_Lw_holds 476 = .ok (.if_icmp .ne 54, 3) := by decide +kernel
theorem d_Lw_holds_479 : dec m_Lw_holds 479 = .ok (.iload_n 2, 1) := by decide +kernel
theorem d_Lw_holds_480 : dec m_Lw_holds 480 = .ok (.sipush 200, 3) := by decide +kernel
theorem d_Lw_holds_483 : dec m_Lw_holds 483 = .ok (.if_icmp .gt 47, 3) := by decide +kernel
theorem d_Lw_holds_486 : dec m_Lw_holds 486 = .ok (.aload_n 0, 1) := by decide +kernel
theorem d_Lw_holds_487 : dec m_Lw_holds 487 = .ok (.iconst 4, 1) := by decide +kernel
theorem d_Lw_holds_488 : dec m_Lw_holds 488 = .ok (.invokevirtual 12, 3) := by decide +kernel
theorem d_Lw_holds_491 : dec m_Lw_holds 491 = .ok (.iload 5, 2) := by decide +kernel
theorem d_Lw_holds_493 : dec m_Lw_holds 493 = .ok (.if_icmp .ne 37, 3) := by decide +kernel
theorem d_Lw_holds_496 : dec m_Lw_holds 496 = .ok (.iload 6, 2) := by decide +kernel
theorem d_Lw_holds_498 : dec m_Lw_holds 498 = .ok (.ifCond .eq 32, 3) := by decide +kernel
theorem d_Lw_holds_501 : dec m_Lw_holds 501 = .ok (.iload 5, 2) := by decide +kernel
theorem d_Lw_holds_503 : dec m_Lw_holds 503 = .ok (.ifCond .le 14, 3) := by decide +kernel
theorem d_Lw_holds_506 : dec m_Lw_holds 506 = .ok (.aload_n 0, 1) := by decide +kernel
theorem d_Lw_holds_507 : dec m_Lw_holds 507 = .ok (.invokevirtual 59, 3) := by decide +kernel
theorem d_Lw_holds_510 : dec m_Lw_holds 510 = .ok (.iload_n 2, 1) := by decide +kernel
theorem d_Lw_holds_511 : dec m_Lw_holds 511 = .ok (.if_icmp .gt 19, 3) := by decide +kernel
theorem d_Lw_holds_514 : dec m_Lw_holds 514 = .ok (.goto 12, 3) := by decide +kernel
theorem d_Lw_holds_517 : dec m_Lw_holds 517 = .ok (.aload_n 0, 1) := by decide +kernel
theorem d_Lw_holds_518 : dec m_Lw_holds 518 = .ok (.invokevirtual 59, 3) := by decide +kernel
theorem d_Lw_holds_521 : dec m_Lw_holds 521 = .ok (.bipush (-4), 2) := by decide +kernel
theorem d_Lw_holds_523 : dec m_Lw_holds 523 = .ok (.if_icmp .ne 7, 3) := by decide +kernel
theorem d_Lw_holds_526 : dec m_Lw_holds 526 = .ok (.iconst 1, 1) := by decide +kernel
theorem d_Lw_holds_527 : dec m_Lw_holds 527 = .ok (.goto 4, 3) := by decide +kernel
theorem d_Lw_holds_530 : dec m_Lw_holds 530 = .ok (.iconst 0, 1) := by decide +kernel
theorem d_Lw_holds_531 : dec m_Lw_holds 531 = .ok (.ireturn, 1) := by decide +kernel
theorem d_Lw_law_0 : dec m_Lw_law 0 = .ok (.new 13, 3) := by decide +kernel
theorem d_Lw_law_3 : dec m_Lw_law 3 = .ok (.dup, 1) := by decide +kernel
theorem d_Lw_law_4 : dec m_Lw_law 4 = .ok (.invokespecial 62, 3) := by decide +kernel
theorem d_Lw_law_7 : dec m_Lw_law 7 = .ok (.astore_n 1, 1) := by decide +kernel
theorem d_Lw_law_8 : dec m_Lw_law 8 = .ok (.aload_n 1, 1) := by decide +kernel
theorem d_Lw_law_9 : dec m_Lw_law 9 = .ok (.invokevirtual 63, 3) := by decide +kernel
theorem d_Lw_law_12 : dec m_Lw_law 12 = .ok (.bipush (-5), 2) := by decide +kernel
theorem d_Lw_law_14 : dec m_Lw_law 14 = .ok (.if_icmp .ne 19, 3) := by decide +kernel
theorem d_Lw_law_17 : dec m_Lw_law 17 = .ok (.aload_n 1, 1) := by decide +kernel
theorem d_Lw_law_18 : dec m_Lw_law 18 = .ok (.invokevirtual 43, 3) := by decide +kernel
theorem d_Lw_law_21 : dec m_Lw_law 21 = .ok (.bipush (-5), 2) := by decide +kernel
theorem d_Lw_law_23 : dec m_Lw_law 23 = .ok (.if_icmp .ne 10, 3) := by decide +kernel
theorem d_Lw_law_26 : dec m_Lw_law 26 = .ok (.aload_n 1, 1) := by decide +kernel
theorem d_Lw_law_27 : dec m_Lw_law 27 = .ok (.invokevirtual 66, 3) := by decide +kernel
theorem d_Lw_law_30 : dec m_Lw_law 30 = .ok (.ifCond .eq 5, 3) := by decide +kernel
theorem d_Lw_law_33 : dec m_Lw_law 33 = .ok (.iconst 0, 1) := by decide +kernel
theorem d_Lw_law_34 : dec m_Lw_law 34 = .ok (.ireturn, 1) := by decide +kernel
theorem d_Lw_law_35 : dec m_Lw_law 35 = .ok (.aload_n 1, 1) := by decide +kernel
theorem d_Lw_law_36 : dec m_Lw_law 36 = .ok (.invokestatic 69, 3) := by decide +kernel
theorem d_Lw_law_39 : dec m_Lw_law 39 = .ok (.lstore_n 2, 1) := by decide +kernel
theorem d_Lw_law_40 : dec m_Lw_law 40 = .ok (.iconst 0, 1) := by decide +kernel
theorem d_Lw_law_41 : dec m_Lw_law 41 = .ok (.istore 4, 2) := by decide +kernel
theorem d_Lw_law_43 : dec m_Lw_law 43 = .ok (.iload 4, 2) := by decide +kernel
theorem d_Lw_law_45 : dec m_Lw_law 45 = .ok (.bipush 40, 2) := by decide +kernel
theorem d_Lw_law_47 : dec m_Lw_law 47 = .ok (.if_icmp .ge 241, 3) := by decide +kernel
theorem d_Lw_law_50 : dec m_Lw_law 50 = .ok (.aload_n 0, 1) := by decide +kernel
theorem d_Lw_law_51 : dec m_Lw_law 51 = .ok (.iconst 2, 1) := by decide +kernel
theorem d_Lw_law_52 : dec m_Lw_law 52 = .ok (.iload 4, 2) := by decide +kernel
theorem d_Lw_law_54 : dec m_Lw_law 54 = .ok (.imul, 1) := by decide +kernel
theorem d_Lw_law_55 : dec m_Lw_law 55 = .ok (.invokestatic 73, 3) := by decide +kernel
theorem d_Lw_law_58 : dec m_Lw_law 58 = .ok (.istore 5, 2) := by decide +kernel
theorem d_Lw_law_60 : dec m_Lw_law 60 = .ok (.aload_n 0, 1) := by decide +kernel
theorem d_Lw_law_61 : dec m_Lw_law 61 = .ok (.iconst 2, 1) := by decide +kernel
theorem d_Lw_law_62 : dec m_Lw_law 62 = .ok (.iload 4, 2) := by decide +kernel
theorem d_Lw_law_64 : dec m_Lw_law 64 = .ok (.imul, 1) := by decide +kernel
theorem d_Lw_law_65 : dec m_Lw_law 65 = .ok (.iconst 1, 1) := by decide +kernel
theorem d_Lw_law_66 : dec m_Lw_law 66 = .ok (.iadd, 1) := by decide +kernel
theorem d_Lw_law_67 : dec m_Lw_law 67 = .ok (.invokestatic 73, 3) := by decide +kernel
theorem d_Lw_law_70 : dec m_Lw_law 70 = .ok (.istore 6, 2) := by decide +kernel
theorem d_Lw_law_72 : dec m_Lw_law 72 = .ok (.aload_n 1, 1) := by decide +kernel
theorem d_Lw_law_73 : dec m_Lw_law 73 = .ok (.invokestatic 69, 3) := by decide +kernel
theorem d_Lw_law_76 : dec m_Lw_law 76 = .ok (.lstore 7, 2) := by decide +kernel
theorem d_Lw_law_78 : dec m_Lw_law 78 = .ok (.aload_n 1, 1) := by decide +kernel
theorem d_Lw_law_79 : dec m_Lw_law 79 = .ok (.bipush 9, 2) := by decide +kernel
theorem d_Lw_law_81 : dec m_Lw_law 81 = .ok (.invokevirtual 12, 3) := by decide +kernel
theorem d_Lw_law_84 : dec m_Lw_law 84 = .ok (.istore 9, 2) := by decide +kernel
theorem d_Lw_law_86 : dec m_Lw_law 86 = .ok (.aload_n 1, 1) := by decide +kernel
theorem d_Lw_law_87 : dec m_Lw_law 87 = .ok (.iload 5, 2) := by decide +kernel
theorem d_Lw_law_89 : dec m_Lw_law 89 = .ok (.iload 6, 2) := by decide +kernel
theorem d_Lw_law_91 : dec m_Lw_law 91 = .ok (.invokestatic 77, 3) := by decide +kernel
theorem d_Lw_law_94 : dec m_Lw_law 94 = .ok (.istore 10, 2) := by decide +kernel
theorem d_Lw_law_96 : dec m_Lw_law 96 = .ok (.aload_n 1, 1) := by decide +kernel
theorem d_Lw_law_97 : dec m_Lw_law 97 = .ok (.invokestatic 69, 3) := by decide +kernel
theorem d_Lw_law_100 : dec m_Lw_law 100 = .ok (.lstore 11, 2) := by decide +kernel
theorem d_Lw_law_102 : dec m_Lw_law 102 = .ok (.iload 10, 2) := by decide +kernel
theorem d_Lw_law_104 : dec m_Lw_law 104 = .ok (.ifCond .ge 25, 3) := by decide +kernel
theorem d_Lw_law_107 : dec m_Lw_law 107 = .ok (.lload 11, 2) := by decide +kernel
theorem d_Lw_law_109 : dec m_Lw_law 109 = .ok (.lload 7, 2) := by decide +kernel
theorem d_Lw_law_111 : dec m_Lw_law 111 = .ok (.lcmp, 1) := by decide +kernel
theorem d_Lw_law_112 : dec m_Lw_law 112 = .ok (.ifCond .ne 40, 3) := by decide +kernel
theorem d_Lw_law_115 : dec m_Lw_law 115 = .ok (.aload_n 1, 1) := by decide +kernel
theorem d_Lw_law_116 : dec m_Lw_law 116 = .ok (.bipush 9, 2) := by decide +kernel
theorem d_Lw_law_118 : dec m_Lw_law 118 = .ok (.invokevirtual 12, 3) := by decide +kernel
theorem d_Lw_law_121 : dec m_Lw_law 121 = .ok (.iload 9, 2) := by decide +kernel
theorem d_Lw_law_123 : dec m_Lw_law 123 = .ok (.if_icmp .eq 31, 3) := by decide +kernel
theorem d_Lw_law_126 : dec m_Lw_law 126 = .ok (.goto 26, 3) := by decide +kernel
theorem d_Lw_law_129 : dec m_Lw_law 129 = .ok (.aload_n 1, 1) := by decide +kernel
theorem d_Lw_law_130 : dec m_Lw_law 130 = .ok (.bipush 9, 2) := by decide +kernel
theorem d_Lw_law_132 : dec m_Lw_law 132 = .ok (.invokevirtual 12, 3) := by decide +kernel
theorem d_Lw_law_135 : dec m_Lw_law 135 = .ok (.iload 9, 2) := by decide +kernel
theorem d_Lw_law_137 : dec m_Lw_law 137 = .ok (.iconst 4, 1) := by decide +kernel
theorem d_Lw_law_138 : dec m_Lw_law 138 = .ok (.if_icmp .ge 10, 3) := by decide +kernel
theorem d_Lw_law_141 : dec m_Lw_law 141 = .ok (.iload 9, 2) := by decide +kernel
theorem d_Lw_law_143 : dec m_Lw_law 143 = .ok (.iconst 1, 1) := by decide +kernel
theorem d_Lw_law_144 : dec m_Lw_law 144 = .ok (.iadd, 1) := by decide +kernel
theorem d_Lw_law_145 : dec m_Lw_law 145 = .ok (.goto 4, 3) := by decide +kernel
theorem d_Lw_law_148 : dec m_Lw_law 148 = .ok (.iconst 4, 1) := by decide +kernel
theorem d_Lw_law_149 : dec m_Lw_law 149 = .ok (.if_icmp .eq 5, 3) := by decide +kernel
theorem d_Lw_law_152 : dec m_Lw_law 152 = .ok (.iconst 0, 1) := by decide +kernel
theorem d_Lw_law_153 : dec m_Lw_law 153 = .ok (.ireturn, 1) := by decide +kernel
theorem d_Lw_law_154 : dec m_Lw_law 154 = .ok (.iload 10, 2) := by decide +kernel
theorem d_Lw_law_156 : dec m_Lw_law 156 = .ok (.ifCond .lt 29, 3) := by decide +kernel
theorem d_Lw_law_159 : dec m_Lw_law 159 = .ok (.iload 5, 2) := by decide +kernel
theorem d_Lw_law_161 : dec m_Lw_law 161 = .ok (.bipush 15, 2) := by decide +kernel
theorem d_Lw_law_163 : dec m_Lw_law 163 = .ok (.iand, 1) := by decide +kernel
theorem d_Lw_law_164 : dec m_Lw_law 164 = .ok (.bipush 8, 2) := by decide +kernel
theorem d_Lw_law_166 : dec m_Lw_law 166 = .ok (.if_icmp .ne 19, 3) := by decide +kernel
theorem d_Lw_law_169 : dec m_Lw_law 169 = .ok (.iload 6, 2) := by decide +kernel
theorem d_Lw_law_171 : dec m_Lw_law 171 = .ok (.iconst 3, 1) := by decide +kernel
theorem d_Lw_law_172 : dec m_Lw_law 172 = .ok (.iand, 1) := by decide +kernel
theorem d_Lw_law_173 : dec m_Lw_law 173 = .ok (.ifCond .ne 12, 3) := by decide +kernel
theorem d_Lw_law_176 : dec m_Lw_law 176 = .ok (.lload 11, 2) := by decide +kernel
theorem d_Lw_law_178 : dec m_Lw_law 178 = .ok (.lload_n 2, 1) := by decide +kernel
theorem d_Lw_law_179 : dec m_Lw_law 179 = .ok (.lcmp, 1) := by decide +kernel
theorem d_Lw_law_180 : dec m_Lw_law 180 = .ok (.ifCond .eq 5, 3) := by decide +kernel
theorem d_Lw_law_183 : dec m_Lw_law 183 = .ok (.iconst 0, 1) := by decide +kernel
theorem d_Lw_law_184 : dec m_Lw_law 184 = .ok (.ireturn, 1) := by decide +kernel
theorem d_Lw_law_185 : dec m_Lw_law 185 = .ok (.iload 10, 2) := by decide +kernel
theorem d_Lw_law_187 : dec m_Lw_law 187 = .ok (.ifCond .lt 67, 3) := by decide +kernel
theorem d_Lw_law_190 : dec m_Lw_law 190 = .ok (.iload 5, 2) := by decide +kernel
theorem d_Lw_law_192 : dec m_Lw_law 192 = .ok (.bipush 9, 2) := by decide +kernel
theorem d_Lw_law_194 : dec m_Lw_law 194 = .ok (.ishr, 1) := by decide +kernel
theorem d_Lw_law_195 : dec m_Lw_law 195 = .ok (.iconst 1, 1) := by decide +kernel
theorem d_Lw_law_196 : dec m_Lw_law 196 = .ok (.iand, 1) := by decide +kernel
theorem d_Lw_law_197 : dec m_Lw_law 197 = .ok (.ifCond .ne 57, 3) := by decide +kernel
theorem d_Lw_law_200 : dec m_Lw_law 200 = .ok (.aload_n 1, 1) := by decide +kernel
theorem d_Lw_law_201 : dec m_Lw_law 201 = .ok (.bipush 9, 2) := by decide +kernel
theorem d_Lw_law_203 : dec m_Lw_law 203 = .ok (.invokevirtual 12, 3) := by decide +kernel
theorem d_Lw_law_206 : dec m_Lw_law 206 = .ok (.iconst 1, 1) := by decide +kernel
theorem d_Lw_law_207 : dec m_Lw_law 207 = .ok (.isub, 1) := by decide +kernel
theorem d_Lw_law_208 : dec m_Lw_law 208 = .ok (.istore 13, 2) := by decide +kernel
theorem d_Lw_law_210 : dec m_Lw_law 210 = .ok (.aload_n 1, 1) := by decide +kernel
theorem d_Lw_law_211 : dec m_Lw_law 211 = .ok (.invokevirtual 63, 3) := by decide +kernel
theorem d_Lw_law_214 : dec m_Lw_law 214 = .ok (.iload 13, 2) := by decide +kernel
theorem d_Lw_law_216 : dec m_Lw_law 216 = .ok (.if_icmp .ne 36, 3) := by decide +kernel
theorem d_Lw_law_219 : dec m_Lw_law 219 = .ok (.aload_n 1, 1) := by decide +kernel
theorem d_Lw_law_220 : dec m_Lw_law 220 = .ok (.invokestatic 69, 3) := by decide +kernel
theorem d_Lw_law_223 : dec m_Lw_law 223 = .ok (.lload 7, 2) := by decide +kernel
theorem d_Lw_law_225 : dec m_Lw_law 225 = .ok (.lcmp, 1) := by decide +kernel
theorem d_Lw_law_226 : dec m_Lw_law 226 = .ok (.ifCond .ne 26, 3) := by decide +kernel
theorem d_Lw_law_229 : dec m_Lw_law 229 = .ok (.aload_n 1, 1) := by decide +kernel
theorem d_Lw_law_230 : dec m_Lw_law 230 = .ok (.iload 5, 2) := by decide +kernel
theorem d_Lw_law_232 : dec m_Lw_law 232 = .ok (.iload 6, 2) := by decide +kernel
theorem d_Lw_law_234 : dec m_Lw_law 234 = .ok (.invokestatic 77, 3) := by decide +kernel
theorem d_Lw_law_237 : dec m_Lw_law 237 = .ok (.iload 10, 2) := by decide +kernel
theorem d_Lw_law_239 : dec m_Lw_law 239 = .ok (.if_icmp .ne 13, 3) := by decide +kernel
theorem d_Lw_law_242 : dec m_Lw_law 242 = .ok (.aload_n 1, 1) := by decide +kernel
theorem d_Lw_law_243 : dec m_Lw_law 243 = .ok (.invokestatic 69, 3) := by decide +kernel
theorem d_Lw_law_246 : dec m_Lw_law 246 = .ok (.lload 11, 2) := by decide +kernel
theorem d_Lw_law_248 : dec m_Lw_law 248 = .ok (.lcmp, 1) := by decide +kernel
theorem d_Lw_law_249 : dec m_Lw_law 249 = .ok (.ifCond .eq 5, 3) := by decide +kernel
theorem d_Lw_law_252 : dec m_Lw_law 252 = .ok (.iconst 0, 1) := by decide +kernel
theorem d_Lw_law_253 : dec m_Lw_law 253 = .ok (.ireturn, 1) := by decide +kernel
theorem d_Lw_law_254 : dec m_Lw_law 254 = .ok (.aload_n 1, 1) := by decide +kernel
theorem d_Lw_law_255 : dec m_Lw_law 255 = .ok (.invokestatic 81, 3) := by decide +kernel
theorem d_Lw_law_258 : dec m_Lw_law 258 = .ok (.ifCond .ne 5, 3) := by decide +kernel
theorem d_Lw_law_261 : dec m_Lw_law 261 = .ok (.iconst 0, 1) := by decide +kernel
theorem d_Lw_law_262 : dec m_Lw_law 262 = .ok (.ireturn, 1) := by decide +kernel
theorem d_Lw_law_263 : dec m_Lw_law 263 = .ok (.iload 5, 2) := by decide +kernel
theorem d_Lw_law_265 : dec m_Lw_law 265 = .ok (.bipush 10, 2) := by decide +kernel
theorem d_Lw_law_267 : dec m_Lw_law 267 = .ok (.ishr, 1) := by decide +kernel
theorem d_Lw_law_268 : dec m_Lw_law 268 = .ok (.bipush 7, 2) := by decide +kernel
theorem d_Lw_law_270 : dec m_Lw_law 270 = .ok (.iand, 1) := by decide +kernel
theorem d_Lw_law_271 : dec m_Lw_law 271 = .ok (.ifCond .ne 11, 3) := by decide +kernel
theorem d_Lw_law_274 : dec m_Lw_law 274 = .ok (.aload_n 1, 1) := by decide +kernel
theorem d_Lw_law_275 : dec m_Lw_law 275 = .ok (.invokevirtual 66, 3) := by decide +kernel
theorem d_Lw_law_278 : dec m_Lw_law 278 = .ok (.pop, 1) := by decide +kernel
theorem d_Lw_law_279 : dec m_Lw_law 279 = .ok (.lload 11, 2) := by decide +kernel
theorem d_Lw_law_281 : dec m_Lw_law 281 = .ok (.lstore_n 2, 1) := by decide +kernel
theorem d_Lw_law_282 : dec m_Lw_law 282 = .ok (.iinc 4 1, 3) := by decide +kernel
theorem d_Lw_law_285 : dec m_Lw_law 285 = .ok (.goto (-242), 3) := by decide +kernel
theorem d_Lw_law_288 : dec m_Lw_law 288 = .ok (.iconst 1, 1) := by decide +kernel
theorem d_Lw_law_289 : dec m_Lw_law 289 = .ok (.ireturn, 1) := by decide +kernel
