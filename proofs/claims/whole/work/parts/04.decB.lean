theorem d_Md_init_0 : dec m_Md_init 0 = .ok (.aload_n 0, 1) := by decide +kernel
theorem d_Md_init_1 : dec m_Md_init 1 = .ok (.invokespecial 1, 3) := by decide +kernel
theorem d_Md_init_4 : dec m_Md_init 4 = .ok (.aload_n 0, 1) := by decide +kernel
theorem d_Md_init_5 : dec m_Md_init 5 = .ok (.sipush 1624, 3) := by decide +kernel
theorem d_Md_init_8 : dec m_Md_init 8 = .ok (.newarray .int, 2) := by decide +kernel
theorem d_Md_init_10 : dec m_Md_init 10 = .ok (.putfield 7, 3) := by decide +kernel
theorem d_Md_init_13 : dec m_Md_init 13 = .ok (.aload_n 0, 1) := by decide +kernel
theorem d_Md_init_14 : dec m_Md_init 14 = .ok (.sipush 6496, 3) := by decide +kernel
theorem d_Md_init_17 : dec m_Md_init 17 = .ok (.newarray .int, 2) := by decide +kernel
theorem d_Md_init_19 : dec m_Md_init 19 = .ok (.putfield 13, 3) := by decide +kernel
theorem d_Md_init_22 : dec m_Md_init 22 = .ok (.aload_n 0, 1) := by decide +kernel
theorem d_Md_init_23 : dec m_Md_init 23 = .ok (.sipush 1624, 3) := by decide +kernel
theorem d_Md_init_26 : dec m_Md_init 26 = .ok (.newarray .int, 2) := by decide +kernel
theorem d_Md_init_28 : dec m_Md_init 28 = .ok (.putfield 16, 3) := by decide +kernel
theorem d_Md_init_31 : dec m_Md_init 31 = .ok (.aload_n 0, 1) := by decide +kernel
theorem d_Md_init_32 : dec m_Md_init 32 = .ok (.bipush 60, 2) := by decide +kernel
theorem d_Md_init_34 : dec m_Md_init 34 = .ok (.newarray .int, 2) := by decide +kernel
theorem d_Md_init_36 : dec m_Md_init 36 = .ok (.putfield 19, 3) := by decide +kernel
theorem d_Md_init_39 : dec m_Md_init 39 = .ok (.aload_n 0, 1) := by decide +kernel
theorem d_Md_init_40 : dec m_Md_init 40 = .ok (.bipush 20, 2) := by decide +kernel
theorem d_Md_init_42 : dec m_Md_init 42 = .ok (.newarray .int, 2) := by decide +kernel
theorem d_Md_init_44 : dec m_Md_init 44 = .ok (.putfield 22, 3) := by decide +kernel
theorem d_Md_init_47 : dec m_Md_init 47 = .ok (.aload_n 0, 1) := by decide +kernel
theorem d_Md_init_48 : dec m_Md_init 48 = .ok (.sipush 200, 3) := by decide +kernel
theorem d_Md_init_51 : dec m_Md_init 51 = .ok (.newarray .boolean, 2) := by decide +kernel
theorem d_Md_init_53 : dec m_Md_init 53 = .ok (.putfield 25, 3) := by decide +kernel
theorem d_Md_init_56 : dec m_Md_init 56 = .ok (.aload_n 0, 1) := by decide +kernel
theorem d_Md_init_57 : dec m_Md_init 57 = .ok (.sipush 192, 3) := by decide +kernel
theorem d_Md_init_60 : dec m_Md_init 60 = .ok (.newarray .int, 2) := by decide +kernel
theorem d_Md_init_62 : dec m_Md_init 62 = .ok (.putfield 29, 3) := by decide +kernel
theorem d_Md_init_65 : dec m_Md_init 65 = .ok (.aload_n 0, 1) := by decide +kernel
theorem d_Md_init_66 : dec m_Md_init 66 = .ok (.iconst 0, 1) := by decide +kernel
theorem d_Md_init_67 : dec m_Md_init 67 = .ok (.putfield 32, 3) := by decide +kernel
theorem d_Md_init_70 : dec m_Md_init 70 = .ok (.iconst 0, 1) := by decide +kernel
theorem d_Md_init_71 : dec m_Md_init 71 = .ok (.istore_n 1, 1) := by decide +kernel
theorem d_Md_init_72 : dec m_Md_init 72 = .ok (.iload_n 1, 1) := by decide +kernel
theorem d_Md_init_73 : dec m_Md_init 73 = .ok (.bipush 20, 2) := by decide +kernel
theorem d_Md_init_75 : dec m_Md_init 75 = .ok (.if_icmp .ge 35, 3) := by decide +kernel
theorem d_Md_init_78 : dec m_Md_init 78 = .ok (.aload_n 0, 1) := by decide +kernel
theorem d_Md_init_79 : dec m_Md_init 79 = .ok (.getfield 7, 3) := by decide +kernel
theorem d_Md_init_82 : dec m_Md_init 82 = .ok (.iconst 3, 1) := by decide +kernel
theorem d_Md_init_83 : dec m_Md_init 83 = .ok (.iconst 5, 1) := by decide +kernel
theorem d_Md_init_84 : dec m_Md_init 84 = .ok (.iload_n 1, 1) := by decide +kernel
theorem d_Md_init_85 : dec m_Md_init 85 = .ok (.imul, 1) := by decide +kernel
theorem d_Md_init_86 : dec m_Md_init 86 = .ok (.iadd, 1) := by decide +kernel
theorem d_Md_init_87 : dec m_Md_init 87 = .ok (.iconst 2, 1) := by decide +kernel
theorem d_Md_init_88 : dec m_Md_init 88 = .ok (.iadd, 1) := by decide +kernel
theorem d_Md_init_89 : dec m_Md_init 89 = .ok (.iconst 1, 1) := by decide +kernel
theorem d_Md_init_90 : dec m_Md_init 90 = .ok (.iastore, 1) := by decide +kernel
theorem d_Md_init_91 : dec m_Md_init 91 = .ok (.aload_n 0, 1) := by decide +kernel
theorem d_Md_init_92 : dec m_Md_init 92 = .ok (.getfield 7, 3) := by decide +kernel
theorem d_Md_init_95 : dec m_Md_init 95 = .ok (.iconst 3, 1) := by decide +kernel
theorem d_Md_init_96 : dec m_Md_init 96 = .ok (.iconst 5, 1) := by decide +kernel
theorem d_Md_init_97 : dec m_Md_init 97 = .ok (.iload_n 1, 1) := by decide +kernel
theorem d_Md_init_98 : dec m_Md_init 98 = .ok (.imul, 1) := by decide +kernel
theorem d_Md_init_99 : dec m_Md_init 99 = .ok (.iadd, 1) := by decide +kernel
theorem d_Md_init_100 : dec m_Md_init 100 = .ok (.iconst 3, 1) := by decide +kernel
theorem d_Md_init_101 : dec m_Md_init 101 = .ok (.iadd, 1) := by decide +kernel
theorem d_Md_init_102 : dec m_Md_init 102 = .ok (.iconst 1, 1) := by decide +kernel
theorem d_Md_init_103 : dec m_Md_init 103 = .ok (.iastore, 1) := by decide +kernel
theorem d_Md_init_104 : dec m_Md_init 104 = .ok (.iinc 1 1, 3) := by decide +kernel
theorem d_Md_init_107 : dec m_Md_init 107 = .ok (.goto (-35), 3) := by decide +kernel
theorem d_Md_init_110 : dec m_Md_init 110 = .ok (.return_, 1) := by decide +kernel
theorem d_Md_in_0 : dec m_Md_in 0 = .ok (.iload_n 0, 1) := by decide +kernel
theorem d_Md_in_1 : dec m_Md_in 1 = .ok (.iload_n 1, 1) := by decide +kernel
theorem d_Md_in_2 : dec m_Md_in 2 = .ok (.if_icmp .lt 12, 3) := by decide +kernel
theorem d_Md_in_5 : dec m_Md_in 5 = .ok (.iload_n 0, 1) := by decide +kernel
theorem d_Md_in_6 : dec m_Md_in 6 = .ok (.iload_n 2, 1) := by decide +kernel
theorem d_Md_in_7 : dec m_Md_in 7 = .ok (.if_icmp .gt 7, 3) := by decide +kernel
theorem d_Md_in_10 : dec m_Md_in 10 = .ok (.iconst 1, 1) := by decide +kernel
theorem d_Md_in_11 : dec m_Md_in 11 = .ok (.goto 4, 3) := by decide +kernel
theorem d_Md_in_14 : dec m_Md_in 14 = .ok (.iconst 0, 1) := by decide +kernel
theorem d_Md_in_15 : dec m_Md_in 15 = .ok (.ireturn, 1) := by decide +kernel
theorem d_Md_isPosition_0 : dec m_Md_isPosition 0 = .ok (.iload_n 0, 1) := by decide +kernel
theorem d_Md_isPosition_1 : dec m_Md_isPosition 1 = .ok (.iconst 0, 1) := by decide +kernel
theorem d_Md_isPosition_2 : dec m_Md_isPosition 2 = .ok (.bipush 19, 2) := by decide +kernel
theorem d_Md_isPosition_4 : dec m_Md_isPosition 4 = .ok (.invokestatic 36, 3) := by decide +kernel
theorem d_Md_isPosition_7 : dec m_Md_isPosition 7 = .ok (.ireturn, 1) := by decide +kernel
theorem d_Md_of_0 : dec m_Md_of 0 = .ok (.aload_n 0, 1) := by decide +kernel
theorem d_Md_of_1 : dec m_Md_of 1 = .ok (.getfield 7, 3) := by decide +kernel
theorem d_Md_of_4 : dec m_Md_of 4 = .ok (.iconst 3, 1) := by decide +kernel
theorem d_Md_of_5 : dec m_Md_of 5 = .ok (.iconst 5, 1) := by decide +kernel
theorem d_Md_of_6 : dec m_Md_of 6 = .ok (.iload_n 1, 1) := by decide +kernel
theorem d_Md_of_7 : dec m_Md_of 7 = .ok (.imul, 1) := by decide +kernel
theorem d_Md_of_8 : dec m_Md_of 8 = .ok (.iadd, 1) := by decide +kernel
theorem d_Md_of_9 : dec m_Md_of 9 = .ok (.iload_n 2, 1) := by decide +kernel
theorem d_Md_of_10 : dec m_Md_of 10 = .ok (.iadd, 1) := by decide +kernel
theorem d_Md_of_11 : dec m_Md_of 11 = .ok (.iaload, 1) := by decide +kernel
theorem d_Md_of_12 : dec m_Md_of 12 = .ok (.ireturn, 1) := by decide +kernel
theorem d_Md_get_0 : dec m_Md_get 0 = .ok (.aload_n 0, 1) := by decide +kernel
theorem d_Md_get_1 : dec m_Md_get 1 = .ok (.getfield 7, 3) := by decide +kernel
theorem d_Md_get_4 : dec m_Md_get 4 = .ok (.sipush 223, 3) := by decide +kernel
theorem d_Md_get_7 : dec m_Md_get 7 = .ok (.bipush 7, 2) := by decide +kernel
theorem d_Md_get_9 : dec m_Md_get 9 = .ok (.iload_n 1, 1) := by decide +kernel
theorem d_Md_get_10 : dec m_Md_get 10 = .ok (.imul, 1) := by decide +kernel
theorem d_Md_get_11 : dec m_Md_get 11 = .ok (.iadd, 1) := by decide +kernel
theorem d_Md_get_12 : dec m_Md_get 12 = .ok (.iload_n 2, 1) := by decide +kernel
theorem d_Md_get_13 : dec m_Md_get 13 = .ok (.iadd, 1) := by decide +kernel
theorem d_Md_get_14 : dec m_Md_get 14 = .ok (.iaload, 1) := by decide +kernel
theorem d_Md_get_15 : dec m_Md_get 15 = .ok (.ireturn, 1) := by decide +kernel
theorem d_Md_lay_0 : dec m_Md_lay 0 = .ok (.aload_n 0, 1) := by decide +kernel
theorem d_Md_lay_1 : dec m_Md_lay 1 = .ok (.getfield 7, 3) := by decide +kernel
theorem d_Md_lay_4 : dec m_Md_lay 4 = .ok (.sipush 223, 3) := by decide +kernel
theorem d_Md_lay_7 : dec m_Md_lay 7 = .ok (.bipush 7, 2) := by decide +kernel
theorem d_Md_lay_9 : dec m_Md_lay 9 = .ok (.iload_n 1, 1) := by decide +kernel
theorem d_Md_lay_10 : dec m_Md_lay 10 = .ok (.imul, 1) := by decide +kernel
theorem d_Md_lay_11 : dec m_Md_lay 11 = .ok (.iadd, 1) := by decide +kernel
theorem d_Md_lay_12 : dec m_Md_lay 12 = .ok (.iload_n 2, 1) := by decide +kernel
theorem d_Md_lay_13 : dec m_Md_lay 13 = .ok (.iadd, 1) := by decide +kernel
theorem d_Md_lay_14 : dec m_Md_lay 14 = .ok (.iload_n 3, 1) := by decide +kernel
theorem d_Md_lay_15 : dec m_Md_lay 15 = .ok (.iastore, 1) := by decide +kernel
theorem d_Md_lay_16 : dec m_Md_lay 16 = .ok (.return_, 1) := by decide +kernel
theorem d_Md_records_0 : dec m_Md_records 0 = .ok (.aload_n 0, 1) := by decide +kernel
theorem d_Md_records_1 : dec m_Md_records 1 = .ok (.getfield 40, 3) := by decide +kernel
theorem d_Md_records_4 : dec m_Md_records 4 = .ok (.iconst 4, 1) := by decide +kernel
theorem d_Md_records_5 : dec m_Md_records 5 = .ok (.if_icmp .ne 44, 3) := by decide +kernel
theorem d_Md_records_8 : dec m_Md_records 8 = .ok (.iconst 0, 1) := by decide +kernel
theorem d_Md_records_9 : dec m_Md_records 9 = .ok (.istore_n 1, 1) := by decide +kernel
theorem d_Md_records_10 : dec m_Md_records 10 = .ok (.iload_n 1, 1) := by decide +kernel
theorem d_Md_records_11 : dec m_Md_records 11 = .ok (.sipush 4872, 3) := by decide +kernel
theorem d_Md_records_14 : dec m_Md_records 14 = .ok (.if_icmp .ge 25, 3) := by decide +kernel
theorem d_Md_records_17 : dec m_Md_records 17 = .ok (.aload_n 0, 1) := by decide +kernel
theorem d_Md_records_18 : dec m_Md_records 18 = .ok (.getfield 13, 3) := by decide +kernel
theorem d_Md_records_21 : dec m_Md_records 21 = .ok (.iload_n 1, 1) := by decide +kernel
theorem d_Md_records_22 : dec m_Md_records 22 = .ok (.aload_n 0, 1) := by decide +kernel
theorem d_Md_records_23 : dec m_Md_records 23 = .ok (.getfield 13, 3) := by decide +kernel
theorem d_Md_records_26 : dec m_Md_records 26 = .ok (.iload_n 1, 1) := by decide +kernel
theorem d_Md_records_27 : dec m_Md_records 27 = .ok (.sipush 1624, 3) := by decide +kernel
theorem d_Md_records_30 : dec m_Md_records 30 = .ok (.iadd, 1) := by decide +kernel
theorem d_Md_records_31 : dec m_Md_records 31 = .ok (.iaload, 1) := by decide +kernel
theorem d_Md_records_32 : dec m_Md_records 32 = .ok (.iastore, 1) := by decide +kernel
theorem d_Md_records_33 : dec m_Md_records 33 = .ok (.iinc 1 1, 3) := by decide +kernel
theorem d_Md_records_36 : dec m_Md_records 36 = .ok (.goto (-26), 3) := by decide +kernel
theorem d_Md_records_39 : dec m_Md_records 39 = .ok (.aload_n 0, 1) := by decide +kernel
theorem d_Md_records_40 : dec m_Md_records 40 = .ok (.dup, 1) := by decide +kernel
theorem d_Md_records_41 : dec m_Md_records 41 = .ok (.getfield 40, 3) := by decide +kernel
theorem d_Md_records_44 : dec m_Md_records 44 = .ok (.iconst 1, 1) := by decide +kernel
theorem d_Md_records_45 : dec m_Md_records 45 = .ok (.isub, 1) := by decide +kernel
theorem d_Md_records_46 : dec m_Md_records 46 = .ok (.putfield 40, 3) := by decide +kernel
theorem d_Md_records_49 : dec m_Md_records 49 = .ok (.iconst 0, 1) := by decide +kernel
theorem d_Md_records_50 : dec m_Md_records 50 = .ok (.istore_n 1, 1) := by decide +kernel
theorem d_Md_records_51 : dec m_Md_records 51 = .ok (.iload_n 1, 1) := by decide +kernel
theorem d_Md_records_52 : dec m_Md_records 52 = .ok (.sipush 1624, 3) := by decide +kernel
theorem d_Md_records_55 : dec m_Md_records 55 = .ok (.if_icmp .ge 30, 3) := by decide +kernel
theorem d_Md_records_58 : dec m_Md_records 58 = .ok (.aload_n 0, 1) := by decide +kernel
theorem d_Md_records_59 : dec m_Md_records 59 = .ok (.getfield 13, 3) := by decide +kernel
theorem d_Md_records_62 : dec m_Md_records 62 = .ok (.sipush 1624, 3) := by decide +kernel
theorem d_Md_records_65 : dec m_Md_records 65 = .ok (.aload_n 0, 1) := by decide +kernel
theorem d_Md_records_66 : dec m_Md_records 66 = .ok (.getfield 40, 3) := by decide +kernel
theorem d_Md_records_69 : dec m_Md_records 69 = .ok (.imul, 1) := by decide +kernel
theorem d_Md_records_70 : dec m_Md_records 70 = .ok (.iload_n 1, 1) := by decide +kernel
theorem d_Md_records_71 : dec m_Md_records 71 = .ok (.iadd, 1) := by decide +kernel
theorem d_Md_records_72 : dec m_Md_records 72 = .ok (.aload_n 0, 1) := by decide +kernel
theorem d_Md_records_73 : dec m_Md_records 73 = .ok (.getfield 7, 3) := by decide +kernel
theorem d_Md_records_76 : dec m_Md_records 76 = .ok (.iload_n 1, 1) := by decide +kernel
theorem d_Md_records_77 : dec m_Md_records 77 = .ok (.iaload, 1) := by decide +kernel
theorem d_Md_records_78 : dec m_Md_records 78 = .ok (.iastore, 1) := by decide +kernel
theorem d_Md_records_79 : dec m_Md_records 79 = .ok (.iinc 1 1, 3) := by decide +kernel
theorem d_Md_records_82 : dec m_Md_records 82 = .ok (.goto (-31), 3) := by decide +kernel
theorem d_Md_records_85 : dec m_Md_records 85 = .ok (.aload_n 0, 1) := by decide +kernel
theorem d_Md_records_86 : dec m_Md_records 86 = .ok (.dup, 1) := by decide +kernel
theorem d_Md_records_87 : dec m_Md_records 87 = .ok (.getfield 40, 3) := by decide +kernel
theorem d_Md_records_90 : dec m_Md_records 90 = .ok (.iconst 1, 1) := by decide +kernel
theorem d_Md_records_91 : dec m_Md_records 91 = .ok (.iadd, 1) := by decide +kernel
theorem d_Md_records_92 : dec m_Md_records 92 = .ok (.putfield 40, 3) := by decide +kernel
theorem d_Md_records_95 : dec m_Md_records 95 = .ok (.return_, 1) := by decide +kernel
theorem d_Md_movesOf_0 : dec m_Md_movesOf 0 = .ok (.iconst 0, 1) := by decide +kernel
theorem d_Md_movesOf_1 : dec m_Md_movesOf 1 = .ok (.istore_n 2, 1) := by decide +kernel
theorem d_Md_movesOf_2 : dec m_Md_movesOf 2 = .ok (.iconst 0, 1) := by decide +kernel
theorem d_Md_movesOf_3 : dec m_Md_movesOf 3 = .ok (.istore_n 3, 1) := by decide +kernel
theorem d_Md_movesOf_4 : dec m_Md_movesOf 4 = .ok (.iload_n 3, 1) := by decide +kernel
theorem d_Md_movesOf_5 : dec m_Md_movesOf 5 = .ok (.aload_n 0, 1) := by decide +kernel
theorem d_Md_movesOf_6 : dec m_Md_movesOf 6 = .ok (.getfield 7, 3) := by decide +kernel
theorem d_Md_movesOf_9 : dec m_Md_movesOf 9 = .ok (.iconst 0, 1) := by decide +kernel
theorem d_Md_movesOf_10 : dec m_Md_movesOf 10 = .ok (.iaload, 1) := by decide +kernel
theorem d_Md_movesOf_11 : dec m_Md_movesOf 11 = .ok (.if_icmp .ge 32, 3) := by decide +kernel
theorem d_Md_movesOf_14 : dec m_Md_movesOf 14 = .ok (.iload_n 2, 1) := by decide +kernel
theorem d_Md_movesOf_15 : dec m_Md_movesOf 15 = .ok (.aload_n 0, 1) := by decide +kernel
theorem d_Md_movesOf_16 : dec m_Md_movesOf 16 = .ok (.getfield 7, 3) := by decide +kernel
theorem d_Md_movesOf_19 : dec m_Md_movesOf 19 = .ok (.bipush 103, 2) := by decide +kernel
theorem d_Md_movesOf_21 : dec m_Md_movesOf 21 = .ok (.iconst 2, 1) := by decide +kernel
theorem d_Md_movesOf_22 : dec m_Md_movesOf 22 = .ok (.iload_n 3, 1) := by decide +kernel
theorem d_Md_movesOf_23 : dec m_Md_movesOf 23 = .ok (.imul, 1) := by decide +kernel
theorem d_Md_movesOf_24 : dec m_Md_movesOf 24 = .ok (.iadd, 1) := by decide +kernel
theorem d_Md_movesOf_25 : dec m_Md_movesOf 25 = .ok (.iaload, 1) := by decide +kernel
theorem d_Md_movesOf_26 : dec m_Md_movesOf 26 = .ok (.iload_n 1, 1) := by decide +kernel
theorem d_Md_movesOf_27 : dec m_Md_movesOf 27 = .ok (.if_icmp .ne 7, 3) := by decide +kernel
theorem d_Md_movesOf_30 : dec m_Md_movesOf 30 = .ok (.iconst 1, 1) := by decide +kernel
theorem d_Md_movesOf_31 : dec m_Md_movesOf 31 = .ok (.goto 4, 3) := by decide +kernel
theorem d_Md_movesOf_34 : dec m_Md_movesOf 34 = .ok (.iconst 0, 1) := by decide +kernel
theorem d_Md_movesOf_35 : dec m_Md_movesOf 35 = .ok (.iadd, 1) := by decide +kernel
theorem d_Md_movesOf_36 : dec m_Md_movesOf 36 = .ok (.istore_n 2, 1) := by decide +kernel
theorem d_Md_movesOf_37 : dec m_Md_movesOf 37 = .ok (.iinc 3 1, 3) := by decide +kernel
theorem d_Md_movesOf_40 : dec m_Md_movesOf 40 = .ok (.goto (-36), 3) := by decide +kernel
theorem d_Md_movesOf_43 : dec m_Md_movesOf 43 = .ok (.iload_n 2, 1) := by decide +kernel
theorem d_Md_movesOf_44 : dec m_Md_movesOf 44 = .ok (.ireturn, 1) := by decide +kernel
theorem d_Md_moveAt_0 : dec m_Md_moveAt 0 = .ok (.iload_n 2, 1) := by decide +kernel
theorem d_Md_moveAt_1 : dec m_Md_moveAt 1 = .ok (.istore_n 3, 1) := by decide +kernel
theorem d_Md_moveAt_2 : dec m_Md_moveAt 2 = .ok (.iconst 0, 1) := by decide +kernel
theorem d_Md_moveAt_3 : dec m_Md_moveAt 3 = .ok (.istore 4, 2) := by decide +kernel
theorem d_Md_moveAt_5 : dec m_Md_moveAt 5 = .ok (.iload 4, 2) := by decide +kernel
theorem d_Md_moveAt_7 : dec m_Md_moveAt 7 = .ok (.aload_n 0, 1) := by decide +kernel
theorem d_Md_moveAt_8 : dec m_Md_moveAt 8 = .ok (.getfield 7, 3) := by decide +kernel
theorem d_Md_moveAt_11 : dec m_Md_moveAt 11 = .ok (.iconst 0, 1) := by decide +kernel
theorem d_Md_moveAt_12 : dec m_Md_moveAt 12 = .ok (.iaload, 1) := by decide +kernel
theorem d_Md_moveAt_13 : dec m_Md_moveAt 13 = .ok (.if_icmp .ge 52, 3) := by decide +kernel
theorem d_Md_moveAt_16 : dec m_Md_moveAt 16 = .ok (.iload_n 3, 1) := by decide +kernel
theorem d_Md_moveAt_17 : dec m_Md_moveAt 17 = .ok (.aload_n 0, 1) := by decide +kernel
theorem d_Md_moveAt_18 : dec m_Md_moveAt 18 = .ok (.getfield 7, 3) := by decide +kernel
theorem d_Md_moveAt_21 : dec m_Md_moveAt 21 = .ok (.bipush 103, 2) := by decide +kernel
theorem d_Md_moveAt_23 : dec m_Md_moveAt 23 = .ok (.iconst 2, 1) := by decide +kernel
theorem d_Md_moveAt_24 : dec m_Md_moveAt 24 = .ok (.iload 4, 2) := by decide +kernel
theorem d_Md_moveAt_26 : dec m_Md_moveAt 26 = .ok (.imul, 1) := by decide +kernel
theorem d_Md_moveAt_27 : dec m_Md_moveAt 27 = .ok (.iadd, 1) := by decide +kernel
theorem d_Md_moveAt_28 : dec m_Md_moveAt 28 = .ok (.iaload, 1) := by decide +kernel
theorem d_Md_moveAt_29 : dec m_Md_moveAt 29 = .ok (.iload_n 1, 1) := by decide +kernel
theorem d_Md_moveAt_30 : dec m_Md_moveAt 30 = .ok (.if_icmp .ne 7, 3) := by decide +kernel
theorem d_Md_moveAt_33 : dec m_Md_moveAt 33 = .ok (.iconst 1, 1) := by decide +kernel
theorem d_Md_moveAt_34 : dec m_Md_moveAt 34 = .ok (.goto 4, 3) := by decide +kernel
theorem d_Md_moveAt_37 : dec m_Md_moveAt 37 = .ok (.iconst 0, 1) := by decide +kernel
theorem d_Md_moveAt_38 : dec m_Md_moveAt 38 = .ok (.isub, 1) := by decide +kernel
theorem d_Md_moveAt_39 : dec m_Md_moveAt 39 = .ok (.istore_n 3, 1) := by decide +kernel
theorem d_Md_moveAt_40 : dec m_Md_moveAt 40 = .ok (.iload_n 3, 1) := by decide +kernel
theorem d_Md_moveAt_41 : dec m_Md_moveAt 41 = .ok (.ifCond .ge 18, 3) := by decide +kernel
theorem d_Md_moveAt_44 : dec m_Md_moveAt 44 = .ok (.aload_n 0, 1) := by decide +kernel
theorem d_Md_moveAt_45 : dec m_Md_moveAt 45 = .ok (.getfield 7, 3) := by decide +kernel
theorem d_Md_moveAt_48 : dec m_Md_moveAt 48 = .ok (.bipush 103, 2) := by decide +kernel
theorem d_Md_moveAt_50 : dec m_Md_moveAt 50 = .ok (.iconst 2, 1) := by decide +kernel
theorem d_Md_moveAt_51 : dec m_Md_moveAt 51 = .ok (.iload 4, 2) := by decide +kernel
theorem d_Md_moveAt_53 : dec m_Md_moveAt 53 = .ok (.imul, 1) := by decide +kernel
theorem d_Md_moveAt_54 : dec m_Md_moveAt 54 = .ok (.iadd, 1) := by decide +kernel
theorem d_Md_moveAt_55 : dec m_Md_moveAt 55 = .ok (.iconst 1, 1) := by decide +kernel
theorem d_Md_moveAt_56 : dec m_Md_moveAt 56 = .ok (.iadd, 1) := by decide +kernel
theorem d_Md_moveAt_57 : dec m_Md_moveAt 57 = .ok (.iaload, 1) := by decide +kernel
theorem d_Md_moveAt_58 : dec m_Md_moveAt 58 = .ok (.ireturn, 1) := by decide +kernel
theorem d_Md_moveAt_59 : dec m_Md_moveAt 59 = .ok (.iinc 4 1, 3) := by decide +kernel
theorem d_Md_moveAt_62 : dec m_Md_moveAt 62 = .ok (.goto (-57), 3) := by decide +kernel
theorem d_Md_moveAt_65 : dec m_Md_moveAt 65 = .ok (.bipush (-5), 2) := by decide +kernel
theorem d_Md_moveAt_67 : dec m_Md_moveAt 67 = .ok (.ireturn, 1) := by decide +kernel
theorem d_Md_placeOf_0 : dec m_Md_placeOf 0 = .ok (.iconst 0, 1) := by decide +kernel
theorem d_Md_placeOf_1 : dec m_Md_placeOf 1 = .ok (.istore_n 3, 1) := by decide +kernel
theorem d_Md_placeOf_2 : dec m_Md_placeOf 2 = .ok (.iload_n 3, 1) := by decide +kernel
theorem d_Md_placeOf_3 : dec m_Md_placeOf 3 = .ok (.aload_n 0, 1) := by decide +kernel
theorem d_Md_placeOf_4 : dec m_Md_placeOf 4 = .ok (.getfield 7, 3) := by decide +kernel
theorem d_Md_placeOf_7 : dec m_Md_placeOf 7 = .ok (.iconst 0, 1) := by decide +kernel
theorem d_Md_placeOf_8 : dec m_Md_placeOf 8 = .ok (.iaload, 1) := by decide +kernel
theorem d_Md_placeOf_9 : dec m_Md_placeOf 9 = .ok (.if_icmp .ge 43, 3) := by decide +kernel
theorem d_Md_placeOf_12 : dec m_Md_placeOf 12 = .ok (.aload_n 0, 1) := by decide +kernel
theorem d_Md_placeOf_13 : dec m_Md_placeOf 13 = .ok (.getfield 7, 3) := by decide +kernel
theorem d_Md_placeOf_16 : dec m_Md_placeOf 16 = .ok (.bipush 103, 2) := by decide +kernel
theorem d_Md_placeOf_18 : dec m_Md_placeOf 18 = .ok (.iconst 2, 1) := by decide +kernel
theorem d_Md_placeOf_19 : dec m_Md_placeOf 19 = .ok (.iload_n 3, 1) := by decide +kernel
theorem d_Md_placeOf_20 : dec m_Md_placeOf 20 = .ok (.imul, 1) := by decide +kernel
theorem d_Md_placeOf_21 : dec m_Md_placeOf 21 = .ok (.iadd, 1) := by decide +kernel
theorem d_Md_placeOf_22 : dec m_Md_placeOf 22 = .ok (.iaload, 1) := by decide +kernel
theorem d_Md_placeOf_23 : dec m_Md_placeOf 23 = .ok (.iload_n 1, 1) := by decide +kernel
theorem d_Md_placeOf_24 : dec m_Md_placeOf 24 = .ok (.if_icmp .ne 22, 3) := by decide +kernel
theorem d_Md_placeOf_27 : dec m_Md_placeOf 27 = .ok (.aload_n 0, 1) := by decide +kernel
theorem d_Md_placeOf_28 : dec m_Md_placeOf 28 = .ok (.getfield 7, 3) := by decide +kernel
theorem d_Md_placeOf_31 : dec m_Md_placeOf 31 = .ok (.bipush 103, 2) := by decide +kernel
theorem d_Md_placeOf_33 : dec m_Md_placeOf 33 = .ok (.iconst 2, 1) := by decide +kernel
theorem d_Md_placeOf_34 : dec m_Md_placeOf 34 = .ok (.iload_n 3, 1) := by decide +kernel
theorem d_Md_placeOf_35 : dec m_Md_placeOf 35 = .ok (.imul, 1) := by decide +kernel
theorem d_Md_placeOf_36 : dec m_Md_placeOf 36 = .ok (.iadd, 1) := by decide +kernel
theorem d_Md_placeOf_37 : dec m_Md_placeOf 37 = .ok (.iconst 1, 1) := by decide +kernel
theorem d_Md_placeOf_38 : dec m_Md_placeOf 38 = .ok (.iadd, 1) := by decide +kernel
theorem d_Md_placeOf_39 : dec m_Md_placeOf 39 = .ok (.iaload, 1) := by decide +kernel
theorem d_Md_placeOf_40 : dec m_Md_placeOf 40 = .ok (.iload_n 2, 1) := by decide +kernel
theorem d_Md_placeOf_41 : dec m_Md_placeOf 41 = .ok (.if_icmp .ne 5, 3) := by decide +kernel
theorem d_Md_placeOf_44 : dec m_Md_placeOf 44 = .ok (.iload_n 3, 1) := by decide +kernel
theorem d_Md_placeOf_45 : dec m_Md_placeOf 45 = .ok (.ireturn, 1) := by decide +kernel
theorem d_Md_placeOf_46 : dec m_Md_placeOf 46 = .ok (.iinc 3 1, 3) := by decide +kernel
theorem d_Md_placeOf_49 : dec m_Md_placeOf 49 = .ok (.goto (-47), 3) := by decide +kernel
theorem d_Md_placeOf_52 : dec m_Md_placeOf 52 = .ok (.bipush (-5), 2) := by decide +kernel
theorem d_Md_placeOf_54 : dec m_Md_placeOf 54 = .ok (.ireturn, 1) := by decide +kernel
theorem d_Md_isEnd_0 : dec m_Md_isEnd 0 = .ok (.aload_n 0, 1) := by decide +kernel
theorem d_Md_isEnd_1 : dec m_Md_isEnd 1 = .ok (.iload_n 1, 1) := by decide +kernel
theorem d_Md_isEnd_2 : dec m_Md_isEnd 2 = .ok (.iconst 1, 1) := by decide +kernel
theorem d_Md_isEnd_3 : dec m_Md_isEnd 3 = .ok (.invokevirtual 43, 3) := by decide +kernel
theorem d_Md_isEnd_6 : dec m_Md_isEnd 6 = .ok (.ifCond .ne 11, 3) := by decide +kernel
theorem d_Md_isEnd_9 : dec m_Md_isEnd 9 = .ok (.aload_n 0, 1) := by decide +kernel
theorem d_Md_isEnd_10 : dec m_Md_isEnd 10 = .ok (.iload_n 1, 1) := by decide +kernel
theorem d_Md_isEnd_11 : dec m_Md_isEnd 11 = .ok (.invokevirtual 47, 3) := by decide +kernel
theorem d_Md_isEnd_14 : dec m_Md_isEnd 14 = .ok (.ifCond .ne 7, 3) := by decide +kernel
theorem d_Md_isEnd_17 : dec m_Md_isEnd 17 = .ok (.iconst 1, 1) := by decide +kernel
theorem d_Md_isEnd_18 : dec m_Md_isEnd 18 = .ok (.goto 4, 3) := by decide +kernel
theorem d_Md_isEnd_21 : dec m_Md_isEnd 21 = .ok (.iconst 0, 1) := by decide +kernel
theorem d_Md_isEnd_22 : dec m_Md_isEnd 22 = .ok (.ireturn, 1) := by decide +kernel
theorem d_Md_noTree_0 : dec m_Md_noTree 0 = .ok (.sipush 223, 3) := by decide +kernel
theorem d_Md_noTree_3 : dec m_Md_noTree 3 = .ok (.istore_n 1, 1) := by decide +kernel
theorem d_Md_noTree_4 : dec m_Md_noTree 4 = .ok (.iload_n 1, 1) := by decide +kernel
theorem d_Md_noTree_5 : dec m_Md_noTree 5 = .ok (.sipush 1624, 3) := by decide +kernel
theorem d_Md_noTree_8 : dec m_Md_noTree 8 = .ok (.if_icmp .ge 16, 3) := by decide +kernel
theorem d_Md_noTree_11 : dec m_Md_noTree 11 = .ok (.aload_n 0, 1) := by decide +kernel
theorem d_Md_noTree_12 : dec m_Md_noTree 12 = .ok (.getfield 7, 3) := by decide +kernel
theorem d_Md_noTree_15 : dec m_Md_noTree 15 = .ok (.iload_n 1, 1) := by decide +kernel
theorem d_Md_noTree_16 : dec m_Md_noTree 16 = .ok (.iconst 0, 1) := by decide +kernel
theorem d_Md_noTree_17 : dec m_Md_noTree 17 = .ok (.iastore, 1) := by decide +kernel
theorem d_Md_noTree_18 : dec m_Md_noTree 18 = .ok (.iinc 1 1, 3) := by decide +kernel
theorem d_Md_noTree_21 : dec m_Md_noTree 21 = .ok (.goto (-17), 3) := by decide +kernel
theorem d_Md_noTree_24 : dec m_Md_noTree 24 = .ok (.aload_n 0, 1) := by decide +kernel
theorem d_Md_noTree_25 : dec m_Md_noTree 25 = .ok (.getfield 7, 3) := by decide +kernel
theorem d_Md_noTree_28 : dec m_Md_noTree 28 = .ok (.iconst 1, 1) := by decide +kernel
theorem d_Md_noTree_29 : dec m_Md_noTree 29 = .ok (.iconst 0, 1) := by decide +kernel
theorem d_Md_noTree_30 : dec m_Md_noTree 30 = .ok (.iastore, 1) := by decide +kernel
theorem d_Md_noTree_31 : dec m_Md_noTree 31 = .ok (.aload_n 0, 1) := by decide +kernel
theorem d_Md_noTree_32 : dec m_Md_noTree 32 = .ok (.getfield 7, 3) := by decide +kernel
theorem d_Md_noTree_35 : dec m_Md_noTree 35 = .ok (.iconst 2, 1) := by decide +kernel
theorem d_Md_noTree_36 : dec m_Md_noTree 36 = .ok (.iconst 0, 1) := by decide +kernel
theorem d_Md_noTree_37 : dec m_Md_noTree 37 = .ok (.iastore, 1) := by decide +kernel
theorem d_Md_noTree_38 : dec m_Md_noTree 38 = .ok (.return_, 1) := by decide +kernel
theorem d_Md_setPosition_0 : dec m_Md_setPosition 0 = .ok (.aload_n 0, 1) := by decide +kernel
theorem d_Md_setPosition_1 : dec m_Md_setPosition 1 = .ok (.iconst 0, 1) := by decide +kernel
theorem d_Md_setPosition_2 : dec m_Md_setPosition 2 = .ok (.putfield 32, 3) := by decide +kernel
theorem d_Md_setPosition_5 : dec m_Md_setPosition 5 = .ok (.iload_n 1, 1) := by decide +kernel
theorem d_Md_setPosition_6 : dec m_Md_setPosition 6 = .ok (.invokestatic 51, 3) := by decide +kernel
theorem d_Md_setPosition_9 : dec m_Md_setPosition 9 = .ok (.ifCond .ne 5, 3) := by decide +kernel
theorem d_Md_setPosition_12 : dec m_Md_setPosition 12 = .ok (.iconst (-1), 1) := by decide +kernel
theorem d_Md_setPosition_13 : dec m_Md_setPosition 13 = .ok (.ireturn, 1) := by decide +kernel
theorem d_Md_setPosition_14 : dec m_Md_setPosition 14 = .ok (.iload_n 2, 1) := by decide +kernel
theorem d_Md_setPosition_15 : dec m_Md_setPosition 15 = .ok (.iconst 0, 1) := by decide +kernel
theorem d_Md_setPosition_16 : dec m_Md_setPosition 16 = .ok (.iconst 1, 1) := by decide +kernel
theorem d_Md_setPosition_17 : dec m_Md_setPosition 17 = .ok (.invokestatic 36, 3) := by decide +kernel
theorem d_Md_setPosition_20 : dec m_Md_setPosition 20 = .ok (.ifCond .eq 12, 3) := by decide +kernel
theorem d_Md_setPosition_23 : dec m_Md_setPosition 23 = .ok (.iload_n 3, 1) := by decide +kernel
theorem d_Md_setPosition_24 : dec m_Md_setPosition 24 = .ok (.iconst 0, 1) := by decide +kernel
theorem d_Md_setPosition_25 : dec m_Md_setPosition 25 = .ok (.iconst 2, 1) := by decide +kernel
theorem d_Md_setPosition_26 : dec m_Md_setPosition 26 = .ok (.invokestatic 36, 3) := by decide +kernel
theorem d_Md_setPosition_29 : dec m_Md_setPosition 29 = .ok (.ifCond .ne 6, 3) := by decide +kernel
theorem d_Md_setPosition_32 : dec m_Md_setPosition 32 = .ok (.bipush (-2), 2) := by decide +kernel
theorem d_Md_setPosition_34 : dec m_Md_setPosition 34 = .ok (.ireturn, 1) := by decide +kernel
theorem d_Md_setPosition_35 : dec m_Md_setPosition 35 = .ok (.aload_n 0, 1) := by decide +kernel
theorem d_Md_setPosition_36 : dec m_Md_setPosition 36 = .ok (.iload_n 1, 1) := by decide +kernel
theorem d_Md_setPosition_37 : dec m_Md_setPosition 37 = .ok (.iconst 1, 1) := by decide +kernel
theorem d_Md_setPosition_38 : dec m_Md_setPosition 38 = .ok (.invokevirtual 43, 3) := by decide +kernel
theorem d_Md_setPosition_41 : dec m_Md_setPosition 41 = .ok (.istore 4, 2) := by decide +kernel
theorem d_Md_setPosition_43 : dec m_Md_setPosition 43 = .ok (.aload_n 0, 1) := by decide +kernel
theorem d_Md_setPosition_44 : dec m_Md_setPosition 44 = .ok (.iload_n 1, 1) := by decide +kernel
theorem d_Md_setPosition_45 : dec m_Md_setPosition 45 = .ok (.iconst 0, 1) := by decide +kernel
theorem d_Md_setPosition_46 : dec m_Md_setPosition 46 = .ok (.invokevirtual 43, 3) := by decide +kernel
theorem d_Md_setPosition_49 : dec m_Md_setPosition 49 = .ok (.iload_n 2, 1) := by decide +kernel
theorem d_Md_setPosition_50 : dec m_Md_setPosition 50 = .ok (.if_icmp .ne 12, 3) := by decide +kernel
theorem d_Md_setPosition_53 : dec m_Md_setPosition 53 = .ok (.iload 4, 2) := by decide +kernel
theorem d_Md_setPosition_55 : dec m_Md_setPosition 55 = .ok (.iload_n 3, 1) := by decide +kernel
theorem d_Md_setPosition_56 : dec m_Md_setPosition 56 = .ok (.if_icmp .ne 6, 3) := by decide +kernel
theorem d_Md_setPosition_59 : dec m_Md_setPosition 59 = .ok (.bipush (-5), 2) := by decide +kernel
theorem d_Md_setPosition_61 : dec m_Md_setPosition 61 = .ok (.ireturn, 1) := by decide +kernel
theorem d_Md_setPosition_62 : dec m_Md_setPosition 62 = .ok (.aload_n 0, 1) := by decide +kernel
theorem d_Md_setPosition_63 : dec m_Md_setPosition 63 = .ok (.invokevirtual 55, 3) := by decide +kernel
theorem d_Md_setPosition_66 : dec m_Md_setPosition 66 = .ok (.aload_n 0, 1) := by decide +kernel
theorem d_Md_setPosition_67 : dec m_Md_setPosition 67 = .ok (.getfield 7, 3) := by decide +kernel
theorem d_Md_setPosition_70 : dec m_Md_setPosition 70 = .ok (.iconst 3, 1) := by decide +kernel
theorem d_Md_setPosition_71 : dec m_Md_setPosition 71 = .ok (.iconst 5, 1) := by decide +kernel
theorem d_Md_setPosition_72 : dec m_Md_setPosition 72 = .ok (.iload_n 1, 1) := by decide +kernel
theorem d_Md_setPosition_73 : dec m_Md_setPosition 73 = .ok (.imul, 1) := by decide +kernel
theorem d_Md_setPosition_74 : dec m_Md_setPosition 74 = .ok (.iadd, 1) := by decide +kernel
theorem d_Md_setPosition_75 : dec m_Md_setPosition 75 = .ok (.iconst 0, 1) := by decide +kernel
theorem d_Md_setPosition_76 : dec m_Md_setPosition 76 = .ok (.iadd, 1) := by decide +kernel
theorem d_Md_setPosition_77 : dec m_Md_setPosition 77 = .ok (.iload_n 2, 1) := by decide +kernel
theorem d_Md_setPosition_78 : dec m_Md_setPosition 78 = .ok (.iastore, 1) := by decide +kernel
theorem d_Md_setPosition_79 : dec m_Md_setPosition 79 = .ok (.aload_n 0, 1) := by decide +kernel
theorem d_Md_setPosition_80 : dec m_Md_setPosition 80 = .ok (.getfield 7, 3) := by decide +kernel
theorem d_Md_setPosition_83 : dec m_Md_setPosition 83 = .ok (.iconst 3, 1) := by decide +kernel
theorem d_Md_setPosition_84 : dec m_Md_setPosition 84 = .ok (.iconst 5, 1) := by decide +kernel
theorem d_Md_setPosition_85 : dec m_Md_setPosition 85 = .ok (.iload_n 1, 1) := by decide +kernel
theorem d_Md_setPosition_86 : dec m_Md_setPosition 86 = .ok (.imul, 1) := by decide +kernel
theorem d_Md_setPosition_87 : dec m_Md_setPosition 87 = .ok (.iadd, 1) := by decide +kernel
theorem d_Md_setPosition_88 : dec m_Md_setPosition 88 = .ok (.iconst 1, 1) := by decide +kernel
theorem d_Md_setPosition_89 : dec m_Md_setPosition 89 = .ok (.iadd, 1) := by decide +kernel
theorem d_Md_setPosition_90 : dec m_Md_setPosition 90 = .ok (.iload_n 3, 1) := by decide +kernel
theorem d_Md_setPosition_91 : dec m_Md_setPosition 91 = .ok (.iastore, 1) := by decide +kernel
theorem d_Md_setPosition_92 : dec m_Md_setPosition 92 = .ok (.aload_n 0, 1) := by decide +kernel
theorem d_Md_setPosition_93 : dec m_Md_setPosition 93 = .ok (.invokevirtual 58, 3) := by decide +kernel
theorem d_Md_setPosition_96 : dec m_Md_setPosition 96 = .ok (.iload 4, 2) := by decide +kernel
theorem d_Md_setPosition_98 : dec m_Md_setPosition 98 = .ok (.ireturn, 1) := by decide +kernel
theorem d_Md_guess_0 : dec m_Md_guess 0 = .ok (.aload_n 0, 1) := by decide +kernel
theorem d_Md_guess_1 : dec m_Md_guess 1 = .ok (.iconst 0, 1) := by decide +kernel
theorem d_Md_guess_2 : dec m_Md_guess 2 = .ok (.putfield 32, 3) := by decide +kernel
theorem d_Md_guess_5 : dec m_Md_guess 5 = .ok (.iload_n 1, 1) := by decide +kernel
theorem d_Md_guess_6 : dec m_Md_guess 6 = .ok (.invokestatic 51, 3) := by decide +kernel
theorem d_Md_guess_9 : dec m_Md_guess 9 = .ok (.ifCond .ne 5, 3) := by decide +kernel
theorem d_Md_guess_12 : dec m_Md_guess 12 = .ok (.iconst (-1), 1) := by decide +kernel
theorem d_Md_guess_13 : dec m_Md_guess 13 = .ok (.ireturn, 1) := by decide +kernel
theorem d_Md_guess_14 : dec m_Md_guess 14 = .ok (.iload_n 2, 1) := by decide +kernel
theorem d_Md_guess_15 : dec m_Md_guess 15 = .ok (.iconst 1, 1) := by decide +kernel
theorem d_Md_guess_16 : dec m_Md_guess 16 = .ok (.bipush 9, 2) := by decide +kernel
theorem d_Md_guess_18 : dec m_Md_guess 18 = .ok (.invokestatic 36, 3) := by decide +kernel
theorem d_Md_guess_21 : dec m_Md_guess 21 = .ok (.ifCond .eq 13, 3) := by decide +kernel
theorem d_Md_guess_24 : dec m_Md_guess 24 = .ok (.iload_n 3, 1) := by decide +kernel
theorem d_Md_guess_25 : dec m_Md_guess 25 = .ok (.iconst 1, 1) := by decide +kernel
theorem d_Md_guess_26 : dec m_Md_guess 26 = .ok (.bipush 9, 2) := by decide +kernel
theorem d_Md_guess_28 : dec m_Md_guess 28 = .ok (.invokestatic 36, 3) := by decide +kernel
theorem d_Md_guess_31 : dec m_Md_guess 31 = .ok (.ifCond .ne 6, 3) := by decide +kernel
theorem d_Md_guess_34 : dec m_Md_guess 34 = .ok (.bipush (-2), 2) := by decide +kernel
theorem d_Md_guess_36 : dec m_Md_guess 36 = .ok (.ireturn, 1) := by decide +kernel
theorem d_Md_guess_37 : dec m_Md_guess 37 = .ok (.aload_n 0, 1) := by decide +kernel
theorem d_Md_guess_38 : dec m_Md_guess 38 = .ok (.iload_n 1, 1) := by decide +kernel
theorem d_Md_guess_39 : dec m_Md_guess 39 = .ok (.iconst 2, 1) := by decide +kernel
theorem d_Md_guess_40 : dec m_Md_guess 40 = .ok (.invokevirtual 43, 3) := by decide +kernel
theorem d_Md_guess_43 : dec m_Md_guess 43 = .ok (.istore 4, 2) := by decide +kernel
theorem d_Md_guess_45 : dec m_Md_guess 45 = .ok (.iload 4, 2) := by decide +kernel
theorem d_Md_guess_47 : dec m_Md_guess 47 = .ok (.iload_n 2, 1) := by decide +kernel
theorem d_Md_guess_48 : dec m_Md_guess 48 = .ok (.if_icmp .ne 16, 3) := by decide +kernel
theorem d_Md_guess_51 : dec m_Md_guess 51 = .ok (.aload_n 0, 1) := by decide +kernel
theorem d_Md_guess_52 : dec m_Md_guess 52 = .ok (.iload_n 1, 1) := by decide +kernel
theorem d_Md_guess_53 : dec m_Md_guess 53 = .ok (.iconst 3, 1) := by decide +kernel
theorem d_Md_guess_54 : dec m_Md_guess 54 = .ok (.invokevirtual 43, 3) := by decide +kernel
theorem d_Md_guess_57 : dec m_Md_guess 57 = .ok (.iload_n 3, 1) := by decide +kernel
theorem d_Md_guess_58 : dec m_Md_guess 58 = .ok (.if_icmp .ne 6, 3) := by decide +kernel
theorem d_Md_guess_61 : dec m_Md_guess 61 = .ok (.bipush (-5), 2) := by decide +kernel
theorem d_Md_guess_63 : dec m_Md_guess 63 = .ok (.ireturn, 1) := by decide +kernel
theorem d_Md_guess_64 : dec m_Md_guess 64 = .ok (.aload_n 0, 1) := by decide +kernel
theorem d_Md_guess_65 : dec m_Md_guess 65 = .ok (.invokevirtual 55, 3) := by decide +kernel
theorem d_Md_guess_68 : dec m_Md_guess 68 = .ok (.aload_n 0, 1) := by decide +kernel
theorem d_Md_guess_69 : dec m_Md_guess 69 = .ok (.getfield 7, 3) := by decide +kernel
theorem d_Md_guess_72 : dec m_Md_guess 72 = .ok (.iconst 3, 1) := by decide +kernel
theorem d_Md_guess_73 : dec m_Md_guess 73 = .ok (.iconst 5, 1) := by decide +kernel
theorem d_Md_guess_74 : dec m_Md_guess 74 = .ok (.iload_n 1, 1) := by decide +kernel
theorem d_Md_guess_75 : dec m_Md_guess 75 = .ok (.imul, 1) := by decide +kernel
theorem d_Md_guess_76 : dec m_Md_guess 76 = .ok (.iadd, 1) := by decide +kernel
theorem d_Md_guess_77 : dec m_Md_guess 77 = .ok (.iconst 2, 1) := by decide +kernel
theorem d_Md_guess_78 : dec m_Md_guess 78 = .ok (.iadd, 1) := by decide +kernel
theorem d_Md_guess_79 : dec m_Md_guess 79 = .ok (.iload_n 2, 1) := by decide +kernel
theorem d_Md_guess_80 : dec m_Md_guess 80 = .ok (.iastore, 1) := by decide +kernel
theorem d_Md_guess_81 : dec m_Md_guess 81 = .ok (.aload_n 0, 1) := by decide +kernel
theorem d_Md_guess_82 : dec m_Md_guess 82 = .ok (.getfield 7, 3) := by decide +kernel
theorem d_Md_guess_85 : dec m_Md_guess 85 = .ok (.iconst 3, 1) := by decide +kernel
theorem d_Md_guess_86 : dec m_Md_guess 86 = .ok (.iconst 5, 1) := by decide +kernel
theorem d_Md_guess_87 : dec m_Md_guess 87 = .ok (.iload_n 1, 1) := by decide +kernel
theorem d_Md_guess_88 : dec m_Md_guess 88 = .ok (.imul, 1) := by decide +kernel
theorem d_Md_guess_89 : dec m_Md_guess 89 = .ok (.iadd, 1) := by decide +kernel
theorem d_Md_guess_90 : dec m_Md_guess 90 = .ok (.iconst 3, 1) := by decide +kernel
theorem d_Md_guess_91 : dec m_Md_guess 91 = .ok (.iadd, 1) := by decide +kernel
theorem d_Md_guess_92 : dec m_Md_guess 92 = .ok (.iload_n 3, 1) := by decide +kernel
theorem d_Md_guess_93 : dec m_Md_guess 93 = .ok (.iastore, 1) := by decide +kernel
theorem d_Md_guess_94 : dec m_Md_guess 94 = .ok (.aload_n 0, 1) := by decide +kernel
theorem d_Md_guess_95 : dec m_Md_guess 95 = .ok (.invokevirtual 58, 3) := by decide +kernel
theorem d_Md_guess_98 : dec m_Md_guess 98 = .ok (.iload 4, 2) := by decide +kernel
theorem d_Md_guess_100 : dec m_Md_guess 100 = .ok (.ireturn, 1) := by decide +kernel
theorem d_Md_comes_0 : dec m_Md_comes 0 = .ok (.aload_n 0, 1) := by decide +kernel
theorem d_Md_comes_1 : dec m_Md_comes 1 = .ok (.getfield 7, 3) := by decide +kernel
theorem d_Md_comes_4 : dec m_Md_comes 4 = .ok (.bipush 103, 2) := by decide +kernel
theorem d_Md_comes_6 : dec m_Md_comes 6 = .ok (.iconst 2, 1) := by decide +kernel
theorem d_Md_comes_7 : dec m_Md_comes 7 = .ok (.aload_n 0, 1) := by decide +kernel
theorem d_Md_comes_8 : dec m_Md_comes 8 = .ok (.getfield 7, 3) := by decide +kernel
theorem d_Md_comes_11 : dec m_Md_comes 11 = .ok (.iconst 0, 1) := by decide +kernel
theorem d_Md_comes_12 : dec m_Md_comes 12 = .ok (.iaload, 1) := by decide +kernel
theorem d_Md_comes_13 : dec m_Md_comes 13 = .ok (.imul, 1) := by decide +kernel
theorem d_Md_comes_14 : dec m_Md_comes 14 = .ok (.iadd, 1) := by decide +kernel
theorem d_Md_comes_15 : dec m_Md_comes 15 = .ok (.iload_n 1, 1) := by decide +kernel
theorem d_Md_comes_16 : dec m_Md_comes 16 = .ok (.iastore, 1) := by decide +kernel
theorem d_Md_comes_17 : dec m_Md_comes 17 = .ok (.aload_n 0, 1) := by decide +kernel
theorem d_Md_comes_18 : dec m_Md_comes 18 = .ok (.getfield 7, 3) := by decide +kernel
theorem d_Md_comes_21 : dec m_Md_comes 21 = .ok (.bipush 103, 2) := by decide +kernel
theorem d_Md_comes_23 : dec m_Md_comes 23 = .ok (.iconst 2, 1) := by decide +kernel
theorem d_Md_comes_24 : dec m_Md_comes 24 = .ok (.aload_n 0, 1) := by decide +kernel
theorem d_Md_comes_25 : dec m_Md_comes 25 = .ok (.getfield 7, 3) := by decide +kernel
theorem d_Md_comes_28 : dec m_Md_comes 28 = .ok (.iconst 0, 1) := by decide +kernel
theorem d_Md_comes_29 : dec m_Md_comes 29 = .ok (.iaload, 1) := by decide +kernel
theorem d_Md_comes_30 : dec m_Md_comes 30 = .ok (.imul, 1) := by decide +kernel
theorem d_Md_comes_31 : dec m_Md_comes 31 = .ok (.iadd, 1) := by decide +kernel
theorem d_Md_comes_32 : dec m_Md_comes 32 = .ok (.iconst 1, 1) := by decide +kernel
theorem d_Md_comes_33 : dec m_Md_comes 33 = .ok (.iadd, 1) := by decide +kernel
theorem d_Md_comes_34 : dec m_Md_comes 34 = .ok (.iload_n 2, 1) := by decide +kernel
theorem d_Md_comes_35 : dec m_Md_comes 35 = .ok (.iastore, 1) := by decide +kernel
theorem d_Md_comes_36 : dec m_Md_comes 36 = .ok (.aload_n 0, 1) := by decide +kernel
theorem d_Md_comes_37 : dec m_Md_comes 37 = .ok (.getfield 7, 3) := by decide +kernel
theorem d_Md_comes_40 : dec m_Md_comes 40 = .ok (.iconst 0, 1) := by decide +kernel
theorem d_Md_comes_41 : dec m_Md_comes 41 = .ok (.dup2, 1) := by decide +kernel
theorem d_Md_comes_42 : dec m_Md_comes 42 = .ok (.iaload, 1) := by decide +kernel
theorem d_Md_comes_43 : dec m_Md_comes 43 = .ok (.iconst 1, 1) := by decide +kernel
theorem d_Md_comes_44 : dec m_Md_comes 44 = .ok (.iadd, 1) := by decide +kernel
theorem d_Md_comes_45 : dec m_Md_comes 45 = .ok (.iastore, 1) := by decide +kernel
theorem d_Md_comes_46 : dec m_Md_comes 46 = .ok (.return_, 1) := by decide +kernel
theorem d_Md_addMove_0 : dec m_Md_addMove 0 = .ok (.aload_n 0, 1) := by decide +kernel
theorem d_Md_addMove_1 : dec m_Md_addMove 1 = .ok (.iconst 0, 1) := by decide +kernel
theorem d_Md_addMove_2 : dec m_Md_addMove 2 = .ok (.putfield 32, 3) := by decide +kernel
theorem d_Md_addMove_5 : dec m_Md_addMove 5 = .ok (.iload_n 1, 1) := by decide +kernel
theorem d_Md_addMove_6 : dec m_Md_addMove 6 = .ok (.invokestatic 51, 3) := by decide +kernel
theorem d_Md_addMove_9 : dec m_Md_addMove 9 = .ok (.ifCond .eq 10, 3) := by decide +kernel
theorem d_Md_addMove_12 : dec m_Md_addMove 12 = .ok (.iload_n 2, 1) := by decide +kernel
theorem d_Md_addMove_13 : dec m_Md_addMove 13 = .ok (.invokestatic 51, 3) := by decide +kernel
theorem d_Md_addMove_16 : dec m_Md_addMove 16 = .ok (.ifCond .ne 5, 3) := by decide +kernel
theorem d_Md_addMove_19 : dec m_Md_addMove 19 = .ok (.iconst (-1), 1) := by decide +kernel
theorem d_Md_addMove_20 : dec m_Md_addMove 20 = .ok (.ireturn, 1) := by decide +kernel
theorem d_Md_addMove_21 : dec m_Md_addMove 21 = .ok (.aload_n 0, 1) := by decide +kernel
theorem d_Md_addMove_22 : dec m_Md_addMove 22 = .ok (.iload_n 1, 1) := by decide +kernel
theorem d_Md_addMove_23 : dec m_Md_addMove 23 = .ok (.iload_n 2, 1) := by decide +kernel
theorem d_Md_addMove_24 : dec m_Md_addMove 24 = .ok (.invokevirtual 61, 3) := by decide +kernel
theorem d_Md_addMove_27 : dec m_Md_addMove 27 = .ok (.bipush (-5), 2) := by decide +kernel
theorem d_Md_addMove_29 : dec m_Md_addMove 29 = .ok (.if_icmp .eq 6, 3) := by decide +kernel
theorem d_Md_addMove_32 : dec m_Md_addMove 32 = .ok (.bipush (-5), 2) := by decide +kernel
theorem d_Md_addMove_34 : dec m_Md_addMove 34 = .ok (.ireturn, 1) := by decide +kernel
theorem d_Md_addMove_35 : dec m_Md_addMove 35 = .ok (.aload_n 0, 1) := by decide +kernel
theorem d_Md_addMove_36 : dec m_Md_addMove 36 = .ok (.getfield 7, 3) := by decide +kernel
theorem d_Md_addMove_39 : dec m_Md_addMove 39 = .ok (.iconst 0, 1) := by decide +kernel
theorem d_Md_addMove_40 : dec m_Md_addMove 40 = .ok (.iaload, 1) := by decide +kernel
theorem d_Md_addMove_41 : dec m_Md_addMove 41 = .ok (.bipush 60, 2) := by decide +kernel
theorem d_Md_addMove_43 : dec m_Md_addMove 43 = .ok (.if_icmp .ne 6, 3) := by decide +kernel
theorem d_Md_addMove_46 : dec m_Md_addMove 46 = .ok (.bipush (-3), 2) := by decide +kernel
theorem d_Md_addMove_48 : dec m_Md_addMove 48 = .ok (.ireturn, 1) := by decide +kernel
theorem d_Md_addMove_49 : dec m_Md_addMove 49 = .ok (.aload_n 0, 1) := by decide +kernel
theorem d_Md_addMove_50 : dec m_Md_addMove 50 = .ok (.invokevirtual 55, 3) := by decide +kernel
theorem d_Md_addMove_53 : dec m_Md_addMove 53 = .ok (.aload_n 0, 1) := by decide +kernel
theorem d_Md_addMove_54 : dec m_Md_addMove 54 = .ok (.iload_n 1, 1) := by decide +kernel
theorem d_Md_addMove_55 : dec m_Md_addMove 55 = .ok (.iload_n 2, 1) := by decide +kernel
theorem d_Md_addMove_56 : dec m_Md_addMove 56 = .ok (.invokevirtual 64, 3) := by decide +kernel
theorem d_Md_addMove_59 : dec m_Md_addMove 59 = .ok (.aload_n 0, 1) := by decide +kernel
theorem d_Md_addMove_60 : dec m_Md_addMove 60 = .ok (.invokevirtual 58, 3) := by decide +kernel
theorem d_Md_addMove_63 : dec m_Md_addMove 63 = .ok (.aload_n 0, 1) := by decide +kernel
theorem d_Md_addMove_64 : dec m_Md_addMove 64 = .ok (.iload_n 1, 1) := by decide +kernel
theorem d_Md_addMove_65 : dec m_Md_addMove 65 = .ok (.invokevirtual 47, 3) := by decide +kernel
theorem d_Md_addMove_68 : dec m_Md_addMove 68 = .ok (.ireturn, 1) := by decide +kernel
theorem d_Md_removeMove_0 : dec m_Md_removeMove 0 = .ok (.aload_n 0, 1) := by decide +kernel
theorem d_Md_removeMove_1 : dec m_Md_removeMove 1 = .ok (.iconst 0, 1) := by decide +kernel
theorem d_Md_removeMove_2 : dec m_Md_removeMove 2 = .ok (.putfield 32, 3) := by decide +kernel
theorem d_Md_removeMove_5 : dec m_Md_removeMove 5 = .ok (.aload_n 0, 1) := by decide +kernel
theorem d_Md_removeMove_6 : dec m_Md_removeMove 6 = .ok (.iload_n 1, 1) := by decide +kernel
theorem d_Md_removeMove_7 : dec m_Md_removeMove 7 = .ok (.iload_n 2, 1) := by decide +kernel
theorem d_Md_removeMove_8 : dec m_Md_removeMove 8 = .ok (.invokevirtual 61, 3) := by decide +kernel
theorem d_Md_removeMove_11 : dec m_Md_removeMove 11 = .ok (.istore_n 3, 1) := by decide +kernel
theorem d_Md_removeMove_12 : dec m_Md_removeMove 12 = .ok (.iload_n 1, 1) := by decide +kernel
theorem d_Md_removeMove_13 : dec m_Md_removeMove 13 = .ok (.invokestatic 51, 3) := by decide +kernel
theorem d_Md_removeMove_16 : dec m_Md_removeMove 16 = .ok (.ifCond .eq 16, 3) := by decide +kernel
theorem d_Md_removeMove_19 : dec m_Md_removeMove 19 = .ok (.iload_n 2, 1) := by decide +kernel
theorem d_Md_removeMove_20 : dec m_Md_removeMove 20 = .ok (.invokestatic 51, 3) := by decide +kernel
theorem d_Md_removeMove_23 : dec m_Md_removeMove 23 = .ok (.ifCond .eq 9, 3) := by decide +kernel
theorem d_Md_removeMove_26 : dec m_Md_removeMove 26 = .ok (.iload_n 3, 1) := by decide +kernel
theorem d_Md_removeMove_27 : dec m_Md_removeMove 27 = .ok (.bipush (-5), 2) := by decide +kernel
theorem d_Md_removeMove_29 : dec m_Md_removeMove 29 = .ok (.if_icmp .ne 5, 3) := by decide +kernel
theorem d_Md_removeMove_32 : dec m_Md_removeMove 32 = .ok (.iconst (-1), 1) := by decide +kernel
theorem d_Md_removeMove_33 : dec m_Md_removeMove 33 = .ok (.ireturn, 1) := by decide +kernel
theorem d_Md_removeMove_34 : dec m_Md_removeMove 34 = .ok (.aload_n 0, 1) := by decide +kernel
theorem d_Md_removeMove_35 : dec m_Md_removeMove 35 = .ok (.invokevirtual 55, 3) := by decide +kernel
theorem d_Md_removeMove_38 : dec m_Md_removeMove 38 = .ok (.aload_n 0, 1) := by decide +kernel
theorem d_Md_removeMove_39 : dec m_Md_removeMove 39 = .ok (.getfield 7, 3) := by decide +kernel
theorem d_Md_removeMove_42 : dec m_Md_removeMove 42 = .ok (.iconst 0, 1) := by decide +kernel
theorem d_Md_removeMove_43 : dec m_Md_removeMove 43 = .ok (.dup2, 1) := by decide +kernel
theorem d_Md_removeMove_44 : dec m_Md_removeMove 44 = .ok (.iaload, 1) := by decide +kernel
theorem d_Md_removeMove_45 : dec m_Md_removeMove 45 = .ok (.iconst 1, 1) := by decide +kernel
theorem d_Md_removeMove_46 : dec m_Md_removeMove 46 = .ok (.isub, 1) := by decide +kernel
theorem d_Md_removeMove_47 : dec m_Md_removeMove 47 = .ok (.iastore, 1) := by decide +kernel
theorem d_Md_removeMove_48 : dec m_Md_removeMove 48 = .ok (.iconst 2, 1) := by decide +kernel
theorem d_Md_removeMove_49 : dec m_Md_removeMove 49 = .ok (.iload_n 3, 1) := by decide +kernel
theorem d_Md_removeMove_50 : dec m_Md_removeMove 50 = .ok (.imul, 1) := by decide +kernel
theorem d_Md_removeMove_51 : dec m_Md_removeMove 51 = .ok (.istore 4, 2) := by decide +kernel
theorem d_Md_removeMove_53 : dec m_Md_removeMove 53 = .ok (.iload 4, 2) := by decide +kernel
theorem d_Md_removeMove_55 : dec m_Md_removeMove 55 = .ok (.iconst 2, 1) := by decide +kernel
theorem d_Md_removeMove_56 : dec m_Md_removeMove 56 = .ok (.aload_n 0, 1) := by decide +kernel
theorem d_Md_removeMove_57 : dec m_Md_removeMove 57 = .ok (.getfield 7, 3) := by decide +kernel
theorem d_Md_removeMove_60 : dec m_Md_removeMove 60 = .ok (.iconst 0, 1) := by decide +kernel
theorem d_Md_removeMove_61 : dec m_Md_removeMove 61 = .ok (.iaload, 1) := by decide +kernel
theorem d_Md_removeMove_62 : dec m_Md_removeMove 62 = .ok (.imul, 1) := by decide +kernel
theorem d_Md_removeMove_63 : dec m_Md_removeMove 63 = .ok (.if_icmp .ge 31, 3) := by decide +kernel
theorem d_Md_removeMove_66 : dec m_Md_removeMove 66 = .ok (.aload_n 0, 1) := by decide +kernel
theorem d_Md_removeMove_67 : dec m_Md_removeMove 67 = .ok (.getfield 7, 3) := by decide +kernel
theorem d_Md_removeMove_70 : dec m_Md_removeMove 70 = .ok (.bipush 103, 2) := by decide +kernel
theorem d_Md_removeMove_72 : dec m_Md_removeMove 72 = .ok (.iload 4, 2) := by decide +kernel
theorem d_Md_removeMove_74 : dec m_Md_removeMove 74 = .ok (.iadd, 1) := by decide +kernel
theorem d_Md_removeMove_75 : dec m_Md_removeMove 75 = .ok (.aload_n 0, 1) := by decide +kernel
theorem d_Md_removeMove_76 : dec m_Md_removeMove 76 = .ok (.getfield 7, 3) := by decide +kernel
theorem d_Md_removeMove_79 : dec m_Md_removeMove 79 = .ok (.bipush 103, 2) := by decide +kernel
theorem d_Md_removeMove_81 : dec m_Md_removeMove 81 = .ok (.iload 4, 2) := by decide +kernel
theorem d_Md_removeMove_83 : dec m_Md_removeMove 83 = .ok (.iadd, 1) := by decide +kernel
theorem d_Md_removeMove_84 : dec m_Md_removeMove 84 = .ok (.iconst 2, 1) := by decide +kernel
theorem d_Md_removeMove_85 : dec m_Md_removeMove 85 = .ok (.iadd, 1) := by decide +kernel
theorem d_Md_removeMove_86 : dec m_Md_removeMove 86 = .ok (.iaload, 1) := by decide +kernel
theorem d_Md_removeMove_87 : dec m_Md_removeMove 87 = .ok (.iastore, 1) := by decide +kernel
theorem d_Md_removeMove_88 : dec m_Md_removeMove 88 = .ok (.iinc 4 1, 3) := by decide +kernel
theorem d_Md_removeMove_91 : dec m_Md_removeMove 91 = .ok (.goto (-38), 3) := by decide +kernel
theorem d_Md_removeMove_94 : dec m_Md_removeMove 94 = .ok (.aload_n 0, 1) := by decide +kernel
theorem d_Md_removeMove_95 : dec m_Md_removeMove 95 = .ok (.getfield 7, 3) := by decide +kernel
theorem d_Md_removeMove_98 : dec m_Md_removeMove 98 = .ok (.bipush 103, 2) := by decide +kernel
theorem d_Md_removeMove_100 : dec m_Md_removeMove 100 = .ok (.iconst 2, 1) := by decide +kernel
theorem d_Md_removeMove_101 : dec m_Md_removeMove 101 = .ok (.aload_n 0, 1) := by decide +kernel
theorem d_Md_removeMove_102 : dec m_Md_removeMove 102 = .ok (.getfield 7, 3) := by decide +kernel
theorem d_Md_removeMove_105 : dec m_Md_removeMove 105 = .ok (.iconst 0, 1) := by decide +kernel
theorem d_Md_removeMove_106 : dec m_Md_removeMove 106 = .ok (.iaload, 1) := by decide +kernel
theorem d_Md_removeMove_107 : dec m_Md_removeMove 107 = .ok (.imul, 1) := by decide +kernel
theorem d_Md_removeMove_108 : dec m_Md_removeMove 108 = .ok (.iadd, 1) := by decide +kernel
theorem d_Md_removeMove_109 : dec m_Md_removeMove 109 = .ok (.iconst 0, 1) := by decide +kernel
theorem d_Md_removeMove_110 : dec m_Md_removeMove 110 = .ok (.iastore, 1) := by decide +kernel
theorem d_Md_removeMove_111 : dec m_Md_removeMove 111 = .ok (.aload_n 0, 1) := by decide +kernel
theorem d_Md_removeMove_112 : dec m_Md_removeMove 112 = .ok (.getfield 7, 3) := by decide +kernel
theorem d_Md_removeMove_115 : dec m_Md_removeMove 115 = .ok (.bipush 103, 2) := by decide +kernel
theorem d_Md_removeMove_117 : dec m_Md_removeMove 117 = .ok (.iconst 2, 1) := by decide +kernel
theorem d_Md_removeMove_118 : dec m_Md_removeMove 118 = .ok (.aload_n 0, 1) := by decide +kernel
theorem d_Md_removeMove_119 : dec m_Md_removeMove 119 = .ok (.getfield 7, 3) := by decide +kernel
theorem d_Md_removeMove_122 : dec m_Md_removeMove 122 = .ok (.iconst 0, 1) := by decide +kernel
theorem d_Md_removeMove_123 : dec m_Md_removeMove 123 = .ok (.iaload, 1) := by decide +kernel
theorem d_Md_removeMove_124 : dec m_Md_removeMove 124 = .ok (.imul, 1) := by decide +kernel
theorem d_Md_removeMove_125 : dec m_Md_removeMove 125 = .ok (.iadd, 1) := by decide +kernel
theorem d_Md_removeMove_126 : dec m_Md_removeMove 126 = .ok (.iconst 1, 1) := by decide +kernel
theorem d_Md_removeMove_127 : dec m_Md_removeMove 127 = .ok (.iadd, 1) := by decide +kernel
theorem d_Md_removeMove_128 : dec m_Md_removeMove 128 = .ok (.iconst 0, 1) := by decide +kernel
theorem d_Md_removeMove_129 : dec m_Md_removeMove 129 = .ok (.iastore, 1) := by decide +kernel
theorem d_Md_removeMove_130 : dec m_Md_removeMove 130 = .ok (.aload_n 0, 1) := by decide +kernel
theorem d_Md_removeMove_131 : dec m_Md_removeMove 131 = .ok (.invokevirtual 58, 3) := by decide +kernel
theorem d_Md_removeMove_134 : dec m_Md_removeMove 134 = .ok (.aload_n 0, 1) := by decide +kernel
theorem d_Md_removeMove_135 : dec m_Md_removeMove 135 = .ok (.iload_n 1, 1) := by decide +kernel
theorem d_Md_removeMove_136 : dec m_Md_removeMove 136 = .ok (.invokevirtual 47, 3) := by decide +kernel
theorem d_Md_removeMove_139 : dec m_Md_removeMove 139 = .ok (.ireturn, 1) := by decide +kernel
theorem d_Md_isWonNow_0 : dec m_Md_isWonNow 0 = .ok (.aload_n 0, 1) := by decide +kernel
theorem d_Md_isWonNow_1 : dec m_Md_isWonNow 1 = .ok (.iload_n 1, 1) := by decide +kernel
theorem d_Md_isWonNow_2 : dec m_Md_isWonNow 2 = .ok (.invokevirtual 68, 3) := by decide +kernel
theorem d_Md_isWonNow_5 : dec m_Md_isWonNow 5 = .ok (.ifCond .eq 19, 3) := by decide +kernel
theorem d_Md_isWonNow_8 : dec m_Md_isWonNow 8 = .ok (.aload_n 0, 1) := by decide +kernel
theorem d_Md_isWonNow_9 : dec m_Md_isWonNow 9 = .ok (.iload_n 1, 1) := by decide +kernel
theorem d_Md_isWonNow_10 : dec m_Md_isWonNow 10 = .ok (.iconst 1, 1) := by decide +kernel
theorem d_Md_isWonNow_11 : dec m_Md_isWonNow 11 = .ok (.invokevirtual 43, 3) := by decide +kernel
theorem d_Md_isWonNow_14 : dec m_Md_isWonNow 14 = .ok (.iconst 1, 1) := by decide +kernel
theorem d_Md_isWonNow_15 : dec m_Md_isWonNow 15 = .ok (.if_icmp .ne 7, 3) := by decide +kernel
theorem d_Md_isWonNow_18 : dec m_Md_isWonNow 18 = .ok (.iconst 1, 1) := by decide +kernel
theorem d_Md_isWonNow_19 : dec m_Md_isWonNow 19 = .ok (.goto 4, 3) := by decide +kernel
theorem d_Md_isWonNow_22 : dec m_Md_isWonNow 22 = .ok (.iconst 0, 1) := by decide +kernel
theorem d_Md_isWonNow_23 : dec m_Md_isWonNow 23 = .ok (.ireturn, 1) := by decide +kernel
theorem d_Md_isWonNow_24 : dec m_Md_isWonNow 24 = .ok (.aload_n 0, 1) := by decide +kernel
theorem d_Md_isWonNow_25 : dec m_Md_isWonNow 25 = .ok (.iload_n 1, 1) := by decide +kernel
theorem d_Md_isWonNow_26 : dec m_Md_isWonNow 26 = .ok (.invokevirtual 47, 3) := by decide +kernel
theorem d_Md_isWonNow_29 : dec m_Md_isWonNow 29 = .ok (.istore_n 2, 1) := by decide +kernel
theorem d_Md_isWonNow_30 : dec m_Md_isWonNow 30 = .ok (.iconst 0, 1) := by decide +kernel
theorem d_Md_isWonNow_31 : dec m_Md_isWonNow 31 = .ok (.istore_n 3, 1) := by decide +kernel
theorem d_Md_isWonNow_32 : dec m_Md_isWonNow 32 = .ok (.iconst 0, 1) := by decide +kernel
theorem d_Md_isWonNow_33 : dec m_Md_isWonNow 33 = .ok (.istore 4, 2) := by decide +kernel
theorem d_Md_isWonNow_35 : dec m_Md_isWonNow 35 = .ok (.iload 4, 2) := by decide +kernel
theorem d_Md_isWonNow_37 : dec m_Md_isWonNow 37 = .ok (.iload_n 2, 1) := by decide +kernel
theorem d_Md_isWonNow_38 : dec m_Md_isWonNow 38 = .ok (.if_icmp .ge 32, 3) := by decide +kernel
theorem d_Md_isWonNow_41 : dec m_Md_isWonNow 41 = .ok (.iload_n 3, 1) := by decide +kernel
theorem d_Md_isWonNow_42 : dec m_Md_isWonNow 42 = .ok (.aload_n 0, 1) := by decide +kernel
theorem d_Md_isWonNow_43 : dec m_Md_isWonNow 43 = .ok (.getfield 22, 3) := by decide +kernel
theorem d_Md_isWonNow_46 : dec m_Md_isWonNow 46 = .ok (.aload_n 0, 1) := by decide +kernel
theorem d_Md_isWonNow_47 : dec m_Md_isWonNow 47 = .ok (.iload_n 1, 1) := by decide +kernel
theorem d_Md_isWonNow_48 : dec m_Md_isWonNow 48 = .ok (.iload 4, 2) := by decide +kernel
theorem d_Md_isWonNow_50 : dec m_Md_isWonNow 50 = .ok (.invokevirtual 71, 3) := by decide +kernel
theorem d_Md_isWonNow_53 : dec m_Md_isWonNow 53 = .ok (.iaload, 1) := by decide +kernel
theorem d_Md_isWonNow_54 : dec m_Md_isWonNow 54 = .ok (.ifCond .lt 7, 3) := by decide +kernel
theorem d_Md_isWonNow_57 : dec m_Md_isWonNow 57 = .ok (.iconst 1, 1) := by decide +kernel
theorem d_Md_isWonNow_58 : dec m_Md_isWonNow 58 = .ok (.goto 4, 3) := by decide +kernel
theorem d_Md_isWonNow_61 : dec m_Md_isWonNow 61 = .ok (.iconst 0, 1) := by decide +kernel
theorem d_Md_isWonNow_62 : dec m_Md_isWonNow 62 = .ok (.iadd, 1) := by decide +kernel
theorem d_Md_isWonNow_63 : dec m_Md_isWonNow 63 = .ok (.istore_n 3, 1) := by decide +kernel
theorem d_Md_isWonNow_64 : dec m_Md_isWonNow 64 = .ok (.iinc 4 1, 3) := by decide +kernel
theorem d_Md_isWonNow_67 : dec m_Md_isWonNow 67 = .ok (.goto (-32), 3) := by decide +kernel
theorem d_Md_isWonNow_70 : dec m_Md_isWonNow 70 = .ok (.aload_n 0, 1) := by decide +kernel
theorem d_Md_isWonNow_71 : dec m_Md_isWonNow 71 = .ok (.iload_n 1, 1) := by decide +kernel
theorem d_Md_isWonNow_72 : dec m_Md_isWonNow 72 = .ok (.iconst 0, 1) := by decide +kernel
theorem d_Md_isWonNow_73 : dec m_Md_isWonNow 73 = .ok (.invokevirtual 43, 3) := by decide +kernel
theorem d_Md_isWonNow_76 : dec m_Md_isWonNow 76 = .ok (.ifCond .ne 15, 3) := by decide +kernel
theorem d_Md_isWonNow_79 : dec m_Md_isWonNow 79 = .ok (.iload_n 3, 1) := by decide +kernel
theorem d_Md_isWonNow_80 : dec m_Md_isWonNow 80 = .ok (.ifCond .le 7, 3) := by decide +kernel
theorem d_Md_isWonNow_83 : dec m_Md_isWonNow 83 = .ok (.iconst 1, 1) := by decide +kernel
theorem d_Md_isWonNow_84 : dec m_Md_isWonNow 84 = .ok (.goto 17, 3) := by decide +kernel
theorem d_Md_isWonNow_87 : dec m_Md_isWonNow 87 = .ok (.iconst 0, 1) := by decide +kernel
theorem d_Md_isWonNow_88 : dec m_Md_isWonNow 88 = .ok (.goto 13, 3) := by decide +kernel
theorem d_Md_isWonNow_91 : dec m_Md_isWonNow 91 = .ok (.iload_n 3, 1) := by decide +kernel
theorem d_Md_isWonNow_92 : dec m_Md_isWonNow 92 = .ok (.iload_n 2, 1) := by decide +kernel
theorem d_Md_isWonNow_93 : dec m_Md_isWonNow 93 = .ok (.if_icmp .ne 7, 3) := by decide +kernel
theorem d_Md_isWonNow_96 : dec m_Md_isWonNow 96 = .ok (.iconst 1, 1) := by decide +kernel
theorem d_Md_isWonNow_97 : dec m_Md_isWonNow 97 = .ok (.goto 4, 3) := by decide +kernel
theorem d_Md_isWonNow_100 : dec m_Md_isWonNow 100 = .ok (.iconst 0, 1) := by decide +kernel
theorem d_Md_isWonNow_101 : dec m_Md_isWonNow 101 = .ok (.ireturn, 1) := by decide +kernel
theorem d_Md_laysRounds_0 : dec m_Md_laysRounds 0 = .ok (.iconst 0, 1) := by decide +kernel
theorem d_Md_laysRounds_1 : dec m_Md_laysRounds 1 = .ok (.istore_n 1, 1) := by decide +kernel
theorem d_Md_laysRounds_2 : dec m_Md_laysRounds 2 = .ok (.iload_n 1, 1) := by decide +kernel
theorem d_Md_laysRounds_3 : dec m_Md_laysRounds 3 = .ok (.bipush 20, 2) := by decide +kernel
theorem d_Md_laysRounds_5 : dec m_Md_laysRounds 5 = .ok (.if_icmp .ge 17, 3) := by decide +kernel
theorem d_Md_laysRounds_8 : dec m_Md_laysRounds 8 = .ok (.aload_n 0, 1) := by decide +kernel
theorem d_Md_laysRounds_9 : dec m_Md_laysRounds 9 = .ok (.getfield 22, 3) := by decide +kernel
theorem d_Md_laysRounds_12 : dec m_Md_laysRounds 12 = .ok (.iload_n 1, 1) := by decide +kernel
theorem d_Md_laysRounds_13 : dec m_Md_laysRounds 13 = .ok (.bipush (-5), 2) := by decide +kernel
theorem d_Md_laysRounds_15 : dec m_Md_laysRounds 15 = .ok (.iastore, 1) := by decide +kernel
theorem d_Md_laysRounds_16 : dec m_Md_laysRounds 16 = .ok (.iinc 1 1, 3) := by decide +kernel
theorem d_Md_laysRounds_19 : dec m_Md_laysRounds 19 = .ok (.goto (-17), 3) := by decide +kernel
theorem d_Md_laysRounds_22 : dec m_Md_laysRounds 22 = .ok (.iconst 0, 1) := by decide +kernel
theorem d_Md_laysRounds_23 : dec m_Md_laysRounds 23 = .ok (.istore_n 1, 1) := by decide +kernel
theorem d_Md_laysRounds_24 : dec m_Md_laysRounds 24 = .ok (.iconst 1, 1) := by decide +kernel
theorem d_Md_laysRounds_25 : dec m_Md_laysRounds 25 = .ok (.istore_n 2, 1) := by decide +kernel
theorem d_Md_laysRounds_26 : dec m_Md_laysRounds 26 = .ok (.iload_n 2, 1) := by decide +kernel
theorem d_Md_laysRounds_27 : dec m_Md_laysRounds 27 = .ok (.ifCond .gt 8, 3) := by decide +kernel
theorem d_Md_laysRounds_30 : dec m_Md_laysRounds 30 = .ok (.iload_n 1, 1) := by decide +kernel
theorem d_Md_laysRounds_31 : dec m_Md_laysRounds 31 = .ok (.iconst 1, 1) := by decide +kernel
theorem d_Md_laysRounds_32 : dec m_Md_laysRounds 32 = .ok (.if_icmp .ne 108, 3) := by decide +kernel
theorem d_Md_laysRounds_35 : dec m_Md_laysRounds 35 = .ok (.iconst 0, 1) := by decide +kernel
theorem d_Md_laysRounds_36 : dec m_Md_laysRounds 36 = .ok (.istore_n 2, 1) := by decide +kernel
theorem d_Md_laysRounds_37 : dec m_Md_laysRounds 37 = .ok (.iconst 0, 1) := by decide +kernel
theorem d_Md_laysRounds_38 : dec m_Md_laysRounds 38 = .ok (.istore_n 3, 1) := by decide +kernel
theorem d_Md_laysRounds_39 : dec m_Md_laysRounds 39 = .ok (.iload_n 3, 1) := by decide +kernel
theorem d_Md_laysRounds_40 : dec m_Md_laysRounds 40 = .ok (.bipush 20, 2) := by decide +kernel
theorem d_Md_laysRounds_42 : dec m_Md_laysRounds 42 = .ok (.if_icmp .ge 51, 3) := by decide +kernel
theorem d_Md_laysRounds_45 : dec m_Md_laysRounds 45 = .ok (.aload_n 0, 1) := by decide +kernel
theorem d_Md_laysRounds_46 : dec m_Md_laysRounds 46 = .ok (.getfield 22, 3) := by decide +kernel
theorem d_Md_laysRounds_49 : dec m_Md_laysRounds 49 = .ok (.iload_n 3, 1) := by decide +kernel
theorem d_Md_laysRounds_50 : dec m_Md_laysRounds 50 = .ok (.iaload, 1) := by decide +kernel
theorem d_Md_laysRounds_51 : dec m_Md_laysRounds 51 = .ok (.bipush (-5), 2) := by decide +kernel
theorem d_Md_laysRounds_53 : dec m_Md_laysRounds 53 = .ok (.if_icmp .ne 34, 3) := by decide +kernel
theorem d_Md_laysRounds_56 : dec m_Md_laysRounds 56 = .ok (.iload_n 1, 1) := by decide +kernel
theorem d_Md_laysRounds_57 : dec m_Md_laysRounds 57 = .ok (.ifCond .gt 11, 3) := by decide +kernel
theorem d_Md_laysRounds_60 : dec m_Md_laysRounds 60 = .ok (.aload_n 0, 1) := by decide +kernel
theorem d_Md_laysRounds_61 : dec m_Md_laysRounds 61 = .ok (.iload_n 3, 1) := by decide +kernel
theorem d_Md_laysRounds_62 : dec m_Md_laysRounds 62 = .ok (.invokevirtual 68, 3) := by decide +kernel
theorem d_Md_laysRounds_65 : dec m_Md_laysRounds 65 = .ok (.ifCond .eq 22, 3) := by decide +kernel
theorem d_Md_laysRounds_68 : dec m_Md_laysRounds 68 = .ok (.aload_n 0, 1) := by decide +kernel
theorem d_Md_laysRounds_69 : dec m_Md_laysRounds 69 = .ok (.iload_n 3, 1) := by decide +kernel
theorem d_Md_laysRounds_70 : dec m_Md_laysRounds 70 = .ok (.invokevirtual 74, 3) := by decide +kernel
theorem d_Md_laysRounds_73 : dec m_Md_laysRounds 73 = .ok (.ifCond .eq 14, 3) := by decide +kernel
theorem d_Md_laysRounds_76 : dec m_Md_laysRounds 76 = .ok (.aload_n 0, 1) := by decide +kernel
theorem d_Md_laysRounds_77 : dec m_Md_laysRounds 77 = .ok (.getfield 22, 3) := by decide +kernel
theorem d_Md_laysRounds_80 : dec m_Md_laysRounds 80 = .ok (.iload_n 3, 1) := by decide +kernel
theorem d_Md_laysRounds_81 : dec m_Md_laysRounds 81 = .ok (.bipush (-100), 2) := by decide +kernel
theorem d_Md_laysRounds_83 : dec m_Md_laysRounds 83 = .ok (.iastore, 1) := by decide +kernel
theorem d_Md_laysRounds_84 : dec m_Md_laysRounds 84 = .ok (.iinc 2 1, 3) := by decide +kernel
theorem d_Md_laysRounds_87 : dec m_Md_laysRounds 87 = .ok (.iinc 3 1, 3) := by decide +kernel
theorem d_Md_laysRounds_90 : dec m_Md_laysRounds 90 = .ok (.goto (-51), 3) := by decide +kernel
theorem d_Md_laysRounds_93 : dec m_Md_laysRounds 93 = .ok (.iconst 0, 1) := by decide +kernel
theorem d_Md_laysRounds_94 : dec m_Md_laysRounds 94 = .ok (.istore_n 3, 1) := by decide +kernel
theorem d_Md_laysRounds_95 : dec m_Md_laysRounds 95 = .ok (.iload_n 3, 1) := by decide +kernel
theorem d_Md_laysRounds_96 : dec m_Md_laysRounds 96 = .ok (.bipush 20, 2) := by decide +kernel
theorem d_Md_laysRounds_98 : dec m_Md_laysRounds 98 = .ok (.if_icmp .ge 36, 3) := by decide +kernel
theorem d_Md_laysRounds_101 : dec m_Md_laysRounds 101 = .ok (.aload_n 0, 1) := by decide +kernel
theorem d_Md_laysRounds_102 : dec m_Md_laysRounds 102 = .ok (.getfield 22, 3) := by decide +kernel
theorem d_Md_laysRounds_105 : dec m_Md_laysRounds 105 = .ok (.iload_n 3, 1) := by decide +kernel
theorem d_Md_laysRounds_106 : dec m_Md_laysRounds 106 = .ok (.aload_n 0, 1) := by decide +kernel
theorem d_Md_laysRounds_107 : dec m_Md_laysRounds 107 = .ok (.getfield 22, 3) := by decide +kernel
theorem d_Md_laysRounds_110 : dec m_Md_laysRounds 110 = .ok (.iload_n 3, 1) := by decide +kernel
theorem d_Md_laysRounds_111 : dec m_Md_laysRounds 111 = .ok (.iaload, 1) := by decide +kernel
theorem d_Md_laysRounds_112 : dec m_Md_laysRounds 112 = .ok (.bipush (-100), 2) := by decide +kernel
theorem d_Md_laysRounds_114 : dec m_Md_laysRounds 114 = .ok (.if_icmp .ne 7, 3) := by decide +kernel
theorem d_Md_laysRounds_117 : dec m_Md_laysRounds 117 = .ok (.iload_n 1, 1) := by decide +kernel
theorem d_Md_laysRounds_118 : dec m_Md_laysRounds 118 = .ok (.goto 9, 3) := by decide +kernel
theorem d_Md_laysRounds_121 : dec m_Md_laysRounds 121 = .ok (.aload_n 0, 1) := by decide +kernel
theorem d_Md_laysRounds_122 : dec m_Md_laysRounds 122 = .ok (.getfield 22, 3) := by decide +kernel
theorem d_Md_laysRounds_125 : dec m_Md_laysRounds 125 = .ok (.iload_n 3, 1) := by decide +kernel
theorem d_Md_laysRounds_126 : dec m_Md_laysRounds 126 = .ok (.iaload, 1) := by decide +kernel
theorem d_Md_laysRounds_127 : dec m_Md_laysRounds 127 = .ok (.iastore, 1) := by decide +kernel
theorem d_Md_laysRounds_128 : dec m_Md_laysRounds 128 = .ok (.iinc 3 1, 3) := by decide +kernel
theorem d_Md_laysRounds_131 : dec m_Md_laysRounds 131 = .ok (.goto (-36), 3) := by decide +kernel
theorem d_Md_laysRounds_134 : dec m_Md_laysRounds 134 = .ok (.iinc 1 1, 3) := by decide +kernel
theorem d_Md_laysRounds_137 : dec m_Md_laysRounds 137 = .ok (.goto (-111), 3) := by decide +kernel
theorem d_Md_laysRounds_140 : dec m_Md_laysRounds 140 = .ok (.return_, 1) := by decide +kernel
theorem d_Md_wonMany_0 : dec m_Md_wonMany 0 = .ok (.aload_n 0, 1) := by decide +kernel
theorem d_Md_wonMany_1 : dec m_Md_wonMany 1 = .ok (.invokevirtual 77, 3) := by decide +kernel
theorem d_Md_wonMany_4 : dec m_Md_wonMany 4 = .ok (.iconst 0, 1) := by decide +kernel
theorem d_Md_wonMany_5 : dec m_Md_wonMany 5 = .ok (.istore_n 1, 1) := by decide +kernel
theorem d_Md_wonMany_6 : dec m_Md_wonMany 6 = .ok (.iconst 0, 1) := by decide +kernel
theorem d_Md_wonMany_7 : dec m_Md_wonMany 7 = .ok (.istore_n 2, 1) := by decide +kernel
theorem d_Md_wonMany_8 : dec m_Md_wonMany 8 = .ok (.iload_n 2, 1) := by decide +kernel
theorem d_Md_wonMany_9 : dec m_Md_wonMany 9 = .ok (.bipush 20, 2) := by decide +kernel
theorem d_Md_wonMany_11 : dec m_Md_wonMany 11 = .ok (.if_icmp .ge 26, 3) := by decide +kernel
theorem d_Md_wonMany_14 : dec m_Md_wonMany 14 = .ok (.iload_n 1, 1) := by decide +kernel
theorem d_Md_wonMany_15 : dec m_Md_wonMany 15 = .ok (.aload_n 0, 1) := by decide +kernel
theorem d_Md_wonMany_16 : dec m_Md_wonMany 16 = .ok (.getfield 22, 3) := by decide +kernel
theorem d_Md_wonMany_19 : dec m_Md_wonMany 19 = .ok (.iload_n 2, 1) := by decide +kernel
theorem d_Md_wonMany_20 : dec m_Md_wonMany 20 = .ok (.iaload, 1) := by decide +kernel
theorem d_Md_wonMany_21 : dec m_Md_wonMany 21 = .ok (.ifCond .lt 7, 3) := by decide +kernel
theorem d_Md_wonMany_24 : dec m_Md_wonMany 24 = .ok (.iconst 1, 1) := by decide +kernel
theorem d_Md_wonMany_25 : dec m_Md_wonMany 25 = .ok (.goto 4, 3) := by decide +kernel
theorem d_Md_wonMany_28 : dec m_Md_wonMany 28 = .ok (.iconst 0, 1) := by decide +kernel
theorem d_Md_wonMany_29 : dec m_Md_wonMany 29 = .ok (.iadd, 1) := by decide +kernel
theorem d_Md_wonMany_30 : dec m_Md_wonMany 30 = .ok (.istore_n 1, 1) := by decide +kernel
theorem d_Md_wonMany_31 : dec m_Md_wonMany 31 = .ok (.iinc 2 1, 3) := by decide +kernel
theorem d_Md_wonMany_34 : dec m_Md_wonMany 34 = .ok (.goto (-26), 3) := by decide +kernel
theorem d_Md_wonMany_37 : dec m_Md_wonMany 37 = .ok (.iload_n 1, 1) := by decide +kernel
theorem d_Md_wonMany_38 : dec m_Md_wonMany 38 = .ok (.ireturn, 1) := by decide +kernel
theorem d_Md_depthOf_0 : dec m_Md_depthOf 0 = .ok (.iconst 0, 1) := by decide +kernel
theorem d_Md_depthOf_1 : dec m_Md_depthOf 1 = .ok (.istore_n 2, 1) := by decide +kernel
theorem d_Md_depthOf_2 : dec m_Md_depthOf 2 = .ok (.aload_n 0, 1) := by decide +kernel
theorem d_Md_depthOf_3 : dec m_Md_depthOf 3 = .ok (.iload_n 1, 1) := by decide +kernel
theorem d_Md_depthOf_4 : dec m_Md_depthOf 4 = .ok (.iconst 1, 1) := by decide +kernel
theorem d_Md_depthOf_5 : dec m_Md_depthOf 5 = .ok (.invokevirtual 80, 3) := by decide +kernel
theorem d_Md_depthOf_8 : dec m_Md_depthOf 8 = .ok (.istore_n 3, 1) := by decide +kernel
theorem d_Md_depthOf_9 : dec m_Md_depthOf 9 = .ok (.iload_n 3, 1) := by decide +kernel
theorem d_Md_depthOf_10 : dec m_Md_depthOf 10 = .ok (.bipush (-5), 2) := by decide +kernel
theorem d_Md_depthOf_12 : dec m_Md_depthOf 12 = .ok (.if_icmp .eq 16, 3) := by decide +kernel
theorem d_Md_depthOf_15 : dec m_Md_depthOf 15 = .ok (.iinc 2 1, 3) := by decide +kernel
theorem d_Md_depthOf_18 : dec m_Md_depthOf 18 = .ok (.aload_n 0, 1) := by decide +kernel
theorem d_Md_depthOf_19 : dec m_Md_depthOf 19 = .ok (.iload_n 3, 1) := by decide +kernel
theorem d_Md_depthOf_20 : dec m_Md_depthOf 20 = .ok (.iconst 1, 1) := by decide +kernel
theorem d_Md_depthOf_21 : dec m_Md_depthOf 21 = .ok (.invokevirtual 80, 3) := by decide +kernel
theorem d_Md_depthOf_24 : dec m_Md_depthOf 24 = .ok (.istore_n 3, 1) := by decide +kernel
theorem d_Md_depthOf_25 : dec m_Md_depthOf 25 = .ok (.goto (-16), 3) := by decide +kernel
theorem d_Md_depthOf_28 : dec m_Md_depthOf 28 = .ok (.iload_n 2, 1) := by decide +kernel
theorem d_Md_depthOf_29 : dec m_Md_depthOf 29 = .ok (.ireturn, 1) := by decide +kernel
theorem d_Md_isOnWay_0 : dec m_Md_isOnWay 0 = .ok (.iconst 0, 1) := by decide +kernel
theorem d_Md_isOnWay_1 : dec m_Md_isOnWay 1 = .ok (.istore_n 3, 1) := by decide +kernel
theorem d_Md_isOnWay_2 : dec m_Md_isOnWay 2 = .ok (.iload_n 2, 1) := by decide +kernel
theorem d_Md_isOnWay_3 : dec m_Md_isOnWay 3 = .ok (.istore 4, 2) := by decide +kernel
theorem d_Md_isOnWay_5 : dec m_Md_isOnWay 5 = .ok (.iload 4, 2) := by decide +kernel
theorem d_Md_isOnWay_7 : dec m_Md_isOnWay 7 = .ok (.bipush (-5), 2) := by decide +kernel
theorem d_Md_isOnWay_9 : dec m_Md_isOnWay 9 = .ok (.if_icmp .eq 36, 3) := by decide +kernel
theorem d_Md_isOnWay_12 : dec m_Md_isOnWay 12 = .ok (.iload_n 3, 1) := by decide +kernel
theorem d_Md_isOnWay_13 : dec m_Md_isOnWay 13 = .ok (.ifCond .ne 14, 3) := by decide +kernel
theorem d_Md_isOnWay_16 : dec m_Md_isOnWay 16 = .ok (.aload_n 0, 1) := by decide +kernel
theorem d_Md_isOnWay_17 : dec m_Md_isOnWay 17 = .ok (.iload 4, 2) := by decide +kernel
theorem d_Md_isOnWay_19 : dec m_Md_isOnWay 19 = .ok (.iconst 0, 1) := by decide +kernel
theorem d_Md_isOnWay_20 : dec m_Md_isOnWay 20 = .ok (.invokevirtual 80, 3) := by decide +kernel
theorem d_Md_isOnWay_23 : dec m_Md_isOnWay 23 = .ok (.iload_n 1, 1) := by decide +kernel
theorem d_Md_isOnWay_24 : dec m_Md_isOnWay 24 = .ok (.if_icmp .ne 7, 3) := by decide +kernel
theorem d_Md_isOnWay_27 : dec m_Md_isOnWay 27 = .ok (.iconst 1, 1) := by decide +kernel
theorem d_Md_isOnWay_28 : dec m_Md_isOnWay 28 = .ok (.goto 4, 3) := by decide +kernel
theorem d_Md_isOnWay_31 : dec m_Md_isOnWay 31 = .ok (.iconst 0, 1) := by decide +kernel
theorem d_Md_isOnWay_32 : dec m_Md_isOnWay 32 = .ok (.istore_n 3, 1) := by decide +kernel
theorem d_Md_isOnWay_33 : dec m_Md_isOnWay 33 = .ok (.aload_n 0, 1) := by decide +kernel
theorem d_Md_isOnWay_34 : dec m_Md_isOnWay 34 = .ok (.iload 4, 2) := by decide +kernel
theorem d_Md_isOnWay_36 : dec m_Md_isOnWay 36 = .ok (.iconst 1, 1) := by decide +kernel
theorem d_Md_isOnWay_37 : dec m_Md_isOnWay 37 = .ok (.invokevirtual 80, 3) := by decide +kernel
theorem d_Md_isOnWay_40 : dec m_Md_isOnWay 40 = .ok (.istore 4, 2) := by decide +kernel
theorem d_Md_isOnWay_42 : dec m_Md_isOnWay 42 = .ok (.goto (-37), 3) := by decide +kernel
theorem d_Md_isOnWay_45 : dec m_Md_isOnWay 45 = .ok (.iload_n 3, 1) := by decide +kernel
theorem d_Md_isOnWay_46 : dec m_Md_isOnWay 46 = .ok (.ireturn, 1) := by decide +kernel
theorem d_Md_makes_0 : dec m_Md_makes 0 = .ok (.aload_n 0, 1) := by decide +kernel
theorem d_Md_makes_1 : dec m_Md_makes 1 = .ok (.getfield 7, 3) := by decide +kernel
theorem d_Md_makes_4 : dec m_Md_makes 4 = .ok (.iconst 1, 1) := by decide +kernel
theorem d_Md_makes_5 : dec m_Md_makes 5 = .ok (.iaload, 1) := by decide +kernel
theorem d_Md_makes_6 : dec m_Md_makes 6 = .ok (.istore_n 3, 1) := by decide +kernel
theorem d_Md_makes_7 : dec m_Md_makes 7 = .ok (.aload_n 0, 1) := by decide +kernel
theorem d_Md_makes_8 : dec m_Md_makes 8 = .ok (.iload_n 1, 1) := by decide +kernel
theorem d_Md_makes_9 : dec m_Md_makes 9 = .ok (.invokevirtual 68, 3) := by decide +kernel
theorem d_Md_makes_12 : dec m_Md_makes 12 = .ok (.ifCond .eq 17, 3) := by decide +kernel
theorem d_Md_makes_15 : dec m_Md_makes 15 = .ok (.aload_n 0, 1) := by decide +kernel
theorem d_Md_makes_16 : dec m_Md_makes 16 = .ok (.iload_n 1, 1) := by decide +kernel
theorem d_Md_makes_17 : dec m_Md_makes 17 = .ok (.iconst 1, 1) := by decide +kernel
theorem d_Md_makes_18 : dec m_Md_makes 18 = .ok (.invokevirtual 43, 3) := by decide +kernel
theorem d_Md_makes_21 : dec m_Md_makes 21 = .ok (.iconst 1, 1) := by decide +kernel
theorem d_Md_makes_22 : dec m_Md_makes 22 = .ok (.if_icmp .ne 7, 3) := by decide +kernel
theorem d_Md_makes_25 : dec m_Md_makes 25 = .ok (.iconst 1, 1) := by decide +kernel
theorem d_Md_makes_26 : dec m_Md_makes 26 = .ok (.goto 4, 3) := by decide +kernel
theorem d_Md_makes_29 : dec m_Md_makes 29 = .ok (.iconst 0, 1) := by decide +kernel
theorem d_Md_makes_30 : dec m_Md_makes 30 = .ok (.istore 4, 2) := by decide +kernel
theorem d_Md_makes_32 : dec m_Md_makes 32 = .ok (.aload_n 0, 1) := by decide +kernel
theorem d_Md_makes_33 : dec m_Md_makes 33 = .ok (.iload_n 1, 1) := by decide +kernel
theorem d_Md_makes_34 : dec m_Md_makes 34 = .ok (.invokevirtual 68, 3) := by decide +kernel
theorem d_Md_makes_37 : dec m_Md_makes 37 = .ok (.ifCond .ne 16, 3) := by decide +kernel
theorem d_Md_makes_40 : dec m_Md_makes 40 = .ok (.aload_n 0, 1) := by decide +kernel
theorem d_Md_makes_41 : dec m_Md_makes 41 = .ok (.iload_n 1, 1) := by decide +kernel
theorem d_Md_makes_42 : dec m_Md_makes 42 = .ok (.iload_n 2, 1) := by decide +kernel
theorem d_Md_makes_43 : dec m_Md_makes 43 = .ok (.invokevirtual 83, 3) := by decide +kernel
theorem d_Md_makes_46 : dec m_Md_makes 46 = .ok (.ifCond .eq 7, 3) := by decide +kernel
theorem d_Md_makes_49 : dec m_Md_makes 49 = .ok (.iconst 1, 1) := by decide +kernel
theorem d_Md_makes_50 : dec m_Md_makes 50 = .ok (.goto 4, 3) := by decide +kernel
theorem d_Md_makes_53 : dec m_Md_makes 53 = .ok (.iconst 0, 1) := by decide +kernel
theorem d_Md_makes_54 : dec m_Md_makes 54 = .ok (.istore 5, 2) := by decide +kernel
theorem d_Md_makes_56 : dec m_Md_makes 56 = .ok (.iload 5, 2) := by decide +kernel
theorem d_Md_makes_58 : dec m_Md_makes 58 = .ok (.ifCond .ne 16, 3) := by decide +kernel
theorem d_Md_makes_61 : dec m_Md_makes 61 = .ok (.aload_n 0, 1) := by decide +kernel
theorem d_Md_makes_62 : dec m_Md_makes 62 = .ok (.iload_n 1, 1) := by decide +kernel
theorem d_Md_makes_63 : dec m_Md_makes 63 = .ok (.invokevirtual 68, 3) := by decide +kernel
theorem d_Md_makes_66 : dec m_Md_makes 66 = .ok (.ifCond .eq 12, 3) := by decide +kernel
theorem d_Md_makes_69 : dec m_Md_makes 69 = .ok (.iload 4, 2) := by decide +kernel
theorem d_Md_makes_71 : dec m_Md_makes 71 = .ok (.ifCond .ne 7, 3) := by decide +kernel
theorem d_Md_makes_74 : dec m_Md_makes 74 = .ok (.iconst 1, 1) := by decide +kernel
theorem d_Md_makes_75 : dec m_Md_makes 75 = .ok (.goto 4, 3) := by decide +kernel
theorem d_Md_makes_78 : dec m_Md_makes 78 = .ok (.iconst 0, 1) := by decide +kernel
theorem d_Md_makes_79 : dec m_Md_makes 79 = .ok (.istore 6, 2) := by decide +kernel
theorem d_Md_makes_81 : dec m_Md_makes 81 = .ok (.aload_n 0, 1) := by decide +kernel
theorem d_Md_makes_82 : dec m_Md_makes 82 = .ok (.iload_n 3, 1) := by decide +kernel
theorem d_Md_makes_83 : dec m_Md_makes 83 = .ok (.iconst 0, 1) := by decide +kernel
theorem d_Md_makes_84 : dec m_Md_makes 84 = .ok (.iload_n 1, 1) := by decide +kernel
theorem d_Md_makes_85 : dec m_Md_makes 85 = .ok (.invokevirtual 87, 3) := by decide +kernel
theorem d_Md_makes_88 : dec m_Md_makes 88 = .ok (.aload_n 0, 1) := by decide +kernel
theorem d_Md_makes_89 : dec m_Md_makes 89 = .ok (.iload_n 3, 1) := by decide +kernel
theorem d_Md_makes_90 : dec m_Md_makes 90 = .ok (.iconst 1, 1) := by decide +kernel
theorem d_Md_makes_91 : dec m_Md_makes 91 = .ok (.iload_n 2, 1) := by decide +kernel
theorem d_Md_makes_92 : dec m_Md_makes 92 = .ok (.invokevirtual 87, 3) := by decide +kernel
theorem d_Md_makes_95 : dec m_Md_makes 95 = .ok (.aload_n 0, 1) := by decide +kernel
theorem d_Md_makes_96 : dec m_Md_makes 96 = .ok (.iload_n 3, 1) := by decide +kernel
theorem d_Md_makes_97 : dec m_Md_makes 97 = .ok (.iconst 2, 1) := by decide +kernel
theorem d_Md_makes_98 : dec m_Md_makes 98 = .ok (.iload 4, 2) := by decide +kernel
theorem d_Md_makes_100 : dec m_Md_makes 100 = .ok (.ifCond .eq 7, 3) := by decide +kernel
theorem d_Md_makes_103 : dec m_Md_makes 103 = .ok (.iconst 0, 1) := by decide +kernel
theorem d_Md_makes_104 : dec m_Md_makes 104 = .ok (.goto 20, 3) := by decide +kernel
theorem d_Md_makes_107 : dec m_Md_makes 107 = .ok (.iload 6, 2) := by decide +kernel
theorem d_Md_makes_109 : dec m_Md_makes 109 = .ok (.ifCond .eq 9, 3) := by decide +kernel
theorem d_Md_makes_112 : dec m_Md_makes 112 = .ok (.sipush 9999, 3) := by decide +kernel
theorem d_Md_makes_115 : dec m_Md_makes 115 = .ok (.goto 9, 3) := by decide +kernel
theorem d_Md_makes_118 : dec m_Md_makes 118 = .ok (.aload_n 0, 1) := by decide +kernel
theorem d_Md_makes_119 : dec m_Md_makes 119 = .ok (.iload_n 1, 1) := by decide +kernel
theorem d_Md_makes_120 : dec m_Md_makes 120 = .ok (.iconst 2, 1) := by decide +kernel
theorem d_Md_makes_121 : dec m_Md_makes 121 = .ok (.invokevirtual 43, 3) := by decide +kernel
theorem d_Md_makes_124 : dec m_Md_makes 124 = .ok (.invokevirtual 87, 3) := by decide +kernel
theorem d_Md_makes_127 : dec m_Md_makes 127 = .ok (.aload_n 0, 1) := by decide +kernel
theorem d_Md_makes_128 : dec m_Md_makes 128 = .ok (.iload_n 3, 1) := by decide +kernel
theorem d_Md_makes_129 : dec m_Md_makes 129 = .ok (.iconst 3, 1) := by decide +kernel
theorem d_Md_makes_130 : dec m_Md_makes 130 = .ok (.iload 4, 2) := by decide +kernel
theorem d_Md_makes_132 : dec m_Md_makes 132 = .ok (.ifCond .eq 9, 3) := by decide +kernel
theorem d_Md_makes_135 : dec m_Md_makes 135 = .ok (.sipush 9999, 3) := by decide +kernel
theorem d_Md_makes_138 : dec m_Md_makes 138 = .ok (.goto 18, 3) := by decide +kernel
theorem d_Md_makes_141 : dec m_Md_makes 141 = .ok (.iload 6, 2) := by decide +kernel
theorem d_Md_makes_143 : dec m_Md_makes 143 = .ok (.ifCond .eq 7, 3) := by decide +kernel
theorem d_Md_makes_146 : dec m_Md_makes 146 = .ok (.iconst 0, 1) := by decide +kernel
theorem d_Md_makes_147 : dec m_Md_makes 147 = .ok (.goto 9, 3) := by decide +kernel
theorem d_Md_makes_150 : dec m_Md_makes 150 = .ok (.aload_n 0, 1) := by decide +kernel
theorem d_Md_makes_151 : dec m_Md_makes 151 = .ok (.iload_n 1, 1) := by decide +kernel
theorem d_Md_makes_152 : dec m_Md_makes 152 = .ok (.iconst 3, 1) := by decide +kernel
theorem d_Md_makes_153 : dec m_Md_makes 153 = .ok (.invokevirtual 43, 3) := by decide +kernel
theorem d_Md_makes_156 : dec m_Md_makes 156 = .ok (.invokevirtual 87, 3) := by decide +kernel
theorem d_Md_makes_159 : dec m_Md_makes 159 = .ok (.aload_n 0, 1) := by decide +kernel
theorem d_Md_makes_160 : dec m_Md_makes 160 = .ok (.iload_n 3, 1) := by decide +kernel
theorem d_Md_makes_161 : dec m_Md_makes 161 = .ok (.iconst 4, 1) := by decide +kernel
theorem d_Md_makes_162 : dec m_Md_makes 162 = .ok (.iconst 0, 1) := by decide +kernel
theorem d_Md_makes_163 : dec m_Md_makes 163 = .ok (.invokevirtual 87, 3) := by decide +kernel
theorem d_Md_makes_166 : dec m_Md_makes 166 = .ok (.aload_n 0, 1) := by decide +kernel
theorem d_Md_makes_167 : dec m_Md_makes 167 = .ok (.iload_n 3, 1) := by decide +kernel
theorem d_Md_makes_168 : dec m_Md_makes 168 = .ok (.iconst 5, 1) := by decide +kernel
theorem d_Md_makes_169 : dec m_Md_makes 169 = .ok (.bipush (-5), 2) := by decide +kernel
theorem d_Md_makes_171 : dec m_Md_makes 171 = .ok (.invokevirtual 87, 3) := by decide +kernel
theorem d_Md_makes_174 : dec m_Md_makes 174 = .ok (.aload_n 0, 1) := by decide +kernel
theorem d_Md_makes_175 : dec m_Md_makes 175 = .ok (.iload_n 3, 1) := by decide +kernel
theorem d_Md_makes_176 : dec m_Md_makes 176 = .ok (.bipush 6, 2) := by decide +kernel
theorem d_Md_makes_178 : dec m_Md_makes 178 = .ok (.iload 5, 2) := by decide +kernel
theorem d_Md_makes_180 : dec m_Md_makes 180 = .ok (.ifCond .eq 7, 3) := by decide +kernel
theorem d_Md_makes_183 : dec m_Md_makes 183 = .ok (.iconst 1, 1) := by decide +kernel
theorem d_Md_makes_184 : dec m_Md_makes 184 = .ok (.goto 4, 3) := by decide +kernel
theorem d_Md_makes_187 : dec m_Md_makes 187 = .ok (.iconst 0, 1) := by decide +kernel
theorem d_Md_makes_188 : dec m_Md_makes 188 = .ok (.invokevirtual 87, 3) := by decide +kernel
theorem d_Md_makes_191 : dec m_Md_makes 191 = .ok (.aload_n 0, 1) := by decide +kernel
theorem d_Md_makes_192 : dec m_Md_makes 192 = .ok (.getfield 7, 3) := by decide +kernel
theorem d_Md_makes_195 : dec m_Md_makes 195 = .ok (.iconst 1, 1) := by decide +kernel
theorem d_Md_makes_196 : dec m_Md_makes 196 = .ok (.dup2, 1) := by decide +kernel
theorem d_Md_makes_197 : dec m_Md_makes 197 = .ok (.iaload, 1) := by decide +kernel
theorem d_Md_makes_198 : dec m_Md_makes 198 = .ok (.iconst 1, 1) := by decide +kernel
theorem d_Md_makes_199 : dec m_Md_makes 199 = .ok (.iadd, 1) := by decide +kernel
theorem d_Md_makes_200 : dec m_Md_makes 200 = .ok (.iastore, 1) := by decide +kernel
theorem d_Md_makes_201 : dec m_Md_makes 201 = .ok (.return_, 1) := by decide +kernel
theorem d_Md_isDecided_0 : dec m_Md_isDecided 0 = .ok (.aload_n 0, 1) := by decide +kernel
theorem d_Md_isDecided_1 : dec m_Md_isDecided 1 = .ok (.iconst 0, 1) := by decide +kernel
theorem d_Md_isDecided_2 : dec m_Md_isDecided 2 = .ok (.iconst 2, 1) := by decide +kernel
theorem d_Md_isDecided_3 : dec m_Md_isDecided 3 = .ok (.invokevirtual 80, 3) := by decide +kernel
theorem d_Md_isDecided_6 : dec m_Md_isDecided 6 = .ok (.ifCond .eq 12, 3) := by decide +kernel
theorem d_Md_isDecided_9 : dec m_Md_isDecided 9 = .ok (.aload_n 0, 1) := by decide +kernel
theorem d_Md_isDecided_10 : dec m_Md_isDecided 10 = .ok (.iconst 0, 1) := by decide +kernel
theorem d_Md_isDecided_11 : dec m_Md_isDecided 11 = .ok (.iconst 3, 1) := by decide +kernel
theorem d_Md_isDecided_12 : dec m_Md_isDecided 12 = .ok (.invokevirtual 80, 3) := by decide +kernel
theorem d_Md_isDecided_15 : dec m_Md_isDecided 15 = .ok (.ifCond .ne 7, 3) := by decide +kernel
theorem d_Md_isDecided_18 : dec m_Md_isDecided 18 = .ok (.iconst 1, 1) := by decide +kernel
theorem d_Md_isDecided_19 : dec m_Md_isDecided 19 = .ok (.goto 4, 3) := by decide +kernel
theorem d_Md_isDecided_22 : dec m_Md_isDecided 22 = .ok (.iconst 0, 1) := by decide +kernel
theorem d_Md_isDecided_23 : dec m_Md_isDecided 23 = .ok (.ireturn, 1) := by decide +kernel
theorem d_Md_turnOf_0 : dec m_Md_turnOf 0 = .ok (.aload_n 0, 1) := by decide +kernel
theorem d_Md_turnOf_1 : dec m_Md_turnOf 1 = .ok (.aload_n 0, 1) := by decide +kernel
theorem d_Md_turnOf_2 : dec m_Md_turnOf 2 = .ok (.iload_n 1, 1) := by decide +kernel
theorem d_Md_turnOf_3 : dec m_Md_turnOf 3 = .ok (.iconst 0, 1) := by decide +kernel
theorem d_Md_turnOf_4 : dec m_Md_turnOf 4 = .ok (.invokevirtual 80, 3) := by decide +kernel
theorem d_Md_turnOf_7 : dec m_Md_turnOf 7 = .ok (.iconst 0, 1) := by decide +kernel
theorem d_Md_turnOf_8 : dec m_Md_turnOf 8 = .ok (.invokevirtual 43, 3) := by decide +kernel
theorem d_Md_turnOf_11 : dec m_Md_turnOf 11 = .ok (.ireturn, 1) := by decide +kernel
theorem d_Md_cheapest_0 : dec m_Md_cheapest 0 = .ok (.aload_n 0, 1) := by decide +kernel
theorem d_Md_cheapest_1 : dec m_Md_cheapest 1 = .ok (.iload_n 1, 1) := by decide +kernel
theorem d_Md_cheapest_2 : dec m_Md_cheapest 2 = .ok (.iconst 5, 1) := by decide +kernel
theorem d_Md_cheapest_3 : dec m_Md_cheapest 3 = .ok (.invokevirtual 80, 3) := by decide +kernel
theorem d_Md_cheapest_6 : dec m_Md_cheapest 6 = .ok (.istore_n 3, 1) := by decide +kernel
theorem d_Md_cheapest_7 : dec m_Md_cheapest 7 = .ok (.iconst 1, 1) := by decide +kernel
theorem d_Md_cheapest_8 : dec m_Md_cheapest 8 = .ok (.istore 4, 2) := by decide +kernel
theorem d_Md_cheapest_10 : dec m_Md_cheapest 10 = .ok (.iload 4, 2) := by decide +kernel
theorem d_Md_cheapest_12 : dec m_Md_cheapest 12 = .ok (.aload_n 0, 1) := by decide +kernel
theorem d_Md_cheapest_13 : dec m_Md_cheapest 13 = .ok (.iload_n 1, 1) := by decide +kernel
theorem d_Md_cheapest_14 : dec m_Md_cheapest 14 = .ok (.iconst 4, 1) := by decide +kernel
theorem d_Md_cheapest_15 : dec m_Md_cheapest 15 = .ok (.invokevirtual 80, 3) := by decide +kernel
theorem d_Md_cheapest_18 : dec m_Md_cheapest 18 = .ok (.if_icmp .ge 43, 3) := by decide +kernel
theorem d_Md_cheapest_21 : dec m_Md_cheapest 21 = .ok (.aload_n 0, 1) := by decide +kernel
theorem d_Md_cheapest_22 : dec m_Md_cheapest 22 = .ok (.iload_n 1, 1) := by decide +kernel
theorem d_Md_cheapest_23 : dec m_Md_cheapest 23 = .ok (.iconst 5, 1) := by decide +kernel
theorem d_Md_cheapest_24 : dec m_Md_cheapest 24 = .ok (.invokevirtual 80, 3) := by decide +kernel
theorem d_Md_cheapest_27 : dec m_Md_cheapest 27 = .ok (.iload 4, 2) := by decide +kernel
theorem d_Md_cheapest_29 : dec m_Md_cheapest 29 = .ok (.iadd, 1) := by decide +kernel
theorem d_Md_cheapest_30 : dec m_Md_cheapest 30 = .ok (.istore 5, 2) := by decide +kernel
theorem d_Md_cheapest_32 : dec m_Md_cheapest 32 = .ok (.aload_n 0, 1) := by decide +kernel
theorem d_Md_cheapest_33 : dec m_Md_cheapest 33 = .ok (.iload 5, 2) := by decide +kernel
theorem d_Md_cheapest_35 : dec m_Md_cheapest 35 = .ok (.iload_n 2, 1) := by decide +kernel
theorem d_Md_cheapest_36 : dec m_Md_cheapest 36 = .ok (.invokevirtual 80, 3) := by decide +kernel
theorem d_Md_cheapest_39 : dec m_Md_cheapest 39 = .ok (.aload_n 0, 1) := by decide +kernel
theorem d_Md_cheapest_40 : dec m_Md_cheapest 40 = .ok (.iload_n 3, 1) := by decide +kernel
theorem d_Md_cheapest_41 : dec m_Md_cheapest 41 = .ok (.iload_n 2, 1) := by decide +kernel
theorem d_Md_cheapest_42 : dec m_Md_cheapest 42 = .ok (.invokevirtual 80, 3) := by decide +kernel
theorem d_Md_cheapest_45 : dec m_Md_cheapest 45 = .ok (.if_icmp .ge 8, 3) := by decide +kernel
theorem d_Md_cheapest_48 : dec m_Md_cheapest 48 = .ok (.iload 5, 2) := by decide +kernel
theorem d_Md_cheapest_50 : dec m_Md_cheapest 50 = .ok (.goto 4, 3) := by decide +kernel
theorem d_Md_cheapest_53 : dec m_Md_cheapest 53 = .ok (.iload_n 3, 1) := by decide +kernel
theorem d_Md_cheapest_54 : dec m_Md_cheapest 54 = .ok (.istore_n 3, 1) := by decide +kernel
theorem d_Md_cheapest_55 : dec m_Md_cheapest 55 = .ok (.iinc 4 1, 3) := by decide +kernel
theorem d_Md_cheapest_58 : dec m_Md_cheapest 58 = .ok (.goto (-48), 3) := by decide +kernel
theorem d_Md_cheapest_61 : dec m_Md_cheapest 61 = .ok (.iload_n 3, 1) := by decide +kernel
theorem d_Md_cheapest_62 : dec m_Md_cheapest 62 = .ok (.ireturn, 1) := by decide +kernel
theorem d_Md_nextOf_0 : dec m_Md_nextOf 0 = .ok (.aload_n 0, 1) := by decide +kernel
theorem d_Md_nextOf_1 : dec m_Md_nextOf 1 = .ok (.iload_n 1, 1) := by decide +kernel
theorem d_Md_nextOf_2 : dec m_Md_nextOf 2 = .ok (.aload_n 0, 1) := by decide +kernel
theorem d_Md_nextOf_3 : dec m_Md_nextOf 3 = .ok (.iload_n 1, 1) := by decide +kernel
theorem d_Md_nextOf_4 : dec m_Md_nextOf 4 = .ok (.invokevirtual 91, 3) := by decide +kernel
theorem d_Md_nextOf_7 : dec m_Md_nextOf 7 = .ok (.ifCond .ne 7, 3) := by decide +kernel
theorem d_Md_nextOf_10 : dec m_Md_nextOf 10 = .ok (.iconst 2, 1) := by decide +kernel
theorem d_Md_nextOf_11 : dec m_Md_nextOf 11 = .ok (.goto 4, 3) := by decide +kernel
theorem d_Md_nextOf_14 : dec m_Md_nextOf 14 = .ok (.iconst 3, 1) := by decide +kernel
theorem d_Md_nextOf_15 : dec m_Md_nextOf 15 = .ok (.invokevirtual 94, 3) := by decide +kernel
theorem d_Md_nextOf_18 : dec m_Md_nextOf 18 = .ok (.ireturn, 1) := by decide +kernel
theorem d_Md_sumOver_0 : dec m_Md_sumOver 0 = .ok (.iconst 0, 1) := by decide +kernel
theorem d_Md_sumOver_1 : dec m_Md_sumOver 1 = .ok (.istore_n 3, 1) := by decide +kernel
theorem d_Md_sumOver_2 : dec m_Md_sumOver 2 = .ok (.iconst 0, 1) := by decide +kernel
theorem d_Md_sumOver_3 : dec m_Md_sumOver 3 = .ok (.istore 4, 2) := by decide +kernel
theorem d_Md_sumOver_5 : dec m_Md_sumOver 5 = .ok (.iload 4, 2) := by decide +kernel
theorem d_Md_sumOver_7 : dec m_Md_sumOver 7 = .ok (.aload_n 0, 1) := by decide +kernel
theorem d_Md_sumOver_8 : dec m_Md_sumOver 8 = .ok (.iload_n 1, 1) := by decide +kernel
theorem d_Md_sumOver_9 : dec m_Md_sumOver 9 = .ok (.iconst 4, 1) := by decide +kernel
theorem d_Md_sumOver_10 : dec m_Md_sumOver 10 = .ok (.invokevirtual 80, 3) := by decide +kernel
theorem d_Md_sumOver_13 : dec m_Md_sumOver 13 = .ok (.if_icmp .ge 26, 3) := by decide +kernel
theorem d_Md_sumOver_16 : dec m_Md_sumOver 16 = .ok (.iload_n 3, 1) := by decide +kernel
theorem d_Md_sumOver_17 : dec m_Md_sumOver 17 = .ok (.aload_n 0, 1) := by decide +kernel
theorem d_Md_sumOver_18 : dec m_Md_sumOver 18 = .ok (.aload_n 0, 1) := by decide +kernel
theorem d_Md_sumOver_19 : dec m_Md_sumOver 19 = .ok (.iload_n 1, 1) := by decide +kernel
theorem d_Md_sumOver_20 : dec m_Md_sumOver 20 = .ok (.iconst 5, 1) := by decide +kernel
theorem d_Md_sumOver_21 : dec m_Md_sumOver 21 = .ok (.invokevirtual 80, 3) := by decide +kernel
theorem d_Md_sumOver_24 : dec m_Md_sumOver 24 = .ok (.iload 4, 2) := by decide +kernel
theorem d_Md_sumOver_26 : dec m_Md_sumOver 26 = .ok (.iadd, 1) := by decide +kernel
theorem d_Md_sumOver_27 : dec m_Md_sumOver 27 = .ok (.iload_n 2, 1) := by decide +kernel
theorem d_Md_sumOver_28 : dec m_Md_sumOver 28 = .ok (.invokevirtual 80, 3) := by decide +kernel
theorem d_Md_sumOver_31 : dec m_Md_sumOver 31 = .ok (.iadd, 1) := by decide +kernel
theorem d_Md_sumOver_32 : dec m_Md_sumOver 32 = .ok (.istore_n 3, 1) := by decide +kernel
theorem d_Md_sumOver_33 : dec m_Md_sumOver 33 = .ok (.iinc 4 1, 3) := by decide +kernel
theorem d_Md_sumOver_36 : dec m_Md_sumOver 36 = .ok (.goto (-31), 3) := by decide +kernel
theorem d_Md_sumOver_39 : dec m_Md_sumOver 39 = .ok (.iload_n 3, 1) := by decide +kernel
theorem d_Md_sumOver_40 : dec m_Md_sumOver 40 = .ok (.sipush 9999, 3) := by decide +kernel
theorem d_Md_sumOver_43 : dec m_Md_sumOver 43 = .ok (.if_icmp .le 9, 3) := by decide +kernel
theorem d_Md_sumOver_46 : dec m_Md_sumOver 46 = .ok (.sipush 9999, 3) := by decide +kernel
theorem d_Md_sumOver_49 : dec m_Md_sumOver 49 = .ok (.goto 4, 3) := by decide +kernel
theorem d_Md_sumOver_52 : dec m_Md_sumOver 52 = .ok (.iload_n 3, 1) := by decide +kernel
theorem d_Md_sumOver_53 : dec m_Md_sumOver 53 = .ok (.ireturn, 1) := by decide +kernel
theorem d_Md_works_0 : dec m_Md_works 0 = .ok (.aload_n 0, 1) := by decide +kernel
theorem d_Md_works_1 : dec m_Md_works 1 = .ok (.iload_n 1, 1) := by decide +kernel
theorem d_Md_works_2 : dec m_Md_works 2 = .ok (.invokevirtual 91, 3) := by decide +kernel
theorem d_Md_works_5 : dec m_Md_works 5 = .ok (.ifCond .ne 7, 3) := by decide +kernel
theorem d_Md_works_8 : dec m_Md_works 8 = .ok (.iconst 2, 1) := by decide +kernel
theorem d_Md_works_9 : dec m_Md_works 9 = .ok (.goto 4, 3) := by decide +kernel
theorem d_Md_works_12 : dec m_Md_works 12 = .ok (.iconst 3, 1) := by decide +kernel
theorem d_Md_works_13 : dec m_Md_works 13 = .ok (.istore_n 2, 1) := by decide +kernel
theorem d_Md_works_14 : dec m_Md_works 14 = .ok (.iload_n 2, 1) := by decide +kernel
theorem d_Md_works_15 : dec m_Md_works 15 = .ok (.iconst 2, 1) := by decide +kernel
theorem d_Md_works_16 : dec m_Md_works 16 = .ok (.if_icmp .ne 7, 3) := by decide +kernel
theorem d_Md_works_19 : dec m_Md_works 19 = .ok (.iconst 3, 1) := by decide +kernel
theorem d_Md_works_20 : dec m_Md_works 20 = .ok (.goto 4, 3) := by decide +kernel
theorem d_Md_works_23 : dec m_Md_works 23 = .ok (.iconst 2, 1) := by decide +kernel
theorem d_Md_works_24 : dec m_Md_works 24 = .ok (.istore_n 3, 1) := by decide +kernel
theorem d_Md_works_25 : dec m_Md_works 25 = .ok (.aload_n 0, 1) := by decide +kernel
theorem d_Md_works_26 : dec m_Md_works 26 = .ok (.iload_n 1, 1) := by decide +kernel
theorem d_Md_works_27 : dec m_Md_works 27 = .ok (.iload_n 2, 1) := by decide +kernel
theorem d_Md_works_28 : dec m_Md_works 28 = .ok (.aload_n 0, 1) := by decide +kernel
theorem d_Md_works_29 : dec m_Md_works 29 = .ok (.aload_n 0, 1) := by decide +kernel
theorem d_Md_works_30 : dec m_Md_works 30 = .ok (.iload_n 1, 1) := by decide +kernel
theorem d_Md_works_31 : dec m_Md_works 31 = .ok (.iload_n 2, 1) := by decide +kernel
theorem d_Md_works_32 : dec m_Md_works 32 = .ok (.invokevirtual 94, 3) := by decide +kernel
theorem d_Md_works_35 : dec m_Md_works 35 = .ok (.iload_n 2, 1) := by decide +kernel
theorem d_Md_works_36 : dec m_Md_works 36 = .ok (.invokevirtual 80, 3) := by decide +kernel
theorem d_Md_works_39 : dec m_Md_works 39 = .ok (.invokevirtual 87, 3) := by decide +kernel
theorem d_Md_works_42 : dec m_Md_works 42 = .ok (.aload_n 0, 1) := by decide +kernel
theorem d_Md_works_43 : dec m_Md_works 43 = .ok (.iload_n 1, 1) := by decide +kernel
theorem d_Md_works_44 : dec m_Md_works 44 = .ok (.iload_n 3, 1) := by decide +kernel
theorem d_Md_works_45 : dec m_Md_works 45 = .ok (.aload_n 0, 1) := by decide +kernel
theorem d_Md_works_46 : dec m_Md_works 46 = .ok (.iload_n 1, 1) := by decide +kernel
theorem d_Md_works_47 : dec m_Md_works 47 = .ok (.iload_n 3, 1) := by decide +kernel
theorem d_Md_works_48 : dec m_Md_works 48 = .ok (.invokevirtual 97, 3) := by decide +kernel
theorem d_Md_works_51 : dec m_Md_works 51 = .ok (.invokevirtual 87, 3) := by decide +kernel
theorem d_Md_works_54 : dec m_Md_works 54 = .ok (.return_, 1) := by decide +kernel
theorem d_Md_leaf_0 : dec m_Md_leaf 0 = .ok (.iconst 0, 1) := by decide +kernel
theorem d_Md_leaf_1 : dec m_Md_leaf 1 = .ok (.istore_n 1, 1) := by decide +kernel
theorem d_Md_leaf_2 : dec m_Md_leaf 2 = .ok (.aload_n 0, 1) := by decide +kernel
theorem d_Md_leaf_3 : dec m_Md_leaf 3 = .ok (.iload_n 1, 1) := by decide +kernel
theorem d_Md_leaf_4 : dec m_Md_leaf 4 = .ok (.iconst 4, 1) := by decide +kernel
theorem d_Md_leaf_5 : dec m_Md_leaf 5 = .ok (.invokevirtual 80, 3) := by decide +kernel
theorem d_Md_leaf_8 : dec m_Md_leaf 8 = .ok (.ifCond .le 12, 3) := by decide +kernel
theorem d_Md_leaf_11 : dec m_Md_leaf 11 = .ok (.aload_n 0, 1) := by decide +kernel
theorem d_Md_leaf_12 : dec m_Md_leaf 12 = .ok (.iload_n 1, 1) := by decide +kernel
theorem d_Md_leaf_13 : dec m_Md_leaf 13 = .ok (.invokevirtual 100, 3) := by decide +kernel
theorem d_Md_leaf_16 : dec m_Md_leaf 16 = .ok (.istore_n 1, 1) := by decide +kernel
theorem d_Md_leaf_17 : dec m_Md_leaf 17 = .ok (.goto (-15), 3) := by decide +kernel
theorem d_Md_leaf_20 : dec m_Md_leaf 20 = .ok (.iload_n 1, 1) := by decide +kernel
theorem d_Md_leaf_21 : dec m_Md_leaf 21 = .ok (.ireturn, 1) := by decide +kernel
theorem d_Md_opens_0 : dec m_Md_opens 0 = .ok (.aload_n 0, 1) := by decide +kernel
theorem d_Md_opens_1 : dec m_Md_opens 1 = .ok (.invokevirtual 103, 3) := by decide +kernel
theorem d_Md_opens_4 : dec m_Md_opens 4 = .ok (.ifCond .eq 5, 3) := by decide +kernel
theorem d_Md_opens_7 : dec m_Md_opens 7 = .ok (.iconst 0, 1) := by decide +kernel
theorem d_Md_opens_8 : dec m_Md_opens 8 = .ok (.ireturn, 1) := by decide +kernel
theorem d_Md_opens_9 : dec m_Md_opens 9 = .ok (.aload_n 0, 1) := by decide +kernel
theorem d_Md_opens_10 : dec m_Md_opens 10 = .ok (.invokevirtual 107, 3) := by decide +kernel
theorem d_Md_opens_13 : dec m_Md_opens 13 = .ok (.istore_n 1, 1) := by decide +kernel
theorem d_Md_opens_14 : dec m_Md_opens 14 = .ok (.aload_n 0, 1) := by decide +kernel
theorem d_Md_opens_15 : dec m_Md_opens 15 = .ok (.iload_n 1, 1) := by decide +kernel
theorem d_Md_opens_16 : dec m_Md_opens 16 = .ok (.iconst 0, 1) := by decide +kernel
theorem d_Md_opens_17 : dec m_Md_opens 17 = .ok (.invokevirtual 80, 3) := by decide +kernel
theorem d_Md_opens_20 : dec m_Md_opens 20 = .ok (.istore_n 2, 1) := by decide +kernel
theorem d_Md_opens_21 : dec m_Md_opens 21 = .ok (.aload_n 0, 1) := by decide +kernel
theorem d_Md_opens_22 : dec m_Md_opens 22 = .ok (.iload_n 2, 1) := by decide +kernel
theorem d_Md_opens_23 : dec m_Md_opens 23 = .ok (.invokevirtual 47, 3) := by decide +kernel
theorem d_Md_opens_26 : dec m_Md_opens 26 = .ok (.istore_n 3, 1) := by decide +kernel
theorem d_Md_opens_27 : dec m_Md_opens 27 = .ok (.aload_n 0, 1) := by decide +kernel
theorem d_Md_opens_28 : dec m_Md_opens 28 = .ok (.getfield 7, 3) := by decide +kernel
theorem d_Md_opens_31 : dec m_Md_opens 31 = .ok (.iconst 1, 1) := by decide +kernel
theorem d_Md_opens_32 : dec m_Md_opens 32 = .ok (.iaload, 1) := by decide +kernel
theorem d_Md_opens_33 : dec m_Md_opens 33 = .ok (.iload_n 3, 1) := by decide +kernel
theorem d_Md_opens_34 : dec m_Md_opens 34 = .ok (.iadd, 1) := by decide +kernel
theorem d_Md_opens_35 : dec m_Md_opens 35 = .ok (.sipush 200, 3) := by decide +kernel
theorem d_Md_opens_38 : dec m_Md_opens 38 = .ok (.if_icmp .le 5, 3) := by decide +kernel
theorem d_Md_opens_41 : dec m_Md_opens 41 = .ok (.iconst 0, 1) := by decide +kernel
theorem d_Md_opens_42 : dec m_Md_opens 42 = .ok (.ireturn, 1) := by decide +kernel
theorem d_Md_opens_43 : dec m_Md_opens 43 = .ok (.aload_n 0, 1) := by decide +kernel
theorem d_Md_opens_44 : dec m_Md_opens 44 = .ok (.iload_n 1, 1) := by decide +kernel
theorem d_Md_opens_45 : dec m_Md_opens 45 = .ok (.iconst 5, 1) := by decide +kernel
theorem d_Md_opens_46 : dec m_Md_opens 46 = .ok (.aload_n 0, 1) := by decide +kernel
theorem d_Md_opens_47 : dec m_Md_opens 47 = .ok (.getfield 7, 3) := by decide +kernel
theorem d_Md_opens_50 : dec m_Md_opens 50 = .ok (.iconst 1, 1) := by decide +kernel
theorem d_Md_opens_51 : dec m_Md_opens 51 = .ok (.iaload, 1) := by decide +kernel
theorem d_Md_opens_52 : dec m_Md_opens 52 = .ok (.invokevirtual 87, 3) := by decide +kernel
theorem d_Md_opens_55 : dec m_Md_opens 55 = .ok (.aload_n 0, 1) := by decide +kernel
theorem d_Md_opens_56 : dec m_Md_opens 56 = .ok (.iload_n 1, 1) := by decide +kernel
theorem d_Md_opens_57 : dec m_Md_opens 57 = .ok (.iconst 4, 1) := by decide +kernel
theorem d_Md_opens_58 : dec m_Md_opens 58 = .ok (.iload_n 3, 1) := by decide +kernel
theorem d_Md_opens_59 : dec m_Md_opens 59 = .ok (.invokevirtual 87, 3) := by decide +kernel
theorem d_Md_opens_62 : dec m_Md_opens 62 = .ok (.iconst 0, 1) := by decide +kernel
theorem d_Md_opens_63 : dec m_Md_opens 63 = .ok (.istore 4, 2) := by decide +kernel
theorem d_Md_opens_65 : dec m_Md_opens 65 = .ok (.iload 4, 2) := by decide +kernel
theorem d_Md_opens_67 : dec m_Md_opens 67 = .ok (.iload_n 3, 1) := by decide +kernel
theorem d_Md_opens_68 : dec m_Md_opens 68 = .ok (.if_icmp .ge 21, 3) := by decide +kernel
theorem d_Md_opens_71 : dec m_Md_opens 71 = .ok (.aload_n 0, 1) := by decide +kernel
theorem d_Md_opens_72 : dec m_Md_opens 72 = .ok (.aload_n 0, 1) := by decide +kernel
theorem d_Md_opens_73 : dec m_Md_opens 73 = .ok (.iload_n 2, 1) := by decide +kernel
theorem d_Md_opens_74 : dec m_Md_opens 74 = .ok (.iload 4, 2) := by decide +kernel
theorem d_Md_opens_76 : dec m_Md_opens 76 = .ok (.invokevirtual 71, 3) := by decide +kernel
theorem d_Md_opens_79 : dec m_Md_opens 79 = .ok (.iload_n 1, 1) := by decide +kernel
theorem d_Md_opens_80 : dec m_Md_opens 80 = .ok (.invokevirtual 111, 3) := by decide +kernel
theorem d_Md_opens_83 : dec m_Md_opens 83 = .ok (.iinc 4 1, 3) := by decide +kernel
theorem d_Md_opens_86 : dec m_Md_opens 86 = .ok (.goto (-21), 3) := by decide +kernel
theorem d_Md_opens_89 : dec m_Md_opens 89 = .ok (.iload_n 1, 1) := by decide +kernel
theorem d_Md_opens_90 : dec m_Md_opens 90 = .ok (.istore 4, 2) := by decide +kernel
theorem d_Md_opens_92 : dec m_Md_opens 92 = .ok (.iload 4, 2) := by decide +kernel
theorem d_Md_opens_94 : dec m_Md_opens 94 = .ok (.bipush (-5), 2) := by decide +kernel
theorem d_Md_opens_96 : dec m_Md_opens 96 = .ok (.if_icmp .eq 21, 3) := by decide +kernel
theorem d_Md_opens_99 : dec m_Md_opens 99 = .ok (.aload_n 0, 1) := by decide +kernel
theorem d_Md_opens_100 : dec m_Md_opens 100 = .ok (.iload 4, 2) := by decide +kernel
theorem d_Md_opens_102 : dec m_Md_opens 102 = .ok (.invokevirtual 114, 3) := by decide +kernel
theorem d_Md_opens_105 : dec m_Md_opens 105 = .ok (.aload_n 0, 1) := by decide +kernel
theorem d_Md_opens_106 : dec m_Md_opens 106 = .ok (.iload 4, 2) := by decide +kernel
theorem d_Md_opens_108 : dec m_Md_opens 108 = .ok (.iconst 1, 1) := by decide +kernel
theorem d_Md_opens_109 : dec m_Md_opens 109 = .ok (.invokevirtual 80, 3) := by decide +kernel
theorem d_Md_opens_112 : dec m_Md_opens 112 = .ok (.istore 4, 2) := by decide +kernel
theorem d_Md_opens_114 : dec m_Md_opens 114 = .ok (.goto (-22), 3) := by decide +kernel
theorem d_Md_opens_117 : dec m_Md_opens 117 = .ok (.aload_n 0, 1) := by decide +kernel
theorem d_Md_opens_118 : dec m_Md_opens 118 = .ok (.getfield 7, 3) := by decide +kernel
theorem d_Md_opens_121 : dec m_Md_opens 121 = .ok (.iconst 2, 1) := by decide +kernel
theorem d_Md_opens_122 : dec m_Md_opens 122 = .ok (.dup2, 1) := by decide +kernel
theorem d_Md_opens_123 : dec m_Md_opens 123 = .ok (.iaload, 1) := by decide +kernel
theorem d_Md_opens_124 : dec m_Md_opens 124 = .ok (.iconst 1, 1) := by decide +kernel
theorem d_Md_opens_125 : dec m_Md_opens 125 = .ok (.iadd, 1) := by decide +kernel
theorem d_Md_opens_126 : dec m_Md_opens 126 = .ok (.iastore, 1) := by decide +kernel
theorem d_Md_opens_127 : dec m_Md_opens 127 = .ok (.iconst 1, 1) := by decide +kernel
theorem d_Md_opens_128 : dec m_Md_opens 128 = .ok (.ireturn, 1) := by decide +kernel
theorem d_Md_begin_0 : dec m_Md_begin 0 = .ok (.aload_n 0, 1) := by decide +kernel
theorem d_Md_begin_1 : dec m_Md_begin 1 = .ok (.iconst 0, 1) := by decide +kernel
theorem d_Md_begin_2 : dec m_Md_begin 2 = .ok (.putfield 32, 3) := by decide +kernel
theorem d_Md_begin_5 : dec m_Md_begin 5 = .ok (.iload_n 1, 1) := by decide +kernel
theorem d_Md_begin_6 : dec m_Md_begin 6 = .ok (.invokestatic 51, 3) := by decide +kernel
theorem d_Md_begin_9 : dec m_Md_begin 9 = .ok (.ifCond .ne 5, 3) := by decide +kernel
theorem d_Md_begin_12 : dec m_Md_begin 12 = .ok (.iconst (-1), 1) := by decide +kernel
theorem d_Md_begin_13 : dec m_Md_begin 13 = .ok (.ireturn, 1) := by decide +kernel
theorem d_Md_begin_14 : dec m_Md_begin 14 = .ok (.aload_n 0, 1) := by decide +kernel
theorem d_Md_begin_15 : dec m_Md_begin 15 = .ok (.invokevirtual 55, 3) := by decide +kernel
theorem d_Md_begin_18 : dec m_Md_begin 18 = .ok (.aload_n 0, 1) := by decide +kernel
theorem d_Md_begin_19 : dec m_Md_begin 19 = .ok (.invokevirtual 58, 3) := by decide +kernel
theorem d_Md_begin_22 : dec m_Md_begin 22 = .ok (.aload_n 0, 1) := by decide +kernel
theorem d_Md_begin_23 : dec m_Md_begin 23 = .ok (.iload_n 1, 1) := by decide +kernel
theorem d_Md_begin_24 : dec m_Md_begin 24 = .ok (.bipush (-5), 2) := by decide +kernel
theorem d_Md_begin_26 : dec m_Md_begin 26 = .ok (.invokevirtual 111, 3) := by decide +kernel
theorem d_Md_begin_29 : dec m_Md_begin 29 = .ok (.aload_n 0, 1) := by decide +kernel
theorem d_Md_begin_30 : dec m_Md_begin 30 = .ok (.iconst 0, 1) := by decide +kernel
theorem d_Md_begin_31 : dec m_Md_begin 31 = .ok (.iconst 2, 1) := by decide +kernel
theorem d_Md_begin_32 : dec m_Md_begin 32 = .ok (.invokevirtual 80, 3) := by decide +kernel
theorem d_Md_begin_35 : dec m_Md_begin 35 = .ok (.ireturn, 1) := by decide +kernel
theorem d_Md_canOpen_0 : dec m_Md_canOpen 0 = .ok (.aload_n 0, 1) := by decide +kernel
theorem d_Md_canOpen_1 : dec m_Md_canOpen 1 = .ok (.invokevirtual 103, 3) := by decide +kernel
theorem d_Md_canOpen_4 : dec m_Md_canOpen 4 = .ok (.ifCond .ne 33, 3) := by decide +kernel
theorem d_Md_canOpen_7 : dec m_Md_canOpen 7 = .ok (.aload_n 0, 1) := by decide +kernel
theorem d_Md_canOpen_8 : dec m_Md_canOpen 8 = .ok (.getfield 7, 3) := by decide +kernel
theorem d_Md_canOpen_11 : dec m_Md_canOpen 11 = .ok (.iconst 1, 1) := by decide +kernel
theorem d_Md_canOpen_12 : dec m_Md_canOpen 12 = .ok (.iaload, 1) := by decide +kernel
theorem d_Md_canOpen_13 : dec m_Md_canOpen 13 = .ok (.aload_n 0, 1) := by decide +kernel
theorem d_Md_canOpen_14 : dec m_Md_canOpen 14 = .ok (.aload_n 0, 1) := by decide +kernel
theorem d_Md_canOpen_15 : dec m_Md_canOpen 15 = .ok (.aload_n 0, 1) := by decide +kernel
theorem d_Md_canOpen_16 : dec m_Md_canOpen 16 = .ok (.invokevirtual 107, 3) := by decide +kernel
theorem d_Md_canOpen_19 : dec m_Md_canOpen 19 = .ok (.iconst 0, 1) := by decide +kernel
theorem d_Md_canOpen_20 : dec m_Md_canOpen 20 = .ok (.invokevirtual 80, 3) := by decide +kernel
theorem d_Md_canOpen_23 : dec m_Md_canOpen 23 = .ok (.invokevirtual 47, 3) := by decide +kernel
theorem d_Md_canOpen_26 : dec m_Md_canOpen 26 = .ok (.iadd, 1) := by decide +kernel
theorem d_Md_canOpen_27 : dec m_Md_canOpen 27 = .ok (.sipush 200, 3) := by decide +kernel
theorem d_Md_canOpen_30 : dec m_Md_canOpen 30 = .ok (.if_icmp .gt 7, 3) := by decide +kernel
theorem d_Md_canOpen_33 : dec m_Md_canOpen 33 = .ok (.iconst 1, 1) := by decide +kernel
theorem d_Md_canOpen_34 : dec m_Md_canOpen 34 = .ok (.goto 4, 3) := by decide +kernel
theorem d_Md_canOpen_37 : dec m_Md_canOpen 37 = .ok (.iconst 0, 1) := by decide +kernel
theorem d_Md_canOpen_38 : dec m_Md_canOpen 38 = .ok (.ireturn, 1) := by decide +kernel
theorem d_Md_open_0 : dec m_Md_open 0 = .ok (.aload_n 0, 1) := by decide +kernel
theorem d_Md_open_1 : dec m_Md_open 1 = .ok (.iconst 0, 1) := by decide +kernel
theorem d_Md_open_2 : dec m_Md_open 2 = .ok (.putfield 32, 3) := by decide +kernel
theorem d_Md_open_5 : dec m_Md_open 5 = .ok (.iload_n 1, 1) := by decide +kernel
theorem d_Md_open_6 : dec m_Md_open 6 = .ok (.iconst 1, 1) := by decide +kernel
theorem d_Md_open_7 : dec m_Md_open 7 = .ok (.bipush 100, 2) := by decide +kernel
theorem d_Md_open_9 : dec m_Md_open 9 = .ok (.invokestatic 36, 3) := by decide +kernel
theorem d_Md_open_12 : dec m_Md_open 12 = .ok (.ifCond .ne 6, 3) := by decide +kernel
theorem d_Md_open_15 : dec m_Md_open 15 = .ok (.bipush (-2), 2) := by decide +kernel
theorem d_Md_open_17 : dec m_Md_open 17 = .ok (.ireturn, 1) := by decide +kernel
theorem d_Md_open_18 : dec m_Md_open 18 = .ok (.aload_n 0, 1) := by decide +kernel
theorem d_Md_open_19 : dec m_Md_open 19 = .ok (.getfield 7, 3) := by decide +kernel
theorem d_Md_open_22 : dec m_Md_open 22 = .ok (.iconst 1, 1) := by decide +kernel
theorem d_Md_open_23 : dec m_Md_open 23 = .ok (.iaload, 1) := by decide +kernel
theorem d_Md_open_24 : dec m_Md_open 24 = .ok (.ifCond .ne 6, 3) := by decide +kernel
theorem d_Md_open_27 : dec m_Md_open 27 = .ok (.bipush (-4), 2) := by decide +kernel
theorem d_Md_open_29 : dec m_Md_open 29 = .ok (.ireturn, 1) := by decide +kernel
theorem d_Md_open_30 : dec m_Md_open 30 = .ok (.aload_n 0, 1) := by decide +kernel
theorem d_Md_open_31 : dec m_Md_open 31 = .ok (.invokevirtual 118, 3) := by decide +kernel
theorem d_Md_open_34 : dec m_Md_open 34 = .ok (.ifCond .ne 6, 3) := by decide +kernel
theorem d_Md_open_37 : dec m_Md_open 37 = .ok (.bipush (-5), 2) := by decide +kernel
theorem d_Md_open_39 : dec m_Md_open 39 = .ok (.ireturn, 1) := by decide +kernel
theorem d_Md_open_40 : dec m_Md_open 40 = .ok (.aload_n 0, 1) := by decide +kernel
theorem d_Md_open_41 : dec m_Md_open 41 = .ok (.invokevirtual 55, 3) := by decide +kernel
theorem d_Md_open_44 : dec m_Md_open 44 = .ok (.iconst 0, 1) := by decide +kernel
theorem d_Md_open_45 : dec m_Md_open 45 = .ok (.istore_n 2, 1) := by decide +kernel
theorem d_Md_open_46 : dec m_Md_open 46 = .ok (.iload_n 2, 1) := by decide +kernel
theorem d_Md_open_47 : dec m_Md_open 47 = .ok (.iload_n 1, 1) := by decide +kernel
theorem d_Md_open_48 : dec m_Md_open 48 = .ok (.if_icmp .ge 16, 3) := by decide +kernel
theorem d_Md_open_51 : dec m_Md_open 51 = .ok (.aload_n 0, 1) := by decide +kernel
theorem d_Md_open_52 : dec m_Md_open 52 = .ok (.invokevirtual 121, 3) := by decide +kernel
theorem d_Md_open_55 : dec m_Md_open 55 = .ok (.ifCond .eq 9, 3) := by decide +kernel
theorem d_Md_open_58 : dec m_Md_open 58 = .ok (.iinc 2 1, 3) := by decide +kernel
theorem d_Md_open_61 : dec m_Md_open 61 = .ok (.goto (-15), 3) := by decide +kernel
theorem d_Md_open_64 : dec m_Md_open 64 = .ok (.iload_n 2, 1) := by decide +kernel
theorem d_Md_open_65 : dec m_Md_open 65 = .ok (.ireturn, 1) := by decide +kernel
theorem d_Md_type_0 : dec m_Md_type 0 = .ok (.aload_n 0, 1) := by decide +kernel
theorem d_Md_type_1 : dec m_Md_type 1 = .ok (.iconst 0, 1) := by decide +kernel
theorem d_Md_type_2 : dec m_Md_type 2 = .ok (.putfield 32, 3) := by decide +kernel
theorem d_Md_type_5 : dec m_Md_type 5 = .ok (.aload_n 0, 1) := by decide +kernel
theorem d_Md_type_6 : dec m_Md_type 6 = .ok (.getfield 124, 3) := by decide +kernel
theorem d_Md_type_9 : dec m_Md_type 9 = .ok (.bipush 60, 2) := by decide +kernel
theorem d_Md_type_11 : dec m_Md_type 11 = .ok (.if_icmp .ne 6, 3) := by decide +kernel
theorem d_Md_type_14 : dec m_Md_type 14 = .ok (.bipush (-3), 2) := by decide +kernel
theorem d_Md_type_16 : dec m_Md_type 16 = .ok (.ireturn, 1) := by decide +kernel
theorem d_Md_type_17 : dec m_Md_type 17 = .ok (.aload_n 0, 1) := by decide +kernel
theorem d_Md_type_18 : dec m_Md_type 18 = .ok (.getfield 19, 3) := by decide +kernel
theorem d_Md_type_21 : dec m_Md_type 21 = .ok (.aload_n 0, 1) := by decide +kernel
theorem d_Md_type_22 : dec m_Md_type 22 = .ok (.getfield 124, 3) := by decide +kernel
theorem d_Md_type_25 : dec m_Md_type 25 = .ok (.iload_n 1, 1) := by decide +kernel
theorem d_Md_type_26 : dec m_Md_type 26 = .ok (.iastore, 1) := by decide +kernel
theorem d_Md_type_27 : dec m_Md_type 27 = .ok (.aload_n 0, 1) := by decide +kernel
theorem d_Md_type_28 : dec m_Md_type 28 = .ok (.dup, 1) := by decide +kernel
theorem d_Md_type_29 : dec m_Md_type 29 = .ok (.getfield 124, 3) := by decide +kernel
theorem d_Md_type_32 : dec m_Md_type 32 = .ok (.iconst 1, 1) := by decide +kernel
theorem d_Md_type_33 : dec m_Md_type 33 = .ok (.iadd, 1) := by decide +kernel
theorem d_Md_type_34 : dec m_Md_type 34 = .ok (.putfield 124, 3) := by decide +kernel
theorem d_Md_type_37 : dec m_Md_type 37 = .ok (.aload_n 0, 1) := by decide +kernel
theorem d_Md_type_38 : dec m_Md_type 38 = .ok (.getfield 124, 3) := by decide +kernel
theorem d_Md_type_41 : dec m_Md_type 41 = .ok (.ireturn, 1) := by decide +kernel
theorem d_Md_clearText_0 : dec m_Md_clearText 0 = .ok (.aload_n 0, 1) := by decide +kernel
theorem d_Md_clearText_1 : dec m_Md_clearText 1 = .ok (.iconst 0, 1) := by decide +kernel
theorem d_Md_clearText_2 : dec m_Md_clearText 2 = .ok (.putfield 32, 3) := by decide +kernel
theorem d_Md_clearText_5 : dec m_Md_clearText 5 = .ok (.aload_n 0, 1) := by decide +kernel
theorem d_Md_clearText_6 : dec m_Md_clearText 6 = .ok (.getfield 124, 3) := by decide +kernel
theorem d_Md_clearText_9 : dec m_Md_clearText 9 = .ok (.istore_n 1, 1) := by decide +kernel
theorem d_Md_clearText_10 : dec m_Md_clearText 10 = .ok (.aload_n 0, 1) := by decide +kernel
theorem d_Md_clearText_11 : dec m_Md_clearText 11 = .ok (.iconst 0, 1) := by decide +kernel
theorem d_Md_clearText_12 : dec m_Md_clearText 12 = .ok (.putfield 124, 3) := by decide +kernel
theorem d_Md_clearText_15 : dec m_Md_clearText 15 = .ok (.iload_n 1, 1) := by decide +kernel
theorem d_Md_clearText_16 : dec m_Md_clearText 16 = .ok (.ireturn, 1) := by decide +kernel
theorem d_Md_sign_0 : dec m_Md_sign 0 = .ok (.aload_n 0, 1) := by decide +kernel
theorem d_Md_sign_1 : dec m_Md_sign 1 = .ok (.getfield 127, 3) := by decide +kernel
theorem d_Md_sign_4 : dec m_Md_sign 4 = .ok (.aload_n 0, 1) := by decide +kernel
theorem d_Md_sign_5 : dec m_Md_sign 5 = .ok (.getfield 124, 3) := by decide +kernel
theorem d_Md_sign_8 : dec m_Md_sign 8 = .ok (.if_icmp .ge 15, 3) := by decide +kernel
theorem d_Md_sign_11 : dec m_Md_sign 11 = .ok (.aload_n 0, 1) := by decide +kernel
theorem d_Md_sign_12 : dec m_Md_sign 12 = .ok (.getfield 19, 3) := by decide +kernel
theorem d_Md_sign_15 : dec m_Md_sign 15 = .ok (.aload_n 0, 1) := by decide +kernel
theorem d_Md_sign_16 : dec m_Md_sign 16 = .ok (.getfield 127, 3) := by decide +kernel
theorem d_Md_sign_19 : dec m_Md_sign 19 = .ok (.iaload, 1) := by decide +kernel
theorem d_Md_sign_20 : dec m_Md_sign 20 = .ok (.goto 4, 3) := by decide +kernel
theorem d_Md_sign_23 : dec m_Md_sign 23 = .ok (.iconst 0, 1) := by decide +kernel
theorem d_Md_sign_24 : dec m_Md_sign 24 = .ok (.ireturn, 1) := by decide +kernel
theorem d_Md_readsPosition_0 : dec m_Md_readsPosition 0 = .ok (.aload_n 0, 1) := by decide +kernel
theorem d_Md_readsPosition_1 : dec m_Md_readsPosition 1 = .ok (.aload_n 0, 1) := by decide +kernel
theorem d_Md_readsPosition_2 : dec m_Md_readsPosition 2 = .ok (.getfield 130, 3) := by decide +kernel
theorem d_Md_readsPosition_5 : dec m_Md_readsPosition 5 = .ok (.ifCond .eq 21, 3) := by decide +kernel
theorem d_Md_readsPosition_8 : dec m_Md_readsPosition 8 = .ok (.aload_n 0, 1) := by decide +kernel
theorem d_Md_readsPosition_9 : dec m_Md_readsPosition 9 = .ok (.invokevirtual 134, 3) := by decide +kernel
theorem d_Md_readsPosition_12 : dec m_Md_readsPosition 12 = .ok (.bipush 48, 2) := by decide +kernel
theorem d_Md_readsPosition_14 : dec m_Md_readsPosition 14 = .ok (.bipush 57, 2) := by decide +kernel
theorem d_Md_readsPosition_16 : dec m_Md_readsPosition 16 = .ok (.invokestatic 36, 3) := by decide +kernel
theorem d_Md_readsPosition_19 : dec m_Md_readsPosition 19 = .ok (.ifCond .eq 7, 3) := by decide +kernel
theorem d_Md_readsPosition_22 : dec m_Md_readsPosition 22 = .ok (.iconst 1, 1) := by decide +kernel
theorem d_Md_readsPosition_23 : dec m_Md_readsPosition 23 = .ok (.goto 4, 3) := by decide +kernel
theorem d_Md_readsPosition_26 : dec m_Md_readsPosition 26 = .ok (.iconst 0, 1) := by decide +kernel
theorem d_Md_readsPosition_27 : dec m_Md_readsPosition 27 = .ok (.putfield 130, 3) := by decide +kernel
theorem d_Md_readsPosition_30 : dec m_Md_readsPosition 30 = .ok (.aload_n 0, 1) := by decide +kernel
theorem d_Md_readsPosition_31 : dec m_Md_readsPosition 31 = .ok (.invokevirtual 134, 3) := by decide +kernel
theorem d_Md_readsPosition_34 : dec m_Md_readsPosition 34 = .ok (.bipush 48, 2) := by decide +kernel
theorem d_Md_readsPosition_36 : dec m_Md_readsPosition 36 = .ok (.isub, 1) := by decide +kernel
theorem d_Md_readsPosition_37 : dec m_Md_readsPosition 37 = .ok (.istore_n 1, 1) := by decide +kernel
theorem d_Md_readsPosition_38 : dec m_Md_readsPosition 38 = .ok (.aload_n 0, 1) := by decide +kernel
theorem d_Md_readsPosition_39 : dec m_Md_readsPosition 39 = .ok (.dup, 1) := by decide +kernel
theorem d_Md_readsPosition_40 : dec m_Md_readsPosition 40 = .ok (.getfield 127, 3) := by decide +kernel
theorem d_Md_readsPosition_43 : dec m_Md_readsPosition 43 = .ok (.aload_n 0, 1) := by decide +kernel
theorem d_Md_readsPosition_44 : dec m_Md_readsPosition 44 = .ok (.getfield 130, 3) := by decide +kernel
theorem d_Md_readsPosition_47 : dec m_Md_readsPosition 47 = .ok (.ifCond .eq 7, 3) := by decide +kernel
theorem d_Md_readsPosition_50 : dec m_Md_readsPosition 50 = .ok (.iconst 1, 1) := by decide +kernel
theorem d_Md_readsPosition_51 : dec m_Md_readsPosition 51 = .ok (.goto 4, 3) := by decide +kernel
theorem d_Md_readsPosition_54 : dec m_Md_readsPosition 54 = .ok (.iconst 0, 1) := by decide +kernel
theorem d_Md_readsPosition_55 : dec m_Md_readsPosition 55 = .ok (.iadd, 1) := by decide +kernel
theorem d_Md_readsPosition_56 : dec m_Md_readsPosition 56 = .ok (.putfield 127, 3) := by decide +kernel
theorem d_Md_readsPosition_59 : dec m_Md_readsPosition 59 = .ok (.aload_n 0, 1) := by decide +kernel
theorem d_Md_readsPosition_60 : dec m_Md_readsPosition 60 = .ok (.getfield 130, 3) := by decide +kernel
theorem d_Md_readsPosition_63 : dec m_Md_readsPosition 63 = .ok (.ifCond .eq 43, 3) := by decide +kernel
theorem d_Md_readsPosition_66 : dec m_Md_readsPosition 66 = .ok (.iload_n 1, 1) := by decide +kernel
theorem d_Md_readsPosition_67 : dec m_Md_readsPosition 67 = .ok (.iconst 1, 1) := by decide +kernel
theorem d_Md_readsPosition_68 : dec m_Md_readsPosition 68 = .ok (.if_icmp .ne 38, 3) := by decide +kernel
theorem d_Md_readsPosition_71 : dec m_Md_readsPosition 71 = .ok (.aload_n 0, 1) := by decide +kernel
theorem d_Md_readsPosition_72 : dec m_Md_readsPosition 72 = .ok (.invokevirtual 134, 3) := by decide +kernel
theorem d_Md_readsPosition_75 : dec m_Md_readsPosition 75 = .ok (.bipush 48, 2) := by decide +kernel
theorem d_Md_readsPosition_77 : dec m_Md_readsPosition 77 = .ok (.bipush 57, 2) := by decide +kernel
theorem d_Md_readsPosition_79 : dec m_Md_readsPosition 79 = .ok (.invokestatic 36, 3) := by decide +kernel
theorem d_Md_readsPosition_82 : dec m_Md_readsPosition 82 = .ok (.ifCond .eq 24, 3) := by decide +kernel
theorem d_Md_readsPosition_85 : dec m_Md_readsPosition 85 = .ok (.bipush 10, 2) := by decide +kernel
theorem d_Md_readsPosition_87 : dec m_Md_readsPosition 87 = .ok (.aload_n 0, 1) := by decide +kernel
theorem d_Md_readsPosition_88 : dec m_Md_readsPosition 88 = .ok (.invokevirtual 134, 3) := by decide +kernel
theorem d_Md_readsPosition_91 : dec m_Md_readsPosition 91 = .ok (.iadd, 1) := by decide +kernel
theorem d_Md_readsPosition_92 : dec m_Md_readsPosition 92 = .ok (.bipush 48, 2) := by decide +kernel
theorem d_Md_readsPosition_94 : dec m_Md_readsPosition 94 = .ok (.isub, 1) := by decide +kernel
theorem d_Md_readsPosition_95 : dec m_Md_readsPosition 95 = .ok (.istore_n 1, 1) := by decide +kernel
theorem d_Md_readsPosition_96 : dec m_Md_readsPosition 96 = .ok (.aload_n 0, 1) := by decide +kernel
theorem d_Md_readsPosition_97 : dec m_Md_readsPosition 97 = .ok (.dup, 1) := by decide +kernel
theorem d_Md_readsPosition_98 : dec m_Md_readsPosition 98 = .ok (.getfield 127, 3) := by decide +kernel
theorem d_Md_readsPosition_101 : dec m_Md_readsPosition 101 = .ok (.iconst 1, 1) := by decide +kernel
theorem d_Md_readsPosition_102 : dec m_Md_readsPosition 102 = .ok (.iadd, 1) := by decide +kernel
theorem d_Md_readsPosition_103 : dec m_Md_readsPosition 103 = .ok (.putfield 127, 3) := by decide +kernel
theorem d_Md_readsPosition_106 : dec m_Md_readsPosition 106 = .ok (.iload_n 1, 1) := by decide +kernel
theorem d_Md_readsPosition_107 : dec m_Md_readsPosition 107 = .ok (.ireturn, 1) := by decide +kernel
theorem d_Md_tells_0 : dec m_Md_tells 0 = .ok (.aload_n 0, 1) := by decide +kernel
theorem d_Md_tells_1 : dec m_Md_tells 1 = .ok (.getfield 130, 3) := by decide +kernel
theorem d_Md_tells_4 : dec m_Md_tells 4 = .ok (.ifCond .eq 53, 3) := by decide +kernel
theorem d_Md_tells_7 : dec m_Md_tells 7 = .ok (.aload_n 0, 1) := by decide +kernel
theorem d_Md_tells_8 : dec m_Md_tells 8 = .ok (.getfield 29, 3) := by decide +kernel
theorem d_Md_tells_11 : dec m_Md_tells 11 = .ok (.iconst 3, 1) := by decide +kernel
theorem d_Md_tells_12 : dec m_Md_tells 12 = .ok (.aload_n 0, 1) := by decide +kernel
theorem d_Md_tells_13 : dec m_Md_tells 13 = .ok (.getfield 137, 3) := by decide +kernel
theorem d_Md_tells_16 : dec m_Md_tells 16 = .ok (.imul, 1) := by decide +kernel
theorem d_Md_tells_17 : dec m_Md_tells 17 = .ok (.iload_n 1, 1) := by decide +kernel
theorem d_Md_tells_18 : dec m_Md_tells 18 = .ok (.iastore, 1) := by decide +kernel
theorem d_Md_tells_19 : dec m_Md_tells 19 = .ok (.aload_n 0, 1) := by decide +kernel
theorem d_Md_tells_20 : dec m_Md_tells 20 = .ok (.getfield 29, 3) := by decide +kernel
theorem d_Md_tells_23 : dec m_Md_tells 23 = .ok (.iconst 3, 1) := by decide +kernel
theorem d_Md_tells_24 : dec m_Md_tells 24 = .ok (.aload_n 0, 1) := by decide +kernel
theorem d_Md_tells_25 : dec m_Md_tells 25 = .ok (.getfield 137, 3) := by decide +kernel
theorem d_Md_tells_28 : dec m_Md_tells 28 = .ok (.imul, 1) := by decide +kernel
theorem d_Md_tells_29 : dec m_Md_tells 29 = .ok (.iconst 1, 1) := by decide +kernel
theorem d_Md_tells_30 : dec m_Md_tells 30 = .ok (.iadd, 1) := by decide +kernel
theorem d_Md_tells_31 : dec m_Md_tells 31 = .ok (.iload_n 2, 1) := by decide +kernel
theorem d_Md_tells_32 : dec m_Md_tells 32 = .ok (.iastore, 1) := by decide +kernel
theorem d_Md_tells_33 : dec m_Md_tells 33 = .ok (.aload_n 0, 1) := by decide +kernel
theorem d_Md_tells_34 : dec m_Md_tells 34 = .ok (.getfield 29, 3) := by decide +kernel
theorem d_Md_tells_37 : dec m_Md_tells 37 = .ok (.iconst 3, 1) := by decide +kernel
theorem d_Md_tells_38 : dec m_Md_tells 38 = .ok (.aload_n 0, 1) := by decide +kernel
theorem d_Md_tells_39 : dec m_Md_tells 39 = .ok (.getfield 137, 3) := by decide +kernel
theorem d_Md_tells_42 : dec m_Md_tells 42 = .ok (.imul, 1) := by decide +kernel
theorem d_Md_tells_43 : dec m_Md_tells 43 = .ok (.iconst 2, 1) := by decide +kernel
theorem d_Md_tells_44 : dec m_Md_tells 44 = .ok (.iadd, 1) := by decide +kernel
theorem d_Md_tells_45 : dec m_Md_tells 45 = .ok (.iload_n 3, 1) := by decide +kernel
theorem d_Md_tells_46 : dec m_Md_tells 46 = .ok (.iastore, 1) := by decide +kernel
theorem d_Md_tells_47 : dec m_Md_tells 47 = .ok (.aload_n 0, 1) := by decide +kernel
theorem d_Md_tells_48 : dec m_Md_tells 48 = .ok (.dup, 1) := by decide +kernel
theorem d_Md_tells_49 : dec m_Md_tells 49 = .ok (.getfield 137, 3) := by decide +kernel
theorem d_Md_tells_52 : dec m_Md_tells 52 = .ok (.iconst 1, 1) := by decide +kernel
theorem d_Md_tells_53 : dec m_Md_tells 53 = .ok (.iadd, 1) := by decide +kernel
theorem d_Md_tells_54 : dec m_Md_tells 54 = .ok (.putfield 137, 3) := by decide +kernel
theorem d_Md_tells_57 : dec m_Md_tells 57 = .ok (.return_, 1) := by decide +kernel
theorem d_Md_readsEntry_0 : dec m_Md_readsEntry 0 = .ok (.aload_n 0, 1) := by decide +kernel
theorem d_Md_readsEntry_1 : dec m_Md_readsEntry 1 = .ok (.invokevirtual 140, 3) := by decide +kernel
theorem d_Md_readsEntry_4 : dec m_Md_readsEntry 4 = .ok (.istore_n 1, 1) := by decide +kernel
theorem d_Md_readsEntry_5 : dec m_Md_readsEntry 5 = .ok (.aload_n 0, 1) := by decide +kernel
theorem d_Md_readsEntry_6 : dec m_Md_readsEntry 6 = .ok (.invokevirtual 134, 3) := by decide +kernel
theorem d_Md_readsEntry_9 : dec m_Md_readsEntry 9 = .ok (.istore_n 2, 1) := by decide +kernel
theorem d_Md_readsEntry_10 : dec m_Md_readsEntry 10 = .ok (.aload_n 0, 1) := by decide +kernel
theorem d_Md_readsEntry_11 : dec m_Md_readsEntry 11 = .ok (.aload_n 0, 1) := by decide +kernel
theorem d_Md_readsEntry_12 : dec m_Md_readsEntry 12 = .ok (.getfield 130, 3) := by decide +kernel
theorem d_Md_readsEntry_15 : dec m_Md_readsEntry 15 = .ok (.ifCond .eq 31, 3) := by decide +kernel
theorem d_Md_readsEntry_18 : dec m_Md_readsEntry 18 = .ok (.iload_n 2, 1) := by decide +kernel
theorem d_Md_readsEntry_19 : dec m_Md_readsEntry 19 = .ok (.bipush 62, 2) := by decide +kernel
theorem d_Md_readsEntry_21 : dec m_Md_readsEntry 21 = .ok (.if_icmp .eq 21, 3) := by decide +kernel
theorem d_Md_readsEntry_24 : dec m_Md_readsEntry 24 = .ok (.iload_n 2, 1) := by decide +kernel
theorem d_Md_readsEntry_25 : dec m_Md_readsEntry 25 = .ok (.bipush 119, 2) := by decide +kernel
theorem d_Md_readsEntry_27 : dec m_Md_readsEntry 27 = .ok (.if_icmp .eq 15, 3) := by decide +kernel
theorem d_Md_readsEntry_30 : dec m_Md_readsEntry 30 = .ok (.iload_n 2, 1) := by decide +kernel
theorem d_Md_readsEntry_31 : dec m_Md_readsEntry 31 = .ok (.bipush 108, 2) := by decide +kernel
theorem d_Md_readsEntry_33 : dec m_Md_readsEntry 33 = .ok (.if_icmp .eq 9, 3) := by decide +kernel
theorem d_Md_readsEntry_36 : dec m_Md_readsEntry 36 = .ok (.iload_n 2, 1) := by decide +kernel
theorem d_Md_readsEntry_37 : dec m_Md_readsEntry 37 = .ok (.bipush 100, 2) := by decide +kernel
theorem d_Md_readsEntry_39 : dec m_Md_readsEntry 39 = .ok (.if_icmp .ne 7, 3) := by decide +kernel
theorem d_Md_readsEntry_42 : dec m_Md_readsEntry 42 = .ok (.iconst 1, 1) := by decide +kernel
theorem d_Md_readsEntry_43 : dec m_Md_readsEntry 43 = .ok (.goto 4, 3) := by decide +kernel
theorem d_Md_readsEntry_46 : dec m_Md_readsEntry 46 = .ok (.iconst 0, 1) := by decide +kernel
theorem d_Md_readsEntry_47 : dec m_Md_readsEntry 47 = .ok (.putfield 130, 3) := by decide +kernel
theorem d_Md_readsEntry_50 : dec m_Md_readsEntry 50 = .ok (.aload_n 0, 1) := by decide +kernel
theorem d_Md_readsEntry_51 : dec m_Md_readsEntry 51 = .ok (.dup, 1) := by decide +kernel
theorem d_Md_readsEntry_52 : dec m_Md_readsEntry 52 = .ok (.getfield 127, 3) := by decide +kernel
theorem d_Md_readsEntry_55 : dec m_Md_readsEntry 55 = .ok (.aload_n 0, 1) := by decide +kernel
theorem d_Md_readsEntry_56 : dec m_Md_readsEntry 56 = .ok (.getfield 130, 3) := by decide +kernel
theorem d_Md_readsEntry_59 : dec m_Md_readsEntry 59 = .ok (.ifCond .eq 7, 3) := by decide +kernel
theorem d_Md_readsEntry_62 : dec m_Md_readsEntry 62 = .ok (.iconst 1, 1) := by decide +kernel
theorem d_Md_readsEntry_63 : dec m_Md_readsEntry 63 = .ok (.goto 4, 3) := by decide +kernel
theorem d_Md_readsEntry_66 : dec m_Md_readsEntry 66 = .ok (.iconst 0, 1) := by decide +kernel
theorem d_Md_readsEntry_67 : dec m_Md_readsEntry 67 = .ok (.iadd, 1) := by decide +kernel
theorem d_Md_readsEntry_68 : dec m_Md_readsEntry 68 = .ok (.putfield 127, 3) := by decide +kernel
theorem d_Md_readsEntry_71 : dec m_Md_readsEntry 71 = .ok (.iload_n 2, 1) := by decide +kernel
theorem d_Md_readsEntry_72 : dec m_Md_readsEntry 72 = .ok (.bipush 62, 2) := by decide +kernel
theorem d_Md_readsEntry_74 : dec m_Md_readsEntry 74 = .ok (.if_icmp .eq 11, 3) := by decide +kernel
theorem d_Md_readsEntry_77 : dec m_Md_readsEntry 77 = .ok (.aload_n 0, 1) := by decide +kernel
theorem d_Md_readsEntry_78 : dec m_Md_readsEntry 78 = .ok (.iload_n 2, 1) := by decide +kernel
theorem d_Md_readsEntry_79 : dec m_Md_readsEntry 79 = .ok (.iload_n 1, 1) := by decide +kernel
theorem d_Md_readsEntry_80 : dec m_Md_readsEntry 80 = .ok (.iconst 0, 1) := by decide +kernel
theorem d_Md_readsEntry_81 : dec m_Md_readsEntry 81 = .ok (.invokevirtual 143, 3) := by decide +kernel
theorem d_Md_readsEntry_84 : dec m_Md_readsEntry 84 = .ok (.return_, 1) := by decide +kernel
theorem d_Md_readsEntry_85 : dec m_Md_readsEntry 85 = .ok (.aload_n 0, 1) := by decide +kernel
theorem d_Md_readsEntry_86 : dec m_Md_readsEntry 86 = .ok (.getfield 130, 3) := by decide +kernel
theorem d_Md_readsEntry_89 : dec m_Md_readsEntry 89 = .ok (.istore_n 3, 1) := by decide +kernel
theorem d_Md_readsEntry_90 : dec m_Md_readsEntry 90 = .ok (.iload_n 3, 1) := by decide +kernel
theorem d_Md_readsEntry_91 : dec m_Md_readsEntry 91 = .ok (.ifCond .eq 57, 3) := by decide +kernel
theorem d_Md_readsEntry_94 : dec m_Md_readsEntry 94 = .ok (.aload_n 0, 1) := by decide +kernel
theorem d_Md_readsEntry_95 : dec m_Md_readsEntry 95 = .ok (.bipush 62, 2) := by decide +kernel
theorem d_Md_readsEntry_97 : dec m_Md_readsEntry 97 = .ok (.iload_n 1, 1) := by decide +kernel
theorem d_Md_readsEntry_98 : dec m_Md_readsEntry 98 = .ok (.aload_n 0, 1) := by decide +kernel
theorem d_Md_readsEntry_99 : dec m_Md_readsEntry 99 = .ok (.invokevirtual 140, 3) := by decide +kernel
theorem d_Md_readsEntry_102 : dec m_Md_readsEntry 102 = .ok (.invokevirtual 143, 3) := by decide +kernel
theorem d_Md_readsEntry_105 : dec m_Md_readsEntry 105 = .ok (.aload_n 0, 1) := by decide +kernel
theorem d_Md_readsEntry_106 : dec m_Md_readsEntry 106 = .ok (.getfield 130, 3) := by decide +kernel
theorem d_Md_readsEntry_109 : dec m_Md_readsEntry 109 = .ok (.ifCond .eq 16, 3) := by decide +kernel
theorem d_Md_readsEntry_112 : dec m_Md_readsEntry 112 = .ok (.aload_n 0, 1) := by decide +kernel
theorem d_Md_readsEntry_113 : dec m_Md_readsEntry 113 = .ok (.invokevirtual 134, 3) := by decide +kernel
theorem d_Md_readsEntry_116 : dec m_Md_readsEntry 116 = .ok (.bipush 46, 2) := by decide +kernel
theorem d_Md_readsEntry_118 : dec m_Md_readsEntry 118 = .ok (.if_icmp .ne 7, 3) := by decide +kernel
theorem d_Md_readsEntry_121 : dec m_Md_readsEntry 121 = .ok (.iconst 1, 1) := by decide +kernel
theorem d_Md_readsEntry_122 : dec m_Md_readsEntry 122 = .ok (.goto 4, 3) := by decide +kernel
theorem d_Md_readsEntry_125 : dec m_Md_readsEntry 125 = .ok (.iconst 0, 1) := by decide +kernel
theorem d_Md_readsEntry_126 : dec m_Md_readsEntry 126 = .ok (.istore_n 3, 1) := by decide +kernel
theorem d_Md_readsEntry_127 : dec m_Md_readsEntry 127 = .ok (.aload_n 0, 1) := by decide +kernel
theorem d_Md_readsEntry_128 : dec m_Md_readsEntry 128 = .ok (.dup, 1) := by decide +kernel
theorem d_Md_readsEntry_129 : dec m_Md_readsEntry 129 = .ok (.getfield 127, 3) := by decide +kernel
theorem d_Md_readsEntry_132 : dec m_Md_readsEntry 132 = .ok (.iload_n 3, 1) := by decide +kernel
theorem d_Md_readsEntry_133 : dec m_Md_readsEntry 133 = .ok (.ifCond .eq 7, 3) := by decide +kernel
theorem d_Md_readsEntry_136 : dec m_Md_readsEntry 136 = .ok (.iconst 1, 1) := by decide +kernel
theorem d_Md_readsEntry_137 : dec m_Md_readsEntry 137 = .ok (.goto 4, 3) := by decide +kernel
theorem d_Md_readsEntry_140 : dec m_Md_readsEntry 140 = .ok (.iconst 0, 1) := by decide +kernel
theorem d_Md_readsEntry_141 : dec m_Md_readsEntry 141 = .ok (.iadd, 1) := by decide +kernel
theorem d_Md_readsEntry_142 : dec m_Md_readsEntry 142 = .ok (.putfield 127, 3) := by decide +kernel
theorem d_Md_readsEntry_145 : dec m_Md_readsEntry 145 = .ok (.goto (-55), 3) := by decide +kernel
theorem d_Md_readsEntry_148 : dec m_Md_readsEntry 148 = .ok (.return_, 1) := by decide +kernel
theorem d_Md_reads_0 : dec m_Md_reads 0 = .ok (.aload_n 0, 1) := by decide +kernel
theorem d_Md_reads_1 : dec m_Md_reads 1 = .ok (.iconst 0, 1) := by decide +kernel
theorem d_Md_reads_2 : dec m_Md_reads 2 = .ok (.putfield 127, 3) := by decide +kernel
theorem d_Md_reads_5 : dec m_Md_reads 5 = .ok (.aload_n 0, 1) := by decide +kernel
theorem d_Md_reads_6 : dec m_Md_reads 6 = .ok (.iconst 1, 1) := by decide +kernel
theorem d_Md_reads_7 : dec m_Md_reads 7 = .ok (.putfield 130, 3) := by decide +kernel
theorem d_Md_reads_10 : dec m_Md_reads 10 = .ok (.aload_n 0, 1) := by decide +kernel
theorem d_Md_reads_11 : dec m_Md_reads 11 = .ok (.iconst 0, 1) := by decide +kernel
theorem d_Md_reads_12 : dec m_Md_reads 12 = .ok (.putfield 137, 3) := by decide +kernel
theorem d_Md_reads_15 : dec m_Md_reads 15 = .ok (.aload_n 0, 1) := by decide +kernel
theorem d_Md_reads_16 : dec m_Md_reads 16 = .ok (.invokevirtual 146, 3) := by decide +kernel
theorem d_Md_reads_19 : dec m_Md_reads 19 = .ok (.aload_n 0, 1) := by decide +kernel
theorem d_Md_reads_20 : dec m_Md_reads 20 = .ok (.getfield 130, 3) := by decide +kernel
theorem d_Md_reads_23 : dec m_Md_reads 23 = .ok (.ifCond .eq 67, 3) := by decide +kernel
theorem d_Md_reads_26 : dec m_Md_reads 26 = .ok (.aload_n 0, 1) := by decide +kernel
theorem d_Md_reads_27 : dec m_Md_reads 27 = .ok (.getfield 127, 3) := by decide +kernel
theorem d_Md_reads_30 : dec m_Md_reads 30 = .ok (.aload_n 0, 1) := by decide +kernel
theorem d_Md_reads_31 : dec m_Md_reads 31 = .ok (.getfield 124, 3) := by decide +kernel
theorem d_Md_reads_34 : dec m_Md_reads 34 = .ok (.if_icmp .ge 56, 3) := by decide +kernel
theorem d_Md_reads_37 : dec m_Md_reads 37 = .ok (.aload_n 0, 1) := by decide +kernel
theorem d_Md_reads_38 : dec m_Md_reads 38 = .ok (.aload_n 0, 1) := by decide +kernel
theorem d_Md_reads_39 : dec m_Md_reads 39 = .ok (.invokevirtual 134, 3) := by decide +kernel
theorem d_Md_reads_42 : dec m_Md_reads 42 = .ok (.bipush 44, 2) := by decide +kernel
theorem d_Md_reads_44 : dec m_Md_reads 44 = .ok (.if_icmp .ne 7, 3) := by decide +kernel
theorem d_Md_reads_47 : dec m_Md_reads 47 = .ok (.iconst 1, 1) := by decide +kernel
theorem d_Md_reads_48 : dec m_Md_reads 48 = .ok (.goto 4, 3) := by decide +kernel
theorem d_Md_reads_51 : dec m_Md_reads 51 = .ok (.iconst 0, 1) := by decide +kernel
theorem d_Md_reads_52 : dec m_Md_reads 52 = .ok (.putfield 130, 3) := by decide +kernel
theorem d_Md_reads_55 : dec m_Md_reads 55 = .ok (.aload_n 0, 1) := by decide +kernel
theorem d_Md_reads_56 : dec m_Md_reads 56 = .ok (.dup, 1) := by decide +kernel
theorem d_Md_reads_57 : dec m_Md_reads 57 = .ok (.getfield 127, 3) := by decide +kernel
theorem d_Md_reads_60 : dec m_Md_reads 60 = .ok (.aload_n 0, 1) := by decide +kernel
theorem d_Md_reads_61 : dec m_Md_reads 61 = .ok (.getfield 130, 3) := by decide +kernel
theorem d_Md_reads_64 : dec m_Md_reads 64 = .ok (.ifCond .eq 7, 3) := by decide +kernel
theorem d_Md_reads_67 : dec m_Md_reads 67 = .ok (.iconst 1, 1) := by decide +kernel
theorem d_Md_reads_68 : dec m_Md_reads 68 = .ok (.goto 4, 3) := by decide +kernel
theorem d_Md_reads_71 : dec m_Md_reads 71 = .ok (.iconst 0, 1) := by decide +kernel
theorem d_Md_reads_72 : dec m_Md_reads 72 = .ok (.iadd, 1) := by decide +kernel
theorem d_Md_reads_73 : dec m_Md_reads 73 = .ok (.putfield 127, 3) := by decide +kernel
theorem d_Md_reads_76 : dec m_Md_reads 76 = .ok (.aload_n 0, 1) := by decide +kernel
theorem d_Md_reads_77 : dec m_Md_reads 77 = .ok (.getfield 130, 3) := by decide +kernel
theorem d_Md_reads_80 : dec m_Md_reads 80 = .ok (.ifCond .eq (-61), 3) := by decide +kernel
theorem d_Md_reads_83 : dec m_Md_reads 83 = .ok (.aload_n 0, 1) := by decide +kernel
theorem d_Md_reads_84 : dec m_Md_reads 84 = .ok (.invokevirtual 146, 3) := by decide +kernel
theorem d_Md_reads_87 : dec m_Md_reads 87 = .ok (.goto (-68), 3) := by decide +kernel
theorem d_Md_reads_90 : dec m_Md_reads 90 = .ok (.aload_n 0, 1) := by decide +kernel
theorem d_Md_reads_91 : dec m_Md_reads 91 = .ok (.getfield 130, 3) := by decide +kernel
theorem d_Md_reads_94 : dec m_Md_reads 94 = .ok (.ifCond .eq 8, 3) := by decide +kernel
theorem d_Md_reads_97 : dec m_Md_reads 97 = .ok (.bipush (-5), 2) := by decide +kernel
theorem d_Md_reads_99 : dec m_Md_reads 99 = .ok (.goto 7, 3) := by decide +kernel
theorem d_Md_reads_102 : dec m_Md_reads 102 = .ok (.aload_n 0, 1) := by decide +kernel
theorem d_Md_reads_103 : dec m_Md_reads 103 = .ok (.getfield 127, 3) := by decide +kernel
theorem d_Md_reads_106 : dec m_Md_reads 106 = .ok (.ireturn, 1) := by decide +kernel
theorem d_Md_movesTold_0 : dec m_Md_movesTold 0 = .ok (.iconst 0, 1) := by decide +kernel
theorem d_Md_movesTold_1 : dec m_Md_movesTold 1 = .ok (.istore_n 1, 1) := by decide +kernel
theorem d_Md_movesTold_2 : dec m_Md_movesTold 2 = .ok (.iconst 0, 1) := by decide +kernel
theorem d_Md_movesTold_3 : dec m_Md_movesTold 3 = .ok (.istore_n 2, 1) := by decide +kernel
theorem d_Md_movesTold_4 : dec m_Md_movesTold 4 = .ok (.iload_n 2, 1) := by decide +kernel
theorem d_Md_movesTold_5 : dec m_Md_movesTold 5 = .ok (.aload_n 0, 1) := by decide +kernel
theorem d_Md_movesTold_6 : dec m_Md_movesTold 6 = .ok (.getfield 137, 3) := by decide +kernel
theorem d_Md_movesTold_9 : dec m_Md_movesTold 9 = .ok (.if_icmp .ge 127, 3) := by decide +kernel
theorem d_Md_movesTold_12 : dec m_Md_movesTold 12 = .ok (.aload_n 0, 1) := by decide +kernel
theorem d_Md_movesTold_13 : dec m_Md_movesTold 13 = .ok (.getfield 29, 3) := by decide +kernel
theorem d_Md_movesTold_16 : dec m_Md_movesTold 16 = .ok (.iconst 3, 1) := by decide +kernel
theorem d_Md_movesTold_17 : dec m_Md_movesTold 17 = .ok (.iload_n 2, 1) := by decide +kernel
theorem d_Md_movesTold_18 : dec m_Md_movesTold 18 = .ok (.imul, 1) := by decide +kernel
theorem d_Md_movesTold_19 : dec m_Md_movesTold 19 = .ok (.iaload, 1) := by decide +kernel
theorem d_Md_movesTold_20 : dec m_Md_movesTold 20 = .ok (.bipush 62, 2) := by decide +kernel
theorem d_Md_movesTold_22 : dec m_Md_movesTold 22 = .ok (.if_icmp .ne 7, 3) := by decide +kernel
theorem d_Md_movesTold_25 : dec m_Md_movesTold 25 = .ok (.iconst 1, 1) := by decide +kernel
theorem d_Md_movesTold_26 : dec m_Md_movesTold 26 = .ok (.goto 4, 3) := by decide +kernel
theorem d_Md_movesTold_29 : dec m_Md_movesTold 29 = .ok (.iconst 0, 1) := by decide +kernel
theorem d_Md_movesTold_30 : dec m_Md_movesTold 30 = .ok (.istore_n 3, 1) := by decide +kernel
theorem d_Md_movesTold_31 : dec m_Md_movesTold 31 = .ok (.iconst 0, 1) := by decide +kernel
theorem d_Md_movesTold_32 : dec m_Md_movesTold 32 = .ok (.istore 4, 2) := by decide +kernel
theorem d_Md_movesTold_34 : dec m_Md_movesTold 34 = .ok (.iload 4, 2) := by decide +kernel
theorem d_Md_movesTold_36 : dec m_Md_movesTold 36 = .ok (.iload_n 2, 1) := by decide +kernel
theorem d_Md_movesTold_37 : dec m_Md_movesTold 37 = .ok (.if_icmp .ge 81, 3) := by decide +kernel
theorem d_Md_movesTold_40 : dec m_Md_movesTold 40 = .ok (.iload_n 3, 1) := by decide +kernel
theorem d_Md_movesTold_41 : dec m_Md_movesTold 41 = .ok (.ifCond .eq 69, 3) := by decide +kernel
theorem d_Md_movesTold_44 : dec m_Md_movesTold 44 = .ok (.aload_n 0, 1) := by decide +kernel
theorem d_Md_movesTold_45 : dec m_Md_movesTold 45 = .ok (.getfield 29, 3) := by decide +kernel
theorem d_Md_movesTold_48 : dec m_Md_movesTold 48 = .ok (.iconst 3, 1) := by decide +kernel
theorem d_Md_movesTold_49 : dec m_Md_movesTold 49 = .ok (.iload 4, 2) := by decide +kernel
theorem d_Md_movesTold_51 : dec m_Md_movesTold 51 = .ok (.imul, 1) := by decide +kernel
theorem d_Md_movesTold_52 : dec m_Md_movesTold 52 = .ok (.iaload, 1) := by decide +kernel
theorem d_Md_movesTold_53 : dec m_Md_movesTold 53 = .ok (.bipush 62, 2) := by decide +kernel
theorem d_Md_movesTold_55 : dec m_Md_movesTold 55 = .ok (.if_icmp .ne 51, 3) := by decide +kernel
theorem d_Md_movesTold_58 : dec m_Md_movesTold 58 = .ok (.aload_n 0, 1) := by decide +kernel
theorem d_Md_movesTold_59 : dec m_Md_movesTold 59 = .ok (.getfield 29, 3) := by decide +kernel
theorem d_Md_movesTold_62 : dec m_Md_movesTold 62 = .ok (.iconst 3, 1) := by decide +kernel
theorem d_Md_movesTold_63 : dec m_Md_movesTold 63 = .ok (.iload 4, 2) := by decide +kernel
theorem d_Md_movesTold_65 : dec m_Md_movesTold 65 = .ok (.imul, 1) := by decide +kernel
theorem d_Md_movesTold_66 : dec m_Md_movesTold 66 = .ok (.iconst 1, 1) := by decide +kernel
theorem d_Md_movesTold_67 : dec m_Md_movesTold 67 = .ok (.iadd, 1) := by decide +kernel
theorem d_Md_movesTold_68 : dec m_Md_movesTold 68 = .ok (.iaload, 1) := by decide +kernel
theorem d_Md_movesTold_69 : dec m_Md_movesTold 69 = .ok (.aload_n 0, 1) := by decide +kernel
theorem d_Md_movesTold_70 : dec m_Md_movesTold 70 = .ok (.getfield 29, 3) := by decide +kernel
theorem d_Md_movesTold_73 : dec m_Md_movesTold 73 = .ok (.iconst 3, 1) := by decide +kernel
theorem d_Md_movesTold_74 : dec m_Md_movesTold 74 = .ok (.iload_n 2, 1) := by decide +kernel
theorem d_Md_movesTold_75 : dec m_Md_movesTold 75 = .ok (.imul, 1) := by decide +kernel
theorem d_Md_movesTold_76 : dec m_Md_movesTold 76 = .ok (.iconst 1, 1) := by decide +kernel
theorem d_Md_movesTold_77 : dec m_Md_movesTold 77 = .ok (.iadd, 1) := by decide +kernel
theorem d_Md_movesTold_78 : dec m_Md_movesTold 78 = .ok (.iaload, 1) := by decide +kernel
theorem d_Md_movesTold_79 : dec m_Md_movesTold 79 = .ok (.if_icmp .ne 27, 3) := by decide +kernel
theorem d_Md_movesTold_82 : dec m_Md_movesTold 82 = .ok (.aload_n 0, 1) := by decide +kernel
theorem d_Md_movesTold_83 : dec m_Md_movesTold 83 = .ok (.getfield 29, 3) := by decide +kernel
theorem d_Md_movesTold_86 : dec m_Md_movesTold 86 = .ok (.iconst 3, 1) := by decide +kernel
theorem d_Md_movesTold_87 : dec m_Md_movesTold 87 = .ok (.iload 4, 2) := by decide +kernel
theorem d_Md_movesTold_89 : dec m_Md_movesTold 89 = .ok (.imul, 1) := by decide +kernel
theorem d_Md_movesTold_90 : dec m_Md_movesTold 90 = .ok (.iconst 2, 1) := by decide +kernel
theorem d_Md_movesTold_91 : dec m_Md_movesTold 91 = .ok (.iadd, 1) := by decide +kernel
theorem d_Md_movesTold_92 : dec m_Md_movesTold 92 = .ok (.iaload, 1) := by decide +kernel
theorem d_Md_movesTold_93 : dec m_Md_movesTold 93 = .ok (.aload_n 0, 1) := by decide +kernel
theorem d_Md_movesTold_94 : dec m_Md_movesTold 94 = .ok (.getfield 29, 3) := by decide +kernel
theorem d_Md_movesTold_97 : dec m_Md_movesTold 97 = .ok (.iconst 3, 1) := by decide +kernel
theorem d_Md_movesTold_98 : dec m_Md_movesTold 98 = .ok (.iload_n 2, 1) := by decide +kernel
theorem d_Md_movesTold_99 : dec m_Md_movesTold 99 = .ok (.imul, 1) := by decide +kernel
theorem d_Md_movesTold_100 : dec m_Md_movesTold 100 = .ok (.iconst 2, 1) := by decide +kernel
theorem d_Md_movesTold_101 : dec m_Md_movesTold 101 = .ok (.iadd, 1) := by decide +kernel
theorem d_Md_movesTold_102 : dec m_Md_movesTold 102 = .ok (.iaload, 1) := by decide +kernel
theorem d_Md_movesTold_103 : dec m_Md_movesTold 103 = .ok (.if_icmp .eq 7, 3) := by decide +kernel
theorem d_Md_movesTold_106 : dec m_Md_movesTold 106 = .ok (.iconst 1, 1) := by decide +kernel
theorem d_Md_movesTold_107 : dec m_Md_movesTold 107 = .ok (.goto 4, 3) := by decide +kernel
theorem d_Md_movesTold_110 : dec m_Md_movesTold 110 = .ok (.iconst 0, 1) := by decide +kernel
theorem d_Md_movesTold_111 : dec m_Md_movesTold 111 = .ok (.istore_n 3, 1) := by decide +kernel
theorem d_Md_movesTold_112 : dec m_Md_movesTold 112 = .ok (.iinc 4 1, 3) := by decide +kernel
theorem d_Md_movesTold_115 : dec m_Md_movesTold 115 = .ok (.goto (-81), 3) := by decide +kernel
theorem d_Md_movesTold_118 : dec m_Md_movesTold 118 = .ok (.iload_n 1, 1) := by decide +kernel
theorem d_Md_movesTold_119 : dec m_Md_movesTold 119 = .ok (.iload_n 3, 1) := by decide +kernel
theorem d_Md_movesTold_120 : dec m_Md_movesTold 120 = .ok (.ifCond .eq 7, 3) := by decide +kernel
theorem d_Md_movesTold_123 : dec m_Md_movesTold 123 = .ok (.iconst 1, 1) := by decide +kernel
theorem d_Md_movesTold_124 : dec m_Md_movesTold 124 = .ok (.goto 4, 3) := by decide +kernel
theorem d_Md_movesTold_127 : dec m_Md_movesTold 127 = .ok (.iconst 0, 1) := by decide +kernel
theorem d_Md_movesTold_128 : dec m_Md_movesTold 128 = .ok (.iadd, 1) := by decide +kernel
theorem d_Md_movesTold_129 : dec m_Md_movesTold 129 = .ok (.istore_n 1, 1) := by decide +kernel
theorem d_Md_movesTold_130 : dec m_Md_movesTold 130 = .ok (.iinc 2 1, 3) := by decide +kernel
theorem d_Md_movesTold_133 : dec m_Md_movesTold 133 = .ok (.goto (-129), 3) := by decide +kernel
theorem d_Md_movesTold_136 : dec m_Md_movesTold 136 = .ok (.iload_n 1, 1) := by decide +kernel
theorem d_Md_movesTold_137 : dec m_Md_movesTold 137 = .ok (.ireturn, 1) := by decide +kernel
theorem d_Md_does_0 : dec m_Md_does 0 = .ok (.iload_n 1, 1) := by decide +kernel
theorem d_Md_does_1 : dec m_Md_does 1 = .ok (.bipush 62, 2) := by decide +kernel
theorem d_Md_does_3 : dec m_Md_does 3 = .ok (.if_icmp .ne 23, 3) := by decide +kernel
theorem d_Md_does_6 : dec m_Md_does 6 = .ok (.aload_n 0, 1) := by decide +kernel
theorem d_Md_does_7 : dec m_Md_does 7 = .ok (.iload_n 2, 1) := by decide +kernel
theorem d_Md_does_8 : dec m_Md_does 8 = .ok (.iload_n 3, 1) := by decide +kernel
theorem d_Md_does_9 : dec m_Md_does 9 = .ok (.invokevirtual 61, 3) := by decide +kernel
theorem d_Md_does_12 : dec m_Md_does 12 = .ok (.bipush (-5), 2) := by decide +kernel
theorem d_Md_does_14 : dec m_Md_does 14 = .ok (.if_icmp .ne 57, 3) := by decide +kernel
theorem d_Md_does_17 : dec m_Md_does 17 = .ok (.aload_n 0, 1) := by decide +kernel
theorem d_Md_does_18 : dec m_Md_does 18 = .ok (.iload_n 2, 1) := by decide +kernel
theorem d_Md_does_19 : dec m_Md_does 19 = .ok (.iload_n 3, 1) := by decide +kernel
theorem d_Md_does_20 : dec m_Md_does 20 = .ok (.invokevirtual 64, 3) := by decide +kernel
theorem d_Md_does_23 : dec m_Md_does 23 = .ok (.goto 48, 3) := by decide +kernel
theorem d_Md_does_26 : dec m_Md_does 26 = .ok (.iload_n 1, 1) := by decide +kernel
theorem d_Md_does_27 : dec m_Md_does 27 = .ok (.bipush 100, 2) := by decide +kernel
theorem d_Md_does_29 : dec m_Md_does 29 = .ok (.if_icmp .ne 19, 3) := by decide +kernel
theorem d_Md_does_32 : dec m_Md_does 32 = .ok (.aload_n 0, 1) := by decide +kernel
theorem d_Md_does_33 : dec m_Md_does 33 = .ok (.getfield 7, 3) := by decide +kernel
theorem d_Md_does_36 : dec m_Md_does 36 = .ok (.iconst 3, 1) := by decide +kernel
theorem d_Md_does_37 : dec m_Md_does 37 = .ok (.iconst 5, 1) := by decide +kernel
theorem d_Md_does_38 : dec m_Md_does 38 = .ok (.iload_n 2, 1) := by decide +kernel
theorem d_Md_does_39 : dec m_Md_does 39 = .ok (.imul, 1) := by decide +kernel
theorem d_Md_does_40 : dec m_Md_does 40 = .ok (.iadd, 1) := by decide +kernel
theorem d_Md_does_41 : dec m_Md_does 41 = .ok (.iconst 0, 1) := by decide +kernel
theorem d_Md_does_42 : dec m_Md_does 42 = .ok (.iadd, 1) := by decide +kernel
theorem d_Md_does_43 : dec m_Md_does 43 = .ok (.iconst 1, 1) := by decide +kernel
theorem d_Md_does_44 : dec m_Md_does 44 = .ok (.iastore, 1) := by decide +kernel
theorem d_Md_does_45 : dec m_Md_does 45 = .ok (.goto 26, 3) := by decide +kernel
theorem d_Md_does_48 : dec m_Md_does 48 = .ok (.aload_n 0, 1) := by decide +kernel
theorem d_Md_does_49 : dec m_Md_does 49 = .ok (.getfield 7, 3) := by decide +kernel
theorem d_Md_does_52 : dec m_Md_does 52 = .ok (.iconst 3, 1) := by decide +kernel
theorem d_Md_does_53 : dec m_Md_does 53 = .ok (.iconst 5, 1) := by decide +kernel
theorem d_Md_does_54 : dec m_Md_does 54 = .ok (.iload_n 2, 1) := by decide +kernel
theorem d_Md_does_55 : dec m_Md_does 55 = .ok (.imul, 1) := by decide +kernel
theorem d_Md_does_56 : dec m_Md_does 56 = .ok (.iadd, 1) := by decide +kernel
theorem d_Md_does_57 : dec m_Md_does 57 = .ok (.iconst 1, 1) := by decide +kernel
theorem d_Md_does_58 : dec m_Md_does 58 = .ok (.iadd, 1) := by decide +kernel
theorem d_Md_does_59 : dec m_Md_does 59 = .ok (.iload_n 1, 1) := by decide +kernel
theorem d_Md_does_60 : dec m_Md_does 60 = .ok (.bipush 119, 2) := by decide +kernel
theorem d_Md_does_62 : dec m_Md_does 62 = .ok (.if_icmp .ne 7, 3) := by decide +kernel
theorem d_Md_does_65 : dec m_Md_does 65 = .ok (.iconst 1, 1) := by decide +kernel
theorem d_Md_does_66 : dec m_Md_does 66 = .ok (.goto 4, 3) := by decide +kernel
theorem d_Md_does_69 : dec m_Md_does 69 = .ok (.iconst 2, 1) := by decide +kernel
theorem d_Md_does_70 : dec m_Md_does 70 = .ok (.iastore, 1) := by decide +kernel
theorem d_Md_does_71 : dec m_Md_does 71 = .ok (.return_, 1) := by decide +kernel
theorem d_Md_readGame_0 : dec m_Md_readGame 0 = .ok (.aload_n 0, 1) := by decide +kernel
theorem d_Md_readGame_1 : dec m_Md_readGame 1 = .ok (.iconst 0, 1) := by decide +kernel
theorem d_Md_readGame_2 : dec m_Md_readGame 2 = .ok (.putfield 32, 3) := by decide +kernel
theorem d_Md_readGame_5 : dec m_Md_readGame 5 = .ok (.aload_n 0, 1) := by decide +kernel
theorem d_Md_readGame_6 : dec m_Md_readGame 6 = .ok (.invokevirtual 149, 3) := by decide +kernel
theorem d_Md_readGame_9 : dec m_Md_readGame 9 = .ok (.istore_n 1, 1) := by decide +kernel
theorem d_Md_readGame_10 : dec m_Md_readGame 10 = .ok (.iload_n 1, 1) := by decide +kernel
theorem d_Md_readGame_11 : dec m_Md_readGame 11 = .ok (.bipush (-5), 2) := by decide +kernel
theorem d_Md_readGame_13 : dec m_Md_readGame 13 = .ok (.if_icmp .eq 8, 3) := by decide +kernel
theorem d_Md_readGame_16 : dec m_Md_readGame 16 = .ok (.bipush (-100), 2) := by decide +kernel
theorem d_Md_readGame_18 : dec m_Md_readGame 18 = .ok (.iload_n 1, 1) := by decide +kernel
theorem d_Md_readGame_19 : dec m_Md_readGame 19 = .ok (.isub, 1) := by decide +kernel
theorem d_Md_readGame_20 : dec m_Md_readGame 20 = .ok (.ireturn, 1) := by decide +kernel
theorem d_Md_readGame_21 : dec m_Md_readGame 21 = .ok (.aload_n 0, 1) := by decide +kernel
theorem d_Md_readGame_22 : dec m_Md_readGame 22 = .ok (.invokevirtual 152, 3) := by decide +kernel
theorem d_Md_readGame_25 : dec m_Md_readGame 25 = .ok (.bipush 60, 2) := by decide +kernel
theorem d_Md_readGame_27 : dec m_Md_readGame 27 = .ok (.if_icmp .le 6, 3) := by decide +kernel
theorem d_Md_readGame_30 : dec m_Md_readGame 30 = .ok (.bipush (-3), 2) := by decide +kernel
theorem d_Md_readGame_32 : dec m_Md_readGame 32 = .ok (.ireturn, 1) := by decide +kernel
theorem d_Md_readGame_33 : dec m_Md_readGame 33 = .ok (.aload_n 0, 1) := by decide +kernel
theorem d_Md_readGame_34 : dec m_Md_readGame 34 = .ok (.invokevirtual 55, 3) := by decide +kernel
theorem d_Md_readGame_37 : dec m_Md_readGame 37 = .ok (.iconst 0, 1) := by decide +kernel
theorem d_Md_readGame_38 : dec m_Md_readGame 38 = .ok (.istore_n 2, 1) := by decide +kernel
theorem d_Md_readGame_39 : dec m_Md_readGame 39 = .ok (.iload_n 2, 1) := by decide +kernel
theorem d_Md_readGame_40 : dec m_Md_readGame 40 = .ok (.bipush 20, 2) := by decide +kernel
theorem d_Md_readGame_42 : dec m_Md_readGame 42 = .ok (.if_icmp .ge 35, 3) := by decide +kernel
theorem d_Md_readGame_45 : dec m_Md_readGame 45 = .ok (.aload_n 0, 1) := by decide +kernel
theorem d_Md_readGame_46 : dec m_Md_readGame 46 = .ok (.getfield 7, 3) := by decide +kernel
theorem d_Md_readGame_49 : dec m_Md_readGame 49 = .ok (.iconst 3, 1) := by decide +kernel
theorem d_Md_readGame_50 : dec m_Md_readGame 50 = .ok (.iconst 5, 1) := by decide +kernel
theorem d_Md_readGame_51 : dec m_Md_readGame 51 = .ok (.iload_n 2, 1) := by decide +kernel
theorem d_Md_readGame_52 : dec m_Md_readGame 52 = .ok (.imul, 1) := by decide +kernel
theorem d_Md_readGame_53 : dec m_Md_readGame 53 = .ok (.iadd, 1) := by decide +kernel
theorem d_Md_readGame_54 : dec m_Md_readGame 54 = .ok (.iconst 0, 1) := by decide +kernel
theorem d_Md_readGame_55 : dec m_Md_readGame 55 = .ok (.iadd, 1) := by decide +kernel
theorem d_Md_readGame_56 : dec m_Md_readGame 56 = .ok (.iconst 0, 1) := by decide +kernel
theorem d_Md_readGame_57 : dec m_Md_readGame 57 = .ok (.iastore, 1) := by decide +kernel
theorem d_Md_readGame_58 : dec m_Md_readGame 58 = .ok (.aload_n 0, 1) := by decide +kernel
theorem d_Md_readGame_59 : dec m_Md_readGame 59 = .ok (.getfield 7, 3) := by decide +kernel
theorem d_Md_readGame_62 : dec m_Md_readGame 62 = .ok (.iconst 3, 1) := by decide +kernel
theorem d_Md_readGame_63 : dec m_Md_readGame 63 = .ok (.iconst 5, 1) := by decide +kernel
theorem d_Md_readGame_64 : dec m_Md_readGame 64 = .ok (.iload_n 2, 1) := by decide +kernel
theorem d_Md_readGame_65 : dec m_Md_readGame 65 = .ok (.imul, 1) := by decide +kernel
theorem d_Md_readGame_66 : dec m_Md_readGame 66 = .ok (.iadd, 1) := by decide +kernel
theorem d_Md_readGame_67 : dec m_Md_readGame 67 = .ok (.iconst 1, 1) := by decide +kernel
theorem d_Md_readGame_68 : dec m_Md_readGame 68 = .ok (.iadd, 1) := by decide +kernel
theorem d_Md_readGame_69 : dec m_Md_readGame 69 = .ok (.iconst 0, 1) := by decide +kernel
theorem d_Md_readGame_70 : dec m_Md_readGame 70 = .ok (.iastore, 1) := by decide +kernel
theorem d_Md_readGame_71 : dec m_Md_readGame 71 = .ok (.iinc 2 1, 3) := by decide +kernel
theorem d_Md_readGame_74 : dec m_Md_readGame 74 = .ok (.goto (-35), 3) := by decide +kernel
theorem d_Md_readGame_77 : dec m_Md_readGame 77 = .ok (.iconst 0, 1) := by decide +kernel
theorem d_Md_readGame_78 : dec m_Md_readGame 78 = .ok (.istore_n 2, 1) := by decide +kernel
theorem d_Md_readGame_79 : dec m_Md_readGame 79 = .ok (.iload_n 2, 1) := by decide +kernel
theorem d_Md_readGame_80 : dec m_Md_readGame 80 = .ok (.bipush 120, 2) := by decide +kernel
theorem d_Md_readGame_82 : dec m_Md_readGame 82 = .ok (.if_icmp .ge 19, 3) := by decide +kernel
theorem d_Md_readGame_85 : dec m_Md_readGame 85 = .ok (.aload_n 0, 1) := by decide +kernel
theorem d_Md_readGame_86 : dec m_Md_readGame 86 = .ok (.getfield 7, 3) := by decide +kernel
theorem d_Md_readGame_89 : dec m_Md_readGame 89 = .ok (.bipush 103, 2) := by decide +kernel
theorem d_Md_readGame_91 : dec m_Md_readGame 91 = .ok (.iload_n 2, 1) := by decide +kernel
theorem d_Md_readGame_92 : dec m_Md_readGame 92 = .ok (.iadd, 1) := by decide +kernel
theorem d_Md_readGame_93 : dec m_Md_readGame 93 = .ok (.iconst 0, 1) := by decide +kernel
theorem d_Md_readGame_94 : dec m_Md_readGame 94 = .ok (.iastore, 1) := by decide +kernel
theorem d_Md_readGame_95 : dec m_Md_readGame 95 = .ok (.iinc 2 1, 3) := by decide +kernel
theorem d_Md_readGame_98 : dec m_Md_readGame 98 = .ok (.goto (-19), 3) := by decide +kernel
theorem d_Md_readGame_101 : dec m_Md_readGame 101 = .ok (.aload_n 0, 1) := by decide +kernel
theorem d_Md_readGame_102 : dec m_Md_readGame 102 = .ok (.getfield 7, 3) := by decide +kernel
theorem d_Md_readGame_105 : dec m_Md_readGame 105 = .ok (.iconst 0, 1) := by decide +kernel
theorem d_Md_readGame_106 : dec m_Md_readGame 106 = .ok (.iconst 0, 1) := by decide +kernel
theorem d_Md_readGame_107 : dec m_Md_readGame 107 = .ok (.iastore, 1) := by decide +kernel
theorem d_Md_readGame_108 : dec m_Md_readGame 108 = .ok (.iconst 0, 1) := by decide +kernel
theorem d_Md_readGame_109 : dec m_Md_readGame 109 = .ok (.istore_n 2, 1) := by decide +kernel
theorem d_Md_readGame_110 : dec m_Md_readGame 110 = .ok (.iload_n 2, 1) := by decide +kernel
theorem d_Md_readGame_111 : dec m_Md_readGame 111 = .ok (.aload_n 0, 1) := by decide +kernel
theorem d_Md_readGame_112 : dec m_Md_readGame 112 = .ok (.getfield 137, 3) := by decide +kernel
theorem d_Md_readGame_115 : dec m_Md_readGame 115 = .ok (.if_icmp .ge 41, 3) := by decide +kernel
theorem d_Md_readGame_118 : dec m_Md_readGame 118 = .ok (.aload_n 0, 1) := by decide +kernel
theorem d_Md_readGame_119 : dec m_Md_readGame 119 = .ok (.aload_n 0, 1) := by decide +kernel
theorem d_Md_readGame_120 : dec m_Md_readGame 120 = .ok (.getfield 29, 3) := by decide +kernel
theorem d_Md_readGame_123 : dec m_Md_readGame 123 = .ok (.iconst 3, 1) := by decide +kernel
theorem d_Md_readGame_124 : dec m_Md_readGame 124 = .ok (.iload_n 2, 1) := by decide +kernel
theorem d_Md_readGame_125 : dec m_Md_readGame 125 = .ok (.imul, 1) := by decide +kernel
theorem d_Md_readGame_126 : dec m_Md_readGame 126 = .ok (.iaload, 1) := by decide +kernel
theorem d_Md_readGame_127 : dec m_Md_readGame 127 = .ok (.aload_n 0, 1) := by decide +kernel
theorem d_Md_readGame_128 : dec m_Md_readGame 128 = .ok (.getfield 29, 3) := by decide +kernel
theorem d_Md_readGame_131 : dec m_Md_readGame 131 = .ok (.iconst 3, 1) := by decide +kernel
theorem d_Md_readGame_132 : dec m_Md_readGame 132 = .ok (.iload_n 2, 1) := by decide +kernel
theorem d_Md_readGame_133 : dec m_Md_readGame 133 = .ok (.imul, 1) := by decide +kernel
theorem d_Md_readGame_134 : dec m_Md_readGame 134 = .ok (.iconst 1, 1) := by decide +kernel
theorem d_Md_readGame_135 : dec m_Md_readGame 135 = .ok (.iadd, 1) := by decide +kernel
theorem d_Md_readGame_136 : dec m_Md_readGame 136 = .ok (.iaload, 1) := by decide +kernel
theorem d_Md_readGame_137 : dec m_Md_readGame 137 = .ok (.aload_n 0, 1) := by decide +kernel
theorem d_Md_readGame_138 : dec m_Md_readGame 138 = .ok (.getfield 29, 3) := by decide +kernel
theorem d_Md_readGame_141 : dec m_Md_readGame 141 = .ok (.iconst 3, 1) := by decide +kernel
theorem d_Md_readGame_142 : dec m_Md_readGame 142 = .ok (.iload_n 2, 1) := by decide +kernel
theorem d_Md_readGame_143 : dec m_Md_readGame 143 = .ok (.imul, 1) := by decide +kernel
theorem d_Md_readGame_144 : dec m_Md_readGame 144 = .ok (.iconst 2, 1) := by decide +kernel
theorem d_Md_readGame_145 : dec m_Md_readGame 145 = .ok (.iadd, 1) := by decide +kernel
theorem d_Md_readGame_146 : dec m_Md_readGame 146 = .ok (.iaload, 1) := by decide +kernel
theorem d_Md_readGame_147 : dec m_Md_readGame 147 = .ok (.invokevirtual 155, 3) := by decide +kernel
theorem d_Md_readGame_150 : dec m_Md_readGame 150 = .ok (.iinc 2 1, 3) := by decide +kernel
theorem d_Md_readGame_153 : dec m_Md_readGame 153 = .ok (.goto (-43), 3) := by decide +kernel
theorem d_Md_readGame_156 : dec m_Md_readGame 156 = .ok (.aload_n 0, 1) := by decide +kernel
theorem d_Md_readGame_157 : dec m_Md_readGame 157 = .ok (.invokevirtual 58, 3) := by decide +kernel
theorem d_Md_readGame_160 : dec m_Md_readGame 160 = .ok (.aload_n 0, 1) := by decide +kernel
theorem d_Md_readGame_161 : dec m_Md_readGame 161 = .ok (.getfield 7, 3) := by decide +kernel
theorem d_Md_readGame_164 : dec m_Md_readGame 164 = .ok (.iconst 0, 1) := by decide +kernel
theorem d_Md_readGame_165 : dec m_Md_readGame 165 = .ok (.iaload, 1) := by decide +kernel
theorem d_Md_readGame_166 : dec m_Md_readGame 166 = .ok (.ireturn, 1) := by decide +kernel
theorem d_Md_undo_0 : dec m_Md_undo 0 = .ok (.aload_n 0, 1) := by decide +kernel
theorem d_Md_undo_1 : dec m_Md_undo 1 = .ok (.iconst 0, 1) := by decide +kernel
theorem d_Md_undo_2 : dec m_Md_undo 2 = .ok (.putfield 32, 3) := by decide +kernel
theorem d_Md_undo_5 : dec m_Md_undo 5 = .ok (.aload_n 0, 1) := by decide +kernel
theorem d_Md_undo_6 : dec m_Md_undo 6 = .ok (.getfield 40, 3) := by decide +kernel
theorem d_Md_undo_9 : dec m_Md_undo 9 = .ok (.ifCond .ne 6, 3) := by decide +kernel
theorem d_Md_undo_12 : dec m_Md_undo 12 = .ok (.bipush (-5), 2) := by decide +kernel
theorem d_Md_undo_14 : dec m_Md_undo 14 = .ok (.ireturn, 1) := by decide +kernel
theorem d_Md_undo_15 : dec m_Md_undo 15 = .ok (.aload_n 0, 1) := by decide +kernel
theorem d_Md_undo_16 : dec m_Md_undo 16 = .ok (.dup, 1) := by decide +kernel
theorem d_Md_undo_17 : dec m_Md_undo 17 = .ok (.getfield 40, 3) := by decide +kernel
theorem d_Md_undo_20 : dec m_Md_undo 20 = .ok (.iconst 1, 1) := by decide +kernel
theorem d_Md_undo_21 : dec m_Md_undo 21 = .ok (.isub, 1) := by decide +kernel
theorem d_Md_undo_22 : dec m_Md_undo 22 = .ok (.putfield 40, 3) := by decide +kernel
theorem d_Md_undo_25 : dec m_Md_undo 25 = .ok (.iconst 0, 1) := by decide +kernel
theorem d_Md_undo_26 : dec m_Md_undo 26 = .ok (.istore_n 1, 1) := by decide +kernel
theorem d_Md_undo_27 : dec m_Md_undo 27 = .ok (.iload_n 1, 1) := by decide +kernel
theorem d_Md_undo_28 : dec m_Md_undo 28 = .ok (.sipush 1624, 3) := by decide +kernel
theorem d_Md_undo_31 : dec m_Md_undo 31 = .ok (.if_icmp .ge 30, 3) := by decide +kernel
theorem d_Md_undo_34 : dec m_Md_undo 34 = .ok (.aload_n 0, 1) := by decide +kernel
theorem d_Md_undo_35 : dec m_Md_undo 35 = .ok (.getfield 7, 3) := by decide +kernel
theorem d_Md_undo_38 : dec m_Md_undo 38 = .ok (.iload_n 1, 1) := by decide +kernel
theorem d_Md_undo_39 : dec m_Md_undo 39 = .ok (.aload_n 0, 1) := by decide +kernel
theorem d_Md_undo_40 : dec m_Md_undo 40 = .ok (.getfield 13, 3) := by decide +kernel
theorem d_Md_undo_43 : dec m_Md_undo 43 = .ok (.sipush 1624, 3) := by decide +kernel
theorem d_Md_undo_46 : dec m_Md_undo 46 = .ok (.aload_n 0, 1) := by decide +kernel
theorem d_Md_undo_47 : dec m_Md_undo 47 = .ok (.getfield 40, 3) := by decide +kernel
theorem d_Md_undo_50 : dec m_Md_undo 50 = .ok (.imul, 1) := by decide +kernel
theorem d_Md_undo_51 : dec m_Md_undo 51 = .ok (.iload_n 1, 1) := by decide +kernel
theorem d_Md_undo_52 : dec m_Md_undo 52 = .ok (.iadd, 1) := by decide +kernel
theorem d_Md_undo_53 : dec m_Md_undo 53 = .ok (.iaload, 1) := by decide +kernel
theorem d_Md_undo_54 : dec m_Md_undo 54 = .ok (.iastore, 1) := by decide +kernel
theorem d_Md_undo_55 : dec m_Md_undo 55 = .ok (.iinc 1 1, 3) := by decide +kernel
theorem d_Md_undo_58 : dec m_Md_undo 58 = .ok (.goto (-31), 3) := by decide +kernel
theorem d_Md_undo_61 : dec m_Md_undo 61 = .ok (.aload_n 0, 1) := by decide +kernel
theorem d_Md_undo_62 : dec m_Md_undo 62 = .ok (.getfield 40, 3) := by decide +kernel
theorem d_Md_undo_65 : dec m_Md_undo 65 = .ok (.ireturn, 1) := by decide +kernel
theorem d_Md_keep_0 : dec m_Md_keep 0 = .ok (.aload_n 0, 1) := by decide +kernel
theorem d_Md_keep_1 : dec m_Md_keep 1 = .ok (.iconst 0, 1) := by decide +kernel
theorem d_Md_keep_2 : dec m_Md_keep 2 = .ok (.putfield 32, 3) := by decide +kernel
theorem d_Md_keep_5 : dec m_Md_keep 5 = .ok (.iconst 0, 1) := by decide +kernel
theorem d_Md_keep_6 : dec m_Md_keep 6 = .ok (.istore_n 1, 1) := by decide +kernel
theorem d_Md_keep_7 : dec m_Md_keep 7 = .ok (.iload_n 1, 1) := by decide +kernel
theorem d_Md_keep_8 : dec m_Md_keep 8 = .ok (.sipush 1624, 3) := by decide +kernel
theorem d_Md_keep_11 : dec m_Md_keep 11 = .ok (.if_icmp .ge 21, 3) := by decide +kernel
theorem d_Md_keep_14 : dec m_Md_keep 14 = .ok (.aload_n 0, 1) := by decide +kernel
theorem d_Md_keep_15 : dec m_Md_keep 15 = .ok (.getfield 16, 3) := by decide +kernel
theorem d_Md_keep_18 : dec m_Md_keep 18 = .ok (.iload_n 1, 1) := by decide +kernel
theorem d_Md_keep_19 : dec m_Md_keep 19 = .ok (.aload_n 0, 1) := by decide +kernel
theorem d_Md_keep_20 : dec m_Md_keep 20 = .ok (.getfield 7, 3) := by decide +kernel
theorem d_Md_keep_23 : dec m_Md_keep 23 = .ok (.iload_n 1, 1) := by decide +kernel
theorem d_Md_keep_24 : dec m_Md_keep 24 = .ok (.iaload, 1) := by decide +kernel
theorem d_Md_keep_25 : dec m_Md_keep 25 = .ok (.iastore, 1) := by decide +kernel
theorem d_Md_keep_26 : dec m_Md_keep 26 = .ok (.iinc 1 1, 3) := by decide +kernel
theorem d_Md_keep_29 : dec m_Md_keep 29 = .ok (.goto (-22), 3) := by decide +kernel
theorem d_Md_keep_32 : dec m_Md_keep 32 = .ok (.aload_n 0, 1) := by decide +kernel
theorem d_Md_keep_33 : dec m_Md_keep 33 = .ok (.iconst 1, 1) := by decide +kernel
theorem d_Md_keep_34 : dec m_Md_keep 34 = .ok (.putfield 158, 3) := by decide +kernel
theorem d_Md_keep_37 : dec m_Md_keep 37 = .ok (.aload_n 0, 1) := by decide +kernel
theorem d_Md_keep_38 : dec m_Md_keep 38 = .ok (.getfield 7, 3) := by decide +kernel
theorem d_Md_keep_41 : dec m_Md_keep 41 = .ok (.iconst 0, 1) := by decide +kernel
theorem d_Md_keep_42 : dec m_Md_keep 42 = .ok (.iaload, 1) := by decide +kernel
theorem d_Md_keep_43 : dec m_Md_keep 43 = .ok (.ireturn, 1) := by decide +kernel
theorem d_Md_restore_0 : dec m_Md_restore 0 = .ok (.aload_n 0, 1) := by decide +kernel
theorem d_Md_restore_1 : dec m_Md_restore 1 = .ok (.iconst 0, 1) := by decide +kernel
theorem d_Md_restore_2 : dec m_Md_restore 2 = .ok (.putfield 32, 3) := by decide +kernel
theorem d_Md_restore_5 : dec m_Md_restore 5 = .ok (.aload_n 0, 1) := by decide +kernel
theorem d_Md_restore_6 : dec m_Md_restore 6 = .ok (.getfield 158, 3) := by decide +kernel
theorem d_Md_restore_9 : dec m_Md_restore 9 = .ok (.ifCond .ne 6, 3) := by decide +kernel
theorem d_Md_restore_12 : dec m_Md_restore 12 = .ok (.bipush (-5), 2) := by decide +kernel
theorem d_Md_restore_14 : dec m_Md_restore 14 = .ok (.ireturn, 1) := by decide +kernel
theorem d_Md_restore_15 : dec m_Md_restore 15 = .ok (.aload_n 0, 1) := by decide +kernel
theorem d_Md_restore_16 : dec m_Md_restore 16 = .ok (.invokevirtual 55, 3) := by decide +kernel
theorem d_Md_restore_19 : dec m_Md_restore 19 = .ok (.iconst 0, 1) := by decide +kernel
theorem d_Md_restore_20 : dec m_Md_restore 20 = .ok (.istore_n 1, 1) := by decide +kernel
theorem d_Md_restore_21 : dec m_Md_restore 21 = .ok (.iload_n 1, 1) := by decide +kernel
theorem d_Md_restore_22 : dec m_Md_restore 22 = .ok (.sipush 1624, 3) := by decide +kernel
theorem d_Md_restore_25 : dec m_Md_restore 25 = .ok (.if_icmp .ge 21, 3) := by decide +kernel
theorem d_Md_restore_28 : dec m_Md_restore 28 = .ok (.aload_n 0, 1) := by decide +kernel
theorem d_Md_restore_29 : dec m_Md_restore 29 = .ok (.getfield 7, 3) := by decide +kernel
theorem d_Md_restore_32 : dec m_Md_restore 32 = .ok (.iload_n 1, 1) := by decide +kernel
theorem d_Md_restore_33 : dec m_Md_restore 33 = .ok (.aload_n 0, 1) := by decide +kernel
theorem d_Md_restore_34 : dec m_Md_restore 34 = .ok (.getfield 16, 3) := by decide +kernel
theorem d_Md_restore_37 : dec m_Md_restore 37 = .ok (.iload_n 1, 1) := by decide +kernel
theorem d_Md_restore_38 : dec m_Md_restore 38 = .ok (.iaload, 1) := by decide +kernel
theorem d_Md_restore_39 : dec m_Md_restore 39 = .ok (.iastore, 1) := by decide +kernel
theorem d_Md_restore_40 : dec m_Md_restore 40 = .ok (.iinc 1 1, 3) := by decide +kernel
theorem d_Md_restore_43 : dec m_Md_restore 43 = .ok (.goto (-22), 3) := by decide +kernel
theorem d_Md_restore_46 : dec m_Md_restore 46 = .ok (.aload_n 0, 1) := by decide +kernel
theorem d_Md_restore_47 : dec m_Md_restore 47 = .ok (.getfield 7, 3) := by decide +kernel
theorem d_Md_restore_50 : dec m_Md_restore 50 = .ok (.iconst 0, 1) := by decide +kernel
theorem d_Md_restore_51 : dec m_Md_restore 51 = .ok (.iaload, 1) := by decide +kernel
theorem d_Md_restore_52 : dec m_Md_restore 52 = .ok (.ireturn, 1) := by decide +kernel
theorem d_Md_position_0 : dec m_Md_position 0 = .ok (.aload_n 0, 1) := by decide +kernel
theorem d_Md_position_1 : dec m_Md_position 1 = .ok (.iconst 0, 1) := by decide +kernel
theorem d_Md_position_2 : dec m_Md_position 2 = .ok (.putfield 32, 3) := by decide +kernel
theorem d_Md_position_5 : dec m_Md_position 5 = .ok (.iload_n 1, 1) := by decide +kernel
theorem d_Md_position_6 : dec m_Md_position 6 = .ok (.invokestatic 51, 3) := by decide +kernel
theorem d_Md_position_9 : dec m_Md_position 9 = .ok (.ifCond .ne 5, 3) := by decide +kernel
theorem d_Md_position_12 : dec m_Md_position 12 = .ok (.iconst (-1), 1) := by decide +kernel
theorem d_Md_position_13 : dec m_Md_position 13 = .ok (.ireturn, 1) := by decide +kernel
theorem d_Md_position_14 : dec m_Md_position 14 = .ok (.iload_n 2, 1) := by decide +kernel
theorem d_Md_position_15 : dec m_Md_position 15 = .ok (.tableswitch 79 4 7 #[29, 35, 49, 68], 29) := by decide +kernel
theorem d_Md_position_44 : dec m_Md_position 44 = .ok (.aload_n 0, 1) := by decide +kernel
theorem d_Md_position_45 : dec m_Md_position 45 = .ok (.iload_n 1, 1) := by decide +kernel
theorem d_Md_position_46 : dec m_Md_position 46 = .ok (.invokevirtual 47, 3) := by decide +kernel
theorem d_Md_position_49 : dec m_Md_position 49 = .ok (.ireturn, 1) := by decide +kernel
theorem d_Md_position_50 : dec m_Md_position 50 = .ok (.aload_n 0, 1) := by decide +kernel
theorem d_Md_position_51 : dec m_Md_position 51 = .ok (.iload_n 1, 1) := by decide +kernel
theorem d_Md_position_52 : dec m_Md_position 52 = .ok (.invokevirtual 68, 3) := by decide +kernel
theorem d_Md_position_55 : dec m_Md_position 55 = .ok (.ifCond .eq 7, 3) := by decide +kernel
theorem d_Md_position_58 : dec m_Md_position 58 = .ok (.iconst 1, 1) := by decide +kernel
theorem d_Md_position_59 : dec m_Md_position 59 = .ok (.goto 4, 3) := by decide +kernel
theorem d_Md_position_62 : dec m_Md_position 62 = .ok (.iconst 0, 1) := by decide +kernel
theorem d_Md_position_63 : dec m_Md_position 63 = .ok (.ireturn, 1) := by decide +kernel
theorem d_Md_position_64 : dec m_Md_position 64 = .ok (.aload_n 0, 1) := by decide +kernel
theorem d_Md_position_65 : dec m_Md_position 65 = .ok (.invokevirtual 77, 3) := by decide +kernel
theorem d_Md_position_68 : dec m_Md_position 68 = .ok (.aload_n 0, 1) := by decide +kernel
theorem d_Md_position_69 : dec m_Md_position 69 = .ok (.getfield 22, 3) := by decide +kernel
theorem d_Md_position_72 : dec m_Md_position 72 = .ok (.iload_n 1, 1) := by decide +kernel
theorem d_Md_position_73 : dec m_Md_position 73 = .ok (.iaload, 1) := by decide +kernel
theorem d_Md_position_74 : dec m_Md_position 74 = .ok (.ifCond .lt 7, 3) := by decide +kernel
theorem d_Md_position_77 : dec m_Md_position 77 = .ok (.iconst 1, 1) := by decide +kernel
theorem d_Md_position_78 : dec m_Md_position 78 = .ok (.goto 4, 3) := by decide +kernel
theorem d_Md_position_81 : dec m_Md_position 81 = .ok (.iconst 0, 1) := by decide +kernel
theorem d_Md_position_82 : dec m_Md_position 82 = .ok (.ireturn, 1) := by decide +kernel
theorem d_Md_position_83 : dec m_Md_position 83 = .ok (.aload_n 0, 1) := by decide +kernel
theorem d_Md_position_84 : dec m_Md_position 84 = .ok (.invokevirtual 77, 3) := by decide +kernel
theorem d_Md_position_87 : dec m_Md_position 87 = .ok (.aload_n 0, 1) := by decide +kernel
theorem d_Md_position_88 : dec m_Md_position 88 = .ok (.getfield 22, 3) := by decide +kernel
theorem d_Md_position_91 : dec m_Md_position 91 = .ok (.iload_n 1, 1) := by decide +kernel
theorem d_Md_position_92 : dec m_Md_position 92 = .ok (.iaload, 1) := by decide +kernel
theorem d_Md_position_93 : dec m_Md_position 93 = .ok (.ireturn, 1) := by decide +kernel
theorem d_Md_position_94 : dec m_Md_position 94 = .ok (.iload_n 2, 1) := by decide +kernel
theorem d_Md_position_95 : dec m_Md_position 95 = .ok (.iconst 0, 1) := by decide +kernel
theorem d_Md_position_96 : dec m_Md_position 96 = .ok (.iconst 3, 1) := by decide +kernel
theorem d_Md_position_97 : dec m_Md_position 97 = .ok (.invokestatic 36, 3) := by decide +kernel
theorem d_Md_position_100 : dec m_Md_position 100 = .ok (.ifCond .eq 12, 3) := by decide +kernel
theorem d_Md_position_103 : dec m_Md_position 103 = .ok (.aload_n 0, 1) := by decide +kernel
theorem d_Md_position_104 : dec m_Md_position 104 = .ok (.iload_n 1, 1) := by decide +kernel
theorem d_Md_position_105 : dec m_Md_position 105 = .ok (.iload_n 2, 1) := by decide +kernel
theorem d_Md_position_106 : dec m_Md_position 106 = .ok (.invokevirtual 43, 3) := by decide +kernel
theorem d_Md_position_109 : dec m_Md_position 109 = .ok (.goto 5, 3) := by decide +kernel
theorem d_Md_position_112 : dec m_Md_position 112 = .ok (.bipush (-2), 2) := by decide +kernel
theorem d_Md_position_114 : dec m_Md_position 114 = .ok (.ireturn, 1) := by decide +kernel
theorem d_Md_move_0 : dec m_Md_move 0 = .ok (.aload_n 0, 1) := by decide +kernel
theorem d_Md_move_1 : dec m_Md_move 1 = .ok (.iconst 0, 1) := by decide +kernel
theorem d_Md_move_2 : dec m_Md_move 2 = .ok (.putfield 32, 3) := by decide +kernel
theorem d_Md_move_5 : dec m_Md_move 5 = .ok (.iload_n 1, 1) := by decide +kernel
theorem d_Md_move_6 : dec m_Md_move 6 = .ok (.invokestatic 51, 3) := by decide +kernel
theorem d_Md_move_9 : dec m_Md_move 9 = .ok (.ifCond .ne 5, 3) := by decide +kernel
theorem d_Md_move_12 : dec m_Md_move 12 = .ok (.iconst (-1), 1) := by decide +kernel
theorem d_Md_move_13 : dec m_Md_move 13 = .ok (.ireturn, 1) := by decide +kernel
theorem d_Md_move_14 : dec m_Md_move 14 = .ok (.iload_n 2, 1) := by decide +kernel
theorem d_Md_move_15 : dec m_Md_move 15 = .ok (.ifCond .ge 8, 3) := by decide +kernel
theorem d_Md_move_18 : dec m_Md_move 18 = .ok (.bipush (-2), 2) := by decide +kernel
theorem d_Md_move_20 : dec m_Md_move 20 = .ok (.goto 9, 3) := by decide +kernel
theorem d_Md_move_23 : dec m_Md_move 23 = .ok (.aload_n 0, 1) := by decide +kernel
theorem d_Md_move_24 : dec m_Md_move 24 = .ok (.iload_n 1, 1) := by decide +kernel
theorem d_Md_move_25 : dec m_Md_move 25 = .ok (.iload_n 2, 1) := by decide +kernel
theorem d_Md_move_26 : dec m_Md_move 26 = .ok (.invokevirtual 71, 3) := by decide +kernel
theorem d_Md_move_29 : dec m_Md_move 29 = .ok (.ireturn, 1) := by decide +kernel
theorem d_Md_node_0 : dec m_Md_node 0 = .ok (.aload_n 0, 1) := by decide +kernel
theorem d_Md_node_1 : dec m_Md_node 1 = .ok (.iconst 0, 1) := by decide +kernel
theorem d_Md_node_2 : dec m_Md_node 2 = .ok (.putfield 32, 3) := by decide +kernel
theorem d_Md_node_5 : dec m_Md_node 5 = .ok (.iload_n 1, 1) := by decide +kernel
theorem d_Md_node_6 : dec m_Md_node 6 = .ok (.iconst 0, 1) := by decide +kernel
theorem d_Md_node_7 : dec m_Md_node 7 = .ok (.aload_n 0, 1) := by decide +kernel
theorem d_Md_node_8 : dec m_Md_node 8 = .ok (.getfield 7, 3) := by decide +kernel
theorem d_Md_node_11 : dec m_Md_node 11 = .ok (.iconst 1, 1) := by decide +kernel
theorem d_Md_node_12 : dec m_Md_node 12 = .ok (.iaload, 1) := by decide +kernel
theorem d_Md_node_13 : dec m_Md_node 13 = .ok (.iconst 1, 1) := by decide +kernel
theorem d_Md_node_14 : dec m_Md_node 14 = .ok (.isub, 1) := by decide +kernel
theorem d_Md_node_15 : dec m_Md_node 15 = .ok (.invokestatic 36, 3) := by decide +kernel
theorem d_Md_node_18 : dec m_Md_node 18 = .ok (.ifCond .ne 5, 3) := by decide +kernel
theorem d_Md_node_21 : dec m_Md_node 21 = .ok (.iconst (-1), 1) := by decide +kernel
theorem d_Md_node_22 : dec m_Md_node 22 = .ok (.ireturn, 1) := by decide +kernel
theorem d_Md_node_23 : dec m_Md_node 23 = .ok (.iload_n 2, 1) := by decide +kernel
theorem d_Md_node_24 : dec m_Md_node 24 = .ok (.bipush 6, 2) := by decide +kernel
theorem d_Md_node_26 : dec m_Md_node 26 = .ok (.if_icmp .ne 9, 3) := by decide +kernel
theorem d_Md_node_29 : dec m_Md_node 29 = .ok (.aload_n 0, 1) := by decide +kernel
theorem d_Md_node_30 : dec m_Md_node 30 = .ok (.iload_n 1, 1) := by decide +kernel
theorem d_Md_node_31 : dec m_Md_node 31 = .ok (.invokevirtual 161, 3) := by decide +kernel
theorem d_Md_node_34 : dec m_Md_node 34 = .ok (.ireturn, 1) := by decide +kernel
theorem d_Md_node_35 : dec m_Md_node 35 = .ok (.iload_n 2, 1) := by decide +kernel
theorem d_Md_node_36 : dec m_Md_node 36 = .ok (.iconst 0, 1) := by decide +kernel
theorem d_Md_node_37 : dec m_Md_node 37 = .ok (.bipush 7, 2) := by decide +kernel
theorem d_Md_node_39 : dec m_Md_node 39 = .ok (.invokestatic 36, 3) := by decide +kernel
theorem d_Md_node_42 : dec m_Md_node 42 = .ok (.ifCond .eq 23, 3) := by decide +kernel
theorem d_Md_node_45 : dec m_Md_node 45 = .ok (.aload_n 0, 1) := by decide +kernel
theorem d_Md_node_46 : dec m_Md_node 46 = .ok (.iload_n 1, 1) := by decide +kernel
theorem d_Md_node_47 : dec m_Md_node 47 = .ok (.iload_n 2, 1) := by decide +kernel
theorem d_Md_node_48 : dec m_Md_node 48 = .ok (.bipush 7, 2) := by decide +kernel
theorem d_Md_node_50 : dec m_Md_node 50 = .ok (.if_icmp .ne 8, 3) := by decide +kernel
theorem d_Md_node_53 : dec m_Md_node 53 = .ok (.bipush 6, 2) := by decide +kernel
theorem d_Md_node_55 : dec m_Md_node 55 = .ok (.goto 4, 3) := by decide +kernel
theorem d_Md_node_58 : dec m_Md_node 58 = .ok (.iload_n 2, 1) := by decide +kernel
theorem d_Md_node_59 : dec m_Md_node 59 = .ok (.invokevirtual 80, 3) := by decide +kernel
theorem d_Md_node_62 : dec m_Md_node 62 = .ok (.goto 5, 3) := by decide +kernel
theorem d_Md_node_65 : dec m_Md_node 65 = .ok (.bipush (-2), 2) := by decide +kernel
theorem d_Md_node_67 : dec m_Md_node 67 = .ok (.ireturn, 1) := by decide +kernel
theorem d_Md_way_0 : dec m_Md_way 0 = .ok (.aload_n 0, 1) := by decide +kernel
theorem d_Md_way_1 : dec m_Md_way 1 = .ok (.iconst 0, 1) := by decide +kernel
theorem d_Md_way_2 : dec m_Md_way 2 = .ok (.putfield 32, 3) := by decide +kernel
theorem d_Md_way_5 : dec m_Md_way 5 = .ok (.iload_n 1, 1) := by decide +kernel
theorem d_Md_way_6 : dec m_Md_way 6 = .ok (.ifCond .ge 6, 3) := by decide +kernel
theorem d_Md_way_9 : dec m_Md_way 9 = .ok (.bipush (-2), 2) := by decide +kernel
theorem d_Md_way_11 : dec m_Md_way 11 = .ok (.ireturn, 1) := by decide +kernel
theorem d_Md_way_12 : dec m_Md_way 12 = .ok (.aload_n 0, 1) := by decide +kernel
theorem d_Md_way_13 : dec m_Md_way 13 = .ok (.getfield 7, 3) := by decide +kernel
theorem d_Md_way_16 : dec m_Md_way 16 = .ok (.iconst 1, 1) := by decide +kernel
theorem d_Md_way_17 : dec m_Md_way 17 = .ok (.iaload, 1) := by decide +kernel
theorem d_Md_way_18 : dec m_Md_way 18 = .ok (.ifCond .eq 10, 3) := by decide +kernel
theorem d_Md_way_21 : dec m_Md_way 21 = .ok (.aload_n 0, 1) := by decide +kernel
theorem d_Md_way_22 : dec m_Md_way 22 = .ok (.invokevirtual 103, 3) := by decide +kernel
theorem d_Md_way_25 : dec m_Md_way 25 = .ok (.ifCond .eq 6, 3) := by decide +kernel
theorem d_Md_way_28 : dec m_Md_way 28 = .ok (.bipush (-5), 2) := by decide +kernel
theorem d_Md_way_30 : dec m_Md_way 30 = .ok (.ireturn, 1) := by decide +kernel
theorem d_Md_way_31 : dec m_Md_way 31 = .ok (.iconst 0, 1) := by decide +kernel
theorem d_Md_way_32 : dec m_Md_way 32 = .ok (.istore_n 2, 1) := by decide +kernel
theorem d_Md_way_33 : dec m_Md_way 33 = .ok (.iload_n 1, 1) := by decide +kernel
theorem d_Md_way_34 : dec m_Md_way 34 = .ok (.istore_n 3, 1) := by decide +kernel
theorem d_Md_way_35 : dec m_Md_way 35 = .ok (.iload_n 3, 1) := by decide +kernel
theorem d_Md_way_36 : dec m_Md_way 36 = .ok (.ifCond .le 24, 3) := by decide +kernel
theorem d_Md_way_39 : dec m_Md_way 39 = .ok (.aload_n 0, 1) := by decide +kernel
theorem d_Md_way_40 : dec m_Md_way 40 = .ok (.iload_n 2, 1) := by decide +kernel
theorem d_Md_way_41 : dec m_Md_way 41 = .ok (.iconst 4, 1) := by decide +kernel
theorem d_Md_way_42 : dec m_Md_way 42 = .ok (.invokevirtual 80, 3) := by decide +kernel
theorem d_Md_way_45 : dec m_Md_way 45 = .ok (.ifCond .le 15, 3) := by decide +kernel
theorem d_Md_way_48 : dec m_Md_way 48 = .ok (.aload_n 0, 1) := by decide +kernel
theorem d_Md_way_49 : dec m_Md_way 49 = .ok (.iload_n 2, 1) := by decide +kernel
theorem d_Md_way_50 : dec m_Md_way 50 = .ok (.invokevirtual 100, 3) := by decide +kernel
theorem d_Md_way_53 : dec m_Md_way 53 = .ok (.istore_n 2, 1) := by decide +kernel
theorem d_Md_way_54 : dec m_Md_way 54 = .ok (.iinc 3 (-1), 3) := by decide +kernel
theorem d_Md_way_57 : dec m_Md_way 57 = .ok (.goto (-22), 3) := by decide +kernel
theorem d_Md_way_60 : dec m_Md_way 60 = .ok (.iload_n 3, 1) := by decide +kernel
theorem d_Md_way_61 : dec m_Md_way 61 = .ok (.ifCond .ne 7, 3) := by decide +kernel
theorem d_Md_way_64 : dec m_Md_way 64 = .ok (.iload_n 2, 1) := by decide +kernel
theorem d_Md_way_65 : dec m_Md_way 65 = .ok (.goto 5, 3) := by decide +kernel
theorem d_Md_way_68 : dec m_Md_way 68 = .ok (.bipush (-5), 2) := by decide +kernel
theorem d_Md_way_70 : dec m_Md_way 70 = .ok (.ireturn, 1) := by decide +kernel
theorem d_Md_owner_0 : dec m_Md_owner 0 = .ok (.aload_n 0, 1) := by decide +kernel
theorem d_Md_owner_1 : dec m_Md_owner 1 = .ok (.iconst 0, 1) := by decide +kernel
theorem d_Md_owner_2 : dec m_Md_owner 2 = .ok (.iconst 2, 1) := by decide +kernel
theorem d_Md_owner_3 : dec m_Md_owner 3 = .ok (.invokevirtual 80, 3) := by decide +kernel
theorem d_Md_owner_6 : dec m_Md_owner 6 = .ok (.ifCond .ne 7, 3) := by decide +kernel
theorem d_Md_owner_9 : dec m_Md_owner 9 = .ok (.iconst 0, 1) := by decide +kernel
theorem d_Md_owner_10 : dec m_Md_owner 10 = .ok (.goto 4, 3) := by decide +kernel
theorem d_Md_owner_13 : dec m_Md_owner 13 = .ok (.iconst 1, 1) := by decide +kernel
theorem d_Md_owner_14 : dec m_Md_owner 14 = .ok (.ireturn, 1) := by decide +kernel
theorem d_Md_playOut_0 : dec m_Md_playOut 0 = .ok (.aload_n 0, 1) := by decide +kernel
theorem d_Md_playOut_1 : dec m_Md_playOut 1 = .ok (.iconst 0, 1) := by decide +kernel
theorem d_Md_playOut_2 : dec m_Md_playOut 2 = .ok (.putfield 32, 3) := by decide +kernel
theorem d_Md_playOut_5 : dec m_Md_playOut 5 = .ok (.iload_n 1, 1) := by decide +kernel
theorem d_Md_playOut_6 : dec m_Md_playOut 6 = .ok (.ifCond .lt 12, 3) := by decide +kernel
theorem d_Md_playOut_9 : dec m_Md_playOut 9 = .ok (.iload_n 2, 1) := by decide +kernel
theorem d_Md_playOut_10 : dec m_Md_playOut 10 = .ok (.iconst 0, 1) := by decide +kernel
theorem d_Md_playOut_11 : dec m_Md_playOut 11 = .ok (.iconst 2, 1) := by decide +kernel
theorem d_Md_playOut_12 : dec m_Md_playOut 12 = .ok (.invokestatic 36, 3) := by decide +kernel
theorem d_Md_playOut_15 : dec m_Md_playOut 15 = .ok (.ifCond .ne 6, 3) := by decide +kernel
theorem d_Md_playOut_18 : dec m_Md_playOut 18 = .ok (.bipush (-2), 2) := by decide +kernel
theorem d_Md_playOut_20 : dec m_Md_playOut 20 = .ok (.ireturn, 1) := by decide +kernel
theorem d_Md_playOut_21 : dec m_Md_playOut 21 = .ok (.aload_n 0, 1) := by decide +kernel
theorem d_Md_playOut_22 : dec m_Md_playOut 22 = .ok (.getfield 7, 3) := by decide +kernel
theorem d_Md_playOut_25 : dec m_Md_playOut 25 = .ok (.iconst 1, 1) := by decide +kernel
theorem d_Md_playOut_26 : dec m_Md_playOut 26 = .ok (.iaload, 1) := by decide +kernel
theorem d_Md_playOut_27 : dec m_Md_playOut 27 = .ok (.ifCond .eq 10, 3) := by decide +kernel
theorem d_Md_playOut_30 : dec m_Md_playOut 30 = .ok (.aload_n 0, 1) := by decide +kernel
theorem d_Md_playOut_31 : dec m_Md_playOut 31 = .ok (.invokevirtual 103, 3) := by decide +kernel
theorem d_Md_playOut_34 : dec m_Md_playOut 34 = .ok (.ifCond .ne 6, 3) := by decide +kernel
theorem d_Md_playOut_37 : dec m_Md_playOut 37 = .ok (.bipush (-4), 2) := by decide +kernel
theorem d_Md_playOut_39 : dec m_Md_playOut 39 = .ok (.ireturn, 1) := by decide +kernel
theorem d_Md_playOut_40 : dec m_Md_playOut 40 = .ok (.iconst 0, 1) := by decide +kernel
theorem d_Md_playOut_41 : dec m_Md_playOut 41 = .ok (.istore_n 3, 1) := by decide +kernel
theorem d_Md_playOut_42 : dec m_Md_playOut 42 = .ok (.iconst 0, 1) := by decide +kernel
theorem d_Md_playOut_43 : dec m_Md_playOut 43 = .ok (.istore 4, 2) := by decide +kernel
theorem d_Md_playOut_45 : dec m_Md_playOut 45 = .ok (.iload_n 1, 1) := by decide +kernel
theorem d_Md_playOut_46 : dec m_Md_playOut 46 = .ok (.istore 5, 2) := by decide +kernel
theorem d_Md_playOut_48 : dec m_Md_playOut 48 = .ok (.aload_n 0, 1) := by decide +kernel
theorem d_Md_playOut_49 : dec m_Md_playOut 49 = .ok (.iload_n 3, 1) := by decide +kernel
theorem d_Md_playOut_50 : dec m_Md_playOut 50 = .ok (.iconst 4, 1) := by decide +kernel
theorem d_Md_playOut_51 : dec m_Md_playOut 51 = .ok (.invokevirtual 80, 3) := by decide +kernel
theorem d_Md_playOut_54 : dec m_Md_playOut 54 = .ok (.ifCond .le 58, 3) := by decide +kernel
theorem d_Md_playOut_57 : dec m_Md_playOut 57 = .ok (.aload_n 0, 1) := by decide +kernel
theorem d_Md_playOut_58 : dec m_Md_playOut 58 = .ok (.iload_n 3, 1) := by decide +kernel
theorem d_Md_playOut_59 : dec m_Md_playOut 59 = .ok (.invokevirtual 91, 3) := by decide +kernel
theorem d_Md_playOut_62 : dec m_Md_playOut 62 = .ok (.aload_n 0, 1) := by decide +kernel
theorem d_Md_playOut_63 : dec m_Md_playOut 63 = .ok (.invokevirtual 164, 3) := by decide +kernel
theorem d_Md_playOut_66 : dec m_Md_playOut 66 = .ok (.if_icmp .ne 12, 3) := by decide +kernel
theorem d_Md_playOut_69 : dec m_Md_playOut 69 = .ok (.aload_n 0, 1) := by decide +kernel
theorem d_Md_playOut_70 : dec m_Md_playOut 70 = .ok (.iload_n 3, 1) := by decide +kernel
theorem d_Md_playOut_71 : dec m_Md_playOut 71 = .ok (.invokevirtual 100, 3) := by decide +kernel
theorem d_Md_playOut_74 : dec m_Md_playOut 74 = .ok (.istore_n 3, 1) := by decide +kernel
theorem d_Md_playOut_75 : dec m_Md_playOut 75 = .ok (.goto 31, 3) := by decide +kernel
theorem d_Md_playOut_78 : dec m_Md_playOut 78 = .ok (.aload_n 0, 1) := by decide +kernel
theorem d_Md_playOut_79 : dec m_Md_playOut 79 = .ok (.iload_n 3, 1) := by decide +kernel
theorem d_Md_playOut_80 : dec m_Md_playOut 80 = .ok (.iconst 4, 1) := by decide +kernel
theorem d_Md_playOut_81 : dec m_Md_playOut 81 = .ok (.invokevirtual 80, 3) := by decide +kernel
theorem d_Md_playOut_84 : dec m_Md_playOut 84 = .ok (.istore 6, 2) := by decide +kernel
theorem d_Md_playOut_86 : dec m_Md_playOut 86 = .ok (.aload_n 0, 1) := by decide +kernel
theorem d_Md_playOut_87 : dec m_Md_playOut 87 = .ok (.iload_n 3, 1) := by decide +kernel
theorem d_Md_playOut_88 : dec m_Md_playOut 88 = .ok (.iconst 5, 1) := by decide +kernel
theorem d_Md_playOut_89 : dec m_Md_playOut 89 = .ok (.invokevirtual 80, 3) := by decide +kernel
theorem d_Md_playOut_92 : dec m_Md_playOut 92 = .ok (.iload 5, 2) := by decide +kernel
theorem d_Md_playOut_94 : dec m_Md_playOut 94 = .ok (.iload 6, 2) := by decide +kernel
theorem d_Md_playOut_96 : dec m_Md_playOut 96 = .ok (.irem, 1) := by decide +kernel
theorem d_Md_playOut_97 : dec m_Md_playOut 97 = .ok (.iadd, 1) := by decide +kernel
theorem d_Md_playOut_98 : dec m_Md_playOut 98 = .ok (.istore_n 3, 1) := by decide +kernel
theorem d_Md_playOut_99 : dec m_Md_playOut 99 = .ok (.iload 5, 2) := by decide +kernel
theorem d_Md_playOut_101 : dec m_Md_playOut 101 = .ok (.iload 6, 2) := by decide +kernel
theorem d_Md_playOut_103 : dec m_Md_playOut 103 = .ok (.idiv, 1) := by decide +kernel
theorem d_Md_playOut_104 : dec m_Md_playOut 104 = .ok (.istore 5, 2) := by decide +kernel
theorem d_Md_playOut_106 : dec m_Md_playOut 106 = .ok (.iinc 4 1, 3) := by decide +kernel
theorem d_Md_playOut_109 : dec m_Md_playOut 109 = .ok (.goto (-61), 3) := by decide +kernel
theorem d_Md_playOut_112 : dec m_Md_playOut 112 = .ok (.iload_n 2, 1) := by decide +kernel
theorem d_Md_playOut_113 : dec m_Md_playOut 113 = .ok (.ifCond .ne 8, 3) := by decide +kernel
theorem d_Md_playOut_116 : dec m_Md_playOut 116 = .ok (.iload 4, 2) := by decide +kernel
theorem d_Md_playOut_118 : dec m_Md_playOut 118 = .ok (.goto 18, 3) := by decide +kernel
theorem d_Md_playOut_121 : dec m_Md_playOut 121 = .ok (.iload_n 2, 1) := by decide +kernel
theorem d_Md_playOut_122 : dec m_Md_playOut 122 = .ok (.iconst 1, 1) := by decide +kernel
theorem d_Md_playOut_123 : dec m_Md_playOut 123 = .ok (.if_icmp .ne 12, 3) := by decide +kernel
theorem d_Md_playOut_126 : dec m_Md_playOut 126 = .ok (.aload_n 0, 1) := by decide +kernel
theorem d_Md_playOut_127 : dec m_Md_playOut 127 = .ok (.iload_n 3, 1) := by decide +kernel
theorem d_Md_playOut_128 : dec m_Md_playOut 128 = .ok (.iconst 0, 1) := by decide +kernel
theorem d_Md_playOut_129 : dec m_Md_playOut 129 = .ok (.invokevirtual 80, 3) := by decide +kernel
theorem d_Md_playOut_132 : dec m_Md_playOut 132 = .ok (.goto 4, 3) := by decide +kernel
theorem d_Md_playOut_135 : dec m_Md_playOut 135 = .ok (.iload_n 3, 1) := by decide +kernel
theorem d_Md_playOut_136 : dec m_Md_playOut 136 = .ok (.ireturn, 1) := by decide +kernel
theorem d_Md_proofSize_0 : dec m_Md_proofSize 0 = .ok (.aload_n 0, 1) := by decide +kernel
theorem d_Md_proofSize_1 : dec m_Md_proofSize 1 = .ok (.iconst 0, 1) := by decide +kernel
theorem d_Md_proofSize_2 : dec m_Md_proofSize 2 = .ok (.putfield 32, 3) := by decide +kernel
theorem d_Md_proofSize_5 : dec m_Md_proofSize 5 = .ok (.aload_n 0, 1) := by decide +kernel
theorem d_Md_proofSize_6 : dec m_Md_proofSize 6 = .ok (.getfield 7, 3) := by decide +kernel
theorem d_Md_proofSize_9 : dec m_Md_proofSize 9 = .ok (.iconst 1, 1) := by decide +kernel
theorem d_Md_proofSize_10 : dec m_Md_proofSize 10 = .ok (.iaload, 1) := by decide +kernel
theorem d_Md_proofSize_11 : dec m_Md_proofSize 11 = .ok (.ifCond .eq 10, 3) := by decide +kernel
theorem d_Md_proofSize_14 : dec m_Md_proofSize 14 = .ok (.aload_n 0, 1) := by decide +kernel
theorem d_Md_proofSize_15 : dec m_Md_proofSize 15 = .ok (.invokevirtual 103, 3) := by decide +kernel
theorem d_Md_proofSize_18 : dec m_Md_proofSize 18 = .ok (.ifCond .ne 6, 3) := by decide +kernel
theorem d_Md_proofSize_21 : dec m_Md_proofSize 21 = .ok (.bipush (-4), 2) := by decide +kernel
theorem d_Md_proofSize_23 : dec m_Md_proofSize 23 = .ok (.ireturn, 1) := by decide +kernel
theorem d_Md_proofSize_24 : dec m_Md_proofSize 24 = .ok (.iconst 0, 1) := by decide +kernel
theorem d_Md_proofSize_25 : dec m_Md_proofSize 25 = .ok (.istore_n 1, 1) := by decide +kernel
theorem d_Md_proofSize_26 : dec m_Md_proofSize 26 = .ok (.iconst 0, 1) := by decide +kernel
theorem d_Md_proofSize_27 : dec m_Md_proofSize 27 = .ok (.istore_n 2, 1) := by decide +kernel
theorem d_Md_proofSize_28 : dec m_Md_proofSize 28 = .ok (.iload_n 2, 1) := by decide +kernel
theorem d_Md_proofSize_29 : dec m_Md_proofSize 29 = .ok (.aload_n 0, 1) := by decide +kernel
theorem d_Md_proofSize_30 : dec m_Md_proofSize 30 = .ok (.getfield 7, 3) := by decide +kernel
theorem d_Md_proofSize_33 : dec m_Md_proofSize 33 = .ok (.iconst 1, 1) := by decide +kernel
theorem d_Md_proofSize_34 : dec m_Md_proofSize 34 = .ok (.iaload, 1) := by decide +kernel
theorem d_Md_proofSize_35 : dec m_Md_proofSize 35 = .ok (.if_icmp .ge 80, 3) := by decide +kernel
theorem d_Md_proofSize_38 : dec m_Md_proofSize 38 = .ok (.aload_n 0, 1) := by decide +kernel
theorem d_Md_proofSize_39 : dec m_Md_proofSize 39 = .ok (.iload_n 2, 1) := by decide +kernel
theorem d_Md_proofSize_40 : dec m_Md_proofSize 40 = .ok (.iconst 1, 1) := by decide +kernel
theorem d_Md_proofSize_41 : dec m_Md_proofSize 41 = .ok (.invokevirtual 80, 3) := by decide +kernel
theorem d_Md_proofSize_44 : dec m_Md_proofSize 44 = .ok (.istore_n 3, 1) := by decide +kernel
theorem d_Md_proofSize_45 : dec m_Md_proofSize 45 = .ok (.aload_n 0, 1) := by decide +kernel
theorem d_Md_proofSize_46 : dec m_Md_proofSize 46 = .ok (.getfield 25, 3) := by decide +kernel
theorem d_Md_proofSize_49 : dec m_Md_proofSize 49 = .ok (.iload_n 2, 1) := by decide +kernel
theorem d_Md_proofSize_50 : dec m_Md_proofSize 50 = .ok (.iload_n 3, 1) := by decide +kernel
theorem d_Md_proofSize_51 : dec m_Md_proofSize 51 = .ok (.bipush (-5), 2) := by decide +kernel
theorem d_Md_proofSize_53 : dec m_Md_proofSize 53 = .ok (.if_icmp .eq 33, 3) := by decide +kernel
theorem d_Md_proofSize_56 : dec m_Md_proofSize 56 = .ok (.aload_n 0, 1) := by decide +kernel
theorem d_Md_proofSize_57 : dec m_Md_proofSize 57 = .ok (.getfield 25, 3) := by decide +kernel
theorem d_Md_proofSize_60 : dec m_Md_proofSize 60 = .ok (.iload_n 3, 1) := by decide +kernel
theorem d_Md_proofSize_61 : dec m_Md_proofSize 61 = .ok (.baload, 1) := by decide +kernel
theorem d_Md_proofSize_62 : dec m_Md_proofSize 62 = .ok (.ifCond .eq 28, 3) := by decide +kernel
theorem d_Md_proofSize_65 : dec m_Md_proofSize 65 = .ok (.aload_n 0, 1) := by decide +kernel
theorem d_Md_proofSize_66 : dec m_Md_proofSize 66 = .ok (.iload_n 3, 1) := by decide +kernel
theorem d_Md_proofSize_67 : dec m_Md_proofSize 67 = .ok (.invokevirtual 91, 3) := by decide +kernel
theorem d_Md_proofSize_70 : dec m_Md_proofSize 70 = .ok (.aload_n 0, 1) := by decide +kernel
theorem d_Md_proofSize_71 : dec m_Md_proofSize 71 = .ok (.invokevirtual 164, 3) := by decide +kernel
theorem d_Md_proofSize_74 : dec m_Md_proofSize 74 = .ok (.if_icmp .ne 12, 3) := by decide +kernel
theorem d_Md_proofSize_77 : dec m_Md_proofSize 77 = .ok (.aload_n 0, 1) := by decide +kernel
theorem d_Md_proofSize_78 : dec m_Md_proofSize 78 = .ok (.iload_n 3, 1) := by decide +kernel
theorem d_Md_proofSize_79 : dec m_Md_proofSize 79 = .ok (.invokevirtual 100, 3) := by decide +kernel
theorem d_Md_proofSize_82 : dec m_Md_proofSize 82 = .ok (.iload_n 2, 1) := by decide +kernel
theorem d_Md_proofSize_83 : dec m_Md_proofSize 83 = .ok (.if_icmp .ne 7, 3) := by decide +kernel
theorem d_Md_proofSize_86 : dec m_Md_proofSize 86 = .ok (.iconst 1, 1) := by decide +kernel
theorem d_Md_proofSize_87 : dec m_Md_proofSize 87 = .ok (.goto 4, 3) := by decide +kernel
theorem d_Md_proofSize_90 : dec m_Md_proofSize 90 = .ok (.iconst 0, 1) := by decide +kernel
theorem d_Md_proofSize_91 : dec m_Md_proofSize 91 = .ok (.bastore, 1) := by decide +kernel
theorem d_Md_proofSize_92 : dec m_Md_proofSize 92 = .ok (.iload_n 1, 1) := by decide +kernel
theorem d_Md_proofSize_93 : dec m_Md_proofSize 93 = .ok (.aload_n 0, 1) := by decide +kernel
theorem d_Md_proofSize_94 : dec m_Md_proofSize 94 = .ok (.getfield 25, 3) := by decide +kernel
theorem d_Md_proofSize_97 : dec m_Md_proofSize 97 = .ok (.iload_n 2, 1) := by decide +kernel
theorem d_Md_proofSize_98 : dec m_Md_proofSize 98 = .ok (.baload, 1) := by decide +kernel
theorem d_Md_proofSize_99 : dec m_Md_proofSize 99 = .ok (.ifCond .eq 7, 3) := by decide +kernel
theorem d_Md_proofSize_102 : dec m_Md_proofSize 102 = .ok (.iconst 1, 1) := by decide +kernel
theorem d_Md_proofSize_103 : dec m_Md_proofSize 103 = .ok (.goto 4, 3) := by decide +kernel
theorem d_Md_proofSize_106 : dec m_Md_proofSize 106 = .ok (.iconst 0, 1) := by decide +kernel
theorem d_Md_proofSize_107 : dec m_Md_proofSize 107 = .ok (.iadd, 1) := by decide +kernel
theorem d_Md_proofSize_108 : dec m_Md_proofSize 108 = .ok (.istore_n 1, 1) := by decide +kernel
theorem d_Md_proofSize_109 : dec m_Md_proofSize 109 = .ok (.iinc 2 1, 3) := by decide +kernel
theorem d_Md_proofSize_112 : dec m_Md_proofSize 112 = .ok (.goto (-84), 3) := by decide +kernel
theorem d_Md_proofSize_115 : dec m_Md_proofSize 115 = .ok (.iload_n 1, 1) := by decide +kernel
theorem d_Md_proofSize_116 : dec m_Md_proofSize 116 = .ok (.ireturn, 1) := by decide +kernel
theorem d_Md_loops_0 : dec m_Md_loops 0 = .ok (.iconst 0, 1) := by decide +kernel
theorem d_Md_loops_1 : dec m_Md_loops 1 = .ok (.istore_n 1, 1) := by decide +kernel
theorem d_Md_loops_2 : dec m_Md_loops 2 = .ok (.iconst 0, 1) := by decide +kernel
theorem d_Md_loops_3 : dec m_Md_loops 3 = .ok (.istore_n 2, 1) := by decide +kernel
theorem d_Md_loops_4 : dec m_Md_loops 4 = .ok (.iload_n 2, 1) := by decide +kernel
theorem d_Md_loops_5 : dec m_Md_loops 5 = .ok (.aload_n 0, 1) := by decide +kernel
theorem d_Md_loops_6 : dec m_Md_loops 6 = .ok (.getfield 7, 3) := by decide +kernel
theorem d_Md_loops_9 : dec m_Md_loops 9 = .ok (.iconst 1, 1) := by decide +kernel
theorem d_Md_loops_10 : dec m_Md_loops 10 = .ok (.iaload, 1) := by decide +kernel
theorem d_Md_loops_11 : dec m_Md_loops 11 = .ok (.if_icmp .ge 19, 3) := by decide +kernel
theorem d_Md_loops_14 : dec m_Md_loops 14 = .ok (.iload_n 1, 1) := by decide +kernel
theorem d_Md_loops_15 : dec m_Md_loops 15 = .ok (.aload_n 0, 1) := by decide +kernel
theorem d_Md_loops_16 : dec m_Md_loops 16 = .ok (.iload_n 2, 1) := by decide +kernel
theorem d_Md_loops_17 : dec m_Md_loops 17 = .ok (.bipush 6, 2) := by decide +kernel
theorem d_Md_loops_19 : dec m_Md_loops 19 = .ok (.invokevirtual 80, 3) := by decide +kernel
theorem d_Md_loops_22 : dec m_Md_loops 22 = .ok (.iadd, 1) := by decide +kernel
theorem d_Md_loops_23 : dec m_Md_loops 23 = .ok (.istore_n 1, 1) := by decide +kernel
theorem d_Md_loops_24 : dec m_Md_loops 24 = .ok (.iinc 2 1, 3) := by decide +kernel
theorem d_Md_loops_27 : dec m_Md_loops 27 = .ok (.goto (-23), 3) := by decide +kernel
theorem d_Md_loops_30 : dec m_Md_loops 30 = .ok (.iload_n 1, 1) := by decide +kernel
theorem d_Md_loops_31 : dec m_Md_loops 31 = .ok (.ireturn, 1) := by decide +kernel
theorem d_Md_deepest_0 : dec m_Md_deepest 0 = .ok (.iconst 0, 1) := by decide +kernel
theorem d_Md_deepest_1 : dec m_Md_deepest 1 = .ok (.istore_n 1, 1) := by decide +kernel
theorem d_Md_deepest_2 : dec m_Md_deepest 2 = .ok (.iconst 0, 1) := by decide +kernel
theorem d_Md_deepest_3 : dec m_Md_deepest 3 = .ok (.istore_n 2, 1) := by decide +kernel
theorem d_Md_deepest_4 : dec m_Md_deepest 4 = .ok (.iload_n 2, 1) := by decide +kernel
theorem d_Md_deepest_5 : dec m_Md_deepest 5 = .ok (.aload_n 0, 1) := by decide +kernel
theorem d_Md_deepest_6 : dec m_Md_deepest 6 = .ok (.getfield 7, 3) := by decide +kernel
theorem d_Md_deepest_9 : dec m_Md_deepest 9 = .ok (.iconst 1, 1) := by decide +kernel
theorem d_Md_deepest_10 : dec m_Md_deepest 10 = .ok (.iaload, 1) := by decide +kernel
theorem d_Md_deepest_11 : dec m_Md_deepest 11 = .ok (.if_icmp .ge 28, 3) := by decide +kernel
theorem d_Md_deepest_14 : dec m_Md_deepest 14 = .ok (.aload_n 0, 1) := by decide +kernel
theorem d_Md_deepest_15 : dec m_Md_deepest 15 = .ok (.iload_n 2, 1) := by decide +kernel
theorem d_Md_deepest_16 : dec m_Md_deepest 16 = .ok (.invokevirtual 161, 3) := by decide +kernel
theorem d_Md_deepest_19 : dec m_Md_deepest 19 = .ok (.iload_n 1, 1) := by decide +kernel
theorem d_Md_deepest_20 : dec m_Md_deepest 20 = .ok (.if_icmp .le 11, 3) := by decide +kernel
theorem d_Md_deepest_23 : dec m_Md_deepest 23 = .ok (.aload_n 0, 1) := by decide +kernel
theorem d_Md_deepest_24 : dec m_Md_deepest 24 = .ok (.iload_n 2, 1) := by decide +kernel
theorem d_Md_deepest_25 : dec m_Md_deepest 25 = .ok (.invokevirtual 161, 3) := by decide +kernel
theorem d_Md_deepest_28 : dec m_Md_deepest 28 = .ok (.goto 4, 3) := by decide +kernel
theorem d_Md_deepest_31 : dec m_Md_deepest 31 = .ok (.iload_n 1, 1) := by decide +kernel
theorem d_Md_deepest_32 : dec m_Md_deepest 32 = .ok (.istore_n 1, 1) := by decide +kernel
theorem d_Md_deepest_33 : dec m_Md_deepest 33 = .ok (.iinc 2 1, 3) := by decide +kernel
theorem d_Md_deepest_36 : dec m_Md_deepest 36 = .ok (.goto (-32), 3) := by decide +kernel
theorem d_Md_deepest_39 : dec m_Md_deepest 39 = .ok (.iload_n 1, 1) := by decide +kernel
theorem d_Md_deepest_40 : dec m_Md_deepest 40 = .ok (.ireturn, 1) := by decide +kernel
theorem d_Md_ofTree_0 : dec m_Md_ofTree 0 = .ok (.iload_n 1, 1) := by decide +kernel
theorem d_Md_ofTree_1 : dec m_Md_ofTree 1 = .ok (.tableswitch 82 2 6 #[35, 35, 42, 70, 75], 35) := by decide +kernel
theorem d_Md_ofTree_36 : dec m_Md_ofTree 36 = .ok (.aload_n 0, 1) := by decide +kernel
theorem d_Md_ofTree_37 : dec m_Md_ofTree 37 = .ok (.iconst 0, 1) := by decide +kernel
theorem d_Md_ofTree_38 : dec m_Md_ofTree 38 = .ok (.iload_n 1, 1) := by decide +kernel
theorem d_Md_ofTree_39 : dec m_Md_ofTree 39 = .ok (.invokevirtual 80, 3) := by decide +kernel
theorem d_Md_ofTree_42 : dec m_Md_ofTree 42 = .ok (.ireturn, 1) := by decide +kernel
theorem d_Md_ofTree_43 : dec m_Md_ofTree 43 = .ok (.aload_n 0, 1) := by decide +kernel
theorem d_Md_ofTree_44 : dec m_Md_ofTree 44 = .ok (.iconst 0, 1) := by decide +kernel
theorem d_Md_ofTree_45 : dec m_Md_ofTree 45 = .ok (.iconst 2, 1) := by decide +kernel
theorem d_Md_ofTree_46 : dec m_Md_ofTree 46 = .ok (.invokevirtual 80, 3) := by decide +kernel
theorem d_Md_ofTree_49 : dec m_Md_ofTree 49 = .ok (.ifCond .ne 7, 3) := by decide +kernel
theorem d_Md_ofTree_52 : dec m_Md_ofTree 52 = .ok (.iconst 1, 1) := by decide +kernel
theorem d_Md_ofTree_53 : dec m_Md_ofTree 53 = .ok (.goto 17, 3) := by decide +kernel
theorem d_Md_ofTree_56 : dec m_Md_ofTree 56 = .ok (.aload_n 0, 1) := by decide +kernel
theorem d_Md_ofTree_57 : dec m_Md_ofTree 57 = .ok (.iconst 0, 1) := by decide +kernel
theorem d_Md_ofTree_58 : dec m_Md_ofTree 58 = .ok (.iconst 3, 1) := by decide +kernel
theorem d_Md_ofTree_59 : dec m_Md_ofTree 59 = .ok (.invokevirtual 80, 3) := by decide +kernel
theorem d_Md_ofTree_62 : dec m_Md_ofTree 62 = .ok (.ifCond .ne 7, 3) := by decide +kernel
theorem d_Md_ofTree_65 : dec m_Md_ofTree 65 = .ok (.iconst 2, 1) := by decide +kernel
theorem d_Md_ofTree_66 : dec m_Md_ofTree 66 = .ok (.goto 4, 3) := by decide +kernel
theorem d_Md_ofTree_69 : dec m_Md_ofTree 69 = .ok (.iconst 0, 1) := by decide +kernel
theorem d_Md_ofTree_70 : dec m_Md_ofTree 70 = .ok (.ireturn, 1) := by decide +kernel
theorem d_Md_ofTree_71 : dec m_Md_ofTree 71 = .ok (.aload_n 0, 1) := by decide +kernel
theorem d_Md_ofTree_72 : dec m_Md_ofTree 72 = .ok (.invokevirtual 167, 3) := by decide +kernel
theorem d_Md_ofTree_75 : dec m_Md_ofTree 75 = .ok (.ireturn, 1) := by decide +kernel
theorem d_Md_ofTree_76 : dec m_Md_ofTree 76 = .ok (.aload_n 0, 1) := by decide +kernel
theorem d_Md_ofTree_77 : dec m_Md_ofTree 77 = .ok (.getfield 7, 3) := by decide +kernel
theorem d_Md_ofTree_80 : dec m_Md_ofTree 80 = .ok (.iconst 2, 1) := by decide +kernel
theorem d_Md_ofTree_81 : dec m_Md_ofTree 81 = .ok (.iaload, 1) := by decide +kernel
theorem d_Md_ofTree_82 : dec m_Md_ofTree 82 = .ok (.ireturn, 1) := by decide +kernel
theorem d_Md_ofTree_83 : dec m_Md_ofTree 83 = .ok (.aload_n 0, 1) := by decide +kernel
theorem d_Md_ofTree_84 : dec m_Md_ofTree 84 = .ok (.invokevirtual 170, 3) := by decide +kernel
theorem d_Md_ofTree_87 : dec m_Md_ofTree 87 = .ok (.ireturn, 1) := by decide +kernel
theorem d_Md_count_0 : dec m_Md_count 0 = .ok (.aload_n 0, 1) := by decide +kernel
theorem d_Md_count_1 : dec m_Md_count 1 = .ok (.iconst 0, 1) := by decide +kernel
theorem d_Md_count_2 : dec m_Md_count 2 = .ok (.putfield 32, 3) := by decide +kernel
theorem d_Md_count_5 : dec m_Md_count 5 = .ok (.iload_n 1, 1) := by decide +kernel
theorem d_Md_count_6 : dec m_Md_count 6 = .ok (.tableswitch 87 0 10 #[58, 65, 87, 87, 87, 87, 87, 87, 72, 77, 82], 58) := by decide +kernel
theorem d_Md_count_64 : dec m_Md_count 64 = .ok (.aload_n 0, 1) := by decide +kernel
theorem d_Md_count_65 : dec m_Md_count 65 = .ok (.getfield 7, 3) := by decide +kernel
theorem d_Md_count_68 : dec m_Md_count 68 = .ok (.iconst 0, 1) := by decide +kernel
theorem d_Md_count_69 : dec m_Md_count 69 = .ok (.iaload, 1) := by decide +kernel
theorem d_Md_count_70 : dec m_Md_count 70 = .ok (.ireturn, 1) := by decide +kernel
theorem d_Md_count_71 : dec m_Md_count 71 = .ok (.aload_n 0, 1) := by decide +kernel
theorem d_Md_count_72 : dec m_Md_count 72 = .ok (.getfield 7, 3) := by decide +kernel
theorem d_Md_count_75 : dec m_Md_count 75 = .ok (.iconst 1, 1) := by decide +kernel
theorem d_Md_count_76 : dec m_Md_count 76 = .ok (.iaload, 1) := by decide +kernel
theorem d_Md_count_77 : dec m_Md_count 77 = .ok (.ireturn, 1) := by decide +kernel
theorem d_Md_count_78 : dec m_Md_count 78 = .ok (.aload_n 0, 1) := by decide +kernel
theorem d_Md_count_79 : dec m_Md_count 79 = .ok (.invokevirtual 173, 3) := by decide +kernel
theorem d_Md_count_82 : dec m_Md_count 82 = .ok (.ireturn, 1) := by decide +kernel
theorem d_Md_count_83 : dec m_Md_count 83 = .ok (.aload_n 0, 1) := by decide +kernel
theorem d_Md_count_84 : dec m_Md_count 84 = .ok (.getfield 40, 3) := by decide +kernel
theorem d_Md_count_87 : dec m_Md_count 87 = .ok (.ireturn, 1) := by decide +kernel
theorem d_Md_count_88 : dec m_Md_count 88 = .ok (.aload_n 0, 1) := by decide +kernel
theorem d_Md_count_89 : dec m_Md_count 89 = .ok (.getfield 124, 3) := by decide +kernel
theorem d_Md_count_92 : dec m_Md_count 92 = .ok (.ireturn, 1) := by decide +kernel
theorem d_Md_count_93 : dec m_Md_count 93 = .ok (.iload_n 1, 1) := by decide +kernel
theorem d_Md_count_94 : dec m_Md_count 94 = .ok (.iconst 2, 1) := by decide +kernel
theorem d_Md_count_95 : dec m_Md_count 95 = .ok (.bipush 7, 2) := by decide +kernel
theorem d_Md_count_97 : dec m_Md_count 97 = .ok (.invokestatic 36, 3) := by decide +kernel
theorem d_Md_count_100 : dec m_Md_count 100 = .ok (.ifCond .ne 8, 3) := by decide +kernel
theorem d_Md_count_103 : dec m_Md_count 103 = .ok (.bipush (-2), 2) := by decide +kernel
theorem d_Md_count_105 : dec m_Md_count 105 = .ok (.goto 22, 3) := by decide +kernel
theorem d_Md_count_108 : dec m_Md_count 108 = .ok (.aload_n 0, 1) := by decide +kernel
theorem d_Md_count_109 : dec m_Md_count 109 = .ok (.getfield 7, 3) := by decide +kernel
theorem d_Md_count_112 : dec m_Md_count 112 = .ok (.iconst 1, 1) := by decide +kernel
theorem d_Md_count_113 : dec m_Md_count 113 = .ok (.iaload, 1) := by decide +kernel
theorem d_Md_count_114 : dec m_Md_count 114 = .ok (.ifCond .ne 8, 3) := by decide +kernel
theorem d_Md_count_117 : dec m_Md_count 117 = .ok (.bipush (-5), 2) := by decide +kernel
theorem d_Md_count_119 : dec m_Md_count 119 = .ok (.goto 8, 3) := by decide +kernel
theorem d_Md_count_122 : dec m_Md_count 122 = .ok (.aload_n 0, 1) := by decide +kernel
theorem d_Md_count_123 : dec m_Md_count 123 = .ok (.iload_n 1, 1) := by decide +kernel
theorem d_Md_count_124 : dec m_Md_count 124 = .ok (.invokevirtual 176, 3) := by decide +kernel
theorem d_Md_count_127 : dec m_Md_count 127 = .ok (.ireturn, 1) := by decide +kernel
theorem d_Lw_law_0 : dec m_Lw_law 0 = .ok (.new 7, 3) := by decide +kernel
theorem d_Lw_law_3 : dec m_Lw_law 3 = .ok (.dup, 1) := by decide +kernel
theorem d_Lw_law_4 : dec m_Lw_law 4 = .ok (.invokespecial 9, 3) := by decide +kernel
theorem d_Lw_law_7 : dec m_Lw_law 7 = .ok (.astore_n 1, 1) := by decide +kernel
theorem d_Lw_law_8 : dec m_Lw_law 8 = .ok (.new 10, 3) := by decide +kernel
theorem d_Lw_law_11 : dec m_Lw_law 11 = .ok (.dup, 1) := by decide +kernel
theorem d_Lw_law_12 : dec m_Lw_law 12 = .ok (.invokespecial 12, 3) := by decide +kernel
theorem d_Lw_law_15 : dec m_Lw_law 15 = .ok (.astore_n 2, 1) := by decide +kernel
theorem d_Lw_law_16 : dec m_Lw_law 16 = .ok (.iconst 0, 1) := by decide +kernel
theorem d_Lw_law_17 : dec m_Lw_law 17 = .ok (.istore_n 3, 1) := by decide +kernel
theorem d_Lw_law_18 : dec m_Lw_law 18 = .ok (.iload_n 3, 1) := by decide +kernel
theorem d_Lw_law_19 : dec m_Lw_law 19 = .ok (.aload_n 0, 1) := by decide +kernel
theorem d_Lw_law_20 : dec m_Lw_law 20 = .ok (.arraylength, 1) := by decide +kernel
theorem d_Lw_law_21 : dec m_Lw_law 21 = .ok (.iconst 4, 1) := by decide +kernel
theorem d_Lw_law_22 : dec m_Lw_law 22 = .ok (.isub, 1) := by decide +kernel
theorem d_Lw_law_23 : dec m_Lw_law 23 = .ok (.if_icmp .gt 586, 3) := by decide +kernel
theorem d_Lw_law_26 : dec m_Lw_law 26 = .ok (.aload_n 0, 1) := by decide +kernel
theorem d_Lw_law_27 : dec m_Lw_law 27 = .ok (.iload_n 3, 1) := by decide +kernel
theorem d_Lw_law_28 : dec m_Lw_law 28 = .ok (.iaload, 1) := by decide +kernel
theorem d_Lw_law_29 : dec m_Lw_law 29 = .ok (.bipush 31, 2) := by decide +kernel
theorem d_Lw_law_31 : dec m_Lw_law 31 = .ok (.iand, 1) := by decide +kernel
theorem d_Lw_law_32 : dec m_Lw_law 32 = .ok (.tableswitch 571 0 18 #[92, 135, 178, 211, 244, 257, 280, 303, 328, 341, 354, 367, 380, 413, 446, 479, 502, 535, 548], 92) := by decide +kernel
theorem d_Lw_law_124 : dec m_Lw_law 124 = .ok (.aload_n 1, 1) := by decide +kernel
theorem d_Lw_law_125 : dec m_Lw_law 125 = .ok (.aload_n 0, 1) := by decide +kernel
theorem d_Lw_law_126 : dec m_Lw_law 126 = .ok (.iload_n 3, 1) := by decide +kernel
theorem d_Lw_law_127 : dec m_Lw_law 127 = .ok (.iconst 1, 1) := by decide +kernel
theorem d_Lw_law_128 : dec m_Lw_law 128 = .ok (.iadd, 1) := by decide +kernel
theorem d_Lw_law_129 : dec m_Lw_law 129 = .ok (.iaload, 1) := by decide +kernel
theorem d_Lw_law_130 : dec m_Lw_law 130 = .ok (.aload_n 0, 1) := by decide +kernel
theorem d_Lw_law_131 : dec m_Lw_law 131 = .ok (.iload_n 3, 1) := by decide +kernel
theorem d_Lw_law_132 : dec m_Lw_law 132 = .ok (.iconst 2, 1) := by decide +kernel
theorem d_Lw_law_133 : dec m_Lw_law 133 = .ok (.iadd, 1) := by decide +kernel
theorem d_Lw_law_134 : dec m_Lw_law 134 = .ok (.iaload, 1) := by decide +kernel
theorem d_Lw_law_135 : dec m_Lw_law 135 = .ok (.aload_n 0, 1) := by decide +kernel
theorem d_Lw_law_136 : dec m_Lw_law 136 = .ok (.iload_n 3, 1) := by decide +kernel
theorem d_Lw_law_137 : dec m_Lw_law 137 = .ok (.iconst 3, 1) := by decide +kernel
theorem d_Lw_law_138 : dec m_Lw_law 138 = .ok (.iadd, 1) := by decide +kernel
theorem d_Lw_law_139 : dec m_Lw_law 139 = .ok (.iaload, 1) := by decide +kernel
theorem d_Lw_law_140 : dec m_Lw_law 140 = .ok (.invokevirtual 13, 3) := by decide +kernel
theorem d_Lw_law_143 : dec m_Lw_law 143 = .ok (.aload_n 2, 1) := by decide +kernel
theorem d_Lw_law_144 : dec m_Lw_law 144 = .ok (.aload_n 0, 1) := by decide +kernel
theorem d_Lw_law_145 : dec m_Lw_law 145 = .ok (.iload_n 3, 1) := by decide +kernel
theorem d_Lw_law_146 : dec m_Lw_law 146 = .ok (.iconst 1, 1) := by decide +kernel
theorem d_Lw_law_147 : dec m_Lw_law 147 = .ok (.iadd, 1) := by decide +kernel
theorem d_Lw_law_148 : dec m_Lw_law 148 = .ok (.iaload, 1) := by decide +kernel
theorem d_Lw_law_149 : dec m_Lw_law 149 = .ok (.aload_n 0, 1) := by decide +kernel
theorem d_Lw_law_150 : dec m_Lw_law 150 = .ok (.iload_n 3, 1) := by decide +kernel
theorem d_Lw_law_151 : dec m_Lw_law 151 = .ok (.iconst 2, 1) := by decide +kernel
theorem d_Lw_law_152 : dec m_Lw_law 152 = .ok (.iadd, 1) := by decide +kernel
theorem d_Lw_law_153 : dec m_Lw_law 153 = .ok (.iaload, 1) := by decide +kernel
theorem d_Lw_law_154 : dec m_Lw_law 154 = .ok (.aload_n 0, 1) := by decide +kernel
theorem d_Lw_law_155 : dec m_Lw_law 155 = .ok (.iload_n 3, 1) := by decide +kernel
theorem d_Lw_law_156 : dec m_Lw_law 156 = .ok (.iconst 3, 1) := by decide +kernel
theorem d_Lw_law_157 : dec m_Lw_law 157 = .ok (.iadd, 1) := by decide +kernel
theorem d_Lw_law_158 : dec m_Lw_law 158 = .ok (.iaload, 1) := by decide +kernel
theorem d_Lw_law_159 : dec m_Lw_law 159 = .ok (.invokevirtual 17, 3) := by decide +kernel
theorem d_Lw_law_162 : dec m_Lw_law 162 = .ok (.if_icmp .eq 441, 3) := by decide +kernel
theorem d_Lw_law_165 : dec m_Lw_law 165 = .ok (.iconst 0, 1) := by decide +kernel
theorem d_Lw_law_166 : dec m_Lw_law 166 = .ok (.ireturn, 1) := by decide +kernel
theorem d_Lw_law_167 : dec m_Lw_law 167 = .ok (.aload_n 1, 1) := by decide +kernel
theorem d_Lw_law_168 : dec m_Lw_law 168 = .ok (.aload_n 0, 1) := by decide +kernel
theorem d_Lw_law_169 : dec m_Lw_law 169 = .ok (.iload_n 3, 1) := by decide +kernel
theorem d_Lw_law_170 : dec m_Lw_law 170 = .ok (.iconst 1, 1) := by decide +kernel
theorem d_Lw_law_171 : dec m_Lw_law 171 = .ok (.iadd, 1) := by decide +kernel
theorem d_Lw_law_172 : dec m_Lw_law 172 = .ok (.iaload, 1) := by decide +kernel
theorem d_Lw_law_173 : dec m_Lw_law 173 = .ok (.aload_n 0, 1) := by decide +kernel
theorem d_Lw_law_174 : dec m_Lw_law 174 = .ok (.iload_n 3, 1) := by decide +kernel
theorem d_Lw_law_175 : dec m_Lw_law 175 = .ok (.iconst 2, 1) := by decide +kernel
theorem d_Lw_law_176 : dec m_Lw_law 176 = .ok (.iadd, 1) := by decide +kernel
theorem d_Lw_law_177 : dec m_Lw_law 177 = .ok (.iaload, 1) := by decide +kernel
theorem d_Lw_law_178 : dec m_Lw_law 178 = .ok (.aload_n 0, 1) := by decide +kernel
theorem d_Lw_law_179 : dec m_Lw_law 179 = .ok (.iload_n 3, 1) := by decide +kernel
theorem d_Lw_law_180 : dec m_Lw_law 180 = .ok (.iconst 3, 1) := by decide +kernel
theorem d_Lw_law_181 : dec m_Lw_law 181 = .ok (.iadd, 1) := by decide +kernel
theorem d_Lw_law_182 : dec m_Lw_law 182 = .ok (.iaload, 1) := by decide +kernel
theorem d_Lw_law_183 : dec m_Lw_law 183 = .ok (.invokevirtual 18, 3) := by decide +kernel
theorem d_Lw_law_186 : dec m_Lw_law 186 = .ok (.aload_n 2, 1) := by decide +kernel
theorem d_Lw_law_187 : dec m_Lw_law 187 = .ok (.aload_n 0, 1) := by decide +kernel
theorem d_Lw_law_188 : dec m_Lw_law 188 = .ok (.iload_n 3, 1) := by decide +kernel
theorem d_Lw_law_189 : dec m_Lw_law 189 = .ok (.iconst 1, 1) := by decide +kernel
theorem d_Lw_law_190 : dec m_Lw_law 190 = .ok (.iadd, 1) := by decide +kernel
theorem d_Lw_law_191 : dec m_Lw_law 191 = .ok (.iaload, 1) := by decide +kernel
theorem d_Lw_law_192 : dec m_Lw_law 192 = .ok (.aload_n 0, 1) := by decide +kernel
theorem d_Lw_law_193 : dec m_Lw_law 193 = .ok (.iload_n 3, 1) := by decide +kernel
theorem d_Lw_law_194 : dec m_Lw_law 194 = .ok (.iconst 2, 1) := by decide +kernel
theorem d_Lw_law_195 : dec m_Lw_law 195 = .ok (.iadd, 1) := by decide +kernel
theorem d_Lw_law_196 : dec m_Lw_law 196 = .ok (.iaload, 1) := by decide +kernel
theorem d_Lw_law_197 : dec m_Lw_law 197 = .ok (.aload_n 0, 1) := by decide +kernel
theorem d_Lw_law_198 : dec m_Lw_law 198 = .ok (.iload_n 3, 1) := by decide +kernel
theorem d_Lw_law_199 : dec m_Lw_law 199 = .ok (.iconst 3, 1) := by decide +kernel
theorem d_Lw_law_200 : dec m_Lw_law 200 = .ok (.iadd, 1) := by decide +kernel
theorem d_Lw_law_201 : dec m_Lw_law 201 = .ok (.iaload, 1) := by decide +kernel
theorem d_Lw_law_202 : dec m_Lw_law 202 = .ok (.invokevirtual 21, 3) := by decide +kernel
theorem d_Lw_law_205 : dec m_Lw_law 205 = .ok (.if_icmp .eq 398, 3) := by decide +kernel
theorem d_Lw_law_208 : dec m_Lw_law 208 = .ok (.iconst 0, 1) := by decide +kernel
theorem d_Lw_law_209 : dec m_Lw_law 209 = .ok (.ireturn, 1) := by decide +kernel
theorem d_Lw_law_210 : dec m_Lw_law 210 = .ok (.aload_n 1, 1) := by decide +kernel
theorem d_Lw_law_211 : dec m_Lw_law 211 = .ok (.aload_n 0, 1) := by decide +kernel
theorem d_Lw_law_212 : dec m_Lw_law 212 = .ok (.iload_n 3, 1) := by decide +kernel
theorem d_Lw_law_213 : dec m_Lw_law 213 = .ok (.iconst 1, 1) := by decide +kernel
theorem d_Lw_law_214 : dec m_Lw_law 214 = .ok (.iadd, 1) := by decide +kernel
theorem d_Lw_law_215 : dec m_Lw_law 215 = .ok (.iaload, 1) := by decide +kernel
theorem d_Lw_law_216 : dec m_Lw_law 216 = .ok (.aload_n 0, 1) := by decide +kernel
theorem d_Lw_law_217 : dec m_Lw_law 217 = .ok (.iload_n 3, 1) := by decide +kernel
theorem d_Lw_law_218 : dec m_Lw_law 218 = .ok (.iconst 2, 1) := by decide +kernel
theorem d_Lw_law_219 : dec m_Lw_law 219 = .ok (.iadd, 1) := by decide +kernel
theorem d_Lw_law_220 : dec m_Lw_law 220 = .ok (.iaload, 1) := by decide +kernel
theorem d_Lw_law_221 : dec m_Lw_law 221 = .ok (.invokevirtual 22, 3) := by decide +kernel
theorem d_Lw_law_224 : dec m_Lw_law 224 = .ok (.aload_n 2, 1) := by decide +kernel
theorem d_Lw_law_225 : dec m_Lw_law 225 = .ok (.aload_n 0, 1) := by decide +kernel
theorem d_Lw_law_226 : dec m_Lw_law 226 = .ok (.iload_n 3, 1) := by decide +kernel
theorem d_Lw_law_227 : dec m_Lw_law 227 = .ok (.iconst 1, 1) := by decide +kernel
theorem d_Lw_law_228 : dec m_Lw_law 228 = .ok (.iadd, 1) := by decide +kernel
theorem d_Lw_law_229 : dec m_Lw_law 229 = .ok (.iaload, 1) := by decide +kernel
theorem d_Lw_law_230 : dec m_Lw_law 230 = .ok (.aload_n 0, 1) := by decide +kernel
theorem d_Lw_law_231 : dec m_Lw_law 231 = .ok (.iload_n 3, 1) := by decide +kernel
theorem d_Lw_law_232 : dec m_Lw_law 232 = .ok (.iconst 2, 1) := by decide +kernel
theorem d_Lw_law_233 : dec m_Lw_law 233 = .ok (.iadd, 1) := by decide +kernel
theorem d_Lw_law_234 : dec m_Lw_law 234 = .ok (.iaload, 1) := by decide +kernel
theorem d_Lw_law_235 : dec m_Lw_law 235 = .ok (.invokevirtual 26, 3) := by decide +kernel
theorem d_Lw_law_238 : dec m_Lw_law 238 = .ok (.if_icmp .eq 365, 3) := by decide +kernel
theorem d_Lw_law_241 : dec m_Lw_law 241 = .ok (.iconst 0, 1) := by decide +kernel
theorem d_Lw_law_242 : dec m_Lw_law 242 = .ok (.ireturn, 1) := by decide +kernel
theorem d_Lw_law_243 : dec m_Lw_law 243 = .ok (.aload_n 1, 1) := by decide +kernel
theorem d_Lw_law_244 : dec m_Lw_law 244 = .ok (.aload_n 0, 1) := by decide +kernel
theorem d_Lw_law_245 : dec m_Lw_law 245 = .ok (.iload_n 3, 1) := by decide +kernel
theorem d_Lw_law_246 : dec m_Lw_law 246 = .ok (.iconst 1, 1) := by decide +kernel
theorem d_Lw_law_247 : dec m_Lw_law 247 = .ok (.iadd, 1) := by decide +kernel
theorem d_Lw_law_248 : dec m_Lw_law 248 = .ok (.iaload, 1) := by decide +kernel
theorem d_Lw_law_249 : dec m_Lw_law 249 = .ok (.aload_n 0, 1) := by decide +kernel
theorem d_Lw_law_250 : dec m_Lw_law 250 = .ok (.iload_n 3, 1) := by decide +kernel
theorem d_Lw_law_251 : dec m_Lw_law 251 = .ok (.iconst 2, 1) := by decide +kernel
theorem d_Lw_law_252 : dec m_Lw_law 252 = .ok (.iadd, 1) := by decide +kernel
theorem d_Lw_law_253 : dec m_Lw_law 253 = .ok (.iaload, 1) := by decide +kernel
theorem d_Lw_law_254 : dec m_Lw_law 254 = .ok (.invokevirtual 27, 3) := by decide +kernel
theorem d_Lw_law_257 : dec m_Lw_law 257 = .ok (.aload_n 2, 1) := by decide +kernel
theorem d_Lw_law_258 : dec m_Lw_law 258 = .ok (.aload_n 0, 1) := by decide +kernel
theorem d_Lw_law_259 : dec m_Lw_law 259 = .ok (.iload_n 3, 1) := by decide +kernel
theorem d_Lw_law_260 : dec m_Lw_law 260 = .ok (.iconst 1, 1) := by decide +kernel
theorem d_Lw_law_261 : dec m_Lw_law 261 = .ok (.iadd, 1) := by decide +kernel
theorem d_Lw_law_262 : dec m_Lw_law 262 = .ok (.iaload, 1) := by decide +kernel
theorem d_Lw_law_263 : dec m_Lw_law 263 = .ok (.aload_n 0, 1) := by decide +kernel
theorem d_Lw_law_264 : dec m_Lw_law 264 = .ok (.iload_n 3, 1) := by decide +kernel
theorem d_Lw_law_265 : dec m_Lw_law 265 = .ok (.iconst 2, 1) := by decide +kernel
theorem d_Lw_law_266 : dec m_Lw_law 266 = .ok (.iadd, 1) := by decide +kernel
theorem d_Lw_law_267 : dec m_Lw_law 267 = .ok (.iaload, 1) := by decide +kernel
theorem d_Lw_law_268 : dec m_Lw_law 268 = .ok (.invokevirtual 30, 3) := by decide +kernel
theorem d_Lw_law_271 : dec m_Lw_law 271 = .ok (.if_icmp .eq 332, 3) := by decide +kernel
theorem d_Lw_law_274 : dec m_Lw_law 274 = .ok (.iconst 0, 1) := by decide +kernel
theorem d_Lw_law_275 : dec m_Lw_law 275 = .ok (.ireturn, 1) := by decide +kernel
theorem d_Lw_law_276 : dec m_Lw_law 276 = .ok (.aload_n 1, 1) := by decide +kernel
theorem d_Lw_law_277 : dec m_Lw_law 277 = .ok (.invokevirtual 31, 3) := by decide +kernel
theorem d_Lw_law_280 : dec m_Lw_law 280 = .ok (.aload_n 2, 1) := by decide +kernel
theorem d_Lw_law_281 : dec m_Lw_law 281 = .ok (.invokevirtual 35, 3) := by decide +kernel
theorem d_Lw_law_284 : dec m_Lw_law 284 = .ok (.if_icmp .eq 319, 3) := by decide +kernel
theorem d_Lw_law_287 : dec m_Lw_law 287 = .ok (.iconst 0, 1) := by decide +kernel
theorem d_Lw_law_288 : dec m_Lw_law 288 = .ok (.ireturn, 1) := by decide +kernel
theorem d_Lw_law_289 : dec m_Lw_law 289 = .ok (.aload_n 1, 1) := by decide +kernel
theorem d_Lw_law_290 : dec m_Lw_law 290 = .ok (.aload_n 0, 1) := by decide +kernel
theorem d_Lw_law_291 : dec m_Lw_law 291 = .ok (.iload_n 3, 1) := by decide +kernel
theorem d_Lw_law_292 : dec m_Lw_law 292 = .ok (.iconst 1, 1) := by decide +kernel
theorem d_Lw_law_293 : dec m_Lw_law 293 = .ok (.iadd, 1) := by decide +kernel
theorem d_Lw_law_294 : dec m_Lw_law 294 = .ok (.iaload, 1) := by decide +kernel
theorem d_Lw_law_295 : dec m_Lw_law 295 = .ok (.invokevirtual 36, 3) := by decide +kernel
theorem d_Lw_law_298 : dec m_Lw_law 298 = .ok (.aload_n 2, 1) := by decide +kernel
theorem d_Lw_law_299 : dec m_Lw_law 299 = .ok (.aload_n 0, 1) := by decide +kernel
theorem d_Lw_law_300 : dec m_Lw_law 300 = .ok (.iload_n 3, 1) := by decide +kernel
theorem d_Lw_law_301 : dec m_Lw_law 301 = .ok (.iconst 1, 1) := by decide +kernel
theorem d_Lw_law_302 : dec m_Lw_law 302 = .ok (.iadd, 1) := by decide +kernel
theorem d_Lw_law_303 : dec m_Lw_law 303 = .ok (.iaload, 1) := by decide +kernel
theorem d_Lw_law_304 : dec m_Lw_law 304 = .ok (.invokevirtual 40, 3) := by decide +kernel
theorem d_Lw_law_307 : dec m_Lw_law 307 = .ok (.if_icmp .eq 296, 3) := by decide +kernel
theorem d_Lw_law_310 : dec m_Lw_law 310 = .ok (.iconst 0, 1) := by decide +kernel
theorem d_Lw_law_311 : dec m_Lw_law 311 = .ok (.ireturn, 1) := by decide +kernel
theorem d_Lw_law_312 : dec m_Lw_law 312 = .ok (.aload_n 1, 1) := by decide +kernel
theorem d_Lw_law_313 : dec m_Lw_law 313 = .ok (.aload_n 0, 1) := by decide +kernel
theorem d_Lw_law_314 : dec m_Lw_law 314 = .ok (.iload_n 3, 1) := by decide +kernel
theorem d_Lw_law_315 : dec m_Lw_law 315 = .ok (.iconst 1, 1) := by decide +kernel
theorem d_Lw_law_316 : dec m_Lw_law 316 = .ok (.iadd, 1) := by decide +kernel
theorem d_Lw_law_317 : dec m_Lw_law 317 = .ok (.iaload, 1) := by decide +kernel
theorem d_Lw_law_318 : dec m_Lw_law 318 = .ok (.invokevirtual 41, 3) := by decide +kernel
theorem d_Lw_law_321 : dec m_Lw_law 321 = .ok (.aload_n 2, 1) := by decide +kernel
theorem d_Lw_law_322 : dec m_Lw_law 322 = .ok (.aload_n 0, 1) := by decide +kernel
theorem d_Lw_law_323 : dec m_Lw_law 323 = .ok (.iload_n 3, 1) := by decide +kernel
theorem d_Lw_law_324 : dec m_Lw_law 324 = .ok (.iconst 1, 1) := by decide +kernel
theorem d_Lw_law_325 : dec m_Lw_law 325 = .ok (.iadd, 1) := by decide +kernel
theorem d_Lw_law_326 : dec m_Lw_law 326 = .ok (.iaload, 1) := by decide +kernel
theorem d_Lw_law_327 : dec m_Lw_law 327 = .ok (.invokevirtual 44, 3) := by decide +kernel
theorem d_Lw_law_330 : dec m_Lw_law 330 = .ok (.if_icmp .eq 273, 3) := by decide +kernel
theorem d_Lw_law_333 : dec m_Lw_law 333 = .ok (.iconst 0, 1) := by decide +kernel
theorem d_Lw_law_334 : dec m_Lw_law 334 = .ok (.ireturn, 1) := by decide +kernel
theorem d_Lw_law_335 : dec m_Lw_law 335 = .ok (.aload_n 1, 1) := by decide +kernel
theorem d_Lw_law_336 : dec m_Lw_law 336 = .ok (.aload_n 0, 1) := by decide +kernel
theorem d_Lw_law_337 : dec m_Lw_law 337 = .ok (.iload_n 3, 1) := by decide +kernel
theorem d_Lw_law_338 : dec m_Lw_law 338 = .ok (.iconst 1, 1) := by decide +kernel
theorem d_Lw_law_339 : dec m_Lw_law 339 = .ok (.iadd, 1) := by decide +kernel
theorem d_Lw_law_340 : dec m_Lw_law 340 = .ok (.iaload, 1) := by decide +kernel
theorem d_Lw_law_341 : dec m_Lw_law 341 = .ok (.i2c, 1) := by decide +kernel
theorem d_Lw_law_342 : dec m_Lw_law 342 = .ok (.invokevirtual 45, 3) := by decide +kernel
theorem d_Lw_law_345 : dec m_Lw_law 345 = .ok (.aload_n 2, 1) := by decide +kernel
theorem d_Lw_law_346 : dec m_Lw_law 346 = .ok (.aload_n 0, 1) := by decide +kernel
theorem d_Lw_law_347 : dec m_Lw_law 347 = .ok (.iload_n 3, 1) := by decide +kernel
theorem d_Lw_law_348 : dec m_Lw_law 348 = .ok (.iconst 1, 1) := by decide +kernel
theorem d_Lw_law_349 : dec m_Lw_law 349 = .ok (.iadd, 1) := by decide +kernel
theorem d_Lw_law_350 : dec m_Lw_law 350 = .ok (.iaload, 1) := by decide +kernel
theorem d_Lw_law_351 : dec m_Lw_law 351 = .ok (.i2c, 1) := by decide +kernel
theorem d_Lw_law_352 : dec m_Lw_law 352 = .ok (.invokevirtual 49, 3) := by decide +kernel
theorem d_Lw_law_355 : dec m_Lw_law 355 = .ok (.if_icmp .eq 248, 3) := by decide +kernel
theorem d_Lw_law_358 : dec m_Lw_law 358 = .ok (.iconst 0, 1) := by decide +kernel
theorem d_Lw_law_359 : dec m_Lw_law 359 = .ok (.ireturn, 1) := by decide +kernel
theorem d_Lw_law_360 : dec m_Lw_law 360 = .ok (.aload_n 1, 1) := by decide +kernel
theorem d_Lw_law_361 : dec m_Lw_law 361 = .ok (.invokevirtual 50, 3) := by decide +kernel
theorem d_Lw_law_364 : dec m_Lw_law 364 = .ok (.aload_n 2, 1) := by decide +kernel
theorem d_Lw_law_365 : dec m_Lw_law 365 = .ok (.invokevirtual 53, 3) := by decide +kernel
theorem d_Lw_law_368 : dec m_Lw_law 368 = .ok (.if_icmp .eq 235, 3) := by decide +kernel
theorem d_Lw_law_371 : dec m_Lw_law 371 = .ok (.iconst 0, 1) := by decide +kernel
theorem d_Lw_law_372 : dec m_Lw_law 372 = .ok (.ireturn, 1) := by decide +kernel
theorem d_Lw_law_373 : dec m_Lw_law 373 = .ok (.aload_n 1, 1) := by decide +kernel
theorem d_Lw_law_374 : dec m_Lw_law 374 = .ok (.invokevirtual 54, 3) := by decide +kernel
theorem d_Lw_law_377 : dec m_Lw_law 377 = .ok (.aload_n 2, 1) := by decide +kernel
theorem d_Lw_law_378 : dec m_Lw_law 378 = .ok (.invokevirtual 57, 3) := by decide +kernel
theorem d_Lw_law_381 : dec m_Lw_law 381 = .ok (.if_icmp .eq 222, 3) := by decide +kernel
theorem d_Lw_law_384 : dec m_Lw_law 384 = .ok (.iconst 0, 1) := by decide +kernel
theorem d_Lw_law_385 : dec m_Lw_law 385 = .ok (.ireturn, 1) := by decide +kernel
theorem d_Lw_law_386 : dec m_Lw_law 386 = .ok (.aload_n 1, 1) := by decide +kernel
theorem d_Lw_law_387 : dec m_Lw_law 387 = .ok (.invokevirtual 58, 3) := by decide +kernel
theorem d_Lw_law_390 : dec m_Lw_law 390 = .ok (.aload_n 2, 1) := by decide +kernel
theorem d_Lw_law_391 : dec m_Lw_law 391 = .ok (.invokevirtual 61, 3) := by decide +kernel
theorem d_Lw_law_394 : dec m_Lw_law 394 = .ok (.if_icmp .eq 209, 3) := by decide +kernel
theorem d_Lw_law_397 : dec m_Lw_law 397 = .ok (.iconst 0, 1) := by decide +kernel
theorem d_Lw_law_398 : dec m_Lw_law 398 = .ok (.ireturn, 1) := by decide +kernel
theorem d_Lw_law_399 : dec m_Lw_law 399 = .ok (.aload_n 1, 1) := by decide +kernel
theorem d_Lw_law_400 : dec m_Lw_law 400 = .ok (.invokevirtual 62, 3) := by decide +kernel
theorem d_Lw_law_403 : dec m_Lw_law 403 = .ok (.aload_n 2, 1) := by decide +kernel
theorem d_Lw_law_404 : dec m_Lw_law 404 = .ok (.invokevirtual 65, 3) := by decide +kernel
theorem d_Lw_law_407 : dec m_Lw_law 407 = .ok (.if_icmp .eq 196, 3) := by decide +kernel
theorem d_Lw_law_410 : dec m_Lw_law 410 = .ok (.iconst 0, 1) := by decide +kernel
theorem d_Lw_law_411 : dec m_Lw_law 411 = .ok (.ireturn, 1) := by decide +kernel
theorem d_Lw_law_412 : dec m_Lw_law 412 = .ok (.aload_n 1, 1) := by decide +kernel
theorem d_Lw_law_413 : dec m_Lw_law 413 = .ok (.aload_n 0, 1) := by decide +kernel
theorem d_Lw_law_414 : dec m_Lw_law 414 = .ok (.iload_n 3, 1) := by decide +kernel
theorem d_Lw_law_415 : dec m_Lw_law 415 = .ok (.iconst 1, 1) := by decide +kernel
theorem d_Lw_law_416 : dec m_Lw_law 416 = .ok (.iadd, 1) := by decide +kernel
theorem d_Lw_law_417 : dec m_Lw_law 417 = .ok (.iaload, 1) := by decide +kernel
theorem d_Lw_law_418 : dec m_Lw_law 418 = .ok (.aload_n 0, 1) := by decide +kernel
theorem d_Lw_law_419 : dec m_Lw_law 419 = .ok (.iload_n 3, 1) := by decide +kernel
theorem d_Lw_law_420 : dec m_Lw_law 420 = .ok (.iconst 2, 1) := by decide +kernel
theorem d_Lw_law_421 : dec m_Lw_law 421 = .ok (.iadd, 1) := by decide +kernel
theorem d_Lw_law_422 : dec m_Lw_law 422 = .ok (.iaload, 1) := by decide +kernel
theorem d_Lw_law_423 : dec m_Lw_law 423 = .ok (.invokevirtual 66, 3) := by decide +kernel
theorem d_Lw_law_426 : dec m_Lw_law 426 = .ok (.aload_n 2, 1) := by decide +kernel
theorem d_Lw_law_427 : dec m_Lw_law 427 = .ok (.aload_n 0, 1) := by decide +kernel
theorem d_Lw_law_428 : dec m_Lw_law 428 = .ok (.iload_n 3, 1) := by decide +kernel
theorem d_Lw_law_429 : dec m_Lw_law 429 = .ok (.iconst 1, 1) := by decide +kernel
theorem d_Lw_law_430 : dec m_Lw_law 430 = .ok (.iadd, 1) := by decide +kernel
theorem d_Lw_law_431 : dec m_Lw_law 431 = .ok (.iaload, 1) := by decide +kernel
theorem d_Lw_law_432 : dec m_Lw_law 432 = .ok (.aload_n 0, 1) := by decide +kernel
theorem d_Lw_law_433 : dec m_Lw_law 433 = .ok (.iload_n 3, 1) := by decide +kernel
theorem d_Lw_law_434 : dec m_Lw_law 434 = .ok (.iconst 2, 1) := by decide +kernel
theorem d_Lw_law_435 : dec m_Lw_law 435 = .ok (.iadd, 1) := by decide +kernel
theorem d_Lw_law_436 : dec m_Lw_law 436 = .ok (.iaload, 1) := by decide +kernel
theorem d_Lw_law_437 : dec m_Lw_law 437 = .ok (.invokevirtual 69, 3) := by decide +kernel
theorem d_Lw_law_440 : dec m_Lw_law 440 = .ok (.if_icmp .eq 163, 3) := by decide +kernel
theorem d_Lw_law_443 : dec m_Lw_law 443 = .ok (.iconst 0, 1) := by decide +kernel
theorem d_Lw_law_444 : dec m_Lw_law 444 = .ok (.ireturn, 1) := by decide +kernel
theorem d_Lw_law_445 : dec m_Lw_law 445 = .ok (.aload_n 1, 1) := by decide +kernel
theorem d_Lw_law_446 : dec m_Lw_law 446 = .ok (.aload_n 0, 1) := by decide +kernel
theorem d_Lw_law_447 : dec m_Lw_law 447 = .ok (.iload_n 3, 1) := by decide +kernel
theorem d_Lw_law_448 : dec m_Lw_law 448 = .ok (.iconst 1, 1) := by decide +kernel
theorem d_Lw_law_449 : dec m_Lw_law 449 = .ok (.iadd, 1) := by decide +kernel
theorem d_Lw_law_450 : dec m_Lw_law 450 = .ok (.iaload, 1) := by decide +kernel
theorem d_Lw_law_451 : dec m_Lw_law 451 = .ok (.aload_n 0, 1) := by decide +kernel
theorem d_Lw_law_452 : dec m_Lw_law 452 = .ok (.iload_n 3, 1) := by decide +kernel
theorem d_Lw_law_453 : dec m_Lw_law 453 = .ok (.iconst 2, 1) := by decide +kernel
theorem d_Lw_law_454 : dec m_Lw_law 454 = .ok (.iadd, 1) := by decide +kernel
theorem d_Lw_law_455 : dec m_Lw_law 455 = .ok (.iaload, 1) := by decide +kernel
theorem d_Lw_law_456 : dec m_Lw_law 456 = .ok (.invokevirtual 70, 3) := by decide +kernel
theorem d_Lw_law_459 : dec m_Lw_law 459 = .ok (.aload_n 2, 1) := by decide +kernel
theorem d_Lw_law_460 : dec m_Lw_law 460 = .ok (.aload_n 0, 1) := by decide +kernel
theorem d_Lw_law_461 : dec m_Lw_law 461 = .ok (.iload_n 3, 1) := by decide +kernel
theorem d_Lw_law_462 : dec m_Lw_law 462 = .ok (.iconst 1, 1) := by decide +kernel
theorem d_Lw_law_463 : dec m_Lw_law 463 = .ok (.iadd, 1) := by decide +kernel
theorem d_Lw_law_464 : dec m_Lw_law 464 = .ok (.iaload, 1) := by decide +kernel
theorem d_Lw_law_465 : dec m_Lw_law 465 = .ok (.aload_n 0, 1) := by decide +kernel
theorem d_Lw_law_466 : dec m_Lw_law 466 = .ok (.iload_n 3, 1) := by decide +kernel
theorem d_Lw_law_467 : dec m_Lw_law 467 = .ok (.iconst 2, 1) := by decide +kernel
theorem d_Lw_law_468 : dec m_Lw_law 468 = .ok (.iadd, 1) := by decide +kernel
theorem d_Lw_law_469 : dec m_Lw_law 469 = .ok (.iaload, 1) := by decide +kernel
theorem d_Lw_law_470 : dec m_Lw_law 470 = .ok (.invokevirtual 73, 3) := by decide +kernel
theorem d_Lw_law_473 : dec m_Lw_law 473 = .ok (.if_icmp .eq 130, 3) := by decide +kernel
theorem d_Lw_law_476 : dec m_Lw_law 476 = .ok (.iconst 0, 1) := by decide +kernel
theorem d_Lw_law_477 : dec m_Lw_law 477 = .ok (.ireturn, 1) := by decide +kernel
theorem d_Lw_law_478 : dec m_Lw_law 478 = .ok (.aload_n 1, 1) := by decide +kernel
theorem d_Lw_law_479 : dec m_Lw_law 479 = .ok (.aload_n 0, 1) := by decide +kernel
theorem d_Lw_law_480 : dec m_Lw_law 480 = .ok (.iload_n 3, 1) := by decide +kernel
theorem d_Lw_law_481 : dec m_Lw_law 481 = .ok (.iconst 1, 1) := by decide +kernel
theorem d_Lw_law_482 : dec m_Lw_law 482 = .ok (.iadd, 1) := by decide +kernel
theorem d_Lw_law_483 : dec m_Lw_law 483 = .ok (.iaload, 1) := by decide +kernel
theorem d_Lw_law_484 : dec m_Lw_law 484 = .ok (.aload_n 0, 1) := by decide +kernel
theorem d_Lw_law_485 : dec m_Lw_law 485 = .ok (.iload_n 3, 1) := by decide +kernel
theorem d_Lw_law_486 : dec m_Lw_law 486 = .ok (.iconst 2, 1) := by decide +kernel
theorem d_Lw_law_487 : dec m_Lw_law 487 = .ok (.iadd, 1) := by decide +kernel
theorem d_Lw_law_488 : dec m_Lw_law 488 = .ok (.iaload, 1) := by decide +kernel
theorem d_Lw_law_489 : dec m_Lw_law 489 = .ok (.invokevirtual 74, 3) := by decide +kernel
theorem d_Lw_law_492 : dec m_Lw_law 492 = .ok (.aload_n 2, 1) := by decide +kernel
theorem d_Lw_law_493 : dec m_Lw_law 493 = .ok (.aload_n 0, 1) := by decide +kernel
theorem d_Lw_law_494 : dec m_Lw_law 494 = .ok (.iload_n 3, 1) := by decide +kernel
theorem d_Lw_law_495 : dec m_Lw_law 495 = .ok (.iconst 1, 1) := by decide +kernel
theorem d_Lw_law_496 : dec m_Lw_law 496 = .ok (.iadd, 1) := by decide +kernel
theorem d_Lw_law_497 : dec m_Lw_law 497 = .ok (.iaload, 1) := by decide +kernel
theorem d_Lw_law_498 : dec m_Lw_law 498 = .ok (.aload_n 0, 1) := by decide +kernel
theorem d_Lw_law_499 : dec m_Lw_law 499 = .ok (.iload_n 3, 1) := by decide +kernel
theorem d_Lw_law_500 : dec m_Lw_law 500 = .ok (.iconst 2, 1) := by decide +kernel
theorem d_Lw_law_501 : dec m_Lw_law 501 = .ok (.iadd, 1) := by decide +kernel
theorem d_Lw_law_502 : dec m_Lw_law 502 = .ok (.iaload, 1) := by decide +kernel
theorem d_Lw_law_503 : dec m_Lw_law 503 = .ok (.invokevirtual 77, 3) := by decide +kernel
theorem d_Lw_law_506 : dec m_Lw_law 506 = .ok (.if_icmp .eq 97, 3) := by decide +kernel
theorem d_Lw_law_509 : dec m_Lw_law 509 = .ok (.iconst 0, 1) := by decide +kernel
theorem d_Lw_law_510 : dec m_Lw_law 510 = .ok (.ireturn, 1) := by decide +kernel
theorem d_Lw_law_511 : dec m_Lw_law 511 = .ok (.aload_n 1, 1) := by decide +kernel
theorem d_Lw_law_512 : dec m_Lw_law 512 = .ok (.aload_n 0, 1) := by decide +kernel
theorem d_Lw_law_513 : dec m_Lw_law 513 = .ok (.iload_n 3, 1) := by decide +kernel
theorem d_Lw_law_514 : dec m_Lw_law 514 = .ok (.iconst 1, 1) := by decide +kernel
theorem d_Lw_law_515 : dec m_Lw_law 515 = .ok (.iadd, 1) := by decide +kernel
theorem d_Lw_law_516 : dec m_Lw_law 516 = .ok (.iaload, 1) := by decide +kernel
theorem d_Lw_law_517 : dec m_Lw_law 517 = .ok (.invokevirtual 78, 3) := by decide +kernel
theorem d_Lw_law_520 : dec m_Lw_law 520 = .ok (.aload_n 2, 1) := by decide +kernel
theorem d_Lw_law_521 : dec m_Lw_law 521 = .ok (.aload_n 0, 1) := by decide +kernel
theorem d_Lw_law_522 : dec m_Lw_law 522 = .ok (.iload_n 3, 1) := by decide +kernel
theorem d_Lw_law_523 : dec m_Lw_law 523 = .ok (.iconst 1, 1) := by decide +kernel
theorem d_Lw_law_524 : dec m_Lw_law 524 = .ok (.iadd, 1) := by decide +kernel
theorem d_Lw_law_525 : dec m_Lw_law 525 = .ok (.iaload, 1) := by decide +kernel
theorem d_Lw_law_526 : dec m_Lw_law 526 = .ok (.invokevirtual 81, 3) := by decide +kernel
theorem d_Lw_law_529 : dec m_Lw_law 529 = .ok (.if_icmp .eq 74, 3) := by decide +kernel
theorem d_Lw_law_532 : dec m_Lw_law 532 = .ok (.iconst 0, 1) := by decide +kernel
theorem d_Lw_law_533 : dec m_Lw_law 533 = .ok (.ireturn, 1) := by decide +kernel
theorem d_Lw_law_534 : dec m_Lw_law 534 = .ok (.aload_n 1, 1) := by decide +kernel
theorem d_Lw_law_535 : dec m_Lw_law 535 = .ok (.aload_n 0, 1) := by decide +kernel
theorem d_Lw_law_536 : dec m_Lw_law 536 = .ok (.iload_n 3, 1) := by decide +kernel
theorem d_Lw_law_537 : dec m_Lw_law 537 = .ok (.iconst 1, 1) := by decide +kernel
theorem d_Lw_law_538 : dec m_Lw_law 538 = .ok (.iadd, 1) := by decide +kernel
theorem d_Lw_law_539 : dec m_Lw_law 539 = .ok (.iaload, 1) := by decide +kernel
theorem d_Lw_law_540 : dec m_Lw_law 540 = .ok (.aload_n 0, 1) := by decide +kernel
theorem d_Lw_law_541 : dec m_Lw_law 541 = .ok (.iload_n 3, 1) := by decide +kernel
theorem d_Lw_law_542 : dec m_Lw_law 542 = .ok (.iconst 2, 1) := by decide +kernel
theorem d_Lw_law_543 : dec m_Lw_law 543 = .ok (.iadd, 1) := by decide +kernel
theorem d_Lw_law_544 : dec m_Lw_law 544 = .ok (.iaload, 1) := by decide +kernel
theorem d_Lw_law_545 : dec m_Lw_law 545 = .ok (.invokevirtual 82, 3) := by decide +kernel
theorem d_Lw_law_548 : dec m_Lw_law 548 = .ok (.aload_n 2, 1) := by decide +kernel
theorem d_Lw_law_549 : dec m_Lw_law 549 = .ok (.aload_n 0, 1) := by decide +kernel
theorem d_Lw_law_550 : dec m_Lw_law 550 = .ok (.iload_n 3, 1) := by decide +kernel
theorem d_Lw_law_551 : dec m_Lw_law 551 = .ok (.iconst 1, 1) := by decide +kernel
theorem d_Lw_law_552 : dec m_Lw_law 552 = .ok (.iadd, 1) := by decide +kernel
theorem d_Lw_law_553 : dec m_Lw_law 553 = .ok (.iaload, 1) := by decide +kernel
theorem d_Lw_law_554 : dec m_Lw_law 554 = .ok (.aload_n 0, 1) := by decide +kernel
theorem d_Lw_law_555 : dec m_Lw_law 555 = .ok (.iload_n 3, 1) := by decide +kernel
theorem d_Lw_law_556 : dec m_Lw_law 556 = .ok (.iconst 2, 1) := by decide +kernel
theorem d_Lw_law_557 : dec m_Lw_law 557 = .ok (.iadd, 1) := by decide +kernel
theorem d_Lw_law_558 : dec m_Lw_law 558 = .ok (.iaload, 1) := by decide +kernel
theorem d_Lw_law_559 : dec m_Lw_law 559 = .ok (.invokevirtual 85, 3) := by decide +kernel
theorem d_Lw_law_562 : dec m_Lw_law 562 = .ok (.if_icmp .eq 41, 3) := by decide +kernel
theorem d_Lw_law_565 : dec m_Lw_law 565 = .ok (.iconst 0, 1) := by decide +kernel
theorem d_Lw_law_566 : dec m_Lw_law 566 = .ok (.ireturn, 1) := by decide +kernel
theorem d_Lw_law_567 : dec m_Lw_law 567 = .ok (.aload_n 1, 1) := by decide +kernel
theorem d_Lw_law_568 : dec m_Lw_law 568 = .ok (.invokevirtual 86, 3) := by decide +kernel
theorem d_Lw_law_571 : dec m_Lw_law 571 = .ok (.aload_n 2, 1) := by decide +kernel
theorem d_Lw_law_572 : dec m_Lw_law 572 = .ok (.invokevirtual 89, 3) := by decide +kernel
theorem d_Lw_law_575 : dec m_Lw_law 575 = .ok (.if_icmp .eq 28, 3) := by decide +kernel
theorem d_Lw_law_578 : dec m_Lw_law 578 = .ok (.iconst 0, 1) := by decide +kernel
theorem d_Lw_law_579 : dec m_Lw_law 579 = .ok (.ireturn, 1) := by decide +kernel
theorem d_Lw_law_580 : dec m_Lw_law 580 = .ok (.aload_n 1, 1) := by decide +kernel
theorem d_Lw_law_581 : dec m_Lw_law 581 = .ok (.aload_n 0, 1) := by decide +kernel
theorem d_Lw_law_582 : dec m_Lw_law 582 = .ok (.iload_n 3, 1) := by decide +kernel
theorem d_Lw_law_583 : dec m_Lw_law 583 = .ok (.iconst 1, 1) := by decide +kernel
theorem d_Lw_law_584 : dec m_Lw_law 584 = .ok (.iadd, 1) := by decide +kernel
theorem d_Lw_law_585 : dec m_Lw_law 585 = .ok (.iaload, 1) := by decide +kernel
theorem d_Lw_law_586 : dec m_Lw_law 586 = .ok (.invokevirtual 90, 3) := by decide +kernel
theorem d_Lw_law_589 : dec m_Lw_law 589 = .ok (.aload_n 2, 1) := by decide +kernel
theorem d_Lw_law_590 : dec m_Lw_law 590 = .ok (.aload_n 0, 1) := by decide +kernel
theorem d_Lw_law_591 : dec m_Lw_law 591 = .ok (.iload_n 3, 1) := by decide +kernel
theorem d_Lw_law_592 : dec m_Lw_law 592 = .ok (.iconst 1, 1) := by decide +kernel
theorem d_Lw_law_593 : dec m_Lw_law 593 = .ok (.iadd, 1) := by decide +kernel
theorem d_Lw_law_594 : dec m_Lw_law 594 = .ok (.iaload, 1) := by decide +kernel
theorem d_Lw_law_595 : dec m_Lw_law 595 = .ok (.invokevirtual 93, 3) := by decide +kernel
theorem d_Lw_law_598 : dec m_Lw_law 598 = .ok (.if_icmp .eq 5, 3) := by decide +kernel
theorem d_Lw_law_601 : dec m_Lw_law 601 = .ok (.iconst 0, 1) := by decide +kernel
theorem d_Lw_law_602 : dec m_Lw_law 602 = .ok (.ireturn, 1) := by decide +kernel
theorem d_Lw_law_603 : dec m_Lw_law 603 = .ok (.iinc 3 4, 3) := by decide +kernel
theorem d_Lw_law_606 : dec m_Lw_law 606 = .ok (.goto (-588), 3) := by decide +kernel
theorem d_Lw_law_609 : dec m_Lw_law 609 = .ok (.iconst 1, 1) := by decide +kernel
theorem d_Lw_law_610 : dec m_Lw_law 610 = .ok (.ireturn, 1) := by decide +kernel
