theorem d_Gm_init_0 : dec m_Gm_init 0 = .ok (.aload_n 0, 1) := by decide +kernel
theorem d_Gm_init_1 : dec m_Gm_init 1 = .ok (.invokespecial 3, 3) := by decide +kernel
theorem d_Gm_init_4 : dec m_Gm_init 4 = .ok (.aload_n 0, 1) := by decide +kernel
theorem d_Gm_init_5 : dec m_Gm_init 5 = .ok (.new 9, 3) := by decide +kernel
theorem d_Gm_init_8 : dec m_Gm_init 8 = .ok (.dup, 1) := by decide +kernel
theorem d_Gm_init_9 : dec m_Gm_init 9 = .ok (.bipush 20, 2) := by decide +kernel
theorem d_Gm_init_11 : dec m_Gm_init 11 = .ok (.invokespecial 11, 3) := by decide +kernel
theorem d_Gm_init_14 : dec m_Gm_init 14 = .ok (.putfield 14, 3) := by decide +kernel
theorem d_Gm_init_17 : dec m_Gm_init 17 = .ok (.aload_n 0, 1) := by decide +kernel
theorem d_Gm_init_18 : dec m_Gm_init 18 = .ok (.new 9, 3) := by decide +kernel
theorem d_Gm_init_21 : dec m_Gm_init 21 = .ok (.dup, 1) := by decide +kernel
theorem d_Gm_init_22 : dec m_Gm_init 22 = .ok (.bipush 20, 2) := by decide +kernel
theorem d_Gm_init_24 : dec m_Gm_init 24 = .ok (.invokespecial 11, 3) := by decide +kernel
theorem d_Gm_init_27 : dec m_Gm_init 27 = .ok (.putfield 20, 3) := by decide +kernel
theorem d_Gm_init_30 : dec m_Gm_init 30 = .ok (.aload_n 0, 1) := by decide +kernel
theorem d_Gm_init_31 : dec m_Gm_init 31 = .ok (.new 9, 3) := by decide +kernel
theorem d_Gm_init_34 : dec m_Gm_init 34 = .ok (.dup, 1) := by decide +kernel
theorem d_Gm_init_35 : dec m_Gm_init 35 = .ok (.bipush 20, 2) := by decide +kernel
theorem d_Gm_init_37 : dec m_Gm_init 37 = .ok (.invokespecial 11, 3) := by decide +kernel
theorem d_Gm_init_40 : dec m_Gm_init 40 = .ok (.putfield 23, 3) := by decide +kernel
theorem d_Gm_init_43 : dec m_Gm_init 43 = .ok (.aload_n 0, 1) := by decide +kernel
theorem d_Gm_init_44 : dec m_Gm_init 44 = .ok (.new 9, 3) := by decide +kernel
theorem d_Gm_init_47 : dec m_Gm_init 47 = .ok (.dup, 1) := by decide +kernel
theorem d_Gm_init_48 : dec m_Gm_init 48 = .ok (.bipush 20, 2) := by decide +kernel
theorem d_Gm_init_50 : dec m_Gm_init 50 = .ok (.invokespecial 11, 3) := by decide +kernel
theorem d_Gm_init_53 : dec m_Gm_init 53 = .ok (.putfield 26, 3) := by decide +kernel
theorem d_Gm_init_56 : dec m_Gm_init 56 = .ok (.aload_n 0, 1) := by decide +kernel
theorem d_Gm_init_57 : dec m_Gm_init 57 = .ok (.new 9, 3) := by decide +kernel
theorem d_Gm_init_60 : dec m_Gm_init 60 = .ok (.dup, 1) := by decide +kernel
theorem d_Gm_init_61 : dec m_Gm_init 61 = .ok (.bipush 20, 2) := by decide +kernel
theorem d_Gm_init_63 : dec m_Gm_init 63 = .ok (.invokespecial 11, 3) := by decide +kernel
theorem d_Gm_init_66 : dec m_Gm_init 66 = .ok (.putfield 29, 3) := by decide +kernel
theorem d_Gm_init_69 : dec m_Gm_init 69 = .ok (.aload_n 0, 1) := by decide +kernel
theorem d_Gm_init_70 : dec m_Gm_init 70 = .ok (.new 9, 3) := by decide +kernel
theorem d_Gm_init_73 : dec m_Gm_init 73 = .ok (.dup, 1) := by decide +kernel
theorem d_Gm_init_74 : dec m_Gm_init 74 = .ok (.sipush 400, 3) := by decide +kernel
theorem d_Gm_init_77 : dec m_Gm_init 77 = .ok (.invokespecial 11, 3) := by decide +kernel
theorem d_Gm_init_80 : dec m_Gm_init 80 = .ok (.putfield 32, 3) := by decide +kernel
theorem d_Gm_init_83 : dec m_Gm_init 83 = .ok (.aload_n 0, 1) := by decide +kernel
theorem d_Gm_init_84 : dec m_Gm_init 84 = .ok (.getfield 23, 3) := by decide +kernel
theorem d_Gm_init_87 : dec m_Gm_init 87 = .ok (.iconst 1, 1) := by decide +kernel
theorem d_Gm_init_88 : dec m_Gm_init 88 = .ok (.invokevirtual 35, 3) := by decide +kernel
theorem d_Gm_init_91 : dec m_Gm_init 91 = .ok (.aload_n 0, 1) := by decide +kernel
theorem d_Gm_init_92 : dec m_Gm_init 92 = .ok (.getfield 26, 3) := by decide +kernel
theorem d_Gm_init_95 : dec m_Gm_init 95 = .ok (.iconst 1, 1) := by decide +kernel
theorem d_Gm_init_96 : dec m_Gm_init 96 = .ok (.invokevirtual 35, 3) := by decide +kernel
theorem d_Gm_init_99 : dec m_Gm_init 99 = .ok (.return_, 1) := by decide +kernel
theorem d_Gm_copyFrom_0 : dec m_Gm_copyFrom 0 = .ok (.aload_n 0, 1) := by decide +kernel
theorem d_Gm_copyFrom_1 : dec m_Gm_copyFrom 1 = .ok (.aload_n 1, 1) := by decide +kernel
theorem d_Gm_copyFrom_2 : dec m_Gm_copyFrom 2 = .ok (.invokevirtual 38, 3) := by decide +kernel
theorem d_Gm_copyFrom_5 : dec m_Gm_copyFrom 5 = .ok (.aload_n 0, 1) := by decide +kernel
theorem d_Gm_copyFrom_6 : dec m_Gm_copyFrom 6 = .ok (.getfield 23, 3) := by decide +kernel
theorem d_Gm_copyFrom_9 : dec m_Gm_copyFrom 9 = .ok (.aload_n 1, 1) := by decide +kernel
theorem d_Gm_copyFrom_10 : dec m_Gm_copyFrom 10 = .ok (.getfield 23, 3) := by decide +kernel
theorem d_Gm_copyFrom_13 : dec m_Gm_copyFrom 13 = .ok (.invokevirtual 42, 3) := by decide +kernel
theorem d_Gm_copyFrom_16 : dec m_Gm_copyFrom 16 = .ok (.aload_n 0, 1) := by decide +kernel
theorem d_Gm_copyFrom_17 : dec m_Gm_copyFrom 17 = .ok (.getfield 26, 3) := by decide +kernel
theorem d_Gm_copyFrom_20 : dec m_Gm_copyFrom 20 = .ok (.aload_n 1, 1) := by decide +kernel
theorem d_Gm_copyFrom_21 : dec m_Gm_copyFrom 21 = .ok (.getfield 26, 3) := by decide +kernel
theorem d_Gm_copyFrom_24 : dec m_Gm_copyFrom 24 = .ok (.invokevirtual 42, 3) := by decide +kernel
theorem d_Gm_copyFrom_27 : dec m_Gm_copyFrom 27 = .ok (.return_, 1) := by decide +kernel
theorem d_Gm_copyAllButGuesses_0 : dec m_Gm_copyAllButGuesses 0 = .ok (.aload_n 0, 1) := by decide +kernel
theorem d_Gm_copyAllButGuesses_1 : dec m_Gm_copyAllButGuesses 1 = .ok (.getfield 14, 3) := by decide +kernel
theorem d_Gm_copyAllButGuesses_4 : dec m_Gm_copyAllButGuesses 4 = .ok (.aload_n 1, 1) := by decide +kernel
theorem d_Gm_copyAllButGuesses_5 : dec m_Gm_copyAllButGuesses 5 = .ok (.getfield 14, 3) := by decide +kernel
theorem d_Gm_copyAllButGuesses_8 : dec m_Gm_copyAllButGuesses 8 = .ok (.invokevirtual 42, 3) := by decide +kernel
theorem d_Gm_copyAllButGuesses_11 : dec m_Gm_copyAllButGuesses 11 = .ok (.aload_n 0, 1) := by decide +kernel
theorem d_Gm_copyAllButGuesses_12 : dec m_Gm_copyAllButGuesses 12 = .ok (.getfield 20, 3) := by decide +kernel
theorem d_Gm_copyAllButGuesses_15 : dec m_Gm_copyAllButGuesses 15 = .ok (.aload_n 1, 1) := by decide +kernel
theorem d_Gm_copyAllButGuesses_16 : dec m_Gm_copyAllButGuesses 16 = .ok (.getfield 20, 3) := by decide +kernel
theorem d_Gm_copyAllButGuesses_19 : dec m_Gm_copyAllButGuesses 19 = .ok (.invokevirtual 42, 3) := by decide +kernel
theorem d_Gm_copyAllButGuesses_22 : dec m_Gm_copyAllButGuesses 22 = .ok (.aload_n 0, 1) := by decide +kernel
theorem d_Gm_copyAllButGuesses_23 : dec m_Gm_copyAllButGuesses 23 = .ok (.getfield 29, 3) := by decide +kernel
theorem d_Gm_copyAllButGuesses_26 : dec m_Gm_copyAllButGuesses 26 = .ok (.aload_n 1, 1) := by decide +kernel
theorem d_Gm_copyAllButGuesses_27 : dec m_Gm_copyAllButGuesses 27 = .ok (.getfield 29, 3) := by decide +kernel
theorem d_Gm_copyAllButGuesses_30 : dec m_Gm_copyAllButGuesses 30 = .ok (.invokevirtual 42, 3) := by decide +kernel
theorem d_Gm_copyAllButGuesses_33 : dec m_Gm_copyAllButGuesses 33 = .ok (.aload_n 0, 1) := by decide +kernel
theorem d_Gm_copyAllButGuesses_34 : dec m_Gm_copyAllButGuesses 34 = .ok (.getfield 32, 3) := by decide +kernel
theorem d_Gm_copyAllButGuesses_37 : dec m_Gm_copyAllButGuesses 37 = .ok (.aload_n 1, 1) := by decide +kernel
theorem d_Gm_copyAllButGuesses_38 : dec m_Gm_copyAllButGuesses 38 = .ok (.getfield 32, 3) := by decide +kernel
theorem d_Gm_copyAllButGuesses_41 : dec m_Gm_copyAllButGuesses 41 = .ok (.invokevirtual 42, 3) := by decide +kernel
theorem d_Gm_copyAllButGuesses_44 : dec m_Gm_copyAllButGuesses 44 = .ok (.aload_n 0, 1) := by decide +kernel
theorem d_Gm_copyAllButGuesses_45 : dec m_Gm_copyAllButGuesses 45 = .ok (.aload_n 1, 1) := by decide +kernel
theorem d_Gm_copyAllButGuesses_46 : dec m_Gm_copyAllButGuesses 46 = .ok (.getfield 46, 3) := by decide +kernel
theorem d_Gm_copyAllButGuesses_49 : dec m_Gm_copyAllButGuesses 49 = .ok (.putfield 46, 3) := by decide +kernel
theorem d_Gm_copyAllButGuesses_52 : dec m_Gm_copyAllButGuesses 52 = .ok (.return_, 1) := by decide +kernel
theorem d_Gm_isEnd_0 : dec m_Gm_isEnd 0 = .ok (.aload_n 0, 1) := by decide +kernel
theorem d_Gm_isEnd_1 : dec m_Gm_isEnd 1 = .ok (.getfield 20, 3) := by decide +kernel
theorem d_Gm_isEnd_4 : dec m_Gm_isEnd 4 = .ok (.iload_n 1, 1) := by decide +kernel
theorem d_Gm_isEnd_5 : dec m_Gm_isEnd 5 = .ok (.invokevirtual 50, 3) := by decide +kernel
theorem d_Gm_isEnd_8 : dec m_Gm_isEnd 8 = .ok (.ifCond .ne 14, 3) := by decide +kernel
theorem d_Gm_isEnd_11 : dec m_Gm_isEnd 11 = .ok (.aload_n 0, 1) := by decide +kernel
theorem d_Gm_isEnd_12 : dec m_Gm_isEnd 12 = .ok (.getfield 29, 3) := by decide +kernel
theorem d_Gm_isEnd_15 : dec m_Gm_isEnd 15 = .ok (.iload_n 1, 1) := by decide +kernel
theorem d_Gm_isEnd_16 : dec m_Gm_isEnd 16 = .ok (.invokevirtual 50, 3) := by decide +kernel
theorem d_Gm_isEnd_19 : dec m_Gm_isEnd 19 = .ok (.ifCond .ne 7, 3) := by decide +kernel
theorem d_Gm_isEnd_22 : dec m_Gm_isEnd 22 = .ok (.iconst 1, 1) := by decide +kernel
theorem d_Gm_isEnd_23 : dec m_Gm_isEnd 23 = .ok (.goto 4, 3) := by decide +kernel
theorem d_Gm_isEnd_26 : dec m_Gm_isEnd 26 = .ok (.iconst 0, 1) := by decide +kernel
theorem d_Gm_isEnd_27 : dec m_Gm_isEnd 27 = .ok (.ireturn, 1) := by decide +kernel
theorem d_Gm_isWonEnd_0 : dec m_Gm_isWonEnd 0 = .ok (.aload_n 0, 1) := by decide +kernel
theorem d_Gm_isWonEnd_1 : dec m_Gm_isWonEnd 1 = .ok (.getfield 20, 3) := by decide +kernel
theorem d_Gm_isWonEnd_4 : dec m_Gm_isWonEnd 4 = .ok (.iload_n 1, 1) := by decide +kernel
theorem d_Gm_isWonEnd_5 : dec m_Gm_isWonEnd 5 = .ok (.invokevirtual 50, 3) := by decide +kernel
theorem d_Gm_isWonEnd_8 : dec m_Gm_isWonEnd 8 = .ok (.iconst 1, 1) := by decide +kernel
theorem d_Gm_isWonEnd_9 : dec m_Gm_isWonEnd 9 = .ok (.if_icmp .ne 7, 3) := by decide +kernel
theorem d_Gm_isWonEnd_12 : dec m_Gm_isWonEnd 12 = .ok (.iconst 1, 1) := by decide +kernel
theorem d_Gm_isWonEnd_13 : dec m_Gm_isWonEnd 13 = .ok (.goto 4, 3) := by decide +kernel
theorem d_Gm_isWonEnd_16 : dec m_Gm_isWonEnd 16 = .ok (.iconst 0, 1) := by decide +kernel
theorem d_Gm_isWonEnd_17 : dec m_Gm_isWonEnd 17 = .ok (.ireturn, 1) := by decide +kernel
theorem d_Gm_targetOf_0 : dec m_Gm_targetOf 0 = .ok (.iload_n 2, 1) := by decide +kernel
theorem d_Gm_targetOf_1 : dec m_Gm_targetOf 1 = .ok (.ifCond .lt 15, 3) := by decide +kernel
theorem d_Gm_targetOf_4 : dec m_Gm_targetOf 4 = .ok (.iload_n 2, 1) := by decide +kernel
theorem d_Gm_targetOf_5 : dec m_Gm_targetOf 5 = .ok (.aload_n 0, 1) := by decide +kernel
theorem d_Gm_targetOf_6 : dec m_Gm_targetOf 6 = .ok (.getfield 29, 3) := by decide +kernel
theorem d_Gm_targetOf_9 : dec m_Gm_targetOf 9 = .ok (.iload_n 1, 1) := by decide +kernel
theorem d_Gm_targetOf_10 : dec m_Gm_targetOf 10 = .ok (.invokevirtual 50, 3) := by decide +kernel
theorem d_Gm_targetOf_13 : dec m_Gm_targetOf 13 = .ok (.if_icmp .lt 6, 3) := by decide +kernel
theorem d_Gm_targetOf_16 : dec m_Gm_targetOf 16 = .ok (.bipush (-5), 2) := by decide +kernel
theorem d_Gm_targetOf_18 : dec m_Gm_targetOf 18 = .ok (.ireturn, 1) := by decide +kernel
theorem d_Gm_targetOf_19 : dec m_Gm_targetOf 19 = .ok (.aload_n 0, 1) := by decide +kernel
theorem d_Gm_targetOf_20 : dec m_Gm_targetOf 20 = .ok (.getfield 32, 3) := by decide +kernel
theorem d_Gm_targetOf_23 : dec m_Gm_targetOf 23 = .ok (.iload_n 1, 1) := by decide +kernel
theorem d_Gm_targetOf_24 : dec m_Gm_targetOf 24 = .ok (.bipush 20, 2) := by decide +kernel
theorem d_Gm_targetOf_26 : dec m_Gm_targetOf 26 = .ok (.imul, 1) := by decide +kernel
theorem d_Gm_targetOf_27 : dec m_Gm_targetOf 27 = .ok (.iload_n 2, 1) := by decide +kernel
theorem d_Gm_targetOf_28 : dec m_Gm_targetOf 28 = .ok (.iadd, 1) := by decide +kernel
theorem d_Gm_targetOf_29 : dec m_Gm_targetOf 29 = .ok (.invokevirtual 50, 3) := by decide +kernel
theorem d_Gm_targetOf_32 : dec m_Gm_targetOf 32 = .ok (.ireturn, 1) := by decide +kernel
theorem d_Gm_rankOf_0 : dec m_Gm_rankOf 0 = .ok (.aload_n 0, 1) := by decide +kernel
theorem d_Gm_rankOf_1 : dec m_Gm_rankOf 1 = .ok (.getfield 29, 3) := by decide +kernel
theorem d_Gm_rankOf_4 : dec m_Gm_rankOf 4 = .ok (.iload_n 1, 1) := by decide +kernel
theorem d_Gm_rankOf_5 : dec m_Gm_rankOf 5 = .ok (.invokevirtual 50, 3) := by decide +kernel
theorem d_Gm_rankOf_8 : dec m_Gm_rankOf 8 = .ok (.istore_n 3, 1) := by decide +kernel
theorem d_Gm_rankOf_9 : dec m_Gm_rankOf 9 = .ok (.iconst 0, 1) := by decide +kernel
theorem d_Gm_rankOf_10 : dec m_Gm_rankOf 10 = .ok (.istore 4, 2) := by decide +kernel
theorem d_Gm_rankOf_12 : dec m_Gm_rankOf 12 = .ok (.iload 4, 2) := by decide +kernel
theorem d_Gm_rankOf_14 : dec m_Gm_rankOf 14 = .ok (.iload_n 3, 1) := by decide +kernel
theorem d_Gm_rankOf_15 : dec m_Gm_rankOf 15 = .ok (.if_icmp .ge 23, 3) := by decide +kernel
theorem d_Gm_rankOf_18 : dec m_Gm_rankOf 18 = .ok (.aload_n 0, 1) := by decide +kernel
theorem d_Gm_rankOf_19 : dec m_Gm_rankOf 19 = .ok (.iload_n 1, 1) := by decide +kernel
theorem d_Gm_rankOf_20 : dec m_Gm_rankOf 20 = .ok (.iload 4, 2) := by decide +kernel
theorem d_Gm_rankOf_22 : dec m_Gm_rankOf 22 = .ok (.invokevirtual 54, 3) := by decide +kernel
theorem d_Gm_rankOf_25 : dec m_Gm_rankOf 25 = .ok (.iload_n 2, 1) := by decide +kernel
theorem d_Gm_rankOf_26 : dec m_Gm_rankOf 26 = .ok (.if_icmp .ne 6, 3) := by decide +kernel
theorem d_Gm_rankOf_29 : dec m_Gm_rankOf 29 = .ok (.iload 4, 2) := by decide +kernel
theorem d_Gm_rankOf_31 : dec m_Gm_rankOf 31 = .ok (.ireturn, 1) := by decide +kernel
theorem d_Gm_rankOf_32 : dec m_Gm_rankOf 32 = .ok (.iinc 4 1, 3) := by decide +kernel
theorem d_Gm_rankOf_35 : dec m_Gm_rankOf 35 = .ok (.goto (-23), 3) := by decide +kernel
theorem d_Gm_rankOf_38 : dec m_Gm_rankOf 38 = .ok (.bipush (-5), 2) := by decide +kernel
theorem d_Gm_rankOf_40 : dec m_Gm_rankOf 40 = .ok (.ireturn, 1) := by decide +kernel
theorem d_Gm_append_0 : dec m_Gm_append 0 = .ok (.aload_n 0, 1) := by decide +kernel
theorem d_Gm_append_1 : dec m_Gm_append 1 = .ok (.getfield 29, 3) := by decide +kernel
theorem d_Gm_append_4 : dec m_Gm_append 4 = .ok (.iload_n 1, 1) := by decide +kernel
theorem d_Gm_append_5 : dec m_Gm_append 5 = .ok (.invokevirtual 50, 3) := by decide +kernel
theorem d_Gm_append_8 : dec m_Gm_append 8 = .ok (.istore_n 3, 1) := by decide +kernel
theorem d_Gm_append_9 : dec m_Gm_append 9 = .ok (.aload_n 0, 1) := by decide +kernel
theorem d_Gm_append_10 : dec m_Gm_append 10 = .ok (.getfield 32, 3) := by decide +kernel
theorem d_Gm_append_13 : dec m_Gm_append 13 = .ok (.iload_n 1, 1) := by decide +kernel
theorem d_Gm_append_14 : dec m_Gm_append 14 = .ok (.bipush 20, 2) := by decide +kernel
theorem d_Gm_append_16 : dec m_Gm_append 16 = .ok (.imul, 1) := by decide +kernel
theorem d_Gm_append_17 : dec m_Gm_append 17 = .ok (.iload_n 3, 1) := by decide +kernel
theorem d_Gm_append_18 : dec m_Gm_append 18 = .ok (.iadd, 1) := by decide +kernel
theorem d_Gm_append_19 : dec m_Gm_append 19 = .ok (.iload_n 2, 1) := by decide +kernel
theorem d_Gm_append_20 : dec m_Gm_append 20 = .ok (.invokevirtual 58, 3) := by decide +kernel
theorem d_Gm_append_23 : dec m_Gm_append 23 = .ok (.aload_n 0, 1) := by decide +kernel
theorem d_Gm_append_24 : dec m_Gm_append 24 = .ok (.getfield 29, 3) := by decide +kernel
theorem d_Gm_append_27 : dec m_Gm_append 27 = .ok (.iload_n 1, 1) := by decide +kernel
theorem d_Gm_append_28 : dec m_Gm_append 28 = .ok (.iload_n 3, 1) := by decide +kernel
theorem d_Gm_append_29 : dec m_Gm_append 29 = .ok (.iconst 1, 1) := by decide +kernel
theorem d_Gm_append_30 : dec m_Gm_append 30 = .ok (.iadd, 1) := by decide +kernel
theorem d_Gm_append_31 : dec m_Gm_append 31 = .ok (.invokevirtual 58, 3) := by decide +kernel
theorem d_Gm_append_34 : dec m_Gm_append 34 = .ok (.aload_n 0, 1) := by decide +kernel
theorem d_Gm_append_35 : dec m_Gm_append 35 = .ok (.dup, 1) := by decide +kernel
theorem d_Gm_append_36 : dec m_Gm_append 36 = .ok (.getfield 46, 3) := by decide +kernel
theorem d_Gm_append_39 : dec m_Gm_append 39 = .ok (.iconst 1, 1) := by decide +kernel
theorem d_Gm_append_40 : dec m_Gm_append 40 = .ok (.iadd, 1) := by decide +kernel
theorem d_Gm_append_41 : dec m_Gm_append 41 = .ok (.putfield 46, 3) := by decide +kernel
theorem d_Gm_append_44 : dec m_Gm_append 44 = .ok (.return_, 1) := by decide +kernel
theorem d_Gm_removeAt_0 : dec m_Gm_removeAt 0 = .ok (.aload_n 0, 1) := by decide +kernel
theorem d_Gm_removeAt_1 : dec m_Gm_removeAt 1 = .ok (.getfield 29, 3) := by decide +kernel
theorem d_Gm_removeAt_4 : dec m_Gm_removeAt 4 = .ok (.iload_n 1, 1) := by decide +kernel
theorem d_Gm_removeAt_5 : dec m_Gm_removeAt 5 = .ok (.invokevirtual 50, 3) := by decide +kernel
theorem d_Gm_removeAt_8 : dec m_Gm_removeAt 8 = .ok (.iconst 1, 1) := by decide +kernel
theorem d_Gm_removeAt_9 : dec m_Gm_removeAt 9 = .ok (.isub, 1) := by decide +kernel
theorem d_Gm_removeAt_10 : dec m_Gm_removeAt 10 = .ok (.istore_n 3, 1) := by decide +kernel
theorem d_Gm_removeAt_11 : dec m_Gm_removeAt 11 = .ok (.iload_n 2, 1) := by decide +kernel
theorem d_Gm_removeAt_12 : dec m_Gm_removeAt 12 = .ok (.istore 4, 2) := by decide +kernel
theorem d_Gm_removeAt_14 : dec m_Gm_removeAt 14 = .ok (.iload 4, 2) := by decide +kernel
theorem d_Gm_removeAt_16 : dec m_Gm_removeAt 16 = .ok (.iload_n 3, 1) := by decide +kernel
theorem d_Gm_removeAt_17 : dec m_Gm_removeAt 17 = .ok (.if_icmp .ge 32, 3) := by decide +kernel
theorem d_Gm_removeAt_20 : dec m_Gm_removeAt 20 = .ok (.aload_n 0, 1) := by decide +kernel
theorem d_Gm_removeAt_21 : dec m_Gm_removeAt 21 = .ok (.getfield 32, 3) := by decide +kernel
theorem d_Gm_removeAt_24 : dec m_Gm_removeAt 24 = .ok (.iload_n 1, 1) := by decide +kernel
theorem d_Gm_removeAt_25 : dec m_Gm_removeAt 25 = .ok (.bipush 20, 2) := by decide +kernel
theorem d_Gm_removeAt_27 : dec m_Gm_removeAt 27 = .ok (.imul, 1) := by decide +kernel
theorem d_Gm_removeAt_28 : dec m_Gm_removeAt 28 = .ok (.iload 4, 2) := by decide +kernel
theorem d_Gm_removeAt_30 : dec m_Gm_removeAt 30 = .ok (.iadd, 1) := by decide +kernel
theorem d_Gm_removeAt_31 : dec m_Gm_removeAt 31 = .ok (.aload_n 0, 1) := by decide +kernel
theorem d_Gm_removeAt_32 : dec m_Gm_removeAt 32 = .ok (.iload_n 1, 1) := by decide +kernel
theorem d_Gm_removeAt_33 : dec m_Gm_removeAt 33 = .ok (.iload 4, 2) := by decide +kernel
theorem d_Gm_removeAt_35 : dec m_Gm_removeAt 35 = .ok (.iconst 1, 1) := by decide +kernel
theorem d_Gm_removeAt_36 : dec m_Gm_removeAt 36 = .ok (.iadd, 1) := by decide +kernel
theorem d_Gm_removeAt_37 : dec m_Gm_removeAt 37 = .ok (.invokevirtual 54, 3) := by decide +kernel
theorem d_Gm_removeAt_40 : dec m_Gm_removeAt 40 = .ok (.invokevirtual 58, 3) := by decide +kernel
theorem d_Gm_removeAt_43 : dec m_Gm_removeAt 43 = .ok (.iinc 4 1, 3) := by decide +kernel
theorem d_Gm_removeAt_46 : dec m_Gm_removeAt 46 = .ok (.goto (-32), 3) := by decide +kernel
theorem d_Gm_removeAt_49 : dec m_Gm_removeAt 49 = .ok (.aload_n 0, 1) := by decide +kernel
theorem d_Gm_removeAt_50 : dec m_Gm_removeAt 50 = .ok (.getfield 29, 3) := by decide +kernel
theorem d_Gm_removeAt_53 : dec m_Gm_removeAt 53 = .ok (.iload_n 1, 1) := by decide +kernel
theorem d_Gm_removeAt_54 : dec m_Gm_removeAt 54 = .ok (.iload_n 3, 1) := by decide +kernel
theorem d_Gm_removeAt_55 : dec m_Gm_removeAt 55 = .ok (.invokevirtual 58, 3) := by decide +kernel
theorem d_Gm_removeAt_58 : dec m_Gm_removeAt 58 = .ok (.aload_n 0, 1) := by decide +kernel
theorem d_Gm_removeAt_59 : dec m_Gm_removeAt 59 = .ok (.dup, 1) := by decide +kernel
theorem d_Gm_removeAt_60 : dec m_Gm_removeAt 60 = .ok (.getfield 46, 3) := by decide +kernel
theorem d_Gm_removeAt_63 : dec m_Gm_removeAt 63 = .ok (.iconst 1, 1) := by decide +kernel
theorem d_Gm_removeAt_64 : dec m_Gm_removeAt 64 = .ok (.isub, 1) := by decide +kernel
theorem d_Gm_removeAt_65 : dec m_Gm_removeAt 65 = .ok (.putfield 46, 3) := by decide +kernel
theorem d_Gm_removeAt_68 : dec m_Gm_removeAt 68 = .ok (.return_, 1) := by decide +kernel
theorem d_Hi_init_0 : dec m_Hi_init 0 = .ok (.aload_n 0, 1) := by decide +kernel
theorem d_Hi_init_1 : dec m_Hi_init 1 = .ok (.invokespecial 3, 3) := by decide +kernel
theorem d_Hi_init_4 : dec m_Hi_init 4 = .ok (.aload_n 0, 1) := by decide +kernel
theorem d_Hi_init_5 : dec m_Hi_init 5 = .ok (.iconst 4, 1) := by decide +kernel
theorem d_Hi_init_6 : dec m_Hi_init 6 = .ok (.anewarray 9, 3) := by decide +kernel
theorem d_Hi_init_9 : dec m_Hi_init 9 = .ok (.putfield 11, 3) := by decide +kernel
theorem d_Hi_init_12 : dec m_Hi_init 12 = .ok (.iconst 0, 1) := by decide +kernel
theorem d_Hi_init_13 : dec m_Hi_init 13 = .ok (.istore_n 1, 1) := by decide +kernel
theorem d_Hi_init_14 : dec m_Hi_init 14 = .ok (.iload_n 1, 1) := by decide +kernel
theorem d_Hi_init_15 : dec m_Hi_init 15 = .ok (.aload_n 0, 1) := by decide +kernel
theorem d_Hi_init_16 : dec m_Hi_init 16 = .ok (.getfield 11, 3) := by decide +kernel
theorem d_Hi_init_19 : dec m_Hi_init 19 = .ok (.arraylength, 1) := by decide +kernel
theorem d_Hi_init_20 : dec m_Hi_init 20 = .ok (.if_icmp .ge 22, 3) := by decide +kernel
theorem d_Hi_init_23 : dec m_Hi_init 23 = .ok (.aload_n 0, 1) := by decide +kernel
theorem d_Hi_init_24 : dec m_Hi_init 24 = .ok (.getfield 11, 3) := by decide +kernel
theorem d_Hi_init_27 : dec m_Hi_init 27 = .ok (.iload_n 1, 1) := by decide +kernel
theorem d_Hi_init_28 : dec m_Hi_init 28 = .ok (.new 9, 3) := by decide +kernel
theorem d_Hi_init_31 : dec m_Hi_init 31 = .ok (.dup, 1) := by decide +kernel
theorem d_Hi_init_32 : dec m_Hi_init 32 = .ok (.invokespecial 17, 3) := by decide +kernel
theorem d_Hi_init_35 : dec m_Hi_init 35 = .ok (.aastore, 1) := by decide +kernel
theorem d_Hi_init_36 : dec m_Hi_init 36 = .ok (.iinc 1 1, 3) := by decide +kernel
theorem d_Hi_init_39 : dec m_Hi_init 39 = .ok (.goto (-25), 3) := by decide +kernel
theorem d_Hi_init_42 : dec m_Hi_init 42 = .ok (.return_, 1) := by decide +kernel
theorem d_Hi_remember_0 : dec m_Hi_remember 0 = .ok (.aload_n 0, 1) := by decide +kernel
theorem d_Hi_remember_1 : dec m_Hi_remember 1 = .ok (.getfield 18, 3) := by decide +kernel
theorem d_Hi_remember_4 : dec m_Hi_remember 4 = .ok (.aload_n 0, 1) := by decide +kernel
theorem d_Hi_remember_5 : dec m_Hi_remember 5 = .ok (.getfield 11, 3) := by decide +kernel
theorem d_Hi_remember_8 : dec m_Hi_remember 8 = .ok (.arraylength, 1) := by decide +kernel
theorem d_Hi_remember_9 : dec m_Hi_remember 9 = .ok (.if_icmp .lt 7, 3) := by decide +kernel
theorem d_Hi_remember_12 : dec m_Hi_remember 12 = .ok (.aload_n 0, 1) := by decide +kernel
theorem d_Hi_remember_13 : dec m_Hi_remember 13 = .ok (.invokevirtual 22, 3) := by decide +kernel
theorem d_Hi_remember_16 : dec m_Hi_remember 16 = .ok (.aload_n 1, 1) := by decide +kernel
theorem d_Hi_remember_17 : dec m_Hi_remember 17 = .ok (.aload_n 0, 1) := by decide +kernel
theorem d_Hi_remember_18 : dec m_Hi_remember 18 = .ok (.aload_n 0, 1) := by decide +kernel
theorem d_Hi_remember_19 : dec m_Hi_remember 19 = .ok (.getfield 18, 3) := by decide +kernel
theorem d_Hi_remember_22 : dec m_Hi_remember 22 = .ok (.invokevirtual 25, 3) := by decide +kernel
theorem d_Hi_remember_25 : dec m_Hi_remember 25 = .ok (.invokestatic 29, 3) := by decide +kernel
theorem d_Hi_remember_28 : dec m_Hi_remember 28 = .ok (.aload_n 0, 1) := by decide +kernel
theorem d_Hi_remember_29 : dec m_Hi_remember 29 = .ok (.dup, 1) := by decide +kernel
theorem d_Hi_remember_30 : dec m_Hi_remember 30 = .ok (.getfield 18, 3) := by decide +kernel
theorem d_Hi_remember_33 : dec m_Hi_remember 33 = .ok (.iconst 1, 1) := by decide +kernel
theorem d_Hi_remember_34 : dec m_Hi_remember 34 = .ok (.iadd, 1) := by decide +kernel
theorem d_Hi_remember_35 : dec m_Hi_remember 35 = .ok (.putfield 18, 3) := by decide +kernel
theorem d_Hi_remember_38 : dec m_Hi_remember 38 = .ok (.return_, 1) := by decide +kernel
theorem d_Hi_takeLatest_0 : dec m_Hi_takeLatest 0 = .ok (.aload_n 0, 1) := by decide +kernel
theorem d_Hi_takeLatest_1 : dec m_Hi_takeLatest 1 = .ok (.getfield 18, 3) := by decide +kernel
theorem d_Hi_takeLatest_4 : dec m_Hi_takeLatest 4 = .ok (.ifCond .le 25, 3) := by decide +kernel
theorem d_Hi_takeLatest_7 : dec m_Hi_takeLatest 7 = .ok (.aload_n 0, 1) := by decide +kernel
theorem d_Hi_takeLatest_8 : dec m_Hi_takeLatest 8 = .ok (.dup, 1) := by decide +kernel
theorem d_Hi_takeLatest_9 : dec m_Hi_takeLatest 9 = .ok (.getfield 18, 3) := by decide +kernel
theorem d_Hi_takeLatest_12 : dec m_Hi_takeLatest 12 = .ok (.iconst 1, 1) := by decide +kernel
theorem d_Hi_takeLatest_13 : dec m_Hi_takeLatest 13 = .ok (.isub, 1) := by decide +kernel
theorem d_Hi_takeLatest_14 : dec m_Hi_takeLatest 14 = .ok (.putfield 18, 3) := by decide +kernel
theorem d_Hi_takeLatest_17 : dec m_Hi_takeLatest 17 = .ok (.aload_n 0, 1) := by decide +kernel
theorem d_Hi_takeLatest_18 : dec m_Hi_takeLatest 18 = .ok (.aload_n 0, 1) := by decide +kernel
theorem d_Hi_takeLatest_19 : dec m_Hi_takeLatest 19 = .ok (.getfield 18, 3) := by decide +kernel
theorem d_Hi_takeLatest_22 : dec m_Hi_takeLatest 22 = .ok (.invokevirtual 25, 3) := by decide +kernel
theorem d_Hi_takeLatest_25 : dec m_Hi_takeLatest 25 = .ok (.aload_n 1, 1) := by decide +kernel
theorem d_Hi_takeLatest_26 : dec m_Hi_takeLatest 26 = .ok (.invokestatic 29, 3) := by decide +kernel
theorem d_Hi_takeLatest_29 : dec m_Hi_takeLatest 29 = .ok (.return_, 1) := by decide +kernel
theorem d_Hi_stateAt_0 : dec m_Hi_stateAt 0 = .ok (.iload_n 1, 1) := by decide +kernel
theorem d_Hi_stateAt_1 : dec m_Hi_stateAt 1 = .ok (.ifCond .lt 21, 3) := by decide +kernel
theorem d_Hi_stateAt_4 : dec m_Hi_stateAt 4 = .ok (.iload_n 1, 1) := by decide +kernel
theorem d_Hi_stateAt_5 : dec m_Hi_stateAt 5 = .ok (.aload_n 0, 1) := by decide +kernel
theorem d_Hi_stateAt_6 : dec m_Hi_stateAt 6 = .ok (.getfield 11, 3) := by decide +kernel
theorem d_Hi_stateAt_9 : dec m_Hi_stateAt 9 = .ok (.arraylength, 1) := by decide +kernel
theorem d_Hi_stateAt_10 : dec m_Hi_stateAt 10 = .ok (.if_icmp .ge 12, 3) := by decide +kernel
theorem d_Hi_stateAt_13 : dec m_Hi_stateAt 13 = .ok (.aload_n 0, 1) := by decide +kernel
theorem d_Hi_stateAt_14 : dec m_Hi_stateAt 14 = .ok (.getfield 11, 3) := by decide +kernel
theorem d_Hi_stateAt_17 : dec m_Hi_stateAt 17 = .ok (.iload_n 1, 1) := by decide +kernel
theorem d_Hi_stateAt_18 : dec m_Hi_stateAt 18 = .ok (.aaload, 1) := by decide +kernel
theorem d_Hi_stateAt_19 : dec m_Hi_stateAt 19 = .ok (.goto 4, 3) := by decide +kernel
theorem d_Hi_stateAt_22 : dec m_Hi_stateAt 22 = .ok (.aconst_null, 1) := by decide +kernel
theorem d_Hi_stateAt_23 : dec m_Hi_stateAt 23 = .ok (.areturn, 1) := by decide +kernel
theorem d_Hi_copy_0 : dec m_Hi_copy 0 = .ok (.aload_n 0, 1) := by decide +kernel
theorem d_Hi_copy_1 : dec m_Hi_copy 1 = .ok (.ifnull 12, 3) := by decide +kernel
theorem d_Hi_copy_4 : dec m_Hi_copy 4 = .ok (.aload_n 1, 1) := by decide +kernel
theorem d_Hi_copy_5 : dec m_Hi_copy 5 = .ok (.ifnull 8, 3) := by decide +kernel
theorem d_Hi_copy_8 : dec m_Hi_copy 8 = .ok (.aload_n 1, 1) := by decide +kernel
theorem d_Hi_copy_9 : dec m_Hi_copy 9 = .ok (.aload_n 0, 1) := by decide +kernel
theorem d_Hi_copy_10 : dec m_Hi_copy 10 = .ok (.invokevirtual 33, 3) := by decide +kernel
theorem d_Hi_copy_13 : dec m_Hi_copy 13 = .ok (.return_, 1) := by decide +kernel
theorem d_Hi_dropOldest_0 : dec m_Hi_dropOldest 0 = .ok (.iconst 1, 1) := by decide +kernel
theorem d_Hi_dropOldest_1 : dec m_Hi_dropOldest 1 = .ok (.istore_n 1, 1) := by decide +kernel
theorem d_Hi_dropOldest_2 : dec m_Hi_dropOldest 2 = .ok (.iload_n 1, 1) := by decide +kernel
theorem d_Hi_dropOldest_3 : dec m_Hi_dropOldest 3 = .ok (.aload_n 0, 1) := by decide +kernel
theorem d_Hi_dropOldest_4 : dec m_Hi_dropOldest 4 = .ok (.getfield 11, 3) := by decide +kernel
theorem d_Hi_dropOldest_7 : dec m_Hi_dropOldest 7 = .ok (.arraylength, 1) := by decide +kernel
theorem d_Hi_dropOldest_8 : dec m_Hi_dropOldest 8 = .ok (.if_icmp .ge 39, 3) := by decide +kernel
theorem d_Hi_dropOldest_11 : dec m_Hi_dropOldest 11 = .ok (.aload_n 0, 1) := by decide +kernel
theorem d_Hi_dropOldest_12 : dec m_Hi_dropOldest 12 = .ok (.getfield 11, 3) := by decide +kernel
theorem d_Hi_dropOldest_15 : dec m_Hi_dropOldest 15 = .ok (.iload_n 1, 1) := by decide +kernel
theorem d_Hi_dropOldest_16 : dec m_Hi_dropOldest 16 = .ok (.iconst 1, 1) := by decide +kernel
theorem d_Hi_dropOldest_17 : dec m_Hi_dropOldest 17 = .ok (.isub, 1) := by decide +kernel
theorem d_Hi_dropOldest_18 : dec m_Hi_dropOldest 18 = .ok (.aaload, 1) := by decide +kernel
theorem d_Hi_dropOldest_19 : dec m_Hi_dropOldest 19 = .ok (.astore_n 2, 1) := by decide +kernel
theorem d_Hi_dropOldest_20 : dec m_Hi_dropOldest 20 = .ok (.aload_n 0, 1) := by decide +kernel
theorem d_Hi_dropOldest_21 : dec m_Hi_dropOldest 21 = .ok (.getfield 11, 3) := by decide +kernel
theorem d_Hi_dropOldest_24 : dec m_Hi_dropOldest 24 = .ok (.iload_n 1, 1) := by decide +kernel
theorem d_Hi_dropOldest_25 : dec m_Hi_dropOldest 25 = .ok (.iconst 1, 1) := by decide +kernel
theorem d_Hi_dropOldest_26 : dec m_Hi_dropOldest 26 = .ok (.isub, 1) := by decide +kernel
theorem d_Hi_dropOldest_27 : dec m_Hi_dropOldest 27 = .ok (.aload_n 0, 1) := by decide +kernel
theorem d_Hi_dropOldest_28 : dec m_Hi_dropOldest 28 = .ok (.getfield 11, 3) := by decide +kernel
theorem d_Hi_dropOldest_31 : dec m_Hi_dropOldest 31 = .ok (.iload_n 1, 1) := by decide +kernel
theorem d_Hi_dropOldest_32 : dec m_Hi_dropOldest 32 = .ok (.aaload, 1) := by decide +kernel
theorem d_Hi_dropOldest_33 : dec m_Hi_dropOldest 33 = .ok (.aastore, 1) := by decide +kernel
theorem d_Hi_dropOldest_34 : dec m_Hi_dropOldest 34 = .ok (.aload_n 0, 1) := by decide +kernel
theorem d_Hi_dropOldest_35 : dec m_Hi_dropOldest 35 = .ok (.getfield 11, 3) := by decide +kernel
theorem d_Hi_dropOldest_38 : dec m_Hi_dropOldest 38 = .ok (.iload_n 1, 1) := by decide +kernel
theorem d_Hi_dropOldest_39 : dec m_Hi_dropOldest 39 = .ok (.aload_n 2, 1) := by decide +kernel
theorem d_Hi_dropOldest_40 : dec m_Hi_dropOldest 40 = .ok (.aastore, 1) := by decide +kernel
theorem d_Hi_dropOldest_41 : dec m_Hi_dropOldest 41 = .ok (.iinc 1 1, 3) := by decide +kernel
theorem d_Hi_dropOldest_44 : dec m_Hi_dropOldest 44 = .ok (.goto (-42), 3) := by decide +kernel
theorem d_Hi_dropOldest_47 : dec m_Hi_dropOldest 47 = .ok (.aload_n 0, 1) := by decide +kernel
theorem d_Hi_dropOldest_48 : dec m_Hi_dropOldest 48 = .ok (.dup, 1) := by decide +kernel
theorem d_Hi_dropOldest_49 : dec m_Hi_dropOldest 49 = .ok (.getfield 18, 3) := by decide +kernel
theorem d_Hi_dropOldest_52 : dec m_Hi_dropOldest 52 = .ok (.iconst 1, 1) := by decide +kernel
theorem d_Hi_dropOldest_53 : dec m_Hi_dropOldest 53 = .ok (.isub, 1) := by decide +kernel
theorem d_Hi_dropOldest_54 : dec m_Hi_dropOldest 54 = .ok (.putfield 18, 3) := by decide +kernel
theorem d_Hi_dropOldest_57 : dec m_Hi_dropOldest 57 = .ok (.return_, 1) := by decide +kernel
theorem d_Pf_init_0 : dec m_Pf_init 0 = .ok (.aload_n 0, 1) := by decide +kernel
theorem d_Pf_init_1 : dec m_Pf_init 1 = .ok (.invokespecial 3, 3) := by decide +kernel
theorem d_Pf_init_4 : dec m_Pf_init 4 = .ok (.aload_n 0, 1) := by decide +kernel
theorem d_Pf_init_5 : dec m_Pf_init 5 = .ok (.new 9, 3) := by decide +kernel
theorem d_Pf_init_8 : dec m_Pf_init 8 = .ok (.dup, 1) := by decide +kernel
theorem d_Pf_init_9 : dec m_Pf_init 9 = .ok (.sipush 200, 3) := by decide +kernel
theorem d_Pf_init_12 : dec m_Pf_init 12 = .ok (.invokespecial 11, 3) := by decide +kernel
theorem d_Pf_init_15 : dec m_Pf_init 15 = .ok (.putfield 14, 3) := by decide +kernel
theorem d_Pf_init_18 : dec m_Pf_init 18 = .ok (.return_, 1) := by decide +kernel
theorem d_Pf_winnerOf_0 : dec m_Pf_winnerOf 0 = .ok (.aload_n 0, 1) := by decide +kernel
theorem d_Pf_winnerOf_1 : dec m_Pf_winnerOf 1 = .ok (.invokevirtual 20, 3) := by decide +kernel
theorem d_Pf_winnerOf_4 : dec m_Pf_winnerOf 4 = .ok (.iconst 1, 1) := by decide +kernel
theorem d_Pf_winnerOf_5 : dec m_Pf_winnerOf 5 = .ok (.if_icmp .ne 7, 3) := by decide +kernel
theorem d_Pf_winnerOf_8 : dec m_Pf_winnerOf 8 = .ok (.iconst 0, 1) := by decide +kernel
theorem d_Pf_winnerOf_9 : dec m_Pf_winnerOf 9 = .ok (.goto 4, 3) := by decide +kernel
theorem d_Pf_winnerOf_12 : dec m_Pf_winnerOf 12 = .ok (.iconst 1, 1) := by decide +kernel
theorem d_Pf_winnerOf_13 : dec m_Pf_winnerOf 13 = .ok (.ireturn, 1) := by decide +kernel
theorem d_Pf_sizeOf_0 : dec m_Pf_sizeOf 0 = .ok (.aload_n 1, 1) := by decide +kernel
theorem d_Pf_sizeOf_1 : dec m_Pf_sizeOf 1 = .ok (.invokestatic 26, 3) := by decide +kernel
theorem d_Pf_sizeOf_4 : dec m_Pf_sizeOf 4 = .ok (.istore_n 2, 1) := by decide +kernel
theorem d_Pf_sizeOf_5 : dec m_Pf_sizeOf 5 = .ok (.iconst 0, 1) := by decide +kernel
theorem d_Pf_sizeOf_6 : dec m_Pf_sizeOf 6 = .ok (.istore_n 3, 1) := by decide +kernel
theorem d_Pf_sizeOf_7 : dec m_Pf_sizeOf 7 = .ok (.aload_n 0, 1) := by decide +kernel
theorem d_Pf_sizeOf_8 : dec m_Pf_sizeOf 8 = .ok (.getfield 14, 3) := by decide +kernel
theorem d_Pf_sizeOf_11 : dec m_Pf_sizeOf 11 = .ok (.iconst 0, 1) := by decide +kernel
theorem d_Pf_sizeOf_12 : dec m_Pf_sizeOf 12 = .ok (.invokevirtual 46, 3) := by decide +kernel
theorem d_Pf_sizeOf_15 : dec m_Pf_sizeOf 15 = .ok (.aload_n 0, 1) := by decide +kernel
theorem d_Pf_sizeOf_16 : dec m_Pf_sizeOf 16 = .ok (.getfield 14, 3) := by decide +kernel
theorem d_Pf_sizeOf_19 : dec m_Pf_sizeOf 19 = .ok (.iconst 0, 1) := by decide +kernel
theorem d_Pf_sizeOf_20 : dec m_Pf_sizeOf 20 = .ok (.iconst 1, 1) := by decide +kernel
theorem d_Pf_sizeOf_21 : dec m_Pf_sizeOf 21 = .ok (.invokevirtual 49, 3) := by decide +kernel
theorem d_Pf_sizeOf_24 : dec m_Pf_sizeOf 24 = .ok (.iconst 0, 1) := by decide +kernel
theorem d_Pf_sizeOf_25 : dec m_Pf_sizeOf 25 = .ok (.istore 4, 2) := by decide +kernel
theorem d_Pf_sizeOf_27 : dec m_Pf_sizeOf 27 = .ok (.iload 4, 2) := by decide +kernel
theorem d_Pf_sizeOf_29 : dec m_Pf_sizeOf 29 = .ok (.aload_n 1, 1) := by decide +kernel
theorem d_Pf_sizeOf_30 : dec m_Pf_sizeOf 30 = .ok (.getfield 53, 3) := by decide +kernel
theorem d_Pf_sizeOf_33 : dec m_Pf_sizeOf 33 = .ok (.if_icmp .ge 33, 3) := by decide +kernel
theorem d_Pf_sizeOf_36 : dec m_Pf_sizeOf 36 = .ok (.aload_n 0, 1) := by decide +kernel
theorem d_Pf_sizeOf_37 : dec m_Pf_sizeOf 37 = .ok (.getfield 14, 3) := by decide +kernel
theorem d_Pf_sizeOf_40 : dec m_Pf_sizeOf 40 = .ok (.iload 4, 2) := by decide +kernel
theorem d_Pf_sizeOf_42 : dec m_Pf_sizeOf 42 = .ok (.invokevirtual 33, 3) := by decide +kernel
theorem d_Pf_sizeOf_45 : dec m_Pf_sizeOf 45 = .ok (.iconst 1, 1) := by decide +kernel
theorem d_Pf_sizeOf_46 : dec m_Pf_sizeOf 46 = .ok (.if_icmp .ne 14, 3) := by decide +kernel
theorem d_Pf_sizeOf_49 : dec m_Pf_sizeOf 49 = .ok (.iinc 3 1, 3) := by decide +kernel
theorem d_Pf_sizeOf_52 : dec m_Pf_sizeOf 52 = .ok (.aload_n 0, 1) := by decide +kernel
theorem d_Pf_sizeOf_53 : dec m_Pf_sizeOf 53 = .ok (.aload_n 1, 1) := by decide +kernel
theorem d_Pf_sizeOf_54 : dec m_Pf_sizeOf 54 = .ok (.iload 4, 2) := by decide +kernel
theorem d_Pf_sizeOf_56 : dec m_Pf_sizeOf 56 = .ok (.iload_n 2, 1) := by decide +kernel
theorem d_Pf_sizeOf_57 : dec m_Pf_sizeOf 57 = .ok (.invokevirtual 57, 3) := by decide +kernel
theorem d_Pf_sizeOf_60 : dec m_Pf_sizeOf 60 = .ok (.iinc 4 1, 3) := by decide +kernel
theorem d_Pf_sizeOf_63 : dec m_Pf_sizeOf 63 = .ok (.goto (-36), 3) := by decide +kernel
theorem d_Pf_sizeOf_66 : dec m_Pf_sizeOf 66 = .ok (.iload_n 3, 1) := by decide +kernel
theorem d_Pf_sizeOf_67 : dec m_Pf_sizeOf 67 = .ok (.ireturn, 1) := by decide +kernel
theorem d_Pf_takeChildren_0 : dec m_Pf_takeChildren 0 = .ok (.aload_n 1, 1) := by decide +kernel
theorem d_Pf_takeChildren_1 : dec m_Pf_takeChildren 1 = .ok (.iload_n 2, 1) := by decide +kernel
theorem d_Pf_takeChildren_2 : dec m_Pf_takeChildren 2 = .ok (.invokevirtual 61, 3) := by decide +kernel
theorem d_Pf_takeChildren_5 : dec m_Pf_takeChildren 5 = .ok (.ifCond .eq 4, 3) := by decide +kernel
theorem d_Pf_takeChildren_8 : dec m_Pf_takeChildren 8 = .ok (.return_, 1) := by decide +kernel
theorem d_Pf_takeChildren_9 : dec m_Pf_takeChildren 9 = .ok (.aload_n 1, 1) := by decide +kernel
theorem d_Pf_takeChildren_10 : dec m_Pf_takeChildren 10 = .ok (.iload_n 2, 1) := by decide +kernel
theorem d_Pf_takeChildren_11 : dec m_Pf_takeChildren 11 = .ok (.invokevirtual 37, 3) := by decide +kernel
theorem d_Pf_takeChildren_14 : dec m_Pf_takeChildren 14 = .ok (.iload_n 3, 1) := by decide +kernel
theorem d_Pf_takeChildren_15 : dec m_Pf_takeChildren 15 = .ok (.if_icmp .ne 17, 3) := by decide +kernel
theorem d_Pf_takeChildren_18 : dec m_Pf_takeChildren 18 = .ok (.aload_n 0, 1) := by decide +kernel
theorem d_Pf_takeChildren_19 : dec m_Pf_takeChildren 19 = .ok (.getfield 14, 3) := by decide +kernel
theorem d_Pf_takeChildren_22 : dec m_Pf_takeChildren 22 = .ok (.aload_n 1, 1) := by decide +kernel
theorem d_Pf_takeChildren_23 : dec m_Pf_takeChildren 23 = .ok (.iload_n 2, 1) := by decide +kernel
theorem d_Pf_takeChildren_24 : dec m_Pf_takeChildren 24 = .ok (.invokevirtual 40, 3) := by decide +kernel
theorem d_Pf_takeChildren_27 : dec m_Pf_takeChildren 27 = .ok (.iconst 1, 1) := by decide +kernel
theorem d_Pf_takeChildren_28 : dec m_Pf_takeChildren 28 = .ok (.invokevirtual 49, 3) := by decide +kernel
theorem d_Pf_takeChildren_31 : dec m_Pf_takeChildren 31 = .ok (.return_, 1) := by decide +kernel
theorem d_Pf_takeChildren_32 : dec m_Pf_takeChildren 32 = .ok (.aload_n 1, 1) := by decide +kernel
theorem d_Pf_takeChildren_33 : dec m_Pf_takeChildren 33 = .ok (.iload_n 2, 1) := by decide +kernel
theorem d_Pf_takeChildren_34 : dec m_Pf_takeChildren 34 = .ok (.invokevirtual 65, 3) := by decide +kernel
theorem d_Pf_takeChildren_37 : dec m_Pf_takeChildren 37 = .ok (.istore 4, 2) := by decide +kernel
theorem d_Pf_takeChildren_39 : dec m_Pf_takeChildren 39 = .ok (.aload_n 1, 1) := by decide +kernel
theorem d_Pf_takeChildren_40 : dec m_Pf_takeChildren 40 = .ok (.getfield 43, 3) := by decide +kernel
theorem d_Pf_takeChildren_43 : dec m_Pf_takeChildren 43 = .ok (.iload_n 2, 1) := by decide +kernel
theorem d_Pf_takeChildren_44 : dec m_Pf_takeChildren 44 = .ok (.invokevirtual 33, 3) := by decide +kernel
theorem d_Pf_takeChildren_47 : dec m_Pf_takeChildren 47 = .ok (.istore 5, 2) := by decide +kernel
theorem d_Pf_takeChildren_49 : dec m_Pf_takeChildren 49 = .ok (.iload 5, 2) := by decide +kernel
theorem d_Pf_takeChildren_51 : dec m_Pf_takeChildren 51 = .ok (.iload 4, 2) := by decide +kernel
theorem d_Pf_takeChildren_53 : dec m_Pf_takeChildren 53 = .ok (.if_icmp .ge 19, 3) := by decide +kernel
theorem d_Pf_takeChildren_56 : dec m_Pf_takeChildren 56 = .ok (.aload_n 0, 1) := by decide +kernel
theorem d_Pf_takeChildren_57 : dec m_Pf_takeChildren 57 = .ok (.getfield 14, 3) := by decide +kernel
theorem d_Pf_takeChildren_60 : dec m_Pf_takeChildren 60 = .ok (.iload 5, 2) := by decide +kernel
theorem d_Pf_takeChildren_62 : dec m_Pf_takeChildren 62 = .ok (.iconst 1, 1) := by decide +kernel
theorem d_Pf_takeChildren_63 : dec m_Pf_takeChildren 63 = .ok (.invokevirtual 49, 3) := by decide +kernel
theorem d_Pf_takeChildren_66 : dec m_Pf_takeChildren 66 = .ok (.iinc 5 1, 3) := by decide +kernel
theorem d_Pf_takeChildren_69 : dec m_Pf_takeChildren 69 = .ok (.goto (-20), 3) := by decide +kernel
theorem d_Pf_takeChildren_72 : dec m_Pf_takeChildren 72 = .ok (.return_, 1) := by decide +kernel
theorem d_Rd_init_0 : dec m_Rd_init 0 = .ok (.aload_n 0, 1) := by decide +kernel
theorem d_Rd_init_1 : dec m_Rd_init 1 = .ok (.invokespecial 3, 3) := by decide +kernel
theorem d_Rd_init_4 : dec m_Rd_init 4 = .ok (.aload_n 0, 1) := by decide +kernel
theorem d_Rd_init_5 : dec m_Rd_init 5 = .ok (.new 9, 3) := by decide +kernel
theorem d_Rd_init_8 : dec m_Rd_init 8 = .ok (.dup, 1) := by decide +kernel
theorem d_Rd_init_9 : dec m_Rd_init 9 = .ok (.invokespecial 11, 3) := by decide +kernel
theorem d_Rd_init_12 : dec m_Rd_init 12 = .ok (.putfield 12, 3) := by decide +kernel
theorem d_Rd_init_15 : dec m_Rd_init 15 = .ok (.aload_n 0, 1) := by decide +kernel
theorem d_Rd_init_16 : dec m_Rd_init 16 = .ok (.aload_n 1, 1) := by decide +kernel
theorem d_Rd_init_17 : dec m_Rd_init 17 = .ok (.putfield 18, 3) := by decide +kernel
theorem d_Rd_init_20 : dec m_Rd_init 20 = .ok (.return_, 1) := by decide +kernel
theorem d_Ro_init_0 : dec m_Ro_init 0 = .ok (.aload_n 0, 1) := by decide +kernel
theorem d_Ro_init_1 : dec m_Ro_init 1 = .ok (.invokespecial 3, 3) := by decide +kernel
theorem d_Ro_init_4 : dec m_Ro_init 4 = .ok (.aload_n 0, 1) := by decide +kernel
theorem d_Ro_init_5 : dec m_Ro_init 5 = .ok (.new 9, 3) := by decide +kernel
theorem d_Ro_init_8 : dec m_Ro_init 8 = .ok (.dup, 1) := by decide +kernel
theorem d_Ro_init_9 : dec m_Ro_init 9 = .ok (.bipush 20, 2) := by decide +kernel
theorem d_Ro_init_11 : dec m_Ro_init 11 = .ok (.invokespecial 11, 3) := by decide +kernel
theorem d_Ro_init_14 : dec m_Ro_init 14 = .ok (.putfield 14, 3) := by decide +kernel
theorem d_Ro_init_17 : dec m_Ro_init 17 = .ok (.return_, 1) := by decide +kernel
theorem d_Ro_workOut_0 : dec m_Ro_workOut 0 = .ok (.aload_n 0, 1) := by decide +kernel
theorem d_Ro_workOut_1 : dec m_Ro_workOut 1 = .ok (.getfield 14, 3) := by decide +kernel
theorem d_Ro_workOut_4 : dec m_Ro_workOut 4 = .ok (.bipush (-5), 2) := by decide +kernel
theorem d_Ro_workOut_6 : dec m_Ro_workOut 6 = .ok (.invokevirtual 20, 3) := by decide +kernel
theorem d_Ro_workOut_9 : dec m_Ro_workOut 9 = .ok (.iconst 0, 1) := by decide +kernel
theorem d_Ro_workOut_10 : dec m_Ro_workOut 10 = .ok (.istore_n 2, 1) := by decide +kernel
theorem d_Ro_workOut_11 : dec m_Ro_workOut 11 = .ok (.iload_n 2, 1) := by decide +kernel
theorem d_Ro_workOut_12 : dec m_Ro_workOut 12 = .ok (.bipush 20, 2) := by decide +kernel
theorem d_Ro_workOut_14 : dec m_Ro_workOut 14 = .ok (.if_icmp .ge 26, 3) := by decide +kernel
theorem d_Ro_workOut_17 : dec m_Ro_workOut 17 = .ok (.aload_n 1, 1) := by decide +kernel
theorem d_Ro_workOut_18 : dec m_Ro_workOut 18 = .ok (.iload_n 2, 1) := by decide +kernel
theorem d_Ro_workOut_19 : dec m_Ro_workOut 19 = .ok (.invokevirtual 23, 3) := by decide +kernel
theorem d_Ro_workOut_22 : dec m_Ro_workOut 22 = .ok (.ifCond .eq 12, 3) := by decide +kernel
theorem d_Ro_workOut_25 : dec m_Ro_workOut 25 = .ok (.aload_n 0, 1) := by decide +kernel
theorem d_Ro_workOut_26 : dec m_Ro_workOut 26 = .ok (.getfield 14, 3) := by decide +kernel
theorem d_Ro_workOut_29 : dec m_Ro_workOut 29 = .ok (.iload_n 2, 1) := by decide +kernel
theorem d_Ro_workOut_30 : dec m_Ro_workOut 30 = .ok (.iconst 0, 1) := by decide +kernel
theorem d_Ro_workOut_31 : dec m_Ro_workOut 31 = .ok (.invokevirtual 29, 3) := by decide +kernel
theorem d_Ro_workOut_34 : dec m_Ro_workOut 34 = .ok (.iinc 2 1, 3) := by decide +kernel
theorem d_Ro_workOut_37 : dec m_Ro_workOut 37 = .ok (.goto (-26), 3) := by decide +kernel
theorem d_Ro_workOut_40 : dec m_Ro_workOut 40 = .ok (.iconst 1, 1) := by decide +kernel
theorem d_Ro_workOut_41 : dec m_Ro_workOut 41 = .ok (.istore_n 2, 1) := by decide +kernel
theorem d_Ro_workOut_42 : dec m_Ro_workOut 42 = .ok (.iload_n 2, 1) := by decide +kernel
theorem d_Ro_workOut_43 : dec m_Ro_workOut 43 = .ok (.bipush 20, 2) := by decide +kernel
theorem d_Ro_workOut_45 : dec m_Ro_workOut 45 = .ok (.if_icmp .gt 15, 3) := by decide +kernel
theorem d_Ro_workOut_48 : dec m_Ro_workOut 48 = .ok (.aload_n 0, 1) := by decide +kernel
theorem d_Ro_workOut_49 : dec m_Ro_workOut 49 = .ok (.aload_n 1, 1) := by decide +kernel
theorem d_Ro_workOut_50 : dec m_Ro_workOut 50 = .ok (.iload_n 2, 1) := by decide +kernel
theorem d_Ro_workOut_51 : dec m_Ro_workOut 51 = .ok (.invokevirtual 33, 3) := by decide +kernel
theorem d_Ro_workOut_54 : dec m_Ro_workOut 54 = .ok (.iinc 2 1, 3) := by decide +kernel
theorem d_Ro_workOut_57 : dec m_Ro_workOut 57 = .ok (.goto (-15), 3) := by decide +kernel
theorem d_Ro_workOut_60 : dec m_Ro_workOut 60 = .ok (.return_, 1) := by decide +kernel
theorem d_Ro_playRound_0 : dec m_Ro_playRound 0 = .ok (.iconst 0, 1) := by decide +kernel
theorem d_Ro_playRound_1 : dec m_Ro_playRound 1 = .ok (.istore_n 3, 1) := by decide +kernel
theorem d_Ro_playRound_2 : dec m_Ro_playRound 2 = .ok (.iload_n 3, 1) := by decide +kernel
theorem d_Ro_playRound_3 : dec m_Ro_playRound 3 = .ok (.bipush 20, 2) := by decide +kernel
theorem d_Ro_playRound_5 : dec m_Ro_playRound 5 = .ok (.if_icmp .ge 44, 3) := by decide +kernel
theorem d_Ro_playRound_8 : dec m_Ro_playRound 8 = .ok (.aload_n 0, 1) := by decide +kernel
theorem d_Ro_playRound_9 : dec m_Ro_playRound 9 = .ok (.iload_n 3, 1) := by decide +kernel
theorem d_Ro_playRound_10 : dec m_Ro_playRound 10 = .ok (.invokevirtual 37, 3) := by decide +kernel
theorem d_Ro_playRound_13 : dec m_Ro_playRound 13 = .ok (.ifCond .ne 30, 3) := by decide +kernel
theorem d_Ro_playRound_16 : dec m_Ro_playRound 16 = .ok (.aload_n 1, 1) := by decide +kernel
theorem d_Ro_playRound_17 : dec m_Ro_playRound 17 = .ok (.iload_n 3, 1) := by decide +kernel
theorem d_Ro_playRound_18 : dec m_Ro_playRound 18 = .ok (.invokevirtual 40, 3) := by decide +kernel
theorem d_Ro_playRound_21 : dec m_Ro_playRound 21 = .ok (.ifCond .ne 22, 3) := by decide +kernel
theorem d_Ro_playRound_24 : dec m_Ro_playRound 24 = .ok (.aload_n 0, 1) := by decide +kernel
theorem d_Ro_playRound_25 : dec m_Ro_playRound 25 = .ok (.aload_n 1, 1) := by decide +kernel
theorem d_Ro_playRound_26 : dec m_Ro_playRound 26 = .ok (.iload_n 3, 1) := by decide +kernel
theorem d_Ro_playRound_27 : dec m_Ro_playRound 27 = .ok (.iload_n 2, 1) := by decide +kernel
theorem d_Ro_playRound_28 : dec m_Ro_playRound 28 = .ok (.invokevirtual 43, 3) := by decide +kernel
theorem d_Ro_playRound_31 : dec m_Ro_playRound 31 = .ok (.ifCond .eq 12, 3) := by decide +kernel
theorem d_Ro_playRound_34 : dec m_Ro_playRound 34 = .ok (.aload_n 0, 1) := by decide +kernel
theorem d_Ro_playRound_35 : dec m_Ro_playRound 35 = .ok (.getfield 14, 3) := by decide +kernel
theorem d_Ro_playRound_38 : dec m_Ro_playRound 38 = .ok (.iload_n 3, 1) := by decide +kernel
theorem d_Ro_playRound_39 : dec m_Ro_playRound 39 = .ok (.iload_n 2, 1) := by decide +kernel
theorem d_Ro_playRound_40 : dec m_Ro_playRound 40 = .ok (.invokevirtual 29, 3) := by decide +kernel
theorem d_Ro_playRound_43 : dec m_Ro_playRound 43 = .ok (.iinc 3 1, 3) := by decide +kernel
theorem d_Ro_playRound_46 : dec m_Ro_playRound 46 = .ok (.goto (-44), 3) := by decide +kernel
theorem d_Ro_playRound_49 : dec m_Ro_playRound 49 = .ok (.return_, 1) := by decide +kernel
theorem d_Ro_isWonBy_0 : dec m_Ro_isWonBy 0 = .ok (.aload_n 1, 1) := by decide +kernel
theorem d_Ro_isWonBy_1 : dec m_Ro_isWonBy 1 = .ok (.getfield 47, 3) := by decide +kernel
theorem d_Ro_isWonBy_4 : dec m_Ro_isWonBy 4 = .ok (.iload_n 2, 1) := by decide +kernel
theorem d_Ro_isWonBy_5 : dec m_Ro_isWonBy 5 = .ok (.invokevirtual 50, 3) := by decide +kernel
theorem d_Ro_isWonBy_8 : dec m_Ro_isWonBy 8 = .ok (.istore 4, 2) := by decide +kernel
theorem d_Ro_isWonBy_10 : dec m_Ro_isWonBy 10 = .ok (.iconst 0, 1) := by decide +kernel
theorem d_Ro_isWonBy_11 : dec m_Ro_isWonBy 11 = .ok (.istore 5, 2) := by decide +kernel
theorem d_Ro_isWonBy_13 : dec m_Ro_isWonBy 13 = .ok (.iconst 0, 1) := by decide +kernel
theorem d_Ro_isWonBy_14 : dec m_Ro_isWonBy 14 = .ok (.istore 6, 2) := by decide +kernel
theorem d_Ro_isWonBy_16 : dec m_Ro_isWonBy 16 = .ok (.iload 6, 2) := by decide +kernel
theorem d_Ro_isWonBy_18 : dec m_Ro_isWonBy 18 = .ok (.iload 4, 2) := by decide +kernel
theorem d_Ro_isWonBy_20 : dec m_Ro_isWonBy 20 = .ok (.if_icmp .ge 40, 3) := by decide +kernel
theorem d_Ro_isWonBy_23 : dec m_Ro_isWonBy 23 = .ok (.aload_n 1, 1) := by decide +kernel
theorem d_Ro_isWonBy_24 : dec m_Ro_isWonBy 24 = .ok (.iload_n 2, 1) := by decide +kernel
theorem d_Ro_isWonBy_25 : dec m_Ro_isWonBy 25 = .ok (.iload 6, 2) := by decide +kernel
theorem d_Ro_isWonBy_27 : dec m_Ro_isWonBy 27 = .ok (.invokevirtual 54, 3) := by decide +kernel
theorem d_Ro_isWonBy_30 : dec m_Ro_isWonBy 30 = .ok (.istore 7, 2) := by decide +kernel
theorem d_Ro_isWonBy_32 : dec m_Ro_isWonBy 32 = .ok (.aload_n 0, 1) := by decide +kernel
theorem d_Ro_isWonBy_33 : dec m_Ro_isWonBy 33 = .ok (.iload 7, 2) := by decide +kernel
theorem d_Ro_isWonBy_35 : dec m_Ro_isWonBy 35 = .ok (.invokevirtual 37, 3) := by decide +kernel
theorem d_Ro_isWonBy_38 : dec m_Ro_isWonBy 38 = .ok (.ifCond .eq 16, 3) := by decide +kernel
theorem d_Ro_isWonBy_41 : dec m_Ro_isWonBy 41 = .ok (.aload_n 0, 1) := by decide +kernel
theorem d_Ro_isWonBy_42 : dec m_Ro_isWonBy 42 = .ok (.iload 7, 2) := by decide +kernel
theorem d_Ro_isWonBy_44 : dec m_Ro_isWonBy 44 = .ok (.invokevirtual 58, 3) := by decide +kernel
theorem d_Ro_isWonBy_47 : dec m_Ro_isWonBy 47 = .ok (.iload_n 3, 1) := by decide +kernel
theorem d_Ro_isWonBy_48 : dec m_Ro_isWonBy 48 = .ok (.if_icmp .ge 6, 3) := by decide +kernel
theorem d_Ro_isWonBy_51 : dec m_Ro_isWonBy 51 = .ok (.iinc 5 1, 3) := by decide +kernel
theorem d_Ro_isWonBy_54 : dec m_Ro_isWonBy 54 = .ok (.iinc 6 1, 3) := by decide +kernel
theorem d_Ro_isWonBy_57 : dec m_Ro_isWonBy 57 = .ok (.goto (-41), 3) := by decide +kernel
theorem d_Ro_isWonBy_60 : dec m_Ro_isWonBy 60 = .ok (.aload_n 1, 1) := by decide +kernel
theorem d_Ro_isWonBy_61 : dec m_Ro_isWonBy 61 = .ok (.getfield 61, 3) := by decide +kernel
theorem d_Ro_isWonBy_64 : dec m_Ro_isWonBy 64 = .ok (.iload_n 2, 1) := by decide +kernel
theorem d_Ro_isWonBy_65 : dec m_Ro_isWonBy 65 = .ok (.invokevirtual 50, 3) := by decide +kernel
theorem d_Ro_isWonBy_68 : dec m_Ro_isWonBy 68 = .ok (.ifCond .ne 16, 3) := by decide +kernel
theorem d_Ro_isWonBy_71 : dec m_Ro_isWonBy 71 = .ok (.iload 5, 2) := by decide +kernel
theorem d_Ro_isWonBy_73 : dec m_Ro_isWonBy 73 = .ok (.ifCond .le 7, 3) := by decide +kernel
theorem d_Ro_isWonBy_76 : dec m_Ro_isWonBy 76 = .ok (.iconst 1, 1) := by decide +kernel
theorem d_Ro_isWonBy_77 : dec m_Ro_isWonBy 77 = .ok (.goto 19, 3) := by decide +kernel
theorem d_Ro_isWonBy_80 : dec m_Ro_isWonBy 80 = .ok (.iconst 0, 1) := by decide +kernel
theorem d_Ro_isWonBy_81 : dec m_Ro_isWonBy 81 = .ok (.goto 15, 3) := by decide +kernel
theorem d_Ro_isWonBy_84 : dec m_Ro_isWonBy 84 = .ok (.iload 5, 2) := by decide +kernel
theorem d_Ro_isWonBy_86 : dec m_Ro_isWonBy 86 = .ok (.iload 4, 2) := by decide +kernel
theorem d_Ro_isWonBy_88 : dec m_Ro_isWonBy 88 = .ok (.if_icmp .ne 7, 3) := by decide +kernel
theorem d_Ro_isWonBy_91 : dec m_Ro_isWonBy 91 = .ok (.iconst 1, 1) := by decide +kernel
theorem d_Ro_isWonBy_92 : dec m_Ro_isWonBy 92 = .ok (.goto 4, 3) := by decide +kernel
theorem d_Ro_isWonBy_95 : dec m_Ro_isWonBy 95 = .ok (.iconst 0, 1) := by decide +kernel
theorem d_Ro_isWonBy_96 : dec m_Ro_isWonBy 96 = .ok (.ireturn, 1) := by decide +kernel
theorem d_Ro_isWon_0 : dec m_Ro_isWon 0 = .ok (.aload_n 0, 1) := by decide +kernel
theorem d_Ro_isWon_1 : dec m_Ro_isWon 1 = .ok (.getfield 14, 3) := by decide +kernel
theorem d_Ro_isWon_4 : dec m_Ro_isWon 4 = .ok (.iload_n 1, 1) := by decide +kernel
theorem d_Ro_isWon_5 : dec m_Ro_isWon 5 = .ok (.invokevirtual 50, 3) := by decide +kernel
theorem d_Ro_isWon_8 : dec m_Ro_isWon 8 = .ok (.bipush (-5), 2) := by decide +kernel
theorem d_Ro_isWon_10 : dec m_Ro_isWon 10 = .ok (.if_icmp .eq 7, 3) := by decide +kernel
theorem d_Ro_isWon_13 : dec m_Ro_isWon 13 = .ok (.iconst 1, 1) := by decide +kernel
theorem d_Ro_isWon_14 : dec m_Ro_isWon 14 = .ok (.goto 4, 3) := by decide +kernel
theorem d_Ro_isWon_17 : dec m_Ro_isWon 17 = .ok (.iconst 0, 1) := by decide +kernel
theorem d_Ro_isWon_18 : dec m_Ro_isWon 18 = .ok (.ireturn, 1) := by decide +kernel
theorem d_Ro_roundOf_0 : dec m_Ro_roundOf 0 = .ok (.aload_n 0, 1) := by decide +kernel
theorem d_Ro_roundOf_1 : dec m_Ro_roundOf 1 = .ok (.getfield 14, 3) := by decide +kernel
theorem d_Ro_roundOf_4 : dec m_Ro_roundOf 4 = .ok (.iload_n 1, 1) := by decide +kernel
theorem d_Ro_roundOf_5 : dec m_Ro_roundOf 5 = .ok (.invokevirtual 50, 3) := by decide +kernel
theorem d_Ro_roundOf_8 : dec m_Ro_roundOf 8 = .ok (.ireturn, 1) := by decide +kernel
theorem d_Ro_wonPositions_0 : dec m_Ro_wonPositions 0 = .ok (.iconst 0, 1) := by decide +kernel
theorem d_Ro_wonPositions_1 : dec m_Ro_wonPositions 1 = .ok (.istore_n 1, 1) := by decide +kernel
theorem d_Ro_wonPositions_2 : dec m_Ro_wonPositions 2 = .ok (.iconst 0, 1) := by decide +kernel
theorem d_Ro_wonPositions_3 : dec m_Ro_wonPositions 3 = .ok (.istore_n 2, 1) := by decide +kernel
theorem d_Ro_wonPositions_4 : dec m_Ro_wonPositions 4 = .ok (.iload_n 2, 1) := by decide +kernel
theorem d_Ro_wonPositions_5 : dec m_Ro_wonPositions 5 = .ok (.bipush 20, 2) := by decide +kernel
theorem d_Ro_wonPositions_7 : dec m_Ro_wonPositions 7 = .ok (.if_icmp .ge 20, 3) := by decide +kernel
theorem d_Ro_wonPositions_10 : dec m_Ro_wonPositions 10 = .ok (.aload_n 0, 1) := by decide +kernel
theorem d_Ro_wonPositions_11 : dec m_Ro_wonPositions 11 = .ok (.iload_n 2, 1) := by decide +kernel
theorem d_Ro_wonPositions_12 : dec m_Ro_wonPositions 12 = .ok (.invokevirtual 37, 3) := by decide +kernel
theorem d_Ro_wonPositions_15 : dec m_Ro_wonPositions 15 = .ok (.ifCond .eq 6, 3) := by decide +kernel
theorem d_Ro_wonPositions_18 : dec m_Ro_wonPositions 18 = .ok (.iinc 1 1, 3) := by decide +kernel
theorem d_Ro_wonPositions_21 : dec m_Ro_wonPositions 21 = .ok (.iinc 2 1, 3) := by decide +kernel
theorem d_Ro_wonPositions_24 : dec m_Ro_wonPositions 24 = .ok (.goto (-20), 3) := by decide +kernel
theorem d_Ro_wonPositions_27 : dec m_Ro_wonPositions 27 = .ok (.iload_n 1, 1) := by decide +kernel
theorem d_Ro_wonPositions_28 : dec m_Ro_wonPositions 28 = .ok (.ireturn, 1) := by decide +kernel
theorem d_Rw_init_0 : dec m_Rw_init 0 = .ok (.aload_n 0, 1) := by decide +kernel
theorem d_Rw_init_1 : dec m_Rw_init 1 = .ok (.invokespecial 1, 3) := by decide +kernel
theorem d_Rw_init_4 : dec m_Rw_init 4 = .ok (.aload_n 0, 1) := by decide +kernel
theorem d_Rw_init_5 : dec m_Rw_init 5 = .ok (.iconst 0, 1) := by decide +kernel
theorem d_Rw_init_6 : dec m_Rw_init 6 = .ok (.iload_n 1, 1) := by decide +kernel
theorem d_Rw_init_7 : dec m_Rw_init 7 = .ok (.invokestatic 7, 3) := by decide +kernel
theorem d_Rw_init_10 : dec m_Rw_init 10 = .ok (.newarray .int, 2) := by decide +kernel
theorem d_Rw_init_12 : dec m_Rw_init 12 = .ok (.putfield 13, 3) := by decide +kernel
theorem d_Rw_init_15 : dec m_Rw_init 15 = .ok (.return_, 1) := by decide +kernel
theorem d_Rw_get_0 : dec m_Rw_get 0 = .ok (.iload_n 1, 1) := by decide +kernel
theorem d_Rw_get_1 : dec m_Rw_get 1 = .ok (.ifCond .lt 21, 3) := by decide +kernel
theorem d_Rw_get_4 : dec m_Rw_get 4 = .ok (.iload_n 1, 1) := by decide +kernel
theorem d_Rw_get_5 : dec m_Rw_get 5 = .ok (.aload_n 0, 1) := by decide +kernel
theorem d_Rw_get_6 : dec m_Rw_get 6 = .ok (.getfield 13, 3) := by decide +kernel
theorem d_Rw_get_9 : dec m_Rw_get 9 = .ok (.arraylength, 1) := by decide +kernel
theorem d_Rw_get_10 : dec m_Rw_get 10 = .ok (.if_icmp .ge 12, 3) := by decide +kernel
theorem d_Rw_get_13 : dec m_Rw_get 13 = .ok (.aload_n 0, 1) := by decide +kernel
theorem d_Rw_get_14 : dec m_Rw_get 14 = .ok (.getfield 13, 3) := by decide +kernel
theorem d_Rw_get_17 : dec m_Rw_get 17 = .ok (.iload_n 1, 1) := by decide +kernel
theorem d_Rw_get_18 : dec m_Rw_get 18 = .ok (.iaload, 1) := by decide +kernel
theorem d_Rw_get_19 : dec m_Rw_get 19 = .ok (.goto 4, 3) := by decide +kernel
theorem d_Rw_get_22 : dec m_Rw_get 22 = .ok (.iconst 0, 1) := by decide +kernel
theorem d_Rw_get_23 : dec m_Rw_get 23 = .ok (.ireturn, 1) := by decide +kernel
theorem d_Rw_set_0 : dec m_Rw_set 0 = .ok (.iload_n 1, 1) := by decide +kernel
theorem d_Rw_set_1 : dec m_Rw_set 1 = .ok (.ifCond .lt 19, 3) := by decide +kernel
theorem d_Rw_set_4 : dec m_Rw_set 4 = .ok (.iload_n 1, 1) := by decide +kernel
theorem d_Rw_set_5 : dec m_Rw_set 5 = .ok (.aload_n 0, 1) := by decide +kernel
theorem d_Rw_set_6 : dec m_Rw_set 6 = .ok (.getfield 13, 3) := by decide +kernel
theorem d_Rw_set_9 : dec m_Rw_set 9 = .ok (.arraylength, 1) := by decide +kernel
theorem d_Rw_set_10 : dec m_Rw_set 10 = .ok (.if_icmp .ge 10, 3) := by decide +kernel
theorem d_Rw_set_13 : dec m_Rw_set 13 = .ok (.aload_n 0, 1) := by decide +kernel
theorem d_Rw_set_14 : dec m_Rw_set 14 = .ok (.getfield 13, 3) := by decide +kernel
theorem d_Rw_set_17 : dec m_Rw_set 17 = .ok (.iload_n 1, 1) := by decide +kernel
theorem d_Rw_set_18 : dec m_Rw_set 18 = .ok (.iload_n 2, 1) := by decide +kernel
theorem d_Rw_set_19 : dec m_Rw_set 19 = .ok (.iastore, 1) := by decide +kernel
theorem d_Rw_set_20 : dec m_Rw_set 20 = .ok (.return_, 1) := by decide +kernel
theorem d_Rw_fill_0 : dec m_Rw_fill 0 = .ok (.iconst 0, 1) := by decide +kernel
theorem d_Rw_fill_1 : dec m_Rw_fill 1 = .ok (.istore_n 2, 1) := by decide +kernel
theorem d_Rw_fill_2 : dec m_Rw_fill 2 = .ok (.iload_n 2, 1) := by decide +kernel
theorem d_Rw_fill_3 : dec m_Rw_fill 3 = .ok (.aload_n 0, 1) := by decide +kernel
theorem d_Rw_fill_4 : dec m_Rw_fill 4 = .ok (.getfield 13, 3) := by decide +kernel
theorem d_Rw_fill_7 : dec m_Rw_fill 7 = .ok (.arraylength, 1) := by decide +kernel
theorem d_Rw_fill_8 : dec m_Rw_fill 8 = .ok (.if_icmp .ge 16, 3) := by decide +kernel
theorem d_Rw_fill_11 : dec m_Rw_fill 11 = .ok (.aload_n 0, 1) := by decide +kernel
theorem d_Rw_fill_12 : dec m_Rw_fill 12 = .ok (.getfield 13, 3) := by decide +kernel
theorem d_Rw_fill_15 : dec m_Rw_fill 15 = .ok (.iload_n 2, 1) := by decide +kernel
theorem d_Rw_fill_16 : dec m_Rw_fill 16 = .ok (.iload_n 1, 1) := by decide +kernel
theorem d_Rw_fill_17 : dec m_Rw_fill 17 = .ok (.iastore, 1) := by decide +kernel
theorem d_Rw_fill_18 : dec m_Rw_fill 18 = .ok (.iinc 2 1, 3) := by decide +kernel
theorem d_Rw_fill_21 : dec m_Rw_fill 21 = .ok (.goto (-19), 3) := by decide +kernel
theorem d_Rw_fill_24 : dec m_Rw_fill 24 = .ok (.return_, 1) := by decide +kernel
theorem d_Rw_copyFrom_0 : dec m_Rw_copyFrom 0 = .ok (.aload_n 1, 1) := by decide +kernel
theorem d_Rw_copyFrom_1 : dec m_Rw_copyFrom 1 = .ok (.getfield 13, 3) := by decide +kernel
theorem d_Rw_copyFrom_4 : dec m_Rw_copyFrom 4 = .ok (.iconst 0, 1) := by decide +kernel
theorem d_Rw_copyFrom_5 : dec m_Rw_copyFrom 5 = .ok (.aload_n 0, 1) := by decide +kernel
theorem d_Rw_copyFrom_6 : dec m_Rw_copyFrom 6 = .ok (.getfield 13, 3) := by decide +kernel
theorem d_Rw_copyFrom_9 : dec m_Rw_copyFrom 9 = .ok (.iconst 0, 1) := by decide +kernel
theorem d_Rw_copyFrom_10 : dec m_Rw_copyFrom 10 = .ok (.aload_n 1, 1) := by decide +kernel
theorem d_Rw_copyFrom_11 : dec m_Rw_copyFrom 11 = .ok (.getfield 13, 3) := by decide +kernel
theorem d_Rw_copyFrom_14 : dec m_Rw_copyFrom 14 = .ok (.arraylength, 1) := by decide +kernel
theorem d_Rw_copyFrom_15 : dec m_Rw_copyFrom 15 = .ok (.aload_n 0, 1) := by decide +kernel
theorem d_Rw_copyFrom_16 : dec m_Rw_copyFrom 16 = .ok (.getfield 13, 3) := by decide +kernel
theorem d_Rw_copyFrom_19 : dec m_Rw_copyFrom 19 = .ok (.arraylength, 1) := by decide +kernel
theorem d_Rw_copyFrom_20 : dec m_Rw_copyFrom 20 = .ok (.invokestatic 19, 3) := by decide +kernel
theorem d_Rw_copyFrom_23 : dec m_Rw_copyFrom 23 = .ok (.invokestatic 22, 3) := by decide +kernel
theorem d_Rw_copyFrom_26 : dec m_Rw_copyFrom 26 = .ok (.return_, 1) := by decide +kernel
theorem d_St_init_0 : dec m_St_init 0 = .ok (.aload_n 0, 1) := by decide +kernel
theorem d_St_init_1 : dec m_St_init 1 = .ok (.invokespecial 1, 3) := by decide +kernel
theorem d_St_init_4 : dec m_St_init 4 = .ok (.aload_n 0, 1) := by decide +kernel
theorem d_St_init_5 : dec m_St_init 5 = .ok (.new 7, 3) := by decide +kernel
theorem d_St_init_8 : dec m_St_init 8 = .ok (.dup, 1) := by decide +kernel
theorem d_St_init_9 : dec m_St_init 9 = .ok (.invokespecial 9, 3) := by decide +kernel
theorem d_St_init_12 : dec m_St_init 12 = .ok (.putfield 10, 3) := by decide +kernel
theorem d_St_init_15 : dec m_St_init 15 = .ok (.aload_n 0, 1) := by decide +kernel
theorem d_St_init_16 : dec m_St_init 16 = .ok (.new 16, 3) := by decide +kernel
theorem d_St_init_19 : dec m_St_init 19 = .ok (.dup, 1) := by decide +kernel
theorem d_St_init_20 : dec m_St_init 20 = .ok (.aload_n 0, 1) := by decide +kernel
theorem d_St_init_21 : dec m_St_init 21 = .ok (.getfield 10, 3) := by decide +kernel
theorem d_St_init_24 : dec m_St_init 24 = .ok (.invokespecial 18, 3) := by decide +kernel
theorem d_St_init_27 : dec m_St_init 27 = .ok (.putfield 21, 3) := by decide +kernel
theorem d_St_init_30 : dec m_St_init 30 = .ok (.return_, 1) := by decide +kernel
theorem d_St_copyFrom_0 : dec m_St_copyFrom 0 = .ok (.aload_n 0, 1) := by decide +kernel
theorem d_St_copyFrom_1 : dec m_St_copyFrom 1 = .ok (.getfield 10, 3) := by decide +kernel
theorem d_St_copyFrom_4 : dec m_St_copyFrom 4 = .ok (.aload_n 1, 1) := by decide +kernel
theorem d_St_copyFrom_5 : dec m_St_copyFrom 5 = .ok (.getfield 10, 3) := by decide +kernel
theorem d_St_copyFrom_8 : dec m_St_copyFrom 8 = .ok (.invokevirtual 25, 3) := by decide +kernel
theorem d_St_copyFrom_11 : dec m_St_copyFrom 11 = .ok (.aload_n 0, 1) := by decide +kernel
theorem d_St_copyFrom_12 : dec m_St_copyFrom 12 = .ok (.getfield 21, 3) := by decide +kernel
theorem d_St_copyFrom_15 : dec m_St_copyFrom 15 = .ok (.aload_n 1, 1) := by decide +kernel
theorem d_St_copyFrom_16 : dec m_St_copyFrom 16 = .ok (.getfield 21, 3) := by decide +kernel
theorem d_St_copyFrom_19 : dec m_St_copyFrom 19 = .ok (.invokevirtual 28, 3) := by decide +kernel
theorem d_St_copyFrom_22 : dec m_St_copyFrom 22 = .ok (.return_, 1) := by decide +kernel
theorem d_Tx_init_0 : dec m_Tx_init 0 = .ok (.aload_n 0, 1) := by decide +kernel
theorem d_Tx_init_1 : dec m_Tx_init 1 = .ok (.invokespecial 3, 3) := by decide +kernel
theorem d_Tx_init_4 : dec m_Tx_init 4 = .ok (.aload_n 0, 1) := by decide +kernel
theorem d_Tx_init_5 : dec m_Tx_init 5 = .ok (.bipush 60, 2) := by decide +kernel
theorem d_Tx_init_7 : dec m_Tx_init 7 = .ok (.newarray .char, 2) := by decide +kernel
theorem d_Tx_init_9 : dec m_Tx_init 9 = .ok (.putfield 9, 3) := by decide +kernel
theorem d_Tx_init_12 : dec m_Tx_init 12 = .ok (.return_, 1) := by decide +kernel
theorem d_Tr_init_0 : dec m_Tr_init 0 = .ok (.aload_n 0, 1) := by decide +kernel
theorem d_Tr_init_1 : dec m_Tr_init 1 = .ok (.invokespecial 3, 3) := by decide +kernel
theorem d_Tr_init_4 : dec m_Tr_init 4 = .ok (.aload_n 0, 1) := by decide +kernel
theorem d_Tr_init_5 : dec m_Tr_init 5 = .ok (.new 9, 3) := by decide +kernel
theorem d_Tr_init_8 : dec m_Tr_init 8 = .ok (.dup, 1) := by decide +kernel
theorem d_Tr_init_9 : dec m_Tr_init 9 = .ok (.sipush 200, 3) := by decide +kernel
theorem d_Tr_init_12 : dec m_Tr_init 12 = .ok (.invokespecial 11, 3) := by decide +kernel
theorem d_Tr_init_15 : dec m_Tr_init 15 = .ok (.putfield 14, 3) := by decide +kernel
theorem d_Tr_init_18 : dec m_Tr_init 18 = .ok (.aload_n 0, 1) := by decide +kernel
theorem d_Tr_init_19 : dec m_Tr_init 19 = .ok (.new 9, 3) := by decide +kernel
theorem d_Tr_init_22 : dec m_Tr_init 22 = .ok (.dup, 1) := by decide +kernel
theorem d_Tr_init_23 : dec m_Tr_init 23 = .ok (.sipush 200, 3) := by decide +kernel
theorem d_Tr_init_26 : dec m_Tr_init 26 = .ok (.invokespecial 11, 3) := by decide +kernel
theorem d_Tr_init_29 : dec m_Tr_init 29 = .ok (.putfield 20, 3) := by decide +kernel
theorem d_Tr_init_32 : dec m_Tr_init 32 = .ok (.aload_n 0, 1) := by decide +kernel
theorem d_Tr_init_33 : dec m_Tr_init 33 = .ok (.new 9, 3) := by decide +kernel
theorem d_Tr_init_36 : dec m_Tr_init 36 = .ok (.dup, 1) := by decide +kernel
theorem d_Tr_init_37 : dec m_Tr_init 37 = .ok (.sipush 200, 3) := by decide +kernel
theorem d_Tr_init_40 : dec m_Tr_init 40 = .ok (.invokespecial 11, 3) := by decide +kernel
theorem d_Tr_init_43 : dec m_Tr_init 43 = .ok (.putfield 23, 3) := by decide +kernel
theorem d_Tr_init_46 : dec m_Tr_init 46 = .ok (.aload_n 0, 1) := by decide +kernel
theorem d_Tr_init_47 : dec m_Tr_init 47 = .ok (.new 9, 3) := by decide +kernel
theorem d_Tr_init_50 : dec m_Tr_init 50 = .ok (.dup, 1) := by decide +kernel
theorem d_Tr_init_51 : dec m_Tr_init 51 = .ok (.sipush 200, 3) := by decide +kernel
theorem d_Tr_init_54 : dec m_Tr_init 54 = .ok (.invokespecial 11, 3) := by decide +kernel
theorem d_Tr_init_57 : dec m_Tr_init 57 = .ok (.putfield 26, 3) := by decide +kernel
theorem d_Tr_init_60 : dec m_Tr_init 60 = .ok (.aload_n 0, 1) := by decide +kernel
theorem d_Tr_init_61 : dec m_Tr_init 61 = .ok (.new 9, 3) := by decide +kernel
theorem d_Tr_init_64 : dec m_Tr_init 64 = .ok (.dup, 1) := by decide +kernel
theorem d_Tr_init_65 : dec m_Tr_init 65 = .ok (.sipush 200, 3) := by decide +kernel
theorem d_Tr_init_68 : dec m_Tr_init 68 = .ok (.invokespecial 11, 3) := by decide +kernel
theorem d_Tr_init_71 : dec m_Tr_init 71 = .ok (.putfield 29, 3) := by decide +kernel
theorem d_Tr_init_74 : dec m_Tr_init 74 = .ok (.aload_n 0, 1) := by decide +kernel
theorem d_Tr_init_75 : dec m_Tr_init 75 = .ok (.new 9, 3) := by decide +kernel
theorem d_Tr_init_78 : dec m_Tr_init 78 = .ok (.dup, 1) := by decide +kernel
theorem d_Tr_init_79 : dec m_Tr_init 79 = .ok (.sipush 200, 3) := by decide +kernel
theorem d_Tr_init_82 : dec m_Tr_init 82 = .ok (.invokespecial 11, 3) := by decide +kernel
theorem d_Tr_init_85 : dec m_Tr_init 85 = .ok (.putfield 32, 3) := by decide +kernel
theorem d_Tr_init_88 : dec m_Tr_init 88 = .ok (.aload_n 0, 1) := by decide +kernel
theorem d_Tr_init_89 : dec m_Tr_init 89 = .ok (.new 9, 3) := by decide +kernel
theorem d_Tr_init_92 : dec m_Tr_init 92 = .ok (.dup, 1) := by decide +kernel
theorem d_Tr_init_93 : dec m_Tr_init 93 = .ok (.sipush 200, 3) := by decide +kernel
theorem d_Tr_init_96 : dec m_Tr_init 96 = .ok (.invokespecial 11, 3) := by decide +kernel
theorem d_Tr_init_99 : dec m_Tr_init 99 = .ok (.putfield 35, 3) := by decide +kernel
theorem d_Tr_init_102 : dec m_Tr_init 102 = .ok (.aload_n 0, 1) := by decide +kernel
theorem d_Tr_init_103 : dec m_Tr_init 103 = .ok (.new 9, 3) := by decide +kernel
theorem d_Tr_init_106 : dec m_Tr_init 106 = .ok (.dup, 1) := by decide +kernel
theorem d_Tr_init_107 : dec m_Tr_init 107 = .ok (.sipush 200, 3) := by decide +kernel
theorem d_Tr_init_110 : dec m_Tr_init 110 = .ok (.invokespecial 11, 3) := by decide +kernel
theorem d_Tr_init_113 : dec m_Tr_init 113 = .ok (.putfield 38, 3) := by decide +kernel
theorem d_Tr_init_116 : dec m_Tr_init 116 = .ok (.aload_n 0, 1) := by decide +kernel
theorem d_Tr_init_117 : dec m_Tr_init 117 = .ok (.aload_n 1, 1) := by decide +kernel
theorem d_Tr_init_118 : dec m_Tr_init 118 = .ok (.putfield 41, 3) := by decide +kernel
theorem d_Tr_init_121 : dec m_Tr_init 121 = .ok (.return_, 1) := by decide +kernel
theorem d_Tr_copyFrom_0 : dec m_Tr_copyFrom 0 = .ok (.aload_n 0, 1) := by decide +kernel
theorem d_Tr_copyFrom_1 : dec m_Tr_copyFrom 1 = .ok (.getfield 14, 3) := by decide +kernel
theorem d_Tr_copyFrom_4 : dec m_Tr_copyFrom 4 = .ok (.aload_n 1, 1) := by decide +kernel
theorem d_Tr_copyFrom_5 : dec m_Tr_copyFrom 5 = .ok (.getfield 14, 3) := by decide +kernel
theorem d_Tr_copyFrom_8 : dec m_Tr_copyFrom 8 = .ok (.invokevirtual 45, 3) := by decide +kernel
theorem d_Tr_copyFrom_11 : dec m_Tr_copyFrom 11 = .ok (.aload_n 0, 1) := by decide +kernel
theorem d_Tr_copyFrom_12 : dec m_Tr_copyFrom 12 = .ok (.getfield 20, 3) := by decide +kernel
theorem d_Tr_copyFrom_15 : dec m_Tr_copyFrom 15 = .ok (.aload_n 1, 1) := by decide +kernel
theorem d_Tr_copyFrom_16 : dec m_Tr_copyFrom 16 = .ok (.getfield 20, 3) := by decide +kernel
theorem d_Tr_copyFrom_19 : dec m_Tr_copyFrom 19 = .ok (.invokevirtual 45, 3) := by decide +kernel
theorem d_Tr_copyFrom_22 : dec m_Tr_copyFrom 22 = .ok (.aload_n 0, 1) := by decide +kernel
theorem d_Tr_copyFrom_23 : dec m_Tr_copyFrom 23 = .ok (.getfield 23, 3) := by decide +kernel
theorem d_Tr_copyFrom_26 : dec m_Tr_copyFrom 26 = .ok (.aload_n 1, 1) := by decide +kernel
theorem d_Tr_copyFrom_27 : dec m_Tr_copyFrom 27 = .ok (.getfield 23, 3) := by decide +kernel
theorem d_Tr_copyFrom_30 : dec m_Tr_copyFrom 30 = .ok (.invokevirtual 45, 3) := by decide +kernel
theorem d_Tr_copyFrom_33 : dec m_Tr_copyFrom 33 = .ok (.aload_n 0, 1) := by decide +kernel
theorem d_Tr_copyFrom_34 : dec m_Tr_copyFrom 34 = .ok (.getfield 26, 3) := by decide +kernel
theorem d_Tr_copyFrom_37 : dec m_Tr_copyFrom 37 = .ok (.aload_n 1, 1) := by decide +kernel
theorem d_Tr_copyFrom_38 : dec m_Tr_copyFrom 38 = .ok (.getfield 26, 3) := by decide +kernel
theorem d_Tr_copyFrom_41 : dec m_Tr_copyFrom 41 = .ok (.invokevirtual 45, 3) := by decide +kernel
theorem d_Tr_copyFrom_44 : dec m_Tr_copyFrom 44 = .ok (.aload_n 0, 1) := by decide +kernel
theorem d_Tr_copyFrom_45 : dec m_Tr_copyFrom 45 = .ok (.getfield 29, 3) := by decide +kernel
theorem d_Tr_copyFrom_48 : dec m_Tr_copyFrom 48 = .ok (.aload_n 1, 1) := by decide +kernel
theorem d_Tr_copyFrom_49 : dec m_Tr_copyFrom 49 = .ok (.getfield 29, 3) := by decide +kernel
theorem d_Tr_copyFrom_52 : dec m_Tr_copyFrom 52 = .ok (.invokevirtual 45, 3) := by decide +kernel
theorem d_Tr_copyFrom_55 : dec m_Tr_copyFrom 55 = .ok (.aload_n 0, 1) := by decide +kernel
theorem d_Tr_copyFrom_56 : dec m_Tr_copyFrom 56 = .ok (.getfield 32, 3) := by decide +kernel
theorem d_Tr_copyFrom_59 : dec m_Tr_copyFrom 59 = .ok (.aload_n 1, 1) := by decide +kernel
theorem d_Tr_copyFrom_60 : dec m_Tr_copyFrom 60 = .ok (.getfield 32, 3) := by decide +kernel
theorem d_Tr_copyFrom_63 : dec m_Tr_copyFrom 63 = .ok (.invokevirtual 45, 3) := by decide +kernel
theorem d_Tr_copyFrom_66 : dec m_Tr_copyFrom 66 = .ok (.aload_n 0, 1) := by decide +kernel
theorem d_Tr_copyFrom_67 : dec m_Tr_copyFrom 67 = .ok (.getfield 35, 3) := by decide +kernel
theorem d_Tr_copyFrom_70 : dec m_Tr_copyFrom 70 = .ok (.aload_n 1, 1) := by decide +kernel
theorem d_Tr_copyFrom_71 : dec m_Tr_copyFrom 71 = .ok (.getfield 35, 3) := by decide +kernel
theorem d_Tr_copyFrom_74 : dec m_Tr_copyFrom 74 = .ok (.invokevirtual 45, 3) := by decide +kernel
theorem d_Tr_copyFrom_77 : dec m_Tr_copyFrom 77 = .ok (.aload_n 0, 1) := by decide +kernel
theorem d_Tr_copyFrom_78 : dec m_Tr_copyFrom 78 = .ok (.getfield 38, 3) := by decide +kernel
theorem d_Tr_copyFrom_81 : dec m_Tr_copyFrom 81 = .ok (.aload_n 1, 1) := by decide +kernel
theorem d_Tr_copyFrom_82 : dec m_Tr_copyFrom 82 = .ok (.getfield 38, 3) := by decide +kernel
theorem d_Tr_copyFrom_85 : dec m_Tr_copyFrom 85 = .ok (.invokevirtual 45, 3) := by decide +kernel
theorem d_Tr_copyFrom_88 : dec m_Tr_copyFrom 88 = .ok (.aload_n 0, 1) := by decide +kernel
theorem d_Tr_copyFrom_89 : dec m_Tr_copyFrom 89 = .ok (.aload_n 1, 1) := by decide +kernel
theorem d_Tr_copyFrom_90 : dec m_Tr_copyFrom 90 = .ok (.getfield 49, 3) := by decide +kernel
theorem d_Tr_copyFrom_93 : dec m_Tr_copyFrom 93 = .ok (.putfield 49, 3) := by decide +kernel
theorem d_Tr_copyFrom_96 : dec m_Tr_copyFrom 96 = .ok (.return_, 1) := by decide +kernel
theorem d_Tr_clear_0 : dec m_Tr_clear 0 = .ok (.aload_n 0, 1) := by decide +kernel
theorem d_Tr_clear_1 : dec m_Tr_clear 1 = .ok (.iconst 0, 1) := by decide +kernel
theorem d_Tr_clear_2 : dec m_Tr_clear 2 = .ok (.putfield 49, 3) := by decide +kernel
theorem d_Tr_clear_5 : dec m_Tr_clear 5 = .ok (.return_, 1) := by decide +kernel
theorem d_Tr_isEmpty_0 : dec m_Tr_isEmpty 0 = .ok (.aload_n 0, 1) := by decide +kernel
theorem d_Tr_isEmpty_1 : dec m_Tr_isEmpty 1 = .ok (.getfield 49, 3) := by decide +kernel
theorem d_Tr_isEmpty_4 : dec m_Tr_isEmpty 4 = .ok (.ifCond .ne 7, 3) := by decide +kernel
theorem d_Tr_isEmpty_7 : dec m_Tr_isEmpty 7 = .ok (.iconst 1, 1) := by decide +kernel
theorem d_Tr_isEmpty_8 : dec m_Tr_isEmpty 8 = .ok (.goto 4, 3) := by decide +kernel
theorem d_Tr_isEmpty_11 : dec m_Tr_isEmpty 11 = .ok (.iconst 0, 1) := by decide +kernel
theorem d_Tr_isEmpty_12 : dec m_Tr_isEmpty 12 = .ok (.ireturn, 1) := by decide +kernel
theorem d_Tr_has_0 : dec m_Tr_has 0 = .ok (.iload_n 1, 1) := by decide +kernel
theorem d_Tr_has_1 : dec m_Tr_has 1 = .ok (.ifCond .lt 15, 3) := by decide +kernel
theorem d_Tr_has_4 : dec m_Tr_has 4 = .ok (.iload_n 1, 1) := by decide +kernel
theorem d_Tr_has_5 : dec m_Tr_has 5 = .ok (.aload_n 0, 1) := by decide +kernel
theorem d_Tr_has_6 : dec m_Tr_has 6 = .ok (.getfield 49, 3) := by decide +kernel
theorem d_Tr_has_9 : dec m_Tr_has 9 = .ok (.if_icmp .ge 7, 3) := by decide +kernel
theorem d_Tr_has_12 : dec m_Tr_has 12 = .ok (.iconst 1, 1) := by decide +kernel
theorem d_Tr_has_13 : dec m_Tr_has 13 = .ok (.goto 4, 3) := by decide +kernel
theorem d_Tr_has_16 : dec m_Tr_has 16 = .ok (.iconst 0, 1) := by decide +kernel
theorem d_Tr_has_17 : dec m_Tr_has 17 = .ok (.ireturn, 1) := by decide +kernel
theorem d_Tr_isLeaf_0 : dec m_Tr_isLeaf 0 = .ok (.aload_n 0, 1) := by decide +kernel
theorem d_Tr_isLeaf_1 : dec m_Tr_isLeaf 1 = .ok (.getfield 32, 3) := by decide +kernel
theorem d_Tr_isLeaf_4 : dec m_Tr_isLeaf 4 = .ok (.iload_n 1, 1) := by decide +kernel
theorem d_Tr_isLeaf_5 : dec m_Tr_isLeaf 5 = .ok (.invokevirtual 53, 3) := by decide +kernel
theorem d_Tr_isLeaf_8 : dec m_Tr_isLeaf 8 = .ok (.ifCond .ne 7, 3) := by decide +kernel
theorem d_Tr_isLeaf_11 : dec m_Tr_isLeaf 11 = .ok (.iconst 1, 1) := by decide +kernel
theorem d_Tr_isLeaf_12 : dec m_Tr_isLeaf 12 = .ok (.goto 4, 3) := by decide +kernel
theorem d_Tr_isLeaf_15 : dec m_Tr_isLeaf 15 = .ok (.iconst 0, 1) := by decide +kernel
theorem d_Tr_isLeaf_16 : dec m_Tr_isLeaf 16 = .ok (.ireturn, 1) := by decide +kernel
theorem d_Tr_endOfChildren_0 : dec m_Tr_endOfChildren 0 = .ok (.aload_n 0, 1) := by decide +kernel
theorem d_Tr_endOfChildren_1 : dec m_Tr_endOfChildren 1 = .ok (.getfield 35, 3) := by decide +kernel
theorem d_Tr_endOfChildren_4 : dec m_Tr_endOfChildren 4 = .ok (.iload_n 1, 1) := by decide +kernel
theorem d_Tr_endOfChildren_5 : dec m_Tr_endOfChildren 5 = .ok (.invokevirtual 53, 3) := by decide +kernel
theorem d_Tr_endOfChildren_8 : dec m_Tr_endOfChildren 8 = .ok (.aload_n 0, 1) := by decide +kernel
theorem d_Tr_endOfChildren_9 : dec m_Tr_endOfChildren 9 = .ok (.getfield 32, 3) := by decide +kernel
theorem d_Tr_endOfChildren_12 : dec m_Tr_endOfChildren 12 = .ok (.iload_n 1, 1) := by decide +kernel
theorem d_Tr_endOfChildren_13 : dec m_Tr_endOfChildren 13 = .ok (.invokevirtual 53, 3) := by decide +kernel
theorem d_Tr_endOfChildren_16 : dec m_Tr_endOfChildren 16 = .ok (.iadd, 1) := by decide +kernel
theorem d_Tr_endOfChildren_17 : dec m_Tr_endOfChildren 17 = .ok (.ireturn, 1) := by decide +kernel
theorem d_Tr_turnAt_0 : dec m_Tr_turnAt 0 = .ok (.aload_n 0, 1) := by decide +kernel
theorem d_Tr_turnAt_1 : dec m_Tr_turnAt 1 = .ok (.getfield 41, 3) := by decide +kernel
theorem d_Tr_turnAt_4 : dec m_Tr_turnAt 4 = .ok (.getfield 57, 3) := by decide +kernel
theorem d_Tr_turnAt_7 : dec m_Tr_turnAt 7 = .ok (.aload_n 0, 1) := by decide +kernel
theorem d_Tr_turnAt_8 : dec m_Tr_turnAt 8 = .ok (.getfield 14, 3) := by decide +kernel
theorem d_Tr_turnAt_11 : dec m_Tr_turnAt 11 = .ok (.iload_n 1, 1) := by decide +kernel
theorem d_Tr_turnAt_12 : dec m_Tr_turnAt 12 = .ok (.invokevirtual 53, 3) := by decide +kernel
theorem d_Tr_turnAt_15 : dec m_Tr_turnAt 15 = .ok (.invokevirtual 53, 3) := by decide +kernel
theorem d_Tr_turnAt_18 : dec m_Tr_turnAt 18 = .ok (.ireturn, 1) := by decide +kernel
theorem d_Tr_outcome_0 : dec m_Tr_outcome 0 = .ok (.aload_n 0, 1) := by decide +kernel
theorem d_Tr_outcome_1 : dec m_Tr_outcome 1 = .ok (.invokevirtual 62, 3) := by decide +kernel
theorem d_Tr_outcome_4 : dec m_Tr_outcome 4 = .ok (.ifCond .eq 5, 3) := by decide +kernel
theorem d_Tr_outcome_7 : dec m_Tr_outcome 7 = .ok (.iconst 0, 1) := by decide +kernel
theorem d_Tr_outcome_8 : dec m_Tr_outcome 8 = .ok (.ireturn, 1) := by decide +kernel
theorem d_Tr_outcome_9 : dec m_Tr_outcome 9 = .ok (.aload_n 0, 1) := by decide +kernel
theorem d_Tr_outcome_10 : dec m_Tr_outcome 10 = .ok (.getfield 26, 3) := by decide +kernel
theorem d_Tr_outcome_13 : dec m_Tr_outcome 13 = .ok (.iconst 0, 1) := by decide +kernel
theorem d_Tr_outcome_14 : dec m_Tr_outcome 14 = .ok (.invokevirtual 53, 3) := by decide +kernel
theorem d_Tr_outcome_17 : dec m_Tr_outcome 17 = .ok (.ifCond .ne 5, 3) := by decide +kernel
theorem d_Tr_outcome_20 : dec m_Tr_outcome 20 = .ok (.iconst 1, 1) := by decide +kernel
theorem d_Tr_outcome_21 : dec m_Tr_outcome 21 = .ok (.ireturn, 1) := by decide +kernel
theorem d_Tr_outcome_22 : dec m_Tr_outcome 22 = .ok (.aload_n 0, 1) := by decide +kernel
theorem d_Tr_outcome_23 : dec m_Tr_outcome 23 = .ok (.getfield 29, 3) := by decide +kernel
theorem d_Tr_outcome_26 : dec m_Tr_outcome 26 = .ok (.iconst 0, 1) := by decide +kernel
theorem d_Tr_outcome_27 : dec m_Tr_outcome 27 = .ok (.invokevirtual 53, 3) := by decide +kernel
theorem d_Tr_outcome_30 : dec m_Tr_outcome 30 = .ok (.ifCond .ne 7, 3) := by decide +kernel
theorem d_Tr_outcome_33 : dec m_Tr_outcome 33 = .ok (.iconst 2, 1) := by decide +kernel
theorem d_Tr_outcome_34 : dec m_Tr_outcome 34 = .ok (.goto 4, 3) := by decide +kernel
theorem d_Tr_outcome_37 : dec m_Tr_outcome 37 = .ok (.iconst 0, 1) := by decide +kernel
theorem d_Tr_outcome_38 : dec m_Tr_outcome 38 = .ok (.ireturn, 1) := by decide +kernel
theorem d_Tr_plant_0 : dec m_Tr_plant 0 = .ok (.aload_n 0, 1) := by decide +kernel
theorem d_Tr_plant_1 : dec m_Tr_plant 1 = .ok (.invokevirtual 66, 3) := by decide +kernel
theorem d_Tr_plant_4 : dec m_Tr_plant 4 = .ok (.aload_n 0, 1) := by decide +kernel
theorem d_Tr_plant_5 : dec m_Tr_plant 5 = .ok (.iload_n 1, 1) := by decide +kernel
theorem d_Tr_plant_6 : dec m_Tr_plant 6 = .ok (.bipush (-5), 2) := by decide +kernel
theorem d_Tr_plant_8 : dec m_Tr_plant 8 = .ok (.invokevirtual 69, 3) := by decide +kernel
theorem d_Tr_plant_11 : dec m_Tr_plant 11 = .ok (.return_, 1) := by decide +kernel
theorem d_Tr_addLeaf_0 : dec m_Tr_addLeaf 0 = .ok (.aload_n 0, 1) := by decide +kernel
theorem d_Tr_addLeaf_1 : dec m_Tr_addLeaf 1 = .ok (.getfield 49, 3) := by decide +kernel
theorem d_Tr_addLeaf_4 : dec m_Tr_addLeaf 4 = .ok (.istore_n 3, 1) := by decide +kernel
theorem d_Tr_addLeaf_5 : dec m_Tr_addLeaf 5 = .ok (.aload_n 0, 1) := by decide +kernel
theorem d_Tr_addLeaf_6 : dec m_Tr_addLeaf 6 = .ok (.dup, 1) := by decide +kernel
theorem d_Tr_addLeaf_7 : dec m_Tr_addLeaf 7 = .ok (.getfield 49, 3) := by decide +kernel
theorem d_Tr_addLeaf_10 : dec m_Tr_addLeaf 10 = .ok (.iconst 1, 1) := by decide +kernel
theorem d_Tr_addLeaf_11 : dec m_Tr_addLeaf 11 = .ok (.iadd, 1) := by decide +kernel
theorem d_Tr_addLeaf_12 : dec m_Tr_addLeaf 12 = .ok (.putfield 49, 3) := by decide +kernel
theorem d_Tr_addLeaf_15 : dec m_Tr_addLeaf 15 = .ok (.aload_n 0, 1) := by decide +kernel
theorem d_Tr_addLeaf_16 : dec m_Tr_addLeaf 16 = .ok (.getfield 14, 3) := by decide +kernel
theorem d_Tr_addLeaf_19 : dec m_Tr_addLeaf 19 = .ok (.iload_n 3, 1) := by decide +kernel
theorem d_Tr_addLeaf_20 : dec m_Tr_addLeaf 20 = .ok (.iload_n 1, 1) := by decide +kernel
theorem d_Tr_addLeaf_21 : dec m_Tr_addLeaf 21 = .ok (.invokevirtual 73, 3) := by decide +kernel
theorem d_Tr_addLeaf_24 : dec m_Tr_addLeaf 24 = .ok (.aload_n 0, 1) := by decide +kernel
theorem d_Tr_addLeaf_25 : dec m_Tr_addLeaf 25 = .ok (.getfield 20, 3) := by decide +kernel
theorem d_Tr_addLeaf_28 : dec m_Tr_addLeaf 28 = .ok (.iload_n 3, 1) := by decide +kernel
theorem d_Tr_addLeaf_29 : dec m_Tr_addLeaf 29 = .ok (.iload_n 2, 1) := by decide +kernel
theorem d_Tr_addLeaf_30 : dec m_Tr_addLeaf 30 = .ok (.invokevirtual 73, 3) := by decide +kernel
theorem d_Tr_addLeaf_33 : dec m_Tr_addLeaf 33 = .ok (.aload_n 0, 1) := by decide +kernel
theorem d_Tr_addLeaf_34 : dec m_Tr_addLeaf 34 = .ok (.getfield 23, 3) := by decide +kernel
theorem d_Tr_addLeaf_37 : dec m_Tr_addLeaf 37 = .ok (.iload_n 3, 1) := by decide +kernel
theorem d_Tr_addLeaf_38 : dec m_Tr_addLeaf 38 = .ok (.aload_n 0, 1) := by decide +kernel
theorem d_Tr_addLeaf_39 : dec m_Tr_addLeaf 39 = .ok (.iload_n 2, 1) := by decide +kernel
theorem d_Tr_addLeaf_40 : dec m_Tr_addLeaf 40 = .ok (.invokevirtual 76, 3) := by decide +kernel
theorem d_Tr_addLeaf_43 : dec m_Tr_addLeaf 43 = .ok (.ifCond .eq 16, 3) := by decide +kernel
theorem d_Tr_addLeaf_46 : dec m_Tr_addLeaf 46 = .ok (.aload_n 0, 1) := by decide +kernel
theorem d_Tr_addLeaf_47 : dec m_Tr_addLeaf 47 = .ok (.getfield 23, 3) := by decide +kernel
theorem d_Tr_addLeaf_50 : dec m_Tr_addLeaf 50 = .ok (.iload_n 2, 1) := by decide +kernel
theorem d_Tr_addLeaf_51 : dec m_Tr_addLeaf 51 = .ok (.invokevirtual 53, 3) := by decide +kernel
theorem d_Tr_addLeaf_54 : dec m_Tr_addLeaf 54 = .ok (.iconst 1, 1) := by decide +kernel
theorem d_Tr_addLeaf_55 : dec m_Tr_addLeaf 55 = .ok (.iadd, 1) := by decide +kernel
theorem d_Tr_addLeaf_56 : dec m_Tr_addLeaf 56 = .ok (.goto 4, 3) := by decide +kernel
theorem d_Tr_addLeaf_59 : dec m_Tr_addLeaf 59 = .ok (.iconst 0, 1) := by decide +kernel
theorem d_Tr_addLeaf_60 : dec m_Tr_addLeaf 60 = .ok (.invokevirtual 73, 3) := by decide +kernel
theorem d_Tr_addLeaf_63 : dec m_Tr_addLeaf 63 = .ok (.aload_n 0, 1) := by decide +kernel
theorem d_Tr_addLeaf_64 : dec m_Tr_addLeaf 64 = .ok (.getfield 32, 3) := by decide +kernel
theorem d_Tr_addLeaf_67 : dec m_Tr_addLeaf 67 = .ok (.iload_n 3, 1) := by decide +kernel
theorem d_Tr_addLeaf_68 : dec m_Tr_addLeaf 68 = .ok (.iconst 0, 1) := by decide +kernel
theorem d_Tr_addLeaf_69 : dec m_Tr_addLeaf 69 = .ok (.invokevirtual 73, 3) := by decide +kernel
theorem d_Tr_addLeaf_72 : dec m_Tr_addLeaf 72 = .ok (.aload_n 0, 1) := by decide +kernel
theorem d_Tr_addLeaf_73 : dec m_Tr_addLeaf 73 = .ok (.getfield 35, 3) := by decide +kernel
theorem d_Tr_addLeaf_76 : dec m_Tr_addLeaf 76 = .ok (.iload_n 3, 1) := by decide +kernel
theorem d_Tr_addLeaf_77 : dec m_Tr_addLeaf 77 = .ok (.bipush (-5), 2) := by decide +kernel
theorem d_Tr_addLeaf_79 : dec m_Tr_addLeaf 79 = .ok (.invokevirtual 73, 3) := by decide +kernel
theorem d_Tr_addLeaf_82 : dec m_Tr_addLeaf 82 = .ok (.aload_n 0, 1) := by decide +kernel
theorem d_Tr_addLeaf_83 : dec m_Tr_addLeaf 83 = .ok (.getfield 38, 3) := by decide +kernel
theorem d_Tr_addLeaf_86 : dec m_Tr_addLeaf 86 = .ok (.iload_n 3, 1) := by decide +kernel
theorem d_Tr_addLeaf_87 : dec m_Tr_addLeaf 87 = .ok (.iconst 0, 1) := by decide +kernel
theorem d_Tr_addLeaf_88 : dec m_Tr_addLeaf 88 = .ok (.invokevirtual 73, 3) := by decide +kernel
theorem d_Tr_addLeaf_91 : dec m_Tr_addLeaf 91 = .ok (.aload_n 0, 1) := by decide +kernel
theorem d_Tr_addLeaf_92 : dec m_Tr_addLeaf 92 = .ok (.iload_n 3, 1) := by decide +kernel
theorem d_Tr_addLeaf_93 : dec m_Tr_addLeaf 93 = .ok (.iload_n 1, 1) := by decide +kernel
theorem d_Tr_addLeaf_94 : dec m_Tr_addLeaf 94 = .ok (.iload_n 2, 1) := by decide +kernel
theorem d_Tr_addLeaf_95 : dec m_Tr_addLeaf 95 = .ok (.invokevirtual 80, 3) := by decide +kernel
theorem d_Tr_addLeaf_98 : dec m_Tr_addLeaf 98 = .ok (.return_, 1) := by decide +kernel
theorem d_Tr_setLeafCosts_0 : dec m_Tr_setLeafCosts 0 = .ok (.aload_n 0, 1) := by decide +kernel
theorem d_Tr_setLeafCosts_1 : dec m_Tr_setLeafCosts 1 = .ok (.getfield 41, 3) := by decide +kernel
theorem d_Tr_setLeafCosts_4 : dec m_Tr_setLeafCosts 4 = .ok (.iload_n 2, 1) := by decide +kernel
theorem d_Tr_setLeafCosts_5 : dec m_Tr_setLeafCosts 5 = .ok (.invokevirtual 84, 3) := by decide +kernel
theorem d_Tr_setLeafCosts_8 : dec m_Tr_setLeafCosts 8 = .ok (.ifCond .eq 45, 3) := by decide +kernel
theorem d_Tr_setLeafCosts_11 : dec m_Tr_setLeafCosts 11 = .ok (.aload_n 0, 1) := by decide +kernel
theorem d_Tr_setLeafCosts_12 : dec m_Tr_setLeafCosts 12 = .ok (.getfield 41, 3) := by decide +kernel
theorem d_Tr_setLeafCosts_15 : dec m_Tr_setLeafCosts 15 = .ok (.iload_n 2, 1) := by decide +kernel
theorem d_Tr_setLeafCosts_16 : dec m_Tr_setLeafCosts 16 = .ok (.invokevirtual 87, 3) := by decide +kernel
theorem d_Tr_setLeafCosts_19 : dec m_Tr_setLeafCosts 19 = .ok (.istore 4, 2) := by decide +kernel
theorem d_Tr_setLeafCosts_21 : dec m_Tr_setLeafCosts 21 = .ok (.aload_n 0, 1) := by decide +kernel
theorem d_Tr_setLeafCosts_22 : dec m_Tr_setLeafCosts 22 = .ok (.iload_n 1, 1) := by decide +kernel
theorem d_Tr_setLeafCosts_23 : dec m_Tr_setLeafCosts 23 = .ok (.iload 4, 2) := by decide +kernel
theorem d_Tr_setLeafCosts_25 : dec m_Tr_setLeafCosts 25 = .ok (.ifCond .eq 7, 3) := by decide +kernel
theorem d_Tr_setLeafCosts_28 : dec m_Tr_setLeafCosts 28 = .ok (.iconst 0, 1) := by decide +kernel
theorem d_Tr_setLeafCosts_29 : dec m_Tr_setLeafCosts 29 = .ok (.goto 6, 3) := by decide +kernel
theorem d_Tr_setLeafCosts_32 : dec m_Tr_setLeafCosts 32 = .ok (.sipush 9999, 3) := by decide +kernel
theorem d_Tr_setLeafCosts_35 : dec m_Tr_setLeafCosts 35 = .ok (.iload 4, 2) := by decide +kernel
theorem d_Tr_setLeafCosts_37 : dec m_Tr_setLeafCosts 37 = .ok (.ifCond .eq 9, 3) := by decide +kernel
theorem d_Tr_setLeafCosts_40 : dec m_Tr_setLeafCosts 40 = .ok (.sipush 9999, 3) := by decide +kernel
theorem d_Tr_setLeafCosts_43 : dec m_Tr_setLeafCosts 43 = .ok (.goto 4, 3) := by decide +kernel
theorem d_Tr_setLeafCosts_46 : dec m_Tr_setLeafCosts 46 = .ok (.iconst 0, 1) := by decide +kernel
theorem d_Tr_setLeafCosts_47 : dec m_Tr_setLeafCosts 47 = .ok (.invokevirtual 90, 3) := by decide +kernel
theorem d_Tr_setLeafCosts_50 : dec m_Tr_setLeafCosts 50 = .ok (.goto 60, 3) := by decide +kernel
theorem d_Tr_setLeafCosts_53 : dec m_Tr_setLeafCosts 53 = .ok (.aload_n 0, 1) := by decide +kernel
theorem d_Tr_setLeafCosts_54 : dec m_Tr_setLeafCosts 54 = .ok (.iload_n 3, 1) := by decide +kernel
theorem d_Tr_setLeafCosts_55 : dec m_Tr_setLeafCosts 55 = .ok (.iload_n 2, 1) := by decide +kernel
theorem d_Tr_setLeafCosts_56 : dec m_Tr_setLeafCosts 56 = .ok (.invokevirtual 93, 3) := by decide +kernel
theorem d_Tr_setLeafCosts_59 : dec m_Tr_setLeafCosts 59 = .ok (.ifCond .eq 24, 3) := by decide +kernel
theorem d_Tr_setLeafCosts_62 : dec m_Tr_setLeafCosts 62 = .ok (.aload_n 0, 1) := by decide +kernel
theorem d_Tr_setLeafCosts_63 : dec m_Tr_setLeafCosts 63 = .ok (.getfield 38, 3) := by decide +kernel
theorem d_Tr_setLeafCosts_66 : dec m_Tr_setLeafCosts 66 = .ok (.iload_n 1, 1) := by decide +kernel
theorem d_Tr_setLeafCosts_67 : dec m_Tr_setLeafCosts 67 = .ok (.iconst 1, 1) := by decide +kernel
theorem d_Tr_setLeafCosts_68 : dec m_Tr_setLeafCosts 68 = .ok (.invokevirtual 73, 3) := by decide +kernel
theorem d_Tr_setLeafCosts_71 : dec m_Tr_setLeafCosts 71 = .ok (.aload_n 0, 1) := by decide +kernel
theorem d_Tr_setLeafCosts_72 : dec m_Tr_setLeafCosts 72 = .ok (.iload_n 1, 1) := by decide +kernel
theorem d_Tr_setLeafCosts_73 : dec m_Tr_setLeafCosts 73 = .ok (.sipush 9999, 3) := by decide +kernel
theorem d_Tr_setLeafCosts_76 : dec m_Tr_setLeafCosts 76 = .ok (.iconst 0, 1) := by decide +kernel
theorem d_Tr_setLeafCosts_77 : dec m_Tr_setLeafCosts 77 = .ok (.invokevirtual 90, 3) := by decide +kernel
theorem d_Tr_setLeafCosts_80 : dec m_Tr_setLeafCosts 80 = .ok (.goto 30, 3) := by decide +kernel
theorem d_Tr_setLeafCosts_83 : dec m_Tr_setLeafCosts 83 = .ok (.aload_n 0, 1) := by decide +kernel
theorem d_Tr_setLeafCosts_84 : dec m_Tr_setLeafCosts 84 = .ok (.iload_n 1, 1) := by decide +kernel
theorem d_Tr_setLeafCosts_85 : dec m_Tr_setLeafCosts 85 = .ok (.aload_n 0, 1) := by decide +kernel
theorem d_Tr_setLeafCosts_86 : dec m_Tr_setLeafCosts 86 = .ok (.getfield 41, 3) := by decide +kernel
theorem d_Tr_setLeafCosts_89 : dec m_Tr_setLeafCosts 89 = .ok (.getfield 97, 3) := by decide +kernel
theorem d_Tr_setLeafCosts_92 : dec m_Tr_setLeafCosts 92 = .ok (.iload_n 2, 1) := by decide +kernel
theorem d_Tr_setLeafCosts_93 : dec m_Tr_setLeafCosts 93 = .ok (.invokevirtual 53, 3) := by decide +kernel
theorem d_Tr_setLeafCosts_96 : dec m_Tr_setLeafCosts 96 = .ok (.aload_n 0, 1) := by decide +kernel
theorem d_Tr_setLeafCosts_97 : dec m_Tr_setLeafCosts 97 = .ok (.getfield 41, 3) := by decide +kernel
theorem d_Tr_setLeafCosts_100 : dec m_Tr_setLeafCosts 100 = .ok (.getfield 100, 3) := by decide +kernel
theorem d_Tr_setLeafCosts_103 : dec m_Tr_setLeafCosts 103 = .ok (.iload_n 2, 1) := by decide +kernel
theorem d_Tr_setLeafCosts_104 : dec m_Tr_setLeafCosts 104 = .ok (.invokevirtual 53, 3) := by decide +kernel
theorem d_Tr_setLeafCosts_107 : dec m_Tr_setLeafCosts 107 = .ok (.invokevirtual 90, 3) := by decide +kernel
theorem d_Tr_setLeafCosts_110 : dec m_Tr_setLeafCosts 110 = .ok (.return_, 1) := by decide +kernel
theorem d_Tr_setCosts_0 : dec m_Tr_setCosts 0 = .ok (.aload_n 0, 1) := by decide +kernel
theorem d_Tr_setCosts_1 : dec m_Tr_setCosts 1 = .ok (.getfield 26, 3) := by decide +kernel
theorem d_Tr_setCosts_4 : dec m_Tr_setCosts 4 = .ok (.iload_n 1, 1) := by decide +kernel
theorem d_Tr_setCosts_5 : dec m_Tr_setCosts 5 = .ok (.iload_n 2, 1) := by decide +kernel
theorem d_Tr_setCosts_6 : dec m_Tr_setCosts 6 = .ok (.invokevirtual 73, 3) := by decide +kernel
theorem d_Tr_setCosts_9 : dec m_Tr_setCosts 9 = .ok (.aload_n 0, 1) := by decide +kernel
theorem d_Tr_setCosts_10 : dec m_Tr_setCosts 10 = .ok (.getfield 29, 3) := by decide +kernel
theorem d_Tr_setCosts_13 : dec m_Tr_setCosts 13 = .ok (.iload_n 1, 1) := by decide +kernel
theorem d_Tr_setCosts_14 : dec m_Tr_setCosts 14 = .ok (.iload_n 3, 1) := by decide +kernel
theorem d_Tr_setCosts_15 : dec m_Tr_setCosts 15 = .ok (.invokevirtual 73, 3) := by decide +kernel
theorem d_Tr_setCosts_18 : dec m_Tr_setCosts 18 = .ok (.return_, 1) := by decide +kernel
theorem d_Tr_isOnWayTo_0 : dec m_Tr_isOnWayTo 0 = .ok (.iload_n 1, 1) := by decide +kernel
theorem d_Tr_isOnWayTo_1 : dec m_Tr_isOnWayTo 1 = .ok (.istore_n 3, 1) := by decide +kernel
theorem d_Tr_isOnWayTo_2 : dec m_Tr_isOnWayTo 2 = .ok (.iconst 0, 1) := by decide +kernel
theorem d_Tr_isOnWayTo_3 : dec m_Tr_isOnWayTo 3 = .ok (.istore 4, 2) := by decide +kernel
theorem d_Tr_isOnWayTo_5 : dec m_Tr_isOnWayTo 5 = .ok (.iload 4, 2) := by decide +kernel
theorem d_Tr_isOnWayTo_7 : dec m_Tr_isOnWayTo 7 = .ok (.sipush 200, 3) := by decide +kernel
theorem d_Tr_isOnWayTo_10 : dec m_Tr_isOnWayTo 10 = .ok (.if_icmp .ge 40, 3) := by decide +kernel
theorem d_Tr_isOnWayTo_13 : dec m_Tr_isOnWayTo 13 = .ok (.aload_n 0, 1) := by decide +kernel
theorem d_Tr_isOnWayTo_14 : dec m_Tr_isOnWayTo 14 = .ok (.iload_n 3, 1) := by decide +kernel
theorem d_Tr_isOnWayTo_15 : dec m_Tr_isOnWayTo 15 = .ok (.invokevirtual 76, 3) := by decide +kernel
theorem d_Tr_isOnWayTo_18 : dec m_Tr_isOnWayTo 18 = .ok (.ifCond .eq 32, 3) := by decide +kernel
theorem d_Tr_isOnWayTo_21 : dec m_Tr_isOnWayTo 21 = .ok (.aload_n 0, 1) := by decide +kernel
theorem d_Tr_isOnWayTo_22 : dec m_Tr_isOnWayTo 22 = .ok (.getfield 14, 3) := by decide +kernel
theorem d_Tr_isOnWayTo_25 : dec m_Tr_isOnWayTo 25 = .ok (.iload_n 3, 1) := by decide +kernel
theorem d_Tr_isOnWayTo_26 : dec m_Tr_isOnWayTo 26 = .ok (.invokevirtual 53, 3) := by decide +kernel
theorem d_Tr_isOnWayTo_29 : dec m_Tr_isOnWayTo 29 = .ok (.iload_n 2, 1) := by decide +kernel
theorem d_Tr_isOnWayTo_30 : dec m_Tr_isOnWayTo 30 = .ok (.if_icmp .ne 5, 3) := by decide +kernel
theorem d_Tr_isOnWayTo_33 : dec m_Tr_isOnWayTo 33 = .ok (.iconst 1, 1) := by decide +kernel
theorem d_Tr_isOnWayTo_34 : dec m_Tr_isOnWayTo 34 = .ok (.ireturn, 1) := by decide +kernel
theorem d_Tr_isOnWayTo_35 : dec m_Tr_isOnWayTo 35 = .ok (.aload_n 0, 1) := by decide +kernel
theorem d_Tr_isOnWayTo_36 : dec m_Tr_isOnWayTo 36 = .ok (.getfield 20, 3) := by decide +kernel
theorem d_Tr_isOnWayTo_39 : dec m_Tr_isOnWayTo 39 = .ok (.iload_n 3, 1) := by decide +kernel
theorem d_Tr_isOnWayTo_40 : dec m_Tr_isOnWayTo 40 = .ok (.invokevirtual 53, 3) := by decide +kernel
theorem d_Tr_isOnWayTo_43 : dec m_Tr_isOnWayTo 43 = .ok (.istore_n 3, 1) := by decide +kernel
theorem d_Tr_isOnWayTo_44 : dec m_Tr_isOnWayTo 44 = .ok (.iinc 4 1, 3) := by decide +kernel
theorem d_Tr_isOnWayTo_47 : dec m_Tr_isOnWayTo 47 = .ok (.goto (-42), 3) := by decide +kernel
theorem d_Tr_isOnWayTo_50 : dec m_Tr_isOnWayTo 50 = .ok (.iconst 0, 1) := by decide +kernel
theorem d_Tr_isOnWayTo_51 : dec m_Tr_isOnWayTo 51 = .ok (.ireturn, 1) := by decide +kernel
theorem d_Tr_cheapestChild_0 : dec m_Tr_cheapestChild 0 = .ok (.aload_n 0, 1) := by decide +kernel
theorem d_Tr_cheapestChild_1 : dec m_Tr_cheapestChild 1 = .ok (.iload_n 1, 1) := by decide +kernel
theorem d_Tr_cheapestChild_2 : dec m_Tr_cheapestChild 2 = .ok (.invokevirtual 103, 3) := by decide +kernel
theorem d_Tr_cheapestChild_5 : dec m_Tr_cheapestChild 5 = .ok (.ifCond .ne 10, 3) := by decide +kernel
theorem d_Tr_cheapestChild_8 : dec m_Tr_cheapestChild 8 = .ok (.aload_n 0, 1) := by decide +kernel
theorem d_Tr_cheapestChild_9 : dec m_Tr_cheapestChild 9 = .ok (.getfield 26, 3) := by decide +kernel
theorem d_Tr_cheapestChild_12 : dec m_Tr_cheapestChild 12 = .ok (.goto 7, 3) := by decide +kernel
theorem d_Tr_cheapestChild_15 : dec m_Tr_cheapestChild 15 = .ok (.aload_n 0, 1) := by decide +kernel
theorem d_Tr_cheapestChild_16 : dec m_Tr_cheapestChild 16 = .ok (.getfield 29, 3) := by decide +kernel
theorem d_Tr_cheapestChild_19 : dec m_Tr_cheapestChild 19 = .ok (.astore_n 2, 1) := by decide +kernel
theorem d_Tr_cheapestChild_20 : dec m_Tr_cheapestChild 20 = .ok (.aload_n 0, 1) := by decide +kernel
theorem d_Tr_cheapestChild_21 : dec m_Tr_cheapestChild 21 = .ok (.iload_n 1, 1) := by decide +kernel
theorem d_Tr_cheapestChild_22 : dec m_Tr_cheapestChild 22 = .ok (.invokevirtual 106, 3) := by decide +kernel
theorem d_Tr_cheapestChild_25 : dec m_Tr_cheapestChild 25 = .ok (.istore_n 3, 1) := by decide +kernel
theorem d_Tr_cheapestChild_26 : dec m_Tr_cheapestChild 26 = .ok (.aload_n 0, 1) := by decide +kernel
theorem d_Tr_cheapestChild_27 : dec m_Tr_cheapestChild 27 = .ok (.getfield 35, 3) := by decide +kernel
theorem d_Tr_cheapestChild_30 : dec m_Tr_cheapestChild 30 = .ok (.iload_n 1, 1) := by decide +kernel
theorem d_Tr_cheapestChild_31 : dec m_Tr_cheapestChild 31 = .ok (.invokevirtual 53, 3) := by decide +kernel
theorem d_Tr_cheapestChild_34 : dec m_Tr_cheapestChild 34 = .ok (.istore 4, 2) := by decide +kernel
theorem d_Tr_cheapestChild_36 : dec m_Tr_cheapestChild 36 = .ok (.iload 4, 2) := by decide +kernel
theorem d_Tr_cheapestChild_38 : dec m_Tr_cheapestChild 38 = .ok (.iconst 1, 1) := by decide +kernel
theorem d_Tr_cheapestChild_39 : dec m_Tr_cheapestChild 39 = .ok (.iadd, 1) := by decide +kernel
theorem d_Tr_cheapestChild_40 : dec m_Tr_cheapestChild 40 = .ok (.istore 5, 2) := by decide +kernel
theorem d_Tr_cheapestChild_42 : dec m_Tr_cheapestChild 42 = .ok (.iload 5, 2) := by decide +kernel
theorem d_Tr_cheapestChild_44 : dec m_Tr_cheapestChild 44 = .ok (.iload_n 3, 1) := by decide +kernel
theorem d_Tr_cheapestChild_45 : dec m_Tr_cheapestChild 45 = .ok (.if_icmp .ge 28, 3) := by decide +kernel
theorem d_Tr_cheapestChild_48 : dec m_Tr_cheapestChild 48 = .ok (.aload_n 2, 1) := by decide +kernel
theorem d_Tr_cheapestChild_49 : dec m_Tr_cheapestChild 49 = .ok (.iload 5, 2) := by decide +kernel
theorem d_Tr_cheapestChild_51 : dec m_Tr_cheapestChild 51 = .ok (.invokevirtual 53, 3) := by decide +kernel
theorem d_Tr_cheapestChild_54 : dec m_Tr_cheapestChild 54 = .ok (.aload_n 2, 1) := by decide +kernel
theorem d_Tr_cheapestChild_55 : dec m_Tr_cheapestChild 55 = .ok (.iload 4, 2) := by decide +kernel
theorem d_Tr_cheapestChild_57 : dec m_Tr_cheapestChild 57 = .ok (.invokevirtual 53, 3) := by decide +kernel
theorem d_Tr_cheapestChild_60 : dec m_Tr_cheapestChild 60 = .ok (.if_icmp .ge 7, 3) := by decide +kernel
theorem d_Tr_cheapestChild_63 : dec m_Tr_cheapestChild 63 = .ok (.iload 5, 2) := by decide +kernel
theorem d_Tr_cheapestChild_65 : dec m_Tr_cheapestChild 65 = .ok (.istore 4, 2) := by decide +kernel
theorem d_Tr_cheapestChild_67 : dec m_Tr_cheapestChild 67 = .ok (.iinc 5 1, 3) := by decide +kernel
theorem d_Tr_cheapestChild_70 : dec m_Tr_cheapestChild 70 = .ok (.goto (-28), 3) := by decide +kernel
theorem d_Tr_cheapestChild_73 : dec m_Tr_cheapestChild 73 = .ok (.iload 4, 2) := by decide +kernel
theorem d_Tr_cheapestChild_75 : dec m_Tr_cheapestChild 75 = .ok (.ireturn, 1) := by decide +kernel
theorem d_Tr_leafOnWay_0 : dec m_Tr_leafOnWay 0 = .ok (.iconst 0, 1) := by decide +kernel
theorem d_Tr_leafOnWay_1 : dec m_Tr_leafOnWay 1 = .ok (.istore_n 1, 1) := by decide +kernel
theorem d_Tr_leafOnWay_2 : dec m_Tr_leafOnWay 2 = .ok (.iconst 0, 1) := by decide +kernel
theorem d_Tr_leafOnWay_3 : dec m_Tr_leafOnWay 3 = .ok (.istore_n 2, 1) := by decide +kernel
theorem d_Tr_leafOnWay_4 : dec m_Tr_leafOnWay 4 = .ok (.iload_n 2, 1) := by decide +kernel
theorem d_Tr_leafOnWay_5 : dec m_Tr_leafOnWay 5 = .ok (.sipush 200, 3) := by decide +kernel
theorem d_Tr_leafOnWay_8 : dec m_Tr_leafOnWay 8 = .ok (.if_icmp .ge 23, 3) := by decide +kernel
theorem d_Tr_leafOnWay_11 : dec m_Tr_leafOnWay 11 = .ok (.aload_n 0, 1) := by decide +kernel
theorem d_Tr_leafOnWay_12 : dec m_Tr_leafOnWay 12 = .ok (.iload_n 1, 1) := by decide +kernel
theorem d_Tr_leafOnWay_13 : dec m_Tr_leafOnWay 13 = .ok (.invokevirtual 109, 3) := by decide +kernel
theorem d_Tr_leafOnWay_16 : dec m_Tr_leafOnWay 16 = .ok (.ifCond .ne 15, 3) := by decide +kernel
theorem d_Tr_leafOnWay_19 : dec m_Tr_leafOnWay 19 = .ok (.aload_n 0, 1) := by decide +kernel
theorem d_Tr_leafOnWay_20 : dec m_Tr_leafOnWay 20 = .ok (.iload_n 1, 1) := by decide +kernel
theorem d_Tr_leafOnWay_21 : dec m_Tr_leafOnWay 21 = .ok (.invokevirtual 112, 3) := by decide +kernel
theorem d_Tr_leafOnWay_24 : dec m_Tr_leafOnWay 24 = .ok (.istore_n 1, 1) := by decide +kernel
theorem d_Tr_leafOnWay_25 : dec m_Tr_leafOnWay 25 = .ok (.iinc 2 1, 3) := by decide +kernel
theorem d_Tr_leafOnWay_28 : dec m_Tr_leafOnWay 28 = .ok (.goto (-24), 3) := by decide +kernel
theorem d_Tr_leafOnWay_31 : dec m_Tr_leafOnWay 31 = .ok (.iload_n 1, 1) := by decide +kernel
theorem d_Tr_leafOnWay_32 : dec m_Tr_leafOnWay 32 = .ok (.ireturn, 1) := by decide +kernel
theorem d_Tr_nodeOnWay_0 : dec m_Tr_nodeOnWay 0 = .ok (.aload_n 0, 1) := by decide +kernel
theorem d_Tr_nodeOnWay_1 : dec m_Tr_nodeOnWay 1 = .ok (.invokevirtual 62, 3) := by decide +kernel
theorem d_Tr_nodeOnWay_4 : dec m_Tr_nodeOnWay 4 = .ok (.ifCond .ne 17, 3) := by decide +kernel
theorem d_Tr_nodeOnWay_7 : dec m_Tr_nodeOnWay 7 = .ok (.aload_n 0, 1) := by decide +kernel
theorem d_Tr_nodeOnWay_8 : dec m_Tr_nodeOnWay 8 = .ok (.invokevirtual 115, 3) := by decide +kernel
theorem d_Tr_nodeOnWay_11 : dec m_Tr_nodeOnWay 11 = .ok (.ifCond .ne 10, 3) := by decide +kernel
theorem d_Tr_nodeOnWay_14 : dec m_Tr_nodeOnWay 14 = .ok (.iload_n 1, 1) := by decide +kernel
theorem d_Tr_nodeOnWay_15 : dec m_Tr_nodeOnWay 15 = .ok (.sipush 200, 3) := by decide +kernel
theorem d_Tr_nodeOnWay_18 : dec m_Tr_nodeOnWay 18 = .ok (.if_icmp .lt 6, 3) := by decide +kernel
theorem d_Tr_nodeOnWay_21 : dec m_Tr_nodeOnWay 21 = .ok (.bipush (-5), 2) := by decide +kernel
theorem d_Tr_nodeOnWay_23 : dec m_Tr_nodeOnWay 23 = .ok (.ireturn, 1) := by decide +kernel
theorem d_Tr_nodeOnWay_24 : dec m_Tr_nodeOnWay 24 = .ok (.iconst 0, 1) := by decide +kernel
theorem d_Tr_nodeOnWay_25 : dec m_Tr_nodeOnWay 25 = .ok (.istore_n 2, 1) := by decide +kernel
theorem d_Tr_nodeOnWay_26 : dec m_Tr_nodeOnWay 26 = .ok (.iconst 0, 1) := by decide +kernel
theorem d_Tr_nodeOnWay_27 : dec m_Tr_nodeOnWay 27 = .ok (.istore_n 3, 1) := by decide +kernel
theorem d_Tr_nodeOnWay_28 : dec m_Tr_nodeOnWay 28 = .ok (.iload_n 3, 1) := by decide +kernel
theorem d_Tr_nodeOnWay_29 : dec m_Tr_nodeOnWay 29 = .ok (.iload_n 1, 1) := by decide +kernel
theorem d_Tr_nodeOnWay_30 : dec m_Tr_nodeOnWay 30 = .ok (.if_icmp .ge 26, 3) := by decide +kernel
theorem d_Tr_nodeOnWay_33 : dec m_Tr_nodeOnWay 33 = .ok (.aload_n 0, 1) := by decide +kernel
theorem d_Tr_nodeOnWay_34 : dec m_Tr_nodeOnWay 34 = .ok (.iload_n 2, 1) := by decide +kernel
theorem d_Tr_nodeOnWay_35 : dec m_Tr_nodeOnWay 35 = .ok (.invokevirtual 109, 3) := by decide +kernel
theorem d_Tr_nodeOnWay_38 : dec m_Tr_nodeOnWay 38 = .ok (.ifCond .eq 6, 3) := by decide +kernel
theorem d_Tr_nodeOnWay_41 : dec m_Tr_nodeOnWay 41 = .ok (.bipush (-5), 2) := by decide +kernel
theorem d_Tr_nodeOnWay_43 : dec m_Tr_nodeOnWay 43 = .ok (.ireturn, 1) := by decide +kernel
theorem d_Tr_nodeOnWay_44 : dec m_Tr_nodeOnWay 44 = .ok (.aload_n 0, 1) := by decide +kernel
theorem d_Tr_nodeOnWay_45 : dec m_Tr_nodeOnWay 45 = .ok (.iload_n 2, 1) := by decide +kernel
theorem d_Tr_nodeOnWay_46 : dec m_Tr_nodeOnWay 46 = .ok (.invokevirtual 112, 3) := by decide +kernel
theorem d_Tr_nodeOnWay_49 : dec m_Tr_nodeOnWay 49 = .ok (.istore_n 2, 1) := by decide +kernel
theorem d_Tr_nodeOnWay_50 : dec m_Tr_nodeOnWay 50 = .ok (.iinc 3 1, 3) := by decide +kernel
theorem d_Tr_nodeOnWay_53 : dec m_Tr_nodeOnWay 53 = .ok (.goto (-25), 3) := by decide +kernel
theorem d_Tr_nodeOnWay_56 : dec m_Tr_nodeOnWay 56 = .ok (.iload_n 2, 1) := by decide +kernel
theorem d_Tr_nodeOnWay_57 : dec m_Tr_nodeOnWay 57 = .ok (.ireturn, 1) := by decide +kernel
theorem d_Tr_canGrow_0 : dec m_Tr_canGrow 0 = .ok (.aload_n 0, 1) := by decide +kernel
theorem d_Tr_canGrow_1 : dec m_Tr_canGrow 1 = .ok (.invokevirtual 62, 3) := by decide +kernel
theorem d_Tr_canGrow_4 : dec m_Tr_canGrow 4 = .ok (.ifCond .ne 10, 3) := by decide +kernel
theorem d_Tr_canGrow_7 : dec m_Tr_canGrow 7 = .ok (.aload_n 0, 1) := by decide +kernel
theorem d_Tr_canGrow_8 : dec m_Tr_canGrow 8 = .ok (.invokevirtual 115, 3) := by decide +kernel
theorem d_Tr_canGrow_11 : dec m_Tr_canGrow 11 = .ok (.ifCond .eq 5, 3) := by decide +kernel
theorem d_Tr_canGrow_14 : dec m_Tr_canGrow 14 = .ok (.iconst 0, 1) := by decide +kernel
theorem d_Tr_canGrow_15 : dec m_Tr_canGrow 15 = .ok (.ireturn, 1) := by decide +kernel
theorem d_Tr_canGrow_16 : dec m_Tr_canGrow 16 = .ok (.aload_n 0, 1) := by decide +kernel
theorem d_Tr_canGrow_17 : dec m_Tr_canGrow 17 = .ok (.getfield 41, 3) := by decide +kernel
theorem d_Tr_canGrow_20 : dec m_Tr_canGrow 20 = .ok (.getfield 119, 3) := by decide +kernel
theorem d_Tr_canGrow_23 : dec m_Tr_canGrow 23 = .ok (.aload_n 0, 1) := by decide +kernel
theorem d_Tr_canGrow_24 : dec m_Tr_canGrow 24 = .ok (.getfield 14, 3) := by decide +kernel
theorem d_Tr_canGrow_27 : dec m_Tr_canGrow 27 = .ok (.aload_n 0, 1) := by decide +kernel
theorem d_Tr_canGrow_28 : dec m_Tr_canGrow 28 = .ok (.invokevirtual 122, 3) := by decide +kernel
theorem d_Tr_canGrow_31 : dec m_Tr_canGrow 31 = .ok (.invokevirtual 53, 3) := by decide +kernel
theorem d_Tr_canGrow_34 : dec m_Tr_canGrow 34 = .ok (.invokevirtual 53, 3) := by decide +kernel
theorem d_Tr_canGrow_37 : dec m_Tr_canGrow 37 = .ok (.sipush 200, 3) := by decide +kernel
theorem d_Tr_canGrow_40 : dec m_Tr_canGrow 40 = .ok (.aload_n 0, 1) := by decide +kernel
theorem d_Tr_canGrow_41 : dec m_Tr_canGrow 41 = .ok (.getfield 49, 3) := by decide +kernel
theorem d_Tr_canGrow_44 : dec m_Tr_canGrow 44 = .ok (.isub, 1) := by decide +kernel
theorem d_Tr_canGrow_45 : dec m_Tr_canGrow 45 = .ok (.if_icmp .gt 7, 3) := by decide +kernel
theorem d_Tr_canGrow_48 : dec m_Tr_canGrow 48 = .ok (.iconst 1, 1) := by decide +kernel
theorem d_Tr_canGrow_49 : dec m_Tr_canGrow 49 = .ok (.goto 4, 3) := by decide +kernel
theorem d_Tr_canGrow_52 : dec m_Tr_canGrow 52 = .ok (.iconst 0, 1) := by decide +kernel
theorem d_Tr_canGrow_53 : dec m_Tr_canGrow 53 = .ok (.ireturn, 1) := by decide +kernel
theorem d_Tr_grow_0 : dec m_Tr_grow 0 = .ok (.aload_n 0, 1) := by decide +kernel
theorem d_Tr_grow_1 : dec m_Tr_grow 1 = .ok (.invokevirtual 122, 3) := by decide +kernel
theorem d_Tr_grow_4 : dec m_Tr_grow 4 = .ok (.istore_n 1, 1) := by decide +kernel
theorem d_Tr_grow_5 : dec m_Tr_grow 5 = .ok (.aload_n 0, 1) := by decide +kernel
theorem d_Tr_grow_6 : dec m_Tr_grow 6 = .ok (.getfield 14, 3) := by decide +kernel
theorem d_Tr_grow_9 : dec m_Tr_grow 9 = .ok (.iload_n 1, 1) := by decide +kernel
theorem d_Tr_grow_10 : dec m_Tr_grow 10 = .ok (.invokevirtual 53, 3) := by decide +kernel
theorem d_Tr_grow_13 : dec m_Tr_grow 13 = .ok (.istore_n 2, 1) := by decide +kernel
theorem d_Tr_grow_14 : dec m_Tr_grow 14 = .ok (.aload_n 0, 1) := by decide +kernel
theorem d_Tr_grow_15 : dec m_Tr_grow 15 = .ok (.getfield 41, 3) := by decide +kernel
theorem d_Tr_grow_18 : dec m_Tr_grow 18 = .ok (.getfield 119, 3) := by decide +kernel
theorem d_Tr_grow_21 : dec m_Tr_grow 21 = .ok (.iload_n 2, 1) := by decide +kernel
theorem d_Tr_grow_22 : dec m_Tr_grow 22 = .ok (.invokevirtual 53, 3) := by decide +kernel
theorem d_Tr_grow_25 : dec m_Tr_grow 25 = .ok (.istore_n 3, 1) := by decide +kernel
theorem d_Tr_grow_26 : dec m_Tr_grow 26 = .ok (.aload_n 0, 1) := by decide +kernel
theorem d_Tr_grow_27 : dec m_Tr_grow 27 = .ok (.getfield 35, 3) := by decide +kernel
theorem d_Tr_grow_30 : dec m_Tr_grow 30 = .ok (.iload_n 1, 1) := by decide +kernel
theorem d_Tr_grow_31 : dec m_Tr_grow 31 = .ok (.aload_n 0, 1) := by decide +kernel
theorem d_Tr_grow_32 : dec m_Tr_grow 32 = .ok (.getfield 49, 3) := by decide +kernel
theorem d_Tr_grow_35 : dec m_Tr_grow 35 = .ok (.invokevirtual 73, 3) := by decide +kernel
theorem d_Tr_grow_38 : dec m_Tr_grow 38 = .ok (.aload_n 0, 1) := by decide +kernel
theorem d_Tr_grow_39 : dec m_Tr_grow 39 = .ok (.getfield 32, 3) := by decide +kernel
theorem d_Tr_grow_42 : dec m_Tr_grow 42 = .ok (.iload_n 1, 1) := by decide +kernel
theorem d_Tr_grow_43 : dec m_Tr_grow 43 = .ok (.iload_n 3, 1) := by decide +kernel
theorem d_Tr_grow_44 : dec m_Tr_grow 44 = .ok (.invokevirtual 73, 3) := by decide +kernel
theorem d_Tr_grow_47 : dec m_Tr_grow 47 = .ok (.iconst 0, 1) := by decide +kernel
theorem d_Tr_grow_48 : dec m_Tr_grow 48 = .ok (.istore 4, 2) := by decide +kernel
theorem d_Tr_grow_50 : dec m_Tr_grow 50 = .ok (.iload 4, 2) := by decide +kernel
theorem d_Tr_grow_52 : dec m_Tr_grow 52 = .ok (.iload_n 3, 1) := by decide +kernel
theorem d_Tr_grow_53 : dec m_Tr_grow 53 = .ok (.if_icmp .ge 24, 3) := by decide +kernel
theorem d_Tr_grow_56 : dec m_Tr_grow 56 = .ok (.aload_n 0, 1) := by decide +kernel
theorem d_Tr_grow_57 : dec m_Tr_grow 57 = .ok (.aload_n 0, 1) := by decide +kernel
theorem d_Tr_grow_58 : dec m_Tr_grow 58 = .ok (.getfield 41, 3) := by decide +kernel
theorem d_Tr_grow_61 : dec m_Tr_grow 61 = .ok (.iload_n 2, 1) := by decide +kernel
theorem d_Tr_grow_62 : dec m_Tr_grow 62 = .ok (.iload 4, 2) := by decide +kernel
theorem d_Tr_grow_64 : dec m_Tr_grow 64 = .ok (.invokevirtual 125, 3) := by decide +kernel
theorem d_Tr_grow_67 : dec m_Tr_grow 67 = .ok (.iload_n 1, 1) := by decide +kernel
theorem d_Tr_grow_68 : dec m_Tr_grow 68 = .ok (.invokevirtual 69, 3) := by decide +kernel
theorem d_Tr_grow_71 : dec m_Tr_grow 71 = .ok (.iinc 4 1, 3) := by decide +kernel
theorem d_Tr_grow_74 : dec m_Tr_grow 74 = .ok (.goto (-24), 3) := by decide +kernel
theorem d_Tr_grow_77 : dec m_Tr_grow 77 = .ok (.aload_n 0, 1) := by decide +kernel
theorem d_Tr_grow_78 : dec m_Tr_grow 78 = .ok (.iload_n 1, 1) := by decide +kernel
theorem d_Tr_grow_79 : dec m_Tr_grow 79 = .ok (.invokevirtual 129, 3) := by decide +kernel
theorem d_Tr_grow_82 : dec m_Tr_grow 82 = .ok (.return_, 1) := by decide +kernel
theorem d_Tr_workOutFrom_0 : dec m_Tr_workOutFrom 0 = .ok (.iload_n 1, 1) := by decide +kernel
theorem d_Tr_workOutFrom_1 : dec m_Tr_workOutFrom 1 = .ok (.istore_n 2, 1) := by decide +kernel
theorem d_Tr_workOutFrom_2 : dec m_Tr_workOutFrom 2 = .ok (.iconst 0, 1) := by decide +kernel
theorem d_Tr_workOutFrom_3 : dec m_Tr_workOutFrom 3 = .ok (.istore_n 3, 1) := by decide +kernel
theorem d_Tr_workOutFrom_4 : dec m_Tr_workOutFrom 4 = .ok (.iload_n 3, 1) := by decide +kernel
theorem d_Tr_workOutFrom_5 : dec m_Tr_workOutFrom 5 = .ok (.sipush 200, 3) := by decide +kernel
theorem d_Tr_workOutFrom_8 : dec m_Tr_workOutFrom 8 = .ok (.if_icmp .ge 31, 3) := by decide +kernel
theorem d_Tr_workOutFrom_11 : dec m_Tr_workOutFrom 11 = .ok (.aload_n 0, 1) := by decide +kernel
theorem d_Tr_workOutFrom_12 : dec m_Tr_workOutFrom 12 = .ok (.iload_n 2, 1) := by decide +kernel
theorem d_Tr_workOutFrom_13 : dec m_Tr_workOutFrom 13 = .ok (.invokevirtual 76, 3) := by decide +kernel
theorem d_Tr_workOutFrom_16 : dec m_Tr_workOutFrom 16 = .ok (.ifCond .eq 23, 3) := by decide +kernel
theorem d_Tr_workOutFrom_19 : dec m_Tr_workOutFrom 19 = .ok (.aload_n 0, 1) := by decide +kernel
theorem d_Tr_workOutFrom_20 : dec m_Tr_workOutFrom 20 = .ok (.iload_n 2, 1) := by decide +kernel
theorem d_Tr_workOutFrom_21 : dec m_Tr_workOutFrom 21 = .ok (.invokevirtual 132, 3) := by decide +kernel
theorem d_Tr_workOutFrom_24 : dec m_Tr_workOutFrom 24 = .ok (.aload_n 0, 1) := by decide +kernel
theorem d_Tr_workOutFrom_25 : dec m_Tr_workOutFrom 25 = .ok (.getfield 20, 3) := by decide +kernel
theorem d_Tr_workOutFrom_28 : dec m_Tr_workOutFrom 28 = .ok (.iload_n 2, 1) := by decide +kernel
theorem d_Tr_workOutFrom_29 : dec m_Tr_workOutFrom 29 = .ok (.invokevirtual 53, 3) := by decide +kernel
theorem d_Tr_workOutFrom_32 : dec m_Tr_workOutFrom 32 = .ok (.istore_n 2, 1) := by decide +kernel
theorem d_Tr_workOutFrom_33 : dec m_Tr_workOutFrom 33 = .ok (.iinc 3 1, 3) := by decide +kernel
theorem d_Tr_workOutFrom_36 : dec m_Tr_workOutFrom 36 = .ok (.goto (-32), 3) := by decide +kernel
theorem d_Tr_workOutFrom_39 : dec m_Tr_workOutFrom 39 = .ok (.return_, 1) := by decide +kernel
theorem d_Tr_workOut_0 : dec m_Tr_workOut 0 = .ok (.aload_n 0, 1) := by decide +kernel
theorem d_Tr_workOut_1 : dec m_Tr_workOut 1 = .ok (.iload_n 1, 1) := by decide +kernel
theorem d_Tr_workOut_2 : dec m_Tr_workOut 2 = .ok (.invokevirtual 103, 3) := by decide +kernel
theorem d_Tr_workOut_5 : dec m_Tr_workOut 5 = .ok (.ifCond .ne 29, 3) := by decide +kernel
theorem d_Tr_workOut_8 : dec m_Tr_workOut 8 = .ok (.aload_n 0, 1) := by decide +kernel
theorem d_Tr_workOut_9 : dec m_Tr_workOut 9 = .ok (.iload_n 1, 1) := by decide +kernel
theorem d_Tr_workOut_10 : dec m_Tr_workOut 10 = .ok (.aload_n 0, 1) := by decide +kernel
theorem d_Tr_workOut_11 : dec m_Tr_workOut 11 = .ok (.iload_n 1, 1) := by decide +kernel
theorem d_Tr_workOut_12 : dec m_Tr_workOut 12 = .ok (.aload_n 0, 1) := by decide +kernel
theorem d_Tr_workOut_13 : dec m_Tr_workOut 13 = .ok (.getfield 26, 3) := by decide +kernel
theorem d_Tr_workOut_16 : dec m_Tr_workOut 16 = .ok (.invokevirtual 135, 3) := by decide +kernel
theorem d_Tr_workOut_19 : dec m_Tr_workOut 19 = .ok (.aload_n 0, 1) := by decide +kernel
theorem d_Tr_workOut_20 : dec m_Tr_workOut 20 = .ok (.iload_n 1, 1) := by decide +kernel
theorem d_Tr_workOut_21 : dec m_Tr_workOut 21 = .ok (.aload_n 0, 1) := by decide +kernel
theorem d_Tr_workOut_22 : dec m_Tr_workOut 22 = .ok (.getfield 29, 3) := by decide +kernel
theorem d_Tr_workOut_25 : dec m_Tr_workOut 25 = .ok (.invokevirtual 139, 3) := by decide +kernel
theorem d_Tr_workOut_28 : dec m_Tr_workOut 28 = .ok (.invokevirtual 90, 3) := by decide +kernel
theorem d_Tr_workOut_31 : dec m_Tr_workOut 31 = .ok (.goto 26, 3) := by decide +kernel
theorem d_Tr_workOut_34 : dec m_Tr_workOut 34 = .ok (.aload_n 0, 1) := by decide +kernel
theorem d_Tr_workOut_35 : dec m_Tr_workOut 35 = .ok (.iload_n 1, 1) := by decide +kernel
theorem d_Tr_workOut_36 : dec m_Tr_workOut 36 = .ok (.aload_n 0, 1) := by decide +kernel
theorem d_Tr_workOut_37 : dec m_Tr_workOut 37 = .ok (.iload_n 1, 1) := by decide +kernel
theorem d_Tr_workOut_38 : dec m_Tr_workOut 38 = .ok (.aload_n 0, 1) := by decide +kernel
theorem d_Tr_workOut_39 : dec m_Tr_workOut 39 = .ok (.getfield 26, 3) := by decide +kernel
theorem d_Tr_workOut_42 : dec m_Tr_workOut 42 = .ok (.invokevirtual 139, 3) := by decide +kernel
theorem d_Tr_workOut_45 : dec m_Tr_workOut 45 = .ok (.aload_n 0, 1) := by decide +kernel
theorem d_Tr_workOut_46 : dec m_Tr_workOut 46 = .ok (.iload_n 1, 1) := by decide +kernel
theorem d_Tr_workOut_47 : dec m_Tr_workOut 47 = .ok (.aload_n 0, 1) := by decide +kernel
theorem d_Tr_workOut_48 : dec m_Tr_workOut 48 = .ok (.getfield 29, 3) := by decide +kernel
theorem d_Tr_workOut_51 : dec m_Tr_workOut 51 = .ok (.invokevirtual 135, 3) := by decide +kernel
theorem d_Tr_workOut_54 : dec m_Tr_workOut 54 = .ok (.invokevirtual 90, 3) := by decide +kernel
theorem d_Tr_workOut_57 : dec m_Tr_workOut 57 = .ok (.return_, 1) := by decide +kernel
theorem d_Tr_leastOfChildren_0 : dec m_Tr_leastOfChildren 0 = .ok (.aload_n 0, 1) := by decide +kernel
theorem d_Tr_leastOfChildren_1 : dec m_Tr_leastOfChildren 1 = .ok (.iload_n 1, 1) := by decide +kernel
theorem d_Tr_leastOfChildren_2 : dec m_Tr_leastOfChildren 2 = .ok (.invokevirtual 106, 3) := by decide +kernel
theorem d_Tr_leastOfChildren_5 : dec m_Tr_leastOfChildren 5 = .ok (.istore_n 3, 1) := by decide +kernel
theorem d_Tr_leastOfChildren_6 : dec m_Tr_leastOfChildren 6 = .ok (.sipush 9999, 3) := by decide +kernel
theorem d_Tr_leastOfChildren_9 : dec m_Tr_leastOfChildren 9 = .ok (.istore 4, 2) := by decide +kernel
theorem d_Tr_leastOfChildren_11 : dec m_Tr_leastOfChildren 11 = .ok (.aload_n 0, 1) := by decide +kernel
theorem d_Tr_leastOfChildren_12 : dec m_Tr_leastOfChildren 12 = .ok (.getfield 35, 3) := by decide +kernel
theorem d_Tr_leastOfChildren_15 : dec m_Tr_leastOfChildren 15 = .ok (.iload_n 1, 1) := by decide +kernel
theorem d_Tr_leastOfChildren_16 : dec m_Tr_leastOfChildren 16 = .ok (.invokevirtual 53, 3) := by decide +kernel
theorem d_Tr_leastOfChildren_19 : dec m_Tr_leastOfChildren 19 = .ok (.istore 5, 2) := by decide +kernel
theorem d_Tr_leastOfChildren_21 : dec m_Tr_leastOfChildren 21 = .ok (.iload 5, 2) := by decide +kernel
theorem d_Tr_leastOfChildren_23 : dec m_Tr_leastOfChildren 23 = .ok (.iload_n 3, 1) := by decide +kernel
theorem d_Tr_leastOfChildren_24 : dec m_Tr_leastOfChildren 24 = .ok (.if_icmp .ge 22, 3) := by decide +kernel
theorem d_Tr_leastOfChildren_27 : dec m_Tr_leastOfChildren 27 = .ok (.iload 4, 2) := by decide +kernel
theorem d_Tr_leastOfChildren_29 : dec m_Tr_leastOfChildren 29 = .ok (.aload_n 2, 1) := by decide +kernel
theorem d_Tr_leastOfChildren_30 : dec m_Tr_leastOfChildren 30 = .ok (.iload 5, 2) := by decide +kernel
theorem d_Tr_leastOfChildren_32 : dec m_Tr_leastOfChildren 32 = .ok (.invokevirtual 53, 3) := by decide +kernel
theorem d_Tr_leastOfChildren_35 : dec m_Tr_leastOfChildren 35 = .ok (.invokestatic 142, 3) := by decide +kernel
theorem d_Tr_leastOfChildren_38 : dec m_Tr_leastOfChildren 38 = .ok (.istore 4, 2) := by decide +kernel
theorem d_Tr_leastOfChildren_40 : dec m_Tr_leastOfChildren 40 = .ok (.iinc 5 1, 3) := by decide +kernel
theorem d_Tr_leastOfChildren_43 : dec m_Tr_leastOfChildren 43 = .ok (.goto (-22), 3) := by decide +kernel
theorem d_Tr_leastOfChildren_46 : dec m_Tr_leastOfChildren 46 = .ok (.iload 4, 2) := by decide +kernel
theorem d_Tr_leastOfChildren_48 : dec m_Tr_leastOfChildren 48 = .ok (.ireturn, 1) := by decide +kernel
theorem d_Tr_sumOfChildren_0 : dec m_Tr_sumOfChildren 0 = .ok (.aload_n 0, 1) := by decide +kernel
theorem d_Tr_sumOfChildren_1 : dec m_Tr_sumOfChildren 1 = .ok (.iload_n 1, 1) := by decide +kernel
theorem d_Tr_sumOfChildren_2 : dec m_Tr_sumOfChildren 2 = .ok (.invokevirtual 106, 3) := by decide +kernel
theorem d_Tr_sumOfChildren_5 : dec m_Tr_sumOfChildren 5 = .ok (.istore_n 3, 1) := by decide +kernel
theorem d_Tr_sumOfChildren_6 : dec m_Tr_sumOfChildren 6 = .ok (.iconst 0, 1) := by decide +kernel
theorem d_Tr_sumOfChildren_7 : dec m_Tr_sumOfChildren 7 = .ok (.istore 4, 2) := by decide +kernel
theorem d_Tr_sumOfChildren_9 : dec m_Tr_sumOfChildren 9 = .ok (.aload_n 0, 1) := by decide +kernel
theorem d_Tr_sumOfChildren_10 : dec m_Tr_sumOfChildren 10 = .ok (.getfield 35, 3) := by decide +kernel
theorem d_Tr_sumOfChildren_13 : dec m_Tr_sumOfChildren 13 = .ok (.iload_n 1, 1) := by decide +kernel
theorem d_Tr_sumOfChildren_14 : dec m_Tr_sumOfChildren 14 = .ok (.invokevirtual 53, 3) := by decide +kernel
theorem d_Tr_sumOfChildren_17 : dec m_Tr_sumOfChildren 17 = .ok (.istore 5, 2) := by decide +kernel
theorem d_Tr_sumOfChildren_19 : dec m_Tr_sumOfChildren 19 = .ok (.iload 5, 2) := by decide +kernel
theorem d_Tr_sumOfChildren_21 : dec m_Tr_sumOfChildren 21 = .ok (.iload_n 3, 1) := by decide +kernel
theorem d_Tr_sumOfChildren_22 : dec m_Tr_sumOfChildren 22 = .ok (.if_icmp .ge 26, 3) := by decide +kernel
theorem d_Tr_sumOfChildren_25 : dec m_Tr_sumOfChildren 25 = .ok (.sipush 9999, 3) := by decide +kernel
theorem d_Tr_sumOfChildren_28 : dec m_Tr_sumOfChildren 28 = .ok (.iload 4, 2) := by decide +kernel
theorem d_Tr_sumOfChildren_30 : dec m_Tr_sumOfChildren 30 = .ok (.aload_n 2, 1) := by decide +kernel
theorem d_Tr_sumOfChildren_31 : dec m_Tr_sumOfChildren 31 = .ok (.iload 5, 2) := by decide +kernel
theorem d_Tr_sumOfChildren_33 : dec m_Tr_sumOfChildren 33 = .ok (.invokevirtual 53, 3) := by decide +kernel
theorem d_Tr_sumOfChildren_36 : dec m_Tr_sumOfChildren 36 = .ok (.iadd, 1) := by decide +kernel
theorem d_Tr_sumOfChildren_37 : dec m_Tr_sumOfChildren 37 = .ok (.invokestatic 142, 3) := by decide +kernel
theorem d_Tr_sumOfChildren_40 : dec m_Tr_sumOfChildren 40 = .ok (.istore 4, 2) := by decide +kernel
theorem d_Tr_sumOfChildren_42 : dec m_Tr_sumOfChildren 42 = .ok (.iinc 5 1, 3) := by decide +kernel
theorem d_Tr_sumOfChildren_45 : dec m_Tr_sumOfChildren 45 = .ok (.goto (-26), 3) := by decide +kernel
theorem d_Tr_sumOfChildren_48 : dec m_Tr_sumOfChildren 48 = .ok (.iload 4, 2) := by decide +kernel
theorem d_Tr_sumOfChildren_50 : dec m_Tr_sumOfChildren 50 = .ok (.ireturn, 1) := by decide +kernel
theorem d_Tr_loopCount_0 : dec m_Tr_loopCount 0 = .ok (.iconst 0, 1) := by decide +kernel
theorem d_Tr_loopCount_1 : dec m_Tr_loopCount 1 = .ok (.istore_n 1, 1) := by decide +kernel
theorem d_Tr_loopCount_2 : dec m_Tr_loopCount 2 = .ok (.iconst 0, 1) := by decide +kernel
theorem d_Tr_loopCount_3 : dec m_Tr_loopCount 3 = .ok (.istore_n 2, 1) := by decide +kernel
theorem d_Tr_loopCount_4 : dec m_Tr_loopCount 4 = .ok (.iload_n 2, 1) := by decide +kernel
theorem d_Tr_loopCount_5 : dec m_Tr_loopCount 5 = .ok (.aload_n 0, 1) := by decide +kernel
theorem d_Tr_loopCount_6 : dec m_Tr_loopCount 6 = .ok (.getfield 49, 3) := by decide +kernel
theorem d_Tr_loopCount_9 : dec m_Tr_loopCount 9 = .ok (.if_icmp .ge 20, 3) := by decide +kernel
