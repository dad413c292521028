theorem d_B_init_0 : decode c_B_init 0 = .ok (.aload_n 0, 1) := by decide +kernel
theorem d_B_init_1 : decode c_B_init 1 = .ok (.invokespecial 3, 3) := by decide +kernel
theorem d_B_init_4 : decode c_B_init 4 = .ok (.aload_n 0, 1) := by decide +kernel
theorem d_B_init_5 : decode c_B_init 5 = .ok (.bipush 12, 2) := by decide +kernel
theorem d_B_init_7 : decode c_B_init 7 = .ok (.newarray .int, 2) := by decide +kernel
theorem d_B_init_9 : decode c_B_init 9 = .ok (.putfield 9, 3) := by decide +kernel
theorem d_B_init_12 : decode c_B_init 12 = .ok (.aload_n 0, 1) := by decide +kernel
theorem d_B_init_13 : decode c_B_init 13 = .ok (.bipush 12, 2) := by decide +kernel
theorem d_B_init_15 : decode c_B_init 15 = .ok (.newarray .int, 2) := by decide +kernel
theorem d_B_init_17 : decode c_B_init 17 = .ok (.putfield 15, 3) := by decide +kernel
theorem d_B_init_20 : decode c_B_init 20 = .ok (.aload_n 0, 1) := by decide +kernel
theorem d_B_init_21 : decode c_B_init 21 = .ok (.bipush 12, 2) := by decide +kernel
theorem d_B_init_23 : decode c_B_init 23 = .ok (.newarray .int, 2) := by decide +kernel
theorem d_B_init_25 : decode c_B_init 25 = .ok (.putfield 18, 3) := by decide +kernel
theorem d_B_init_28 : decode c_B_init 28 = .ok (.aload_n 0, 1) := by decide +kernel
theorem d_B_init_29 : decode c_B_init 29 = .ok (.bipush 12, 2) := by decide +kernel
theorem d_B_init_31 : decode c_B_init 31 = .ok (.newarray .boolean, 2) := by decide +kernel
theorem d_B_init_33 : decode c_B_init 33 = .ok (.putfield 21, 3) := by decide +kernel
theorem d_B_init_36 : decode c_B_init 36 = .ok (.aload_n 0, 1) := by decide +kernel
theorem d_B_init_37 : decode c_B_init 37 = .ok (.iconst 4, 1) := by decide +kernel
theorem d_B_init_38 : decode c_B_init 38 = .ok (.newarray .int, 2) := by decide +kernel
theorem d_B_init_40 : decode c_B_init 40 = .ok (.putfield 25, 3) := by decide +kernel
theorem d_B_init_43 : decode c_B_init 43 = .ok (.return_, 1) := by decide +kernel
theorem d_B_hasRow_0 : decode c_B_hasRow 0 = .ok (.iload_n 1, 1) := by decide +kernel
theorem d_B_hasRow_1 : decode c_B_hasRow 1 = .ok (.ifCond .lt 15, 3) := by decide +kernel
theorem d_B_hasRow_4 : decode c_B_hasRow 4 = .ok (.iload_n 1, 1) := by decide +kernel
theorem d_B_hasRow_5 : decode c_B_hasRow 5 = .ok (.aload_n 0, 1) := by decide +kernel
theorem d_B_hasRow_6 : decode c_B_hasRow 6 = .ok (.getfield 28, 3) := by decide +kernel
theorem d_B_hasRow_9 : decode c_B_hasRow 9 = .ok (.if_icmp .ge 7, 3) := by decide +kernel
theorem d_B_hasRow_12 : decode c_B_hasRow 12 = .ok (.iconst 1, 1) := by decide +kernel
theorem d_B_hasRow_13 : decode c_B_hasRow 13 = .ok (.goto 4, 3) := by decide +kernel
theorem d_B_hasRow_16 : decode c_B_hasRow 16 = .ok (.iconst 0, 1) := by decide +kernel
theorem d_B_hasRow_17 : decode c_B_hasRow 17 = .ok (.ireturn, 1) := by decide +kernel
theorem d_B_addRow_0 : decode c_B_addRow 0 = .ok (.aload_n 0, 1) := by decide +kernel
theorem d_B_addRow_1 : decode c_B_addRow 1 = .ok (.getfield 28, 3) := by decide +kernel
theorem d_B_addRow_4 : decode c_B_addRow 4 = .ok (.ifCond .lt 81, 3) := by decide +kernel
theorem d_B_addRow_7 : decode c_B_addRow 7 = .ok (.aload_n 0, 1) := by decide +kernel
theorem d_B_addRow_8 : decode c_B_addRow 8 = .ok (.getfield 28, 3) := by decide +kernel
theorem d_B_addRow_11 : decode c_B_addRow 11 = .ok (.bipush 12, 2) := by decide +kernel
theorem d_B_addRow_13 : decode c_B_addRow 13 = .ok (.if_icmp .ge 72, 3) := by decide +kernel
theorem d_B_addRow_16 : decode c_B_addRow 16 = .ok (.iload_n 2, 1) := by decide +kernel
theorem d_B_addRow_17 : decode c_B_addRow 17 = .ok (.ifCond .lt 68, 3) := by decide +kernel
theorem d_B_addRow_20 : decode c_B_addRow 20 = .ok (.iload_n 2, 1) := by decide +kernel
theorem d_B_addRow_21 : decode c_B_addRow 21 = .ok (.iconst 4, 1) := by decide +kernel
theorem d_B_addRow_22 : decode c_B_addRow 22 = .ok (.if_icmp .ge 63, 3) := by decide +kernel
theorem d_B_addRow_25 : decode c_B_addRow 25 = .ok (.aload_n 0, 1) := by decide +kernel
theorem d_B_addRow_26 : decode c_B_addRow 26 = .ok (.getfield 9, 3) := by decide +kernel
theorem d_B_addRow_29 : decode c_B_addRow 29 = .ok (.aload_n 0, 1) := by decide +kernel
theorem d_B_addRow_30 : decode c_B_addRow 30 = .ok (.getfield 28, 3) := by decide +kernel
theorem d_B_addRow_33 : decode c_B_addRow 33 = .ok (.iload_n 1, 1) := by decide +kernel
theorem d_B_addRow_34 : decode c_B_addRow 34 = .ok (.iastore, 1) := by decide +kernel
theorem d_B_addRow_35 : decode c_B_addRow 35 = .ok (.aload_n 0, 1) := by decide +kernel
theorem d_B_addRow_36 : decode c_B_addRow 36 = .ok (.getfield 15, 3) := by decide +kernel
theorem d_B_addRow_39 : decode c_B_addRow 39 = .ok (.aload_n 0, 1) := by decide +kernel
theorem d_B_addRow_40 : decode c_B_addRow 40 = .ok (.getfield 28, 3) := by decide +kernel
theorem d_B_addRow_43 : decode c_B_addRow 43 = .ok (.iload_n 2, 1) := by decide +kernel
theorem d_B_addRow_44 : decode c_B_addRow 44 = .ok (.iastore, 1) := by decide +kernel
theorem d_B_addRow_45 : decode c_B_addRow 45 = .ok (.aload_n 0, 1) := by decide +kernel
theorem d_B_addRow_46 : decode c_B_addRow 46 = .ok (.getfield 18, 3) := by decide +kernel
theorem d_B_addRow_49 : decode c_B_addRow 49 = .ok (.aload_n 0, 1) := by decide +kernel
theorem d_B_addRow_50 : decode c_B_addRow 50 = .ok (.getfield 28, 3) := by decide +kernel
theorem d_B_addRow_53 : decode c_B_addRow 53 = .ok (.iload_n 3, 1) := by decide +kernel
theorem d_B_addRow_54 : decode c_B_addRow 54 = .ok (.iastore, 1) := by decide +kernel
theorem d_B_addRow_55 : decode c_B_addRow 55 = .ok (.aload_n 0, 1) := by decide +kernel
theorem d_B_addRow_56 : decode c_B_addRow 56 = .ok (.getfield 21, 3) := by decide +kernel
theorem d_B_addRow_59 : decode c_B_addRow 59 = .ok (.aload_n 0, 1) := by decide +kernel
theorem d_B_addRow_60 : decode c_B_addRow 60 = .ok (.getfield 28, 3) := by decide +kernel
theorem d_B_addRow_63 : decode c_B_addRow 63 = .ok (.iconst 0, 1) := by decide +kernel
theorem d_B_addRow_64 : decode c_B_addRow 64 = .ok (.bastore, 1) := by decide +kernel
theorem d_B_addRow_65 : decode c_B_addRow 65 = .ok (.aload_n 0, 1) := by decide +kernel
theorem d_B_addRow_66 : decode c_B_addRow 66 = .ok (.getfield 25, 3) := by decide +kernel
theorem d_B_addRow_69 : decode c_B_addRow 69 = .ok (.iload_n 2, 1) := by decide +kernel
theorem d_B_addRow_70 : decode c_B_addRow 70 = .ok (.dup2, 1) := by decide +kernel
theorem d_B_addRow_71 : decode c_B_addRow 71 = .ok (.iaload, 1) := by decide +kernel
theorem d_B_addRow_72 : decode c_B_addRow 72 = .ok (.iconst 1, 1) := by decide +kernel
theorem d_B_addRow_73 : decode c_B_addRow 73 = .ok (.iadd, 1) := by decide +kernel
theorem d_B_addRow_74 : decode c_B_addRow 74 = .ok (.iastore, 1) := by decide +kernel
theorem d_B_addRow_75 : decode c_B_addRow 75 = .ok (.aload_n 0, 1) := by decide +kernel
theorem d_B_addRow_76 : decode c_B_addRow 76 = .ok (.dup, 1) := by decide +kernel
theorem d_B_addRow_77 : decode c_B_addRow 77 = .ok (.getfield 28, 3) := by decide +kernel
theorem d_B_addRow_80 : decode c_B_addRow 80 = .ok (.iconst 1, 1) := by decide +kernel
theorem d_B_addRow_81 : decode c_B_addRow 81 = .ok (.iadd, 1) := by decide +kernel
theorem d_B_addRow_82 : decode c_B_addRow 82 = .ok (.putfield 28, 3) := by decide +kernel
theorem d_B_addRow_85 : decode c_B_addRow 85 = .ok (.return_, 1) := by decide +kernel
theorem d_B_empty_0 : decode c_B_empty 0 = .ok (.aload_n 0, 1) := by decide +kernel
theorem d_B_empty_1 : decode c_B_empty 1 = .ok (.iconst 0, 1) := by decide +kernel
theorem d_B_empty_2 : decode c_B_empty 2 = .ok (.putfield 28, 3) := by decide +kernel
theorem d_B_empty_5 : decode c_B_empty 5 = .ok (.aload_n 0, 1) := by decide +kernel
theorem d_B_empty_6 : decode c_B_empty 6 = .ok (.iconst 0, 1) := by decide +kernel
theorem d_B_empty_7 : decode c_B_empty 7 = .ok (.putfield 32, 3) := by decide +kernel
theorem d_B_empty_10 : decode c_B_empty 10 = .ok (.aload_n 0, 1) := by decide +kernel
theorem d_B_empty_11 : decode c_B_empty 11 = .ok (.getfield 25, 3) := by decide +kernel
theorem d_B_empty_14 : decode c_B_empty 14 = .ok (.iconst 0, 1) := by decide +kernel
theorem d_B_empty_15 : decode c_B_empty 15 = .ok (.invokestatic 35, 3) := by decide +kernel
theorem d_B_empty_18 : decode c_B_empty 18 = .ok (.return_, 1) := by decide +kernel
theorem d_B_earlierOfItsGroup_0 : decode c_B_earlierOfItsGroup 0 = .ok (.iconst 0, 1) := by decide +kernel
theorem d_B_earlierOfItsGroup_1 : decode c_B_earlierOfItsGroup 1 = .ok (.istore_n 2, 1) := by decide +kernel
theorem d_B_earlierOfItsGroup_2 : decode c_B_earlierOfItsGroup 2 = .ok (.iconst 0, 1) := by decide +kernel
theorem d_B_earlierOfItsGroup_3 : decode c_B_earlierOfItsGroup 3 = .ok (.istore_n 3, 1) := by decide +kernel
theorem d_B_earlierOfItsGroup_4 : decode c_B_earlierOfItsGroup 4 = .ok (.iload_n 3, 1) := by decide +kernel
theorem d_B_earlierOfItsGroup_5 : decode c_B_earlierOfItsGroup 5 = .ok (.iload_n 1, 1) := by decide +kernel
theorem d_B_earlierOfItsGroup_6 : decode c_B_earlierOfItsGroup 6 = .ok (.if_icmp .ge 35, 3) := by decide +kernel
theorem d_B_earlierOfItsGroup_9 : decode c_B_earlierOfItsGroup 9 = .ok (.iload_n 1, 1) := by decide +kernel
theorem d_B_earlierOfItsGroup_10 : decode c_B_earlierOfItsGroup 10 = .ok (.aload_n 0, 1) := by decide +kernel
theorem d_B_earlierOfItsGroup_11 : decode c_B_earlierOfItsGroup 11 = .ok (.getfield 28, 3) := by decide +kernel
theorem d_B_earlierOfItsGroup_14 : decode c_B_earlierOfItsGroup 14 = .ok (.if_icmp .ge 27, 3) := by decide +kernel
theorem d_B_earlierOfItsGroup_17 : decode c_B_earlierOfItsGroup 17 = .ok (.aload_n 0, 1) := by decide +kernel
theorem d_B_earlierOfItsGroup_18 : decode c_B_earlierOfItsGroup 18 = .ok (.getfield 15, 3) := by decide +kernel
theorem d_B_earlierOfItsGroup_21 : decode c_B_earlierOfItsGroup 21 = .ok (.iload_n 3, 1) := by decide +kernel
theorem d_B_earlierOfItsGroup_22 : decode c_B_earlierOfItsGroup 22 = .ok (.iaload, 1) := by decide +kernel
theorem d_B_earlierOfItsGroup_23 : decode c_B_earlierOfItsGroup 23 = .ok (.aload_n 0, 1) := by decide +kernel
theorem d_B_earlierOfItsGroup_24 : decode c_B_earlierOfItsGroup 24 = .ok (.getfield 15, 3) := by decide +kernel
theorem d_B_earlierOfItsGroup_27 : decode c_B_earlierOfItsGroup 27 = .ok (.iload_n 1, 1) := by decide +kernel
theorem d_B_earlierOfItsGroup_28 : decode c_B_earlierOfItsGroup 28 = .ok (.iaload, 1) := by decide +kernel
theorem d_B_earlierOfItsGroup_29 : decode c_B_earlierOfItsGroup 29 = .ok (.if_icmp .ne 6, 3) := by decide +kernel
theorem d_B_earlierOfItsGroup_32 : decode c_B_earlierOfItsGroup 32 = .ok (.iinc 2 1, 3) := by decide +kernel
theorem d_B_earlierOfItsGroup_35 : decode c_B_earlierOfItsGroup 35 = .ok (.iinc 3 1, 3) := by decide +kernel
theorem d_B_earlierOfItsGroup_38 : decode c_B_earlierOfItsGroup 38 = .ok (.goto (-34), 3) := by decide +kernel
theorem d_B_earlierOfItsGroup_41 : decode c_B_earlierOfItsGroup 41 = .ok (.iload_n 2, 1) := by decide +kernel
theorem d_B_earlierOfItsGroup_42 : decode c_B_earlierOfItsGroup 42 = .ok (.ireturn, 1) := by decide +kernel
theorem d_B_know_0 : decode c_B_know 0 = .ok (.aload_n 0, 1) := by decide +kernel
theorem d_B_know_1 : decode c_B_know 1 = .ok (.iload_n 1, 1) := by decide +kernel
theorem d_B_know_2 : decode c_B_know 2 = .ok (.invokevirtual 41, 3) := by decide +kernel
theorem d_B_know_5 : decode c_B_know 5 = .ok (.ifCond .eq 29, 3) := by decide +kernel
theorem d_B_know_8 : decode c_B_know 8 = .ok (.aload_n 0, 1) := by decide +kernel
theorem d_B_know_9 : decode c_B_know 9 = .ok (.getfield 21, 3) := by decide +kernel
theorem d_B_know_12 : decode c_B_know 12 = .ok (.iload_n 1, 1) := by decide +kernel
theorem d_B_know_13 : decode c_B_know 13 = .ok (.baload, 1) := by decide +kernel
theorem d_B_know_14 : decode c_B_know 14 = .ok (.ifCond .ne 20, 3) := by decide +kernel
theorem d_B_know_17 : decode c_B_know 17 = .ok (.aload_n 0, 1) := by decide +kernel
theorem d_B_know_18 : decode c_B_know 18 = .ok (.getfield 21, 3) := by decide +kernel
theorem d_B_know_21 : decode c_B_know 21 = .ok (.iload_n 1, 1) := by decide +kernel
theorem d_B_know_22 : decode c_B_know 22 = .ok (.iconst 1, 1) := by decide +kernel
theorem d_B_know_23 : decode c_B_know 23 = .ok (.bastore, 1) := by decide +kernel
theorem d_B_know_24 : decode c_B_know 24 = .ok (.aload_n 0, 1) := by decide +kernel
theorem d_B_know_25 : decode c_B_know 25 = .ok (.dup, 1) := by decide +kernel
theorem d_B_know_26 : decode c_B_know 26 = .ok (.getfield 32, 3) := by decide +kernel
theorem d_B_know_29 : decode c_B_know 29 = .ok (.iconst 1, 1) := by decide +kernel
theorem d_B_know_30 : decode c_B_know 30 = .ok (.iadd, 1) := by decide +kernel
theorem d_B_know_31 : decode c_B_know 31 = .ok (.putfield 32, 3) := by decide +kernel
theorem d_B_know_34 : decode c_B_know 34 = .ok (.return_, 1) := by decide +kernel
theorem d_B_knowAll_0 : decode c_B_knowAll 0 = .ok (.iconst 0, 1) := by decide +kernel
theorem d_B_knowAll_1 : decode c_B_knowAll 1 = .ok (.istore_n 1, 1) := by decide +kernel
theorem d_B_knowAll_2 : decode c_B_knowAll 2 = .ok (.iload_n 1, 1) := by decide +kernel
theorem d_B_knowAll_3 : decode c_B_knowAll 3 = .ok (.aload_n 0, 1) := by decide +kernel
theorem d_B_knowAll_4 : decode c_B_knowAll 4 = .ok (.getfield 28, 3) := by decide +kernel
theorem d_B_knowAll_7 : decode c_B_knowAll 7 = .ok (.if_icmp .ge 14, 3) := by decide +kernel
theorem d_B_knowAll_10 : decode c_B_knowAll 10 = .ok (.aload_n 0, 1) := by decide +kernel
theorem d_B_knowAll_11 : decode c_B_knowAll 11 = .ok (.iload_n 1, 1) := by decide +kernel
theorem d_B_knowAll_12 : decode c_B_knowAll 12 = .ok (.invokevirtual 45, 3) := by decide +kernel
theorem d_B_knowAll_15 : decode c_B_knowAll 15 = .ok (.iinc 1 1, 3) := by decide +kernel
theorem d_B_knowAll_18 : decode c_B_knowAll 18 = .ok (.goto (-16), 3) := by decide +kernel
theorem d_B_knowAll_21 : decode c_B_knowAll 21 = .ok (.return_, 1) := by decide +kernel
theorem d_B_changeRow_0 : decode c_B_changeRow 0 = .ok (.aload_n 0, 1) := by decide +kernel
theorem d_B_changeRow_1 : decode c_B_changeRow 1 = .ok (.iload_n 1, 1) := by decide +kernel
theorem d_B_changeRow_2 : decode c_B_changeRow 2 = .ok (.invokevirtual 41, 3) := by decide +kernel
theorem d_B_changeRow_5 : decode c_B_changeRow 5 = .ok (.ifCond .eq 40, 3) := by decide +kernel
theorem d_B_changeRow_8 : decode c_B_changeRow 8 = .ok (.aload_n 0, 1) := by decide +kernel
theorem d_B_changeRow_9 : decode c_B_changeRow 9 = .ok (.aload_n 0, 1) := by decide +kernel
theorem d_B_changeRow_10 : decode c_B_changeRow 10 = .ok (.getfield 49, 3) := by decide +kernel
theorem d_B_changeRow_13 : decode c_B_changeRow 13 = .ok (.ifCond .ne 12, 3) := by decide +kernel
theorem d_B_changeRow_16 : decode c_B_changeRow 16 = .ok (.aload_n 0, 1) := by decide +kernel
theorem d_B_changeRow_17 : decode c_B_changeRow 17 = .ok (.getfield 21, 3) := by decide +kernel
theorem d_B_changeRow_20 : decode c_B_changeRow 20 = .ok (.iload_n 1, 1) := by decide +kernel
theorem d_B_changeRow_21 : decode c_B_changeRow 21 = .ok (.baload, 1) := by decide +kernel
theorem d_B_changeRow_22 : decode c_B_changeRow 22 = .ok (.ifCond .ne 7, 3) := by decide +kernel
theorem d_B_changeRow_25 : decode c_B_changeRow 25 = .ok (.iconst 1, 1) := by decide +kernel
theorem d_B_changeRow_26 : decode c_B_changeRow 26 = .ok (.goto 4, 3) := by decide +kernel
theorem d_B_changeRow_29 : decode c_B_changeRow 29 = .ok (.iconst 0, 1) := by decide +kernel
theorem d_B_changeRow_30 : decode c_B_changeRow 30 = .ok (.putfield 49, 3) := by decide +kernel
theorem d_B_changeRow_33 : decode c_B_changeRow 33 = .ok (.aload_n 0, 1) := by decide +kernel
theorem d_B_changeRow_34 : decode c_B_changeRow 34 = .ok (.iload_n 1, 1) := by decide +kernel
theorem d_B_changeRow_35 : decode c_B_changeRow 35 = .ok (.invokevirtual 45, 3) := by decide +kernel
theorem d_B_changeRow_38 : decode c_B_changeRow 38 = .ok (.aload_n 0, 1) := by decide +kernel
theorem d_B_changeRow_39 : decode c_B_changeRow 39 = .ok (.getfield 18, 3) := by decide +kernel
theorem d_B_changeRow_42 : decode c_B_changeRow 42 = .ok (.iload_n 1, 1) := by decide +kernel
theorem d_B_changeRow_43 : decode c_B_changeRow 43 = .ok (.iload_n 2, 1) := by decide +kernel
theorem d_B_changeRow_44 : decode c_B_changeRow 44 = .ok (.iastore, 1) := by decide +kernel
theorem d_B_changeRow_45 : decode c_B_changeRow 45 = .ok (.return_, 1) := by decide +kernel
theorem d_B_measure_0 : decode c_B_measure 0 = .ok (.aload_n 0, 1) := by decide +kernel
theorem d_B_measure_1 : decode c_B_measure 1 = .ok (.aload_n 0, 1) := by decide +kernel
theorem d_B_measure_2 : decode c_B_measure 2 = .ok (.getfield 28, 3) := by decide +kernel
theorem d_B_measure_5 : decode c_B_measure 5 = .ok (.ifCond .le 12, 3) := by decide +kernel
theorem d_B_measure_8 : decode c_B_measure 8 = .ok (.aload_n 0, 1) := by decide +kernel
theorem d_B_measure_9 : decode c_B_measure 9 = .ok (.getfield 18, 3) := by decide +kernel
theorem d_B_measure_12 : decode c_B_measure 12 = .ok (.iconst 0, 1) := by decide +kernel
theorem d_B_measure_13 : decode c_B_measure 13 = .ok (.iaload, 1) := by decide +kernel
theorem d_B_measure_14 : decode c_B_measure 14 = .ok (.goto 4, 3) := by decide +kernel
theorem d_B_measure_17 : decode c_B_measure 17 = .ok (.iconst 0, 1) := by decide +kernel
theorem d_B_measure_18 : decode c_B_measure 18 = .ok (.putfield 53, 3) := by decide +kernel
theorem d_B_measure_21 : decode c_B_measure 21 = .ok (.aload_n 0, 1) := by decide +kernel
theorem d_B_measure_22 : decode c_B_measure 22 = .ok (.aload_n 0, 1) := by decide +kernel
theorem d_B_measure_23 : decode c_B_measure 23 = .ok (.getfield 53, 3) := by decide +kernel
theorem d_B_measure_26 : decode c_B_measure 26 = .ok (.putfield 56, 3) := by decide +kernel
theorem d_B_measure_29 : decode c_B_measure 29 = .ok (.iconst 1, 1) := by decide +kernel
theorem d_B_measure_30 : decode c_B_measure 30 = .ok (.istore_n 2, 1) := by decide +kernel
theorem d_B_measure_31 : decode c_B_measure 31 = .ok (.iload_n 2, 1) := by decide +kernel
theorem d_B_measure_32 : decode c_B_measure 32 = .ok (.aload_n 0, 1) := by decide +kernel
theorem d_B_measure_33 : decode c_B_measure 33 = .ok (.getfield 28, 3) := by decide +kernel
theorem d_B_measure_36 : decode c_B_measure 36 = .ok (.if_icmp .ge 43, 3) := by decide +kernel
theorem d_B_measure_39 : decode c_B_measure 39 = .ok (.aload_n 0, 1) := by decide +kernel
theorem d_B_measure_40 : decode c_B_measure 40 = .ok (.aload_n 0, 1) := by decide +kernel
theorem d_B_measure_41 : decode c_B_measure 41 = .ok (.getfield 53, 3) := by decide +kernel
theorem d_B_measure_44 : decode c_B_measure 44 = .ok (.aload_n 0, 1) := by decide +kernel
theorem d_B_measure_45 : decode c_B_measure 45 = .ok (.getfield 18, 3) := by decide +kernel
theorem d_B_measure_48 : decode c_B_measure 48 = .ok (.iload_n 2, 1) := by decide +kernel
theorem d_B_measure_49 : decode c_B_measure 49 = .ok (.iaload, 1) := by decide +kernel
theorem d_B_measure_50 : decode c_B_measure 50 = .ok (.invokestatic 59, 3) := by decide +kernel
theorem d_B_measure_53 : decode c_B_measure 53 = .ok (.putfield 53, 3) := by decide +kernel
theorem d_B_measure_56 : decode c_B_measure 56 = .ok (.aload_n 0, 1) := by decide +kernel
theorem d_B_measure_57 : decode c_B_measure 57 = .ok (.aload_n 0, 1) := by decide +kernel
theorem d_B_measure_58 : decode c_B_measure 58 = .ok (.getfield 56, 3) := by decide +kernel
theorem d_B_measure_61 : decode c_B_measure 61 = .ok (.aload_n 0, 1) := by decide +kernel
theorem d_B_measure_62 : decode c_B_measure 62 = .ok (.getfield 18, 3) := by decide +kernel
theorem d_B_measure_65 : decode c_B_measure 65 = .ok (.iload_n 2, 1) := by decide +kernel
theorem d_B_measure_66 : decode c_B_measure 66 = .ok (.iaload, 1) := by decide +kernel
theorem d_B_measure_67 : decode c_B_measure 67 = .ok (.invokestatic 65, 3) := by decide +kernel
theorem d_B_measure_70 : decode c_B_measure 70 = .ok (.putfield 56, 3) := by decide +kernel
theorem d_B_measure_73 : decode c_B_measure 73 = .ok (.iinc 2 1, 3) := by decide +kernel
theorem d_B_measure_76 : decode c_B_measure 76 = .ok (.goto (-45), 3) := by decide +kernel
theorem d_B_measure_79 : decode c_B_measure 79 = .ok (.aload_n 0, 1) := by decide +kernel
theorem d_B_measure_80 : decode c_B_measure 80 = .ok (.aload_n 0, 1) := by decide +kernel
theorem d_B_measure_81 : decode c_B_measure 81 = .ok (.getfield 53, 3) := by decide +kernel
theorem d_B_measure_84 : decode c_B_measure 84 = .ok (.iload_n 1, 1) := by decide +kernel
theorem d_B_measure_85 : decode c_B_measure 85 = .ok (.ineg, 1) := by decide +kernel
theorem d_B_measure_86 : decode c_B_measure 86 = .ok (.invokestatic 65, 3) := by decide +kernel
theorem d_B_measure_89 : decode c_B_measure 89 = .ok (.putfield 68, 3) := by decide +kernel
theorem d_B_measure_92 : decode c_B_measure 92 = .ok (.aload_n 0, 1) := by decide +kernel
theorem d_B_measure_93 : decode c_B_measure 93 = .ok (.aload_n 0, 1) := by decide +kernel
theorem d_B_measure_94 : decode c_B_measure 94 = .ok (.getfield 56, 3) := by decide +kernel
theorem d_B_measure_97 : decode c_B_measure 97 = .ok (.iload_n 1, 1) := by decide +kernel
theorem d_B_measure_98 : decode c_B_measure 98 = .ok (.invokestatic 59, 3) := by decide +kernel
theorem d_B_measure_101 : decode c_B_measure 101 = .ok (.putfield 71, 3) := by decide +kernel
theorem d_B_measure_104 : decode c_B_measure 104 = .ok (.aload_n 0, 1) := by decide +kernel
theorem d_B_measure_105 : decode c_B_measure 105 = .ok (.aload_n 0, 1) := by decide +kernel
theorem d_B_measure_106 : decode c_B_measure 106 = .ok (.aload_n 0, 1) := by decide +kernel
theorem d_B_measure_107 : decode c_B_measure 107 = .ok (.getfield 53, 3) := by decide +kernel
theorem d_B_measure_110 : decode c_B_measure 110 = .ok (.invokevirtual 74, 3) := by decide +kernel
theorem d_B_measure_113 : decode c_B_measure 113 = .ok (.putfield 77, 3) := by decide +kernel
theorem d_B_measure_116 : decode c_B_measure 116 = .ok (.aload_n 0, 1) := by decide +kernel
theorem d_B_measure_117 : decode c_B_measure 117 = .ok (.aload_n 0, 1) := by decide +kernel
theorem d_B_measure_118 : decode c_B_measure 118 = .ok (.aload_n 0, 1) := by decide +kernel
theorem d_B_measure_119 : decode c_B_measure 119 = .ok (.getfield 56, 3) := by decide +kernel
theorem d_B_measure_122 : decode c_B_measure 122 = .ok (.invokevirtual 74, 3) := by decide +kernel
theorem d_B_measure_125 : decode c_B_measure 125 = .ok (.putfield 80, 3) := by decide +kernel
theorem d_B_measure_128 : decode c_B_measure 128 = .ok (.aload_n 0, 1) := by decide +kernel
theorem d_B_measure_129 : decode c_B_measure 129 = .ok (.iconst 0, 1) := by decide +kernel
theorem d_B_measure_130 : decode c_B_measure 130 = .ok (.putfield 49, 3) := by decide +kernel
theorem d_B_measure_133 : decode c_B_measure 133 = .ok (.return_, 1) := by decide +kernel
theorem d_B_fact_0 : decode c_B_fact 0 = .ok (.iload_n 1, 1) := by decide +kernel
theorem d_B_fact_1 : decode c_B_fact 1 = .ok (.tableswitch 130 0 7 #[47, 52, 57, 62, 72, 88, 104, 117], 47) := by decide +kernel
theorem d_B_fact_48 : decode c_B_fact 48 = .ok (.aload_n 0, 1) := by decide +kernel
theorem d_B_fact_49 : decode c_B_fact 49 = .ok (.getfield 28, 3) := by decide +kernel
theorem d_B_fact_52 : decode c_B_fact 52 = .ok (.ireturn, 1) := by decide +kernel
theorem d_B_fact_53 : decode c_B_fact 53 = .ok (.aload_n 0, 1) := by decide +kernel
theorem d_B_fact_54 : decode c_B_fact 54 = .ok (.getfield 53, 3) := by decide +kernel
theorem d_B_fact_57 : decode c_B_fact 57 = .ok (.ireturn, 1) := by decide +kernel
theorem d_B_fact_58 : decode c_B_fact 58 = .ok (.aload_n 0, 1) := by decide +kernel
theorem d_B_fact_59 : decode c_B_fact 59 = .ok (.getfield 56, 3) := by decide +kernel
theorem d_B_fact_62 : decode c_B_fact 62 = .ok (.ireturn, 1) := by decide +kernel
theorem d_B_fact_63 : decode c_B_fact 63 = .ok (.aload_n 0, 1) := by decide +kernel
theorem d_B_fact_64 : decode c_B_fact 64 = .ok (.getfield 28, 3) := by decide +kernel
theorem d_B_fact_67 : decode c_B_fact 67 = .ok (.aload_n 0, 1) := by decide +kernel
theorem d_B_fact_68 : decode c_B_fact 68 = .ok (.getfield 32, 3) := by decide +kernel
theorem d_B_fact_71 : decode c_B_fact 71 = .ok (.isub, 1) := by decide +kernel
theorem d_B_fact_72 : decode c_B_fact 72 = .ok (.ireturn, 1) := by decide +kernel
theorem d_B_fact_73 : decode c_B_fact 73 = .ok (.aload_n 0, 1) := by decide +kernel
theorem d_B_fact_74 : decode c_B_fact 74 = .ok (.invokevirtual 83, 3) := by decide +kernel
theorem d_B_fact_77 : decode c_B_fact 77 = .ok (.ifCond .eq 10, 3) := by decide +kernel
theorem d_B_fact_80 : decode c_B_fact 80 = .ok (.aload_n 0, 1) := by decide +kernel
theorem d_B_fact_81 : decode c_B_fact 81 = .ok (.getfield 68, 3) := by decide +kernel
theorem d_B_fact_84 : decode c_B_fact 84 = .ok (.goto 4, 3) := by decide +kernel
theorem d_B_fact_87 : decode c_B_fact 87 = .ok (.iconst 0, 1) := by decide +kernel
theorem d_B_fact_88 : decode c_B_fact 88 = .ok (.ireturn, 1) := by decide +kernel
theorem d_B_fact_89 : decode c_B_fact 89 = .ok (.aload_n 0, 1) := by decide +kernel
theorem d_B_fact_90 : decode c_B_fact 90 = .ok (.invokevirtual 83, 3) := by decide +kernel
theorem d_B_fact_93 : decode c_B_fact 93 = .ok (.ifCond .eq 10, 3) := by decide +kernel
theorem d_B_fact_96 : decode c_B_fact 96 = .ok (.aload_n 0, 1) := by decide +kernel
theorem d_B_fact_97 : decode c_B_fact 97 = .ok (.getfield 71, 3) := by decide +kernel
theorem d_B_fact_100 : decode c_B_fact 100 = .ok (.goto 4, 3) := by decide +kernel
theorem d_B_fact_103 : decode c_B_fact 103 = .ok (.iconst 0, 1) := by decide +kernel
theorem d_B_fact_104 : decode c_B_fact 104 = .ok (.ireturn, 1) := by decide +kernel
theorem d_B_fact_105 : decode c_B_fact 105 = .ok (.aload_n 0, 1) := by decide +kernel
theorem d_B_fact_106 : decode c_B_fact 106 = .ok (.invokevirtual 87, 3) := by decide +kernel
theorem d_B_fact_109 : decode c_B_fact 109 = .ok (.ifCond .eq 7, 3) := by decide +kernel
theorem d_B_fact_112 : decode c_B_fact 112 = .ok (.iconst 1, 1) := by decide +kernel
theorem d_B_fact_113 : decode c_B_fact 113 = .ok (.goto 4, 3) := by decide +kernel
theorem d_B_fact_116 : decode c_B_fact 116 = .ok (.iconst 0, 1) := by decide +kernel
theorem d_B_fact_117 : decode c_B_fact 117 = .ok (.ireturn, 1) := by decide +kernel
theorem d_B_fact_118 : decode c_B_fact 118 = .ok (.aload_n 0, 1) := by decide +kernel
theorem d_B_fact_119 : decode c_B_fact 119 = .ok (.invokevirtual 90, 3) := by decide +kernel
theorem d_B_fact_122 : decode c_B_fact 122 = .ok (.ifCond .eq 7, 3) := by decide +kernel
theorem d_B_fact_125 : decode c_B_fact 125 = .ok (.iconst 1, 1) := by decide +kernel
theorem d_B_fact_126 : decode c_B_fact 126 = .ok (.goto 4, 3) := by decide +kernel
theorem d_B_fact_129 : decode c_B_fact 129 = .ok (.iconst 0, 1) := by decide +kernel
theorem d_B_fact_130 : decode c_B_fact 130 = .ok (.ireturn, 1) := by decide +kernel
theorem d_B_fact_131 : decode c_B_fact 131 = .ok (.aload_n 0, 1) := by decide +kernel
theorem d_B_fact_132 : decode c_B_fact 132 = .ok (.iload_n 1, 1) := by decide +kernel
theorem d_B_fact_133 : decode c_B_fact 133 = .ok (.bipush 10, 2) := by decide +kernel
theorem d_B_fact_135 : decode c_B_fact 135 = .ok (.isub, 1) := by decide +kernel
theorem d_B_fact_136 : decode c_B_fact 136 = .ok (.invokevirtual 93, 3) := by decide +kernel
theorem d_B_fact_139 : decode c_B_fact 139 = .ok (.ireturn, 1) := by decide +kernel
theorem d_B_sumEnd_0 : decode c_B_sumEnd 0 = .ok (.iconst 0, 1) := by decide +kernel
theorem d_B_sumEnd_1 : decode c_B_sumEnd 1 = .ok (.istore_n 3, 1) := by decide +kernel
theorem d_B_sumEnd_2 : decode c_B_sumEnd 2 = .ok (.iconst 0, 1) := by decide +kernel
theorem d_B_sumEnd_3 : decode c_B_sumEnd 3 = .ok (.istore 4, 2) := by decide +kernel
theorem d_B_sumEnd_5 : decode c_B_sumEnd 5 = .ok (.iconst 0, 1) := by decide +kernel
theorem d_B_sumEnd_6 : decode c_B_sumEnd 6 = .ok (.istore 5, 2) := by decide +kernel
theorem d_B_sumEnd_8 : decode c_B_sumEnd 8 = .ok (.iload 5, 2) := by decide +kernel
theorem d_B_sumEnd_10 : decode c_B_sumEnd 10 = .ok (.aload_n 0, 1) := by decide +kernel
theorem d_B_sumEnd_11 : decode c_B_sumEnd 11 = .ok (.getfield 28, 3) := by decide +kernel
theorem d_B_sumEnd_14 : decode c_B_sumEnd 14 = .ok (.if_icmp .ge 51, 3) := by decide +kernel
theorem d_B_sumEnd_17 : decode c_B_sumEnd 17 = .ok (.iload_n 1, 1) := by decide +kernel
theorem d_B_sumEnd_18 : decode c_B_sumEnd 18 = .ok (.iconst (-1), 1) := by decide +kernel
theorem d_B_sumEnd_19 : decode c_B_sumEnd 19 = .ok (.if_icmp .eq 14, 3) := by decide +kernel
theorem d_B_sumEnd_22 : decode c_B_sumEnd 22 = .ok (.aload_n 0, 1) := by decide +kernel
theorem d_B_sumEnd_23 : decode c_B_sumEnd 23 = .ok (.getfield 15, 3) := by decide +kernel
theorem d_B_sumEnd_26 : decode c_B_sumEnd 26 = .ok (.iload 5, 2) := by decide +kernel
theorem d_B_sumEnd_28 : decode c_B_sumEnd 28 = .ok (.iaload, 1) := by decide +kernel
theorem d_B_sumEnd_29 : decode c_B_sumEnd 29 = .ok (.iload_n 1, 1) := by decide +kernel
theorem d_B_sumEnd_30 : decode c_B_sumEnd 30 = .ok (.if_icmp .ne 29, 3) := by decide +kernel
theorem d_B_sumEnd_33 : decode c_B_sumEnd 33 = .ok (.aload_n 0, 1) := by decide +kernel
theorem d_B_sumEnd_34 : decode c_B_sumEnd 34 = .ok (.getfield 21, 3) := by decide +kernel
theorem d_B_sumEnd_37 : decode c_B_sumEnd 37 = .ok (.iload 5, 2) := by decide +kernel
theorem d_B_sumEnd_39 : decode c_B_sumEnd 39 = .ok (.baload, 1) := by decide +kernel
theorem d_B_sumEnd_40 : decode c_B_sumEnd 40 = .ok (.ifCond .eq 16, 3) := by decide +kernel
theorem d_B_sumEnd_43 : decode c_B_sumEnd 43 = .ok (.iload_n 3, 1) := by decide +kernel
theorem d_B_sumEnd_44 : decode c_B_sumEnd 44 = .ok (.aload_n 0, 1) := by decide +kernel
theorem d_B_sumEnd_45 : decode c_B_sumEnd 45 = .ok (.getfield 18, 3) := by decide +kernel
theorem d_B_sumEnd_48 : decode c_B_sumEnd 48 = .ok (.iload 5, 2) := by decide +kernel
theorem d_B_sumEnd_50 : decode c_B_sumEnd 50 = .ok (.iaload, 1) := by decide +kernel
theorem d_B_sumEnd_51 : decode c_B_sumEnd 51 = .ok (.iadd, 1) := by decide +kernel
theorem d_B_sumEnd_52 : decode c_B_sumEnd 52 = .ok (.istore_n 3, 1) := by decide +kernel
theorem d_B_sumEnd_53 : decode c_B_sumEnd 53 = .ok (.goto 6, 3) := by decide +kernel
theorem d_B_sumEnd_56 : decode c_B_sumEnd 56 = .ok (.iinc 4 1, 3) := by decide +kernel
theorem d_B_sumEnd_59 : decode c_B_sumEnd 59 = .ok (.iinc 5 1, 3) := by decide +kernel
theorem d_B_sumEnd_62 : decode c_B_sumEnd 62 = .ok (.goto (-54), 3) := by decide +kernel
theorem d_B_sumEnd_65 : decode c_B_sumEnd 65 = .ok (.iload 4, 2) := by decide +kernel
theorem d_B_sumEnd_67 : decode c_B_sumEnd 67 = .ok (.ifCond .ne 8, 3) := by decide +kernel
theorem d_B_sumEnd_70 : decode c_B_sumEnd 70 = .ok (.iload_n 3, 1) := by decide +kernel
theorem d_B_sumEnd_71 : decode c_B_sumEnd 71 = .ok (.i2l, 1) := by decide +kernel
theorem d_B_sumEnd_72 : decode c_B_sumEnd 72 = .ok (.goto 13, 3) := by decide +kernel
theorem d_B_sumEnd_75 : decode c_B_sumEnd 75 = .ok (.iload_n 3, 1) := by decide +kernel
theorem d_B_sumEnd_76 : decode c_B_sumEnd 76 = .ok (.aload_n 0, 1) := by decide +kernel
theorem d_B_sumEnd_77 : decode c_B_sumEnd 77 = .ok (.iload 4, 2) := by decide +kernel
theorem d_B_sumEnd_79 : decode c_B_sumEnd 79 = .ok (.iload_n 2, 1) := by decide +kernel
theorem d_B_sumEnd_80 : decode c_B_sumEnd 80 = .ok (.invokevirtual 97, 3) := by decide +kernel
theorem d_B_sumEnd_83 : decode c_B_sumEnd 83 = .ok (.iadd, 1) := by decide +kernel
theorem d_B_sumEnd_84 : decode c_B_sumEnd 84 = .ok (.i2l, 1) := by decide +kernel
theorem d_B_sumEnd_85 : decode c_B_sumEnd 85 = .ok (.lreturn, 1) := by decide +kernel
theorem d_B_apart_0 : decode c_B_apart 0 = .ok (.aload_n 0, 1) := by decide +kernel
theorem d_B_apart_1 : decode c_B_apart 1 = .ok (.iload_n 1, 1) := by decide +kernel
theorem d_B_apart_2 : decode c_B_apart 2 = .ok (.iconst 1, 1) := by decide +kernel
theorem d_B_apart_3 : decode c_B_apart 3 = .ok (.invokevirtual 100, 3) := by decide +kernel
theorem d_B_apart_6 : decode c_B_apart 6 = .ok (.aload_n 0, 1) := by decide +kernel
theorem d_B_apart_7 : decode c_B_apart 7 = .ok (.iload_n 1, 1) := by decide +kernel
theorem d_B_apart_8 : decode c_B_apart 8 = .ok (.iconst 0, 1) := by decide +kernel
theorem d_B_apart_9 : decode c_B_apart 9 = .ok (.invokevirtual 100, 3) := by decide +kernel
theorem d_B_apart_12 : decode c_B_apart 12 = .ok (.lsub, 1) := by decide +kernel
theorem d_B_apart_13 : decode c_B_apart 13 = .ok (.lreturn, 1) := by decide +kernel
theorem d_B_countEnd_0 : decode c_B_countEnd 0 = .ok (.iconst 0, 1) := by decide +kernel
theorem d_B_countEnd_1 : decode c_B_countEnd 1 = .ok (.istore_n 3, 1) := by decide +kernel
theorem d_B_countEnd_2 : decode c_B_countEnd 2 = .ok (.iconst 0, 1) := by decide +kernel
theorem d_B_countEnd_3 : decode c_B_countEnd 3 = .ok (.istore 4, 2) := by decide +kernel
theorem d_B_countEnd_5 : decode c_B_countEnd 5 = .ok (.iload 4, 2) := by decide +kernel
theorem d_B_countEnd_7 : decode c_B_countEnd 7 = .ok (.aload_n 0, 1) := by decide +kernel
theorem d_B_countEnd_8 : decode c_B_countEnd 8 = .ok (.getfield 28, 3) := by decide +kernel
theorem d_B_countEnd_11 : decode c_B_countEnd 11 = .ok (.if_icmp .ge 33, 3) := by decide +kernel
theorem d_B_countEnd_14 : decode c_B_countEnd 14 = .ok (.aload_n 0, 1) := by decide +kernel
theorem d_B_countEnd_15 : decode c_B_countEnd 15 = .ok (.getfield 21, 3) := by decide +kernel
theorem d_B_countEnd_18 : decode c_B_countEnd 18 = .ok (.iload 4, 2) := by decide +kernel
theorem d_B_countEnd_20 : decode c_B_countEnd 20 = .ok (.baload, 1) := by decide +kernel
theorem d_B_countEnd_21 : decode c_B_countEnd 21 = .ok (.ifCond .eq 17, 3) := by decide +kernel
theorem d_B_countEnd_24 : decode c_B_countEnd 24 = .ok (.aload_n 0, 1) := by decide +kernel
theorem d_B_countEnd_25 : decode c_B_countEnd 25 = .ok (.getfield 18, 3) := by decide +kernel
theorem d_B_countEnd_28 : decode c_B_countEnd 28 = .ok (.iload 4, 2) := by decide +kernel
theorem d_B_countEnd_30 : decode c_B_countEnd 30 = .ok (.iaload, 1) := by decide +kernel
theorem d_B_countEnd_31 : decode c_B_countEnd 31 = .ok (.iload_n 1, 1) := by decide +kernel
theorem d_B_countEnd_32 : decode c_B_countEnd 32 = .ok (.if_icmp .lt 6, 3) := by decide +kernel
theorem d_B_countEnd_35 : decode c_B_countEnd 35 = .ok (.iinc 3 1, 3) := by decide +kernel
theorem d_B_countEnd_38 : decode c_B_countEnd 38 = .ok (.iinc 4 1, 3) := by decide +kernel
theorem d_B_countEnd_41 : decode c_B_countEnd 41 = .ok (.goto (-36), 3) := by decide +kernel
theorem d_B_countEnd_44 : decode c_B_countEnd 44 = .ok (.aload_n 0, 1) := by decide +kernel
theorem d_B_countEnd_45 : decode c_B_countEnd 45 = .ok (.invokevirtual 83, 3) := by decide +kernel
theorem d_B_countEnd_48 : decode c_B_countEnd 48 = .ok (.ifCond .eq 14, 3) := by decide +kernel
theorem d_B_countEnd_51 : decode c_B_countEnd 51 = .ok (.iload_n 3, 1) := by decide +kernel
theorem d_B_countEnd_52 : decode c_B_countEnd 52 = .ok (.aload_n 0, 1) := by decide +kernel
theorem d_B_countEnd_53 : decode c_B_countEnd 53 = .ok (.iload_n 1, 1) := by decide +kernel
theorem d_B_countEnd_54 : decode c_B_countEnd 54 = .ok (.iload_n 2, 1) := by decide +kernel
theorem d_B_countEnd_55 : decode c_B_countEnd 55 = .ok (.invokevirtual 104, 3) := by decide +kernel
theorem d_B_countEnd_58 : decode c_B_countEnd 58 = .ok (.iadd, 1) := by decide +kernel
theorem d_B_countEnd_59 : decode c_B_countEnd 59 = .ok (.goto 4, 3) := by decide +kernel
theorem d_B_countEnd_62 : decode c_B_countEnd 62 = .ok (.iload_n 3, 1) := by decide +kernel
theorem d_B_countEnd_63 : decode c_B_countEnd 63 = .ok (.ireturn, 1) := by decide +kernel
theorem d_B_addKnownKeys_0 : decode c_B_addKnownKeys 0 = .ok (.iconst 0, 1) := by decide +kernel
theorem d_B_addKnownKeys_1 : decode c_B_addKnownKeys 1 = .ok (.istore_n 2, 1) := by decide +kernel
theorem d_B_addKnownKeys_2 : decode c_B_addKnownKeys 2 = .ok (.iload_n 2, 1) := by decide +kernel
theorem d_B_addKnownKeys_3 : decode c_B_addKnownKeys 3 = .ok (.aload_n 0, 1) := by decide +kernel
theorem d_B_addKnownKeys_4 : decode c_B_addKnownKeys 4 = .ok (.getfield 28, 3) := by decide +kernel
theorem d_B_addKnownKeys_7 : decode c_B_addKnownKeys 7 = .ok (.if_icmp .ge 42, 3) := by decide +kernel
theorem d_B_addKnownKeys_10 : decode c_B_addKnownKeys 10 = .ok (.aload_n 0, 1) := by decide +kernel
theorem d_B_addKnownKeys_11 : decode c_B_addKnownKeys 11 = .ok (.getfield 9, 3) := by decide +kernel
theorem d_B_addKnownKeys_14 : decode c_B_addKnownKeys 14 = .ok (.iload_n 2, 1) := by decide +kernel
theorem d_B_addKnownKeys_15 : decode c_B_addKnownKeys 15 = .ok (.iaload, 1) := by decide +kernel
theorem d_B_addKnownKeys_16 : decode c_B_addKnownKeys 16 = .ok (.istore_n 3, 1) := by decide +kernel
theorem d_B_addKnownKeys_17 : decode c_B_addKnownKeys 17 = .ok (.aload_n 0, 1) := by decide +kernel
theorem d_B_addKnownKeys_18 : decode c_B_addKnownKeys 18 = .ok (.getfield 21, 3) := by decide +kernel
theorem d_B_addKnownKeys_21 : decode c_B_addKnownKeys 21 = .ok (.iload_n 2, 1) := by decide +kernel
theorem d_B_addKnownKeys_22 : decode c_B_addKnownKeys 22 = .ok (.baload, 1) := by decide +kernel
theorem d_B_addKnownKeys_23 : decode c_B_addKnownKeys 23 = .ok (.ifCond .eq 20, 3) := by decide +kernel
theorem d_B_addKnownKeys_26 : decode c_B_addKnownKeys 26 = .ok (.iload_n 3, 1) := by decide +kernel
theorem d_B_addKnownKeys_27 : decode c_B_addKnownKeys 27 = .ok (.ifCond .lt 16, 3) := by decide +kernel
theorem d_B_addKnownKeys_30 : decode c_B_addKnownKeys 30 = .ok (.iload_n 3, 1) := by decide +kernel
theorem d_B_addKnownKeys_31 : decode c_B_addKnownKeys 31 = .ok (.aload_n 1, 1) := by decide +kernel
theorem d_B_addKnownKeys_32 : decode c_B_addKnownKeys 32 = .ok (.arraylength, 1) := by decide +kernel
theorem d_B_addKnownKeys_33 : decode c_B_addKnownKeys 33 = .ok (.if_icmp .ge 10, 3) := by decide +kernel
theorem d_B_addKnownKeys_36 : decode c_B_addKnownKeys 36 = .ok (.aload_n 1, 1) := by decide +kernel
theorem d_B_addKnownKeys_37 : decode c_B_addKnownKeys 37 = .ok (.iload_n 3, 1) := by decide +kernel
theorem d_B_addKnownKeys_38 : decode c_B_addKnownKeys 38 = .ok (.dup2, 1) := by decide +kernel
theorem d_B_addKnownKeys_39 : decode c_B_addKnownKeys 39 = .ok (.iaload, 1) := by decide +kernel
theorem d_B_addKnownKeys_40 : decode c_B_addKnownKeys 40 = .ok (.iconst 1, 1) := by decide +kernel
theorem d_B_addKnownKeys_41 : decode c_B_addKnownKeys 41 = .ok (.iadd, 1) := by decide +kernel
theorem d_B_addKnownKeys_42 : decode c_B_addKnownKeys 42 = .ok (.iastore, 1) := by decide +kernel
theorem d_B_addKnownKeys_43 : decode c_B_addKnownKeys 43 = .ok (.iinc 2 1, 3) := by decide +kernel
theorem d_B_addKnownKeys_46 : decode c_B_addKnownKeys 46 = .ok (.goto (-44), 3) := by decide +kernel
theorem d_B_addKnownKeys_49 : decode c_B_addKnownKeys 49 = .ok (.return_, 1) := by decide +kernel
theorem d_B_pairsWith_0 : decode c_B_pairsWith 0 = .ok (.iconst 0, 1) := by decide +kernel
theorem d_B_pairsWith_1 : decode c_B_pairsWith 1 = .ok (.istore 4, 2) := by decide +kernel
theorem d_B_pairsWith_3 : decode c_B_pairsWith 3 = .ok (.iconst 0, 1) := by decide +kernel
theorem d_B_pairsWith_4 : decode c_B_pairsWith 4 = .ok (.istore 5, 2) := by decide +kernel
theorem d_B_pairsWith_6 : decode c_B_pairsWith 6 = .ok (.iload 5, 2) := by decide +kernel
theorem d_B_pairsWith_8 : decode c_B_pairsWith 8 = .ok (.aload_n 0, 1) := by decide +kernel
theorem d_B_pairsWith_9 : decode c_B_pairsWith 9 = .ok (.getfield 28, 3) := by decide +kernel
theorem d_B_pairsWith_12 : decode c_B_pairsWith 12 = .ok (.if_icmp .ge 71, 3) := by decide +kernel
theorem d_B_pairsWith_15 : decode c_B_pairsWith 15 = .ok (.aload_n 0, 1) := by decide +kernel
theorem d_B_pairsWith_16 : decode c_B_pairsWith 16 = .ok (.getfield 9, 3) := by decide +kernel
theorem d_B_pairsWith_19 : decode c_B_pairsWith 19 = .ok (.iload 5, 2) := by decide +kernel
theorem d_B_pairsWith_21 : decode c_B_pairsWith 21 = .ok (.iaload, 1) := by decide +kernel
theorem d_B_pairsWith_22 : decode c_B_pairsWith 22 = .ok (.istore 6, 2) := by decide +kernel
theorem d_B_pairsWith_24 : decode c_B_pairsWith 24 = .ok (.aload_n 0, 1) := by decide +kernel
theorem d_B_pairsWith_25 : decode c_B_pairsWith 25 = .ok (.getfield 21, 3) := by decide +kernel
theorem d_B_pairsWith_28 : decode c_B_pairsWith 28 = .ok (.iload 5, 2) := by decide +kernel
theorem d_B_pairsWith_30 : decode c_B_pairsWith 30 = .ok (.baload, 1) := by decide +kernel
theorem d_B_pairsWith_31 : decode c_B_pairsWith 31 = .ok (.ifCond .eq 17, 3) := by decide +kernel
theorem d_B_pairsWith_34 : decode c_B_pairsWith 34 = .ok (.iload 6, 2) := by decide +kernel
theorem d_B_pairsWith_36 : decode c_B_pairsWith 36 = .ok (.iload_n 2, 1) := by decide +kernel
theorem d_B_pairsWith_37 : decode c_B_pairsWith 37 = .ok (.iload_n 3, 1) := by decide +kernel
theorem d_B_pairsWith_38 : decode c_B_pairsWith 38 = .ok (.invokestatic 107, 3) := by decide +kernel
theorem d_B_pairsWith_41 : decode c_B_pairsWith 41 = .ok (.ifCond .eq 7, 3) := by decide +kernel
theorem d_B_pairsWith_44 : decode c_B_pairsWith 44 = .ok (.iconst 1, 1) := by decide +kernel
theorem d_B_pairsWith_45 : decode c_B_pairsWith 45 = .ok (.goto 4, 3) := by decide +kernel
theorem d_B_pairsWith_48 : decode c_B_pairsWith 48 = .ok (.iconst 0, 1) := by decide +kernel
theorem d_B_pairsWith_49 : decode c_B_pairsWith 49 = .ok (.istore 7, 2) := by decide +kernel
theorem d_B_pairsWith_51 : decode c_B_pairsWith 51 = .ok (.iload 7, 2) := by decide +kernel
theorem d_B_pairsWith_53 : decode c_B_pairsWith 53 = .ok (.ifCond .eq 24, 3) := by decide +kernel
theorem d_B_pairsWith_56 : decode c_B_pairsWith 56 = .ok (.iload 6, 2) := by decide +kernel
theorem d_B_pairsWith_58 : decode c_B_pairsWith 58 = .ok (.ifCond .lt 19, 3) := by decide +kernel
theorem d_B_pairsWith_61 : decode c_B_pairsWith 61 = .ok (.iload 6, 2) := by decide +kernel
theorem d_B_pairsWith_63 : decode c_B_pairsWith 63 = .ok (.aload_n 1, 1) := by decide +kernel
theorem d_B_pairsWith_64 : decode c_B_pairsWith 64 = .ok (.arraylength, 1) := by decide +kernel
theorem d_B_pairsWith_65 : decode c_B_pairsWith 65 = .ok (.if_icmp .ge 12, 3) := by decide +kernel
theorem d_B_pairsWith_68 : decode c_B_pairsWith 68 = .ok (.iload 4, 2) := by decide +kernel
theorem d_B_pairsWith_70 : decode c_B_pairsWith 70 = .ok (.aload_n 1, 1) := by decide +kernel
theorem d_B_pairsWith_71 : decode c_B_pairsWith 71 = .ok (.iload 6, 2) := by decide +kernel
theorem d_B_pairsWith_73 : decode c_B_pairsWith 73 = .ok (.iaload, 1) := by decide +kernel
theorem d_B_pairsWith_74 : decode c_B_pairsWith 74 = .ok (.iadd, 1) := by decide +kernel
theorem d_B_pairsWith_75 : decode c_B_pairsWith 75 = .ok (.istore 4, 2) := by decide +kernel
theorem d_B_pairsWith_77 : decode c_B_pairsWith 77 = .ok (.iinc 5 1, 3) := by decide +kernel
theorem d_B_pairsWith_80 : decode c_B_pairsWith 80 = .ok (.goto (-74), 3) := by decide +kernel
theorem d_B_pairsWith_83 : decode c_B_pairsWith 83 = .ok (.iload 4, 2) := by decide +kernel
theorem d_B_pairsWith_85 : decode c_B_pairsWith 85 = .ok (.ireturn, 1) := by decide +kernel
theorem d_B_writeKnown_0 : decode c_B_writeKnown 0 = .ok (.aload_n 1, 1) := by decide +kernel
theorem d_B_writeKnown_1 : decode c_B_writeKnown 1 = .ok (.getfield 111, 3) := by decide +kernel
theorem d_B_writeKnown_4 : decode c_B_writeKnown 4 = .ok (.aload_n 2, 1) := by decide +kernel
theorem d_B_writeKnown_5 : decode c_B_writeKnown 5 = .ok (.getfield 111, 3) := by decide +kernel
theorem d_B_writeKnown_8 : decode c_B_writeKnown 8 = .ok (.aload_n 3, 1) := by decide +kernel
theorem d_B_writeKnown_9 : decode c_B_writeKnown 9 = .ok (.getfield 111, 3) := by decide +kernel
theorem d_B_writeKnown_12 : decode c_B_writeKnown 12 = .ok (.invokestatic 59, 3) := by decide +kernel
theorem d_B_writeKnown_15 : decode c_B_writeKnown 15 = .ok (.invokestatic 59, 3) := by decide +kernel
theorem d_B_writeKnown_18 : decode c_B_writeKnown 18 = .ok (.istore 5, 2) := by decide +kernel
theorem d_B_writeKnown_20 : decode c_B_writeKnown 20 = .ok (.iload 4, 2) := by decide +kernel
theorem d_B_writeKnown_22 : decode c_B_writeKnown 22 = .ok (.istore 6, 2) := by decide +kernel
theorem d_B_writeKnown_24 : decode c_B_writeKnown 24 = .ok (.iconst 0, 1) := by decide +kernel
theorem d_B_writeKnown_25 : decode c_B_writeKnown 25 = .ok (.istore 7, 2) := by decide +kernel
theorem d_B_writeKnown_27 : decode c_B_writeKnown 27 = .ok (.iload 7, 2) := by decide +kernel
theorem d_B_writeKnown_29 : decode c_B_writeKnown 29 = .ok (.aload_n 0, 1) := by decide +kernel
theorem d_B_writeKnown_30 : decode c_B_writeKnown 30 = .ok (.getfield 28, 3) := by decide +kernel
theorem d_B_writeKnown_33 : decode c_B_writeKnown 33 = .ok (.if_icmp .ge 68, 3) := by decide +kernel
theorem d_B_writeKnown_36 : decode c_B_writeKnown 36 = .ok (.iload 6, 2) := by decide +kernel
theorem d_B_writeKnown_38 : decode c_B_writeKnown 38 = .ok (.iload 5, 2) := by decide +kernel
theorem d_B_writeKnown_40 : decode c_B_writeKnown 40 = .ok (.if_icmp .ge 61, 3) := by decide +kernel
theorem d_B_writeKnown_43 : decode c_B_writeKnown 43 = .ok (.aload_n 0, 1) := by decide +kernel
theorem d_B_writeKnown_44 : decode c_B_writeKnown 44 = .ok (.getfield 21, 3) := by decide +kernel
theorem d_B_writeKnown_47 : decode c_B_writeKnown 47 = .ok (.iload 7, 2) := by decide +kernel
theorem d_B_writeKnown_49 : decode c_B_writeKnown 49 = .ok (.baload, 1) := by decide +kernel
theorem d_B_writeKnown_50 : decode c_B_writeKnown 50 = .ok (.ifCond .eq 45, 3) := by decide +kernel
theorem d_B_writeKnown_53 : decode c_B_writeKnown 53 = .ok (.aload_n 1, 1) := by decide +kernel
theorem d_B_writeKnown_54 : decode c_B_writeKnown 54 = .ok (.iload 6, 2) := by decide +kernel
theorem d_B_writeKnown_56 : decode c_B_writeKnown 56 = .ok (.aload_n 0, 1) := by decide +kernel
theorem d_B_writeKnown_57 : decode c_B_writeKnown 57 = .ok (.getfield 9, 3) := by decide +kernel
theorem d_B_writeKnown_60 : decode c_B_writeKnown 60 = .ok (.iload 7, 2) := by decide +kernel
theorem d_B_writeKnown_62 : decode c_B_writeKnown 62 = .ok (.iaload, 1) := by decide +kernel
theorem d_B_writeKnown_63 : decode c_B_writeKnown 63 = .ok (.invokevirtual 114, 3) := by decide +kernel
theorem d_B_writeKnown_66 : decode c_B_writeKnown 66 = .ok (.aload_n 2, 1) := by decide +kernel
theorem d_B_writeKnown_67 : decode c_B_writeKnown 67 = .ok (.iload 6, 2) := by decide +kernel
theorem d_B_writeKnown_69 : decode c_B_writeKnown 69 = .ok (.aload_n 0, 1) := by decide +kernel
theorem d_B_writeKnown_70 : decode c_B_writeKnown 70 = .ok (.getfield 15, 3) := by decide +kernel
theorem d_B_writeKnown_73 : decode c_B_writeKnown 73 = .ok (.iload 7, 2) := by decide +kernel
theorem d_B_writeKnown_75 : decode c_B_writeKnown 75 = .ok (.iaload, 1) := by decide +kernel
theorem d_B_writeKnown_76 : decode c_B_writeKnown 76 = .ok (.invokevirtual 114, 3) := by decide +kernel
theorem d_B_writeKnown_79 : decode c_B_writeKnown 79 = .ok (.aload_n 3, 1) := by decide +kernel
theorem d_B_writeKnown_80 : decode c_B_writeKnown 80 = .ok (.iload 6, 2) := by decide +kernel
theorem d_B_writeKnown_82 : decode c_B_writeKnown 82 = .ok (.aload_n 0, 1) := by decide +kernel
theorem d_B_writeKnown_83 : decode c_B_writeKnown 83 = .ok (.getfield 18, 3) := by decide +kernel
theorem d_B_writeKnown_86 : decode c_B_writeKnown 86 = .ok (.iload 7, 2) := by decide +kernel
theorem d_B_writeKnown_88 : decode c_B_writeKnown 88 = .ok (.iaload, 1) := by decide +kernel
theorem d_B_writeKnown_89 : decode c_B_writeKnown 89 = .ok (.invokevirtual 114, 3) := by decide +kernel
theorem d_B_writeKnown_92 : decode c_B_writeKnown 92 = .ok (.iinc 6 1, 3) := by decide +kernel
theorem d_B_writeKnown_95 : decode c_B_writeKnown 95 = .ok (.iinc 7 1, 3) := by decide +kernel
theorem d_B_writeKnown_98 : decode c_B_writeKnown 98 = .ok (.goto (-71), 3) := by decide +kernel
theorem d_B_writeKnown_101 : decode c_B_writeKnown 101 = .ok (.iload 6, 2) := by decide +kernel
theorem d_B_writeKnown_103 : decode c_B_writeKnown 103 = .ok (.ireturn, 1) := by decide +kernel
theorem d_B_mixedInto_0 : decode c_B_mixedInto 0 = .ok (.lload_n 1, 1) := by decide +kernel
theorem d_B_mixedInto_1 : decode c_B_mixedInto 1 = .ok (.lstore_n 3, 1) := by decide +kernel
theorem d_B_mixedInto_2 : decode c_B_mixedInto 2 = .ok (.iconst 0, 1) := by decide +kernel
theorem d_B_mixedInto_3 : decode c_B_mixedInto 3 = .ok (.istore 5, 2) := by decide +kernel
theorem d_B_mixedInto_5 : decode c_B_mixedInto 5 = .ok (.iload 5, 2) := by decide +kernel
theorem d_B_mixedInto_7 : decode c_B_mixedInto 7 = .ok (.bipush 14, 2) := by decide +kernel
theorem d_B_mixedInto_9 : decode c_B_mixedInto 9 = .ok (.if_icmp .ge 29, 3) := by decide +kernel
theorem d_B_mixedInto_12 : decode c_B_mixedInto 12 = .ok (.iload 5, 2) := by decide +kernel
theorem d_B_mixedInto_14 : decode c_B_mixedInto 14 = .ok (.invokestatic 118, 3) := by decide +kernel
theorem d_B_mixedInto_17 : decode c_B_mixedInto 17 = .ok (.ifCond .eq 15, 3) := by decide +kernel
theorem d_B_mixedInto_20 : decode c_B_mixedInto 20 = .ok (.lload_n 3, 1) := by decide +kernel
theorem d_B_mixedInto_21 : decode c_B_mixedInto 21 = .ok (.aload_n 0, 1) := by decide +kernel
theorem d_B_mixedInto_22 : decode c_B_mixedInto 22 = .ok (.iload 5, 2) := by decide +kernel
theorem d_B_mixedInto_24 : decode c_B_mixedInto 24 = .ok (.invokevirtual 121, 3) := by decide +kernel
theorem d_B_mixedInto_27 : decode c_B_mixedInto 27 = .ok (.i2l, 1) := by decide +kernel
theorem d_B_mixedInto_28 : decode c_B_mixedInto 28 = .ok (.invokestatic 124, 3) := by decide +kernel
theorem d_B_mixedInto_31 : decode c_B_mixedInto 31 = .ok (.lstore_n 3, 1) := by decide +kernel
theorem d_B_mixedInto_32 : decode c_B_mixedInto 32 = .ok (.iinc 5 1, 3) := by decide +kernel
theorem d_B_mixedInto_35 : decode c_B_mixedInto 35 = .ok (.goto (-30), 3) := by decide +kernel
theorem d_B_mixedInto_38 : decode c_B_mixedInto 38 = .ok (.iconst 0, 1) := by decide +kernel
theorem d_B_mixedInto_39 : decode c_B_mixedInto 39 = .ok (.istore 5, 2) := by decide +kernel
theorem d_B_mixedInto_41 : decode c_B_mixedInto 41 = .ok (.iload 5, 2) := by decide +kernel
theorem d_B_mixedInto_43 : decode c_B_mixedInto 43 = .ok (.aload_n 0, 1) := by decide +kernel
theorem d_B_mixedInto_44 : decode c_B_mixedInto 44 = .ok (.getfield 28, 3) := by decide +kernel
theorem d_B_mixedInto_47 : decode c_B_mixedInto 47 = .ok (.if_icmp .ge 38, 3) := by decide +kernel
theorem d_B_mixedInto_50 : decode c_B_mixedInto 50 = .ok (.aload_n 0, 1) := by decide +kernel
theorem d_B_mixedInto_51 : decode c_B_mixedInto 51 = .ok (.getfield 21, 3) := by decide +kernel
theorem d_B_mixedInto_54 : decode c_B_mixedInto 54 = .ok (.iload 5, 2) := by decide +kernel
theorem d_B_mixedInto_56 : decode c_B_mixedInto 56 = .ok (.baload, 1) := by decide +kernel
theorem d_B_mixedInto_57 : decode c_B_mixedInto 57 = .ok (.ifCond .eq 22, 3) := by decide +kernel
theorem d_B_mixedInto_60 : decode c_B_mixedInto 60 = .ok (.lload_n 3, 1) := by decide +kernel
theorem d_B_mixedInto_61 : decode c_B_mixedInto 61 = .ok (.iload 5, 2) := by decide +kernel
theorem d_B_mixedInto_63 : decode c_B_mixedInto 63 = .ok (.i2l, 1) := by decide +kernel
theorem d_B_mixedInto_64 : decode c_B_mixedInto 64 = .ok (.invokestatic 124, 3) := by decide +kernel
theorem d_B_mixedInto_67 : decode c_B_mixedInto 67 = .ok (.aload_n 0, 1) := by decide +kernel
theorem d_B_mixedInto_68 : decode c_B_mixedInto 68 = .ok (.getfield 18, 3) := by decide +kernel
theorem d_B_mixedInto_71 : decode c_B_mixedInto 71 = .ok (.iload 5, 2) := by decide +kernel
theorem d_B_mixedInto_73 : decode c_B_mixedInto 73 = .ok (.iaload, 1) := by decide +kernel
theorem d_B_mixedInto_74 : decode c_B_mixedInto 74 = .ok (.i2l, 1) := by decide +kernel
theorem d_B_mixedInto_75 : decode c_B_mixedInto 75 = .ok (.invokestatic 124, 3) := by decide +kernel
theorem d_B_mixedInto_78 : decode c_B_mixedInto 78 = .ok (.lstore_n 3, 1) := by decide +kernel
theorem d_B_mixedInto_79 : decode c_B_mixedInto 79 = .ok (.iinc 5 1, 3) := by decide +kernel
theorem d_B_mixedInto_82 : decode c_B_mixedInto 82 = .ok (.goto (-41), 3) := by decide +kernel
theorem d_B_mixedInto_85 : decode c_B_mixedInto 85 = .ok (.lload_n 3, 1) := by decide +kernel
theorem d_B_mixedInto_86 : decode c_B_mixedInto 86 = .ok (.lreturn, 1) := by decide +kernel
theorem d_B_isHalf_0 : decode c_B_isHalf 0 = .ok (.aload_n 0, 1) := by decide +kernel
theorem d_B_isHalf_1 : decode c_B_isHalf 1 = .ok (.getfield 32, 3) := by decide +kernel
theorem d_B_isHalf_4 : decode c_B_isHalf 4 = .ok (.aload_n 0, 1) := by decide +kernel
theorem d_B_isHalf_5 : decode c_B_isHalf 5 = .ok (.getfield 28, 3) := by decide +kernel
theorem d_B_isHalf_8 : decode c_B_isHalf 8 = .ok (.if_icmp .ge 7, 3) := by decide +kernel
theorem d_B_isHalf_11 : decode c_B_isHalf 11 = .ok (.iconst 1, 1) := by decide +kernel
theorem d_B_isHalf_12 : decode c_B_isHalf 12 = .ok (.goto 4, 3) := by decide +kernel
theorem d_B_isHalf_15 : decode c_B_isHalf 15 = .ok (.iconst 0, 1) := by decide +kernel
theorem d_B_isHalf_16 : decode c_B_isHalf 16 = .ok (.ireturn, 1) := by decide +kernel
theorem d_B_owesLeast_0 : decode c_B_owesLeast 0 = .ok (.aload_n 0, 1) := by decide +kernel
theorem d_B_owesLeast_1 : decode c_B_owesLeast 1 = .ok (.invokevirtual 83, 3) := by decide +kernel
theorem d_B_owesLeast_4 : decode c_B_owesLeast 4 = .ok (.ifCond .eq 32, 3) := by decide +kernel
theorem d_B_owesLeast_7 : decode c_B_owesLeast 7 = .ok (.aload_n 0, 1) := by decide +kernel
theorem d_B_owesLeast_8 : decode c_B_owesLeast 8 = .ok (.getfield 77, 3) := by decide +kernel
theorem d_B_owesLeast_11 : decode c_B_owesLeast 11 = .ok (.ifCond .ne 25, 3) := by decide +kernel
theorem d_B_owesLeast_14 : decode c_B_owesLeast 14 = .ok (.aload_n 0, 1) := by decide +kernel
theorem d_B_owesLeast_15 : decode c_B_owesLeast 15 = .ok (.getfield 49, 3) := by decide +kernel
theorem d_B_owesLeast_18 : decode c_B_owesLeast 18 = .ok (.ifCond .ne 18, 3) := by decide +kernel
theorem d_B_owesLeast_21 : decode c_B_owesLeast 21 = .ok (.aload_n 0, 1) := by decide +kernel
theorem d_B_owesLeast_22 : decode c_B_owesLeast 22 = .ok (.getfield 68, 3) := by decide +kernel
theorem d_B_owesLeast_25 : decode c_B_owesLeast 25 = .ok (.aload_n 0, 1) := by decide +kernel
theorem d_B_owesLeast_26 : decode c_B_owesLeast 26 = .ok (.getfield 53, 3) := by decide +kernel
theorem d_B_owesLeast_29 : decode c_B_owesLeast 29 = .ok (.if_icmp .ne 7, 3) := by decide +kernel
theorem d_B_owesLeast_32 : decode c_B_owesLeast 32 = .ok (.iconst 1, 1) := by decide +kernel
theorem d_B_owesLeast_33 : decode c_B_owesLeast 33 = .ok (.goto 4, 3) := by decide +kernel
theorem d_B_owesLeast_36 : decode c_B_owesLeast 36 = .ok (.iconst 0, 1) := by decide +kernel
theorem d_B_owesLeast_37 : decode c_B_owesLeast 37 = .ok (.ireturn, 1) := by decide +kernel
theorem d_B_owesGreatest_0 : decode c_B_owesGreatest 0 = .ok (.aload_n 0, 1) := by decide +kernel
theorem d_B_owesGreatest_1 : decode c_B_owesGreatest 1 = .ok (.invokevirtual 83, 3) := by decide +kernel
theorem d_B_owesGreatest_4 : decode c_B_owesGreatest 4 = .ok (.ifCond .eq 32, 3) := by decide +kernel
theorem d_B_owesGreatest_7 : decode c_B_owesGreatest 7 = .ok (.aload_n 0, 1) := by decide +kernel
theorem d_B_owesGreatest_8 : decode c_B_owesGreatest 8 = .ok (.getfield 80, 3) := by decide +kernel
theorem d_B_owesGreatest_11 : decode c_B_owesGreatest 11 = .ok (.ifCond .ne 25, 3) := by decide +kernel
theorem d_B_owesGreatest_14 : decode c_B_owesGreatest 14 = .ok (.aload_n 0, 1) := by decide +kernel
theorem d_B_owesGreatest_15 : decode c_B_owesGreatest 15 = .ok (.getfield 49, 3) := by decide +kernel
theorem d_B_owesGreatest_18 : decode c_B_owesGreatest 18 = .ok (.ifCond .ne 18, 3) := by decide +kernel
theorem d_B_owesGreatest_21 : decode c_B_owesGreatest 21 = .ok (.aload_n 0, 1) := by decide +kernel
theorem d_B_owesGreatest_22 : decode c_B_owesGreatest 22 = .ok (.getfield 71, 3) := by decide +kernel
theorem d_B_owesGreatest_25 : decode c_B_owesGreatest 25 = .ok (.aload_n 0, 1) := by decide +kernel
theorem d_B_owesGreatest_26 : decode c_B_owesGreatest 26 = .ok (.getfield 56, 3) := by decide +kernel
theorem d_B_owesGreatest_29 : decode c_B_owesGreatest 29 = .ok (.if_icmp .ne 7, 3) := by decide +kernel
theorem d_B_owesGreatest_32 : decode c_B_owesGreatest 32 = .ok (.iconst 1, 1) := by decide +kernel
theorem d_B_owesGreatest_33 : decode c_B_owesGreatest 33 = .ok (.goto 4, 3) := by decide +kernel
theorem d_B_owesGreatest_36 : decode c_B_owesGreatest 36 = .ok (.iconst 0, 1) := by decide +kernel
theorem d_B_owesGreatest_37 : decode c_B_owesGreatest 37 = .ok (.ireturn, 1) := by decide +kernel
theorem d_B_isKnownValue_0 : decode c_B_isKnownValue 0 = .ok (.iconst 0, 1) := by decide +kernel
theorem d_B_isKnownValue_1 : decode c_B_isKnownValue 1 = .ok (.istore_n 2, 1) := by decide +kernel
theorem d_B_isKnownValue_2 : decode c_B_isKnownValue 2 = .ok (.iload_n 2, 1) := by decide +kernel
theorem d_B_isKnownValue_3 : decode c_B_isKnownValue 3 = .ok (.aload_n 0, 1) := by decide +kernel
theorem d_B_isKnownValue_4 : decode c_B_isKnownValue 4 = .ok (.getfield 28, 3) := by decide +kernel
theorem d_B_isKnownValue_7 : decode c_B_isKnownValue 7 = .ok (.if_icmp .ge 30, 3) := by decide +kernel
theorem d_B_isKnownValue_10 : decode c_B_isKnownValue 10 = .ok (.aload_n 0, 1) := by decide +kernel
theorem d_B_isKnownValue_11 : decode c_B_isKnownValue 11 = .ok (.getfield 21, 3) := by decide +kernel
theorem d_B_isKnownValue_14 : decode c_B_isKnownValue 14 = .ok (.iload_n 2, 1) := by decide +kernel
theorem d_B_isKnownValue_15 : decode c_B_isKnownValue 15 = .ok (.baload, 1) := by decide +kernel
theorem d_B_isKnownValue_16 : decode c_B_isKnownValue 16 = .ok (.ifCond .eq 15, 3) := by decide +kernel
theorem d_B_isKnownValue_19 : decode c_B_isKnownValue 19 = .ok (.aload_n 0, 1) := by decide +kernel
theorem d_B_isKnownValue_20 : decode c_B_isKnownValue 20 = .ok (.getfield 18, 3) := by decide +kernel
theorem d_B_isKnownValue_23 : decode c_B_isKnownValue 23 = .ok (.iload_n 2, 1) := by decide +kernel
theorem d_B_isKnownValue_24 : decode c_B_isKnownValue 24 = .ok (.iaload, 1) := by decide +kernel
theorem d_B_isKnownValue_25 : decode c_B_isKnownValue 25 = .ok (.iload_n 1, 1) := by decide +kernel
theorem d_B_isKnownValue_26 : decode c_B_isKnownValue 26 = .ok (.if_icmp .ne 5, 3) := by decide +kernel
theorem d_B_isKnownValue_29 : decode c_B_isKnownValue 29 = .ok (.iconst 1, 1) := by decide +kernel
theorem d_B_isKnownValue_30 : decode c_B_isKnownValue 30 = .ok (.ireturn, 1) := by decide +kernel
theorem d_B_isKnownValue_31 : decode c_B_isKnownValue 31 = .ok (.iinc 2 1, 3) := by decide +kernel
theorem d_B_isKnownValue_34 : decode c_B_isKnownValue 34 = .ok (.goto (-32), 3) := by decide +kernel
theorem d_B_isKnownValue_37 : decode c_B_isKnownValue 37 = .ok (.iconst 0, 1) := by decide +kernel
theorem d_B_isKnownValue_38 : decode c_B_isKnownValue 38 = .ok (.ireturn, 1) := by decide +kernel
theorem d_B_groupSize_0 : decode c_B_groupSize 0 = .ok (.iload_n 1, 1) := by decide +kernel
theorem d_B_groupSize_1 : decode c_B_groupSize 1 = .ok (.ifCond .lt 17, 3) := by decide +kernel
theorem d_B_groupSize_4 : decode c_B_groupSize 4 = .ok (.iload_n 1, 1) := by decide +kernel
theorem d_B_groupSize_5 : decode c_B_groupSize 5 = .ok (.iconst 4, 1) := by decide +kernel
theorem d_B_groupSize_6 : decode c_B_groupSize 6 = .ok (.if_icmp .ge 12, 3) := by decide +kernel
theorem d_B_groupSize_9 : decode c_B_groupSize 9 = .ok (.aload_n 0, 1) := by decide +kernel
theorem d_B_groupSize_10 : decode c_B_groupSize 10 = .ok (.getfield 25, 3) := by decide +kernel
theorem d_B_groupSize_13 : decode c_B_groupSize 13 = .ok (.iload_n 1, 1) := by decide +kernel
theorem d_B_groupSize_14 : decode c_B_groupSize 14 = .ok (.iaload, 1) := by decide +kernel
theorem d_B_groupSize_15 : decode c_B_groupSize 15 = .ok (.goto 4, 3) := by decide +kernel
theorem d_B_groupSize_18 : decode c_B_groupSize 18 = .ok (.iconst 0, 1) := by decide +kernel
theorem d_B_groupSize_19 : decode c_B_groupSize 19 = .ok (.ireturn, 1) := by decide +kernel
theorem d_B_hiddenSumEnd_0 : decode c_B_hiddenSumEnd 0 = .ok (.iload_n 1, 1) := by decide +kernel
theorem d_B_hiddenSumEnd_1 : decode c_B_hiddenSumEnd 1 = .ok (.aload_n 0, 1) := by decide +kernel
theorem d_B_hiddenSumEnd_2 : decode c_B_hiddenSumEnd 2 = .ok (.getfield 28, 3) := by decide +kernel
theorem d_B_hiddenSumEnd_5 : decode c_B_hiddenSumEnd 5 = .ok (.aload_n 0, 1) := by decide +kernel
theorem d_B_hiddenSumEnd_6 : decode c_B_hiddenSumEnd 6 = .ok (.getfield 32, 3) := by decide +kernel
theorem d_B_hiddenSumEnd_9 : decode c_B_hiddenSumEnd 9 = .ok (.isub, 1) := by decide +kernel
theorem d_B_hiddenSumEnd_10 : decode c_B_hiddenSumEnd 10 = .ok (.if_icmp .ne 7, 3) := by decide +kernel
theorem d_B_hiddenSumEnd_13 : decode c_B_hiddenSumEnd 13 = .ok (.iconst 1, 1) := by decide +kernel
theorem d_B_hiddenSumEnd_14 : decode c_B_hiddenSumEnd 14 = .ok (.goto 4, 3) := by decide +kernel
theorem d_B_hiddenSumEnd_17 : decode c_B_hiddenSumEnd 17 = .ok (.iconst 0, 1) := by decide +kernel
theorem d_B_hiddenSumEnd_18 : decode c_B_hiddenSumEnd 18 = .ok (.istore_n 3, 1) := by decide +kernel
theorem d_B_hiddenSumEnd_19 : decode c_B_hiddenSumEnd 19 = .ok (.iload_n 2, 1) := by decide +kernel
theorem d_B_hiddenSumEnd_20 : decode c_B_hiddenSumEnd 20 = .ok (.ifCond .ne 35, 3) := by decide +kernel
theorem d_B_hiddenSumEnd_23 : decode c_B_hiddenSumEnd 23 = .ok (.iload_n 1, 1) := by decide +kernel
theorem d_B_hiddenSumEnd_24 : decode c_B_hiddenSumEnd 24 = .ok (.aload_n 0, 1) := by decide +kernel
theorem d_B_hiddenSumEnd_25 : decode c_B_hiddenSumEnd 25 = .ok (.getfield 68, 3) := by decide +kernel
theorem d_B_hiddenSumEnd_28 : decode c_B_hiddenSumEnd 28 = .ok (.imul, 1) := by decide +kernel
theorem d_B_hiddenSumEnd_29 : decode c_B_hiddenSumEnd 29 = .ok (.iload_n 3, 1) := by decide +kernel
theorem d_B_hiddenSumEnd_30 : decode c_B_hiddenSumEnd 30 = .ok (.ifCond .eq 22, 3) := by decide +kernel
theorem d_B_hiddenSumEnd_33 : decode c_B_hiddenSumEnd 33 = .ok (.aload_n 0, 1) := by decide +kernel
theorem d_B_hiddenSumEnd_34 : decode c_B_hiddenSumEnd 34 = .ok (.invokevirtual 90, 3) := by decide +kernel
theorem d_B_hiddenSumEnd_37 : decode c_B_hiddenSumEnd 37 = .ok (.ifCond .eq 15, 3) := by decide +kernel
theorem d_B_hiddenSumEnd_40 : decode c_B_hiddenSumEnd 40 = .ok (.aload_n 0, 1) := by decide +kernel
theorem d_B_hiddenSumEnd_41 : decode c_B_hiddenSumEnd 41 = .ok (.getfield 71, 3) := by decide +kernel
theorem d_B_hiddenSumEnd_44 : decode c_B_hiddenSumEnd 44 = .ok (.aload_n 0, 1) := by decide +kernel
theorem d_B_hiddenSumEnd_45 : decode c_B_hiddenSumEnd 45 = .ok (.getfield 68, 3) := by decide +kernel
theorem d_B_hiddenSumEnd_48 : decode c_B_hiddenSumEnd 48 = .ok (.isub, 1) := by decide +kernel
theorem d_B_hiddenSumEnd_49 : decode c_B_hiddenSumEnd 49 = .ok (.goto 4, 3) := by decide +kernel
theorem d_B_hiddenSumEnd_52 : decode c_B_hiddenSumEnd 52 = .ok (.iconst 0, 1) := by decide +kernel
theorem d_B_hiddenSumEnd_53 : decode c_B_hiddenSumEnd 53 = .ok (.iadd, 1) := by decide +kernel
theorem d_B_hiddenSumEnd_54 : decode c_B_hiddenSumEnd 54 = .ok (.ireturn, 1) := by decide +kernel
theorem d_B_hiddenSumEnd_55 : decode c_B_hiddenSumEnd 55 = .ok (.iload_n 1, 1) := by decide +kernel
theorem d_B_hiddenSumEnd_56 : decode c_B_hiddenSumEnd 56 = .ok (.aload_n 0, 1) := by decide +kernel
theorem d_B_hiddenSumEnd_57 : decode c_B_hiddenSumEnd 57 = .ok (.getfield 71, 3) := by decide +kernel
theorem d_B_hiddenSumEnd_60 : decode c_B_hiddenSumEnd 60 = .ok (.imul, 1) := by decide +kernel
theorem d_B_hiddenSumEnd_61 : decode c_B_hiddenSumEnd 61 = .ok (.iload_n 3, 1) := by decide +kernel
theorem d_B_hiddenSumEnd_62 : decode c_B_hiddenSumEnd 62 = .ok (.ifCond .eq 22, 3) := by decide +kernel
theorem d_B_hiddenSumEnd_65 : decode c_B_hiddenSumEnd 65 = .ok (.aload_n 0, 1) := by decide +kernel
theorem d_B_hiddenSumEnd_66 : decode c_B_hiddenSumEnd 66 = .ok (.invokevirtual 87, 3) := by decide +kernel
theorem d_B_hiddenSumEnd_69 : decode c_B_hiddenSumEnd 69 = .ok (.ifCond .eq 15, 3) := by decide +kernel
theorem d_B_hiddenSumEnd_72 : decode c_B_hiddenSumEnd 72 = .ok (.aload_n 0, 1) := by decide +kernel
theorem d_B_hiddenSumEnd_73 : decode c_B_hiddenSumEnd 73 = .ok (.getfield 71, 3) := by decide +kernel
theorem d_B_hiddenSumEnd_76 : decode c_B_hiddenSumEnd 76 = .ok (.aload_n 0, 1) := by decide +kernel
theorem d_B_hiddenSumEnd_77 : decode c_B_hiddenSumEnd 77 = .ok (.getfield 68, 3) := by decide +kernel
theorem d_B_hiddenSumEnd_80 : decode c_B_hiddenSumEnd 80 = .ok (.isub, 1) := by decide +kernel
theorem d_B_hiddenSumEnd_81 : decode c_B_hiddenSumEnd 81 = .ok (.goto 4, 3) := by decide +kernel
theorem d_B_hiddenSumEnd_84 : decode c_B_hiddenSumEnd 84 = .ok (.iconst 0, 1) := by decide +kernel
theorem d_B_hiddenSumEnd_85 : decode c_B_hiddenSumEnd 85 = .ok (.isub, 1) := by decide +kernel
theorem d_B_hiddenSumEnd_86 : decode c_B_hiddenSumEnd 86 = .ok (.ireturn, 1) := by decide +kernel
theorem d_B_hiddenCountEnd_0 : decode c_B_hiddenCountEnd 0 = .ok (.aload_n 0, 1) := by decide +kernel
theorem d_B_hiddenCountEnd_1 : decode c_B_hiddenCountEnd 1 = .ok (.getfield 28, 3) := by decide +kernel
theorem d_B_hiddenCountEnd_4 : decode c_B_hiddenCountEnd 4 = .ok (.aload_n 0, 1) := by decide +kernel
theorem d_B_hiddenCountEnd_5 : decode c_B_hiddenCountEnd 5 = .ok (.getfield 32, 3) := by decide +kernel
theorem d_B_hiddenCountEnd_8 : decode c_B_hiddenCountEnd 8 = .ok (.isub, 1) := by decide +kernel
theorem d_B_hiddenCountEnd_9 : decode c_B_hiddenCountEnd 9 = .ok (.istore_n 3, 1) := by decide +kernel
theorem d_B_hiddenCountEnd_10 : decode c_B_hiddenCountEnd 10 = .ok (.aload_n 0, 1) := by decide +kernel
theorem d_B_hiddenCountEnd_11 : decode c_B_hiddenCountEnd 11 = .ok (.getfield 68, 3) := by decide +kernel
theorem d_B_hiddenCountEnd_14 : decode c_B_hiddenCountEnd 14 = .ok (.iload_n 1, 1) := by decide +kernel
theorem d_B_hiddenCountEnd_15 : decode c_B_hiddenCountEnd 15 = .ok (.if_icmp .lt 5, 3) := by decide +kernel
theorem d_B_hiddenCountEnd_18 : decode c_B_hiddenCountEnd 18 = .ok (.iload_n 3, 1) := by decide +kernel
theorem d_B_hiddenCountEnd_19 : decode c_B_hiddenCountEnd 19 = .ok (.ireturn, 1) := by decide +kernel
theorem d_B_hiddenCountEnd_20 : decode c_B_hiddenCountEnd 20 = .ok (.aload_n 0, 1) := by decide +kernel
theorem d_B_hiddenCountEnd_21 : decode c_B_hiddenCountEnd 21 = .ok (.getfield 71, 3) := by decide +kernel
theorem d_B_hiddenCountEnd_24 : decode c_B_hiddenCountEnd 24 = .ok (.iload_n 1, 1) := by decide +kernel
theorem d_B_hiddenCountEnd_25 : decode c_B_hiddenCountEnd 25 = .ok (.if_icmp .ge 5, 3) := by decide +kernel
theorem d_B_hiddenCountEnd_28 : decode c_B_hiddenCountEnd 28 = .ok (.iconst 0, 1) := by decide +kernel
theorem d_B_hiddenCountEnd_29 : decode c_B_hiddenCountEnd 29 = .ok (.ireturn, 1) := by decide +kernel
theorem d_B_hiddenCountEnd_30 : decode c_B_hiddenCountEnd 30 = .ok (.iload_n 2, 1) := by decide +kernel
theorem d_B_hiddenCountEnd_31 : decode c_B_hiddenCountEnd 31 = .ok (.ifCond .ne 16, 3) := by decide +kernel
theorem d_B_hiddenCountEnd_34 : decode c_B_hiddenCountEnd 34 = .ok (.aload_n 0, 1) := by decide +kernel
theorem d_B_hiddenCountEnd_35 : decode c_B_hiddenCountEnd 35 = .ok (.invokevirtual 90, 3) := by decide +kernel
theorem d_B_hiddenCountEnd_38 : decode c_B_hiddenCountEnd 38 = .ok (.ifCond .eq 7, 3) := by decide +kernel
theorem d_B_hiddenCountEnd_41 : decode c_B_hiddenCountEnd 41 = .ok (.iconst 1, 1) := by decide +kernel
theorem d_B_hiddenCountEnd_42 : decode c_B_hiddenCountEnd 42 = .ok (.goto 4, 3) := by decide +kernel
theorem d_B_hiddenCountEnd_45 : decode c_B_hiddenCountEnd 45 = .ok (.iconst 0, 1) := by decide +kernel
theorem d_B_hiddenCountEnd_46 : decode c_B_hiddenCountEnd 46 = .ok (.ireturn, 1) := by decide +kernel
theorem d_B_hiddenCountEnd_47 : decode c_B_hiddenCountEnd 47 = .ok (.aload_n 0, 1) := by decide +kernel
theorem d_B_hiddenCountEnd_48 : decode c_B_hiddenCountEnd 48 = .ok (.invokevirtual 87, 3) := by decide +kernel
theorem d_B_hiddenCountEnd_51 : decode c_B_hiddenCountEnd 51 = .ok (.ifCond .eq 9, 3) := by decide +kernel
theorem d_B_hiddenCountEnd_54 : decode c_B_hiddenCountEnd 54 = .ok (.iload_n 3, 1) := by decide +kernel
theorem d_B_hiddenCountEnd_55 : decode c_B_hiddenCountEnd 55 = .ok (.iconst 1, 1) := by decide +kernel
theorem d_B_hiddenCountEnd_56 : decode c_B_hiddenCountEnd 56 = .ok (.isub, 1) := by decide +kernel
theorem d_B_hiddenCountEnd_57 : decode c_B_hiddenCountEnd 57 = .ok (.goto 4, 3) := by decide +kernel
theorem d_B_hiddenCountEnd_60 : decode c_B_hiddenCountEnd 60 = .ok (.iload_n 3, 1) := by decide +kernel
theorem d_B_hiddenCountEnd_61 : decode c_B_hiddenCountEnd 61 = .ok (.ireturn, 1) := by decide +kernel
theorem d_K_init_0 : decode c_K_init 0 = .ok (.aload_n 0, 1) := by decide +kernel
theorem d_K_init_1 : decode c_K_init 1 = .ok (.invokespecial 3, 3) := by decide +kernel
theorem d_K_init_4 : decode c_K_init 4 = .ok (.return_, 1) := by decide +kernel
theorem d_K_become_0 : decode c_K_become 0 = .ok (.aload_n 0, 1) := by decide +kernel
theorem d_K_become_1 : decode c_K_become 1 = .ok (.iload_n 1, 1) := by decide +kernel
theorem d_K_become_2 : decode c_K_become 2 = .ok (.putfield 9, 3) := by decide +kernel
theorem d_K_become_5 : decode c_K_become 5 = .ok (.aload_n 0, 1) := by decide +kernel
theorem d_K_become_6 : decode c_K_become 6 = .ok (.iload_n 2, 1) := by decide +kernel
theorem d_K_become_7 : decode c_K_become 7 = .ok (.putfield 15, 3) := by decide +kernel
theorem d_K_become_10 : decode c_K_become 10 = .ok (.aload_n 0, 1) := by decide +kernel
theorem d_K_become_11 : decode c_K_become 11 = .ok (.iload_n 3, 1) := by decide +kernel
theorem d_K_become_12 : decode c_K_become 12 = .ok (.putfield 18, 3) := by decide +kernel
theorem d_K_become_15 : decode c_K_become 15 = .ok (.return_, 1) := by decide +kernel
theorem d_K_keeps_0 : decode c_K_keeps 0 = .ok (.aload_n 1, 1) := by decide +kernel
theorem d_K_keeps_1 : decode c_K_keeps 1 = .ok (.iload_n 2, 1) := by decide +kernel
theorem d_K_keeps_2 : decode c_K_keeps 2 = .ok (.invokevirtual 21, 3) := by decide +kernel
theorem d_K_keeps_5 : decode c_K_keeps 5 = .ok (.ifCond .ne 5, 3) := by decide +kernel
theorem d_K_keeps_8 : decode c_K_keeps 8 = .ok (.iconst 0, 1) := by decide +kernel
theorem d_K_keeps_9 : decode c_K_keeps 9 = .ok (.ireturn, 1) := by decide +kernel
theorem d_K_keeps_10 : decode c_K_keeps 10 = .ok (.aload_n 0, 1) := by decide +kernel
theorem d_K_keeps_11 : decode c_K_keeps 11 = .ok (.getfield 9, 3) := by decide +kernel
theorem d_K_keeps_14 : decode c_K_keeps 14 = .ok (.tableswitch 98 0 3 #[30, 40, 58, 76], 30) := by decide +kernel
theorem d_K_keeps_44 : decode c_K_keeps 44 = .ok (.iload_n 2, 1) := by decide +kernel
theorem d_K_keeps_45 : decode c_K_keeps 45 = .ok (.aload_n 0, 1) := by decide +kernel
theorem d_K_keeps_46 : decode c_K_keeps 46 = .ok (.getfield 15, 3) := by decide +kernel
theorem d_K_keeps_49 : decode c_K_keeps 49 = .ok (.iconst 0, 1) := by decide +kernel
theorem d_K_keeps_50 : decode c_K_keeps 50 = .ok (.invokestatic 27, 3) := by decide +kernel
theorem d_K_keeps_53 : decode c_K_keeps 53 = .ok (.ireturn, 1) := by decide +kernel
theorem d_K_keeps_54 : decode c_K_keeps 54 = .ok (.aload_n 1, 1) := by decide +kernel
theorem d_K_keeps_55 : decode c_K_keeps 55 = .ok (.iload_n 2, 1) := by decide +kernel
theorem d_K_keeps_56 : decode c_K_keeps 56 = .ok (.invokevirtual 31, 3) := by decide +kernel
theorem d_K_keeps_59 : decode c_K_keeps 59 = .ok (.aload_n 0, 1) := by decide +kernel
theorem d_K_keeps_60 : decode c_K_keeps 60 = .ok (.getfield 15, 3) := by decide +kernel
theorem d_K_keeps_63 : decode c_K_keeps 63 = .ok (.if_icmp .ge 7, 3) := by decide +kernel
theorem d_K_keeps_66 : decode c_K_keeps 66 = .ok (.iconst 1, 1) := by decide +kernel
theorem d_K_keeps_67 : decode c_K_keeps 67 = .ok (.goto 4, 3) := by decide +kernel
theorem d_K_keeps_70 : decode c_K_keeps 70 = .ok (.iconst 0, 1) := by decide +kernel
theorem d_K_keeps_71 : decode c_K_keeps 71 = .ok (.ireturn, 1) := by decide +kernel
theorem d_K_keeps_72 : decode c_K_keeps 72 = .ok (.aload_n 1, 1) := by decide +kernel
theorem d_K_keeps_73 : decode c_K_keeps 73 = .ok (.getfield 35, 3) := by decide +kernel
theorem d_K_keeps_76 : decode c_K_keeps 76 = .ok (.iload_n 2, 1) := by decide +kernel
theorem d_K_keeps_77 : decode c_K_keeps 77 = .ok (.iaload, 1) := by decide +kernel
theorem d_K_keeps_78 : decode c_K_keeps 78 = .ok (.aload_n 0, 1) := by decide +kernel
theorem d_K_keeps_79 : decode c_K_keeps 79 = .ok (.getfield 15, 3) := by decide +kernel
theorem d_K_keeps_82 : decode c_K_keeps 82 = .ok (.aload_n 0, 1) := by decide +kernel
theorem d_K_keeps_83 : decode c_K_keeps 83 = .ok (.getfield 18, 3) := by decide +kernel
theorem d_K_keeps_86 : decode c_K_keeps 86 = .ok (.invokestatic 27, 3) := by decide +kernel
theorem d_K_keeps_89 : decode c_K_keeps 89 = .ok (.ireturn, 1) := by decide +kernel
theorem d_K_keeps_90 : decode c_K_keeps 90 = .ok (.aload_n 1, 1) := by decide +kernel
theorem d_K_keeps_91 : decode c_K_keeps 91 = .ok (.getfield 39, 3) := by decide +kernel
theorem d_K_keeps_94 : decode c_K_keeps 94 = .ok (.iload_n 2, 1) := by decide +kernel
theorem d_K_keeps_95 : decode c_K_keeps 95 = .ok (.iaload, 1) := by decide +kernel
theorem d_K_keeps_96 : decode c_K_keeps 96 = .ok (.invokestatic 42, 3) := by decide +kernel
theorem d_K_keeps_99 : decode c_K_keeps 99 = .ok (.aload_n 0, 1) := by decide +kernel
theorem d_K_keeps_100 : decode c_K_keeps 100 = .ok (.getfield 15, 3) := by decide +kernel
theorem d_K_keeps_103 : decode c_K_keeps 103 = .ok (.if_icmp .lt 7, 3) := by decide +kernel
theorem d_K_keeps_106 : decode c_K_keeps 106 = .ok (.iconst 1, 1) := by decide +kernel
theorem d_K_keeps_107 : decode c_K_keeps 107 = .ok (.goto 4, 3) := by decide +kernel
theorem d_K_keeps_110 : decode c_K_keeps 110 = .ok (.iconst 0, 1) := by decide +kernel
theorem d_K_keeps_111 : decode c_K_keeps 111 = .ok (.ireturn, 1) := by decide +kernel
theorem d_K_keeps_112 : decode c_K_keeps 112 = .ok (.iconst 0, 1) := by decide +kernel
theorem d_K_keeps_113 : decode c_K_keeps 113 = .ok (.ireturn, 1) := by decide +kernel
theorem d_S_init_0 : decode c_S_init 0 = .ok (.aload_n 0, 1) := by decide +kernel
theorem d_S_init_1 : decode c_S_init 1 = .ok (.invokespecial 3, 3) := by decide +kernel
theorem d_S_init_4 : decode c_S_init 4 = .ok (.aload_n 0, 1) := by decide +kernel
theorem d_S_init_5 : decode c_S_init 5 = .ok (.bipush 40, 2) := by decide +kernel
theorem d_S_init_7 : decode c_S_init 7 = .ok (.newarray .int, 2) := by decide +kernel
theorem d_S_init_9 : decode c_S_init 9 = .ok (.putfield 9, 3) := by decide +kernel
theorem d_S_init_12 : decode c_S_init 12 = .ok (.aload_n 0, 1) := by decide +kernel
theorem d_S_init_13 : decode c_S_init 13 = .ok (.iconst 1, 1) := by decide +kernel
theorem d_S_init_14 : decode c_S_init 14 = .ok (.putfield 15, 3) := by decide +kernel
theorem d_S_init_17 : decode c_S_init 17 = .ok (.return_, 1) := by decide +kernel
theorem d_S_renew_0 : decode c_S_renew 0 = .ok (.aload_n 0, 1) := by decide +kernel
theorem d_S_renew_1 : decode c_S_renew 1 = .ok (.getfield 9, 3) := by decide +kernel
theorem d_S_renew_4 : decode c_S_renew 4 = .ok (.iconst 0, 1) := by decide +kernel
theorem d_S_renew_5 : decode c_S_renew 5 = .ok (.invokestatic 19, 3) := by decide +kernel
theorem d_S_renew_8 : decode c_S_renew 8 = .ok (.aload_n 0, 1) := by decide +kernel
theorem d_S_renew_9 : decode c_S_renew 9 = .ok (.iload_n 1, 1) := by decide +kernel
theorem d_S_renew_10 : decode c_S_renew 10 = .ok (.putfield 25, 3) := by decide +kernel
theorem d_S_renew_13 : decode c_S_renew 13 = .ok (.aload_n 0, 1) := by decide +kernel
theorem d_S_renew_14 : decode c_S_renew 14 = .ok (.iload_n 2, 1) := by decide +kernel
theorem d_S_renew_15 : decode c_S_renew 15 = .ok (.putfield 29, 3) := by decide +kernel
theorem d_S_renew_18 : decode c_S_renew 18 = .ok (.aload_n 0, 1) := by decide +kernel
theorem d_S_renew_19 : decode c_S_renew 19 = .ok (.iconst 0, 1) := by decide +kernel
theorem d_S_renew_20 : decode c_S_renew 20 = .ok (.putfield 15, 3) := by decide +kernel
theorem d_S_renew_23 : decode c_S_renew 23 = .ok (.return_, 1) := by decide +kernel
theorem d_S_faultOf_0 : decode c_S_faultOf 0 = .ok (.aload_n 0, 1) := by decide +kernel
theorem d_S_faultOf_1 : decode c_S_faultOf 1 = .ok (.getfield 15, 3) := by decide +kernel
theorem d_S_faultOf_4 : decode c_S_faultOf 4 = .ok (.ifCond .eq 5, 3) := by decide +kernel
theorem d_S_faultOf_7 : decode c_S_faultOf 7 = .ok (.iconst 1, 1) := by decide +kernel
theorem d_S_faultOf_8 : decode c_S_faultOf 8 = .ok (.ireturn, 1) := by decide +kernel
theorem d_S_faultOf_9 : decode c_S_faultOf 9 = .ok (.aload_n 0, 1) := by decide +kernel
theorem d_S_faultOf_10 : decode c_S_faultOf 10 = .ok (.getfield 25, 3) := by decide +kernel
theorem d_S_faultOf_13 : decode c_S_faultOf 13 = .ok (.iload_n 1, 1) := by decide +kernel
theorem d_S_faultOf_14 : decode c_S_faultOf 14 = .ok (.if_icmp .eq 5, 3) := by decide +kernel
theorem d_S_faultOf_17 : decode c_S_faultOf 17 = .ok (.iconst 3, 1) := by decide +kernel
theorem d_S_faultOf_18 : decode c_S_faultOf 18 = .ok (.ireturn, 1) := by decide +kernel
theorem d_S_faultOf_19 : decode c_S_faultOf 19 = .ok (.iload_n 2, 1) := by decide +kernel
theorem d_S_faultOf_20 : decode c_S_faultOf 20 = .ok (.ifCond .lt 11, 3) := by decide +kernel
theorem d_S_faultOf_23 : decode c_S_faultOf 23 = .ok (.iload_n 2, 1) := by decide +kernel
theorem d_S_faultOf_24 : decode c_S_faultOf 24 = .ok (.aload_n 0, 1) := by decide +kernel
theorem d_S_faultOf_25 : decode c_S_faultOf 25 = .ok (.getfield 29, 3) := by decide +kernel
theorem d_S_faultOf_28 : decode c_S_faultOf 28 = .ok (.if_icmp .lt 7, 3) := by decide +kernel
theorem d_S_faultOf_31 : decode c_S_faultOf 31 = .ok (.iconst 2, 1) := by decide +kernel
theorem d_S_faultOf_32 : decode c_S_faultOf 32 = .ok (.goto 4, 3) := by decide +kernel
theorem d_S_faultOf_35 : decode c_S_faultOf 35 = .ok (.iconst 0, 1) := by decide +kernel
theorem d_S_faultOf_36 : decode c_S_faultOf 36 = .ok (.ireturn, 1) := by decide +kernel
theorem d_S_hasStretch_0 : decode c_S_hasStretch 0 = .ok (.iload_n 1, 1) := by decide +kernel
theorem d_S_hasStretch_1 : decode c_S_hasStretch 1 = .ok (.ifCond .lt 29, 3) := by decide +kernel
theorem d_S_hasStretch_4 : decode c_S_hasStretch 4 = .ok (.iload_n 2, 1) := by decide +kernel
theorem d_S_hasStretch_5 : decode c_S_hasStretch 5 = .ok (.ifCond .lt 25, 3) := by decide +kernel
theorem d_S_hasStretch_8 : decode c_S_hasStretch 8 = .ok (.iload_n 1, 1) := by decide +kernel
theorem d_S_hasStretch_9 : decode c_S_hasStretch 9 = .ok (.aload_n 0, 1) := by decide +kernel
theorem d_S_hasStretch_10 : decode c_S_hasStretch 10 = .ok (.getfield 29, 3) := by decide +kernel
theorem d_S_hasStretch_13 : decode c_S_hasStretch 13 = .ok (.if_icmp .gt 17, 3) := by decide +kernel
theorem d_S_hasStretch_16 : decode c_S_hasStretch 16 = .ok (.iload_n 2, 1) := by decide +kernel
theorem d_S_hasStretch_17 : decode c_S_hasStretch 17 = .ok (.aload_n 0, 1) := by decide +kernel
theorem d_S_hasStretch_18 : decode c_S_hasStretch 18 = .ok (.getfield 29, 3) := by decide +kernel
theorem d_S_hasStretch_21 : decode c_S_hasStretch 21 = .ok (.iload_n 1, 1) := by decide +kernel
theorem d_S_hasStretch_22 : decode c_S_hasStretch 22 = .ok (.isub, 1) := by decide +kernel
theorem d_S_hasStretch_23 : decode c_S_hasStretch 23 = .ok (.if_icmp .gt 7, 3) := by decide +kernel
theorem d_S_hasStretch_26 : decode c_S_hasStretch 26 = .ok (.iconst 1, 1) := by decide +kernel
theorem d_S_hasStretch_27 : decode c_S_hasStretch 27 = .ok (.goto 4, 3) := by decide +kernel
theorem d_S_hasStretch_30 : decode c_S_hasStretch 30 = .ok (.iconst 0, 1) := by decide +kernel
theorem d_S_hasStretch_31 : decode c_S_hasStretch 31 = .ok (.ireturn, 1) := by decide +kernel
theorem d_S_store_0 : decode c_S_store 0 = .ok (.iload_n 1, 1) := by decide +kernel
theorem d_S_store_1 : decode c_S_store 1 = .ok (.ifCond .lt 22, 3) := by decide +kernel
theorem d_S_store_4 : decode c_S_store 4 = .ok (.iload_n 1, 1) := by decide +kernel
theorem d_S_store_5 : decode c_S_store 5 = .ok (.aload_n 0, 1) := by decide +kernel
theorem d_S_store_6 : decode c_S_store 6 = .ok (.getfield 29, 3) := by decide +kernel
theorem d_S_store_9 : decode c_S_store 9 = .ok (.if_icmp .ge 14, 3) := by decide +kernel
theorem d_S_store_12 : decode c_S_store 12 = .ok (.aload_n 0, 1) := by decide +kernel
theorem d_S_store_13 : decode c_S_store 13 = .ok (.getfield 9, 3) := by decide +kernel
theorem d_S_store_16 : decode c_S_store 16 = .ok (.iload_n 1, 1) := by decide +kernel
theorem d_S_store_17 : decode c_S_store 17 = .ok (.aload_n 0, 1) := by decide +kernel
theorem d_S_store_18 : decode c_S_store 18 = .ok (.iload_n 2, 1) := by decide +kernel
theorem d_S_store_19 : decode c_S_store 19 = .ok (.invokevirtual 32, 3) := by decide +kernel
theorem d_S_store_22 : decode c_S_store 22 = .ok (.iastore, 1) := by decide +kernel
theorem d_S_store_23 : decode c_S_store 23 = .ok (.return_, 1) := by decide +kernel
theorem d_S_cut_0 : decode c_S_cut 0 = .ok (.aload_n 0, 1) := by decide +kernel
theorem d_S_cut_1 : decode c_S_cut 1 = .ok (.getfield 25, 3) := by decide +kernel
theorem d_S_cut_4 : decode c_S_cut 4 = .ok (.lookupswitch 34 #[(0, 28), (1, 31)], 28) := by decide +kernel
theorem d_S_cut_32 : decode c_S_cut 32 = .ok (.iload_n 1, 1) := by decide +kernel
theorem d_S_cut_33 : decode c_S_cut 33 = .ok (.i2b, 1) := by decide +kernel
theorem d_S_cut_34 : decode c_S_cut 34 = .ok (.ireturn, 1) := by decide +kernel
theorem d_S_cut_35 : decode c_S_cut 35 = .ok (.iload_n 1, 1) := by decide +kernel
theorem d_S_cut_36 : decode c_S_cut 36 = .ok (.i2s, 1) := by decide +kernel
theorem d_S_cut_37 : decode c_S_cut 37 = .ok (.ireturn, 1) := by decide +kernel
theorem d_S_cut_38 : decode c_S_cut 38 = .ok (.iload_n 1, 1) := by decide +kernel
theorem d_S_cut_39 : decode c_S_cut 39 = .ok (.ireturn, 1) := by decide +kernel
theorem d_T_init_0 : decode c_T_init 0 = .ok (.aload_n 0, 1) := by decide +kernel
theorem d_T_init_1 : decode c_T_init 1 = .ok (.invokespecial 3, 3) := by decide +kernel
theorem d_T_init_4 : decode c_T_init 4 = .ok (.aload_n 0, 1) := by decide +kernel
theorem d_T_init_5 : decode c_T_init 5 = .ok (.bipush 8, 2) := by decide +kernel
theorem d_T_init_7 : decode c_T_init 7 = .ok (.anewarray 9, 3) := by decide +kernel
theorem d_T_init_10 : decode c_T_init 10 = .ok (.putfield 11, 3) := by decide +kernel
theorem d_T_init_13 : decode c_T_init 13 = .ok (.aload_n 0, 1) := by decide +kernel
theorem d_T_init_14 : decode c_T_init 14 = .ok (.iconst 4, 1) := by decide +kernel
theorem d_T_init_15 : decode c_T_init 15 = .ok (.anewarray 17, 3) := by decide +kernel
theorem d_T_init_18 : decode c_T_init 18 = .ok (.putfield 19, 3) := by decide +kernel
theorem d_T_init_21 : decode c_T_init 21 = .ok (.iconst 0, 1) := by decide +kernel
theorem d_T_init_22 : decode c_T_init 22 = .ok (.istore_n 1, 1) := by decide +kernel
theorem d_T_init_23 : decode c_T_init 23 = .ok (.iload_n 1, 1) := by decide +kernel
theorem d_T_init_24 : decode c_T_init 24 = .ok (.bipush 8, 2) := by decide +kernel
theorem d_T_init_26 : decode c_T_init 26 = .ok (.if_icmp .ge 22, 3) := by decide +kernel
theorem d_T_init_29 : decode c_T_init 29 = .ok (.aload_n 0, 1) := by decide +kernel
theorem d_T_init_30 : decode c_T_init 30 = .ok (.getfield 11, 3) := by decide +kernel
theorem d_T_init_33 : decode c_T_init 33 = .ok (.iload_n 1, 1) := by decide +kernel
theorem d_T_init_34 : decode c_T_init 34 = .ok (.new 9, 3) := by decide +kernel
theorem d_T_init_37 : decode c_T_init 37 = .ok (.dup, 1) := by decide +kernel
theorem d_T_init_38 : decode c_T_init 38 = .ok (.invokespecial 23, 3) := by decide +kernel
theorem d_T_init_41 : decode c_T_init 41 = .ok (.aastore, 1) := by decide +kernel
theorem d_T_init_42 : decode c_T_init 42 = .ok (.iinc 1 1, 3) := by decide +kernel
theorem d_T_init_45 : decode c_T_init 45 = .ok (.goto (-22), 3) := by decide +kernel
theorem d_T_init_48 : decode c_T_init 48 = .ok (.iconst 0, 1) := by decide +kernel
theorem d_T_init_49 : decode c_T_init 49 = .ok (.istore_n 1, 1) := by decide +kernel
theorem d_T_init_50 : decode c_T_init 50 = .ok (.iload_n 1, 1) := by decide +kernel
theorem d_T_init_51 : decode c_T_init 51 = .ok (.iconst 4, 1) := by decide +kernel
theorem d_T_init_52 : decode c_T_init 52 = .ok (.if_icmp .ge 22, 3) := by decide +kernel
theorem d_T_init_55 : decode c_T_init 55 = .ok (.aload_n 0, 1) := by decide +kernel
theorem d_T_init_56 : decode c_T_init 56 = .ok (.getfield 19, 3) := by decide +kernel
theorem d_T_init_59 : decode c_T_init 59 = .ok (.iload_n 1, 1) := by decide +kernel
theorem d_T_init_60 : decode c_T_init 60 = .ok (.new 17, 3) := by decide +kernel
theorem d_T_init_63 : decode c_T_init 63 = .ok (.dup, 1) := by decide +kernel
theorem d_T_init_64 : decode c_T_init 64 = .ok (.invokespecial 24, 3) := by decide +kernel
theorem d_T_init_67 : decode c_T_init 67 = .ok (.aastore, 1) := by decide +kernel
theorem d_T_init_68 : decode c_T_init 68 = .ok (.iinc 1 1, 3) := by decide +kernel
theorem d_T_init_71 : decode c_T_init 71 = .ok (.goto (-21), 3) := by decide +kernel
theorem d_T_init_74 : decode c_T_init 74 = .ok (.return_, 1) := by decide +kernel
theorem d_T_addKeeper_0 : decode c_T_addKeeper 0 = .ok (.aload_n 0, 1) := by decide +kernel
theorem d_T_addKeeper_1 : decode c_T_addKeeper 1 = .ok (.getfield 25, 3) := by decide +kernel
theorem d_T_addKeeper_4 : decode c_T_addKeeper 4 = .ok (.ifCond .lt 36, 3) := by decide +kernel
theorem d_T_addKeeper_7 : decode c_T_addKeeper 7 = .ok (.aload_n 0, 1) := by decide +kernel
theorem d_T_addKeeper_8 : decode c_T_addKeeper 8 = .ok (.getfield 25, 3) := by decide +kernel
theorem d_T_addKeeper_11 : decode c_T_addKeeper 11 = .ok (.iconst 4, 1) := by decide +kernel
theorem d_T_addKeeper_12 : decode c_T_addKeeper 12 = .ok (.if_icmp .ge 28, 3) := by decide +kernel
theorem d_T_addKeeper_15 : decode c_T_addKeeper 15 = .ok (.aload_n 0, 1) := by decide +kernel
theorem d_T_addKeeper_16 : decode c_T_addKeeper 16 = .ok (.getfield 19, 3) := by decide +kernel
theorem d_T_addKeeper_19 : decode c_T_addKeeper 19 = .ok (.aload_n 0, 1) := by decide +kernel
theorem d_T_addKeeper_20 : decode c_T_addKeeper 20 = .ok (.getfield 25, 3) := by decide +kernel
theorem d_T_addKeeper_23 : decode c_T_addKeeper 23 = .ok (.aaload, 1) := by decide +kernel
theorem d_T_addKeeper_24 : decode c_T_addKeeper 24 = .ok (.iload_n 1, 1) := by decide +kernel
theorem d_T_addKeeper_25 : decode c_T_addKeeper 25 = .ok (.iload_n 2, 1) := by decide +kernel
theorem d_T_addKeeper_26 : decode c_T_addKeeper 26 = .ok (.iload_n 3, 1) := by decide +kernel
theorem d_T_addKeeper_27 : decode c_T_addKeeper 27 = .ok (.invokevirtual 29, 3) := by decide +kernel
theorem d_T_addKeeper_30 : decode c_T_addKeeper 30 = .ok (.aload_n 0, 1) := by decide +kernel
theorem d_T_addKeeper_31 : decode c_T_addKeeper 31 = .ok (.dup, 1) := by decide +kernel
theorem d_T_addKeeper_32 : decode c_T_addKeeper 32 = .ok (.getfield 25, 3) := by decide +kernel
theorem d_T_addKeeper_35 : decode c_T_addKeeper 35 = .ok (.iconst 1, 1) := by decide +kernel
theorem d_T_addKeeper_36 : decode c_T_addKeeper 36 = .ok (.iadd, 1) := by decide +kernel
theorem d_T_addKeeper_37 : decode c_T_addKeeper 37 = .ok (.putfield 25, 3) := by decide +kernel
theorem d_T_addKeeper_40 : decode c_T_addKeeper 40 = .ok (.return_, 1) := by decide +kernel
theorem d_T_close_0 : decode c_T_close 0 = .ok (.aload_n 0, 1) := by decide +kernel
theorem d_T_close_1 : decode c_T_close 1 = .ok (.invokevirtual 33, 3) := by decide +kernel
theorem d_T_close_4 : decode c_T_close 4 = .ok (.istore_n 1, 1) := by decide +kernel
theorem d_T_close_5 : decode c_T_close 5 = .ok (.iconst 0, 1) := by decide +kernel
theorem d_T_close_6 : decode c_T_close 6 = .ok (.istore_n 2, 1) := by decide +kernel
theorem d_T_close_7 : decode c_T_close 7 = .ok (.iload_n 2, 1) := by decide +kernel
theorem d_T_close_8 : decode c_T_close 8 = .ok (.bipush 8, 2) := by decide +kernel
theorem d_T_close_10 : decode c_T_close 10 = .ok (.if_icmp .ge 29, 3) := by decide +kernel
theorem d_T_close_13 : decode c_T_close 13 = .ok (.aload_n 0, 1) := by decide +kernel
theorem d_T_close_14 : decode c_T_close 14 = .ok (.aload_n 0, 1) := by decide +kernel
theorem d_T_close_15 : decode c_T_close 15 = .ok (.getfield 11, 3) := by decide +kernel
theorem d_T_close_18 : decode c_T_close 18 = .ok (.iload_n 2, 1) := by decide +kernel
theorem d_T_close_19 : decode c_T_close 19 = .ok (.aaload, 1) := by decide +kernel
theorem d_T_close_20 : decode c_T_close 20 = .ok (.invokevirtual 37, 3) := by decide +kernel
theorem d_T_close_23 : decode c_T_close 23 = .ok (.aload_n 0, 1) := by decide +kernel
theorem d_T_close_24 : decode c_T_close 24 = .ok (.getfield 11, 3) := by decide +kernel
theorem d_T_close_27 : decode c_T_close 27 = .ok (.iload_n 2, 1) := by decide +kernel
theorem d_T_close_28 : decode c_T_close 28 = .ok (.aaload, 1) := by decide +kernel
theorem d_T_close_29 : decode c_T_close 29 = .ok (.iload_n 1, 1) := by decide +kernel
theorem d_T_close_30 : decode c_T_close 30 = .ok (.invokevirtual 41, 3) := by decide +kernel
theorem d_T_close_33 : decode c_T_close 33 = .ok (.iinc 2 1, 3) := by decide +kernel
theorem d_T_close_36 : decode c_T_close 36 = .ok (.goto (-29), 3) := by decide +kernel
theorem d_T_close_39 : decode c_T_close 39 = .ok (.aload_n 0, 1) := by decide +kernel
theorem d_T_close_40 : decode c_T_close 40 = .ok (.iconst 1, 1) := by decide +kernel
theorem d_T_close_41 : decode c_T_close 41 = .ok (.putfield 45, 3) := by decide +kernel
theorem d_T_close_44 : decode c_T_close 44 = .ok (.return_, 1) := by decide +kernel
theorem d_T_empty_0 : decode c_T_empty 0 = .ok (.iconst 0, 1) := by decide +kernel
theorem d_T_empty_1 : decode c_T_empty 1 = .ok (.istore_n 1, 1) := by decide +kernel
theorem d_T_empty_2 : decode c_T_empty 2 = .ok (.iload_n 1, 1) := by decide +kernel
theorem d_T_empty_3 : decode c_T_empty 3 = .ok (.bipush 8, 2) := by decide +kernel
theorem d_T_empty_5 : decode c_T_empty 5 = .ok (.if_icmp .ge 18, 3) := by decide +kernel
theorem d_T_empty_8 : decode c_T_empty 8 = .ok (.aload_n 0, 1) := by decide +kernel
theorem d_T_empty_9 : decode c_T_empty 9 = .ok (.getfield 11, 3) := by decide +kernel
theorem d_T_empty_12 : decode c_T_empty 12 = .ok (.iload_n 1, 1) := by decide +kernel
theorem d_T_empty_13 : decode c_T_empty 13 = .ok (.aaload, 1) := by decide +kernel
theorem d_T_empty_14 : decode c_T_empty 14 = .ok (.invokevirtual 49, 3) := by decide +kernel
theorem d_T_empty_17 : decode c_T_empty 17 = .ok (.iinc 1 1, 3) := by decide +kernel
theorem d_T_empty_20 : decode c_T_empty 20 = .ok (.goto (-18), 3) := by decide +kernel
theorem d_T_empty_23 : decode c_T_empty 23 = .ok (.aload_n 0, 1) := by decide +kernel
theorem d_T_empty_24 : decode c_T_empty 24 = .ok (.iconst 0, 1) := by decide +kernel
theorem d_T_empty_25 : decode c_T_empty 25 = .ok (.putfield 25, 3) := by decide +kernel
theorem d_T_empty_28 : decode c_T_empty 28 = .ok (.aload_n 0, 1) := by decide +kernel
theorem d_T_empty_29 : decode c_T_empty 29 = .ok (.iconst 0, 1) := by decide +kernel
theorem d_T_empty_30 : decode c_T_empty 30 = .ok (.putfield 45, 3) := by decide +kernel
theorem d_T_empty_33 : decode c_T_empty 33 = .ok (.return_, 1) := by decide +kernel
theorem d_T_rows_0 : decode c_T_rows 0 = .ok (.iconst 0, 1) := by decide +kernel
theorem d_T_rows_1 : decode c_T_rows 1 = .ok (.istore_n 1, 1) := by decide +kernel
theorem d_T_rows_2 : decode c_T_rows 2 = .ok (.iconst 0, 1) := by decide +kernel
theorem d_T_rows_3 : decode c_T_rows 3 = .ok (.istore_n 2, 1) := by decide +kernel
theorem d_T_rows_4 : decode c_T_rows 4 = .ok (.iload_n 2, 1) := by decide +kernel
theorem d_T_rows_5 : decode c_T_rows 5 = .ok (.bipush 8, 2) := by decide +kernel
theorem d_T_rows_7 : decode c_T_rows 7 = .ok (.if_icmp .ge 21, 3) := by decide +kernel
theorem d_T_rows_10 : decode c_T_rows 10 = .ok (.iload_n 1, 1) := by decide +kernel
theorem d_T_rows_11 : decode c_T_rows 11 = .ok (.aload_n 0, 1) := by decide +kernel
theorem d_T_rows_12 : decode c_T_rows 12 = .ok (.getfield 11, 3) := by decide +kernel
theorem d_T_rows_15 : decode c_T_rows 15 = .ok (.iload_n 2, 1) := by decide +kernel
theorem d_T_rows_16 : decode c_T_rows 16 = .ok (.aaload, 1) := by decide +kernel
theorem d_T_rows_17 : decode c_T_rows 17 = .ok (.getfield 52, 3) := by decide +kernel
theorem d_T_rows_20 : decode c_T_rows 20 = .ok (.iadd, 1) := by decide +kernel
theorem d_T_rows_21 : decode c_T_rows 21 = .ok (.istore_n 1, 1) := by decide +kernel
theorem d_T_rows_22 : decode c_T_rows 22 = .ok (.iinc 2 1, 3) := by decide +kernel
theorem d_T_rows_25 : decode c_T_rows 25 = .ok (.goto (-21), 3) := by decide +kernel
theorem d_T_rows_28 : decode c_T_rows 28 = .ok (.iload_n 1, 1) := by decide +kernel
theorem d_T_rows_29 : decode c_T_rows 29 = .ok (.ireturn, 1) := by decide +kernel
theorem d_T_knownRows_0 : decode c_T_knownRows 0 = .ok (.iconst 0, 1) := by decide +kernel
theorem d_T_knownRows_1 : decode c_T_knownRows 1 = .ok (.istore_n 1, 1) := by decide +kernel
theorem d_T_knownRows_2 : decode c_T_knownRows 2 = .ok (.iconst 0, 1) := by decide +kernel
theorem d_T_knownRows_3 : decode c_T_knownRows 3 = .ok (.istore_n 2, 1) := by decide +kernel
theorem d_T_knownRows_4 : decode c_T_knownRows 4 = .ok (.iload_n 2, 1) := by decide +kernel
theorem d_T_knownRows_5 : decode c_T_knownRows 5 = .ok (.bipush 8, 2) := by decide +kernel
theorem d_T_knownRows_7 : decode c_T_knownRows 7 = .ok (.if_icmp .ge 21, 3) := by decide +kernel
theorem d_T_knownRows_10 : decode c_T_knownRows 10 = .ok (.iload_n 1, 1) := by decide +kernel
theorem d_T_knownRows_11 : decode c_T_knownRows 11 = .ok (.aload_n 0, 1) := by decide +kernel
theorem d_T_knownRows_12 : decode c_T_knownRows 12 = .ok (.getfield 11, 3) := by decide +kernel
theorem d_T_knownRows_15 : decode c_T_knownRows 15 = .ok (.iload_n 2, 1) := by decide +kernel
theorem d_T_knownRows_16 : decode c_T_knownRows 16 = .ok (.aaload, 1) := by decide +kernel
theorem d_T_knownRows_17 : decode c_T_knownRows 17 = .ok (.getfield 55, 3) := by decide +kernel
theorem d_T_knownRows_20 : decode c_T_knownRows 20 = .ok (.iadd, 1) := by decide +kernel
theorem d_T_knownRows_21 : decode c_T_knownRows 21 = .ok (.istore_n 1, 1) := by decide +kernel
theorem d_T_knownRows_22 : decode c_T_knownRows 22 = .ok (.iinc 2 1, 3) := by decide +kernel
theorem d_T_knownRows_25 : decode c_T_knownRows 25 = .ok (.goto (-21), 3) := by decide +kernel
theorem d_T_knownRows_28 : decode c_T_knownRows 28 = .ok (.iload_n 1, 1) := by decide +kernel
theorem d_T_knownRows_29 : decode c_T_knownRows 29 = .ok (.ireturn, 1) := by decide +kernel
theorem d_T_hasKeyed_0 : decode c_T_hasKeyed 0 = .ok (.iconst 0, 1) := by decide +kernel
theorem d_T_hasKeyed_1 : decode c_T_hasKeyed 1 = .ok (.istore_n 3, 1) := by decide +kernel
theorem d_T_hasKeyed_2 : decode c_T_hasKeyed 2 = .ok (.iload_n 3, 1) := by decide +kernel
theorem d_T_hasKeyed_3 : decode c_T_hasKeyed 3 = .ok (.aload_n 0, 1) := by decide +kernel
theorem d_T_hasKeyed_4 : decode c_T_hasKeyed 4 = .ok (.getfield 25, 3) := by decide +kernel
theorem d_T_hasKeyed_7 : decode c_T_hasKeyed 7 = .ok (.if_icmp .ge 46, 3) := by decide +kernel
theorem d_T_hasKeyed_10 : decode c_T_hasKeyed 10 = .ok (.aload_n 0, 1) := by decide +kernel
theorem d_T_hasKeyed_11 : decode c_T_hasKeyed 11 = .ok (.getfield 19, 3) := by decide +kernel
theorem d_T_hasKeyed_14 : decode c_T_hasKeyed 14 = .ok (.iload_n 3, 1) := by decide +kernel
theorem d_T_hasKeyed_15 : decode c_T_hasKeyed 15 = .ok (.aaload, 1) := by decide +kernel
theorem d_T_hasKeyed_16 : decode c_T_hasKeyed 16 = .ok (.astore 4, 2) := by decide +kernel
theorem d_T_hasKeyed_18 : decode c_T_hasKeyed 18 = .ok (.aload 4, 2) := by decide +kernel
theorem d_T_hasKeyed_20 : decode c_T_hasKeyed 20 = .ok (.getfield 58, 3) := by decide +kernel
theorem d_T_hasKeyed_23 : decode c_T_hasKeyed 23 = .ok (.iconst 2, 1) := by decide +kernel
theorem d_T_hasKeyed_24 : decode c_T_hasKeyed 24 = .ok (.if_icmp .ne 23, 3) := by decide +kernel
theorem d_T_hasKeyed_27 : decode c_T_hasKeyed 27 = .ok (.aload 4, 2) := by decide +kernel
theorem d_T_hasKeyed_29 : decode c_T_hasKeyed 29 = .ok (.getfield 61, 3) := by decide +kernel
theorem d_T_hasKeyed_32 : decode c_T_hasKeyed 32 = .ok (.iload_n 1, 1) := by decide +kernel
theorem d_T_hasKeyed_33 : decode c_T_hasKeyed 33 = .ok (.if_icmp .ne 14, 3) := by decide +kernel
theorem d_T_hasKeyed_36 : decode c_T_hasKeyed 36 = .ok (.aload 4, 2) := by decide +kernel
theorem d_T_hasKeyed_38 : decode c_T_hasKeyed 38 = .ok (.getfield 64, 3) := by decide +kernel
theorem d_T_hasKeyed_41 : decode c_T_hasKeyed 41 = .ok (.iload_n 2, 1) := by decide +kernel
theorem d_T_hasKeyed_42 : decode c_T_hasKeyed 42 = .ok (.if_icmp .ne 5, 3) := by decide +kernel
theorem d_T_hasKeyed_45 : decode c_T_hasKeyed 45 = .ok (.iconst 1, 1) := by decide +kernel
theorem d_T_hasKeyed_46 : decode c_T_hasKeyed 46 = .ok (.ireturn, 1) := by decide +kernel
theorem d_T_hasKeyed_47 : decode c_T_hasKeyed 47 = .ok (.iinc 3 1, 3) := by decide +kernel
theorem d_T_hasKeyed_50 : decode c_T_hasKeyed 50 = .ok (.goto (-48), 3) := by decide +kernel
theorem d_T_hasKeyed_53 : decode c_T_hasKeyed 53 = .ok (.iconst 0, 1) := by decide +kernel
theorem d_T_hasKeyed_54 : decode c_T_hasKeyed 54 = .ok (.ireturn, 1) := by decide +kernel
theorem d_T_sumEnd_0 : decode c_T_sumEnd 0 = .ok (.lconst 0, 1) := by decide +kernel
theorem d_T_sumEnd_1 : decode c_T_sumEnd 1 = .ok (.lstore_n 3, 1) := by decide +kernel
theorem d_T_sumEnd_2 : decode c_T_sumEnd 2 = .ok (.iconst 0, 1) := by decide +kernel
theorem d_T_sumEnd_3 : decode c_T_sumEnd 3 = .ok (.istore 5, 2) := by decide +kernel
theorem d_T_sumEnd_5 : decode c_T_sumEnd 5 = .ok (.iload 5, 2) := by decide +kernel
theorem d_T_sumEnd_7 : decode c_T_sumEnd 7 = .ok (.bipush 8, 2) := by decide +kernel
theorem d_T_sumEnd_9 : decode c_T_sumEnd 9 = .ok (.if_icmp .ge 24, 3) := by decide +kernel
theorem d_T_sumEnd_12 : decode c_T_sumEnd 12 = .ok (.lload_n 3, 1) := by decide +kernel
theorem d_T_sumEnd_13 : decode c_T_sumEnd 13 = .ok (.aload_n 0, 1) := by decide +kernel
theorem d_T_sumEnd_14 : decode c_T_sumEnd 14 = .ok (.getfield 11, 3) := by decide +kernel
theorem d_T_sumEnd_17 : decode c_T_sumEnd 17 = .ok (.iload 5, 2) := by decide +kernel
theorem d_T_sumEnd_19 : decode c_T_sumEnd 19 = .ok (.aaload, 1) := by decide +kernel
theorem d_T_sumEnd_20 : decode c_T_sumEnd 20 = .ok (.iload_n 1, 1) := by decide +kernel
theorem d_T_sumEnd_21 : decode c_T_sumEnd 21 = .ok (.iload_n 2, 1) := by decide +kernel
theorem d_T_sumEnd_22 : decode c_T_sumEnd 22 = .ok (.invokevirtual 67, 3) := by decide +kernel
theorem d_T_sumEnd_25 : decode c_T_sumEnd 25 = .ok (.ladd, 1) := by decide +kernel
theorem d_T_sumEnd_26 : decode c_T_sumEnd 26 = .ok (.lstore_n 3, 1) := by decide +kernel
theorem d_T_sumEnd_27 : decode c_T_sumEnd 27 = .ok (.iinc 5 1, 3) := by decide +kernel
theorem d_T_sumEnd_30 : decode c_T_sumEnd 30 = .ok (.goto (-25), 3) := by decide +kernel
theorem d_T_sumEnd_33 : decode c_T_sumEnd 33 = .ok (.lload_n 3, 1) := by decide +kernel
theorem d_T_sumEnd_34 : decode c_T_sumEnd 34 = .ok (.lreturn, 1) := by decide +kernel
theorem d_T_apart_0 : decode c_T_apart 0 = .ok (.aload_n 0, 1) := by decide +kernel
theorem d_T_apart_1 : decode c_T_apart 1 = .ok (.iload_n 1, 1) := by decide +kernel
theorem d_T_apart_2 : decode c_T_apart 2 = .ok (.iconst 1, 1) := by decide +kernel
theorem d_T_apart_3 : decode c_T_apart 3 = .ok (.invokevirtual 71, 3) := by decide +kernel
theorem d_T_apart_6 : decode c_T_apart 6 = .ok (.aload_n 0, 1) := by decide +kernel
theorem d_T_apart_7 : decode c_T_apart 7 = .ok (.iload_n 1, 1) := by decide +kernel
theorem d_T_apart_8 : decode c_T_apart 8 = .ok (.iconst 0, 1) := by decide +kernel
theorem d_T_apart_9 : decode c_T_apart 9 = .ok (.invokevirtual 71, 3) := by decide +kernel
theorem d_T_apart_12 : decode c_T_apart 12 = .ok (.lsub, 1) := by decide +kernel
theorem d_T_apart_13 : decode c_T_apart 13 = .ok (.lreturn, 1) := by decide +kernel
theorem d_T_countEnd_0 : decode c_T_countEnd 0 = .ok (.iconst 0, 1) := by decide +kernel
theorem d_T_countEnd_1 : decode c_T_countEnd 1 = .ok (.istore_n 3, 1) := by decide +kernel
theorem d_T_countEnd_2 : decode c_T_countEnd 2 = .ok (.iconst 0, 1) := by decide +kernel
theorem d_T_countEnd_3 : decode c_T_countEnd 3 = .ok (.istore 4, 2) := by decide +kernel
theorem d_T_countEnd_5 : decode c_T_countEnd 5 = .ok (.iload 4, 2) := by decide +kernel
theorem d_T_countEnd_7 : decode c_T_countEnd 7 = .ok (.bipush 8, 2) := by decide +kernel
theorem d_T_countEnd_9 : decode c_T_countEnd 9 = .ok (.if_icmp .ge 24, 3) := by decide +kernel
theorem d_T_countEnd_12 : decode c_T_countEnd 12 = .ok (.iload_n 3, 1) := by decide +kernel
theorem d_T_countEnd_13 : decode c_T_countEnd 13 = .ok (.aload_n 0, 1) := by decide +kernel
theorem d_T_countEnd_14 : decode c_T_countEnd 14 = .ok (.getfield 11, 3) := by decide +kernel
theorem d_T_countEnd_17 : decode c_T_countEnd 17 = .ok (.iload 4, 2) := by decide +kernel
theorem d_T_countEnd_19 : decode c_T_countEnd 19 = .ok (.aaload, 1) := by decide +kernel
theorem d_T_countEnd_20 : decode c_T_countEnd 20 = .ok (.iload_n 1, 1) := by decide +kernel
theorem d_T_countEnd_21 : decode c_T_countEnd 21 = .ok (.iload_n 2, 1) := by decide +kernel
theorem d_T_countEnd_22 : decode c_T_countEnd 22 = .ok (.invokevirtual 72, 3) := by decide +kernel
theorem d_T_countEnd_25 : decode c_T_countEnd 25 = .ok (.iadd, 1) := by decide +kernel
theorem d_T_countEnd_26 : decode c_T_countEnd 26 = .ok (.istore_n 3, 1) := by decide +kernel
theorem d_T_countEnd_27 : decode c_T_countEnd 27 = .ok (.iinc 4 1, 3) := by decide +kernel
theorem d_T_countEnd_30 : decode c_T_countEnd 30 = .ok (.goto (-25), 3) := by decide +kernel
theorem d_T_countEnd_33 : decode c_T_countEnd 33 = .ok (.iload_n 3, 1) := by decide +kernel
theorem d_T_countEnd_34 : decode c_T_countEnd 34 = .ok (.ireturn, 1) := by decide +kernel
theorem d_T_widestBlock_0 : decode c_T_widestBlock 0 = .ok (.iconst (-1), 1) := by decide +kernel
theorem d_T_widestBlock_1 : decode c_T_widestBlock 1 = .ok (.istore_n 2, 1) := by decide +kernel
theorem d_T_widestBlock_2 : decode c_T_widestBlock 2 = .ok (.lconst 0, 1) := by decide +kernel
theorem d_T_widestBlock_3 : decode c_T_widestBlock 3 = .ok (.lstore_n 3, 1) := by decide +kernel
theorem d_T_widestBlock_4 : decode c_T_widestBlock 4 = .ok (.iconst 0, 1) := by decide +kernel
theorem d_T_widestBlock_5 : decode c_T_widestBlock 5 = .ok (.istore 5, 2) := by decide +kernel
theorem d_T_widestBlock_7 : decode c_T_widestBlock 7 = .ok (.iload 5, 2) := by decide +kernel
theorem d_T_widestBlock_9 : decode c_T_widestBlock 9 = .ok (.bipush 8, 2) := by decide +kernel
theorem d_T_widestBlock_11 : decode c_T_widestBlock 11 = .ok (.if_icmp .ge 35, 3) := by decide +kernel
theorem d_T_widestBlock_14 : decode c_T_widestBlock 14 = .ok (.aload_n 0, 1) := by decide +kernel
theorem d_T_widestBlock_15 : decode c_T_widestBlock 15 = .ok (.getfield 11, 3) := by decide +kernel
theorem d_T_widestBlock_18 : decode c_T_widestBlock 18 = .ok (.iload 5, 2) := by decide +kernel
theorem d_T_widestBlock_20 : decode c_T_widestBlock 20 = .ok (.aaload, 1) := by decide +kernel
theorem d_T_widestBlock_21 : decode c_T_widestBlock 21 = .ok (.iload_n 1, 1) := by decide +kernel
theorem d_T_widestBlock_22 : decode c_T_widestBlock 22 = .ok (.invokevirtual 76, 3) := by decide +kernel
theorem d_T_widestBlock_25 : decode c_T_widestBlock 25 = .ok (.lstore 6, 2) := by decide +kernel
theorem d_T_widestBlock_27 : decode c_T_widestBlock 27 = .ok (.lload 6, 2) := by decide +kernel
theorem d_T_widestBlock_29 : decode c_T_widestBlock 29 = .ok (.lload_n 3, 1) := by decide +kernel
theorem d_T_widestBlock_30 : decode c_T_widestBlock 30 = .ok (.lcmp, 1) := by decide +kernel
theorem d_T_widestBlock_31 : decode c_T_widestBlock 31 = .ok (.ifCond .le 9, 3) := by decide +kernel
theorem d_T_widestBlock_34 : decode c_T_widestBlock 34 = .ok (.lload 6, 2) := by decide +kernel
theorem d_T_widestBlock_36 : decode c_T_widestBlock 36 = .ok (.lstore_n 3, 1) := by decide +kernel
theorem d_T_widestBlock_37 : decode c_T_widestBlock 37 = .ok (.iload 5, 2) := by decide +kernel
theorem d_T_widestBlock_39 : decode c_T_widestBlock 39 = .ok (.istore_n 2, 1) := by decide +kernel
theorem d_T_widestBlock_40 : decode c_T_widestBlock 40 = .ok (.iinc 5 1, 3) := by decide +kernel
theorem d_T_widestBlock_43 : decode c_T_widestBlock 43 = .ok (.goto (-36), 3) := by decide +kernel
theorem d_T_widestBlock_46 : decode c_T_widestBlock 46 = .ok (.iload_n 2, 1) := by decide +kernel
theorem d_T_widestBlock_47 : decode c_T_widestBlock 47 = .ok (.ireturn, 1) := by decide +kernel
theorem d_T_mixedInto_0 : decode c_T_mixedInto 0 = .ok (.lload_n 1, 1) := by decide +kernel
theorem d_T_mixedInto_1 : decode c_T_mixedInto 1 = .ok (.lstore_n 3, 1) := by decide +kernel
theorem d_T_mixedInto_2 : decode c_T_mixedInto 2 = .ok (.iconst 0, 1) := by decide +kernel
theorem d_T_mixedInto_3 : decode c_T_mixedInto 3 = .ok (.istore 5, 2) := by decide +kernel
theorem d_T_mixedInto_5 : decode c_T_mixedInto 5 = .ok (.iload 5, 2) := by decide +kernel
theorem d_T_mixedInto_7 : decode c_T_mixedInto 7 = .ok (.bipush 8, 2) := by decide +kernel
theorem d_T_mixedInto_9 : decode c_T_mixedInto 9 = .ok (.if_icmp .ge 21, 3) := by decide +kernel
theorem d_T_mixedInto_12 : decode c_T_mixedInto 12 = .ok (.aload_n 0, 1) := by decide +kernel
theorem d_T_mixedInto_13 : decode c_T_mixedInto 13 = .ok (.getfield 11, 3) := by decide +kernel
theorem d_T_mixedInto_16 : decode c_T_mixedInto 16 = .ok (.iload 5, 2) := by decide +kernel
theorem d_T_mixedInto_18 : decode c_T_mixedInto 18 = .ok (.aaload, 1) := by decide +kernel
theorem d_T_mixedInto_19 : decode c_T_mixedInto 19 = .ok (.lload_n 3, 1) := by decide +kernel
theorem d_T_mixedInto_20 : decode c_T_mixedInto 20 = .ok (.invokevirtual 80, 3) := by decide +kernel
theorem d_T_mixedInto_23 : decode c_T_mixedInto 23 = .ok (.lstore_n 3, 1) := by decide +kernel
theorem d_T_mixedInto_24 : decode c_T_mixedInto 24 = .ok (.iinc 5 1, 3) := by decide +kernel
theorem d_T_mixedInto_27 : decode c_T_mixedInto 27 = .ok (.goto (-22), 3) := by decide +kernel
theorem d_T_mixedInto_30 : decode c_T_mixedInto 30 = .ok (.lload_n 3, 1) := by decide +kernel
theorem d_T_mixedInto_31 : decode c_T_mixedInto 31 = .ok (.aload_n 0, 1) := by decide +kernel
theorem d_T_mixedInto_32 : decode c_T_mixedInto 32 = .ok (.iconst (-1), 1) := by decide +kernel
theorem d_T_mixedInto_33 : decode c_T_mixedInto 33 = .ok (.iconst 0, 1) := by decide +kernel
theorem d_T_mixedInto_34 : decode c_T_mixedInto 34 = .ok (.invokevirtual 71, 3) := by decide +kernel
theorem d_T_mixedInto_37 : decode c_T_mixedInto 37 = .ok (.invokestatic 84, 3) := by decide +kernel
theorem d_T_mixedInto_40 : decode c_T_mixedInto 40 = .ok (.lstore_n 3, 1) := by decide +kernel
theorem d_T_mixedInto_41 : decode c_T_mixedInto 41 = .ok (.lload_n 3, 1) := by decide +kernel
theorem d_T_mixedInto_42 : decode c_T_mixedInto 42 = .ok (.aload_n 0, 1) := by decide +kernel
theorem d_T_mixedInto_43 : decode c_T_mixedInto 43 = .ok (.iconst (-1), 1) := by decide +kernel
theorem d_T_mixedInto_44 : decode c_T_mixedInto 44 = .ok (.iconst 1, 1) := by decide +kernel
theorem d_T_mixedInto_45 : decode c_T_mixedInto 45 = .ok (.invokevirtual 71, 3) := by decide +kernel
theorem d_T_mixedInto_48 : decode c_T_mixedInto 48 = .ok (.invokestatic 84, 3) := by decide +kernel
theorem d_T_mixedInto_51 : decode c_T_mixedInto 51 = .ok (.lreturn, 1) := by decide +kernel
theorem d_T_topHiddenAmount_0 : decode c_T_topHiddenAmount 0 = .ok (.sipush 1000, 3) := by decide +kernel
theorem d_T_topHiddenAmount_3 : decode c_T_topHiddenAmount 3 = .ok (.istore_n 1, 1) := by decide +kernel
theorem d_T_topHiddenAmount_4 : decode c_T_topHiddenAmount 4 = .ok (.iconst 0, 1) := by decide +kernel
theorem d_T_topHiddenAmount_5 : decode c_T_topHiddenAmount 5 = .ok (.istore_n 2, 1) := by decide +kernel
theorem d_T_topHiddenAmount_6 : decode c_T_topHiddenAmount 6 = .ok (.iload_n 2, 1) := by decide +kernel
theorem d_T_topHiddenAmount_7 : decode c_T_topHiddenAmount 7 = .ok (.aload_n 0, 1) := by decide +kernel
theorem d_T_topHiddenAmount_8 : decode c_T_topHiddenAmount 8 = .ok (.getfield 25, 3) := by decide +kernel
theorem d_T_topHiddenAmount_11 : decode c_T_topHiddenAmount 11 = .ok (.if_icmp .ge 38, 3) := by decide +kernel
theorem d_T_topHiddenAmount_14 : decode c_T_topHiddenAmount 14 = .ok (.aload_n 0, 1) := by decide +kernel
theorem d_T_topHiddenAmount_15 : decode c_T_topHiddenAmount 15 = .ok (.getfield 19, 3) := by decide +kernel
theorem d_T_topHiddenAmount_18 : decode c_T_topHiddenAmount 18 = .ok (.iload_n 2, 1) := by decide +kernel
theorem d_T_topHiddenAmount_19 : decode c_T_topHiddenAmount 19 = .ok (.aaload, 1) := by decide +kernel
theorem d_T_topHiddenAmount_20 : decode c_T_topHiddenAmount 20 = .ok (.getfield 58, 3) := by decide +kernel
theorem d_T_topHiddenAmount_23 : decode c_T_topHiddenAmount 23 = .ok (.iconst 3, 1) := by decide +kernel
theorem d_T_topHiddenAmount_24 : decode c_T_topHiddenAmount 24 = .ok (.if_icmp .ne 19, 3) := by decide +kernel
theorem d_T_topHiddenAmount_27 : decode c_T_topHiddenAmount 27 = .ok (.iload_n 1, 1) := by decide +kernel
theorem d_T_topHiddenAmount_28 : decode c_T_topHiddenAmount 28 = .ok (.aload_n 0, 1) := by decide +kernel
theorem d_T_topHiddenAmount_29 : decode c_T_topHiddenAmount 29 = .ok (.getfield 19, 3) := by decide +kernel
theorem d_T_topHiddenAmount_32 : decode c_T_topHiddenAmount 32 = .ok (.iload_n 2, 1) := by decide +kernel
theorem d_T_topHiddenAmount_33 : decode c_T_topHiddenAmount 33 = .ok (.aaload, 1) := by decide +kernel
theorem d_T_topHiddenAmount_34 : decode c_T_topHiddenAmount 34 = .ok (.getfield 61, 3) := by decide +kernel
theorem d_T_topHiddenAmount_37 : decode c_T_topHiddenAmount 37 = .ok (.iconst 1, 1) := by decide +kernel
theorem d_T_topHiddenAmount_38 : decode c_T_topHiddenAmount 38 = .ok (.isub, 1) := by decide +kernel
theorem d_T_topHiddenAmount_39 : decode c_T_topHiddenAmount 39 = .ok (.invokestatic 88, 3) := by decide +kernel
theorem d_T_topHiddenAmount_42 : decode c_T_topHiddenAmount 42 = .ok (.istore_n 1, 1) := by decide +kernel
theorem d_T_topHiddenAmount_43 : decode c_T_topHiddenAmount 43 = .ok (.iinc 2 1, 3) := by decide +kernel
theorem d_T_topHiddenAmount_46 : decode c_T_topHiddenAmount 46 = .ok (.goto (-40), 3) := by decide +kernel
theorem d_T_topHiddenAmount_49 : decode c_T_topHiddenAmount 49 = .ok (.iload_n 1, 1) := by decide +kernel
theorem d_T_topHiddenAmount_50 : decode c_T_topHiddenAmount 50 = .ok (.ireturn, 1) := by decide +kernel
theorem d_T_keepRows_0 : decode c_T_keepRows 0 = .ok (.iconst 0, 1) := by decide +kernel
theorem d_T_keepRows_1 : decode c_T_keepRows 1 = .ok (.istore_n 2, 1) := by decide +kernel
theorem d_T_keepRows_2 : decode c_T_keepRows 2 = .ok (.iload_n 2, 1) := by decide +kernel
theorem d_T_keepRows_3 : decode c_T_keepRows 3 = .ok (.aload_n 1, 1) := by decide +kernel
theorem d_T_keepRows_4 : decode c_T_keepRows 4 = .ok (.getfield 52, 3) := by decide +kernel
theorem d_T_keepRows_7 : decode c_T_keepRows 7 = .ok (.if_icmp .ge 23, 3) := by decide +kernel
theorem d_T_keepRows_10 : decode c_T_keepRows 10 = .ok (.aload_n 0, 1) := by decide +kernel
theorem d_T_keepRows_11 : decode c_T_keepRows 11 = .ok (.aload_n 1, 1) := by decide +kernel
theorem d_T_keepRows_12 : decode c_T_keepRows 12 = .ok (.iload_n 2, 1) := by decide +kernel
theorem d_T_keepRows_13 : decode c_T_keepRows 13 = .ok (.invokevirtual 93, 3) := by decide +kernel
theorem d_T_keepRows_16 : decode c_T_keepRows 16 = .ok (.ifCond .eq 8, 3) := by decide +kernel
theorem d_T_keepRows_19 : decode c_T_keepRows 19 = .ok (.aload_n 1, 1) := by decide +kernel
theorem d_T_keepRows_20 : decode c_T_keepRows 20 = .ok (.iload_n 2, 1) := by decide +kernel
theorem d_T_keepRows_21 : decode c_T_keepRows 21 = .ok (.invokevirtual 97, 3) := by decide +kernel
theorem d_T_keepRows_24 : decode c_T_keepRows 24 = .ok (.iinc 2 1, 3) := by decide +kernel
theorem d_T_keepRows_27 : decode c_T_keepRows 27 = .ok (.goto (-25), 3) := by decide +kernel
theorem d_T_keepRows_30 : decode c_T_keepRows 30 = .ok (.return_, 1) := by decide +kernel
theorem d_T_isKept_0 : decode c_T_isKept 0 = .ok (.iconst 0, 1) := by decide +kernel
theorem d_T_isKept_1 : decode c_T_isKept 1 = .ok (.istore_n 3, 1) := by decide +kernel
theorem d_T_isKept_2 : decode c_T_isKept 2 = .ok (.iload_n 3, 1) := by decide +kernel
theorem d_T_isKept_3 : decode c_T_isKept 3 = .ok (.aload_n 0, 1) := by decide +kernel
theorem d_T_isKept_4 : decode c_T_isKept 4 = .ok (.getfield 25, 3) := by decide +kernel
theorem d_T_isKept_7 : decode c_T_isKept 7 = .ok (.if_icmp .ge 25, 3) := by decide +kernel
theorem d_T_isKept_10 : decode c_T_isKept 10 = .ok (.aload_n 0, 1) := by decide +kernel
theorem d_T_isKept_11 : decode c_T_isKept 11 = .ok (.getfield 19, 3) := by decide +kernel
theorem d_T_isKept_14 : decode c_T_isKept 14 = .ok (.iload_n 3, 1) := by decide +kernel
theorem d_T_isKept_15 : decode c_T_isKept 15 = .ok (.aaload, 1) := by decide +kernel
theorem d_T_isKept_16 : decode c_T_isKept 16 = .ok (.aload_n 1, 1) := by decide +kernel
theorem d_T_isKept_17 : decode c_T_isKept 17 = .ok (.iload_n 2, 1) := by decide +kernel
theorem d_T_isKept_18 : decode c_T_isKept 18 = .ok (.invokevirtual 100, 3) := by decide +kernel
theorem d_T_isKept_21 : decode c_T_isKept 21 = .ok (.ifCond .eq 5, 3) := by decide +kernel
theorem d_T_isKept_24 : decode c_T_isKept 24 = .ok (.iconst 1, 1) := by decide +kernel
theorem d_T_isKept_25 : decode c_T_isKept 25 = .ok (.ireturn, 1) := by decide +kernel
theorem d_T_isKept_26 : decode c_T_isKept 26 = .ok (.iinc 3 1, 3) := by decide +kernel
theorem d_T_isKept_29 : decode c_T_isKept 29 = .ok (.goto (-27), 3) := by decide +kernel
theorem d_T_isKept_32 : decode c_T_isKept 32 = .ok (.iconst 0, 1) := by decide +kernel
theorem d_T_isKept_33 : decode c_T_isKept 33 = .ok (.ireturn, 1) := by decide +kernel
theorem d_C_init_0 : decode c_C_init 0 = .ok (.aload_n 0, 1) := by decide +kernel
theorem d_C_init_1 : decode c_C_init 1 = .ok (.invokespecial 1, 3) := by decide +kernel
theorem d_C_init_4 : decode c_C_init 4 = .ok (.aload_n 0, 1) := by decide +kernel
theorem d_C_init_5 : decode c_C_init 5 = .ok (.iconst 2, 1) := by decide +kernel
theorem d_C_init_6 : decode c_C_init 6 = .ok (.anewarray 9, 3) := by decide +kernel
theorem d_C_init_9 : decode c_C_init 9 = .ok (.putfield 11, 3) := by decide +kernel
theorem d_C_init_12 : decode c_C_init 12 = .ok (.aload_n 0, 1) := by decide +kernel
theorem d_C_init_13 : decode c_C_init 13 = .ok (.iconst 4, 1) := by decide +kernel
theorem d_C_init_14 : decode c_C_init 14 = .ok (.anewarray 15, 3) := by decide +kernel
theorem d_C_init_17 : decode c_C_init 17 = .ok (.putfield 17, 3) := by decide +kernel
theorem d_C_init_20 : decode c_C_init 20 = .ok (.aload_n 0, 1) := by decide +kernel
theorem d_C_init_21 : decode c_C_init 21 = .ok (.bipush 100, 2) := by decide +kernel
theorem d_C_init_23 : decode c_C_init 23 = .ok (.newarray .int, 2) := by decide +kernel
theorem d_C_init_25 : decode c_C_init 25 = .ok (.putfield 21, 3) := by decide +kernel
theorem d_C_init_28 : decode c_C_init 28 = .ok (.iconst 0, 1) := by decide +kernel
theorem d_C_init_29 : decode c_C_init 29 = .ok (.istore_n 1, 1) := by decide +kernel
theorem d_C_init_30 : decode c_C_init 30 = .ok (.iload_n 1, 1) := by decide +kernel
theorem d_C_init_31 : decode c_C_init 31 = .ok (.iconst 2, 1) := by decide +kernel
theorem d_C_init_32 : decode c_C_init 32 = .ok (.if_icmp .ge 22, 3) := by decide +kernel
theorem d_C_init_35 : decode c_C_init 35 = .ok (.aload_n 0, 1) := by decide +kernel
theorem d_C_init_36 : decode c_C_init 36 = .ok (.getfield 11, 3) := by decide +kernel
theorem d_C_init_39 : decode c_C_init 39 = .ok (.iload_n 1, 1) := by decide +kernel
theorem d_C_init_40 : decode c_C_init 40 = .ok (.new 9, 3) := by decide +kernel
theorem d_C_init_43 : decode c_C_init 43 = .ok (.dup, 1) := by decide +kernel
theorem d_C_init_44 : decode c_C_init 44 = .ok (.invokespecial 25, 3) := by decide +kernel
theorem d_C_init_47 : decode c_C_init 47 = .ok (.aastore, 1) := by decide +kernel
theorem d_C_init_48 : decode c_C_init 48 = .ok (.iinc 1 1, 3) := by decide +kernel
theorem d_C_init_51 : decode c_C_init 51 = .ok (.goto (-21), 3) := by decide +kernel
theorem d_C_init_54 : decode c_C_init 54 = .ok (.iconst 0, 1) := by decide +kernel
theorem d_C_init_55 : decode c_C_init 55 = .ok (.istore_n 1, 1) := by decide +kernel
theorem d_C_init_56 : decode c_C_init 56 = .ok (.iload_n 1, 1) := by decide +kernel
theorem d_C_init_57 : decode c_C_init 57 = .ok (.iconst 4, 1) := by decide +kernel
theorem d_C_init_58 : decode c_C_init 58 = .ok (.if_icmp .ge 22, 3) := by decide +kernel
theorem d_C_init_61 : decode c_C_init 61 = .ok (.aload_n 0, 1) := by decide +kernel
theorem d_C_init_62 : decode c_C_init 62 = .ok (.getfield 17, 3) := by decide +kernel
theorem d_C_init_65 : decode c_C_init 65 = .ok (.iload_n 1, 1) := by decide +kernel
theorem d_C_init_66 : decode c_C_init 66 = .ok (.new 15, 3) := by decide +kernel
theorem d_C_init_69 : decode c_C_init 69 = .ok (.dup, 1) := by decide +kernel
theorem d_C_init_70 : decode c_C_init 70 = .ok (.invokespecial 26, 3) := by decide +kernel
theorem d_C_init_73 : decode c_C_init 73 = .ok (.aastore, 1) := by decide +kernel
theorem d_C_init_74 : decode c_C_init 74 = .ok (.iinc 1 1, 3) := by decide +kernel
theorem d_C_init_77 : decode c_C_init 77 = .ok (.goto (-21), 3) := by decide +kernel
theorem d_C_init_80 : decode c_C_init 80 = .ok (.return_, 1) := by decide +kernel
theorem d_C_row_0 : decode c_C_row 0 = .ok (.aload_n 0, 1) := by decide +kernel
theorem d_C_row_1 : decode c_C_row 1 = .ok (.iload_n 1, 1) := by decide +kernel
theorem d_C_row_2 : decode c_C_row 2 = .ok (.invokevirtual 27, 3) := by decide +kernel
theorem d_C_row_5 : decode c_C_row 5 = .ok (.astore 6, 2) := by decide +kernel
theorem d_C_row_7 : decode c_C_row 7 = .ok (.aload 6, 2) := by decide +kernel
theorem d_C_row_9 : decode c_C_row 9 = .ok (.iload_n 2, 1) := by decide +kernel
theorem d_C_row_10 : decode c_C_row 10 = .ok (.invokestatic 31, 3) := by decide +kernel
theorem d_C_row_13 : decode c_C_row 13 = .ok (.astore 7, 2) := by decide +kernel
theorem d_C_row_15 : decode c_C_row 15 = .ok (.aload 6, 2) := by decide +kernel
theorem d_C_row_17 : decode c_C_row 17 = .ok (.ifnull 19, 3) := by decide +kernel
theorem d_C_row_20 : decode c_C_row 20 = .ok (.aload 7, 2) := by decide +kernel
theorem d_C_row_22 : decode c_C_row 22 = .ok (.ifnull 14, 3) := by decide +kernel
theorem d_C_row_25 : decode c_C_row 25 = .ok (.iload_n 3, 1) := by decide +kernel
theorem d_C_row_26 : decode c_C_row 26 = .ok (.iload 4, 2) := by decide +kernel
theorem d_C_row_28 : decode c_C_row 28 = .ok (.iload 5, 2) := by decide +kernel
theorem d_C_row_30 : decode c_C_row 30 = .ok (.invokestatic 35, 3) := by decide +kernel
theorem d_C_row_33 : decode c_C_row 33 = .ok (.ifCond .ne 6, 3) := by decide +kernel
theorem d_C_row_36 : decode c_C_row 36 = .ok (.bipush (-2), 2) := by decide +kernel
theorem d_C_row_38 : decode c_C_row 38 = .ok (.ireturn, 1) := by decide +kernel
theorem d_C_row_39 : decode c_C_row 39 = .ok (.aload 6, 2) := by decide +kernel
theorem d_C_row_41 : decode c_C_row 41 = .ok (.getfield 39, 3) := by decide +kernel
theorem d_C_row_44 : decode c_C_row 44 = .ok (.ifCond .eq 6, 3) := by decide +kernel
theorem d_C_row_47 : decode c_C_row 47 = .ok (.bipush (-3), 2) := by decide +kernel
theorem d_C_row_49 : decode c_C_row 49 = .ok (.ireturn, 1) := by decide +kernel
theorem d_C_row_50 : decode c_C_row 50 = .ok (.aload 7, 2) := by decide +kernel
theorem d_C_row_52 : decode c_C_row 52 = .ok (.getfield 43, 3) := by decide +kernel
theorem d_C_row_55 : decode c_C_row 55 = .ok (.bipush 12, 2) := by decide +kernel
theorem d_C_row_57 : decode c_C_row 57 = .ok (.if_icmp .lt 6, 3) := by decide +kernel
theorem d_C_row_60 : decode c_C_row 60 = .ok (.bipush (-4), 2) := by decide +kernel
theorem d_C_row_62 : decode c_C_row 62 = .ok (.ireturn, 1) := by decide +kernel
theorem d_C_row_63 : decode c_C_row 63 = .ok (.aload 7, 2) := by decide +kernel
theorem d_C_row_65 : decode c_C_row 65 = .ok (.iload_n 3, 1) := by decide +kernel
theorem d_C_row_66 : decode c_C_row 66 = .ok (.iload 4, 2) := by decide +kernel
theorem d_C_row_68 : decode c_C_row 68 = .ok (.iload 5, 2) := by decide +kernel
theorem d_C_row_70 : decode c_C_row 70 = .ok (.invokevirtual 49, 3) := by decide +kernel
theorem d_C_row_73 : decode c_C_row 73 = .ok (.aload 7, 2) := by decide +kernel
theorem d_C_row_75 : decode c_C_row 75 = .ok (.getfield 43, 3) := by decide +kernel
theorem d_C_row_78 : decode c_C_row 78 = .ok (.iconst 1, 1) := by decide +kernel
theorem d_C_row_79 : decode c_C_row 79 = .ok (.isub, 1) := by decide +kernel
theorem d_C_row_80 : decode c_C_row 80 = .ok (.ireturn, 1) := by decide +kernel
theorem d_C_load_0 : decode c_C_load 0 = .ok (.aload_n 0, 1) := by decide +kernel
theorem d_C_load_1 : decode c_C_load 1 = .ok (.iload_n 1, 1) := by decide +kernel
theorem d_C_load_2 : decode c_C_load 2 = .ok (.invokevirtual 27, 3) := by decide +kernel
theorem d_C_load_5 : decode c_C_load 5 = .ok (.astore 7, 2) := by decide +kernel
theorem d_C_load_7 : decode c_C_load 7 = .ok (.aload 7, 2) := by decide +kernel
theorem d_C_load_9 : decode c_C_load 9 = .ok (.iload_n 2, 1) := by decide +kernel
theorem d_C_load_10 : decode c_C_load 10 = .ok (.invokestatic 31, 3) := by decide +kernel
theorem d_C_load_13 : decode c_C_load 13 = .ok (.astore 8, 2) := by decide +kernel
theorem d_C_load_15 : decode c_C_load 15 = .ok (.aload_n 0, 1) := by decide +kernel
theorem d_C_load_16 : decode c_C_load 16 = .ok (.iload_n 3, 1) := by decide +kernel
theorem d_C_load_17 : decode c_C_load 17 = .ok (.invokevirtual 53, 3) := by decide +kernel
theorem d_C_load_20 : decode c_C_load 20 = .ok (.astore 9, 2) := by decide +kernel
theorem d_C_load_22 : decode c_C_load 22 = .ok (.aload_n 0, 1) := by decide +kernel
theorem d_C_load_23 : decode c_C_load 23 = .ok (.iload 4, 2) := by decide +kernel
theorem d_C_load_25 : decode c_C_load 25 = .ok (.invokevirtual 53, 3) := by decide +kernel
theorem d_C_load_28 : decode c_C_load 28 = .ok (.astore 10, 2) := by decide +kernel
theorem d_C_load_30 : decode c_C_load 30 = .ok (.aload_n 0, 1) := by decide +kernel
theorem d_C_load_31 : decode c_C_load 31 = .ok (.iload 5, 2) := by decide +kernel
theorem d_C_load_33 : decode c_C_load 33 = .ok (.invokevirtual 53, 3) := by decide +kernel
theorem d_C_load_36 : decode c_C_load 36 = .ok (.astore 11, 2) := by decide +kernel
theorem d_C_load_38 : decode c_C_load 38 = .ok (.aload 7, 2) := by decide +kernel
theorem d_C_load_40 : decode c_C_load 40 = .ok (.ifnull 21, 3) := by decide +kernel
theorem d_C_load_43 : decode c_C_load 43 = .ok (.aload 8, 2) := by decide +kernel
theorem d_C_load_45 : decode c_C_load 45 = .ok (.ifnull 16, 3) := by decide +kernel
theorem d_C_load_48 : decode c_C_load 48 = .ok (.iload 6, 2) := by decide +kernel
theorem d_C_load_50 : decode c_C_load 50 = .ok (.iconst 1, 1) := by decide +kernel
theorem d_C_load_51 : decode c_C_load 51 = .ok (.if_icmp .lt 10, 3) := by decide +kernel
theorem d_C_load_54 : decode c_C_load 54 = .ok (.iload 6, 2) := by decide +kernel
theorem d_C_load_56 : decode c_C_load 56 = .ok (.bipush 12, 2) := by decide +kernel
theorem d_C_load_58 : decode c_C_load 58 = .ok (.if_icmp .le 6, 3) := by decide +kernel
theorem d_C_load_61 : decode c_C_load 61 = .ok (.bipush (-2), 2) := by decide +kernel
theorem d_C_load_63 : decode c_C_load 63 = .ok (.ireturn, 1) := by decide +kernel
theorem d_C_load_64 : decode c_C_load 64 = .ok (.aload 9, 2) := by decide +kernel
theorem d_C_load_66 : decode c_C_load 66 = .ok (.ifnull 13, 3) := by decide +kernel
theorem d_C_load_69 : decode c_C_load 69 = .ok (.aload 10, 2) := by decide +kernel
theorem d_C_load_71 : decode c_C_load 71 = .ok (.ifnull 8, 3) := by decide +kernel
theorem d_C_load_74 : decode c_C_load 74 = .ok (.aload 11, 2) := by decide +kernel
theorem d_C_load_76 : decode c_C_load 76 = .ok (.ifnonnull 6, 3) := by decide +kernel
theorem d_C_load_79 : decode c_C_load 79 = .ok (.bipush (-2), 2) := by decide +kernel
theorem d_C_load_81 : decode c_C_load 81 = .ok (.ireturn, 1) := by decide +kernel
theorem d_C_load_82 : decode c_C_load 82 = .ok (.aload 7, 2) := by decide +kernel
theorem d_C_load_84 : decode c_C_load 84 = .ok (.getfield 39, 3) := by decide +kernel
theorem d_C_load_87 : decode c_C_load 87 = .ok (.ifCond .eq 6, 3) := by decide +kernel
theorem d_C_load_90 : decode c_C_load 90 = .ok (.bipush (-3), 2) := by decide +kernel
theorem d_C_load_92 : decode c_C_load 92 = .ok (.ireturn, 1) := by decide +kernel
theorem d_C_load_93 : decode c_C_load 93 = .ok (.aload 8, 2) := by decide +kernel
theorem d_C_load_95 : decode c_C_load 95 = .ok (.getfield 43, 3) := by decide +kernel
theorem d_C_load_98 : decode c_C_load 98 = .ok (.iload 6, 2) := by decide +kernel
theorem d_C_load_100 : decode c_C_load 100 = .ok (.iadd, 1) := by decide +kernel
theorem d_C_load_101 : decode c_C_load 101 = .ok (.bipush 12, 2) := by decide +kernel
theorem d_C_load_103 : decode c_C_load 103 = .ok (.if_icmp .le 6, 3) := by decide +kernel
theorem d_C_load_106 : decode c_C_load 106 = .ok (.bipush (-4), 2) := by decide +kernel
theorem d_C_load_108 : decode c_C_load 108 = .ok (.ireturn, 1) := by decide +kernel
theorem d_C_load_109 : decode c_C_load 109 = .ok (.aload 9, 2) := by decide +kernel
theorem d_C_load_111 : decode c_C_load 111 = .ok (.getfield 57, 3) := by decide +kernel
theorem d_C_load_114 : decode c_C_load 114 = .ok (.ifCond .ne 19, 3) := by decide +kernel
theorem d_C_load_117 : decode c_C_load 117 = .ok (.aload 10, 2) := by decide +kernel
theorem d_C_load_119 : decode c_C_load 119 = .ok (.getfield 57, 3) := by decide +kernel
theorem d_C_load_122 : decode c_C_load 122 = .ok (.ifCond .ne 11, 3) := by decide +kernel
theorem d_C_load_125 : decode c_C_load 125 = .ok (.aload 11, 2) := by decide +kernel
theorem d_C_load_127 : decode c_C_load 127 = .ok (.getfield 57, 3) := by decide +kernel
theorem d_C_load_130 : decode c_C_load 130 = .ok (.ifCond .eq 9, 3) := by decide +kernel
theorem d_C_load_133 : decode c_C_load 133 = .ok (.aload_n 0, 1) := by decide +kernel
theorem d_C_load_134 : decode c_C_load 134 = .ok (.iconst 1, 1) := by decide +kernel
theorem d_C_load_135 : decode c_C_load 135 = .ok (.invokevirtual 60, 3) := by decide +kernel
theorem d_C_load_138 : decode c_C_load 138 = .ok (.ireturn, 1) := by decide +kernel
theorem d_C_load_139 : decode c_C_load 139 = .ok (.aload 9, 2) := by decide +kernel
theorem d_C_load_141 : decode c_C_load 141 = .ok (.getfield 64, 3) := by decide +kernel
theorem d_C_load_144 : decode c_C_load 144 = .ok (.iload 6, 2) := by decide +kernel
theorem d_C_load_146 : decode c_C_load 146 = .ok (.if_icmp .lt 23, 3) := by decide +kernel
theorem d_C_load_149 : decode c_C_load 149 = .ok (.aload 10, 2) := by decide +kernel
theorem d_C_load_151 : decode c_C_load 151 = .ok (.getfield 64, 3) := by decide +kernel
theorem d_C_load_154 : decode c_C_load 154 = .ok (.iload 6, 2) := by decide +kernel
theorem d_C_load_156 : decode c_C_load 156 = .ok (.if_icmp .lt 13, 3) := by decide +kernel
theorem d_C_load_159 : decode c_C_load 159 = .ok (.aload 11, 2) := by decide +kernel
theorem d_C_load_161 : decode c_C_load 161 = .ok (.getfield 64, 3) := by decide +kernel
theorem d_C_load_164 : decode c_C_load 164 = .ok (.iload 6, 2) := by decide +kernel
theorem d_C_load_166 : decode c_C_load 166 = .ok (.if_icmp .ge 9, 3) := by decide +kernel
theorem d_C_load_169 : decode c_C_load 169 = .ok (.aload_n 0, 1) := by decide +kernel
theorem d_C_load_170 : decode c_C_load 170 = .ok (.iconst 2, 1) := by decide +kernel
theorem d_C_load_171 : decode c_C_load 171 = .ok (.invokevirtual 60, 3) := by decide +kernel
theorem d_C_load_174 : decode c_C_load 174 = .ok (.ireturn, 1) := by decide +kernel
theorem d_C_load_175 : decode c_C_load 175 = .ok (.iconst 0, 1) := by decide +kernel
theorem d_C_load_176 : decode c_C_load 176 = .ok (.istore 12, 2) := by decide +kernel
theorem d_C_load_178 : decode c_C_load 178 = .ok (.iload 12, 2) := by decide +kernel
theorem d_C_load_180 : decode c_C_load 180 = .ok (.iload 6, 2) := by decide +kernel
theorem d_C_load_182 : decode c_C_load 182 = .ok (.if_icmp .ge 42, 3) := by decide +kernel
theorem d_C_load_185 : decode c_C_load 185 = .ok (.aload 9, 2) := by decide +kernel
theorem d_C_load_187 : decode c_C_load 187 = .ok (.getfield 65, 3) := by decide +kernel
theorem d_C_load_190 : decode c_C_load 190 = .ok (.iload 12, 2) := by decide +kernel
theorem d_C_load_192 : decode c_C_load 192 = .ok (.iaload, 1) := by decide +kernel
theorem d_C_load_193 : decode c_C_load 193 = .ok (.aload 10, 2) := by decide +kernel
theorem d_C_load_195 : decode c_C_load 195 = .ok (.getfield 65, 3) := by decide +kernel
theorem d_C_load_198 : decode c_C_load 198 = .ok (.iload 12, 2) := by decide +kernel
theorem d_C_load_200 : decode c_C_load 200 = .ok (.iaload, 1) := by decide +kernel
theorem d_C_load_201 : decode c_C_load 201 = .ok (.aload 11, 2) := by decide +kernel
theorem d_C_load_203 : decode c_C_load 203 = .ok (.getfield 65, 3) := by decide +kernel
theorem d_C_load_206 : decode c_C_load 206 = .ok (.iload 12, 2) := by decide +kernel
theorem d_C_load_208 : decode c_C_load 208 = .ok (.iaload, 1) := by decide +kernel
theorem d_C_load_209 : decode c_C_load 209 = .ok (.invokestatic 35, 3) := by decide +kernel
theorem d_C_load_212 : decode c_C_load 212 = .ok (.ifCond .ne 6, 3) := by decide +kernel
theorem d_C_load_215 : decode c_C_load 215 = .ok (.bipush (-2), 2) := by decide +kernel
theorem d_C_load_217 : decode c_C_load 217 = .ok (.ireturn, 1) := by decide +kernel
theorem d_C_load_218 : decode c_C_load 218 = .ok (.iinc 12 1, 3) := by decide +kernel
theorem d_C_load_221 : decode c_C_load 221 = .ok (.goto (-43), 3) := by decide +kernel
theorem d_C_load_224 : decode c_C_load 224 = .ok (.iconst 0, 1) := by decide +kernel
theorem d_C_load_225 : decode c_C_load 225 = .ok (.istore 12, 2) := by decide +kernel
theorem d_C_load_227 : decode c_C_load 227 = .ok (.iload 12, 2) := by decide +kernel
theorem d_C_load_229 : decode c_C_load 229 = .ok (.iload 6, 2) := by decide +kernel
theorem d_C_load_231 : decode c_C_load 231 = .ok (.if_icmp .ge 38, 3) := by decide +kernel
theorem d_C_load_234 : decode c_C_load 234 = .ok (.aload 8, 2) := by decide +kernel
theorem d_C_load_236 : decode c_C_load 236 = .ok (.aload 9, 2) := by decide +kernel
theorem d_C_load_238 : decode c_C_load 238 = .ok (.getfield 65, 3) := by decide +kernel
theorem d_C_load_241 : decode c_C_load 241 = .ok (.iload 12, 2) := by decide +kernel
theorem d_C_load_243 : decode c_C_load 243 = .ok (.iaload, 1) := by decide +kernel
theorem d_C_load_244 : decode c_C_load 244 = .ok (.aload 10, 2) := by decide +kernel
theorem d_C_load_246 : decode c_C_load 246 = .ok (.getfield 65, 3) := by decide +kernel
theorem d_C_load_249 : decode c_C_load 249 = .ok (.iload 12, 2) := by decide +kernel
theorem d_C_load_251 : decode c_C_load 251 = .ok (.iaload, 1) := by decide +kernel
theorem d_C_load_252 : decode c_C_load 252 = .ok (.aload 11, 2) := by decide +kernel
theorem d_C_load_254 : decode c_C_load 254 = .ok (.getfield 65, 3) := by decide +kernel
theorem d_C_load_257 : decode c_C_load 257 = .ok (.iload 12, 2) := by decide +kernel
theorem d_C_load_259 : decode c_C_load 259 = .ok (.iaload, 1) := by decide +kernel
theorem d_C_load_260 : decode c_C_load 260 = .ok (.invokevirtual 49, 3) := by decide +kernel
theorem d_C_load_263 : decode c_C_load 263 = .ok (.iinc 12 1, 3) := by decide +kernel
theorem d_C_load_266 : decode c_C_load 266 = .ok (.goto (-39), 3) := by decide +kernel
theorem d_C_load_269 : decode c_C_load 269 = .ok (.aload 8, 2) := by decide +kernel
theorem d_C_load_271 : decode c_C_load 271 = .ok (.getfield 43, 3) := by decide +kernel
theorem d_C_load_274 : decode c_C_load 274 = .ok (.ireturn, 1) := by decide +kernel
theorem d_C_keeper_0 : decode c_C_keeper 0 = .ok (.aload_n 0, 1) := by decide +kernel
theorem d_C_keeper_1 : decode c_C_keeper 1 = .ok (.iload_n 1, 1) := by decide +kernel
theorem d_C_keeper_2 : decode c_C_keeper 2 = .ok (.invokevirtual 27, 3) := by decide +kernel
theorem d_C_keeper_5 : decode c_C_keeper 5 = .ok (.astore 5, 2) := by decide +kernel
theorem d_C_keeper_7 : decode c_C_keeper 7 = .ok (.aload 5, 2) := by decide +kernel
theorem d_C_keeper_9 : decode c_C_keeper 9 = .ok (.ifnull 13, 3) := by decide +kernel
theorem d_C_keeper_12 : decode c_C_keeper 12 = .ok (.iload_n 2, 1) := by decide +kernel
theorem d_C_keeper_13 : decode c_C_keeper 13 = .ok (.iload_n 3, 1) := by decide +kernel
theorem d_C_keeper_14 : decode c_C_keeper 14 = .ok (.iload 4, 2) := by decide +kernel
theorem d_C_keeper_16 : decode c_C_keeper 16 = .ok (.invokestatic 68, 3) := by decide +kernel
theorem d_C_keeper_19 : decode c_C_keeper 19 = .ok (.ifCond .ne 6, 3) := by decide +kernel
theorem d_C_keeper_22 : decode c_C_keeper 22 = .ok (.bipush (-2), 2) := by decide +kernel
theorem d_C_keeper_24 : decode c_C_keeper 24 = .ok (.ireturn, 1) := by decide +kernel
theorem d_C_keeper_25 : decode c_C_keeper 25 = .ok (.aload 5, 2) := by decide +kernel
theorem d_C_keeper_27 : decode c_C_keeper 27 = .ok (.getfield 39, 3) := by decide +kernel
theorem d_C_keeper_30 : decode c_C_keeper 30 = .ok (.ifCond .eq 6, 3) := by decide +kernel
theorem d_C_keeper_33 : decode c_C_keeper 33 = .ok (.bipush (-3), 2) := by decide +kernel
theorem d_C_keeper_35 : decode c_C_keeper 35 = .ok (.ireturn, 1) := by decide +kernel
theorem d_C_keeper_36 : decode c_C_keeper 36 = .ok (.aload 5, 2) := by decide +kernel
theorem d_C_keeper_38 : decode c_C_keeper 38 = .ok (.getfield 71, 3) := by decide +kernel
theorem d_C_keeper_41 : decode c_C_keeper 41 = .ok (.iconst 4, 1) := by decide +kernel
theorem d_C_keeper_42 : decode c_C_keeper 42 = .ok (.if_icmp .lt 6, 3) := by decide +kernel
theorem d_C_keeper_45 : decode c_C_keeper 45 = .ok (.bipush (-4), 2) := by decide +kernel
theorem d_C_keeper_47 : decode c_C_keeper 47 = .ok (.ireturn, 1) := by decide +kernel
theorem d_C_keeper_48 : decode c_C_keeper 48 = .ok (.aload 5, 2) := by decide +kernel
theorem d_C_keeper_50 : decode c_C_keeper 50 = .ok (.iload_n 2, 1) := by decide +kernel
theorem d_C_keeper_51 : decode c_C_keeper 51 = .ok (.iload_n 3, 1) := by decide +kernel
theorem d_C_keeper_52 : decode c_C_keeper 52 = .ok (.iload 4, 2) := by decide +kernel
theorem d_C_keeper_54 : decode c_C_keeper 54 = .ok (.invokevirtual 74, 3) := by decide +kernel
theorem d_C_keeper_57 : decode c_C_keeper 57 = .ok (.aload 5, 2) := by decide +kernel
theorem d_C_keeper_59 : decode c_C_keeper 59 = .ok (.getfield 71, 3) := by decide +kernel
theorem d_C_keeper_62 : decode c_C_keeper 62 = .ok (.ireturn, 1) := by decide +kernel
theorem d_C_seal_0 : decode c_C_seal 0 = .ok (.aload_n 0, 1) := by decide +kernel
theorem d_C_seal_1 : decode c_C_seal 1 = .ok (.iload_n 1, 1) := by decide +kernel
theorem d_C_seal_2 : decode c_C_seal 2 = .ok (.invokevirtual 27, 3) := by decide +kernel
theorem d_C_seal_5 : decode c_C_seal 5 = .ok (.astore_n 2, 1) := by decide +kernel
theorem d_C_seal_6 : decode c_C_seal 6 = .ok (.aload_n 2, 1) := by decide +kernel
theorem d_C_seal_7 : decode c_C_seal 7 = .ok (.ifnonnull 6, 3) := by decide +kernel
theorem d_C_seal_10 : decode c_C_seal 10 = .ok (.bipush (-2), 2) := by decide +kernel
theorem d_C_seal_12 : decode c_C_seal 12 = .ok (.ireturn, 1) := by decide +kernel
theorem d_C_seal_13 : decode c_C_seal 13 = .ok (.aload_n 2, 1) := by decide +kernel
theorem d_C_seal_14 : decode c_C_seal 14 = .ok (.getfield 39, 3) := by decide +kernel
theorem d_C_seal_17 : decode c_C_seal 17 = .ok (.ifCond .eq 6, 3) := by decide +kernel
theorem d_C_seal_20 : decode c_C_seal 20 = .ok (.bipush (-3), 2) := by decide +kernel
theorem d_C_seal_22 : decode c_C_seal 22 = .ok (.ireturn, 1) := by decide +kernel
theorem d_C_seal_23 : decode c_C_seal 23 = .ok (.aload_n 2, 1) := by decide +kernel
theorem d_C_seal_24 : decode c_C_seal 24 = .ok (.invokevirtual 77, 3) := by decide +kernel
theorem d_C_seal_27 : decode c_C_seal 27 = .ok (.aload_n 2, 1) := by decide +kernel
theorem d_C_seal_28 : decode c_C_seal 28 = .ok (.invokevirtual 80, 3) := by decide +kernel
theorem d_C_seal_31 : decode c_C_seal 31 = .ok (.ireturn, 1) := by decide +kernel
theorem d_C_clear_0 : decode c_C_clear 0 = .ok (.aload_n 0, 1) := by decide +kernel
theorem d_C_clear_1 : decode c_C_clear 1 = .ok (.iload_n 1, 1) := by decide +kernel
theorem d_C_clear_2 : decode c_C_clear 2 = .ok (.invokevirtual 27, 3) := by decide +kernel
theorem d_C_clear_5 : decode c_C_clear 5 = .ok (.astore_n 2, 1) := by decide +kernel
theorem d_C_clear_6 : decode c_C_clear 6 = .ok (.aload_n 2, 1) := by decide +kernel
theorem d_C_clear_7 : decode c_C_clear 7 = .ok (.ifnonnull 6, 3) := by decide +kernel
