theorem dL_at_0 : decode cL_at 0 = .ok (.iload_n 1, 1) := by decide +kernel
theorem dL_at_1 : decode cL_at 1 = .ok (.aload_n 0, 1) := by decide +kernel
theorem dL_at_2 : decode cL_at 2 = .ok (.arraylength, 1) := by decide +kernel
theorem dL_at_3 : decode cL_at 3 = .ok (.if_icmp .ge 9, 3) := by decide +kernel
theorem dL_at_6 : decode cL_at 6 = .ok (.aload_n 0, 1) := by decide +kernel
theorem dL_at_7 : decode cL_at 7 = .ok (.iload_n 1, 1) := by decide +kernel
theorem dL_at_8 : decode cL_at 8 = .ok (.iaload, 1) := by decide +kernel
theorem dL_at_9 : decode cL_at 9 = .ok (.goto 4, 3) := by decide +kernel
theorem dL_at_12 : decode cL_at 12 = .ok (.iconst 0, 1) := by decide +kernel
theorem dL_at_13 : decode cL_at 13 = .ok (.ireturn, 1) := by decide +kernel
theorem dL_some_0 : decode cL_some 0 = .ok (.iload_n 0, 1) := by decide +kernel
theorem dL_some_1 : decode cL_some 1 = .ok (.iload_n 1, 1) := by decide +kernel
theorem dL_some_2 : decode cL_some 2 = .ok (.irem, 1) := by decide +kernel
theorem dL_some_3 : decode cL_some 3 = .ok (.istore_n 2, 1) := by decide +kernel
theorem dL_some_4 : decode cL_some 4 = .ok (.iload_n 2, 1) := by decide +kernel
theorem dL_some_5 : decode cL_some 5 = .ok (.ifCond .ge 9, 3) := by decide +kernel
theorem dL_some_8 : decode cL_some 8 = .ok (.iload_n 2, 1) := by decide +kernel
theorem dL_some_9 : decode cL_some 9 = .ok (.iload_n 1, 1) := by decide +kernel
theorem dL_some_10 : decode cL_some 10 = .ok (.iadd, 1) := by decide +kernel
theorem dL_some_11 : decode cL_some 11 = .ok (.goto 4, 3) := by decide +kernel
theorem dL_some_14 : decode cL_some 14 = .ok (.iload_n 2, 1) := by decide +kernel
theorem dL_some_15 : decode cL_some 15 = .ok (.ireturn, 1) := by decide +kernel
theorem dL_source_0 : decode cL_source 0 = .ok (.iload_n 1, 1) := by decide +kernel
theorem dL_source_1 : decode cL_source 1 = .ok (.ifCond .ge 11, 3) := by decide +kernel
theorem dL_source_4 : decode cL_source 4 = .ok (.aload_n 0, 1) := by decide +kernel
theorem dL_source_5 : decode cL_source 5 = .ok (.iload_n 2, 1) := by decide +kernel
theorem dL_source_6 : decode cL_source 6 = .ok (.invokevirtual 7, 3) := by decide +kernel
theorem dL_source_9 : decode cL_source 9 = .ok (.goto 9, 3) := by decide +kernel
theorem dL_source_12 : decode cL_source 12 = .ok (.aload_n 0, 1) := by decide +kernel
theorem dL_source_13 : decode cL_source 13 = .ok (.iload_n 1, 1) := by decide +kernel
theorem dL_source_14 : decode cL_source 14 = .ok (.iload_n 2, 1) := by decide +kernel
theorem dL_source_15 : decode cL_source 15 = .ok (.invokevirtual 13, 3) := by decide +kernel
theorem dL_source_18 : decode cL_source 18 = .ok (.ireturn, 1) := by decide +kernel
theorem dL_source_19 : decode cL_source 19 = .ok (.astore_n 3, 1) := by decide +kernel
theorem dL_source_20 : decode cL_source 20 = .ok (.sipush (-1001), 3) := by decide +kernel
theorem dL_source_23 : decode cL_source 23 = .ok (.ireturn, 1) := by decide +kernel
theorem dL_source_24 : decode cL_source 24 = .ok (.astore_n 3, 1) := by decide +kernel
theorem dL_source_25 : decode cL_source 25 = .ok (.sipush (-1002), 3) := by decide +kernel
theorem dL_source_28 : decode cL_source 28 = .ok (.ireturn, 1) := by decide +kernel
theorem dL_source_29 : decode cL_source 29 = .ok (.astore_n 3, 1) := by decide +kernel
theorem dL_source_30 : decode cL_source 30 = .ok (.sipush (-1003), 3) := by decide +kernel
theorem dL_source_33 : decode cL_source 33 = .ok (.ireturn, 1) := by decide +kernel
theorem dL_record_0 : decode cL_record 0 = .ok (.aload_n 0, 1) := by decide +kernel
theorem dL_record_1 : decode cL_record 1 = .ok (.iload_n 1, 1) := by decide +kernel
theorem dL_record_2 : decode cL_record 2 = .ok (.iload_n 2, 1) := by decide +kernel
theorem dL_record_3 : decode cL_record 3 = .ok (.iload_n 3, 1) := by decide +kernel
theorem dL_record_4 : decode cL_record 4 = .ok (.iload 4, 2) := by decide +kernel
theorem dL_record_6 : decode cL_record 6 = .ok (.invokevirtual 23, 3) := by decide +kernel
theorem dL_record_9 : decode cL_record 9 = .ok (.ireturn, 1) := by decide +kernel
theorem dL_record_10 : decode cL_record 10 = .ok (.astore 5, 2) := by decide +kernel
theorem dL_record_12 : decode cL_record 12 = .ok (.sipush (-1001), 3) := by decide +kernel
theorem dL_record_15 : decode cL_record 15 = .ok (.ireturn, 1) := by decide +kernel
theorem dL_record_16 : decode cL_record 16 = .ok (.astore 5, 2) := by decide +kernel
theorem dL_record_18 : decode cL_record 18 = .ok (.sipush (-1002), 3) := by decide +kernel
theorem dL_record_21 : decode cL_record 21 = .ok (.ireturn, 1) := by decide +kernel
theorem dL_record_22 : decode cL_record 22 = .ok (.astore 5, 2) := by decide +kernel
theorem dL_record_24 : decode cL_record 24 = .ok (.sipush (-1003), 3) := by decide +kernel
theorem dL_record_27 : decode cL_record 27 = .ok (.ireturn, 1) := by decide +kernel
theorem dL_sets_0 : decode cL_sets 0 = .ok (.iload 4, 2) := by decide +kernel
theorem dL_sets_2 : decode cL_sets 2 = .ok (.ifCond .ne 13, 3) := by decide +kernel
theorem dL_sets_5 : decode cL_sets 5 = .ok (.aload_n 0, 1) := by decide +kernel
theorem dL_sets_6 : decode cL_sets 6 = .ok (.iload_n 1, 1) := by decide +kernel
theorem dL_sets_7 : decode cL_sets 7 = .ok (.iload_n 2, 1) := by decide +kernel
theorem dL_sets_8 : decode cL_sets 8 = .ok (.iload_n 3, 1) := by decide +kernel
theorem dL_sets_9 : decode cL_sets 9 = .ok (.invokevirtual 27, 3) := by decide +kernel
theorem dL_sets_12 : decode cL_sets 12 = .ok (.goto 26, 3) := by decide +kernel
theorem dL_sets_15 : decode cL_sets 15 = .ok (.iload 4, 2) := by decide +kernel
theorem dL_sets_17 : decode cL_sets 17 = .ok (.iconst 1, 1) := by decide +kernel
theorem dL_sets_18 : decode cL_sets 18 = .ok (.if_icmp .ne 13, 3) := by decide +kernel
theorem dL_sets_21 : decode cL_sets 21 = .ok (.aload_n 0, 1) := by decide +kernel
theorem dL_sets_22 : decode cL_sets 22 = .ok (.iload_n 1, 1) := by decide +kernel
theorem dL_sets_23 : decode cL_sets 23 = .ok (.iload_n 2, 1) := by decide +kernel
theorem dL_sets_24 : decode cL_sets 24 = .ok (.iload_n 3, 1) := by decide +kernel
theorem dL_sets_25 : decode cL_sets 25 = .ok (.invokevirtual 31, 3) := by decide +kernel
theorem dL_sets_28 : decode cL_sets 28 = .ok (.goto 10, 3) := by decide +kernel
theorem dL_sets_31 : decode cL_sets 31 = .ok (.aload_n 0, 1) := by decide +kernel
theorem dL_sets_32 : decode cL_sets 32 = .ok (.iload_n 1, 1) := by decide +kernel
theorem dL_sets_33 : decode cL_sets 33 = .ok (.iload_n 2, 1) := by decide +kernel
theorem dL_sets_34 : decode cL_sets 34 = .ok (.iload_n 3, 1) := by decide +kernel
theorem dL_sets_35 : decode cL_sets 35 = .ok (.invokevirtual 34, 3) := by decide +kernel
theorem dL_sets_38 : decode cL_sets 38 = .ok (.ireturn, 1) := by decide +kernel
theorem dL_sets_39 : decode cL_sets 39 = .ok (.astore 5, 2) := by decide +kernel
theorem dL_sets_41 : decode cL_sets 41 = .ok (.sipush (-1001), 3) := by decide +kernel
theorem dL_sets_44 : decode cL_sets 44 = .ok (.ireturn, 1) := by decide +kernel
theorem dL_sets_45 : decode cL_sets 45 = .ok (.astore 5, 2) := by decide +kernel
theorem dL_sets_47 : decode cL_sets 47 = .ok (.sipush (-1002), 3) := by decide +kernel
theorem dL_sets_50 : decode cL_sets 50 = .ok (.ireturn, 1) := by decide +kernel
theorem dL_one_0 : decode cL_one 0 = .ok (.iload_n 2, 1) := by decide +kernel
theorem dL_one_1 : decode cL_one 1 = .ok (.tableswitch 95 0 7 #[47, 53, 59, 65, 71, 77, 83, 89], 47) := by decide +kernel
theorem dL_one_48 : decode cL_one 48 = .ok (.aload_n 0, 1) := by decide +kernel
theorem dL_one_49 : decode cL_one 49 = .ok (.iload_n 1, 1) := by decide +kernel
theorem dL_one_50 : decode cL_one 50 = .ok (.invokevirtual 37, 3) := by decide +kernel
theorem dL_one_53 : decode cL_one 53 = .ok (.ireturn, 1) := by decide +kernel
theorem dL_one_54 : decode cL_one 54 = .ok (.aload_n 0, 1) := by decide +kernel
theorem dL_one_55 : decode cL_one 55 = .ok (.iload_n 1, 1) := by decide +kernel
theorem dL_one_56 : decode cL_one 56 = .ok (.invokevirtual 40, 3) := by decide +kernel
theorem dL_one_59 : decode cL_one 59 = .ok (.ireturn, 1) := by decide +kernel
theorem dL_one_60 : decode cL_one 60 = .ok (.aload_n 0, 1) := by decide +kernel
theorem dL_one_61 : decode cL_one 61 = .ok (.iload_n 1, 1) := by decide +kernel
theorem dL_one_62 : decode cL_one 62 = .ok (.invokevirtual 43, 3) := by decide +kernel
theorem dL_one_65 : decode cL_one 65 = .ok (.ireturn, 1) := by decide +kernel
theorem dL_one_66 : decode cL_one 66 = .ok (.aload_n 0, 1) := by decide +kernel
theorem dL_one_67 : decode cL_one 67 = .ok (.iload_n 1, 1) := by decide +kernel
theorem dL_one_68 : decode cL_one 68 = .ok (.invokevirtual 46, 3) := by decide +kernel
theorem dL_one_71 : decode cL_one 71 = .ok (.ireturn, 1) := by decide +kernel
theorem dL_one_72 : decode cL_one 72 = .ok (.aload_n 0, 1) := by decide +kernel
theorem dL_one_73 : decode cL_one 73 = .ok (.iload_n 1, 1) := by decide +kernel
theorem dL_one_74 : decode cL_one 74 = .ok (.invokevirtual 49, 3) := by decide +kernel
theorem dL_one_77 : decode cL_one 77 = .ok (.ireturn, 1) := by decide +kernel
theorem dL_one_78 : decode cL_one 78 = .ok (.aload_n 0, 1) := by decide +kernel
theorem dL_one_79 : decode cL_one 79 = .ok (.iload_n 1, 1) := by decide +kernel
theorem dL_one_80 : decode cL_one 80 = .ok (.invokevirtual 52, 3) := by decide +kernel
theorem dL_one_83 : decode cL_one 83 = .ok (.ireturn, 1) := by decide +kernel
theorem dL_one_84 : decode cL_one 84 = .ok (.aload_n 0, 1) := by decide +kernel
theorem dL_one_85 : decode cL_one 85 = .ok (.iload_n 1, 1) := by decide +kernel
theorem dL_one_86 : decode cL_one 86 = .ok (.invokevirtual 55, 3) := by decide +kernel
theorem dL_one_89 : decode cL_one 89 = .ok (.ireturn, 1) := by decide +kernel
theorem dL_one_90 : decode cL_one 90 = .ok (.aload_n 0, 1) := by decide +kernel
theorem dL_one_91 : decode cL_one 91 = .ok (.iload_n 1, 1) := by decide +kernel
theorem dL_one_92 : decode cL_one 92 = .ok (.invokevirtual 58, 3) := by decide +kernel
theorem dL_one_95 : decode cL_one 95 = .ok (.ireturn, 1) := by decide +kernel
theorem dL_one_96 : decode cL_one 96 = .ok (.aload_n 0, 1) := by decide +kernel
theorem dL_one_97 : decode cL_one 97 = .ok (.iload_n 1, 1) := by decide +kernel
theorem dL_one_98 : decode cL_one 98 = .ok (.invokevirtual 61, 3) := by decide +kernel
theorem dL_one_101 : decode cL_one 101 = .ok (.ifCond .eq 7, 3) := by decide +kernel
theorem dL_one_104 : decode cL_one 104 = .ok (.iconst 1, 1) := by decide +kernel
theorem dL_one_105 : decode cL_one 105 = .ok (.goto 4, 3) := by decide +kernel
theorem dL_one_108 : decode cL_one 108 = .ok (.iconst 0, 1) := by decide +kernel
theorem dL_one_109 : decode cL_one 109 = .ok (.ireturn, 1) := by decide +kernel
theorem dL_one_110 : decode cL_one 110 = .ok (.astore_n 3, 1) := by decide +kernel
theorem dL_one_111 : decode cL_one 111 = .ok (.sipush (-1001), 3) := by decide +kernel
theorem dL_one_114 : decode cL_one 114 = .ok (.ireturn, 1) := by decide +kernel
theorem dL_pair_0 : decode cL_pair 0 = .ok (.iload_n 3, 1) := by decide +kernel
theorem dL_pair_1 : decode cL_pair 1 = .ok (.ifCond .ne 12, 3) := by decide +kernel
theorem dL_pair_4 : decode cL_pair 4 = .ok (.aload_n 0, 1) := by decide +kernel
theorem dL_pair_5 : decode cL_pair 5 = .ok (.iload_n 1, 1) := by decide +kernel
theorem dL_pair_6 : decode cL_pair 6 = .ok (.iload_n 2, 1) := by decide +kernel
theorem dL_pair_7 : decode cL_pair 7 = .ok (.invokevirtual 65, 3) := by decide +kernel
theorem dL_pair_10 : decode cL_pair 10 = .ok (.goto 59, 3) := by decide +kernel
theorem dL_pair_13 : decode cL_pair 13 = .ok (.iload_n 3, 1) := by decide +kernel
theorem dL_pair_14 : decode cL_pair 14 = .ok (.iconst 1, 1) := by decide +kernel
theorem dL_pair_15 : decode cL_pair 15 = .ok (.if_icmp .ne 12, 3) := by decide +kernel
theorem dL_pair_18 : decode cL_pair 18 = .ok (.aload_n 0, 1) := by decide +kernel
theorem dL_pair_19 : decode cL_pair 19 = .ok (.iload_n 1, 1) := by decide +kernel
theorem dL_pair_20 : decode cL_pair 20 = .ok (.iload_n 2, 1) := by decide +kernel
theorem dL_pair_21 : decode cL_pair 21 = .ok (.invokevirtual 68, 3) := by decide +kernel
theorem dL_pair_24 : decode cL_pair 24 = .ok (.goto 45, 3) := by decide +kernel
theorem dL_pair_27 : decode cL_pair 27 = .ok (.iload_n 3, 1) := by decide +kernel
theorem dL_pair_28 : decode cL_pair 28 = .ok (.iconst 2, 1) := by decide +kernel
theorem dL_pair_29 : decode cL_pair 29 = .ok (.if_icmp .ne 20, 3) := by decide +kernel
theorem dL_pair_32 : decode cL_pair 32 = .ok (.aload_n 0, 1) := by decide +kernel
theorem dL_pair_33 : decode cL_pair 33 = .ok (.iload_n 1, 1) := by decide +kernel
theorem dL_pair_34 : decode cL_pair 34 = .ok (.iload_n 2, 1) := by decide +kernel
theorem dL_pair_35 : decode cL_pair 35 = .ok (.invokevirtual 71, 3) := by decide +kernel
theorem dL_pair_38 : decode cL_pair 38 = .ok (.ifCond .eq 7, 3) := by decide +kernel
theorem dL_pair_41 : decode cL_pair 41 = .ok (.iconst 1, 1) := by decide +kernel
theorem dL_pair_42 : decode cL_pair 42 = .ok (.goto 27, 3) := by decide +kernel
theorem dL_pair_45 : decode cL_pair 45 = .ok (.iconst 0, 1) := by decide +kernel
theorem dL_pair_46 : decode cL_pair 46 = .ok (.goto 23, 3) := by decide +kernel
theorem dL_pair_49 : decode cL_pair 49 = .ok (.iload_n 3, 1) := by decide +kernel
theorem dL_pair_50 : decode cL_pair 50 = .ok (.iconst 3, 1) := by decide +kernel
theorem dL_pair_51 : decode cL_pair 51 = .ok (.if_icmp .ne 12, 3) := by decide +kernel
theorem dL_pair_54 : decode cL_pair 54 = .ok (.aload_n 0, 1) := by decide +kernel
theorem dL_pair_55 : decode cL_pair 55 = .ok (.iload_n 1, 1) := by decide +kernel
theorem dL_pair_56 : decode cL_pair 56 = .ok (.iload_n 2, 1) := by decide +kernel
theorem dL_pair_57 : decode cL_pair 57 = .ok (.invokevirtual 75, 3) := by decide +kernel
theorem dL_pair_60 : decode cL_pair 60 = .ok (.goto 9, 3) := by decide +kernel
theorem dL_pair_63 : decode cL_pair 63 = .ok (.aload_n 0, 1) := by decide +kernel
theorem dL_pair_64 : decode cL_pair 64 = .ok (.iload_n 1, 1) := by decide +kernel
theorem dL_pair_65 : decode cL_pair 65 = .ok (.iload_n 2, 1) := by decide +kernel
theorem dL_pair_66 : decode cL_pair 66 = .ok (.invokevirtual 78, 3) := by decide +kernel
theorem dL_pair_69 : decode cL_pair 69 = .ok (.ireturn, 1) := by decide +kernel
theorem dL_pair_70 : decode cL_pair 70 = .ok (.astore 4, 2) := by decide +kernel
theorem dL_pair_72 : decode cL_pair 72 = .ok (.sipush (-1001), 3) := by decide +kernel
theorem dL_pair_75 : decode cL_pair 75 = .ok (.ireturn, 1) := by decide +kernel
theorem dL_pair_76 : decode cL_pair 76 = .ok (.astore 4, 2) := by decide +kernel
theorem dL_pair_78 : decode cL_pair 78 = .ok (.sipush (-1002), 3) := by decide +kernel
theorem dL_pair_81 : decode cL_pair 81 = .ok (.ireturn, 1) := by decide +kernel
theorem dL_pair_82 : decode cL_pair 82 = .ok (.astore 4, 2) := by decide +kernel
theorem dL_pair_84 : decode cL_pair 84 = .ok (.sipush (-1003), 3) := by decide +kernel
theorem dL_pair_87 : decode cL_pair 87 = .ok (.ireturn, 1) := by decide +kernel
theorem dL_pair_88 : decode cL_pair 88 = .ok (.astore 4, 2) := by decide +kernel
theorem dL_pair_90 : decode cL_pair 90 = .ok (.sipush (-1004), 3) := by decide +kernel
theorem dL_pair_93 : decode cL_pair 93 = .ok (.ireturn, 1) := by decide +kernel
theorem dL_key_0 : decode cL_key 0 = .ok (.iload_n 3, 1) := by decide +kernel
theorem dL_key_1 : decode cL_key 1 = .ok (.ifCond .eq 12, 3) := by decide +kernel
theorem dL_key_4 : decode cL_key 4 = .ok (.aload_n 0, 1) := by decide +kernel
theorem dL_key_5 : decode cL_key 5 = .ok (.iload_n 1, 1) := by decide +kernel
theorem dL_key_6 : decode cL_key 6 = .ok (.iload_n 2, 1) := by decide +kernel
theorem dL_key_7 : decode cL_key 7 = .ok (.invokevirtual 83, 3) := by decide +kernel
theorem dL_key_10 : decode cL_key 10 = .ok (.goto 9, 3) := by decide +kernel
theorem dL_key_13 : decode cL_key 13 = .ok (.aload_n 0, 1) := by decide +kernel
theorem dL_key_14 : decode cL_key 14 = .ok (.iload_n 1, 1) := by decide +kernel
theorem dL_key_15 : decode cL_key 15 = .ok (.iload_n 2, 1) := by decide +kernel
theorem dL_key_16 : decode cL_key 16 = .ok (.invokevirtual 86, 3) := by decide +kernel
theorem dL_key_19 : decode cL_key 19 = .ok (.ireturn, 1) := by decide +kernel
theorem dL_key_20 : decode cL_key 20 = .ok (.astore 4, 2) := by decide +kernel
theorem dL_key_22 : decode cL_key 22 = .ok (.sipush (-1001), 3) := by decide +kernel
theorem dL_key_25 : decode cL_key 25 = .ok (.ireturn, 1) := by decide +kernel
theorem dL_key_26 : decode cL_key 26 = .ok (.astore 4, 2) := by decide +kernel
theorem dL_key_28 : decode cL_key 28 = .ok (.sipush (-1002), 3) := by decide +kernel
theorem dL_key_31 : decode cL_key 31 = .ok (.ireturn, 1) := by decide +kernel
theorem dL_shared_0 : decode cL_shared 0 = .ok (.aload_n 0, 1) := by decide +kernel
theorem dL_shared_1 : decode cL_shared 1 = .ok (.iload_n 1, 1) := by decide +kernel
theorem dL_shared_2 : decode cL_shared 2 = .ok (.invokevirtual 89, 3) := by decide +kernel
theorem dL_shared_5 : decode cL_shared 5 = .ok (.ireturn, 1) := by decide +kernel
theorem dL_shared_6 : decode cL_shared 6 = .ok (.astore_n 2, 1) := by decide +kernel
theorem dL_shared_7 : decode cL_shared 7 = .ok (.sipush (-1001), 3) := by decide +kernel
theorem dL_shared_10 : decode cL_shared 10 = .ok (.ireturn, 1) := by decide +kernel
theorem dL_fact_0 : decode cL_fact 0 = .ok (.iload_n 3, 1) := by decide +kernel
theorem dL_fact_1 : decode cL_fact 1 = .ok (.ifCond .ne 12, 3) := by decide +kernel
theorem dL_fact_4 : decode cL_fact 4 = .ok (.aload_n 0, 1) := by decide +kernel
theorem dL_fact_5 : decode cL_fact 5 = .ok (.iload_n 1, 1) := by decide +kernel
theorem dL_fact_6 : decode cL_fact 6 = .ok (.iload_n 2, 1) := by decide +kernel
theorem dL_fact_7 : decode cL_fact 7 = .ok (.invokevirtual 92, 3) := by decide +kernel
theorem dL_fact_10 : decode cL_fact 10 = .ok (.goto 23, 3) := by decide +kernel
theorem dL_fact_13 : decode cL_fact 13 = .ok (.iload_n 3, 1) := by decide +kernel
theorem dL_fact_14 : decode cL_fact 14 = .ok (.iconst 1, 1) := by decide +kernel
theorem dL_fact_15 : decode cL_fact 15 = .ok (.if_icmp .ne 12, 3) := by decide +kernel
theorem dL_fact_18 : decode cL_fact 18 = .ok (.aload_n 0, 1) := by decide +kernel
theorem dL_fact_19 : decode cL_fact 19 = .ok (.iload_n 1, 1) := by decide +kernel
theorem dL_fact_20 : decode cL_fact 20 = .ok (.iload_n 2, 1) := by decide +kernel
theorem dL_fact_21 : decode cL_fact 21 = .ok (.invokevirtual 95, 3) := by decide +kernel
theorem dL_fact_24 : decode cL_fact 24 = .ok (.goto 9, 3) := by decide +kernel
theorem dL_fact_27 : decode cL_fact 27 = .ok (.aload_n 0, 1) := by decide +kernel
theorem dL_fact_28 : decode cL_fact 28 = .ok (.iload_n 1, 1) := by decide +kernel
theorem dL_fact_29 : decode cL_fact 29 = .ok (.iload_n 2, 1) := by decide +kernel
theorem dL_fact_30 : decode cL_fact 30 = .ok (.invokevirtual 98, 3) := by decide +kernel
theorem dL_fact_33 : decode cL_fact 33 = .ok (.ireturn, 1) := by decide +kernel
theorem dL_fact_34 : decode cL_fact 34 = .ok (.astore 4, 2) := by decide +kernel
theorem dL_fact_36 : decode cL_fact 36 = .ok (.sipush (-1001), 3) := by decide +kernel
theorem dL_fact_39 : decode cL_fact 39 = .ok (.ireturn, 1) := by decide +kernel
theorem dL_fact_40 : decode cL_fact 40 = .ok (.astore 4, 2) := by decide +kernel
theorem dL_fact_42 : decode cL_fact 42 = .ok (.sipush (-1002), 3) := by decide +kernel
theorem dL_fact_45 : decode cL_fact 45 = .ok (.ireturn, 1) := by decide +kernel
theorem dL_agreement_0 : decode cL_agreement 0 = .ok (.aload_n 0, 1) := by decide +kernel
theorem dL_agreement_1 : decode cL_agreement 1 = .ok (.iload_n 1, 1) := by decide +kernel
theorem dL_agreement_2 : decode cL_agreement 2 = .ok (.iload_n 2, 1) := by decide +kernel
theorem dL_agreement_3 : decode cL_agreement 3 = .ok (.invokevirtual 101, 3) := by decide +kernel
theorem dL_agreement_6 : decode cL_agreement 6 = .ok (.freturn, 1) := by decide +kernel
theorem dL_agreement_7 : decode cL_agreement 7 = .ok (.astore_n 3, 1) := by decide +kernel
theorem dL_agreement_8 : decode cL_agreement 8 = .ok (.ldc 105, 2) := by decide +kernel
theorem dL_agreement_10 : decode cL_agreement 10 = .ok (.freturn, 1) := by decide +kernel
theorem dL_agreement_11 : decode cL_agreement 11 = .ok (.astore_n 3, 1) := by decide +kernel
theorem dL_agreement_12 : decode cL_agreement 12 = .ok (.ldc 106, 2) := by decide +kernel
theorem dL_agreement_14 : decode cL_agreement 14 = .ok (.freturn, 1) := by decide +kernel
theorem dL_days_0 : decode cL_days 0 = .ok (.iload_n 2, 1) := by decide +kernel
theorem dL_days_1 : decode cL_days 1 = .ok (.ifCond .eq 11, 3) := by decide +kernel
theorem dL_days_4 : decode cL_days 4 = .ok (.aload_n 0, 1) := by decide +kernel
theorem dL_days_5 : decode cL_days 5 = .ok (.iload_n 1, 1) := by decide +kernel
theorem dL_days_6 : decode cL_days 6 = .ok (.invokevirtual 107, 3) := by decide +kernel
theorem dL_days_9 : decode cL_days 9 = .ok (.goto 8, 3) := by decide +kernel
theorem dL_days_12 : decode cL_days 12 = .ok (.aload_n 0, 1) := by decide +kernel
theorem dL_days_13 : decode cL_days 13 = .ok (.iload_n 1, 1) := by decide +kernel
theorem dL_days_14 : decode cL_days 14 = .ok (.invokevirtual 110, 3) := by decide +kernel
theorem dL_days_17 : decode cL_days 17 = .ok (.ireturn, 1) := by decide +kernel
theorem dL_days_18 : decode cL_days 18 = .ok (.astore_n 3, 1) := by decide +kernel
theorem dL_days_19 : decode cL_days 19 = .ok (.sipush (-1001), 3) := by decide +kernel
theorem dL_days_22 : decode cL_days 22 = .ok (.ireturn, 1) := by decide +kernel
theorem dL_sum_0 : decode cL_sum 0 = .ok (.aload_n 0, 1) := by decide +kernel
theorem dL_sum_1 : decode cL_sum 1 = .ok (.invokevirtual 113, 3) := by decide +kernel
theorem dL_sum_4 : decode cL_sum 4 = .ok (.i2l, 1) := by decide +kernel
theorem dL_sum_5 : decode cL_sum 5 = .ok (.ldc2_w 117, 3) := by decide +kernel
theorem dL_sum_8 : decode cL_sum 8 = .ok (.aload_n 0, 1) := by decide +kernel
theorem dL_sum_9 : decode cL_sum 9 = .ok (.invokevirtual 119, 3) := by decide +kernel
theorem dL_sum_12 : decode cL_sum 12 = .ok (.i2l, 1) := by decide +kernel
theorem dL_sum_13 : decode cL_sum 13 = .ok (.lmul, 1) := by decide +kernel
theorem dL_sum_14 : decode cL_sum 14 = .ok (.ladd, 1) := by decide +kernel
theorem dL_sum_15 : decode cL_sum 15 = .ok (.ldc2_w 122, 3) := by decide +kernel
theorem dL_sum_18 : decode cL_sum 18 = .ok (.aload_n 0, 1) := by decide +kernel
theorem dL_sum_19 : decode cL_sum 19 = .ok (.invokevirtual 124, 3) := by decide +kernel
theorem dL_sum_22 : decode cL_sum 22 = .ok (.lmul, 1) := by decide +kernel
theorem dL_sum_23 : decode cL_sum 23 = .ok (.ladd, 1) := by decide +kernel
theorem dL_sum_24 : decode cL_sum 24 = .ok (.ldc2_w 128, 3) := by decide +kernel
theorem dL_sum_27 : decode cL_sum 27 = .ok (.aload_n 0, 1) := by decide +kernel
theorem dL_sum_28 : decode cL_sum 28 = .ok (.invokevirtual 130, 3) := by decide +kernel
theorem dL_sum_31 : decode cL_sum 31 = .ok (.i2l, 1) := by decide +kernel
theorem dL_sum_32 : decode cL_sum 32 = .ok (.lmul, 1) := by decide +kernel
theorem dL_sum_33 : decode cL_sum 33 = .ok (.ladd, 1) := by decide +kernel
theorem dL_sum_34 : decode cL_sum 34 = .ok (.ldc2_w 133, 3) := by decide +kernel
theorem dL_sum_37 : decode cL_sum 37 = .ok (.aload_n 0, 1) := by decide +kernel
theorem dL_sum_38 : decode cL_sum 38 = .ok (.invokevirtual 135, 3) := by decide +kernel
theorem dL_sum_41 : decode cL_sum 41 = .ok (.i2l, 1) := by decide +kernel
theorem dL_sum_42 : decode cL_sum 42 = .ok (.lmul, 1) := by decide +kernel
theorem dL_sum_43 : decode cL_sum 43 = .ok (.ladd, 1) := by decide +kernel
theorem dL_sum_44 : decode cL_sum 44 = .ok (.ldc2_w 138, 3) := by decide +kernel
theorem dL_sum_47 : decode cL_sum 47 = .ok (.aload_n 0, 1) := by decide +kernel
theorem dL_sum_48 : decode cL_sum 48 = .ok (.invokevirtual 140, 3) := by decide +kernel
theorem dL_sum_51 : decode cL_sum 51 = .ok (.i2l, 1) := by decide +kernel
theorem dL_sum_52 : decode cL_sum 52 = .ok (.lmul, 1) := by decide +kernel
theorem dL_sum_53 : decode cL_sum 53 = .ok (.ladd, 1) := by decide +kernel
theorem dL_sum_54 : decode cL_sum 54 = .ok (.lstore_n 1, 1) := by decide +kernel
theorem dL_sum_55 : decode cL_sum 55 = .ok (.iconst 0, 1) := by decide +kernel
theorem dL_sum_56 : decode cL_sum 56 = .ok (.istore_n 3, 1) := by decide +kernel
theorem dL_sum_57 : decode cL_sum 57 = .ok (.iload_n 3, 1) := by decide +kernel
theorem dL_sum_58 : decode cL_sum 58 = .ok (.bipush 24, 2) := by decide +kernel
theorem dL_sum_60 : decode cL_sum 60 = .ok (.if_icmp .ge 93, 3) := by decide +kernel
theorem dL_sum_63 : decode cL_sum 63 = .ok (.ldc2_w 117, 3) := by decide +kernel
theorem dL_sum_66 : decode cL_sum 66 = .ok (.lload_n 1, 1) := by decide +kernel
theorem dL_sum_67 : decode cL_sum 67 = .ok (.lmul, 1) := by decide +kernel
theorem dL_sum_68 : decode cL_sum 68 = .ok (.aload_n 0, 1) := by decide +kernel
theorem dL_sum_69 : decode cL_sum 69 = .ok (.iload_n 3, 1) := by decide +kernel
theorem dL_sum_70 : decode cL_sum 70 = .ok (.iconst 2, 1) := by decide +kernel
theorem dL_sum_71 : decode cL_sum 71 = .ok (.invokestatic 143, 3) := by decide +kernel
theorem dL_sum_74 : decode cL_sum 74 = .ok (.i2l, 1) := by decide +kernel
theorem dL_sum_75 : decode cL_sum 75 = .ok (.ladd, 1) := by decide +kernel
theorem dL_sum_76 : decode cL_sum 76 = .ok (.ldc2_w 149, 3) := by decide +kernel
theorem dL_sum_79 : decode cL_sum 79 = .ok (.aload_n 0, 1) := by decide +kernel
theorem dL_sum_80 : decode cL_sum 80 = .ok (.iload_n 3, 1) := by decide +kernel
theorem dL_sum_81 : decode cL_sum 81 = .ok (.iconst 3, 1) := by decide +kernel
theorem dL_sum_82 : decode cL_sum 82 = .ok (.invokestatic 143, 3) := by decide +kernel
theorem dL_sum_85 : decode cL_sum 85 = .ok (.i2l, 1) := by decide +kernel
theorem dL_sum_86 : decode cL_sum 86 = .ok (.lmul, 1) := by decide +kernel
theorem dL_sum_87 : decode cL_sum 87 = .ok (.ladd, 1) := by decide +kernel
theorem dL_sum_88 : decode cL_sum 88 = .ok (.ldc2_w 151, 3) := by decide +kernel
theorem dL_sum_91 : decode cL_sum 91 = .ok (.aload_n 0, 1) := by decide +kernel
theorem dL_sum_92 : decode cL_sum 92 = .ok (.iload_n 3, 1) := by decide +kernel
theorem dL_sum_93 : decode cL_sum 93 = .ok (.bipush 6, 2) := by decide +kernel
theorem dL_sum_95 : decode cL_sum 95 = .ok (.invokestatic 143, 3) := by decide +kernel
theorem dL_sum_98 : decode cL_sum 98 = .ok (.i2l, 1) := by decide +kernel
theorem dL_sum_99 : decode cL_sum 99 = .ok (.lmul, 1) := by decide +kernel
theorem dL_sum_100 : decode cL_sum 100 = .ok (.ladd, 1) := by decide +kernel
theorem dL_sum_101 : decode cL_sum 101 = .ok (.lstore_n 1, 1) := by decide +kernel
theorem dL_sum_102 : decode cL_sum 102 = .ok (.iconst 0, 1) := by decide +kernel
theorem dL_sum_103 : decode cL_sum 103 = .ok (.istore 4, 2) := by decide +kernel
theorem dL_sum_105 : decode cL_sum 105 = .ok (.iload 4, 2) := by decide +kernel
theorem dL_sum_107 : decode cL_sum 107 = .ok (.iconst 3, 1) := by decide +kernel
theorem dL_sum_108 : decode cL_sum 108 = .ok (.if_icmp .ge 39, 3) := by decide +kernel
theorem dL_sum_111 : decode cL_sum 111 = .ok (.ldc2_w 117, 3) := by decide +kernel
theorem dL_sum_114 : decode cL_sum 114 = .ok (.lload_n 1, 1) := by decide +kernel
theorem dL_sum_115 : decode cL_sum 115 = .ok (.lmul, 1) := by decide +kernel
theorem dL_sum_116 : decode cL_sum 116 = .ok (.aload_n 0, 1) := by decide +kernel
theorem dL_sum_117 : decode cL_sum 117 = .ok (.iload_n 3, 1) := by decide +kernel
theorem dL_sum_118 : decode cL_sum 118 = .ok (.iload 4, 2) := by decide +kernel
theorem dL_sum_120 : decode cL_sum 120 = .ok (.iconst 0, 1) := by decide +kernel
theorem dL_sum_121 : decode cL_sum 121 = .ok (.invokestatic 153, 3) := by decide +kernel
theorem dL_sum_124 : decode cL_sum 124 = .ok (.i2l, 1) := by decide +kernel
theorem dL_sum_125 : decode cL_sum 125 = .ok (.ladd, 1) := by decide +kernel
theorem dL_sum_126 : decode cL_sum 126 = .ok (.ldc2_w 149, 3) := by decide +kernel
theorem dL_sum_129 : decode cL_sum 129 = .ok (.aload_n 0, 1) := by decide +kernel
theorem dL_sum_130 : decode cL_sum 130 = .ok (.iload_n 3, 1) := by decide +kernel
theorem dL_sum_131 : decode cL_sum 131 = .ok (.iload 4, 2) := by decide +kernel
theorem dL_sum_133 : decode cL_sum 133 = .ok (.iconst 2, 1) := by decide +kernel
theorem dL_sum_134 : decode cL_sum 134 = .ok (.invokestatic 156, 3) := by decide +kernel
theorem dL_sum_137 : decode cL_sum 137 = .ok (.i2l, 1) := by decide +kernel
theorem dL_sum_138 : decode cL_sum 138 = .ok (.lmul, 1) := by decide +kernel
theorem dL_sum_139 : decode cL_sum 139 = .ok (.ladd, 1) := by decide +kernel
theorem dL_sum_140 : decode cL_sum 140 = .ok (.lstore_n 1, 1) := by decide +kernel
theorem dL_sum_141 : decode cL_sum 141 = .ok (.iinc 4 1, 3) := by decide +kernel
theorem dL_sum_144 : decode cL_sum 144 = .ok (.goto (-39), 3) := by decide +kernel
theorem dL_sum_147 : decode cL_sum 147 = .ok (.iinc 3 1, 3) := by decide +kernel
theorem dL_sum_150 : decode cL_sum 150 = .ok (.goto (-93), 3) := by decide +kernel
theorem dL_sum_153 : decode cL_sum 153 = .ok (.lload_n 1, 1) := by decide +kernel
theorem dL_sum_154 : decode cL_sum 154 = .ok (.lreturn, 1) := by decide +kernel
theorem dL_isSound_0 : decode cL_isSound 0 = .ok (.iconst 0, 1) := by decide +kernel
theorem dL_isSound_1 : decode cL_isSound 1 = .ok (.istore_n 2, 1) := by decide +kernel
theorem dL_isSound_2 : decode cL_isSound 2 = .ok (.iconst 0, 1) := by decide +kernel
theorem dL_isSound_3 : decode cL_isSound 3 = .ok (.istore_n 3, 1) := by decide +kernel
theorem dL_isSound_4 : decode cL_isSound 4 = .ok (.iconst 0, 1) := by decide +kernel
theorem dL_isSound_5 : decode cL_isSound 5 = .ok (.istore 4, 2) := by decide +kernel
theorem dL_isSound_7 : decode cL_isSound 7 = .ok (.iload 4, 2) := by decide +kernel
theorem dL_isSound_9 : decode cL_isSound 9 = .ok (.bipush 24, 2) := by decide +kernel
theorem dL_isSound_11 : decode cL_isSound 11 = .ok (.if_icmp .ge 333, 3) := by decide +kernel
theorem dL_isSound_14 : decode cL_isSound 14 = .ok (.aload_n 0, 1) := by decide +kernel
theorem dL_isSound_15 : decode cL_isSound 15 = .ok (.iload 4, 2) := by decide +kernel
theorem dL_isSound_17 : decode cL_isSound 17 = .ok (.iconst 3, 1) := by decide +kernel
theorem dL_isSound_18 : decode cL_isSound 18 = .ok (.invokestatic 143, 3) := by decide +kernel
theorem dL_isSound_21 : decode cL_isSound 21 = .ok (.istore 5, 2) := by decide +kernel
theorem dL_isSound_23 : decode cL_isSound 23 = .ok (.iload 5, 2) := by decide +kernel
theorem dL_isSound_25 : decode cL_isSound 25 = .ok (.aload_n 0, 1) := by decide +kernel
theorem dL_isSound_26 : decode cL_isSound 26 = .ok (.iload 4, 2) := by decide +kernel
theorem dL_isSound_28 : decode cL_isSound 28 = .ok (.iconst 4, 1) := by decide +kernel
theorem dL_isSound_29 : decode cL_isSound 29 = .ok (.invokestatic 143, 3) := by decide +kernel
theorem dL_isSound_32 : decode cL_isSound 32 = .ok (.if_icmp .eq 5, 3) := by decide +kernel
theorem dL_isSound_35 : decode cL_isSound 35 = .ok (.iconst 0, 1) := by decide +kernel
theorem dL_isSound_36 : decode cL_isSound 36 = .ok (.ireturn, 1) := by decide +kernel
theorem dL_isSound_37 : decode cL_isSound 37 = .ok (.iload 5, 2) := by decide +kernel
theorem dL_isSound_39 : decode cL_isSound 39 = .ok (.ifCond .ge 6, 3) := by decide +kernel
theorem dL_isSound_42 : decode cL_isSound 42 = .ok (.goto 296, 3) := by decide +kernel
theorem dL_isSound_45 : decode cL_isSound 45 = .ok (.iinc 3 1, 3) := by decide +kernel
theorem dL_isSound_48 : decode cL_isSound 48 = .ok (.iload_n 2, 1) := by decide +kernel
theorem dL_isSound_49 : decode cL_isSound 49 = .ok (.iload 5, 2) := by decide +kernel
theorem dL_isSound_51 : decode cL_isSound 51 = .ok (.iload 4, 2) := by decide +kernel
theorem dL_isSound_53 : decode cL_isSound 53 = .ok (.if_icmp .ne 7, 3) := by decide +kernel
theorem dL_isSound_56 : decode cL_isSound 56 = .ok (.iconst 1, 1) := by decide +kernel
theorem dL_isSound_57 : decode cL_isSound 57 = .ok (.goto 4, 3) := by decide +kernel
theorem dL_isSound_60 : decode cL_isSound 60 = .ok (.iconst 0, 1) := by decide +kernel
theorem dL_isSound_61 : decode cL_isSound 61 = .ok (.iadd, 1) := by decide +kernel
theorem dL_isSound_62 : decode cL_isSound 62 = .ok (.istore_n 2, 1) := by decide +kernel
theorem dL_isSound_63 : decode cL_isSound 63 = .ok (.aload_n 0, 1) := by decide +kernel
theorem dL_isSound_64 : decode cL_isSound 64 = .ok (.iload 4, 2) := by decide +kernel
theorem dL_isSound_66 : decode cL_isSound 66 = .ok (.iconst 5, 1) := by decide +kernel
theorem dL_isSound_67 : decode cL_isSound 67 = .ok (.invokestatic 143, 3) := by decide +kernel
theorem dL_isSound_70 : decode cL_isSound 70 = .ok (.istore 6, 2) := by decide +kernel
theorem dL_isSound_72 : decode cL_isSound 72 = .ok (.iload 5, 2) := by decide +kernel
theorem dL_isSound_74 : decode cL_isSound 74 = .ok (.iload 4, 2) := by decide +kernel
theorem dL_isSound_76 : decode cL_isSound 76 = .ok (.if_icmp .gt 43, 3) := by decide +kernel
theorem dL_isSound_79 : decode cL_isSound 79 = .ok (.aload_n 0, 1) := by decide +kernel
theorem dL_isSound_80 : decode cL_isSound 80 = .ok (.iload 5, 2) := by decide +kernel
theorem dL_isSound_82 : decode cL_isSound 82 = .ok (.iconst 3, 1) := by decide +kernel
theorem dL_isSound_83 : decode cL_isSound 83 = .ok (.invokestatic 143, 3) := by decide +kernel
theorem dL_isSound_86 : decode cL_isSound 86 = .ok (.iload 5, 2) := by decide +kernel
theorem dL_isSound_88 : decode cL_isSound 88 = .ok (.if_icmp .ne 31, 3) := by decide +kernel
theorem dL_isSound_91 : decode cL_isSound 91 = .ok (.aload_n 0, 1) := by decide +kernel
theorem dL_isSound_92 : decode cL_isSound 92 = .ok (.iload 4, 2) := by decide +kernel
theorem dL_isSound_94 : decode cL_isSound 94 = .ok (.iconst 0, 1) := by decide +kernel
theorem dL_isSound_95 : decode cL_isSound 95 = .ok (.iconst 1, 1) := by decide +kernel
theorem dL_isSound_96 : decode cL_isSound 96 = .ok (.invokestatic 153, 3) := by decide +kernel
theorem dL_isSound_99 : decode cL_isSound 99 = .ok (.iload 5, 2) := by decide +kernel
theorem dL_isSound_101 : decode cL_isSound 101 = .ok (.if_icmp .ne 18, 3) := by decide +kernel
theorem dL_isSound_104 : decode cL_isSound 104 = .ok (.aload_n 0, 1) := by decide +kernel
theorem dL_isSound_105 : decode cL_isSound 105 = .ok (.iload 4, 2) := by decide +kernel
theorem dL_isSound_107 : decode cL_isSound 107 = .ok (.iload 6, 2) := by decide +kernel
theorem dL_isSound_109 : decode cL_isSound 109 = .ok (.iconst 1, 1) := by decide +kernel
theorem dL_isSound_110 : decode cL_isSound 110 = .ok (.invokestatic 153, 3) := by decide +kernel
theorem dL_isSound_113 : decode cL_isSound 113 = .ok (.sipush (-1002), 3) := by decide +kernel
theorem dL_isSound_116 : decode cL_isSound 116 = .ok (.if_icmp .eq 5, 3) := by decide +kernel
theorem dL_isSound_119 : decode cL_isSound 119 = .ok (.iconst 0, 1) := by decide +kernel
theorem dL_isSound_120 : decode cL_isSound 120 = .ok (.ireturn, 1) := by decide +kernel
theorem dL_isSound_121 : decode cL_isSound 121 = .ok (.aload_n 0, 1) := by decide +kernel
theorem dL_isSound_122 : decode cL_isSound 122 = .ok (.iload 4, 2) := by decide +kernel
theorem dL_isSound_124 : decode cL_isSound 124 = .ok (.iload_n 1, 1) := by decide +kernel
theorem dL_isSound_125 : decode cL_isSound 125 = .ok (.iload 6, 2) := by decide +kernel
theorem dL_isSound_127 : decode cL_isSound 127 = .ok (.irem, 1) := by decide +kernel
theorem dL_isSound_128 : decode cL_isSound 128 = .ok (.iconst 1, 1) := by decide +kernel
theorem dL_isSound_129 : decode cL_isSound 129 = .ok (.invokestatic 153, 3) := by decide +kernel
theorem dL_isSound_132 : decode cL_isSound 132 = .ok (.istore 7, 2) := by decide +kernel
theorem dL_isSound_134 : decode cL_isSound 134 = .ok (.aload_n 0, 1) := by decide +kernel
theorem dL_isSound_135 : decode cL_isSound 135 = .ok (.iload 7, 2) := by decide +kernel
theorem dL_isSound_137 : decode cL_isSound 137 = .ok (.iconst 3, 1) := by decide +kernel
theorem dL_isSound_138 : decode cL_isSound 138 = .ok (.invokestatic 143, 3) := by decide +kernel
theorem dL_isSound_141 : decode cL_isSound 141 = .ok (.iload 5, 2) := by decide +kernel
theorem dL_isSound_143 : decode cL_isSound 143 = .ok (.if_icmp .ne 16, 3) := by decide +kernel
theorem dL_isSound_146 : decode cL_isSound 146 = .ok (.aload_n 0, 1) := by decide +kernel
theorem dL_isSound_147 : decode cL_isSound 147 = .ok (.iload 4, 2) := by decide +kernel
theorem dL_isSound_149 : decode cL_isSound 149 = .ok (.iload 7, 2) := by decide +kernel
theorem dL_isSound_151 : decode cL_isSound 151 = .ok (.iconst 2, 1) := by decide +kernel
theorem dL_isSound_152 : decode cL_isSound 152 = .ok (.invokestatic 159, 3) := by decide +kernel
theorem dL_isSound_155 : decode cL_isSound 155 = .ok (.iconst 1, 1) := by decide +kernel
theorem dL_isSound_156 : decode cL_isSound 156 = .ok (.if_icmp .eq 5, 3) := by decide +kernel
theorem dL_isSound_159 : decode cL_isSound 159 = .ok (.iconst 0, 1) := by decide +kernel
theorem dL_isSound_160 : decode cL_isSound 160 = .ok (.ireturn, 1) := by decide +kernel
theorem dL_isSound_161 : decode cL_isSound 161 = .ok (.iload 7, 2) := by decide +kernel
theorem dL_isSound_163 : decode cL_isSound 163 = .ok (.iload 4, 2) := by decide +kernel
theorem dL_isSound_165 : decode cL_isSound 165 = .ok (.if_icmp .ne 7, 3) := by decide +kernel
theorem dL_isSound_168 : decode cL_isSound 168 = .ok (.iconst 0, 1) := by decide +kernel
theorem dL_isSound_169 : decode cL_isSound 169 = .ok (.goto 12, 3) := by decide +kernel
theorem dL_isSound_172 : decode cL_isSound 172 = .ok (.aload_n 0, 1) := by decide +kernel
theorem dL_isSound_173 : decode cL_isSound 173 = .ok (.iload 4, 2) := by decide +kernel
theorem dL_isSound_175 : decode cL_isSound 175 = .ok (.iload 7, 2) := by decide +kernel
theorem dL_isSound_177 : decode cL_isSound 177 = .ok (.iconst 3, 1) := by decide +kernel
theorem dL_isSound_178 : decode cL_isSound 178 = .ok (.invokestatic 159, 3) := by decide +kernel
theorem dL_isSound_181 : decode cL_isSound 181 = .ok (.istore 8, 2) := by decide +kernel
theorem dL_isSound_183 : decode cL_isSound 183 = .ok (.iconst 0, 1) := by decide +kernel
theorem dL_isSound_184 : decode cL_isSound 184 = .ok (.istore 9, 2) := by decide +kernel
theorem dL_isSound_186 : decode cL_isSound 186 = .ok (.iload 9, 2) := by decide +kernel
theorem dL_isSound_188 : decode cL_isSound 188 = .ok (.iload 8, 2) := by decide +kernel
theorem dL_isSound_190 : decode cL_isSound 190 = .ok (.if_icmp .ge 56, 3) := by decide +kernel
theorem dL_isSound_193 : decode cL_isSound 193 = .ok (.aload_n 0, 1) := by decide +kernel
theorem dL_isSound_194 : decode cL_isSound 194 = .ok (.iload 4, 2) := by decide +kernel
theorem dL_isSound_196 : decode cL_isSound 196 = .ok (.iload 9, 2) := by decide +kernel
theorem dL_isSound_198 : decode cL_isSound 198 = .ok (.iconst 0, 1) := by decide +kernel
theorem dL_isSound_199 : decode cL_isSound 199 = .ok (.invokestatic 153, 3) := by decide +kernel
theorem dL_isSound_202 : decode cL_isSound 202 = .ok (.ifCond .lt 38, 3) := by decide +kernel
theorem dL_isSound_205 : decode cL_isSound 205 = .ok (.aload_n 0, 1) := by decide +kernel
theorem dL_isSound_206 : decode cL_isSound 206 = .ok (.iload 7, 2) := by decide +kernel
theorem dL_isSound_208 : decode cL_isSound 208 = .ok (.iload 9, 2) := by decide +kernel
theorem dL_isSound_210 : decode cL_isSound 210 = .ok (.iconst 0, 1) := by decide +kernel
theorem dL_isSound_211 : decode cL_isSound 211 = .ok (.invokestatic 153, 3) := by decide +kernel
theorem dL_isSound_214 : decode cL_isSound 214 = .ok (.ifCond .lt 26, 3) := by decide +kernel
theorem dL_isSound_217 : decode cL_isSound 217 = .ok (.aload_n 0, 1) := by decide +kernel
theorem dL_isSound_218 : decode cL_isSound 218 = .ok (.iload 4, 2) := by decide +kernel
theorem dL_isSound_220 : decode cL_isSound 220 = .ok (.iload 9, 2) := by decide +kernel
theorem dL_isSound_222 : decode cL_isSound 222 = .ok (.iconst 0, 1) := by decide +kernel
theorem dL_isSound_223 : decode cL_isSound 223 = .ok (.invokestatic 153, 3) := by decide +kernel
theorem dL_isSound_226 : decode cL_isSound 226 = .ok (.aload_n 0, 1) := by decide +kernel
theorem dL_isSound_227 : decode cL_isSound 227 = .ok (.iload 7, 2) := by decide +kernel
theorem dL_isSound_229 : decode cL_isSound 229 = .ok (.iload 9, 2) := by decide +kernel
theorem dL_isSound_231 : decode cL_isSound 231 = .ok (.iconst 0, 1) := by decide +kernel
theorem dL_isSound_232 : decode cL_isSound 232 = .ok (.invokestatic 153, 3) := by decide +kernel
theorem dL_isSound_235 : decode cL_isSound 235 = .ok (.if_icmp .eq 5, 3) := by decide +kernel
theorem dL_isSound_238 : decode cL_isSound 238 = .ok (.iconst 0, 1) := by decide +kernel
theorem dL_isSound_239 : decode cL_isSound 239 = .ok (.ireturn, 1) := by decide +kernel
theorem dL_isSound_240 : decode cL_isSound 240 = .ok (.iinc 9 1, 3) := by decide +kernel
theorem dL_isSound_243 : decode cL_isSound 243 = .ok (.goto (-57), 3) := by decide +kernel
theorem dL_isSound_246 : decode cL_isSound 246 = .ok (.iconst 0, 1) := by decide +kernel
theorem dL_isSound_247 : decode cL_isSound 247 = .ok (.istore 9, 2) := by decide +kernel
theorem dL_isSound_249 : decode cL_isSound 249 = .ok (.iload 9, 2) := by decide +kernel
theorem dL_isSound_251 : decode cL_isSound 251 = .ok (.iconst 3, 1) := by decide +kernel
theorem dL_isSound_252 : decode cL_isSound 252 = .ok (.if_icmp .ge 86, 3) := by decide +kernel
theorem dL_isSound_255 : decode cL_isSound 255 = .ok (.aload_n 0, 1) := by decide +kernel
theorem dL_isSound_256 : decode cL_isSound 256 = .ok (.iload 4, 2) := by decide +kernel
theorem dL_isSound_258 : decode cL_isSound 258 = .ok (.iload 9, 2) := by decide +kernel
theorem dL_isSound_260 : decode cL_isSound 260 = .ok (.iconst 2, 1) := by decide +kernel
theorem dL_isSound_261 : decode cL_isSound 261 = .ok (.invokestatic 156, 3) := by decide +kernel
theorem dL_isSound_264 : decode cL_isSound 264 = .ok (.istore 10, 2) := by decide +kernel
theorem dL_isSound_266 : decode cL_isSound 266 = .ok (.aload_n 0, 1) := by decide +kernel
theorem dL_isSound_267 : decode cL_isSound 267 = .ok (.iload 4, 2) := by decide +kernel
theorem dL_isSound_269 : decode cL_isSound 269 = .ok (.iload 9, 2) := by decide +kernel
theorem dL_isSound_271 : decode cL_isSound 271 = .ok (.iconst 0, 1) := by decide +kernel
theorem dL_isSound_272 : decode cL_isSound 272 = .ok (.invokestatic 156, 3) := by decide +kernel
theorem dL_isSound_275 : decode cL_isSound 275 = .ok (.aload_n 0, 1) := by decide +kernel
theorem dL_isSound_276 : decode cL_isSound 276 = .ok (.iload 4, 2) := by decide +kernel
theorem dL_isSound_278 : decode cL_isSound 278 = .ok (.iload 9, 2) := by decide +kernel
theorem dL_isSound_280 : decode cL_isSound 280 = .ok (.iconst 1, 1) := by decide +kernel
theorem dL_isSound_281 : decode cL_isSound 281 = .ok (.invokestatic 156, 3) := by decide +kernel
theorem dL_isSound_284 : decode cL_isSound 284 = .ok (.if_icmp .ne 46, 3) := by decide +kernel
theorem dL_isSound_287 : decode cL_isSound 287 = .ok (.iload 10, 2) := by decide +kernel
theorem dL_isSound_289 : decode cL_isSound 289 = .ok (.ifCond .lt 43, 3) := by decide +kernel
theorem dL_isSound_292 : decode cL_isSound 292 = .ok (.aload_n 0, 1) := by decide +kernel
theorem dL_isSound_293 : decode cL_isSound 293 = .ok (.iload 10, 2) := by decide +kernel
theorem dL_isSound_295 : decode cL_isSound 295 = .ok (.iconst 3, 1) := by decide +kernel
theorem dL_isSound_296 : decode cL_isSound 296 = .ok (.invokestatic 143, 3) := by decide +kernel
theorem dL_isSound_299 : decode cL_isSound 299 = .ok (.iload 5, 2) := by decide +kernel
theorem dL_isSound_301 : decode cL_isSound 301 = .ok (.if_icmp .ne 29, 3) := by decide +kernel
theorem dL_isSound_304 : decode cL_isSound 304 = .ok (.aload_n 0, 1) := by decide +kernel
theorem dL_isSound_305 : decode cL_isSound 305 = .ok (.iload 4, 2) := by decide +kernel
theorem dL_isSound_307 : decode cL_isSound 307 = .ok (.iload 9, 2) := by decide +kernel
theorem dL_isSound_309 : decode cL_isSound 309 = .ok (.invokestatic 162, 3) := by decide +kernel
theorem dL_isSound_312 : decode cL_isSound 312 = .ok (.fconst 0, 1) := by decide +kernel
theorem dL_isSound_313 : decode cL_isSound 313 = .ok (.fcmp .g, 1) := by decide +kernel
theorem dL_isSound_314 : decode cL_isSound 314 = .ok (.ifCond .le 16, 3) := by decide +kernel
theorem dL_isSound_317 : decode cL_isSound 317 = .ok (.aload_n 0, 1) := by decide +kernel
theorem dL_isSound_318 : decode cL_isSound 318 = .ok (.iload 4, 2) := by decide +kernel
theorem dL_isSound_320 : decode cL_isSound 320 = .ok (.iload 9, 2) := by decide +kernel
theorem dL_isSound_322 : decode cL_isSound 322 = .ok (.invokestatic 162, 3) := by decide +kernel
theorem dL_isSound_325 : decode cL_isSound 325 = .ok (.fconst 1, 1) := by decide +kernel
theorem dL_isSound_326 : decode cL_isSound 326 = .ok (.fcmp .l, 1) := by decide +kernel
theorem dL_isSound_327 : decode cL_isSound 327 = .ok (.ifCond .le 5, 3) := by decide +kernel
theorem dL_isSound_330 : decode cL_isSound 330 = .ok (.iconst 0, 1) := by decide +kernel
theorem dL_isSound_331 : decode cL_isSound 331 = .ok (.ireturn, 1) := by decide +kernel
theorem dL_isSound_332 : decode cL_isSound 332 = .ok (.iinc 9 1, 3) := by decide +kernel
theorem dL_isSound_335 : decode cL_isSound 335 = .ok (.goto (-86), 3) := by decide +kernel
theorem dL_isSound_338 : decode cL_isSound 338 = .ok (.iinc 4 1, 3) := by decide +kernel
theorem dL_isSound_341 : decode cL_isSound 341 = .ok (.goto (-334), 3) := by decide +kernel
theorem dL_isSound_344 : decode cL_isSound 344 = .ok (.aload_n 0, 1) := by decide +kernel
theorem dL_isSound_345 : decode cL_isSound 345 = .ok (.invokevirtual 140, 3) := by decide +kernel
theorem dL_isSound_348 : decode cL_isSound 348 = .ok (.istore 4, 2) := by decide +kernel
theorem dL_isSound_350 : decode cL_isSound 350 = .ok (.iload_n 2, 1) := by decide +kernel
theorem dL_isSound_351 : decode cL_isSound 351 = .ok (.aload_n 0, 1) := by decide +kernel
theorem dL_isSound_352 : decode cL_isSound 352 = .ok (.invokevirtual 119, 3) := by decide +kernel
theorem dL_isSound_355 : decode cL_isSound 355 = .ok (.if_icmp .ne 46, 3) := by decide +kernel
theorem dL_isSound_358 : decode cL_isSound 358 = .ok (.iload_n 3, 1) := by decide +kernel
theorem dL_isSound_359 : decode cL_isSound 359 = .ok (.aload_n 0, 1) := by decide +kernel
theorem dL_isSound_360 : decode cL_isSound 360 = .ok (.invokevirtual 113, 3) := by decide +kernel
theorem dL_isSound_363 : decode cL_isSound 363 = .ok (.if_icmp .ne 38, 3) := by decide +kernel
theorem dL_isSound_366 : decode cL_isSound 366 = .ok (.aload_n 0, 1) := by decide +kernel
theorem dL_isSound_367 : decode cL_isSound 367 = .ok (.invokevirtual 135, 3) := by decide +kernel
theorem dL_isSound_370 : decode cL_isSound 370 = .ok (.iload_n 2, 1) := by decide +kernel
theorem dL_isSound_371 : decode cL_isSound 371 = .ok (.if_icmp .gt 30, 3) := by decide +kernel
theorem dL_isSound_374 : decode cL_isSound 374 = .ok (.iload 4, 2) := by decide +kernel
theorem dL_isSound_376 : decode cL_isSound 376 = .ok (.aload_n 0, 1) := by decide +kernel
theorem dL_isSound_377 : decode cL_isSound 377 = .ok (.invokevirtual 165, 3) := by decide +kernel
theorem dL_isSound_380 : decode cL_isSound 380 = .ok (.if_icmp .ne 21, 3) := by decide +kernel
theorem dL_isSound_383 : decode cL_isSound 383 = .ok (.iload 4, 2) := by decide +kernel
theorem dL_isSound_385 : decode cL_isSound 385 = .ok (.ifCond .lt 12, 3) := by decide +kernel
theorem dL_isSound_388 : decode cL_isSound 388 = .ok (.iload 4, 2) := by decide +kernel
theorem dL_isSound_390 : decode cL_isSound 390 = .ok (.aload_n 0, 1) := by decide +kernel
theorem dL_isSound_391 : decode cL_isSound 391 = .ok (.invokevirtual 130, 3) := by decide +kernel
theorem dL_isSound_394 : decode cL_isSound 394 = .ok (.if_icmp .le 7, 3) := by decide +kernel
theorem dL_isSound_397 : decode cL_isSound 397 = .ok (.iconst 1, 1) := by decide +kernel
theorem dL_isSound_398 : decode cL_isSound 398 = .ok (.goto 4, 3) := by decide +kernel
theorem dL_isSound_401 : decode cL_isSound 401 = .ok (.iconst 0, 1) := by decide +kernel
theorem dL_isSound_402 : decode cL_isSound 402 = .ok (.ireturn, 1) := by decide +kernel
theorem dL_law_0 : decode cL_law 0 = .ok (.new 8, 3) := by decide +kernel
theorem dL_law_3 : decode cL_law 3 = .ok (.dup, 1) := by decide +kernel
theorem dL_law_4 : decode cL_law 4 = .ok (.invokespecial 168, 3) := by decide +kernel
theorem dL_law_7 : decode cL_law 7 = .ok (.astore_n 1, 1) := by decide +kernel
theorem dL_law_8 : decode cL_law 8 = .ok (.iconst 0, 1) := by decide +kernel
theorem dL_law_9 : decode cL_law 9 = .ok (.istore_n 2, 1) := by decide +kernel
theorem dL_law_10 : decode cL_law 10 = .ok (.iconst 0, 1) := by decide +kernel
theorem dL_law_11 : decode cL_law 11 = .ok (.istore_n 3, 1) := by decide +kernel
theorem dL_law_12 : decode cL_law 12 = .ok (.aload_n 0, 1) := by decide +kernel
theorem dL_law_13 : decode cL_law 13 = .ok (.iconst 0, 1) := by decide +kernel
theorem dL_law_14 : decode cL_law 14 = .ok (.invokestatic 169, 3) := by decide +kernel
theorem dL_law_17 : decode cL_law 17 = .ok (.bipush 58, 2) := by decide +kernel
theorem dL_law_19 : decode cL_law 19 = .ok (.invokestatic 173, 3) := by decide +kernel
theorem dL_law_22 : decode cL_law 22 = .ok (.istore 4, 2) := by decide +kernel
theorem dL_law_24 : decode cL_law 24 = .ok (.iconst 0, 1) := by decide +kernel
theorem dL_law_25 : decode cL_law 25 = .ok (.istore 5, 2) := by decide +kernel
theorem dL_law_27 : decode cL_law 27 = .ok (.iload 5, 2) := by decide +kernel
theorem dL_law_29 : decode cL_law 29 = .ok (.iload 4, 2) := by decide +kernel
theorem dL_law_31 : decode cL_law 31 = .ok (.if_icmp .ge 625, 3) := by decide +kernel
theorem dL_law_34 : decode cL_law 34 = .ok (.aload_n 0, 1) := by decide +kernel
theorem dL_law_35 : decode cL_law 35 = .ok (.iconst 1, 1) := by decide +kernel
theorem dL_law_36 : decode cL_law 36 = .ok (.iload 5, 2) := by decide +kernel
theorem dL_law_38 : decode cL_law 38 = .ok (.iadd, 1) := by decide +kernel
theorem dL_law_39 : decode cL_law 39 = .ok (.invokestatic 169, 3) := by decide +kernel
theorem dL_law_42 : decode cL_law 42 = .ok (.ldc 176, 2) := by decide +kernel
theorem dL_law_44 : decode cL_law 44 = .ok (.invokestatic 173, 3) := by decide +kernel
theorem dL_law_47 : decode cL_law 47 = .ok (.istore 6, 2) := by decide +kernel
theorem dL_law_49 : decode cL_law 49 = .ok (.iload 6, 2) := by decide +kernel
theorem dL_law_51 : decode cL_law 51 = .ok (.bipush 20, 2) := by decide +kernel
theorem dL_law_53 : decode cL_law 53 = .ok (.idiv, 1) := by decide +kernel
theorem dL_law_54 : decode cL_law 54 = .ok (.istore 7, 2) := by decide +kernel
theorem dL_law_56 : decode cL_law 56 = .ok (.iload 7, 2) := by decide +kernel
theorem dL_law_58 : decode cL_law 58 = .ok (.iconst 1, 1) := by decide +kernel
theorem dL_law_59 : decode cL_law 59 = .ok (.iload_n 2, 1) := by decide +kernel
theorem dL_law_60 : decode cL_law 60 = .ok (.invokestatic 177, 3) := by decide +kernel
theorem dL_law_63 : decode cL_law 63 = .ok (.irem, 1) := by decide +kernel
theorem dL_law_64 : decode cL_law 64 = .ok (.istore 8, 2) := by decide +kernel
theorem dL_law_66 : decode cL_law 66 = .ok (.iload 7, 2) := by decide +kernel
theorem dL_law_68 : decode cL_law 68 = .ok (.bipush 31, 2) := by decide +kernel
theorem dL_law_70 : decode cL_law 70 = .ok (.idiv, 1) := by decide +kernel
theorem dL_law_71 : decode cL_law 71 = .ok (.iconst 1, 1) := by decide +kernel
theorem dL_law_72 : decode cL_law 72 = .ok (.iload_n 2, 1) := by decide +kernel
theorem dL_law_73 : decode cL_law 73 = .ok (.invokestatic 177, 3) := by decide +kernel
theorem dL_law_76 : decode cL_law 76 = .ok (.irem, 1) := by decide +kernel
theorem dL_law_77 : decode cL_law 77 = .ok (.istore 9, 2) := by decide +kernel
theorem dL_law_79 : decode cL_law 79 = .ok (.iload 5, 2) := by decide +kernel
theorem dL_law_81 : decode cL_law 81 = .ok (.iconst 3, 1) := by decide +kernel
theorem dL_law_82 : decode cL_law 82 = .ok (.irem, 1) := by decide +kernel
theorem dL_law_83 : decode cL_law 83 = .ok (.ifCond .ne 7, 3) := by decide +kernel
theorem dL_law_86 : decode cL_law 86 = .ok (.iconst 1, 1) := by decide +kernel
theorem dL_law_87 : decode cL_law 87 = .ok (.goto 4, 3) := by decide +kernel
theorem dL_law_90 : decode cL_law 90 = .ok (.iconst 0, 1) := by decide +kernel
theorem dL_law_91 : decode cL_law 91 = .ok (.istore 10, 2) := by decide +kernel
theorem dL_law_93 : decode cL_law 93 = .ok (.iload 10, 2) := by decide +kernel
theorem dL_law_95 : decode cL_law 95 = .ok (.ifCond .eq 10, 3) := by decide +kernel
theorem dL_law_98 : decode cL_law 98 = .ok (.aload_n 1, 1) := by decide +kernel
theorem dL_law_99 : decode cL_law 99 = .ok (.invokestatic 182, 3) := by decide +kernel
theorem dL_law_102 : decode cL_law 102 = .ok (.goto 4, 3) := by decide +kernel
theorem dL_law_105 : decode cL_law 105 = .ok (.lconst 0, 1) := by decide +kernel
theorem dL_law_106 : decode cL_law 106 = .ok (.lstore 11, 2) := by decide +kernel
theorem dL_law_108 : decode cL_law 108 = .ok (.iconst 0, 1) := by decide +kernel
theorem dL_law_109 : decode cL_law 109 = .ok (.istore 13, 2) := by decide +kernel
theorem dL_law_111 : decode cL_law 111 = .ok (.iload 5, 2) := by decide +kernel
theorem dL_law_113 : decode cL_law 113 = .ok (.iconst 2, 1) := by decide +kernel
theorem dL_law_114 : decode cL_law 114 = .ok (.if_icmp .ge 7, 3) := by decide +kernel
theorem dL_law_117 : decode cL_law 117 = .ok (.iconst 0, 1) := by decide +kernel
theorem dL_law_118 : decode cL_law 118 = .ok (.goto 19, 3) := by decide +kernel
theorem dL_law_121 : decode cL_law 121 = .ok (.iload 5, 2) := by decide +kernel
theorem dL_law_123 : decode cL_law 123 = .ok (.bipush 6, 2) := by decide +kernel
theorem dL_law_125 : decode cL_law 125 = .ok (.if_icmp .ge 7, 3) := by decide +kernel
theorem dL_law_128 : decode cL_law 128 = .ok (.iconst 1, 1) := by decide +kernel
theorem dL_law_129 : decode cL_law 129 = .ok (.goto 8, 3) := by decide +kernel
theorem dL_law_132 : decode cL_law 132 = .ok (.iload 6, 2) := by decide +kernel
theorem dL_law_134 : decode cL_law 134 = .ok (.bipush 20, 2) := by decide +kernel
theorem dL_law_136 : decode cL_law 136 = .ok (.irem, 1) := by decide +kernel
theorem dL_law_137 : decode cL_law 137 = .ok (.istore 14, 2) := by decide +kernel
theorem dL_law_139 : decode cL_law 139 = .ok (.iload 14, 2) := by decide +kernel
theorem dL_law_141 : decode cL_law 141 = .ok (.iconst 1, 1) := by decide +kernel
theorem dL_law_142 : decode cL_law 142 = .ok (.if_icmp .ge 33, 3) := by decide +kernel
theorem dL_law_145 : decode cL_law 145 = .ok (.aload_n 1, 1) := by decide +kernel
theorem dL_law_146 : decode cL_law 146 = .ok (.iconst (-1), 1) := by decide +kernel
theorem dL_law_147 : decode cL_law 147 = .ok (.iconst 1, 1) := by decide +kernel
theorem dL_law_148 : decode cL_law 148 = .ok (.iload 7, 2) := by decide +kernel
theorem dL_law_150 : decode cL_law 150 = .ok (.bipush 9, 2) := by decide +kernel
theorem dL_law_152 : decode cL_law 152 = .ok (.irem, 1) := by decide +kernel
theorem dL_law_153 : decode cL_law 153 = .ok (.iadd, 1) := by decide +kernel
theorem dL_law_154 : decode cL_law 154 = .ok (.invokestatic 186, 3) := by decide +kernel
theorem dL_law_157 : decode cL_law 157 = .ok (.istore 13, 2) := by decide +kernel
theorem dL_law_159 : decode cL_law 159 = .ok (.iload_n 3, 1) := by decide +kernel
theorem dL_law_160 : decode cL_law 160 = .ok (.iload 13, 2) := by decide +kernel
theorem dL_law_162 : decode cL_law 162 = .ok (.ifCond .lt 7, 3) := by decide +kernel
theorem dL_law_165 : decode cL_law 165 = .ok (.iconst 1, 1) := by decide +kernel
theorem dL_law_166 : decode cL_law 166 = .ok (.goto 4, 3) := by decide +kernel
theorem dL_law_169 : decode cL_law 169 = .ok (.iconst 0, 1) := by decide +kernel
theorem dL_law_170 : decode cL_law 170 = .ok (.iadd, 1) := by decide +kernel
theorem dL_law_171 : decode cL_law 171 = .ok (.istore_n 3, 1) := by decide +kernel
theorem dL_law_172 : decode cL_law 172 = .ok (.goto 434, 3) := by decide +kernel
theorem dL_law_175 : decode cL_law 175 = .ok (.iload 14, 2) := by decide +kernel
theorem dL_law_177 : decode cL_law 177 = .ok (.bipush 7, 2) := by decide +kernel
theorem dL_law_179 : decode cL_law 179 = .ok (.if_icmp .ge 88, 3) := by decide +kernel
theorem dL_law_182 : decode cL_law 182 = .ok (.aload_n 1, 1) := by decide +kernel
theorem dL_law_183 : decode cL_law 183 = .ok (.iload 7, 2) := by decide +kernel
theorem dL_law_185 : decode cL_law 185 = .ok (.iload_n 3, 1) := by decide +kernel
theorem dL_law_186 : decode cL_law 186 = .ok (.irem, 1) := by decide +kernel
theorem dL_law_187 : decode cL_law 187 = .ok (.iload 7, 2) := by decide +kernel
theorem dL_law_189 : decode cL_law 189 = .ok (.bipush 7, 2) := by decide +kernel
theorem dL_law_191 : decode cL_law 191 = .ok (.idiv, 1) := by decide +kernel
theorem dL_law_192 : decode cL_law 192 = .ok (.bipush 8, 2) := by decide +kernel
theorem dL_law_194 : decode cL_law 194 = .ok (.irem, 1) := by decide +kernel
theorem dL_law_195 : decode cL_law 195 = .ok (.iconst 3, 1) := by decide +kernel
theorem dL_law_196 : decode cL_law 196 = .ok (.if_icmp .le 7, 3) := by decide +kernel
theorem dL_law_199 : decode cL_law 199 = .ok (.iconst (-1), 1) := by decide +kernel
theorem dL_law_200 : decode cL_law 200 = .ok (.goto 11, 3) := by decide +kernel
theorem dL_law_203 : decode cL_law 203 = .ok (.iload 7, 2) := by decide +kernel
theorem dL_law_205 : decode cL_law 205 = .ok (.bipush 7, 2) := by decide +kernel
theorem dL_law_207 : decode cL_law 207 = .ok (.idiv, 1) := by decide +kernel
theorem dL_law_208 : decode cL_law 208 = .ok (.bipush 8, 2) := by decide +kernel
theorem dL_law_210 : decode cL_law 210 = .ok (.irem, 1) := by decide +kernel
theorem dL_law_211 : decode cL_law 211 = .ok (.iload 7, 2) := by decide +kernel
theorem dL_law_213 : decode cL_law 213 = .ok (.bipush 56, 2) := by decide +kernel
theorem dL_law_215 : decode cL_law 215 = .ok (.idiv, 1) := by decide +kernel
theorem dL_law_216 : decode cL_law 216 = .ok (.bipush 8, 2) := by decide +kernel
theorem dL_law_218 : decode cL_law 218 = .ok (.irem, 1) := by decide +kernel
theorem dL_law_219 : decode cL_law 219 = .ok (.iconst 5, 1) := by decide +kernel
theorem dL_law_220 : decode cL_law 220 = .ok (.if_icmp .le 7, 3) := by decide +kernel
theorem dL_law_223 : decode cL_law 223 = .ok (.iconst (-1), 1) := by decide +kernel
theorem dL_law_224 : decode cL_law 224 = .ok (.goto 11, 3) := by decide +kernel
theorem dL_law_227 : decode cL_law 227 = .ok (.iload 7, 2) := by decide +kernel
theorem dL_law_229 : decode cL_law 229 = .ok (.bipush 56, 2) := by decide +kernel
theorem dL_law_231 : decode cL_law 231 = .ok (.idiv, 1) := by decide +kernel
theorem dL_law_232 : decode cL_law 232 = .ok (.bipush 8, 2) := by decide +kernel
theorem dL_law_234 : decode cL_law 234 = .ok (.irem, 1) := by decide +kernel
theorem dL_law_235 : decode cL_law 235 = .ok (.iload 7, 2) := by decide +kernel
theorem dL_law_237 : decode cL_law 237 = .ok (.sipush 448, 3) := by decide +kernel
theorem dL_law_240 : decode cL_law 240 = .ok (.idiv, 1) := by decide +kernel
theorem dL_law_241 : decode cL_law 241 = .ok (.bipush 8, 2) := by decide +kernel
theorem dL_law_243 : decode cL_law 243 = .ok (.irem, 1) := by decide +kernel
theorem dL_law_244 : decode cL_law 244 = .ok (.iconst 1, 1) := by decide +kernel
theorem dL_law_245 : decode cL_law 245 = .ok (.isub, 1) := by decide +kernel
theorem dL_law_246 : decode cL_law 246 = .ok (.invokestatic 189, 3) := by decide +kernel
theorem dL_law_249 : decode cL_law 249 = .ok (.istore 13, 2) := by decide +kernel
theorem dL_law_251 : decode cL_law 251 = .ok (.iload_n 2, 1) := by decide +kernel
theorem dL_law_252 : decode cL_law 252 = .ok (.iload 13, 2) := by decide +kernel
theorem dL_law_254 : decode cL_law 254 = .ok (.ifCond .lt 7, 3) := by decide +kernel
theorem dL_law_257 : decode cL_law 257 = .ok (.iconst 1, 1) := by decide +kernel
theorem dL_law_258 : decode cL_law 258 = .ok (.goto 4, 3) := by decide +kernel
theorem dL_law_261 : decode cL_law 261 = .ok (.iconst 0, 1) := by decide +kernel
theorem dL_law_262 : decode cL_law 262 = .ok (.iadd, 1) := by decide +kernel
theorem dL_law_263 : decode cL_law 263 = .ok (.istore_n 2, 1) := by decide +kernel
theorem dL_law_264 : decode cL_law 264 = .ok (.goto 342, 3) := by decide +kernel
theorem dL_law_267 : decode cL_law 267 = .ok (.iload 14, 2) := by decide +kernel
theorem dL_law_269 : decode cL_law 269 = .ok (.bipush 10, 2) := by decide +kernel
theorem dL_law_271 : decode cL_law 271 = .ok (.if_icmp .ge 32, 3) := by decide +kernel
theorem dL_law_274 : decode cL_law 274 = .ok (.aload_n 1, 1) := by decide +kernel
theorem dL_law_275 : decode cL_law 275 = .ok (.iload 8, 2) := by decide +kernel
theorem dL_law_277 : decode cL_law 277 = .ok (.iload 7, 2) := by decide +kernel
theorem dL_law_279 : decode cL_law 279 = .ok (.bipush 24, 2) := by decide +kernel
theorem dL_law_281 : decode cL_law 281 = .ok (.idiv, 1) := by decide +kernel
theorem dL_law_282 : decode cL_law 282 = .ok (.iconst 4, 1) := by decide +kernel
theorem dL_law_283 : decode cL_law 283 = .ok (.irem, 1) := by decide +kernel
theorem dL_law_284 : decode cL_law 284 = .ok (.iload 7, 2) := by decide +kernel
theorem dL_law_286 : decode cL_law 286 = .ok (.bipush 96, 2) := by decide +kernel
theorem dL_law_288 : decode cL_law 288 = .ok (.idiv, 1) := by decide +kernel
theorem dL_law_289 : decode cL_law 289 = .ok (.bipush 102, 2) := by decide +kernel
theorem dL_law_291 : decode cL_law 291 = .ok (.irem, 1) := by decide +kernel
theorem dL_law_292 : decode cL_law 292 = .ok (.iconst 1, 1) := by decide +kernel
theorem dL_law_293 : decode cL_law 293 = .ok (.isub, 1) := by decide +kernel
theorem dL_law_294 : decode cL_law 294 = .ok (.iconst 0, 1) := by decide +kernel
theorem dL_law_295 : decode cL_law 295 = .ok (.invokestatic 193, 3) := by decide +kernel
theorem dL_law_298 : decode cL_law 298 = .ok (.istore 13, 2) := by decide +kernel
theorem dL_law_300 : decode cL_law 300 = .ok (.goto 306, 3) := by decide +kernel
theorem dL_law_303 : decode cL_law 303 = .ok (.iload 14, 2) := by decide +kernel
theorem dL_law_305 : decode cL_law 305 = .ok (.bipush 12, 2) := by decide +kernel
theorem dL_law_307 : decode cL_law 307 = .ok (.if_icmp .ge 31, 3) := by decide +kernel
theorem dL_law_310 : decode cL_law 310 = .ok (.aload_n 1, 1) := by decide +kernel
theorem dL_law_311 : decode cL_law 311 = .ok (.iload 8, 2) := by decide +kernel
theorem dL_law_313 : decode cL_law 313 = .ok (.iload 7, 2) := by decide +kernel
theorem dL_law_315 : decode cL_law 315 = .ok (.bipush 24, 2) := by decide +kernel
theorem dL_law_317 : decode cL_law 317 = .ok (.idiv, 1) := by decide +kernel
theorem dL_law_318 : decode cL_law 318 = .ok (.iconst 4, 1) := by decide +kernel
theorem dL_law_319 : decode cL_law 319 = .ok (.irem, 1) := by decide +kernel
theorem dL_law_320 : decode cL_law 320 = .ok (.iload 7, 2) := by decide +kernel
theorem dL_law_322 : decode cL_law 322 = .ok (.bipush 96, 2) := by decide +kernel
theorem dL_law_324 : decode cL_law 324 = .ok (.idiv, 1) := by decide +kernel
theorem dL_law_325 : decode cL_law 325 = .ok (.iconst 5, 1) := by decide +kernel
theorem dL_law_326 : decode cL_law 326 = .ok (.irem, 1) := by decide +kernel
theorem dL_law_327 : decode cL_law 327 = .ok (.iconst 1, 1) := by decide +kernel
theorem dL_law_328 : decode cL_law 328 = .ok (.isub, 1) := by decide +kernel
theorem dL_law_329 : decode cL_law 329 = .ok (.iconst 1, 1) := by decide +kernel
theorem dL_law_330 : decode cL_law 330 = .ok (.invokestatic 193, 3) := by decide +kernel
theorem dL_law_333 : decode cL_law 333 = .ok (.istore 13, 2) := by decide +kernel
theorem dL_law_335 : decode cL_law 335 = .ok (.goto 271, 3) := by decide +kernel
theorem dL_law_338 : decode cL_law 338 = .ok (.iload 14, 2) := by decide +kernel
theorem dL_law_340 : decode cL_law 340 = .ok (.bipush 13, 2) := by decide +kernel
theorem dL_law_342 : decode cL_law 342 = .ok (.if_icmp .ge 15, 3) := by decide +kernel
theorem dL_law_345 : decode cL_law 345 = .ok (.aload_n 1, 1) := by decide +kernel
theorem dL_law_346 : decode cL_law 346 = .ok (.iload 8, 2) := by decide +kernel
theorem dL_law_348 : decode cL_law 348 = .ok (.iconst 0, 1) := by decide +kernel
theorem dL_law_349 : decode cL_law 349 = .ok (.invokestatic 143, 3) := by decide +kernel
theorem dL_law_352 : decode cL_law 352 = .ok (.istore 13, 2) := by decide +kernel
theorem dL_law_354 : decode cL_law 354 = .ok (.goto 252, 3) := by decide +kernel
theorem dL_law_357 : decode cL_law 357 = .ok (.iload 14, 2) := by decide +kernel
theorem dL_law_359 : decode cL_law 359 = .ok (.bipush 14, 2) := by decide +kernel
theorem dL_law_361 : decode cL_law 361 = .ok (.if_icmp .ge 59, 3) := by decide +kernel
theorem dL_law_364 : decode cL_law 364 = .ok (.aload_n 1, 1) := by decide +kernel
theorem dL_law_365 : decode cL_law 365 = .ok (.iload 8, 2) := by decide +kernel
theorem dL_law_367 : decode cL_law 367 = .ok (.bipush 7, 2) := by decide +kernel
theorem dL_law_369 : decode cL_law 369 = .ok (.invokestatic 143, 3) := by decide +kernel
theorem dL_law_372 : decode cL_law 372 = .ok (.istore 15, 2) := by decide +kernel
theorem dL_law_374 : decode cL_law 374 = .ok (.iload 7, 2) := by decide +kernel
theorem dL_law_376 : decode cL_law 376 = .ok (.iconst 2, 1) := by decide +kernel
theorem dL_law_377 : decode cL_law 377 = .ok (.irem, 1) := by decide +kernel
theorem dL_law_378 : decode cL_law 378 = .ok (.ifCond .ne 13, 3) := by decide +kernel
theorem dL_law_381 : decode cL_law 381 = .ok (.aload_n 1, 1) := by decide +kernel
theorem dL_law_382 : decode cL_law 382 = .ok (.iload 8, 2) := by decide +kernel
theorem dL_law_384 : decode cL_law 384 = .ok (.iconst 1, 1) := by decide +kernel
theorem dL_law_385 : decode cL_law 385 = .ok (.invokestatic 143, 3) := by decide +kernel
theorem dL_law_388 : decode cL_law 388 = .ok (.goto 4, 3) := by decide +kernel
theorem dL_law_391 : decode cL_law 391 = .ok (.iconst 0, 1) := by decide +kernel
theorem dL_law_392 : decode cL_law 392 = .ok (.istore 13, 2) := by decide +kernel
theorem dL_law_394 : decode cL_law 394 = .ok (.iload 7, 2) := by decide +kernel
theorem dL_law_396 : decode cL_law 396 = .ok (.iconst 2, 1) := by decide +kernel
theorem dL_law_397 : decode cL_law 397 = .ok (.irem, 1) := by decide +kernel
theorem dL_law_398 : decode cL_law 398 = .ok (.ifCond .ne 19, 3) := by decide +kernel
theorem dL_law_401 : decode cL_law 401 = .ok (.iload 13, 2) := by decide +kernel
theorem dL_law_403 : decode cL_law 403 = .ok (.ifCond .lt 14, 3) := by decide +kernel
theorem dL_law_406 : decode cL_law 406 = .ok (.aload_n 1, 1) := by decide +kernel
theorem dL_law_407 : decode cL_law 407 = .ok (.invokevirtual 119, 3) := by decide +kernel
theorem dL_law_410 : decode cL_law 410 = .ok (.iload 15, 2) := by decide +kernel
theorem dL_law_412 : decode cL_law 412 = .ok (.if_icmp .eq 5, 3) := by decide +kernel
theorem dL_law_415 : decode cL_law 415 = .ok (.iconst 0, 1) := by decide +kernel
theorem dL_law_416 : decode cL_law 416 = .ok (.ireturn, 1) := by decide +kernel
theorem dL_law_417 : decode cL_law 417 = .ok (.goto 189, 3) := by decide +kernel
theorem dL_law_420 : decode cL_law 420 = .ok (.iload 14, 2) := by decide +kernel
theorem dL_law_422 : decode cL_law 422 = .ok (.bipush 16, 2) := by decide +kernel
theorem dL_law_424 : decode cL_law 424 = .ok (.if_icmp .ge 33, 3) := by decide +kernel
theorem dL_law_427 : decode cL_law 427 = .ok (.aload_n 1, 1) := by decide +kernel
theorem dL_law_428 : decode cL_law 428 = .ok (.iload 8, 2) := by decide +kernel
theorem dL_law_430 : decode cL_law 430 = .ok (.iload 9, 2) := by decide +kernel
theorem dL_law_432 : decode cL_law 432 = .ok (.iconst 0, 1) := by decide +kernel
theorem dL_law_433 : decode cL_law 433 = .ok (.invokestatic 159, 3) := by decide +kernel
theorem dL_law_436 : decode cL_law 436 = .ok (.istore 13, 2) := by decide +kernel
theorem dL_law_438 : decode cL_law 438 = .ok (.iload 13, 2) := by decide +kernel
theorem dL_law_440 : decode cL_law 440 = .ok (.ifCond .lt 166, 3) := by decide +kernel
theorem dL_law_443 : decode cL_law 443 = .ok (.aload_n 1, 1) := by decide +kernel
theorem dL_law_444 : decode cL_law 444 = .ok (.iload 8, 2) := by decide +kernel
theorem dL_law_446 : decode cL_law 446 = .ok (.iload 9, 2) := by decide +kernel
theorem dL_law_448 : decode cL_law 448 = .ok (.iconst 2, 1) := by decide +kernel
theorem dL_law_449 : decode cL_law 449 = .ok (.invokestatic 159, 3) := by decide +kernel
theorem dL_law_452 : decode cL_law 452 = .ok (.ifCond .eq 154, 3) := by decide +kernel
theorem dL_law_455 : decode cL_law 455 = .ok (.iconst 0, 1) := by decide +kernel
theorem dL_law_456 : decode cL_law 456 = .ok (.ireturn, 1) := by decide +kernel
theorem dL_law_457 : decode cL_law 457 = .ok (.iload 14, 2) := by decide +kernel
theorem dL_law_459 : decode cL_law 459 = .ok (.bipush 17, 2) := by decide +kernel
theorem dL_law_461 : decode cL_law 461 = .ok (.if_icmp .ge 44, 3) := by decide +kernel
theorem dL_law_464 : decode cL_law 464 = .ok (.aload_n 1, 1) := by decide +kernel
theorem dL_law_465 : decode cL_law 465 = .ok (.iload 8, 2) := by decide +kernel
theorem dL_law_467 : decode cL_law 467 = .ok (.iload 9, 2) := by decide +kernel
theorem dL_law_469 : decode cL_law 469 = .ok (.iconst 4, 1) := by decide +kernel
theorem dL_law_470 : decode cL_law 470 = .ok (.invokestatic 159, 3) := by decide +kernel
theorem dL_law_473 : decode cL_law 473 = .ok (.istore 15, 2) := by decide +kernel
theorem dL_law_475 : decode cL_law 475 = .ok (.aload_n 1, 1) := by decide +kernel
theorem dL_law_476 : decode cL_law 476 = .ok (.iload 8, 2) := by decide +kernel
theorem dL_law_478 : decode cL_law 478 = .ok (.iload 9, 2) := by decide +kernel
theorem dL_law_480 : decode cL_law 480 = .ok (.iconst 1, 1) := by decide +kernel
theorem dL_law_481 : decode cL_law 481 = .ok (.invokestatic 159, 3) := by decide +kernel
theorem dL_law_484 : decode cL_law 484 = .ok (.istore 13, 2) := by decide +kernel
theorem dL_law_486 : decode cL_law 486 = .ok (.iload 13, 2) := by decide +kernel
theorem dL_law_488 : decode cL_law 488 = .ok (.ifCond .lt 14, 3) := by decide +kernel
theorem dL_law_491 : decode cL_law 491 = .ok (.aload_n 1, 1) := by decide +kernel
theorem dL_law_492 : decode cL_law 492 = .ok (.invokevirtual 119, 3) := by decide +kernel
theorem dL_law_495 : decode cL_law 495 = .ok (.iload 15, 2) := by decide +kernel
theorem dL_law_497 : decode cL_law 497 = .ok (.if_icmp .eq 5, 3) := by decide +kernel
theorem dL_law_500 : decode cL_law 500 = .ok (.iconst 0, 1) := by decide +kernel
theorem dL_law_501 : decode cL_law 501 = .ok (.ireturn, 1) := by decide +kernel
theorem dL_law_502 : decode cL_law 502 = .ok (.goto 104, 3) := by decide +kernel
theorem dL_law_505 : decode cL_law 505 = .ok (.iload 14, 2) := by decide +kernel
theorem dL_law_507 : decode cL_law 507 = .ok (.bipush 18, 2) := by decide +kernel
theorem dL_law_509 : decode cL_law 509 = .ok (.if_icmp .ge 18, 3) := by decide +kernel
theorem dL_law_512 : decode cL_law 512 = .ok (.aload_n 1, 1) := by decide +kernel
theorem dL_law_513 : decode cL_law 513 = .ok (.iload 7, 2) := by decide +kernel
theorem dL_law_515 : decode cL_law 515 = .ok (.bipush 40, 2) := by decide +kernel
theorem dL_law_517 : decode cL_law 517 = .ok (.irem, 1) := by decide +kernel
theorem dL_law_518 : decode cL_law 518 = .ok (.iconst 1, 1) := by decide +kernel
theorem dL_law_519 : decode cL_law 519 = .ok (.invokestatic 196, 3) := by decide +kernel
theorem dL_law_522 : decode cL_law 522 = .ok (.istore 13, 2) := by decide +kernel
theorem dL_law_524 : decode cL_law 524 = .ok (.goto 82, 3) := by decide +kernel
theorem dL_law_527 : decode cL_law 527 = .ok (.iload 14, 2) := by decide +kernel
theorem dL_law_529 : decode cL_law 529 = .ok (.bipush 19, 2) := by decide +kernel
theorem dL_law_531 : decode cL_law 531 = .ok (.if_icmp .ge 63, 3) := by decide +kernel
theorem dL_law_534 : decode cL_law 534 = .ok (.aload_n 1, 1) := by decide +kernel
theorem dL_law_535 : decode cL_law 535 = .ok (.iload 8, 2) := by decide +kernel
theorem dL_law_537 : decode cL_law 537 = .ok (.iload 7, 2) := by decide +kernel
theorem dL_law_539 : decode cL_law 539 = .ok (.iconst 3, 1) := by decide +kernel
theorem dL_law_540 : decode cL_law 540 = .ok (.irem, 1) := by decide +kernel
theorem dL_law_541 : decode cL_law 541 = .ok (.iload 7, 2) := by decide +kernel
theorem dL_law_543 : decode cL_law 543 = .ok (.bipush 9, 2) := by decide +kernel
theorem dL_law_545 : decode cL_law 545 = .ok (.idiv, 1) := by decide +kernel
theorem dL_law_546 : decode cL_law 546 = .ok (.iconst 5, 1) := by decide +kernel
theorem dL_law_547 : decode cL_law 547 = .ok (.irem, 1) := by decide +kernel
theorem dL_law_548 : decode cL_law 548 = .ok (.iconst 2, 1) := by decide +kernel
theorem dL_law_549 : decode cL_law 549 = .ok (.invokestatic 193, 3) := by decide +kernel
theorem dL_law_552 : decode cL_law 552 = .ok (.istore 15, 2) := by decide +kernel
theorem dL_law_554 : decode cL_law 554 = .ok (.aload_n 1, 1) := by decide +kernel
theorem dL_law_555 : decode cL_law 555 = .ok (.iload 8, 2) := by decide +kernel
theorem dL_law_557 : decode cL_law 557 = .ok (.iload 7, 2) := by decide +kernel
theorem dL_law_559 : decode cL_law 559 = .ok (.iconst 3, 1) := by decide +kernel
theorem dL_law_560 : decode cL_law 560 = .ok (.irem, 1) := by decide +kernel
theorem dL_law_561 : decode cL_law 561 = .ok (.iload 7, 2) := by decide +kernel
theorem dL_law_563 : decode cL_law 563 = .ok (.bipush 9, 2) := by decide +kernel
theorem dL_law_565 : decode cL_law 565 = .ok (.idiv, 1) := by decide +kernel
theorem dL_law_566 : decode cL_law 566 = .ok (.iconst 5, 1) := by decide +kernel
theorem dL_law_567 : decode cL_law 567 = .ok (.irem, 1) := by decide +kernel
theorem dL_law_568 : decode cL_law 568 = .ok (.iconst 0, 1) := by decide +kernel
theorem dL_law_569 : decode cL_law 569 = .ok (.invokestatic 193, 3) := by decide +kernel
theorem dL_law_572 : decode cL_law 572 = .ok (.istore 13, 2) := by decide +kernel
theorem dL_law_574 : decode cL_law 574 = .ok (.iload 13, 2) := by decide +kernel
theorem dL_law_576 : decode cL_law 576 = .ok (.iconst (-1), 1) := by decide +kernel
theorem dL_law_577 : decode cL_law 577 = .ok (.if_icmp .lt 14, 3) := by decide +kernel
theorem dL_law_580 : decode cL_law 580 = .ok (.aload_n 1, 1) := by decide +kernel
theorem dL_law_581 : decode cL_law 581 = .ok (.invokevirtual 119, 3) := by decide +kernel
theorem dL_law_584 : decode cL_law 584 = .ok (.iload 15, 2) := by decide +kernel
theorem dL_law_586 : decode cL_law 586 = .ok (.if_icmp .eq 5, 3) := by decide +kernel
theorem dL_law_589 : decode cL_law 589 = .ok (.iconst 0, 1) := by decide +kernel
theorem dL_law_590 : decode cL_law 590 = .ok (.ireturn, 1) := by decide +kernel
theorem dL_law_591 : decode cL_law 591 = .ok (.goto 15, 3) := by decide +kernel
theorem dL_law_594 : decode cL_law 594 = .ok (.aload_n 1, 1) := by decide +kernel
theorem dL_law_595 : decode cL_law 595 = .ok (.iload 7, 2) := by decide +kernel
theorem dL_law_597 : decode cL_law 597 = .ok (.bipush 20, 2) := by decide +kernel
theorem dL_law_599 : decode cL_law 599 = .ok (.irem, 1) := by decide +kernel
theorem dL_law_600 : decode cL_law 600 = .ok (.iconst 0, 1) := by decide +kernel
theorem dL_law_601 : decode cL_law 601 = .ok (.invokestatic 196, 3) := by decide +kernel
theorem dL_law_604 : decode cL_law 604 = .ok (.istore 13, 2) := by decide +kernel
theorem dL_law_606 : decode cL_law 606 = .ok (.iload 13, 2) := by decide +kernel
theorem dL_law_608 : decode cL_law 608 = .ok (.sipush (-1000), 3) := by decide +kernel
theorem dL_law_611 : decode cL_law 611 = .ok (.if_icmp .ge 18, 3) := by decide +kernel
theorem dL_law_614 : decode cL_law 614 = .ok (.iload 10, 2) := by decide +kernel
theorem dL_law_616 : decode cL_law 616 = .ok (.ifCond .eq 13, 3) := by decide +kernel
theorem dL_law_619 : decode cL_law 619 = .ok (.aload_n 1, 1) := by decide +kernel
theorem dL_law_620 : decode cL_law 620 = .ok (.invokestatic 182, 3) := by decide +kernel
theorem dL_law_623 : decode cL_law 623 = .ok (.lload 11, 2) := by decide +kernel
theorem dL_law_625 : decode cL_law 625 = .ok (.lcmp, 1) := by decide +kernel
theorem dL_law_626 : decode cL_law 626 = .ok (.ifCond .ne 22, 3) := by decide +kernel
theorem dL_law_629 : decode cL_law 629 = .ok (.iload 5, 2) := by decide +kernel
theorem dL_law_631 : decode cL_law 631 = .ok (.bipush 9, 2) := by decide +kernel
theorem dL_law_633 : decode cL_law 633 = .ok (.irem, 1) := by decide +kernel
theorem dL_law_634 : decode cL_law 634 = .ok (.bipush 8, 2) := by decide +kernel
theorem dL_law_636 : decode cL_law 636 = .ok (.if_icmp .ne 14, 3) := by decide +kernel
theorem dL_law_639 : decode cL_law 639 = .ok (.aload_n 1, 1) := by decide +kernel
theorem dL_law_640 : decode cL_law 640 = .ok (.iload 7, 2) := by decide +kernel
theorem dL_law_642 : decode cL_law 642 = .ok (.invokestatic 200, 3) := by decide +kernel
theorem dL_law_645 : decode cL_law 645 = .ok (.ifCond .ne 5, 3) := by decide +kernel
theorem dL_law_648 : decode cL_law 648 = .ok (.iconst 0, 1) := by decide +kernel
theorem dL_law_649 : decode cL_law 649 = .ok (.ireturn, 1) := by decide +kernel
theorem dL_law_650 : decode cL_law 650 = .ok (.iinc 5 1, 3) := by decide +kernel
theorem dL_law_653 : decode cL_law 653 = .ok (.goto (-626), 3) := by decide +kernel
theorem dL_law_656 : decode cL_law 656 = .ok (.aload_n 1, 1) := by decide +kernel
theorem dL_law_657 : decode cL_law 657 = .ok (.iload 4, 2) := by decide +kernel
theorem dL_law_659 : decode cL_law 659 = .ok (.invokestatic 200, 3) := by decide +kernel
theorem dL_law_662 : decode cL_law 662 = .ok (.ifCond .ne 5, 3) := by decide +kernel
theorem dL_law_665 : decode cL_law 665 = .ok (.iconst 0, 1) := by decide +kernel
theorem dL_law_666 : decode cL_law 666 = .ok (.ireturn, 1) := by decide +kernel
theorem dL_law_667 : decode cL_law 667 = .ok (.aload_n 1, 1) := by decide +kernel
theorem dL_law_668 : decode cL_law 668 = .ok (.invokestatic 182, 3) := by decide +kernel
theorem dL_law_671 : decode cL_law 671 = .ok (.lstore 5, 2) := by decide +kernel
theorem dL_law_673 : decode cL_law 673 = .ok (.aload_n 1, 1) := by decide +kernel
theorem dL_law_674 : decode cL_law 674 = .ok (.iconst (-1), 1) := by decide +kernel
theorem dL_law_675 : decode cL_law 675 = .ok (.iconst 0, 1) := by decide +kernel
theorem dL_law_676 : decode cL_law 676 = .ok (.invokestatic 186, 3) := by decide +kernel
theorem dL_law_679 : decode cL_law 679 = .ok (.sipush (-1002), 3) := by decide +kernel
theorem dL_law_682 : decode cL_law 682 = .ok (.if_icmp .ne 183, 3) := by decide +kernel
theorem dL_law_685 : decode cL_law 685 = .ok (.aload_n 1, 1) := by decide +kernel
theorem dL_law_686 : decode cL_law 686 = .ok (.iconst (-1), 1) := by decide +kernel
theorem dL_law_687 : decode cL_law 687 = .ok (.bipush 10, 2) := by decide +kernel
theorem dL_law_689 : decode cL_law 689 = .ok (.invokestatic 186, 3) := by decide +kernel
theorem dL_law_692 : decode cL_law 692 = .ok (.sipush (-1002), 3) := by decide +kernel
theorem dL_law_695 : decode cL_law 695 = .ok (.if_icmp .ne 170, 3) := by decide +kernel
theorem dL_law_698 : decode cL_law 698 = .ok (.aload_n 1, 1) := by decide +kernel
theorem dL_law_699 : decode cL_law 699 = .ok (.iload_n 3, 1) := by decide +kernel
theorem dL_law_700 : decode cL_law 700 = .ok (.iconst 0, 1) := by decide +kernel
theorem dL_law_701 : decode cL_law 701 = .ok (.invokestatic 186, 3) := by decide +kernel
theorem dL_law_704 : decode cL_law 704 = .ok (.sipush (-1001), 3) := by decide +kernel
theorem dL_law_707 : decode cL_law 707 = .ok (.if_icmp .ne 158, 3) := by decide +kernel
theorem dL_law_710 : decode cL_law 710 = .ok (.iload_n 3, 1) := by decide +kernel
theorem dL_law_711 : decode cL_law 711 = .ok (.ifCond .le 16, 3) := by decide +kernel
theorem dL_law_714 : decode cL_law 714 = .ok (.aload_n 1, 1) := by decide +kernel
theorem dL_law_715 : decode cL_law 715 = .ok (.iconst 0, 1) := by decide +kernel
theorem dL_law_716 : decode cL_law 716 = .ok (.bipush 10, 2) := by decide +kernel
theorem dL_law_718 : decode cL_law 718 = .ok (.invokestatic 186, 3) := by decide +kernel
theorem dL_law_721 : decode cL_law 721 = .ok (.sipush (-1002), 3) := by decide +kernel
theorem dL_law_724 : decode cL_law 724 = .ok (.if_icmp .ne 141, 3) := by decide +kernel
theorem dL_law_727 : decode cL_law 727 = .ok (.aload_n 1, 1) := by decide +kernel
theorem dL_law_728 : decode cL_law 728 = .ok (.iload_n 3, 1) := by decide +kernel
theorem dL_law_729 : decode cL_law 729 = .ok (.bipush 100, 2) := by decide +kernel
theorem dL_law_731 : decode cL_law 731 = .ok (.iconst 0, 1) := by decide +kernel
theorem dL_law_732 : decode cL_law 732 = .ok (.iconst 0, 1) := by decide +kernel
theorem dL_law_733 : decode cL_law 733 = .ok (.invokestatic 189, 3) := by decide +kernel
theorem dL_law_736 : decode cL_law 736 = .ok (.sipush (-1001), 3) := by decide +kernel
theorem dL_law_739 : decode cL_law 739 = .ok (.if_icmp .ne 126, 3) := by decide +kernel
theorem dL_law_742 : decode cL_law 742 = .ok (.iload_n 3, 1) := by decide +kernel
theorem dL_law_743 : decode cL_law 743 = .ok (.ifCond .le 18, 3) := by decide +kernel
theorem dL_law_746 : decode cL_law 746 = .ok (.aload_n 1, 1) := by decide +kernel
theorem dL_law_747 : decode cL_law 747 = .ok (.iconst 0, 1) := by decide +kernel
theorem dL_law_748 : decode cL_law 748 = .ok (.bipush (-2), 2) := by decide +kernel
theorem dL_law_750 : decode cL_law 750 = .ok (.iconst 0, 1) := by decide +kernel
theorem dL_law_751 : decode cL_law 751 = .ok (.iconst 0, 1) := by decide +kernel
theorem dL_law_752 : decode cL_law 752 = .ok (.invokestatic 189, 3) := by decide +kernel
theorem dL_law_755 : decode cL_law 755 = .ok (.sipush (-1002), 3) := by decide +kernel
theorem dL_law_758 : decode cL_law 758 = .ok (.if_icmp .ne 107, 3) := by decide +kernel
theorem dL_law_761 : decode cL_law 761 = .ok (.iload_n 3, 1) := by decide +kernel
theorem dL_law_762 : decode cL_law 762 = .ok (.ifCond .le 18, 3) := by decide +kernel
theorem dL_law_765 : decode cL_law 765 = .ok (.aload_n 1, 1) := by decide +kernel
theorem dL_law_766 : decode cL_law 766 = .ok (.iconst 0, 1) := by decide +kernel
theorem dL_law_767 : decode cL_law 767 = .ok (.iconst 0, 1) := by decide +kernel
theorem dL_law_768 : decode cL_law 768 = .ok (.iconst 0, 1) := by decide +kernel
theorem dL_law_769 : decode cL_law 769 = .ok (.bipush 100, 2) := by decide +kernel
theorem dL_law_771 : decode cL_law 771 = .ok (.invokestatic 189, 3) := by decide +kernel
theorem dL_law_774 : decode cL_law 774 = .ok (.sipush (-1002), 3) := by decide +kernel
theorem dL_law_777 : decode cL_law 777 = .ok (.if_icmp .ne 88, 3) := by decide +kernel
theorem dL_law_780 : decode cL_law 780 = .ok (.aload_n 1, 1) := by decide +kernel
theorem dL_law_781 : decode cL_law 781 = .ok (.bipush 24, 2) := by decide +kernel
theorem dL_law_783 : decode cL_law 783 = .ok (.iconst 0, 1) := by decide +kernel
theorem dL_law_784 : decode cL_law 784 = .ok (.bipush 100, 2) := by decide +kernel
theorem dL_law_786 : decode cL_law 786 = .ok (.iconst 0, 1) := by decide +kernel
theorem dL_law_787 : decode cL_law 787 = .ok (.invokestatic 193, 3) := by decide +kernel
theorem dL_law_790 : decode cL_law 790 = .ok (.sipush (-1001), 3) := by decide +kernel
theorem dL_law_793 : decode cL_law 793 = .ok (.if_icmp .ne 72, 3) := by decide +kernel
theorem dL_law_796 : decode cL_law 796 = .ok (.aload_n 1, 1) := by decide +kernel
theorem dL_law_797 : decode cL_law 797 = .ok (.iconst 0, 1) := by decide +kernel
theorem dL_law_798 : decode cL_law 798 = .ok (.iconst 3, 1) := by decide +kernel
theorem dL_law_799 : decode cL_law 799 = .ok (.sipush 1000, 3) := by decide +kernel
theorem dL_law_802 : decode cL_law 802 = .ok (.iconst 1, 1) := by decide +kernel
theorem dL_law_803 : decode cL_law 803 = .ok (.invokestatic 193, 3) := by decide +kernel
theorem dL_law_806 : decode cL_law 806 = .ok (.sipush (-1001), 3) := by decide +kernel
theorem dL_law_809 : decode cL_law 809 = .ok (.if_icmp .ne 56, 3) := by decide +kernel
theorem dL_law_812 : decode cL_law 812 = .ok (.aload_n 1, 1) := by decide +kernel
theorem dL_law_813 : decode cL_law 813 = .ok (.iconst 0, 1) := by decide +kernel
theorem dL_law_814 : decode cL_law 814 = .ok (.iconst (-1), 1) := by decide +kernel
theorem dL_law_815 : decode cL_law 815 = .ok (.bipush 100, 2) := by decide +kernel
theorem dL_law_817 : decode cL_law 817 = .ok (.iconst 2, 1) := by decide +kernel
theorem dL_law_818 : decode cL_law 818 = .ok (.invokestatic 193, 3) := by decide +kernel
theorem dL_law_821 : decode cL_law 821 = .ok (.sipush (-1001), 3) := by decide +kernel
theorem dL_law_824 : decode cL_law 824 = .ok (.if_icmp .ne 41, 3) := by decide +kernel
theorem dL_law_827 : decode cL_law 827 = .ok (.aload_n 1, 1) := by decide +kernel
theorem dL_law_828 : decode cL_law 828 = .ok (.bipush 24, 2) := by decide +kernel
theorem dL_law_830 : decode cL_law 830 = .ok (.iconst 0, 1) := by decide +kernel
theorem dL_law_831 : decode cL_law 831 = .ok (.invokestatic 143, 3) := by decide +kernel
theorem dL_law_834 : decode cL_law 834 = .ok (.sipush (-1001), 3) := by decide +kernel
theorem dL_law_837 : decode cL_law 837 = .ok (.if_icmp .ne 28, 3) := by decide +kernel
theorem dL_law_840 : decode cL_law 840 = .ok (.aload_n 1, 1) := by decide +kernel
theorem dL_law_841 : decode cL_law 841 = .ok (.iconst (-1), 1) := by decide +kernel
theorem dL_law_842 : decode cL_law 842 = .ok (.iconst 1, 1) := by decide +kernel
theorem dL_law_843 : decode cL_law 843 = .ok (.invokestatic 143, 3) := by decide +kernel
theorem dL_law_846 : decode cL_law 846 = .ok (.sipush (-1001), 3) := by decide +kernel
theorem dL_law_849 : decode cL_law 849 = .ok (.if_icmp .ne 16, 3) := by decide +kernel
theorem dL_law_852 : decode cL_law 852 = .ok (.aload_n 1, 1) := by decide +kernel
theorem dL_law_853 : decode cL_law 853 = .ok (.iload_n 2, 1) := by decide +kernel
theorem dL_law_854 : decode cL_law 854 = .ok (.bipush 7, 2) := by decide +kernel
theorem dL_law_856 : decode cL_law 856 = .ok (.invokestatic 143, 3) := by decide +kernel
theorem dL_law_859 : decode cL_law 859 = .ok (.sipush (-1001), 3) := by decide +kernel
theorem dL_law_862 : decode cL_law 862 = .ok (.if_icmp .eq 5, 3) := by decide +kernel
theorem dL_law_865 : decode cL_law 865 = .ok (.iconst 0, 1) := by decide +kernel
theorem dL_law_866 : decode cL_law 866 = .ok (.ireturn, 1) := by decide +kernel
theorem dL_law_867 : decode cL_law 867 = .ok (.aload_n 1, 1) := by decide +kernel
theorem dL_law_868 : decode cL_law 868 = .ok (.bipush 24, 2) := by decide +kernel
theorem dL_law_870 : decode cL_law 870 = .ok (.bipush 24, 2) := by decide +kernel
theorem dL_law_872 : decode cL_law 872 = .ok (.iconst 0, 1) := by decide +kernel
theorem dL_law_873 : decode cL_law 873 = .ok (.invokestatic 159, 3) := by decide +kernel
theorem dL_law_876 : decode cL_law 876 = .ok (.sipush (-1001), 3) := by decide +kernel
theorem dL_law_879 : decode cL_law 879 = .ok (.if_icmp .ne 197, 3) := by decide +kernel
theorem dL_law_882 : decode cL_law 882 = .ok (.aload_n 1, 1) := by decide +kernel
theorem dL_law_883 : decode cL_law 883 = .ok (.iconst 0, 1) := by decide +kernel
theorem dL_law_884 : decode cL_law 884 = .ok (.bipush 24, 2) := by decide +kernel
theorem dL_law_886 : decode cL_law 886 = .ok (.iconst 1, 1) := by decide +kernel
theorem dL_law_887 : decode cL_law 887 = .ok (.invokestatic 159, 3) := by decide +kernel
theorem dL_law_890 : decode cL_law 890 = .ok (.sipush (-1001), 3) := by decide +kernel
theorem dL_law_893 : decode cL_law 893 = .ok (.if_icmp .ne 183, 3) := by decide +kernel
theorem dL_law_896 : decode cL_law 896 = .ok (.aload_n 1, 1) := by decide +kernel
theorem dL_law_897 : decode cL_law 897 = .ok (.iconst (-1), 1) := by decide +kernel
theorem dL_law_898 : decode cL_law 898 = .ok (.iconst 0, 1) := by decide +kernel
theorem dL_law_899 : decode cL_law 899 = .ok (.iconst 2, 1) := by decide +kernel
theorem dL_law_900 : decode cL_law 900 = .ok (.invokestatic 159, 3) := by decide +kernel
theorem dL_law_903 : decode cL_law 903 = .ok (.sipush (-1001), 3) := by decide +kernel
theorem dL_law_906 : decode cL_law 906 = .ok (.if_icmp .ne 170, 3) := by decide +kernel
theorem dL_law_909 : decode cL_law 909 = .ok (.aload_n 1, 1) := by decide +kernel
theorem dL_law_910 : decode cL_law 910 = .ok (.bipush 24, 2) := by decide +kernel
theorem dL_law_912 : decode cL_law 912 = .ok (.bipush 24, 2) := by decide +kernel
theorem dL_law_914 : decode cL_law 914 = .ok (.iconst 3, 1) := by decide +kernel
theorem dL_law_915 : decode cL_law 915 = .ok (.invokestatic 159, 3) := by decide +kernel
theorem dL_law_918 : decode cL_law 918 = .ok (.sipush (-1001), 3) := by decide +kernel
theorem dL_law_921 : decode cL_law 921 = .ok (.if_icmp .ne 155, 3) := by decide +kernel
theorem dL_law_924 : decode cL_law 924 = .ok (.aload_n 1, 1) := by decide +kernel
theorem dL_law_925 : decode cL_law 925 = .ok (.bipush 24, 2) := by decide +kernel
theorem dL_law_927 : decode cL_law 927 = .ok (.iconst 0, 1) := by decide +kernel
theorem dL_law_928 : decode cL_law 928 = .ok (.iconst 4, 1) := by decide +kernel
theorem dL_law_929 : decode cL_law 929 = .ok (.invokestatic 159, 3) := by decide +kernel
theorem dL_law_932 : decode cL_law 932 = .ok (.sipush (-1001), 3) := by decide +kernel
theorem dL_law_935 : decode cL_law 935 = .ok (.if_icmp .ne 141, 3) := by decide +kernel
theorem dL_law_938 : decode cL_law 938 = .ok (.aload_n 1, 1) := by decide +kernel
theorem dL_law_939 : decode cL_law 939 = .ok (.bipush 24, 2) := by decide +kernel
theorem dL_law_941 : decode cL_law 941 = .ok (.iconst (-1), 1) := by decide +kernel
theorem dL_law_942 : decode cL_law 942 = .ok (.iconst 1, 1) := by decide +kernel
theorem dL_law_943 : decode cL_law 943 = .ok (.invokestatic 153, 3) := by decide +kernel
theorem dL_law_946 : decode cL_law 946 = .ok (.sipush (-1001), 3) := by decide +kernel
theorem dL_law_949 : decode cL_law 949 = .ok (.if_icmp .ne 127, 3) := by decide +kernel
theorem dL_law_952 : decode cL_law 952 = .ok (.aload_n 1, 1) := by decide +kernel
theorem dL_law_953 : decode cL_law 953 = .ok (.iconst 0, 1) := by decide +kernel
theorem dL_law_954 : decode cL_law 954 = .ok (.iconst 3, 1) := by decide +kernel
theorem dL_law_955 : decode cL_law 955 = .ok (.iconst 0, 1) := by decide +kernel
theorem dL_law_956 : decode cL_law 956 = .ok (.invokestatic 153, 3) := by decide +kernel
theorem dL_law_959 : decode cL_law 959 = .ok (.sipush (-1001), 3) := by decide +kernel
theorem dL_law_962 : decode cL_law 962 = .ok (.if_icmp .ne 114, 3) := by decide +kernel
theorem dL_law_965 : decode cL_law 965 = .ok (.aload_n 1, 1) := by decide +kernel
theorem dL_law_966 : decode cL_law 966 = .ok (.iconst 3, 1) := by decide +kernel
theorem dL_law_967 : decode cL_law 967 = .ok (.invokestatic 204, 3) := by decide +kernel
theorem dL_law_970 : decode cL_law 970 = .ok (.sipush (-1001), 3) := by decide +kernel
theorem dL_law_973 : decode cL_law 973 = .ok (.if_icmp .ne 103, 3) := by decide +kernel
theorem dL_law_976 : decode cL_law 976 = .ok (.aload_n 1, 1) := by decide +kernel
theorem dL_law_977 : decode cL_law 977 = .ok (.iconst (-1), 1) := by decide +kernel
theorem dL_law_978 : decode cL_law 978 = .ok (.invokestatic 204, 3) := by decide +kernel
theorem dL_law_981 : decode cL_law 981 = .ok (.sipush (-1001), 3) := by decide +kernel
theorem dL_law_984 : decode cL_law 984 = .ok (.if_icmp .ne 92, 3) := by decide +kernel
theorem dL_law_987 : decode cL_law 987 = .ok (.aload_n 1, 1) := by decide +kernel
theorem dL_law_988 : decode cL_law 988 = .ok (.bipush 24, 2) := by decide +kernel
theorem dL_law_990 : decode cL_law 990 = .ok (.iconst 0, 1) := by decide +kernel
theorem dL_law_991 : decode cL_law 991 = .ok (.iconst 0, 1) := by decide +kernel
theorem dL_law_992 : decode cL_law 992 = .ok (.invokestatic 156, 3) := by decide +kernel
theorem dL_law_995 : decode cL_law 995 = .ok (.sipush (-1001), 3) := by decide +kernel
theorem dL_law_998 : decode cL_law 998 = .ok (.if_icmp .ne 78, 3) := by decide +kernel
theorem dL_law_1001 : decode cL_law 1001 = .ok (.aload_n 1, 1) := by decide +kernel
theorem dL_law_1002 : decode cL_law 1002 = .ok (.iconst 0, 1) := by decide +kernel
theorem dL_law_1003 : decode cL_law 1003 = .ok (.iconst 3, 1) := by decide +kernel
theorem dL_law_1004 : decode cL_law 1004 = .ok (.iconst 1, 1) := by decide +kernel
theorem dL_law_1005 : decode cL_law 1005 = .ok (.invokestatic 156, 3) := by decide +kernel
theorem dL_law_1008 : decode cL_law 1008 = .ok (.sipush (-1001), 3) := by decide +kernel
theorem dL_law_1011 : decode cL_law 1011 = .ok (.if_icmp .ne 65, 3) := by decide +kernel
theorem dL_law_1014 : decode cL_law 1014 = .ok (.aload_n 1, 1) := by decide +kernel
theorem dL_law_1015 : decode cL_law 1015 = .ok (.iconst 0, 1) := by decide +kernel
theorem dL_law_1016 : decode cL_law 1016 = .ok (.iconst (-1), 1) := by decide +kernel
theorem dL_law_1017 : decode cL_law 1017 = .ok (.invokestatic 162, 3) := by decide +kernel
theorem dL_law_1020 : decode cL_law 1020 = .ok (.ldc 105, 2) := by decide +kernel
theorem dL_law_1022 : decode cL_law 1022 = .ok (.fcmp .l, 1) := by decide +kernel
theorem dL_law_1023 : decode cL_law 1023 = .ok (.ifCond .ne 53, 3) := by decide +kernel
theorem dL_law_1026 : decode cL_law 1026 = .ok (.aload_n 1, 1) := by decide +kernel
theorem dL_law_1027 : decode cL_law 1027 = .ok (.iconst 0, 1) := by decide +kernel
theorem dL_law_1028 : decode cL_law 1028 = .ok (.iconst 1, 1) := by decide +kernel
theorem dL_law_1029 : decode cL_law 1029 = .ok (.invokestatic 196, 3) := by decide +kernel
theorem dL_law_1032 : decode cL_law 1032 = .ok (.sipush (-1001), 3) := by decide +kernel
theorem dL_law_1035 : decode cL_law 1035 = .ok (.if_icmp .ne 41, 3) := by decide +kernel
theorem dL_law_1038 : decode cL_law 1038 = .ok (.aload_n 1, 1) := by decide +kernel
theorem dL_law_1039 : decode cL_law 1039 = .ok (.bipush 100, 2) := by decide +kernel
theorem dL_law_1041 : decode cL_law 1041 = .ok (.iconst 1, 1) := by decide +kernel
theorem dL_law_1042 : decode cL_law 1042 = .ok (.invokestatic 196, 3) := by decide +kernel
theorem dL_law_1045 : decode cL_law 1045 = .ok (.sipush (-1001), 3) := by decide +kernel
theorem dL_law_1048 : decode cL_law 1048 = .ok (.if_icmp .ne 28, 3) := by decide +kernel
theorem dL_law_1051 : decode cL_law 1051 = .ok (.aload_n 1, 1) := by decide +kernel
theorem dL_law_1052 : decode cL_law 1052 = .ok (.bipush 100, 2) := by decide +kernel
theorem dL_law_1054 : decode cL_law 1054 = .ok (.iconst 0, 1) := by decide +kernel
theorem dL_law_1055 : decode cL_law 1055 = .ok (.invokestatic 196, 3) := by decide +kernel
theorem dL_law_1058 : decode cL_law 1058 = .ok (.sipush (-1001), 3) := by decide +kernel
theorem dL_law_1061 : decode cL_law 1061 = .ok (.if_icmp .ne 15, 3) := by decide +kernel
theorem dL_law_1064 : decode cL_law 1064 = .ok (.aload_n 1, 1) := by decide +kernel
theorem dL_law_1065 : decode cL_law 1065 = .ok (.iconst 0, 1) := by decide +kernel
theorem dL_law_1066 : decode cL_law 1066 = .ok (.iconst 0, 1) := by decide +kernel
theorem dL_law_1067 : decode cL_law 1067 = .ok (.invokestatic 196, 3) := by decide +kernel
theorem dL_law_1070 : decode cL_law 1070 = .ok (.sipush (-1001), 3) := by decide +kernel
theorem dL_law_1073 : decode cL_law 1073 = .ok (.if_icmp .eq 5, 3) := by decide +kernel
theorem dL_law_1076 : decode cL_law 1076 = .ok (.iconst 0, 1) := by decide +kernel
theorem dL_law_1077 : decode cL_law 1077 = .ok (.ireturn, 1) := by decide +kernel
theorem dL_law_1078 : decode cL_law 1078 = .ok (.aload_n 1, 1) := by decide +kernel
theorem dL_law_1079 : decode cL_law 1079 = .ok (.invokestatic 182, 3) := by decide +kernel
theorem dL_law_1082 : decode cL_law 1082 = .ok (.lload 5, 2) := by decide +kernel
theorem dL_law_1084 : decode cL_law 1084 = .ok (.lcmp, 1) := by decide +kernel
theorem dL_law_1085 : decode cL_law 1085 = .ok (.ifCond .ne 7, 3) := by decide +kernel
theorem dL_law_1088 : decode cL_law 1088 = .ok (.iconst 1, 1) := by decide +kernel
theorem dL_law_1089 : decode cL_law 1089 = .ok (.goto 4, 3) := by decide +kernel
theorem dL_law_1092 : decode cL_law 1092 = .ok (.iconst 0, 1) := by decide +kernel
theorem dL_law_1093 : decode cL_law 1093 = .ok (.ireturn, 1) := by decide +kernel
