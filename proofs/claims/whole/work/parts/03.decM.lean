theorem dX5_init_0 : decode cX5_init 0 = .ok (.aload_n 0, 1) := by decide +kernel
theorem dX5_init_1 : decode cX5_init 1 = .ok (.invokespecial 1, 3) := by decide +kernel
theorem dX5_init_4 : decode cX5_init 4 = .ok (.aload_n 0, 1) := by decide +kernel
theorem dX5_init_5 : decode cX5_init 5 = .ok (.iconst 4, 1) := by decide +kernel
theorem dX5_init_6 : decode cX5_init 6 = .ok (.newarray .int, 2) := by decide +kernel
theorem dX5_init_8 : decode cX5_init 8 = .ok (.putfield 9, 3) := by decide +kernel
theorem dX5_init_11 : decode cX5_init 11 = .ok (.aload_n 0, 1) := by decide +kernel
theorem dX5_init_12 : decode cX5_init 12 = .ok (.bipush 24, 2) := by decide +kernel
theorem dX5_init_14 : decode cX5_init 14 = .ok (.newarray .int, 2) := by decide +kernel
theorem dX5_init_16 : decode cX5_init 16 = .ok (.putfield 13, 3) := by decide +kernel
theorem dX5_init_19 : decode cX5_init 19 = .ok (.aload_n 0, 1) := by decide +kernel
theorem dX5_init_20 : decode cX5_init 20 = .ok (.bipush 24, 2) := by decide +kernel
theorem dX5_init_22 : decode cX5_init 22 = .ok (.newarray .int, 2) := by decide +kernel
theorem dX5_init_24 : decode cX5_init 24 = .ok (.putfield 16, 3) := by decide +kernel
theorem dX5_init_27 : decode cX5_init 27 = .ok (.aload_n 0, 1) := by decide +kernel
theorem dX5_init_28 : decode cX5_init 28 = .ok (.bipush 24, 2) := by decide +kernel
theorem dX5_init_30 : decode cX5_init 30 = .ok (.iconst 3, 1) := by decide +kernel
theorem dX5_init_31 : decode cX5_init 31 = .ok (.multianewarray 19 2, 4) := by decide +kernel
theorem dX5_init_35 : decode cX5_init 35 = .ok (.putfield 21, 3) := by decide +kernel
theorem dX5_init_38 : decode cX5_init 38 = .ok (.aload_n 0, 1) := by decide +kernel
theorem dX5_init_39 : decode cX5_init 39 = .ok (.bipush 24, 2) := by decide +kernel
theorem dX5_init_41 : decode cX5_init 41 = .ok (.iconst 3, 1) := by decide +kernel
theorem dX5_init_42 : decode cX5_init 42 = .ok (.multianewarray 19 2, 4) := by decide +kernel
theorem dX5_init_46 : decode cX5_init 46 = .ok (.putfield 24, 3) := by decide +kernel
theorem dX5_init_49 : decode cX5_init 49 = .ok (.aload_n 0, 1) := by decide +kernel
theorem dX5_init_50 : decode cX5_init 50 = .ok (.bipush 24, 2) := by decide +kernel
theorem dX5_init_52 : decode cX5_init 52 = .ok (.newarray .boolean, 2) := by decide +kernel
theorem dX5_init_54 : decode cX5_init 54 = .ok (.putfield 27, 3) := by decide +kernel
theorem dX5_init_57 : decode cX5_init 57 = .ok (.aload_n 0, 1) := by decide +kernel
theorem dX5_init_58 : decode cX5_init 58 = .ok (.bipush 12, 2) := by decide +kernel
theorem dX5_init_60 : decode cX5_init 60 = .ok (.newarray .int, 2) := by decide +kernel
theorem dX5_init_62 : decode cX5_init 62 = .ok (.putfield 31, 3) := by decide +kernel
theorem dX5_init_65 : decode cX5_init 65 = .ok (.aload_n 0, 1) := by decide +kernel
theorem dX5_init_66 : decode cX5_init 66 = .ok (.bipush 12, 2) := by decide +kernel
theorem dX5_init_68 : decode cX5_init 68 = .ok (.newarray .int, 2) := by decide +kernel
theorem dX5_init_70 : decode cX5_init 70 = .ok (.putfield 34, 3) := by decide +kernel
theorem dX5_init_73 : decode cX5_init 73 = .ok (.aload_n 0, 1) := by decide +kernel
theorem dX5_init_74 : decode cX5_init 74 = .ok (.bipush 30, 2) := by decide +kernel
theorem dX5_init_76 : decode cX5_init 76 = .ok (.putfield 37, 3) := by decide +kernel
theorem dX5_init_79 : decode cX5_init 79 = .ok (.aload_n 0, 1) := by decide +kernel
theorem dX5_init_80 : decode cX5_init 80 = .ok (.bipush 24, 2) := by decide +kernel
theorem dX5_init_82 : decode cX5_init 82 = .ok (.newarray .int, 2) := by decide +kernel
theorem dX5_init_84 : decode cX5_init 84 = .ok (.putfield 41, 3) := by decide +kernel
theorem dX5_init_87 : decode cX5_init 87 = .ok (.aload_n 0, 1) := by decide +kernel
theorem dX5_init_88 : decode cX5_init 88 = .ok (.bipush 24, 2) := by decide +kernel
theorem dX5_init_90 : decode cX5_init 90 = .ok (.newarray .int, 2) := by decide +kernel
theorem dX5_init_92 : decode cX5_init 92 = .ok (.putfield 44, 3) := by decide +kernel
theorem dX5_init_95 : decode cX5_init 95 = .ok (.aload_n 0, 1) := by decide +kernel
theorem dX5_init_96 : decode cX5_init 96 = .ok (.iconst (-1), 1) := by decide +kernel
theorem dX5_init_97 : decode cX5_init 97 = .ok (.putfield 47, 3) := by decide +kernel
theorem dX5_init_100 : decode cX5_init 100 = .ok (.aload_n 0, 1) := by decide +kernel
theorem dX5_init_101 : decode cX5_init 101 = .ok (.iconst (-1), 1) := by decide +kernel
theorem dX5_init_102 : decode cX5_init 102 = .ok (.putfield 50, 3) := by decide +kernel
theorem dX5_init_105 : decode cX5_init 105 = .ok (.return_, 1) := by decide +kernel
theorem dX5_thrown_0 : decode cX5_thrown 0 = .ok (.aload_n 0, 1) := by decide +kernel
theorem dX5_thrown_1 : decode cX5_thrown 1 = .ok (.getfield 53, 3) := by decide +kernel
theorem dX5_thrown_4 : decode cX5_thrown 4 = .ok (.ireturn, 1) := by decide +kernel
theorem dX5_raises_0 : decode cX5_raises 0 = .ok (.aload_n 0, 1) := by decide +kernel
theorem dX5_raises_1 : decode cX5_raises 1 = .ok (.iload_n 1, 1) := by decide +kernel
theorem dX5_raises_2 : decode cX5_raises 2 = .ok (.putfield 53, 3) := by decide +kernel
theorem dX5_raises_5 : decode cX5_raises 5 = .ok (.iconst 0, 1) := by decide +kernel
theorem dX5_raises_6 : decode cX5_raises 6 = .ok (.ireturn, 1) := by decide +kernel
theorem dX5_in_0 : decode cX5_in 0 = .ok (.iload_n 0, 1) := by decide +kernel
theorem dX5_in_1 : decode cX5_in 1 = .ok (.iload_n 1, 1) := by decide +kernel
theorem dX5_in_2 : decode cX5_in 2 = .ok (.if_icmp .lt 12, 3) := by decide +kernel
theorem dX5_in_5 : decode cX5_in 5 = .ok (.iload_n 0, 1) := by decide +kernel
theorem dX5_in_6 : decode cX5_in 6 = .ok (.iload_n 2, 1) := by decide +kernel
theorem dX5_in_7 : decode cX5_in 7 = .ok (.if_icmp .gt 7, 3) := by decide +kernel
theorem dX5_in_10 : decode cX5_in 10 = .ok (.iconst 1, 1) := by decide +kernel
theorem dX5_in_11 : decode cX5_in 11 = .ok (.goto 4, 3) := by decide +kernel
theorem dX5_in_14 : decode cX5_in 14 = .ok (.iconst 0, 1) := by decide +kernel
theorem dX5_in_15 : decode cX5_in 15 = .ok (.ireturn, 1) := by decide +kernel
theorem dX5_isRecord_0 : decode cX5_isRecord 0 = .ok (.iload_n 1, 1) := by decide +kernel
theorem dX5_isRecord_1 : decode cX5_isRecord 1 = .ok (.iconst 0, 1) := by decide +kernel
theorem dX5_isRecord_2 : decode cX5_isRecord 2 = .ok (.aload_n 0, 1) := by decide +kernel
theorem dX5_isRecord_3 : decode cX5_isRecord 3 = .ok (.getfield 56, 3) := by decide +kernel
theorem dX5_isRecord_6 : decode cX5_isRecord 6 = .ok (.iconst 1, 1) := by decide +kernel
theorem dX5_isRecord_7 : decode cX5_isRecord 7 = .ok (.isub, 1) := by decide +kernel
theorem dX5_isRecord_8 : decode cX5_isRecord 8 = .ok (.invokestatic 59, 3) := by decide +kernel
theorem dX5_isRecord_11 : decode cX5_isRecord 11 = .ok (.ifCond .eq 16, 3) := by decide +kernel
theorem dX5_isRecord_14 : decode cX5_isRecord 14 = .ok (.aload_n 0, 1) := by decide +kernel
theorem dX5_isRecord_15 : decode cX5_isRecord 15 = .ok (.getfield 27, 3) := by decide +kernel
theorem dX5_isRecord_18 : decode cX5_isRecord 18 = .ok (.iload_n 1, 1) := by decide +kernel
theorem dX5_isRecord_19 : decode cX5_isRecord 19 = .ok (.baload, 1) := by decide +kernel
theorem dX5_isRecord_20 : decode cX5_isRecord 20 = .ok (.ifCond .ne 7, 3) := by decide +kernel
theorem dX5_isRecord_23 : decode cX5_isRecord 23 = .ok (.iconst 1, 1) := by decide +kernel
theorem dX5_isRecord_24 : decode cX5_isRecord 24 = .ok (.goto 4, 3) := by decide +kernel
theorem dX5_isRecord_27 : decode cX5_isRecord 27 = .ok (.iconst 0, 1) := by decide +kernel
theorem dX5_isRecord_28 : decode cX5_isRecord 28 = .ok (.ireturn, 1) := by decide +kernel
theorem dX5_lacks_0 : decode cX5_lacks 0 = .ok (.aload_n 0, 1) := by decide +kernel
theorem dX5_lacks_1 : decode cX5_lacks 1 = .ok (.aload_n 0, 1) := by decide +kernel
theorem dX5_lacks_2 : decode cX5_lacks 2 = .ok (.iload_n 1, 1) := by decide +kernel
theorem dX5_lacks_3 : decode cX5_lacks 3 = .ok (.invokevirtual 63, 3) := by decide +kernel
theorem dX5_lacks_6 : decode cX5_lacks 6 = .ok (.ifCond .eq 7, 3) := by decide +kernel
theorem dX5_lacks_9 : decode cX5_lacks 9 = .ok (.iconst 0, 1) := by decide +kernel
theorem dX5_lacks_10 : decode cX5_lacks 10 = .ok (.goto 4, 3) := by decide +kernel
theorem dX5_lacks_13 : decode cX5_lacks 13 = .ok (.iconst 1, 1) := by decide +kernel
theorem dX5_lacks_14 : decode cX5_lacks 14 = .ok (.putfield 53, 3) := by decide +kernel
theorem dX5_lacks_17 : decode cX5_lacks 17 = .ok (.aload_n 0, 1) := by decide +kernel
theorem dX5_lacks_18 : decode cX5_lacks 18 = .ok (.getfield 53, 3) := by decide +kernel
theorem dX5_lacks_21 : decode cX5_lacks 21 = .ok (.ifCond .le 7, 3) := by decide +kernel
theorem dX5_lacks_24 : decode cX5_lacks 24 = .ok (.iconst 1, 1) := by decide +kernel
theorem dX5_lacks_25 : decode cX5_lacks 25 = .ok (.goto 4, 3) := by decide +kernel
theorem dX5_lacks_28 : decode cX5_lacks 28 = .ok (.iconst 0, 1) := by decide +kernel
theorem dX5_lacks_29 : decode cX5_lacks 29 = .ok (.ireturn, 1) := by decide +kernel
theorem dX5_addSource_0 : decode cX5_addSource 0 = .ok (.aload_n 0, 1) := by decide +kernel
theorem dX5_addSource_1 : decode cX5_addSource 1 = .ok (.iload_n 1, 1) := by decide +kernel
theorem dX5_addSource_2 : decode cX5_addSource 2 = .ok (.iconst 1, 1) := by decide +kernel
theorem dX5_addSource_3 : decode cX5_addSource 3 = .ok (.bipush 9, 2) := by decide +kernel
theorem dX5_addSource_5 : decode cX5_addSource 5 = .ok (.invokestatic 59, 3) := by decide +kernel
theorem dX5_addSource_8 : decode cX5_addSource 8 = .ok (.ifCond .ne 7, 3) := by decide +kernel
theorem dX5_addSource_11 : decode cX5_addSource 11 = .ok (.iconst 1, 1) := by decide +kernel
theorem dX5_addSource_12 : decode cX5_addSource 12 = .ok (.goto 16, 3) := by decide +kernel
theorem dX5_addSource_15 : decode cX5_addSource 15 = .ok (.aload_n 0, 1) := by decide +kernel
theorem dX5_addSource_16 : decode cX5_addSource 16 = .ok (.getfield 67, 3) := by decide +kernel
theorem dX5_addSource_19 : decode cX5_addSource 19 = .ok (.iconst 4, 1) := by decide +kernel
theorem dX5_addSource_20 : decode cX5_addSource 20 = .ok (.if_icmp .ne 7, 3) := by decide +kernel
theorem dX5_addSource_23 : decode cX5_addSource 23 = .ok (.iconst 2, 1) := by decide +kernel
theorem dX5_addSource_24 : decode cX5_addSource 24 = .ok (.goto 4, 3) := by decide +kernel
theorem dX5_addSource_27 : decode cX5_addSource 27 = .ok (.iconst 0, 1) := by decide +kernel
theorem dX5_addSource_28 : decode cX5_addSource 28 = .ok (.putfield 53, 3) := by decide +kernel
theorem dX5_addSource_31 : decode cX5_addSource 31 = .ok (.aload_n 0, 1) := by decide +kernel
theorem dX5_addSource_32 : decode cX5_addSource 32 = .ok (.getfield 53, 3) := by decide +kernel
theorem dX5_addSource_35 : decode cX5_addSource 35 = .ok (.ifCond .le 5, 3) := by decide +kernel
theorem dX5_addSource_38 : decode cX5_addSource 38 = .ok (.iconst 0, 1) := by decide +kernel
theorem dX5_addSource_39 : decode cX5_addSource 39 = .ok (.ireturn, 1) := by decide +kernel
theorem dX5_addSource_40 : decode cX5_addSource 40 = .ok (.aload_n 0, 1) := by decide +kernel
theorem dX5_addSource_41 : decode cX5_addSource 41 = .ok (.getfield 9, 3) := by decide +kernel
theorem dX5_addSource_44 : decode cX5_addSource 44 = .ok (.aload_n 0, 1) := by decide +kernel
theorem dX5_addSource_45 : decode cX5_addSource 45 = .ok (.getfield 67, 3) := by decide +kernel
theorem dX5_addSource_48 : decode cX5_addSource 48 = .ok (.iload_n 1, 1) := by decide +kernel
theorem dX5_addSource_49 : decode cX5_addSource 49 = .ok (.iastore, 1) := by decide +kernel
theorem dX5_addSource_50 : decode cX5_addSource 50 = .ok (.aload_n 0, 1) := by decide +kernel
theorem dX5_addSource_51 : decode cX5_addSource 51 = .ok (.dup, 1) := by decide +kernel
theorem dX5_addSource_52 : decode cX5_addSource 52 = .ok (.getfield 67, 3) := by decide +kernel
theorem dX5_addSource_55 : decode cX5_addSource 55 = .ok (.iconst 1, 1) := by decide +kernel
theorem dX5_addSource_56 : decode cX5_addSource 56 = .ok (.iadd, 1) := by decide +kernel
theorem dX5_addSource_57 : decode cX5_addSource 57 = .ok (.putfield 67, 3) := by decide +kernel
theorem dX5_addSource_60 : decode cX5_addSource 60 = .ok (.aload_n 0, 1) := by decide +kernel
theorem dX5_addSource_61 : decode cX5_addSource 61 = .ok (.getfield 67, 3) := by decide +kernel
theorem dX5_addSource_64 : decode cX5_addSource 64 = .ok (.iconst 1, 1) := by decide +kernel
theorem dX5_addSource_65 : decode cX5_addSource 65 = .ok (.isub, 1) := by decide +kernel
theorem dX5_addSource_66 : decode cX5_addSource 66 = .ok (.ireturn, 1) := by decide +kernel
theorem dX5_setTrust_0 : decode cX5_setTrust 0 = .ok (.aload_n 0, 1) := by decide +kernel
theorem dX5_setTrust_1 : decode cX5_setTrust 1 = .ok (.iload_n 1, 1) := by decide +kernel
theorem dX5_setTrust_2 : decode cX5_setTrust 2 = .ok (.iconst 0, 1) := by decide +kernel
theorem dX5_setTrust_3 : decode cX5_setTrust 3 = .ok (.aload_n 0, 1) := by decide +kernel
theorem dX5_setTrust_4 : decode cX5_setTrust 4 = .ok (.getfield 67, 3) := by decide +kernel
theorem dX5_setTrust_7 : decode cX5_setTrust 7 = .ok (.iconst 1, 1) := by decide +kernel
theorem dX5_setTrust_8 : decode cX5_setTrust 8 = .ok (.isub, 1) := by decide +kernel
theorem dX5_setTrust_9 : decode cX5_setTrust 9 = .ok (.invokestatic 59, 3) := by decide +kernel
theorem dX5_setTrust_12 : decode cX5_setTrust 12 = .ok (.ifCond .ne 7, 3) := by decide +kernel
theorem dX5_setTrust_15 : decode cX5_setTrust 15 = .ok (.iconst 1, 1) := by decide +kernel
theorem dX5_setTrust_16 : decode cX5_setTrust 16 = .ok (.goto 18, 3) := by decide +kernel
theorem dX5_setTrust_19 : decode cX5_setTrust 19 = .ok (.iload_n 2, 1) := by decide +kernel
theorem dX5_setTrust_20 : decode cX5_setTrust 20 = .ok (.iconst 1, 1) := by decide +kernel
theorem dX5_setTrust_21 : decode cX5_setTrust 21 = .ok (.bipush 9, 2) := by decide +kernel
theorem dX5_setTrust_23 : decode cX5_setTrust 23 = .ok (.invokestatic 59, 3) := by decide +kernel
theorem dX5_setTrust_26 : decode cX5_setTrust 26 = .ok (.ifCond .ne 7, 3) := by decide +kernel
theorem dX5_setTrust_29 : decode cX5_setTrust 29 = .ok (.iconst 2, 1) := by decide +kernel
theorem dX5_setTrust_30 : decode cX5_setTrust 30 = .ok (.goto 4, 3) := by decide +kernel
theorem dX5_setTrust_33 : decode cX5_setTrust 33 = .ok (.iconst 0, 1) := by decide +kernel
theorem dX5_setTrust_34 : decode cX5_setTrust 34 = .ok (.putfield 53, 3) := by decide +kernel
theorem dX5_setTrust_37 : decode cX5_setTrust 37 = .ok (.aload_n 0, 1) := by decide +kernel
theorem dX5_setTrust_38 : decode cX5_setTrust 38 = .ok (.getfield 53, 3) := by decide +kernel
theorem dX5_setTrust_41 : decode cX5_setTrust 41 = .ok (.ifCond .le 5, 3) := by decide +kernel
theorem dX5_setTrust_44 : decode cX5_setTrust 44 = .ok (.iconst 0, 1) := by decide +kernel
theorem dX5_setTrust_45 : decode cX5_setTrust 45 = .ok (.ireturn, 1) := by decide +kernel
theorem dX5_setTrust_46 : decode cX5_setTrust 46 = .ok (.aload_n 0, 1) := by decide +kernel
theorem dX5_setTrust_47 : decode cX5_setTrust 47 = .ok (.getfield 9, 3) := by decide +kernel
theorem dX5_setTrust_50 : decode cX5_setTrust 50 = .ok (.iload_n 1, 1) := by decide +kernel
theorem dX5_setTrust_51 : decode cX5_setTrust 51 = .ok (.iaload, 1) := by decide +kernel
theorem dX5_setTrust_52 : decode cX5_setTrust 52 = .ok (.istore_n 3, 1) := by decide +kernel
theorem dX5_setTrust_53 : decode cX5_setTrust 53 = .ok (.aload_n 0, 1) := by decide +kernel
theorem dX5_setTrust_54 : decode cX5_setTrust 54 = .ok (.getfield 9, 3) := by decide +kernel
theorem dX5_setTrust_57 : decode cX5_setTrust 57 = .ok (.iload_n 1, 1) := by decide +kernel
theorem dX5_setTrust_58 : decode cX5_setTrust 58 = .ok (.iload_n 2, 1) := by decide +kernel
theorem dX5_setTrust_59 : decode cX5_setTrust 59 = .ok (.iastore, 1) := by decide +kernel
theorem dX5_setTrust_60 : decode cX5_setTrust 60 = .ok (.iload_n 3, 1) := by decide +kernel
theorem dX5_setTrust_61 : decode cX5_setTrust 61 = .ok (.ireturn, 1) := by decide +kernel
theorem dX5_isKey_0 : decode cX5_isKey 0 = .ok (.iload_n 0, 1) := by decide +kernel
theorem dX5_isKey_1 : decode cX5_isKey 1 = .ok (.iconst (-1), 1) := by decide +kernel
theorem dX5_isKey_2 : decode cX5_isKey 2 = .ok (.bipush 99, 2) := by decide +kernel
theorem dX5_isKey_4 : decode cX5_isKey 4 = .ok (.invokestatic 59, 3) := by decide +kernel
theorem dX5_isKey_7 : decode cX5_isKey 7 = .ok (.ireturn, 1) := by decide +kernel
theorem dX5_addRecord_0 : decode cX5_addRecord 0 = .ok (.aload_n 0, 1) := by decide +kernel
theorem dX5_addRecord_1 : decode cX5_addRecord 1 = .ok (.iload_n 1, 1) := by decide +kernel
theorem dX5_addRecord_2 : decode cX5_addRecord 2 = .ok (.iconst 0, 1) := by decide +kernel
theorem dX5_addRecord_3 : decode cX5_addRecord 3 = .ok (.aload_n 0, 1) := by decide +kernel
theorem dX5_addRecord_4 : decode cX5_addRecord 4 = .ok (.getfield 67, 3) := by decide +kernel
theorem dX5_addRecord_7 : decode cX5_addRecord 7 = .ok (.iconst 1, 1) := by decide +kernel
theorem dX5_addRecord_8 : decode cX5_addRecord 8 = .ok (.isub, 1) := by decide +kernel
theorem dX5_addRecord_9 : decode cX5_addRecord 9 = .ok (.invokestatic 59, 3) := by decide +kernel
theorem dX5_addRecord_12 : decode cX5_addRecord 12 = .ok (.ifCond .ne 7, 3) := by decide +kernel
theorem dX5_addRecord_15 : decode cX5_addRecord 15 = .ok (.iconst 1, 1) := by decide +kernel
theorem dX5_addRecord_16 : decode cX5_addRecord 16 = .ok (.goto 43, 3) := by decide +kernel
theorem dX5_addRecord_19 : decode cX5_addRecord 19 = .ok (.iload_n 2, 1) := by decide +kernel
theorem dX5_addRecord_20 : decode cX5_addRecord 20 = .ok (.invokestatic 70, 3) := by decide +kernel
theorem dX5_addRecord_23 : decode cX5_addRecord 23 = .ok (.ifCond .eq 18, 3) := by decide +kernel
theorem dX5_addRecord_26 : decode cX5_addRecord 26 = .ok (.iload_n 3, 1) := by decide +kernel
theorem dX5_addRecord_27 : decode cX5_addRecord 27 = .ok (.invokestatic 70, 3) := by decide +kernel
theorem dX5_addRecord_30 : decode cX5_addRecord 30 = .ok (.ifCond .eq 11, 3) := by decide +kernel
theorem dX5_addRecord_33 : decode cX5_addRecord 33 = .ok (.iload 4, 2) := by decide +kernel
theorem dX5_addRecord_35 : decode cX5_addRecord 35 = .ok (.invokestatic 70, 3) := by decide +kernel
theorem dX5_addRecord_38 : decode cX5_addRecord 38 = .ok (.ifCond .ne 7, 3) := by decide +kernel
theorem dX5_addRecord_41 : decode cX5_addRecord 41 = .ok (.iconst 2, 1) := by decide +kernel
theorem dX5_addRecord_42 : decode cX5_addRecord 42 = .ok (.goto 17, 3) := by decide +kernel
theorem dX5_addRecord_45 : decode cX5_addRecord 45 = .ok (.aload_n 0, 1) := by decide +kernel
theorem dX5_addRecord_46 : decode cX5_addRecord 46 = .ok (.getfield 56, 3) := by decide +kernel
theorem dX5_addRecord_49 : decode cX5_addRecord 49 = .ok (.bipush 24, 2) := by decide +kernel
theorem dX5_addRecord_51 : decode cX5_addRecord 51 = .ok (.if_icmp .ne 7, 3) := by decide +kernel
theorem dX5_addRecord_54 : decode cX5_addRecord 54 = .ok (.iconst 3, 1) := by decide +kernel
theorem dX5_addRecord_55 : decode cX5_addRecord 55 = .ok (.goto 4, 3) := by decide +kernel
theorem dX5_addRecord_58 : decode cX5_addRecord 58 = .ok (.iconst 0, 1) := by decide +kernel
theorem dX5_addRecord_59 : decode cX5_addRecord 59 = .ok (.putfield 53, 3) := by decide +kernel
theorem dX5_addRecord_62 : decode cX5_addRecord 62 = .ok (.aload_n 0, 1) := by decide +kernel
theorem dX5_addRecord_63 : decode cX5_addRecord 63 = .ok (.getfield 53, 3) := by decide +kernel
theorem dX5_addRecord_66 : decode cX5_addRecord 66 = .ok (.ifCond .le 5, 3) := by decide +kernel
theorem dX5_addRecord_69 : decode cX5_addRecord 69 = .ok (.iconst 0, 1) := by decide +kernel
theorem dX5_addRecord_70 : decode cX5_addRecord 70 = .ok (.ireturn, 1) := by decide +kernel
theorem dX5_addRecord_71 : decode cX5_addRecord 71 = .ok (.aload_n 0, 1) := by decide +kernel
theorem dX5_addRecord_72 : decode cX5_addRecord 72 = .ok (.getfield 56, 3) := by decide +kernel
theorem dX5_addRecord_75 : decode cX5_addRecord 75 = .ok (.istore 5, 2) := by decide +kernel
theorem dX5_addRecord_77 : decode cX5_addRecord 77 = .ok (.aload_n 0, 1) := by decide +kernel
theorem dX5_addRecord_78 : decode cX5_addRecord 78 = .ok (.dup, 1) := by decide +kernel
theorem dX5_addRecord_79 : decode cX5_addRecord 79 = .ok (.getfield 56, 3) := by decide +kernel
theorem dX5_addRecord_82 : decode cX5_addRecord 82 = .ok (.iconst 1, 1) := by decide +kernel
theorem dX5_addRecord_83 : decode cX5_addRecord 83 = .ok (.iadd, 1) := by decide +kernel
theorem dX5_addRecord_84 : decode cX5_addRecord 84 = .ok (.putfield 56, 3) := by decide +kernel
theorem dX5_addRecord_87 : decode cX5_addRecord 87 = .ok (.aload_n 0, 1) := by decide +kernel
theorem dX5_addRecord_88 : decode cX5_addRecord 88 = .ok (.getfield 13, 3) := by decide +kernel
theorem dX5_addRecord_91 : decode cX5_addRecord 91 = .ok (.iload 5, 2) := by decide +kernel
theorem dX5_addRecord_93 : decode cX5_addRecord 93 = .ok (.iload_n 1, 1) := by decide +kernel
theorem dX5_addRecord_94 : decode cX5_addRecord 94 = .ok (.iastore, 1) := by decide +kernel
theorem dX5_addRecord_95 : decode cX5_addRecord 95 = .ok (.aload_n 0, 1) := by decide +kernel
theorem dX5_addRecord_96 : decode cX5_addRecord 96 = .ok (.getfield 16, 3) := by decide +kernel
theorem dX5_addRecord_99 : decode cX5_addRecord 99 = .ok (.iload 5, 2) := by decide +kernel
theorem dX5_addRecord_101 : decode cX5_addRecord 101 = .ok (.aload_n 0, 1) := by decide +kernel
theorem dX5_addRecord_102 : decode cX5_addRecord 102 = .ok (.getfield 73, 3) := by decide +kernel
theorem dX5_addRecord_105 : decode cX5_addRecord 105 = .ok (.iastore, 1) := by decide +kernel
theorem dX5_addRecord_106 : decode cX5_addRecord 106 = .ok (.aload_n 0, 1) := by decide +kernel
theorem dX5_addRecord_107 : decode cX5_addRecord 107 = .ok (.getfield 21, 3) := by decide +kernel
theorem dX5_addRecord_110 : decode cX5_addRecord 110 = .ok (.iload 5, 2) := by decide +kernel
theorem dX5_addRecord_112 : decode cX5_addRecord 112 = .ok (.aaload, 1) := by decide +kernel
theorem dX5_addRecord_113 : decode cX5_addRecord 113 = .ok (.iconst 0, 1) := by decide +kernel
theorem dX5_addRecord_114 : decode cX5_addRecord 114 = .ok (.iload_n 2, 1) := by decide +kernel
theorem dX5_addRecord_115 : decode cX5_addRecord 115 = .ok (.iastore, 1) := by decide +kernel
theorem dX5_addRecord_116 : decode cX5_addRecord 116 = .ok (.aload_n 0, 1) := by decide +kernel
theorem dX5_addRecord_117 : decode cX5_addRecord 117 = .ok (.getfield 21, 3) := by decide +kernel
theorem dX5_addRecord_120 : decode cX5_addRecord 120 = .ok (.iload 5, 2) := by decide +kernel
theorem dX5_addRecord_122 : decode cX5_addRecord 122 = .ok (.aaload, 1) := by decide +kernel
theorem dX5_addRecord_123 : decode cX5_addRecord 123 = .ok (.iconst 1, 1) := by decide +kernel
theorem dX5_addRecord_124 : decode cX5_addRecord 124 = .ok (.iload_n 3, 1) := by decide +kernel
theorem dX5_addRecord_125 : decode cX5_addRecord 125 = .ok (.iastore, 1) := by decide +kernel
theorem dX5_addRecord_126 : decode cX5_addRecord 126 = .ok (.aload_n 0, 1) := by decide +kernel
theorem dX5_addRecord_127 : decode cX5_addRecord 127 = .ok (.getfield 21, 3) := by decide +kernel
theorem dX5_addRecord_130 : decode cX5_addRecord 130 = .ok (.iload 5, 2) := by decide +kernel
theorem dX5_addRecord_132 : decode cX5_addRecord 132 = .ok (.aaload, 1) := by decide +kernel
theorem dX5_addRecord_133 : decode cX5_addRecord 133 = .ok (.iconst 2, 1) := by decide +kernel
theorem dX5_addRecord_134 : decode cX5_addRecord 134 = .ok (.iload 4, 2) := by decide +kernel
theorem dX5_addRecord_136 : decode cX5_addRecord 136 = .ok (.iastore, 1) := by decide +kernel
theorem dX5_addRecord_137 : decode cX5_addRecord 137 = .ok (.iconst 0, 1) := by decide +kernel
theorem dX5_addRecord_138 : decode cX5_addRecord 138 = .ok (.istore 6, 2) := by decide +kernel
theorem dX5_addRecord_140 : decode cX5_addRecord 140 = .ok (.iload 6, 2) := by decide +kernel
theorem dX5_addRecord_142 : decode cX5_addRecord 142 = .ok (.iconst 3, 1) := by decide +kernel
theorem dX5_addRecord_143 : decode cX5_addRecord 143 = .ok (.if_icmp .ge 20, 3) := by decide +kernel
theorem dX5_addRecord_146 : decode cX5_addRecord 146 = .ok (.aload_n 0, 1) := by decide +kernel
theorem dX5_addRecord_147 : decode cX5_addRecord 147 = .ok (.getfield 24, 3) := by decide +kernel
theorem dX5_addRecord_150 : decode cX5_addRecord 150 = .ok (.iload 5, 2) := by decide +kernel
theorem dX5_addRecord_152 : decode cX5_addRecord 152 = .ok (.aaload, 1) := by decide +kernel
theorem dX5_addRecord_153 : decode cX5_addRecord 153 = .ok (.iload 6, 2) := by decide +kernel
theorem dX5_addRecord_155 : decode cX5_addRecord 155 = .ok (.iconst (-1), 1) := by decide +kernel
theorem dX5_addRecord_156 : decode cX5_addRecord 156 = .ok (.iastore, 1) := by decide +kernel
theorem dX5_addRecord_157 : decode cX5_addRecord 157 = .ok (.iinc 6 1, 3) := by decide +kernel
theorem dX5_addRecord_160 : decode cX5_addRecord 160 = .ok (.goto (-20), 3) := by decide +kernel
theorem dX5_addRecord_163 : decode cX5_addRecord 163 = .ok (.iload 5, 2) := by decide +kernel
theorem dX5_addRecord_165 : decode cX5_addRecord 165 = .ok (.ireturn, 1) := by decide +kernel
theorem dX5_setKey_0 : decode cX5_setKey 0 = .ok (.aload_n 0, 1) := by decide +kernel
theorem dX5_setKey_1 : decode cX5_setKey 1 = .ok (.aload_n 0, 1) := by decide +kernel
theorem dX5_setKey_2 : decode cX5_setKey 2 = .ok (.iload_n 1, 1) := by decide +kernel
theorem dX5_setKey_3 : decode cX5_setKey 3 = .ok (.invokevirtual 63, 3) := by decide +kernel
theorem dX5_setKey_6 : decode cX5_setKey 6 = .ok (.ifCond .eq 12, 3) := by decide +kernel
theorem dX5_setKey_9 : decode cX5_setKey 9 = .ok (.iload_n 2, 1) := by decide +kernel
theorem dX5_setKey_10 : decode cX5_setKey 10 = .ok (.iconst 0, 1) := by decide +kernel
theorem dX5_setKey_11 : decode cX5_setKey 11 = .ok (.iconst 2, 1) := by decide +kernel
theorem dX5_setKey_12 : decode cX5_setKey 12 = .ok (.invokestatic 59, 3) := by decide +kernel
theorem dX5_setKey_15 : decode cX5_setKey 15 = .ok (.ifCond .ne 7, 3) := by decide +kernel
theorem dX5_setKey_18 : decode cX5_setKey 18 = .ok (.iconst 1, 1) := by decide +kernel
theorem dX5_setKey_19 : decode cX5_setKey 19 = .ok (.goto 15, 3) := by decide +kernel
theorem dX5_setKey_22 : decode cX5_setKey 22 = .ok (.iload_n 3, 1) := by decide +kernel
theorem dX5_setKey_23 : decode cX5_setKey 23 = .ok (.invokestatic 70, 3) := by decide +kernel
theorem dX5_setKey_26 : decode cX5_setKey 26 = .ok (.ifCond .ne 7, 3) := by decide +kernel
theorem dX5_setKey_29 : decode cX5_setKey 29 = .ok (.iconst 2, 1) := by decide +kernel
theorem dX5_setKey_30 : decode cX5_setKey 30 = .ok (.goto 4, 3) := by decide +kernel
theorem dX5_setKey_33 : decode cX5_setKey 33 = .ok (.iconst 0, 1) := by decide +kernel
theorem dX5_setKey_34 : decode cX5_setKey 34 = .ok (.putfield 53, 3) := by decide +kernel
theorem dX5_setKey_37 : decode cX5_setKey 37 = .ok (.aload_n 0, 1) := by decide +kernel
theorem dX5_setKey_38 : decode cX5_setKey 38 = .ok (.getfield 53, 3) := by decide +kernel
theorem dX5_setKey_41 : decode cX5_setKey 41 = .ok (.ifCond .le 5, 3) := by decide +kernel
theorem dX5_setKey_44 : decode cX5_setKey 44 = .ok (.iconst 0, 1) := by decide +kernel
theorem dX5_setKey_45 : decode cX5_setKey 45 = .ok (.ireturn, 1) := by decide +kernel
theorem dX5_setKey_46 : decode cX5_setKey 46 = .ok (.aload_n 0, 1) := by decide +kernel
theorem dX5_setKey_47 : decode cX5_setKey 47 = .ok (.getfield 21, 3) := by decide +kernel
theorem dX5_setKey_50 : decode cX5_setKey 50 = .ok (.iload_n 1, 1) := by decide +kernel
theorem dX5_setKey_51 : decode cX5_setKey 51 = .ok (.aaload, 1) := by decide +kernel
theorem dX5_setKey_52 : decode cX5_setKey 52 = .ok (.iload_n 2, 1) := by decide +kernel
theorem dX5_setKey_53 : decode cX5_setKey 53 = .ok (.iaload, 1) := by decide +kernel
theorem dX5_setKey_54 : decode cX5_setKey 54 = .ok (.istore 4, 2) := by decide +kernel
theorem dX5_setKey_56 : decode cX5_setKey 56 = .ok (.aload_n 0, 1) := by decide +kernel
theorem dX5_setKey_57 : decode cX5_setKey 57 = .ok (.getfield 21, 3) := by decide +kernel
theorem dX5_setKey_60 : decode cX5_setKey 60 = .ok (.iload_n 1, 1) := by decide +kernel
theorem dX5_setKey_61 : decode cX5_setKey 61 = .ok (.aaload, 1) := by decide +kernel
theorem dX5_setKey_62 : decode cX5_setKey 62 = .ok (.iload_n 2, 1) := by decide +kernel
theorem dX5_setKey_63 : decode cX5_setKey 63 = .ok (.iload_n 3, 1) := by decide +kernel
theorem dX5_setKey_64 : decode cX5_setKey 64 = .ok (.iastore, 1) := by decide +kernel
theorem dX5_setKey_65 : decode cX5_setKey 65 = .ok (.iload 4, 2) := by decide +kernel
theorem dX5_setKey_67 : decode cX5_setKey 67 = .ok (.ireturn, 1) := by decide +kernel
theorem dX5_setFact_0 : decode cX5_setFact 0 = .ok (.aload_n 0, 1) := by decide +kernel
theorem dX5_setFact_1 : decode cX5_setFact 1 = .ok (.aload_n 0, 1) := by decide +kernel
theorem dX5_setFact_2 : decode cX5_setFact 2 = .ok (.iload_n 1, 1) := by decide +kernel
theorem dX5_setFact_3 : decode cX5_setFact 3 = .ok (.invokevirtual 63, 3) := by decide +kernel
theorem dX5_setFact_6 : decode cX5_setFact 6 = .ok (.ifCond .eq 12, 3) := by decide +kernel
theorem dX5_setFact_9 : decode cX5_setFact 9 = .ok (.iload_n 2, 1) := by decide +kernel
theorem dX5_setFact_10 : decode cX5_setFact 10 = .ok (.iconst 0, 1) := by decide +kernel
theorem dX5_setFact_11 : decode cX5_setFact 11 = .ok (.iconst 2, 1) := by decide +kernel
theorem dX5_setFact_12 : decode cX5_setFact 12 = .ok (.invokestatic 59, 3) := by decide +kernel
theorem dX5_setFact_15 : decode cX5_setFact 15 = .ok (.ifCond .ne 7, 3) := by decide +kernel
theorem dX5_setFact_18 : decode cX5_setFact 18 = .ok (.iconst 1, 1) := by decide +kernel
theorem dX5_setFact_19 : decode cX5_setFact 19 = .ok (.goto 19, 3) := by decide +kernel
theorem dX5_setFact_22 : decode cX5_setFact 22 = .ok (.iload_n 3, 1) := by decide +kernel
theorem dX5_setFact_23 : decode cX5_setFact 23 = .ok (.iconst (-1), 1) := by decide +kernel
theorem dX5_setFact_24 : decode cX5_setFact 24 = .ok (.sipush 999, 3) := by decide +kernel
theorem dX5_setFact_27 : decode cX5_setFact 27 = .ok (.invokestatic 59, 3) := by decide +kernel
theorem dX5_setFact_30 : decode cX5_setFact 30 = .ok (.ifCond .ne 7, 3) := by decide +kernel
theorem dX5_setFact_33 : decode cX5_setFact 33 = .ok (.iconst 2, 1) := by decide +kernel
theorem dX5_setFact_34 : decode cX5_setFact 34 = .ok (.goto 4, 3) := by decide +kernel
theorem dX5_setFact_37 : decode cX5_setFact 37 = .ok (.iconst 0, 1) := by decide +kernel
theorem dX5_setFact_38 : decode cX5_setFact 38 = .ok (.putfield 53, 3) := by decide +kernel
theorem dX5_setFact_41 : decode cX5_setFact 41 = .ok (.aload_n 0, 1) := by decide +kernel
theorem dX5_setFact_42 : decode cX5_setFact 42 = .ok (.getfield 53, 3) := by decide +kernel
theorem dX5_setFact_45 : decode cX5_setFact 45 = .ok (.ifCond .le 5, 3) := by decide +kernel
theorem dX5_setFact_48 : decode cX5_setFact 48 = .ok (.iconst 0, 1) := by decide +kernel
theorem dX5_setFact_49 : decode cX5_setFact 49 = .ok (.ireturn, 1) := by decide +kernel
theorem dX5_setFact_50 : decode cX5_setFact 50 = .ok (.aload_n 0, 1) := by decide +kernel
theorem dX5_setFact_51 : decode cX5_setFact 51 = .ok (.getfield 24, 3) := by decide +kernel
theorem dX5_setFact_54 : decode cX5_setFact 54 = .ok (.iload_n 1, 1) := by decide +kernel
theorem dX5_setFact_55 : decode cX5_setFact 55 = .ok (.aaload, 1) := by decide +kernel
theorem dX5_setFact_56 : decode cX5_setFact 56 = .ok (.iload_n 2, 1) := by decide +kernel
theorem dX5_setFact_57 : decode cX5_setFact 57 = .ok (.iaload, 1) := by decide +kernel
theorem dX5_setFact_58 : decode cX5_setFact 58 = .ok (.istore 4, 2) := by decide +kernel
theorem dX5_setFact_60 : decode cX5_setFact 60 = .ok (.aload_n 0, 1) := by decide +kernel
theorem dX5_setFact_61 : decode cX5_setFact 61 = .ok (.getfield 24, 3) := by decide +kernel
theorem dX5_setFact_64 : decode cX5_setFact 64 = .ok (.iload_n 1, 1) := by decide +kernel
theorem dX5_setFact_65 : decode cX5_setFact 65 = .ok (.aaload, 1) := by decide +kernel
theorem dX5_setFact_66 : decode cX5_setFact 66 = .ok (.iload_n 2, 1) := by decide +kernel
theorem dX5_setFact_67 : decode cX5_setFact 67 = .ok (.iload_n 3, 1) := by decide +kernel
theorem dX5_setFact_68 : decode cX5_setFact 68 = .ok (.iastore, 1) := by decide +kernel
theorem dX5_setFact_69 : decode cX5_setFact 69 = .ok (.iload 4, 2) := by decide +kernel
theorem dX5_setFact_71 : decode cX5_setFact 71 = .ok (.ireturn, 1) := by decide +kernel
theorem dX5_see_0 : decode cX5_see 0 = .ok (.aload_n 0, 1) := by decide +kernel
theorem dX5_see_1 : decode cX5_see 1 = .ok (.iload_n 1, 1) := by decide +kernel
theorem dX5_see_2 : decode cX5_see 2 = .ok (.invokevirtual 76, 3) := by decide +kernel
theorem dX5_see_5 : decode cX5_see 5 = .ok (.ifCond .eq 5, 3) := by decide +kernel
theorem dX5_see_8 : decode cX5_see 8 = .ok (.iconst 0, 1) := by decide +kernel
theorem dX5_see_9 : decode cX5_see 9 = .ok (.ireturn, 1) := by decide +kernel
theorem dX5_see_10 : decode cX5_see 10 = .ok (.aload_n 0, 1) := by decide +kernel
theorem dX5_see_11 : decode cX5_see 11 = .ok (.getfield 16, 3) := by decide +kernel
theorem dX5_see_14 : decode cX5_see 14 = .ok (.iload_n 1, 1) := by decide +kernel
theorem dX5_see_15 : decode cX5_see 15 = .ok (.iaload, 1) := by decide +kernel
theorem dX5_see_16 : decode cX5_see 16 = .ok (.istore_n 2, 1) := by decide +kernel
theorem dX5_see_17 : decode cX5_see 17 = .ok (.aload_n 0, 1) := by decide +kernel
theorem dX5_see_18 : decode cX5_see 18 = .ok (.getfield 16, 3) := by decide +kernel
theorem dX5_see_21 : decode cX5_see 21 = .ok (.iload_n 1, 1) := by decide +kernel
theorem dX5_see_22 : decode cX5_see 22 = .ok (.aload_n 0, 1) := by decide +kernel
theorem dX5_see_23 : decode cX5_see 23 = .ok (.getfield 73, 3) := by decide +kernel
theorem dX5_see_26 : decode cX5_see 26 = .ok (.iastore, 1) := by decide +kernel
theorem dX5_see_27 : decode cX5_see 27 = .ok (.iload_n 2, 1) := by decide +kernel
theorem dX5_see_28 : decode cX5_see 28 = .ok (.ireturn, 1) := by decide +kernel
theorem dX5_left_0 : decode cX5_left 0 = .ok (.iconst 0, 1) := by decide +kernel
theorem dX5_left_1 : decode cX5_left 1 = .ok (.istore_n 1, 1) := by decide +kernel
theorem dX5_left_2 : decode cX5_left 2 = .ok (.iconst 0, 1) := by decide +kernel
theorem dX5_left_3 : decode cX5_left 3 = .ok (.istore_n 2, 1) := by decide +kernel
theorem dX5_left_4 : decode cX5_left 4 = .ok (.iload_n 2, 1) := by decide +kernel
theorem dX5_left_5 : decode cX5_left 5 = .ok (.aload_n 0, 1) := by decide +kernel
theorem dX5_left_6 : decode cX5_left 6 = .ok (.getfield 56, 3) := by decide +kernel
theorem dX5_left_9 : decode cX5_left 9 = .ok (.if_icmp .ge 26, 3) := by decide +kernel
theorem dX5_left_12 : decode cX5_left 12 = .ok (.iload_n 1, 1) := by decide +kernel
theorem dX5_left_13 : decode cX5_left 13 = .ok (.aload_n 0, 1) := by decide +kernel
theorem dX5_left_14 : decode cX5_left 14 = .ok (.getfield 27, 3) := by decide +kernel
theorem dX5_left_17 : decode cX5_left 17 = .ok (.iload_n 2, 1) := by decide +kernel
theorem dX5_left_18 : decode cX5_left 18 = .ok (.baload, 1) := by decide +kernel
theorem dX5_left_19 : decode cX5_left 19 = .ok (.ifCond .eq 7, 3) := by decide +kernel
theorem dX5_left_22 : decode cX5_left 22 = .ok (.iconst 0, 1) := by decide +kernel
theorem dX5_left_23 : decode cX5_left 23 = .ok (.goto 4, 3) := by decide +kernel
theorem dX5_left_26 : decode cX5_left 26 = .ok (.iconst 1, 1) := by decide +kernel
theorem dX5_left_27 : decode cX5_left 27 = .ok (.iadd, 1) := by decide +kernel
theorem dX5_left_28 : decode cX5_left 28 = .ok (.istore_n 1, 1) := by decide +kernel
theorem dX5_left_29 : decode cX5_left 29 = .ok (.iinc 2 1, 3) := by decide +kernel
theorem dX5_left_32 : decode cX5_left 32 = .ok (.goto (-28), 3) := by decide +kernel
theorem dX5_left_35 : decode cX5_left 35 = .ok (.iload_n 1, 1) := by decide +kernel
theorem dX5_left_36 : decode cX5_left 36 = .ok (.ireturn, 1) := by decide +kernel
theorem dX5_drop_0 : decode cX5_drop 0 = .ok (.aload_n 0, 1) := by decide +kernel
theorem dX5_drop_1 : decode cX5_drop 1 = .ok (.iload_n 1, 1) := by decide +kernel
theorem dX5_drop_2 : decode cX5_drop 2 = .ok (.invokevirtual 76, 3) := by decide +kernel
theorem dX5_drop_5 : decode cX5_drop 5 = .ok (.ifCond .eq 5, 3) := by decide +kernel
theorem dX5_drop_8 : decode cX5_drop 8 = .ok (.iconst 0, 1) := by decide +kernel
theorem dX5_drop_9 : decode cX5_drop 9 = .ok (.ireturn, 1) := by decide +kernel
theorem dX5_drop_10 : decode cX5_drop 10 = .ok (.aload_n 0, 1) := by decide +kernel
theorem dX5_drop_11 : decode cX5_drop 11 = .ok (.getfield 27, 3) := by decide +kernel
theorem dX5_drop_14 : decode cX5_drop 14 = .ok (.iload_n 1, 1) := by decide +kernel
theorem dX5_drop_15 : decode cX5_drop 15 = .ok (.iconst 1, 1) := by decide +kernel
theorem dX5_drop_16 : decode cX5_drop 16 = .ok (.bastore, 1) := by decide +kernel
theorem dX5_drop_17 : decode cX5_drop 17 = .ok (.aload_n 0, 1) := by decide +kernel
theorem dX5_drop_18 : decode cX5_drop 18 = .ok (.invokevirtual 79, 3) := by decide +kernel
theorem dX5_drop_21 : decode cX5_drop 21 = .ok (.ireturn, 1) := by decide +kernel
theorem dX5_pair_0 : decode cX5_pair 0 = .ok (.iconst 0, 1) := by decide +kernel
theorem dX5_pair_1 : decode cX5_pair 1 = .ok (.istore_n 3, 1) := by decide +kernel
theorem dX5_pair_2 : decode cX5_pair 2 = .ok (.iload_n 3, 1) := by decide +kernel
theorem dX5_pair_3 : decode cX5_pair 3 = .ok (.aload_n 0, 1) := by decide +kernel
theorem dX5_pair_4 : decode cX5_pair 4 = .ok (.getfield 83, 3) := by decide +kernel
theorem dX5_pair_7 : decode cX5_pair 7 = .ok (.if_icmp .ge 51, 3) := by decide +kernel
theorem dX5_pair_10 : decode cX5_pair 10 = .ok (.aload_n 0, 1) := by decide +kernel
theorem dX5_pair_11 : decode cX5_pair 11 = .ok (.getfield 31, 3) := by decide +kernel
theorem dX5_pair_14 : decode cX5_pair 14 = .ok (.iload_n 3, 1) := by decide +kernel
theorem dX5_pair_15 : decode cX5_pair 15 = .ok (.iaload, 1) := by decide +kernel
theorem dX5_pair_16 : decode cX5_pair 16 = .ok (.iload_n 1, 1) := by decide +kernel
theorem dX5_pair_17 : decode cX5_pair 17 = .ok (.if_icmp .ne 13, 3) := by decide +kernel
theorem dX5_pair_20 : decode cX5_pair 20 = .ok (.aload_n 0, 1) := by decide +kernel
theorem dX5_pair_21 : decode cX5_pair 21 = .ok (.getfield 34, 3) := by decide +kernel
theorem dX5_pair_24 : decode cX5_pair 24 = .ok (.iload_n 3, 1) := by decide +kernel
theorem dX5_pair_25 : decode cX5_pair 25 = .ok (.iaload, 1) := by decide +kernel
theorem dX5_pair_26 : decode cX5_pair 26 = .ok (.iload_n 2, 1) := by decide +kernel
theorem dX5_pair_27 : decode cX5_pair 27 = .ok (.if_icmp .eq 23, 3) := by decide +kernel
theorem dX5_pair_30 : decode cX5_pair 30 = .ok (.aload_n 0, 1) := by decide +kernel
theorem dX5_pair_31 : decode cX5_pair 31 = .ok (.getfield 31, 3) := by decide +kernel
theorem dX5_pair_34 : decode cX5_pair 34 = .ok (.iload_n 3, 1) := by decide +kernel
theorem dX5_pair_35 : decode cX5_pair 35 = .ok (.iaload, 1) := by decide +kernel
theorem dX5_pair_36 : decode cX5_pair 36 = .ok (.iload_n 2, 1) := by decide +kernel
theorem dX5_pair_37 : decode cX5_pair 37 = .ok (.if_icmp .ne 15, 3) := by decide +kernel
theorem dX5_pair_40 : decode cX5_pair 40 = .ok (.aload_n 0, 1) := by decide +kernel
theorem dX5_pair_41 : decode cX5_pair 41 = .ok (.getfield 34, 3) := by decide +kernel
theorem dX5_pair_44 : decode cX5_pair 44 = .ok (.iload_n 3, 1) := by decide +kernel
theorem dX5_pair_45 : decode cX5_pair 45 = .ok (.iaload, 1) := by decide +kernel
theorem dX5_pair_46 : decode cX5_pair 46 = .ok (.iload_n 1, 1) := by decide +kernel
theorem dX5_pair_47 : decode cX5_pair 47 = .ok (.if_icmp .ne 5, 3) := by decide +kernel
theorem dX5_pair_50 : decode cX5_pair 50 = .ok (.iload_n 3, 1) := by decide +kernel
theorem dX5_pair_51 : decode cX5_pair 51 = .ok (.ireturn, 1) := by decide +kernel
theorem dX5_pair_52 : decode cX5_pair 52 = .ok (.iinc 3 1, 3) := by decide +kernel
theorem dX5_pair_55 : decode cX5_pair 55 = .ok (.goto (-53), 3) := by decide +kernel
theorem dX5_pair_58 : decode cX5_pair 58 = .ok (.iconst (-1), 1) := by decide +kernel
theorem dX5_pair_59 : decode cX5_pair 59 = .ok (.ireturn, 1) := by decide +kernel
theorem dX5_countedPairs_0 : decode cX5_countedPairs 0 = .ok (.iconst 0, 1) := by decide +kernel
theorem dX5_countedPairs_1 : decode cX5_countedPairs 1 = .ok (.istore_n 1, 1) := by decide +kernel
theorem dX5_countedPairs_2 : decode cX5_countedPairs 2 = .ok (.iconst 0, 1) := by decide +kernel
theorem dX5_countedPairs_3 : decode cX5_countedPairs 3 = .ok (.istore_n 2, 1) := by decide +kernel
theorem dX5_countedPairs_4 : decode cX5_countedPairs 4 = .ok (.iload_n 2, 1) := by decide +kernel
theorem dX5_countedPairs_5 : decode cX5_countedPairs 5 = .ok (.aload_n 0, 1) := by decide +kernel
theorem dX5_countedPairs_6 : decode cX5_countedPairs 6 = .ok (.getfield 83, 3) := by decide +kernel
theorem dX5_countedPairs_9 : decode cX5_countedPairs 9 = .ok (.if_icmp .ge 45, 3) := by decide +kernel
theorem dX5_countedPairs_12 : decode cX5_countedPairs 12 = .ok (.iload_n 1, 1) := by decide +kernel
theorem dX5_countedPairs_13 : decode cX5_countedPairs 13 = .ok (.aload_n 0, 1) := by decide +kernel
theorem dX5_countedPairs_14 : decode cX5_countedPairs 14 = .ok (.getfield 27, 3) := by decide +kernel
theorem dX5_countedPairs_17 : decode cX5_countedPairs 17 = .ok (.aload_n 0, 1) := by decide +kernel
theorem dX5_countedPairs_18 : decode cX5_countedPairs 18 = .ok (.getfield 31, 3) := by decide +kernel
theorem dX5_countedPairs_21 : decode cX5_countedPairs 21 = .ok (.iload_n 2, 1) := by decide +kernel
theorem dX5_countedPairs_22 : decode cX5_countedPairs 22 = .ok (.iaload, 1) := by decide +kernel
theorem dX5_countedPairs_23 : decode cX5_countedPairs 23 = .ok (.baload, 1) := by decide +kernel
theorem dX5_countedPairs_24 : decode cX5_countedPairs 24 = .ok (.ifCond .ne 17, 3) := by decide +kernel
theorem dX5_countedPairs_27 : decode cX5_countedPairs 27 = .ok (.aload_n 0, 1) := by decide +kernel
theorem dX5_countedPairs_28 : decode cX5_countedPairs 28 = .ok (.getfield 27, 3) := by decide +kernel
theorem dX5_countedPairs_31 : decode cX5_countedPairs 31 = .ok (.aload_n 0, 1) := by decide +kernel
theorem dX5_countedPairs_32 : decode cX5_countedPairs 32 = .ok (.getfield 34, 3) := by decide +kernel
theorem dX5_countedPairs_35 : decode cX5_countedPairs 35 = .ok (.iload_n 2, 1) := by decide +kernel
theorem dX5_countedPairs_36 : decode cX5_countedPairs 36 = .ok (.iaload, 1) := by decide +kernel
theorem dX5_countedPairs_37 : decode cX5_countedPairs 37 = .ok (.baload, 1) := by decide +kernel
theorem dX5_countedPairs_38 : decode cX5_countedPairs 38 = .ok (.ifCond .eq 7, 3) := by decide +kernel
theorem dX5_countedPairs_41 : decode cX5_countedPairs 41 = .ok (.iconst 0, 1) := by decide +kernel
theorem dX5_countedPairs_42 : decode cX5_countedPairs 42 = .ok (.goto 4, 3) := by decide +kernel
theorem dX5_countedPairs_45 : decode cX5_countedPairs 45 = .ok (.iconst 1, 1) := by decide +kernel
theorem dX5_countedPairs_46 : decode cX5_countedPairs 46 = .ok (.iadd, 1) := by decide +kernel
theorem dX5_countedPairs_47 : decode cX5_countedPairs 47 = .ok (.istore_n 1, 1) := by decide +kernel
theorem dX5_countedPairs_48 : decode cX5_countedPairs 48 = .ok (.iinc 2 1, 3) := by decide +kernel
theorem dX5_countedPairs_51 : decode cX5_countedPairs 51 = .ok (.goto (-47), 3) := by decide +kernel
theorem dX5_countedPairs_54 : decode cX5_countedPairs 54 = .ok (.iload_n 1, 1) := by decide +kernel
theorem dX5_countedPairs_55 : decode cX5_countedPairs 55 = .ok (.ireturn, 1) := by decide +kernel
theorem dX5_forbid_0 : decode cX5_forbid 0 = .ok (.aload_n 0, 1) := by decide +kernel
theorem dX5_forbid_1 : decode cX5_forbid 1 = .ok (.aload_n 0, 1) := by decide +kernel
theorem dX5_forbid_2 : decode cX5_forbid 2 = .ok (.iload_n 1, 1) := by decide +kernel
theorem dX5_forbid_3 : decode cX5_forbid 3 = .ok (.invokevirtual 63, 3) := by decide +kernel
theorem dX5_forbid_6 : decode cX5_forbid 6 = .ok (.ifCond .eq 11, 3) := by decide +kernel
theorem dX5_forbid_9 : decode cX5_forbid 9 = .ok (.aload_n 0, 1) := by decide +kernel
theorem dX5_forbid_10 : decode cX5_forbid 10 = .ok (.iload_n 2, 1) := by decide +kernel
theorem dX5_forbid_11 : decode cX5_forbid 11 = .ok (.invokevirtual 63, 3) := by decide +kernel
theorem dX5_forbid_14 : decode cX5_forbid 14 = .ok (.ifCond .ne 7, 3) := by decide +kernel
theorem dX5_forbid_17 : decode cX5_forbid 17 = .ok (.iconst 1, 1) := by decide +kernel
theorem dX5_forbid_18 : decode cX5_forbid 18 = .ok (.goto 36, 3) := by decide +kernel
theorem dX5_forbid_21 : decode cX5_forbid 21 = .ok (.iload_n 1, 1) := by decide +kernel
theorem dX5_forbid_22 : decode cX5_forbid 22 = .ok (.iload_n 2, 1) := by decide +kernel
theorem dX5_forbid_23 : decode cX5_forbid 23 = .ok (.if_icmp .ne 7, 3) := by decide +kernel
theorem dX5_forbid_26 : decode cX5_forbid 26 = .ok (.iconst 2, 1) := by decide +kernel
theorem dX5_forbid_27 : decode cX5_forbid 27 = .ok (.goto 27, 3) := by decide +kernel
theorem dX5_forbid_30 : decode cX5_forbid 30 = .ok (.aload_n 0, 1) := by decide +kernel
theorem dX5_forbid_31 : decode cX5_forbid 31 = .ok (.iload_n 1, 1) := by decide +kernel
theorem dX5_forbid_32 : decode cX5_forbid 32 = .ok (.iload_n 2, 1) := by decide +kernel
theorem dX5_forbid_33 : decode cX5_forbid 33 = .ok (.invokevirtual 86, 3) := by decide +kernel
theorem dX5_forbid_36 : decode cX5_forbid 36 = .ok (.iconst (-1), 1) := by decide +kernel
theorem dX5_forbid_37 : decode cX5_forbid 37 = .ok (.if_icmp .ne 12, 3) := by decide +kernel
theorem dX5_forbid_40 : decode cX5_forbid 40 = .ok (.aload_n 0, 1) := by decide +kernel
theorem dX5_forbid_41 : decode cX5_forbid 41 = .ok (.getfield 83, 3) := by decide +kernel
theorem dX5_forbid_44 : decode cX5_forbid 44 = .ok (.bipush 12, 2) := by decide +kernel
theorem dX5_forbid_46 : decode cX5_forbid 46 = .ok (.if_icmp .ne 7, 3) := by decide +kernel
theorem dX5_forbid_49 : decode cX5_forbid 49 = .ok (.iconst 3, 1) := by decide +kernel
theorem dX5_forbid_50 : decode cX5_forbid 50 = .ok (.goto 4, 3) := by decide +kernel
theorem dX5_forbid_53 : decode cX5_forbid 53 = .ok (.iconst 0, 1) := by decide +kernel
theorem dX5_forbid_54 : decode cX5_forbid 54 = .ok (.putfield 53, 3) := by decide +kernel
theorem dX5_forbid_57 : decode cX5_forbid 57 = .ok (.aload_n 0, 1) := by decide +kernel
theorem dX5_forbid_58 : decode cX5_forbid 58 = .ok (.getfield 53, 3) := by decide +kernel
theorem dX5_forbid_61 : decode cX5_forbid 61 = .ok (.ifCond .le 5, 3) := by decide +kernel
theorem dX5_forbid_64 : decode cX5_forbid 64 = .ok (.iconst 0, 1) := by decide +kernel
theorem dX5_forbid_65 : decode cX5_forbid 65 = .ok (.ireturn, 1) := by decide +kernel
theorem dX5_forbid_66 : decode cX5_forbid 66 = .ok (.aload_n 0, 1) := by decide +kernel
theorem dX5_forbid_67 : decode cX5_forbid 67 = .ok (.getfield 31, 3) := by decide +kernel
theorem dX5_forbid_70 : decode cX5_forbid 70 = .ok (.aload_n 0, 1) := by decide +kernel
theorem dX5_forbid_71 : decode cX5_forbid 71 = .ok (.getfield 83, 3) := by decide +kernel
theorem dX5_forbid_74 : decode cX5_forbid 74 = .ok (.iload_n 1, 1) := by decide +kernel
theorem dX5_forbid_75 : decode cX5_forbid 75 = .ok (.iastore, 1) := by decide +kernel
theorem dX5_forbid_76 : decode cX5_forbid 76 = .ok (.aload_n 0, 1) := by decide +kernel
theorem dX5_forbid_77 : decode cX5_forbid 77 = .ok (.getfield 34, 3) := by decide +kernel
theorem dX5_forbid_80 : decode cX5_forbid 80 = .ok (.aload_n 0, 1) := by decide +kernel
theorem dX5_forbid_81 : decode cX5_forbid 81 = .ok (.getfield 83, 3) := by decide +kernel
theorem dX5_forbid_84 : decode cX5_forbid 84 = .ok (.iload_n 2, 1) := by decide +kernel
theorem dX5_forbid_85 : decode cX5_forbid 85 = .ok (.iastore, 1) := by decide +kernel
theorem dX5_forbid_86 : decode cX5_forbid 86 = .ok (.aload_n 0, 1) := by decide +kernel
theorem dX5_forbid_87 : decode cX5_forbid 87 = .ok (.dup, 1) := by decide +kernel
theorem dX5_forbid_88 : decode cX5_forbid 88 = .ok (.getfield 83, 3) := by decide +kernel
theorem dX5_forbid_91 : decode cX5_forbid 91 = .ok (.iconst 1, 1) := by decide +kernel
theorem dX5_forbid_92 : decode cX5_forbid 92 = .ok (.iadd, 1) := by decide +kernel
theorem dX5_forbid_93 : decode cX5_forbid 93 = .ok (.putfield 83, 3) := by decide +kernel
theorem dX5_forbid_96 : decode cX5_forbid 96 = .ok (.aload_n 0, 1) := by decide +kernel
theorem dX5_forbid_97 : decode cX5_forbid 97 = .ok (.invokevirtual 90, 3) := by decide +kernel
theorem dX5_forbid_100 : decode cX5_forbid 100 = .ok (.ireturn, 1) := by decide +kernel
theorem dX5_allow_0 : decode cX5_allow 0 = .ok (.aload_n 0, 1) := by decide +kernel
theorem dX5_allow_1 : decode cX5_allow 1 = .ok (.iload_n 1, 1) := by decide +kernel
theorem dX5_allow_2 : decode cX5_allow 2 = .ok (.invokevirtual 63, 3) := by decide +kernel
theorem dX5_allow_5 : decode cX5_allow 5 = .ok (.ifCond .eq 11, 3) := by decide +kernel
theorem dX5_allow_8 : decode cX5_allow 8 = .ok (.aload_n 0, 1) := by decide +kernel
theorem dX5_allow_9 : decode cX5_allow 9 = .ok (.iload_n 2, 1) := by decide +kernel
theorem dX5_allow_10 : decode cX5_allow 10 = .ok (.invokevirtual 63, 3) := by decide +kernel
theorem dX5_allow_13 : decode cX5_allow 13 = .ok (.ifCond .ne 9, 3) := by decide +kernel
theorem dX5_allow_16 : decode cX5_allow 16 = .ok (.aload_n 0, 1) := by decide +kernel
theorem dX5_allow_17 : decode cX5_allow 17 = .ok (.iconst 1, 1) := by decide +kernel
theorem dX5_allow_18 : decode cX5_allow 18 = .ok (.invokevirtual 93, 3) := by decide +kernel
theorem dX5_allow_21 : decode cX5_allow 21 = .ok (.ireturn, 1) := by decide +kernel
theorem dX5_allow_22 : decode cX5_allow 22 = .ok (.aload_n 0, 1) := by decide +kernel
theorem dX5_allow_23 : decode cX5_allow 23 = .ok (.iload_n 1, 1) := by decide +kernel
theorem dX5_allow_24 : decode cX5_allow 24 = .ok (.iload_n 2, 1) := by decide +kernel
theorem dX5_allow_25 : decode cX5_allow 25 = .ok (.invokevirtual 86, 3) := by decide +kernel
theorem dX5_allow_28 : decode cX5_allow 28 = .ok (.istore_n 3, 1) := by decide +kernel
theorem dX5_allow_29 : decode cX5_allow 29 = .ok (.aload_n 0, 1) := by decide +kernel
theorem dX5_allow_30 : decode cX5_allow 30 = .ok (.iload_n 3, 1) := by decide +kernel
theorem dX5_allow_31 : decode cX5_allow 31 = .ok (.iconst (-1), 1) := by decide +kernel
theorem dX5_allow_32 : decode cX5_allow 32 = .ok (.if_icmp .ne 7, 3) := by decide +kernel
theorem dX5_allow_35 : decode cX5_allow 35 = .ok (.iconst 2, 1) := by decide +kernel
theorem dX5_allow_36 : decode cX5_allow 36 = .ok (.goto 4, 3) := by decide +kernel
theorem dX5_allow_39 : decode cX5_allow 39 = .ok (.iconst 0, 1) := by decide +kernel
theorem dX5_allow_40 : decode cX5_allow 40 = .ok (.putfield 53, 3) := by decide +kernel
theorem dX5_allow_43 : decode cX5_allow 43 = .ok (.aload_n 0, 1) := by decide +kernel
theorem dX5_allow_44 : decode cX5_allow 44 = .ok (.getfield 53, 3) := by decide +kernel
theorem dX5_allow_47 : decode cX5_allow 47 = .ok (.ifCond .le 5, 3) := by decide +kernel
theorem dX5_allow_50 : decode cX5_allow 50 = .ok (.iconst 0, 1) := by decide +kernel
theorem dX5_allow_51 : decode cX5_allow 51 = .ok (.ireturn, 1) := by decide +kernel
theorem dX5_allow_52 : decode cX5_allow 52 = .ok (.aload_n 0, 1) := by decide +kernel
theorem dX5_allow_53 : decode cX5_allow 53 = .ok (.dup, 1) := by decide +kernel
theorem dX5_allow_54 : decode cX5_allow 54 = .ok (.getfield 83, 3) := by decide +kernel
theorem dX5_allow_57 : decode cX5_allow 57 = .ok (.iconst 1, 1) := by decide +kernel
theorem dX5_allow_58 : decode cX5_allow 58 = .ok (.isub, 1) := by decide +kernel
theorem dX5_allow_59 : decode cX5_allow 59 = .ok (.putfield 83, 3) := by decide +kernel
theorem dX5_allow_62 : decode cX5_allow 62 = .ok (.aload_n 0, 1) := by decide +kernel
theorem dX5_allow_63 : decode cX5_allow 63 = .ok (.getfield 31, 3) := by decide +kernel
theorem dX5_allow_66 : decode cX5_allow 66 = .ok (.iload_n 3, 1) := by decide +kernel
theorem dX5_allow_67 : decode cX5_allow 67 = .ok (.aload_n 0, 1) := by decide +kernel
theorem dX5_allow_68 : decode cX5_allow 68 = .ok (.getfield 31, 3) := by decide +kernel
theorem dX5_allow_71 : decode cX5_allow 71 = .ok (.aload_n 0, 1) := by decide +kernel
theorem dX5_allow_72 : decode cX5_allow 72 = .ok (.getfield 83, 3) := by decide +kernel
theorem dX5_allow_75 : decode cX5_allow 75 = .ok (.iaload, 1) := by decide +kernel
theorem dX5_allow_76 : decode cX5_allow 76 = .ok (.iastore, 1) := by decide +kernel
theorem dX5_allow_77 : decode cX5_allow 77 = .ok (.aload_n 0, 1) := by decide +kernel
theorem dX5_allow_78 : decode cX5_allow 78 = .ok (.getfield 34, 3) := by decide +kernel
theorem dX5_allow_81 : decode cX5_allow 81 = .ok (.iload_n 3, 1) := by decide +kernel
theorem dX5_allow_82 : decode cX5_allow 82 = .ok (.aload_n 0, 1) := by decide +kernel
theorem dX5_allow_83 : decode cX5_allow 83 = .ok (.getfield 34, 3) := by decide +kernel
theorem dX5_allow_86 : decode cX5_allow 86 = .ok (.aload_n 0, 1) := by decide +kernel
theorem dX5_allow_87 : decode cX5_allow 87 = .ok (.getfield 83, 3) := by decide +kernel
theorem dX5_allow_90 : decode cX5_allow 90 = .ok (.iaload, 1) := by decide +kernel
theorem dX5_allow_91 : decode cX5_allow 91 = .ok (.iastore, 1) := by decide +kernel
theorem dX5_allow_92 : decode cX5_allow 92 = .ok (.aload_n 0, 1) := by decide +kernel
theorem dX5_allow_93 : decode cX5_allow 93 = .ok (.invokevirtual 90, 3) := by decide +kernel
theorem dX5_allow_96 : decode cX5_allow 96 = .ok (.ireturn, 1) := by decide +kernel
theorem dX5_records_0 : decode cX5_records 0 = .ok (.aload_n 0, 1) := by decide +kernel
theorem dX5_records_1 : decode cX5_records 1 = .ok (.iconst 0, 1) := by decide +kernel
theorem dX5_records_2 : decode cX5_records 2 = .ok (.putfield 53, 3) := by decide +kernel
theorem dX5_records_5 : decode cX5_records 5 = .ok (.aload_n 0, 1) := by decide +kernel
theorem dX5_records_6 : decode cX5_records 6 = .ok (.invokevirtual 79, 3) := by decide +kernel
theorem dX5_records_9 : decode cX5_records 9 = .ok (.ireturn, 1) := by decide +kernel
theorem dX5_key_0 : decode cX5_key 0 = .ok (.aload_n 0, 1) := by decide +kernel
theorem dX5_key_1 : decode cX5_key 1 = .ok (.aload_n 0, 1) := by decide +kernel
theorem dX5_key_2 : decode cX5_key 2 = .ok (.iload_n 1, 1) := by decide +kernel
theorem dX5_key_3 : decode cX5_key 3 = .ok (.invokevirtual 63, 3) := by decide +kernel
theorem dX5_key_6 : decode cX5_key 6 = .ok (.ifCond .eq 16, 3) := by decide +kernel
theorem dX5_key_9 : decode cX5_key 9 = .ok (.iload_n 2, 1) := by decide +kernel
theorem dX5_key_10 : decode cX5_key 10 = .ok (.iconst 0, 1) := by decide +kernel
theorem dX5_key_11 : decode cX5_key 11 = .ok (.iconst 2, 1) := by decide +kernel
theorem dX5_key_12 : decode cX5_key 12 = .ok (.invokestatic 59, 3) := by decide +kernel
theorem dX5_key_15 : decode cX5_key 15 = .ok (.ifCond .eq 7, 3) := by decide +kernel
theorem dX5_key_18 : decode cX5_key 18 = .ok (.iconst 0, 1) := by decide +kernel
theorem dX5_key_19 : decode cX5_key 19 = .ok (.goto 4, 3) := by decide +kernel
theorem dX5_key_22 : decode cX5_key 22 = .ok (.iconst 1, 1) := by decide +kernel
theorem dX5_key_23 : decode cX5_key 23 = .ok (.putfield 53, 3) := by decide +kernel
theorem dX5_key_26 : decode cX5_key 26 = .ok (.aload_n 0, 1) := by decide +kernel
theorem dX5_key_27 : decode cX5_key 27 = .ok (.getfield 53, 3) := by decide +kernel
theorem dX5_key_30 : decode cX5_key 30 = .ok (.ifCond .le 7, 3) := by decide +kernel
theorem dX5_key_33 : decode cX5_key 33 = .ok (.iconst 0, 1) := by decide +kernel
theorem dX5_key_34 : decode cX5_key 34 = .ok (.goto 11, 3) := by decide +kernel
theorem dX5_key_37 : decode cX5_key 37 = .ok (.aload_n 0, 1) := by decide +kernel
theorem dX5_key_38 : decode cX5_key 38 = .ok (.getfield 21, 3) := by decide +kernel
theorem dX5_key_41 : decode cX5_key 41 = .ok (.iload_n 1, 1) := by decide +kernel
theorem dX5_key_42 : decode cX5_key 42 = .ok (.aaload, 1) := by decide +kernel
theorem dX5_key_43 : decode cX5_key 43 = .ok (.iload_n 2, 1) := by decide +kernel
theorem dX5_key_44 : decode cX5_key 44 = .ok (.iaload, 1) := by decide +kernel
theorem dX5_key_45 : decode cX5_key 45 = .ok (.ireturn, 1) := by decide +kernel
theorem dX5_seen_0 : decode cX5_seen 0 = .ok (.aload_n 0, 1) := by decide +kernel
theorem dX5_seen_1 : decode cX5_seen 1 = .ok (.iload_n 1, 1) := by decide +kernel
theorem dX5_seen_2 : decode cX5_seen 2 = .ok (.invokevirtual 76, 3) := by decide +kernel
theorem dX5_seen_5 : decode cX5_seen 5 = .ok (.ifCond .eq 7, 3) := by decide +kernel
theorem dX5_seen_8 : decode cX5_seen 8 = .ok (.iconst 0, 1) := by decide +kernel
theorem dX5_seen_9 : decode cX5_seen 9 = .ok (.goto 9, 3) := by decide +kernel
theorem dX5_seen_12 : decode cX5_seen 12 = .ok (.aload_n 0, 1) := by decide +kernel
theorem dX5_seen_13 : decode cX5_seen 13 = .ok (.getfield 16, 3) := by decide +kernel
theorem dX5_seen_16 : decode cX5_seen 16 = .ok (.iload_n 1, 1) := by decide +kernel
theorem dX5_seen_17 : decode cX5_seen 17 = .ok (.iaload, 1) := by decide +kernel
theorem dX5_seen_18 : decode cX5_seen 18 = .ok (.ireturn, 1) := by decide +kernel
theorem dX5_counts_0 : decode cX5_counts 0 = .ok (.aload_n 0, 1) := by decide +kernel
theorem dX5_counts_1 : decode cX5_counts 1 = .ok (.getfield 27, 3) := by decide +kernel
theorem dX5_counts_4 : decode cX5_counts 4 = .ok (.iload_n 1, 1) := by decide +kernel
theorem dX5_counts_5 : decode cX5_counts 5 = .ok (.baload, 1) := by decide +kernel
theorem dX5_counts_6 : decode cX5_counts 6 = .ok (.ifCond .ne 15, 3) := by decide +kernel
theorem dX5_counts_9 : decode cX5_counts 9 = .ok (.iload_n 1, 1) := by decide +kernel
theorem dX5_counts_10 : decode cX5_counts 10 = .ok (.aload_n 0, 1) := by decide +kernel
theorem dX5_counts_11 : decode cX5_counts 11 = .ok (.getfield 47, 3) := by decide +kernel
theorem dX5_counts_14 : decode cX5_counts 14 = .ok (.if_icmp .eq 7, 3) := by decide +kernel
theorem dX5_counts_17 : decode cX5_counts 17 = .ok (.iconst 1, 1) := by decide +kernel
theorem dX5_counts_18 : decode cX5_counts 18 = .ok (.goto 4, 3) := by decide +kernel
theorem dX5_counts_21 : decode cX5_counts 21 = .ok (.iconst 0, 1) := by decide +kernel
theorem dX5_counts_22 : decode cX5_counts 22 = .ok (.ireturn, 1) := by decide +kernel
theorem dX5_areLinked_0 : decode cX5_areLinked 0 = .ok (.aload_n 0, 1) := by decide +kernel
theorem dX5_areLinked_1 : decode cX5_areLinked 1 = .ok (.getfield 44, 3) := by decide +kernel
theorem dX5_areLinked_4 : decode cX5_areLinked 4 = .ok (.iload_n 1, 1) := by decide +kernel
theorem dX5_areLinked_5 : decode cX5_areLinked 5 = .ok (.iaload, 1) := by decide +kernel
theorem dX5_areLinked_6 : decode cX5_areLinked 6 = .ok (.aload_n 0, 1) := by decide +kernel
theorem dX5_areLinked_7 : decode cX5_areLinked 7 = .ok (.getfield 44, 3) := by decide +kernel
theorem dX5_areLinked_10 : decode cX5_areLinked 10 = .ok (.iload_n 2, 1) := by decide +kernel
theorem dX5_areLinked_11 : decode cX5_areLinked 11 = .ok (.iaload, 1) := by decide +kernel
theorem dX5_areLinked_12 : decode cX5_areLinked 12 = .ok (.if_icmp .eq 49, 3) := by decide +kernel
theorem dX5_areLinked_15 : decode cX5_areLinked 15 = .ok (.aload_n 0, 1) := by decide +kernel
theorem dX5_areLinked_16 : decode cX5_areLinked 16 = .ok (.getfield 41, 3) := by decide +kernel
theorem dX5_areLinked_19 : decode cX5_areLinked 19 = .ok (.iload_n 1, 1) := by decide +kernel
theorem dX5_areLinked_20 : decode cX5_areLinked 20 = .ok (.iaload, 1) := by decide +kernel
theorem dX5_areLinked_21 : decode cX5_areLinked 21 = .ok (.aload_n 0, 1) := by decide +kernel
theorem dX5_areLinked_22 : decode cX5_areLinked 22 = .ok (.getfield 41, 3) := by decide +kernel
theorem dX5_areLinked_25 : decode cX5_areLinked 25 = .ok (.iload_n 2, 1) := by decide +kernel
theorem dX5_areLinked_26 : decode cX5_areLinked 26 = .ok (.iaload, 1) := by decide +kernel
theorem dX5_areLinked_27 : decode cX5_areLinked 27 = .ok (.if_icmp .eq 34, 3) := by decide +kernel
theorem dX5_areLinked_30 : decode cX5_areLinked 30 = .ok (.aload_n 0, 1) := by decide +kernel
theorem dX5_areLinked_31 : decode cX5_areLinked 31 = .ok (.getfield 21, 3) := by decide +kernel
theorem dX5_areLinked_34 : decode cX5_areLinked 34 = .ok (.iload_n 1, 1) := by decide +kernel
theorem dX5_areLinked_35 : decode cX5_areLinked 35 = .ok (.aaload, 1) := by decide +kernel
theorem dX5_areLinked_36 : decode cX5_areLinked 36 = .ok (.iload_n 3, 1) := by decide +kernel
theorem dX5_areLinked_37 : decode cX5_areLinked 37 = .ok (.iaload, 1) := by decide +kernel
theorem dX5_areLinked_38 : decode cX5_areLinked 38 = .ok (.iconst (-1), 1) := by decide +kernel
theorem dX5_areLinked_39 : decode cX5_areLinked 39 = .ok (.if_icmp .eq 26, 3) := by decide +kernel
theorem dX5_areLinked_42 : decode cX5_areLinked 42 = .ok (.aload_n 0, 1) := by decide +kernel
theorem dX5_areLinked_43 : decode cX5_areLinked 43 = .ok (.getfield 21, 3) := by decide +kernel
theorem dX5_areLinked_46 : decode cX5_areLinked 46 = .ok (.iload_n 1, 1) := by decide +kernel
theorem dX5_areLinked_47 : decode cX5_areLinked 47 = .ok (.aaload, 1) := by decide +kernel
theorem dX5_areLinked_48 : decode cX5_areLinked 48 = .ok (.iload_n 3, 1) := by decide +kernel
theorem dX5_areLinked_49 : decode cX5_areLinked 49 = .ok (.iaload, 1) := by decide +kernel
theorem dX5_areLinked_50 : decode cX5_areLinked 50 = .ok (.aload_n 0, 1) := by decide +kernel
theorem dX5_areLinked_51 : decode cX5_areLinked 51 = .ok (.getfield 21, 3) := by decide +kernel
theorem dX5_areLinked_54 : decode cX5_areLinked 54 = .ok (.iload_n 2, 1) := by decide +kernel
theorem dX5_areLinked_55 : decode cX5_areLinked 55 = .ok (.aaload, 1) := by decide +kernel
theorem dX5_areLinked_56 : decode cX5_areLinked 56 = .ok (.iload_n 3, 1) := by decide +kernel
theorem dX5_areLinked_57 : decode cX5_areLinked 57 = .ok (.iaload, 1) := by decide +kernel
theorem dX5_areLinked_58 : decode cX5_areLinked 58 = .ok (.if_icmp .ne 7, 3) := by decide +kernel
theorem dX5_areLinked_61 : decode cX5_areLinked 61 = .ok (.iconst 1, 1) := by decide +kernel
theorem dX5_areLinked_62 : decode cX5_areLinked 62 = .ok (.goto 4, 3) := by decide +kernel
theorem dX5_areLinked_65 : decode cX5_areLinked 65 = .ok (.iconst 0, 1) := by decide +kernel
theorem dX5_areLinked_66 : decode cX5_areLinked 66 = .ok (.ireturn, 1) := by decide +kernel
theorem dX5_clusters_0 : decode cX5_clusters 0 = .ok (.iconst 0, 1) := by decide +kernel
theorem dX5_clusters_1 : decode cX5_clusters 1 = .ok (.istore_n 2, 1) := by decide +kernel
theorem dX5_clusters_2 : decode cX5_clusters 2 = .ok (.iload_n 2, 1) := by decide +kernel
theorem dX5_clusters_3 : decode cX5_clusters 3 = .ok (.aload_n 0, 1) := by decide +kernel
theorem dX5_clusters_4 : decode cX5_clusters 4 = .ok (.getfield 56, 3) := by decide +kernel
theorem dX5_clusters_7 : decode cX5_clusters 7 = .ok (.if_icmp .ge 16, 3) := by decide +kernel
theorem dX5_clusters_10 : decode cX5_clusters 10 = .ok (.aload_n 0, 1) := by decide +kernel
theorem dX5_clusters_11 : decode cX5_clusters 11 = .ok (.getfield 44, 3) := by decide +kernel
theorem dX5_clusters_14 : decode cX5_clusters 14 = .ok (.iload_n 2, 1) := by decide +kernel
theorem dX5_clusters_15 : decode cX5_clusters 15 = .ok (.iload_n 2, 1) := by decide +kernel
theorem dX5_clusters_16 : decode cX5_clusters 16 = .ok (.iastore, 1) := by decide +kernel
theorem dX5_clusters_17 : decode cX5_clusters 17 = .ok (.iinc 2 1, 3) := by decide +kernel
theorem dX5_clusters_20 : decode cX5_clusters 20 = .ok (.goto (-18), 3) := by decide +kernel
theorem dX5_clusters_23 : decode cX5_clusters 23 = .ok (.iconst 1, 1) := by decide +kernel
theorem dX5_clusters_24 : decode cX5_clusters 24 = .ok (.istore_n 2, 1) := by decide +kernel
theorem dX5_clusters_25 : decode cX5_clusters 25 = .ok (.iload_n 2, 1) := by decide +kernel
theorem dX5_clusters_26 : decode cX5_clusters 26 = .ok (.ifCond .eq 101, 3) := by decide +kernel
theorem dX5_clusters_29 : decode cX5_clusters 29 = .ok (.iconst 0, 1) := by decide +kernel
theorem dX5_clusters_30 : decode cX5_clusters 30 = .ok (.istore_n 2, 1) := by decide +kernel
theorem dX5_clusters_31 : decode cX5_clusters 31 = .ok (.iconst 0, 1) := by decide +kernel
theorem dX5_clusters_32 : decode cX5_clusters 32 = .ok (.istore_n 3, 1) := by decide +kernel
theorem dX5_clusters_33 : decode cX5_clusters 33 = .ok (.iload_n 3, 1) := by decide +kernel
theorem dX5_clusters_34 : decode cX5_clusters 34 = .ok (.aload_n 0, 1) := by decide +kernel
theorem dX5_clusters_35 : decode cX5_clusters 35 = .ok (.getfield 56, 3) := by decide +kernel
theorem dX5_clusters_38 : decode cX5_clusters 38 = .ok (.if_icmp .ge 86, 3) := by decide +kernel
theorem dX5_clusters_41 : decode cX5_clusters 41 = .ok (.iconst 0, 1) := by decide +kernel
theorem dX5_clusters_42 : decode cX5_clusters 42 = .ok (.istore 4, 2) := by decide +kernel
theorem dX5_clusters_44 : decode cX5_clusters 44 = .ok (.iload 4, 2) := by decide +kernel
theorem dX5_clusters_46 : decode cX5_clusters 46 = .ok (.aload_n 0, 1) := by decide +kernel
theorem dX5_clusters_47 : decode cX5_clusters 47 = .ok (.getfield 56, 3) := by decide +kernel
theorem dX5_clusters_50 : decode cX5_clusters 50 = .ok (.if_icmp .ge 68, 3) := by decide +kernel
theorem dX5_clusters_53 : decode cX5_clusters 53 = .ok (.aload_n 0, 1) := by decide +kernel
theorem dX5_clusters_54 : decode cX5_clusters 54 = .ok (.iload_n 3, 1) := by decide +kernel
theorem dX5_clusters_55 : decode cX5_clusters 55 = .ok (.invokevirtual 97, 3) := by decide +kernel
theorem dX5_clusters_58 : decode cX5_clusters 58 = .ok (.ifCond .eq 54, 3) := by decide +kernel
theorem dX5_clusters_61 : decode cX5_clusters 61 = .ok (.aload_n 0, 1) := by decide +kernel
theorem dX5_clusters_62 : decode cX5_clusters 62 = .ok (.iload 4, 2) := by decide +kernel
theorem dX5_clusters_64 : decode cX5_clusters 64 = .ok (.invokevirtual 97, 3) := by decide +kernel
theorem dX5_clusters_67 : decode cX5_clusters 67 = .ok (.ifCond .eq 45, 3) := by decide +kernel
theorem dX5_clusters_70 : decode cX5_clusters 70 = .ok (.aload_n 0, 1) := by decide +kernel
theorem dX5_clusters_71 : decode cX5_clusters 71 = .ok (.getfield 44, 3) := by decide +kernel
theorem dX5_clusters_74 : decode cX5_clusters 74 = .ok (.iload 4, 2) := by decide +kernel
theorem dX5_clusters_76 : decode cX5_clusters 76 = .ok (.iaload, 1) := by decide +kernel
theorem dX5_clusters_77 : decode cX5_clusters 77 = .ok (.aload_n 0, 1) := by decide +kernel
theorem dX5_clusters_78 : decode cX5_clusters 78 = .ok (.getfield 44, 3) := by decide +kernel
theorem dX5_clusters_81 : decode cX5_clusters 81 = .ok (.iload_n 3, 1) := by decide +kernel
theorem dX5_clusters_82 : decode cX5_clusters 82 = .ok (.iaload, 1) := by decide +kernel
theorem dX5_clusters_83 : decode cX5_clusters 83 = .ok (.if_icmp .le 29, 3) := by decide +kernel
theorem dX5_clusters_86 : decode cX5_clusters 86 = .ok (.aload_n 0, 1) := by decide +kernel
theorem dX5_clusters_87 : decode cX5_clusters 87 = .ok (.iload_n 3, 1) := by decide +kernel
theorem dX5_clusters_88 : decode cX5_clusters 88 = .ok (.iload 4, 2) := by decide +kernel
theorem dX5_clusters_90 : decode cX5_clusters 90 = .ok (.iload_n 1, 1) := by decide +kernel
theorem dX5_clusters_91 : decode cX5_clusters 91 = .ok (.invokevirtual 100, 3) := by decide +kernel
theorem dX5_clusters_94 : decode cX5_clusters 94 = .ok (.ifCond .eq 18, 3) := by decide +kernel
theorem dX5_clusters_97 : decode cX5_clusters 97 = .ok (.aload_n 0, 1) := by decide +kernel
theorem dX5_clusters_98 : decode cX5_clusters 98 = .ok (.getfield 44, 3) := by decide +kernel
theorem dX5_clusters_101 : decode cX5_clusters 101 = .ok (.iload 4, 2) := by decide +kernel
theorem dX5_clusters_103 : decode cX5_clusters 103 = .ok (.aload_n 0, 1) := by decide +kernel
theorem dX5_clusters_104 : decode cX5_clusters 104 = .ok (.getfield 44, 3) := by decide +kernel
theorem dX5_clusters_107 : decode cX5_clusters 107 = .ok (.iload_n 3, 1) := by decide +kernel
theorem dX5_clusters_108 : decode cX5_clusters 108 = .ok (.iaload, 1) := by decide +kernel
theorem dX5_clusters_109 : decode cX5_clusters 109 = .ok (.iastore, 1) := by decide +kernel
theorem dX5_clusters_110 : decode cX5_clusters 110 = .ok (.iconst 1, 1) := by decide +kernel
theorem dX5_clusters_111 : decode cX5_clusters 111 = .ok (.istore_n 2, 1) := by decide +kernel
theorem dX5_clusters_112 : decode cX5_clusters 112 = .ok (.iinc 4 1, 3) := by decide +kernel
theorem dX5_clusters_115 : decode cX5_clusters 115 = .ok (.goto (-71), 3) := by decide +kernel
theorem dX5_clusters_118 : decode cX5_clusters 118 = .ok (.iinc 3 1, 3) := by decide +kernel
theorem dX5_clusters_121 : decode cX5_clusters 121 = .ok (.goto (-88), 3) := by decide +kernel
theorem dX5_clusters_124 : decode cX5_clusters 124 = .ok (.goto (-99), 3) := by decide +kernel
theorem dX5_clusters_127 : decode cX5_clusters 127 = .ok (.return_, 1) := by decide +kernel
theorem dX5_mayJoin_0 : decode cX5_mayJoin 0 = .ok (.iconst 0, 1) := by decide +kernel
theorem dX5_mayJoin_1 : decode cX5_mayJoin 1 = .ok (.istore_n 3, 1) := by decide +kernel
theorem dX5_mayJoin_2 : decode cX5_mayJoin 2 = .ok (.iload_n 3, 1) := by decide +kernel
theorem dX5_mayJoin_3 : decode cX5_mayJoin 3 = .ok (.aload_n 0, 1) := by decide +kernel
theorem dX5_mayJoin_4 : decode cX5_mayJoin 4 = .ok (.getfield 56, 3) := by decide +kernel
theorem dX5_mayJoin_7 : decode cX5_mayJoin 7 = .ok (.if_icmp .ge 157, 3) := by decide +kernel
theorem dX5_mayJoin_10 : decode cX5_mayJoin 10 = .ok (.iconst 0, 1) := by decide +kernel
theorem dX5_mayJoin_11 : decode cX5_mayJoin 11 = .ok (.istore 4, 2) := by decide +kernel
theorem dX5_mayJoin_13 : decode cX5_mayJoin 13 = .ok (.iload 4, 2) := by decide +kernel
theorem dX5_mayJoin_15 : decode cX5_mayJoin 15 = .ok (.iload_n 3, 1) := by decide +kernel
theorem dX5_mayJoin_16 : decode cX5_mayJoin 16 = .ok (.if_icmp .ge 142, 3) := by decide +kernel
theorem dX5_mayJoin_19 : decode cX5_mayJoin 19 = .ok (.aload_n 0, 1) := by decide +kernel
theorem dX5_mayJoin_20 : decode cX5_mayJoin 20 = .ok (.iload_n 3, 1) := by decide +kernel
theorem dX5_mayJoin_21 : decode cX5_mayJoin 21 = .ok (.invokevirtual 97, 3) := by decide +kernel
theorem dX5_mayJoin_24 : decode cX5_mayJoin 24 = .ok (.ifCond .eq 128, 3) := by decide +kernel
theorem dX5_mayJoin_27 : decode cX5_mayJoin 27 = .ok (.aload_n 0, 1) := by decide +kernel
theorem dX5_mayJoin_28 : decode cX5_mayJoin 28 = .ok (.iload 4, 2) := by decide +kernel
theorem dX5_mayJoin_30 : decode cX5_mayJoin 30 = .ok (.invokevirtual 97, 3) := by decide +kernel
theorem dX5_mayJoin_33 : decode cX5_mayJoin 33 = .ok (.ifCond .eq 119, 3) := by decide +kernel
theorem dX5_mayJoin_36 : decode cX5_mayJoin 36 = .ok (.aload_n 0, 1) := by decide +kernel
theorem dX5_mayJoin_37 : decode cX5_mayJoin 37 = .ok (.getfield 44, 3) := by decide +kernel
theorem dX5_mayJoin_40 : decode cX5_mayJoin 40 = .ok (.iload_n 3, 1) := by decide +kernel
theorem dX5_mayJoin_41 : decode cX5_mayJoin 41 = .ok (.iaload, 1) := by decide +kernel
theorem dX5_mayJoin_42 : decode cX5_mayJoin 42 = .ok (.iload_n 1, 1) := by decide +kernel
theorem dX5_mayJoin_43 : decode cX5_mayJoin 43 = .ok (.if_icmp .ne 109, 3) := by decide +kernel
theorem dX5_mayJoin_46 : decode cX5_mayJoin 46 = .ok (.aload_n 0, 1) := by decide +kernel
theorem dX5_mayJoin_47 : decode cX5_mayJoin 47 = .ok (.getfield 44, 3) := by decide +kernel
theorem dX5_mayJoin_50 : decode cX5_mayJoin 50 = .ok (.iload 4, 2) := by decide +kernel
theorem dX5_mayJoin_52 : decode cX5_mayJoin 52 = .ok (.iaload, 1) := by decide +kernel
theorem dX5_mayJoin_53 : decode cX5_mayJoin 53 = .ok (.iload_n 1, 1) := by decide +kernel
theorem dX5_mayJoin_54 : decode cX5_mayJoin 54 = .ok (.if_icmp .eq 6, 3) := by decide +kernel
theorem dX5_mayJoin_57 : decode cX5_mayJoin 57 = .ok (.goto 95, 3) := by decide +kernel
theorem dX5_mayJoin_60 : decode cX5_mayJoin 60 = .ok (.iconst 0, 1) := by decide +kernel
theorem dX5_mayJoin_61 : decode cX5_mayJoin 61 = .ok (.istore 5, 2) := by decide +kernel
theorem dX5_mayJoin_63 : decode cX5_mayJoin 63 = .ok (.iload 5, 2) := by decide +kernel
theorem dX5_mayJoin_65 : decode cX5_mayJoin 65 = .ok (.iload_n 2, 1) := by decide +kernel
theorem dX5_mayJoin_66 : decode cX5_mayJoin 66 = .ok (.if_icmp .ge 60, 3) := by decide +kernel
theorem dX5_mayJoin_69 : decode cX5_mayJoin 69 = .ok (.aload_n 0, 1) := by decide +kernel
theorem dX5_mayJoin_70 : decode cX5_mayJoin 70 = .ok (.getfield 21, 3) := by decide +kernel
theorem dX5_mayJoin_73 : decode cX5_mayJoin 73 = .ok (.iload_n 3, 1) := by decide +kernel
theorem dX5_mayJoin_74 : decode cX5_mayJoin 74 = .ok (.aaload, 1) := by decide +kernel
theorem dX5_mayJoin_75 : decode cX5_mayJoin 75 = .ok (.iload 5, 2) := by decide +kernel
theorem dX5_mayJoin_77 : decode cX5_mayJoin 77 = .ok (.iaload, 1) := by decide +kernel
theorem dX5_mayJoin_78 : decode cX5_mayJoin 78 = .ok (.iconst (-1), 1) := by decide +kernel
theorem dX5_mayJoin_79 : decode cX5_mayJoin 79 = .ok (.if_icmp .eq 41, 3) := by decide +kernel
theorem dX5_mayJoin_82 : decode cX5_mayJoin 82 = .ok (.aload_n 0, 1) := by decide +kernel
theorem dX5_mayJoin_83 : decode cX5_mayJoin 83 = .ok (.getfield 21, 3) := by decide +kernel
theorem dX5_mayJoin_86 : decode cX5_mayJoin 86 = .ok (.iload 4, 2) := by decide +kernel
theorem dX5_mayJoin_88 : decode cX5_mayJoin 88 = .ok (.aaload, 1) := by decide +kernel
theorem dX5_mayJoin_89 : decode cX5_mayJoin 89 = .ok (.iload 5, 2) := by decide +kernel
theorem dX5_mayJoin_91 : decode cX5_mayJoin 91 = .ok (.iaload, 1) := by decide +kernel
theorem dX5_mayJoin_92 : decode cX5_mayJoin 92 = .ok (.iconst (-1), 1) := by decide +kernel
theorem dX5_mayJoin_93 : decode cX5_mayJoin 93 = .ok (.if_icmp .eq 27, 3) := by decide +kernel
theorem dX5_mayJoin_96 : decode cX5_mayJoin 96 = .ok (.aload_n 0, 1) := by decide +kernel
theorem dX5_mayJoin_97 : decode cX5_mayJoin 97 = .ok (.getfield 21, 3) := by decide +kernel
theorem dX5_mayJoin_100 : decode cX5_mayJoin 100 = .ok (.iload_n 3, 1) := by decide +kernel
theorem dX5_mayJoin_101 : decode cX5_mayJoin 101 = .ok (.aaload, 1) := by decide +kernel
theorem dX5_mayJoin_102 : decode cX5_mayJoin 102 = .ok (.iload 5, 2) := by decide +kernel
theorem dX5_mayJoin_104 : decode cX5_mayJoin 104 = .ok (.iaload, 1) := by decide +kernel
theorem dX5_mayJoin_105 : decode cX5_mayJoin 105 = .ok (.aload_n 0, 1) := by decide +kernel
theorem dX5_mayJoin_106 : decode cX5_mayJoin 106 = .ok (.getfield 21, 3) := by decide +kernel
theorem dX5_mayJoin_109 : decode cX5_mayJoin 109 = .ok (.iload 4, 2) := by decide +kernel
theorem dX5_mayJoin_111 : decode cX5_mayJoin 111 = .ok (.aaload, 1) := by decide +kernel
theorem dX5_mayJoin_112 : decode cX5_mayJoin 112 = .ok (.iload 5, 2) := by decide +kernel
theorem dX5_mayJoin_114 : decode cX5_mayJoin 114 = .ok (.iaload, 1) := by decide +kernel
theorem dX5_mayJoin_115 : decode cX5_mayJoin 115 = .ok (.if_icmp .eq 5, 3) := by decide +kernel
theorem dX5_mayJoin_118 : decode cX5_mayJoin 118 = .ok (.iconst 0, 1) := by decide +kernel
theorem dX5_mayJoin_119 : decode cX5_mayJoin 119 = .ok (.ireturn, 1) := by decide +kernel
theorem dX5_mayJoin_120 : decode cX5_mayJoin 120 = .ok (.iinc 5 1, 3) := by decide +kernel
theorem dX5_mayJoin_123 : decode cX5_mayJoin 123 = .ok (.goto (-60), 3) := by decide +kernel
theorem dX5_mayJoin_126 : decode cX5_mayJoin 126 = .ok (.aload_n 0, 1) := by decide +kernel
theorem dX5_mayJoin_127 : decode cX5_mayJoin 127 = .ok (.iload_n 3, 1) := by decide +kernel
theorem dX5_mayJoin_128 : decode cX5_mayJoin 128 = .ok (.iload 4, 2) := by decide +kernel
theorem dX5_mayJoin_130 : decode cX5_mayJoin 130 = .ok (.invokevirtual 86, 3) := by decide +kernel
theorem dX5_mayJoin_133 : decode cX5_mayJoin 133 = .ok (.istore 5, 2) := by decide +kernel
theorem dX5_mayJoin_135 : decode cX5_mayJoin 135 = .ok (.iload 5, 2) := by decide +kernel
theorem dX5_mayJoin_137 : decode cX5_mayJoin 137 = .ok (.iconst (-1), 1) := by decide +kernel
theorem dX5_mayJoin_138 : decode cX5_mayJoin 138 = .ok (.if_icmp .eq 14, 3) := by decide +kernel
theorem dX5_mayJoin_141 : decode cX5_mayJoin 141 = .ok (.iload 5, 2) := by decide +kernel
theorem dX5_mayJoin_143 : decode cX5_mayJoin 143 = .ok (.aload_n 0, 1) := by decide +kernel
theorem dX5_mayJoin_144 : decode cX5_mayJoin 144 = .ok (.getfield 50, 3) := by decide +kernel
theorem dX5_mayJoin_147 : decode cX5_mayJoin 147 = .ok (.if_icmp .eq 5, 3) := by decide +kernel
theorem dX5_mayJoin_150 : decode cX5_mayJoin 150 = .ok (.iconst 0, 1) := by decide +kernel
theorem dX5_mayJoin_151 : decode cX5_mayJoin 151 = .ok (.ireturn, 1) := by decide +kernel
theorem dX5_mayJoin_152 : decode cX5_mayJoin 152 = .ok (.iinc 4 1, 3) := by decide +kernel
theorem dX5_mayJoin_155 : decode cX5_mayJoin 155 = .ok (.goto (-142), 3) := by decide +kernel
theorem dX5_mayJoin_158 : decode cX5_mayJoin 158 = .ok (.iinc 3 1, 3) := by decide +kernel
theorem dX5_mayJoin_161 : decode cX5_mayJoin 161 = .ok (.goto (-159), 3) := by decide +kernel
theorem dX5_mayJoin_164 : decode cX5_mayJoin 164 = .ok (.iconst 1, 1) := by decide +kernel
theorem dX5_mayJoin_165 : decode cX5_mayJoin 165 = .ok (.ireturn, 1) := by decide +kernel
theorem dX5_joins_0 : decode cX5_joins 0 = .ok (.aload_n 0, 1) := by decide +kernel
theorem dX5_joins_1 : decode cX5_joins 1 = .ok (.iload_n 1, 1) := by decide +kernel
theorem dX5_joins_2 : decode cX5_joins 2 = .ok (.invokevirtual 103, 3) := by decide +kernel
theorem dX5_joins_5 : decode cX5_joins 5 = .ok (.iconst 0, 1) := by decide +kernel
theorem dX5_joins_6 : decode cX5_joins 6 = .ok (.istore_n 2, 1) := by decide +kernel
theorem dX5_joins_7 : decode cX5_joins 7 = .ok (.iload_n 2, 1) := by decide +kernel
theorem dX5_joins_8 : decode cX5_joins 8 = .ok (.aload_n 0, 1) := by decide +kernel
theorem dX5_joins_9 : decode cX5_joins 9 = .ok (.getfield 56, 3) := by decide +kernel
theorem dX5_joins_12 : decode cX5_joins 12 = .ok (.if_icmp .ge 86, 3) := by decide +kernel
theorem dX5_joins_15 : decode cX5_joins 15 = .ok (.aload_n 0, 1) := by decide +kernel
theorem dX5_joins_16 : decode cX5_joins 16 = .ok (.iload_n 2, 1) := by decide +kernel
theorem dX5_joins_17 : decode cX5_joins 17 = .ok (.invokevirtual 97, 3) := by decide +kernel
theorem dX5_joins_20 : decode cX5_joins 20 = .ok (.ifCond .eq 72, 3) := by decide +kernel
theorem dX5_joins_23 : decode cX5_joins 23 = .ok (.aload_n 0, 1) := by decide +kernel
theorem dX5_joins_24 : decode cX5_joins 24 = .ok (.getfield 44, 3) := by decide +kernel
theorem dX5_joins_27 : decode cX5_joins 27 = .ok (.iload_n 2, 1) := by decide +kernel
theorem dX5_joins_28 : decode cX5_joins 28 = .ok (.iaload, 1) := by decide +kernel
theorem dX5_joins_29 : decode cX5_joins 29 = .ok (.iload_n 2, 1) := by decide +kernel
theorem dX5_joins_30 : decode cX5_joins 30 = .ok (.if_icmp .ne 62, 3) := by decide +kernel
theorem dX5_joins_33 : decode cX5_joins 33 = .ok (.aload_n 0, 1) := by decide +kernel
theorem dX5_joins_34 : decode cX5_joins 34 = .ok (.iload_n 2, 1) := by decide +kernel
theorem dX5_joins_35 : decode cX5_joins 35 = .ok (.iload_n 1, 1) := by decide +kernel
theorem dX5_joins_36 : decode cX5_joins 36 = .ok (.invokevirtual 106, 3) := by decide +kernel
theorem dX5_joins_39 : decode cX5_joins 39 = .ok (.ifCond .eq 53, 3) := by decide +kernel
theorem dX5_joins_42 : decode cX5_joins 42 = .ok (.iconst 0, 1) := by decide +kernel
theorem dX5_joins_43 : decode cX5_joins 43 = .ok (.istore_n 3, 1) := by decide +kernel
theorem dX5_joins_44 : decode cX5_joins 44 = .ok (.iload_n 3, 1) := by decide +kernel
theorem dX5_joins_45 : decode cX5_joins 45 = .ok (.aload_n 0, 1) := by decide +kernel
theorem dX5_joins_46 : decode cX5_joins 46 = .ok (.getfield 56, 3) := by decide +kernel
theorem dX5_joins_49 : decode cX5_joins 49 = .ok (.if_icmp .ge 43, 3) := by decide +kernel
theorem dX5_joins_52 : decode cX5_joins 52 = .ok (.aload_n 0, 1) := by decide +kernel
theorem dX5_joins_53 : decode cX5_joins 53 = .ok (.getfield 41, 3) := by decide +kernel
theorem dX5_joins_56 : decode cX5_joins 56 = .ok (.iload_n 3, 1) := by decide +kernel
theorem dX5_joins_57 : decode cX5_joins 57 = .ok (.aload_n 0, 1) := by decide +kernel
theorem dX5_joins_58 : decode cX5_joins 58 = .ok (.iload_n 3, 1) := by decide +kernel
theorem dX5_joins_59 : decode cX5_joins 59 = .ok (.invokevirtual 97, 3) := by decide +kernel
theorem dX5_joins_62 : decode cX5_joins 62 = .ok (.ifCond .eq 17, 3) := by decide +kernel
theorem dX5_joins_65 : decode cX5_joins 65 = .ok (.aload_n 0, 1) := by decide +kernel
theorem dX5_joins_66 : decode cX5_joins 66 = .ok (.getfield 44, 3) := by decide +kernel
theorem dX5_joins_69 : decode cX5_joins 69 = .ok (.iload_n 3, 1) := by decide +kernel
theorem dX5_joins_70 : decode cX5_joins 70 = .ok (.iaload, 1) := by decide +kernel
theorem dX5_joins_71 : decode cX5_joins 71 = .ok (.iload_n 2, 1) := by decide +kernel
theorem dX5_joins_72 : decode cX5_joins 72 = .ok (.if_icmp .ne 7, 3) := by decide +kernel
theorem dX5_joins_75 : decode cX5_joins 75 = .ok (.iload_n 2, 1) := by decide +kernel
theorem dX5_joins_76 : decode cX5_joins 76 = .ok (.goto 9, 3) := by decide +kernel
theorem dX5_joins_79 : decode cX5_joins 79 = .ok (.aload_n 0, 1) := by decide +kernel
theorem dX5_joins_80 : decode cX5_joins 80 = .ok (.getfield 41, 3) := by decide +kernel
theorem dX5_joins_83 : decode cX5_joins 83 = .ok (.iload_n 3, 1) := by decide +kernel
theorem dX5_joins_84 : decode cX5_joins 84 = .ok (.iaload, 1) := by decide +kernel
theorem dX5_joins_85 : decode cX5_joins 85 = .ok (.iastore, 1) := by decide +kernel
theorem dX5_joins_86 : decode cX5_joins 86 = .ok (.iinc 3 1, 3) := by decide +kernel
theorem dX5_joins_89 : decode cX5_joins 89 = .ok (.goto (-45), 3) := by decide +kernel
theorem dX5_joins_92 : decode cX5_joins 92 = .ok (.iinc 2 1, 3) := by decide +kernel
theorem dX5_joins_95 : decode cX5_joins 95 = .ok (.goto (-88), 3) := by decide +kernel
theorem dX5_joins_98 : decode cX5_joins 98 = .ok (.return_, 1) := by decide +kernel
theorem dX5_finds_0 : decode cX5_finds 0 = .ok (.iconst 0, 1) := by decide +kernel
theorem dX5_finds_1 : decode cX5_finds 1 = .ok (.istore_n 2, 1) := by decide +kernel
theorem dX5_finds_2 : decode cX5_finds 2 = .ok (.iload_n 2, 1) := by decide +kernel
theorem dX5_finds_3 : decode cX5_finds 3 = .ok (.aload_n 0, 1) := by decide +kernel
theorem dX5_finds_4 : decode cX5_finds 4 = .ok (.getfield 56, 3) := by decide +kernel
theorem dX5_finds_7 : decode cX5_finds 7 = .ok (.if_icmp .ge 16, 3) := by decide +kernel
theorem dX5_finds_10 : decode cX5_finds 10 = .ok (.aload_n 0, 1) := by decide +kernel
theorem dX5_finds_11 : decode cX5_finds 11 = .ok (.getfield 41, 3) := by decide +kernel
theorem dX5_finds_14 : decode cX5_finds 14 = .ok (.iload_n 2, 1) := by decide +kernel
theorem dX5_finds_15 : decode cX5_finds 15 = .ok (.iload_n 2, 1) := by decide +kernel
theorem dX5_finds_16 : decode cX5_finds 16 = .ok (.iastore, 1) := by decide +kernel
theorem dX5_finds_17 : decode cX5_finds 17 = .ok (.iinc 2 1, 3) := by decide +kernel
theorem dX5_finds_20 : decode cX5_finds 20 = .ok (.goto (-18), 3) := by decide +kernel
theorem dX5_finds_23 : decode cX5_finds 23 = .ok (.iconst 0, 1) := by decide +kernel
theorem dX5_finds_24 : decode cX5_finds 24 = .ok (.istore_n 2, 1) := by decide +kernel
theorem dX5_finds_25 : decode cX5_finds 25 = .ok (.iload_n 2, 1) := by decide +kernel
theorem dX5_finds_26 : decode cX5_finds 26 = .ok (.iload_n 1, 1) := by decide +kernel
theorem dX5_finds_27 : decode cX5_finds 27 = .ok (.if_icmp .gt 14, 3) := by decide +kernel
theorem dX5_finds_30 : decode cX5_finds 30 = .ok (.aload_n 0, 1) := by decide +kernel
theorem dX5_finds_31 : decode cX5_finds 31 = .ok (.iload_n 2, 1) := by decide +kernel
theorem dX5_finds_32 : decode cX5_finds 32 = .ok (.invokevirtual 110, 3) := by decide +kernel
theorem dX5_finds_35 : decode cX5_finds 35 = .ok (.iinc 2 1, 3) := by decide +kernel
theorem dX5_finds_38 : decode cX5_finds 38 = .ok (.goto (-13), 3) := by decide +kernel
theorem dX5_finds_41 : decode cX5_finds 41 = .ok (.return_, 1) := by decide +kernel
theorem dX5_thingMany_0 : decode cX5_thingMany 0 = .ok (.aload_n 0, 1) := by decide +kernel
theorem dX5_thingMany_1 : decode cX5_thingMany 1 = .ok (.iconst 2, 1) := by decide +kernel
theorem dX5_thingMany_2 : decode cX5_thingMany 2 = .ok (.invokevirtual 113, 3) := by decide +kernel
theorem dX5_thingMany_5 : decode cX5_thingMany 5 = .ok (.iconst 0, 1) := by decide +kernel
theorem dX5_thingMany_6 : decode cX5_thingMany 6 = .ok (.istore_n 1, 1) := by decide +kernel
theorem dX5_thingMany_7 : decode cX5_thingMany 7 = .ok (.iconst 0, 1) := by decide +kernel
theorem dX5_thingMany_8 : decode cX5_thingMany 8 = .ok (.istore_n 2, 1) := by decide +kernel
theorem dX5_thingMany_9 : decode cX5_thingMany 9 = .ok (.iload_n 2, 1) := by decide +kernel
theorem dX5_thingMany_10 : decode cX5_thingMany 10 = .ok (.aload_n 0, 1) := by decide +kernel
theorem dX5_thingMany_11 : decode cX5_thingMany 11 = .ok (.getfield 56, 3) := by decide +kernel
theorem dX5_thingMany_14 : decode cX5_thingMany 14 = .ok (.if_icmp .ge 35, 3) := by decide +kernel
theorem dX5_thingMany_17 : decode cX5_thingMany 17 = .ok (.iload_n 1, 1) := by decide +kernel
theorem dX5_thingMany_18 : decode cX5_thingMany 18 = .ok (.aload_n 0, 1) := by decide +kernel
theorem dX5_thingMany_19 : decode cX5_thingMany 19 = .ok (.iload_n 2, 1) := by decide +kernel
theorem dX5_thingMany_20 : decode cX5_thingMany 20 = .ok (.invokevirtual 97, 3) := by decide +kernel
theorem dX5_thingMany_23 : decode cX5_thingMany 23 = .ok (.ifCond .eq 17, 3) := by decide +kernel
theorem dX5_thingMany_26 : decode cX5_thingMany 26 = .ok (.aload_n 0, 1) := by decide +kernel
theorem dX5_thingMany_27 : decode cX5_thingMany 27 = .ok (.getfield 41, 3) := by decide +kernel
theorem dX5_thingMany_30 : decode cX5_thingMany 30 = .ok (.iload_n 2, 1) := by decide +kernel
theorem dX5_thingMany_31 : decode cX5_thingMany 31 = .ok (.iaload, 1) := by decide +kernel
theorem dX5_thingMany_32 : decode cX5_thingMany 32 = .ok (.iload_n 2, 1) := by decide +kernel
theorem dX5_thingMany_33 : decode cX5_thingMany 33 = .ok (.if_icmp .ne 7, 3) := by decide +kernel
theorem dX5_thingMany_36 : decode cX5_thingMany 36 = .ok (.iconst 1, 1) := by decide +kernel
theorem dX5_thingMany_37 : decode cX5_thingMany 37 = .ok (.goto 4, 3) := by decide +kernel
theorem dX5_thingMany_40 : decode cX5_thingMany 40 = .ok (.iconst 0, 1) := by decide +kernel
theorem dX5_thingMany_41 : decode cX5_thingMany 41 = .ok (.iadd, 1) := by decide +kernel
theorem dX5_thingMany_42 : decode cX5_thingMany 42 = .ok (.istore_n 1, 1) := by decide +kernel
theorem dX5_thingMany_43 : decode cX5_thingMany 43 = .ok (.iinc 2 1, 3) := by decide +kernel
theorem dX5_thingMany_46 : decode cX5_thingMany 46 = .ok (.goto (-37), 3) := by decide +kernel
theorem dX5_thingMany_49 : decode cX5_thingMany 49 = .ok (.iload_n 1, 1) := by decide +kernel
theorem dX5_thingMany_50 : decode cX5_thingMany 50 = .ok (.ireturn, 1) := by decide +kernel
theorem dX5_thing_0 : decode cX5_thing 0 = .ok (.aload_n 0, 1) := by decide +kernel
theorem dX5_thing_1 : decode cX5_thing 1 = .ok (.iload_n 1, 1) := by decide +kernel
theorem dX5_thing_2 : decode cX5_thing 2 = .ok (.invokevirtual 76, 3) := by decide +kernel
theorem dX5_thing_5 : decode cX5_thing 5 = .ok (.ifCond .eq 5, 3) := by decide +kernel
theorem dX5_thing_8 : decode cX5_thing 8 = .ok (.iconst 0, 1) := by decide +kernel
theorem dX5_thing_9 : decode cX5_thing 9 = .ok (.ireturn, 1) := by decide +kernel
theorem dX5_thing_10 : decode cX5_thing 10 = .ok (.aload_n 0, 1) := by decide +kernel
theorem dX5_thing_11 : decode cX5_thing 11 = .ok (.iconst 2, 1) := by decide +kernel
theorem dX5_thing_12 : decode cX5_thing 12 = .ok (.invokevirtual 113, 3) := by decide +kernel
theorem dX5_thing_15 : decode cX5_thing 15 = .ok (.aload_n 0, 1) := by decide +kernel
theorem dX5_thing_16 : decode cX5_thing 16 = .ok (.getfield 41, 3) := by decide +kernel
theorem dX5_thing_19 : decode cX5_thing 19 = .ok (.iload_n 1, 1) := by decide +kernel
theorem dX5_thing_20 : decode cX5_thing 20 = .ok (.iaload, 1) := by decide +kernel
theorem dX5_thing_21 : decode cX5_thing 21 = .ok (.ireturn, 1) := by decide +kernel
theorem dX5_thingByRounds_0 : decode cX5_thingByRounds 0 = .ok (.aload_n 0, 1) := by decide +kernel
theorem dX5_thingByRounds_1 : decode cX5_thingByRounds 1 = .ok (.iload_n 1, 1) := by decide +kernel
theorem dX5_thingByRounds_2 : decode cX5_thingByRounds 2 = .ok (.invokevirtual 116, 3) := by decide +kernel
theorem dX5_thingByRounds_5 : decode cX5_thingByRounds 5 = .ok (.ireturn, 1) := by decide +kernel
theorem dX5_things_0 : decode cX5_things 0 = .ok (.aload_n 0, 1) := by decide +kernel
theorem dX5_things_1 : decode cX5_things 1 = .ok (.iconst 0, 1) := by decide +kernel
theorem dX5_things_2 : decode cX5_things 2 = .ok (.putfield 53, 3) := by decide +kernel
theorem dX5_things_5 : decode cX5_things 5 = .ok (.aload_n 0, 1) := by decide +kernel
theorem dX5_things_6 : decode cX5_things 6 = .ok (.invokevirtual 119, 3) := by decide +kernel
theorem dX5_things_9 : decode cX5_things 9 = .ok (.ireturn, 1) := by decide +kernel
theorem dX5_isOf_0 : decode cX5_isOf 0 = .ok (.aload_n 0, 1) := by decide +kernel
theorem dX5_isOf_1 : decode cX5_isOf 1 = .ok (.iload_n 1, 1) := by decide +kernel
theorem dX5_isOf_2 : decode cX5_isOf 2 = .ok (.invokevirtual 97, 3) := by decide +kernel
theorem dX5_isOf_5 : decode cX5_isOf 5 = .ok (.ifCond .eq 17, 3) := by decide +kernel
theorem dX5_isOf_8 : decode cX5_isOf 8 = .ok (.aload_n 0, 1) := by decide +kernel
theorem dX5_isOf_9 : decode cX5_isOf 9 = .ok (.getfield 41, 3) := by decide +kernel
theorem dX5_isOf_12 : decode cX5_isOf 12 = .ok (.iload_n 1, 1) := by decide +kernel
theorem dX5_isOf_13 : decode cX5_isOf 13 = .ok (.iaload, 1) := by decide +kernel
theorem dX5_isOf_14 : decode cX5_isOf 14 = .ok (.iload_n 2, 1) := by decide +kernel
theorem dX5_isOf_15 : decode cX5_isOf 15 = .ok (.if_icmp .ne 7, 3) := by decide +kernel
theorem dX5_isOf_18 : decode cX5_isOf 18 = .ok (.iconst 1, 1) := by decide +kernel
theorem dX5_isOf_19 : decode cX5_isOf 19 = .ok (.goto 4, 3) := by decide +kernel
theorem dX5_isOf_22 : decode cX5_isOf 22 = .ok (.iconst 0, 1) := by decide +kernel
theorem dX5_isOf_23 : decode cX5_isOf 23 = .ok (.ireturn, 1) := by decide +kernel
theorem dX5_size_0 : decode cX5_size 0 = .ok (.aload_n 0, 1) := by decide +kernel
theorem dX5_size_1 : decode cX5_size 1 = .ok (.iload_n 1, 1) := by decide +kernel
theorem dX5_size_2 : decode cX5_size 2 = .ok (.invokevirtual 76, 3) := by decide +kernel
theorem dX5_size_5 : decode cX5_size 5 = .ok (.ifCond .eq 5, 3) := by decide +kernel
theorem dX5_size_8 : decode cX5_size 8 = .ok (.iconst 0, 1) := by decide +kernel
theorem dX5_size_9 : decode cX5_size 9 = .ok (.ireturn, 1) := by decide +kernel
theorem dX5_size_10 : decode cX5_size 10 = .ok (.aload_n 0, 1) := by decide +kernel
theorem dX5_size_11 : decode cX5_size 11 = .ok (.iconst 2, 1) := by decide +kernel
theorem dX5_size_12 : decode cX5_size 12 = .ok (.invokevirtual 113, 3) := by decide +kernel
theorem dX5_size_15 : decode cX5_size 15 = .ok (.iconst 0, 1) := by decide +kernel
theorem dX5_size_16 : decode cX5_size 16 = .ok (.istore_n 2, 1) := by decide +kernel
theorem dX5_size_17 : decode cX5_size 17 = .ok (.iconst 0, 1) := by decide +kernel
theorem dX5_size_18 : decode cX5_size 18 = .ok (.istore_n 3, 1) := by decide +kernel
theorem dX5_size_19 : decode cX5_size 19 = .ok (.iload_n 3, 1) := by decide +kernel
theorem dX5_size_20 : decode cX5_size 20 = .ok (.aload_n 0, 1) := by decide +kernel
theorem dX5_size_21 : decode cX5_size 21 = .ok (.getfield 56, 3) := by decide +kernel
theorem dX5_size_24 : decode cX5_size 24 = .ok (.if_icmp .ge 31, 3) := by decide +kernel
theorem dX5_size_27 : decode cX5_size 27 = .ok (.iload_n 2, 1) := by decide +kernel
theorem dX5_size_28 : decode cX5_size 28 = .ok (.aload_n 0, 1) := by decide +kernel
theorem dX5_size_29 : decode cX5_size 29 = .ok (.iload_n 3, 1) := by decide +kernel
theorem dX5_size_30 : decode cX5_size 30 = .ok (.aload_n 0, 1) := by decide +kernel
theorem dX5_size_31 : decode cX5_size 31 = .ok (.getfield 41, 3) := by decide +kernel
theorem dX5_size_34 : decode cX5_size 34 = .ok (.iload_n 1, 1) := by decide +kernel
theorem dX5_size_35 : decode cX5_size 35 = .ok (.iaload, 1) := by decide +kernel
theorem dX5_size_36 : decode cX5_size 36 = .ok (.invokevirtual 122, 3) := by decide +kernel
theorem dX5_size_39 : decode cX5_size 39 = .ok (.ifCond .eq 7, 3) := by decide +kernel
theorem dX5_size_42 : decode cX5_size 42 = .ok (.iconst 1, 1) := by decide +kernel
theorem dX5_size_43 : decode cX5_size 43 = .ok (.goto 4, 3) := by decide +kernel
theorem dX5_size_46 : decode cX5_size 46 = .ok (.iconst 0, 1) := by decide +kernel
theorem dX5_size_47 : decode cX5_size 47 = .ok (.iadd, 1) := by decide +kernel
theorem dX5_size_48 : decode cX5_size 48 = .ok (.istore_n 2, 1) := by decide +kernel
theorem dX5_size_49 : decode cX5_size 49 = .ok (.iinc 3 1, 3) := by decide +kernel
theorem dX5_size_52 : decode cX5_size 52 = .ok (.goto (-33), 3) := by decide +kernel
theorem dX5_size_55 : decode cX5_size 55 = .ok (.iload_n 2, 1) := by decide +kernel
theorem dX5_size_56 : decode cX5_size 56 = .ok (.ireturn, 1) := by decide +kernel
theorem dX5_member_0 : decode cX5_member 0 = .ok (.aload_n 0, 1) := by decide +kernel
theorem dX5_member_1 : decode cX5_member 1 = .ok (.iload_n 1, 1) := by decide +kernel
theorem dX5_member_2 : decode cX5_member 2 = .ok (.invokevirtual 76, 3) := by decide +kernel
theorem dX5_member_5 : decode cX5_member 5 = .ok (.ifCond .eq 5, 3) := by decide +kernel
theorem dX5_member_8 : decode cX5_member 8 = .ok (.iconst 0, 1) := by decide +kernel
theorem dX5_member_9 : decode cX5_member 9 = .ok (.ireturn, 1) := by decide +kernel
theorem dX5_member_10 : decode cX5_member 10 = .ok (.aload_n 0, 1) := by decide +kernel
theorem dX5_member_11 : decode cX5_member 11 = .ok (.iconst 2, 1) := by decide +kernel
theorem dX5_member_12 : decode cX5_member 12 = .ok (.invokevirtual 113, 3) := by decide +kernel
theorem dX5_member_15 : decode cX5_member 15 = .ok (.iload_n 2, 1) := by decide +kernel
theorem dX5_member_16 : decode cX5_member 16 = .ok (.istore_n 3, 1) := by decide +kernel
theorem dX5_member_17 : decode cX5_member 17 = .ok (.iconst 0, 1) := by decide +kernel
theorem dX5_member_18 : decode cX5_member 18 = .ok (.istore 4, 2) := by decide +kernel
theorem dX5_member_20 : decode cX5_member 20 = .ok (.iload 4, 2) := by decide +kernel
theorem dX5_member_22 : decode cX5_member 22 = .ok (.aload_n 0, 1) := by decide +kernel
theorem dX5_member_23 : decode cX5_member 23 = .ok (.getfield 56, 3) := by decide +kernel
theorem dX5_member_26 : decode cX5_member 26 = .ok (.if_icmp .ge 38, 3) := by decide +kernel
theorem dX5_member_29 : decode cX5_member 29 = .ok (.iload_n 2, 1) := by decide +kernel
theorem dX5_member_30 : decode cX5_member 30 = .ok (.ifCond .lt 34, 3) := by decide +kernel
theorem dX5_member_33 : decode cX5_member 33 = .ok (.aload_n 0, 1) := by decide +kernel
theorem dX5_member_34 : decode cX5_member 34 = .ok (.iload 4, 2) := by decide +kernel
theorem dX5_member_36 : decode cX5_member 36 = .ok (.aload_n 0, 1) := by decide +kernel
theorem dX5_member_37 : decode cX5_member 37 = .ok (.getfield 41, 3) := by decide +kernel
theorem dX5_member_40 : decode cX5_member 40 = .ok (.iload_n 1, 1) := by decide +kernel
theorem dX5_member_41 : decode cX5_member 41 = .ok (.iaload, 1) := by decide +kernel
theorem dX5_member_42 : decode cX5_member 42 = .ok (.invokevirtual 122, 3) := by decide +kernel
theorem dX5_member_45 : decode cX5_member 45 = .ok (.ifCond .eq 13, 3) := by decide +kernel
theorem dX5_member_48 : decode cX5_member 48 = .ok (.iload_n 3, 1) := by decide +kernel
theorem dX5_member_49 : decode cX5_member 49 = .ok (.ifCond .ne 6, 3) := by decide +kernel
theorem dX5_member_52 : decode cX5_member 52 = .ok (.iload 4, 2) := by decide +kernel
theorem dX5_member_54 : decode cX5_member 54 = .ok (.ireturn, 1) := by decide +kernel
theorem dX5_member_55 : decode cX5_member 55 = .ok (.iinc 3 (-1), 3) := by decide +kernel
theorem dX5_member_58 : decode cX5_member 58 = .ok (.iinc 4 1, 3) := by decide +kernel
theorem dX5_member_61 : decode cX5_member 61 = .ok (.goto (-41), 3) := by decide +kernel
theorem dX5_member_64 : decode cX5_member 64 = .ok (.aload_n 0, 1) := by decide +kernel
theorem dX5_member_65 : decode cX5_member 65 = .ok (.iconst 2, 1) := by decide +kernel
theorem dX5_member_66 : decode cX5_member 66 = .ok (.invokevirtual 93, 3) := by decide +kernel
theorem dX5_member_69 : decode cX5_member 69 = .ok (.ireturn, 1) := by decide +kernel
theorem dX5_areTogether_0 : decode cX5_areTogether 0 = .ok (.aload_n 0, 1) := by decide +kernel
theorem dX5_areTogether_1 : decode cX5_areTogether 1 = .ok (.aload_n 0, 1) := by decide +kernel
theorem dX5_areTogether_2 : decode cX5_areTogether 2 = .ok (.iload_n 1, 1) := by decide +kernel
theorem dX5_areTogether_3 : decode cX5_areTogether 3 = .ok (.invokevirtual 63, 3) := by decide +kernel
theorem dX5_areTogether_6 : decode cX5_areTogether 6 = .ok (.ifCond .eq 15, 3) := by decide +kernel
theorem dX5_areTogether_9 : decode cX5_areTogether 9 = .ok (.aload_n 0, 1) := by decide +kernel
theorem dX5_areTogether_10 : decode cX5_areTogether 10 = .ok (.iload_n 2, 1) := by decide +kernel
theorem dX5_areTogether_11 : decode cX5_areTogether 11 = .ok (.invokevirtual 63, 3) := by decide +kernel
theorem dX5_areTogether_14 : decode cX5_areTogether 14 = .ok (.ifCond .eq 7, 3) := by decide +kernel
theorem dX5_areTogether_17 : decode cX5_areTogether 17 = .ok (.iconst 0, 1) := by decide +kernel
theorem dX5_areTogether_18 : decode cX5_areTogether 18 = .ok (.goto 4, 3) := by decide +kernel
theorem dX5_areTogether_21 : decode cX5_areTogether 21 = .ok (.iconst 1, 1) := by decide +kernel
theorem dX5_areTogether_22 : decode cX5_areTogether 22 = .ok (.putfield 53, 3) := by decide +kernel
theorem dX5_areTogether_25 : decode cX5_areTogether 25 = .ok (.aload_n 0, 1) := by decide +kernel
theorem dX5_areTogether_26 : decode cX5_areTogether 26 = .ok (.getfield 53, 3) := by decide +kernel
theorem dX5_areTogether_29 : decode cX5_areTogether 29 = .ok (.ifCond .le 5, 3) := by decide +kernel
theorem dX5_areTogether_32 : decode cX5_areTogether 32 = .ok (.iconst 0, 1) := by decide +kernel
theorem dX5_areTogether_33 : decode cX5_areTogether 33 = .ok (.ireturn, 1) := by decide +kernel
theorem dX5_areTogether_34 : decode cX5_areTogether 34 = .ok (.aload_n 0, 1) := by decide +kernel
theorem dX5_areTogether_35 : decode cX5_areTogether 35 = .ok (.iconst 2, 1) := by decide +kernel
theorem dX5_areTogether_36 : decode cX5_areTogether 36 = .ok (.invokevirtual 113, 3) := by decide +kernel
theorem dX5_areTogether_39 : decode cX5_areTogether 39 = .ok (.aload_n 0, 1) := by decide +kernel
theorem dX5_areTogether_40 : decode cX5_areTogether 40 = .ok (.getfield 41, 3) := by decide +kernel
theorem dX5_areTogether_43 : decode cX5_areTogether 43 = .ok (.iload_n 1, 1) := by decide +kernel
theorem dX5_areTogether_44 : decode cX5_areTogether 44 = .ok (.iaload, 1) := by decide +kernel
theorem dX5_areTogether_45 : decode cX5_areTogether 45 = .ok (.aload_n 0, 1) := by decide +kernel
theorem dX5_areTogether_46 : decode cX5_areTogether 46 = .ok (.getfield 41, 3) := by decide +kernel
theorem dX5_areTogether_49 : decode cX5_areTogether 49 = .ok (.iload_n 2, 1) := by decide +kernel
theorem dX5_areTogether_50 : decode cX5_areTogether 50 = .ok (.iaload, 1) := by decide +kernel
theorem dX5_areTogether_51 : decode cX5_areTogether 51 = .ok (.if_icmp .ne 7, 3) := by decide +kernel
theorem dX5_areTogether_54 : decode cX5_areTogether 54 = .ok (.iconst 1, 1) := by decide +kernel
theorem dX5_areTogether_55 : decode cX5_areTogether 55 = .ok (.goto 4, 3) := by decide +kernel
theorem dX5_areTogether_58 : decode cX5_areTogether 58 = .ok (.iconst 0, 1) := by decide +kernel
theorem dX5_areTogether_59 : decode cX5_areTogether 59 = .ok (.ireturn, 1) := by decide +kernel
theorem dX5_step_0 : decode cX5_step 0 = .ok (.aload_n 0, 1) := by decide +kernel
theorem dX5_step_1 : decode cX5_step 1 = .ok (.aload_n 0, 1) := by decide +kernel
theorem dX5_step_2 : decode cX5_step 2 = .ok (.iload_n 1, 1) := by decide +kernel
theorem dX5_step_3 : decode cX5_step 3 = .ok (.invokevirtual 63, 3) := by decide +kernel
theorem dX5_step_6 : decode cX5_step 6 = .ok (.ifCond .eq 11, 3) := by decide +kernel
theorem dX5_step_9 : decode cX5_step 9 = .ok (.aload_n 0, 1) := by decide +kernel
theorem dX5_step_10 : decode cX5_step 10 = .ok (.iload_n 2, 1) := by decide +kernel
theorem dX5_step_11 : decode cX5_step 11 = .ok (.invokevirtual 63, 3) := by decide +kernel
theorem dX5_step_14 : decode cX5_step 14 = .ok (.ifCond .ne 7, 3) := by decide +kernel
theorem dX5_step_17 : decode cX5_step 17 = .ok (.iconst 1, 1) := by decide +kernel
theorem dX5_step_18 : decode cX5_step 18 = .ok (.goto 13, 3) := by decide +kernel
theorem dX5_step_21 : decode cX5_step 21 = .ok (.iload_n 1, 1) := by decide +kernel
theorem dX5_step_22 : decode cX5_step 22 = .ok (.iload_n 2, 1) := by decide +kernel
theorem dX5_step_23 : decode cX5_step 23 = .ok (.if_icmp .ne 7, 3) := by decide +kernel
theorem dX5_step_26 : decode cX5_step 26 = .ok (.iconst 2, 1) := by decide +kernel
theorem dX5_step_27 : decode cX5_step 27 = .ok (.goto 4, 3) := by decide +kernel
theorem dX5_step_30 : decode cX5_step 30 = .ok (.iconst 0, 1) := by decide +kernel
theorem dX5_step_31 : decode cX5_step 31 = .ok (.putfield 53, 3) := by decide +kernel
theorem dX5_step_34 : decode cX5_step 34 = .ok (.aload_n 0, 1) := by decide +kernel
theorem dX5_step_35 : decode cX5_step 35 = .ok (.getfield 53, 3) := by decide +kernel
theorem dX5_step_38 : decode cX5_step 38 = .ok (.ifCond .le 5, 3) := by decide +kernel
theorem dX5_step_41 : decode cX5_step 41 = .ok (.iconst 0, 1) := by decide +kernel
theorem dX5_step_42 : decode cX5_step 42 = .ok (.ireturn, 1) := by decide +kernel
theorem dX5_step_43 : decode cX5_step 43 = .ok (.iconst 0, 1) := by decide +kernel
theorem dX5_step_44 : decode cX5_step 44 = .ok (.istore_n 3, 1) := by decide +kernel
theorem dX5_step_45 : decode cX5_step 45 = .ok (.iload_n 3, 1) := by decide +kernel
theorem dX5_step_46 : decode cX5_step 46 = .ok (.iconst 3, 1) := by decide +kernel
theorem dX5_step_47 : decode cX5_step 47 = .ok (.if_icmp .ge 31, 3) := by decide +kernel
theorem dX5_step_50 : decode cX5_step 50 = .ok (.aload_n 0, 1) := by decide +kernel
theorem dX5_step_51 : decode cX5_step 51 = .ok (.iload_n 3, 1) := by decide +kernel
theorem dX5_step_52 : decode cX5_step 52 = .ok (.invokevirtual 113, 3) := by decide +kernel
theorem dX5_step_55 : decode cX5_step 55 = .ok (.aload_n 0, 1) := by decide +kernel
theorem dX5_step_56 : decode cX5_step 56 = .ok (.getfield 41, 3) := by decide +kernel
theorem dX5_step_59 : decode cX5_step 59 = .ok (.iload_n 1, 1) := by decide +kernel
theorem dX5_step_60 : decode cX5_step 60 = .ok (.iaload, 1) := by decide +kernel
theorem dX5_step_61 : decode cX5_step 61 = .ok (.aload_n 0, 1) := by decide +kernel
theorem dX5_step_62 : decode cX5_step 62 = .ok (.getfield 41, 3) := by decide +kernel
theorem dX5_step_65 : decode cX5_step 65 = .ok (.iload_n 2, 1) := by decide +kernel
theorem dX5_step_66 : decode cX5_step 66 = .ok (.iaload, 1) := by decide +kernel
theorem dX5_step_67 : decode cX5_step 67 = .ok (.if_icmp .ne 5, 3) := by decide +kernel
theorem dX5_step_70 : decode cX5_step 70 = .ok (.iload_n 3, 1) := by decide +kernel
theorem dX5_step_71 : decode cX5_step 71 = .ok (.ireturn, 1) := by decide +kernel
theorem dX5_step_72 : decode cX5_step 72 = .ok (.iinc 3 1, 3) := by decide +kernel
theorem dX5_step_75 : decode cX5_step 75 = .ok (.goto (-30), 3) := by decide +kernel
theorem dX5_step_78 : decode cX5_step 78 = .ok (.aload_n 0, 1) := by decide +kernel
theorem dX5_step_79 : decode cX5_step 79 = .ok (.iconst 3, 1) := by decide +kernel
theorem dX5_step_80 : decode cX5_step 80 = .ok (.invokevirtual 93, 3) := by decide +kernel
theorem dX5_step_83 : decode cX5_step 83 = .ok (.ireturn, 1) := by decide +kernel
theorem dX5_isShared_0 : decode cX5_isShared 0 = .ok (.iconst (-1), 1) := by decide +kernel
theorem dX5_isShared_1 : decode cX5_isShared 1 = .ok (.istore_n 3, 1) := by decide +kernel
theorem dX5_isShared_2 : decode cX5_isShared 2 = .ok (.iconst 0, 1) := by decide +kernel
theorem dX5_isShared_3 : decode cX5_isShared 3 = .ok (.istore 4, 2) := by decide +kernel
theorem dX5_isShared_5 : decode cX5_isShared 5 = .ok (.iload 4, 2) := by decide +kernel
theorem dX5_isShared_7 : decode cX5_isShared 7 = .ok (.aload_n 0, 1) := by decide +kernel
theorem dX5_isShared_8 : decode cX5_isShared 8 = .ok (.getfield 56, 3) := by decide +kernel
theorem dX5_isShared_11 : decode cX5_isShared 11 = .ok (.if_icmp .ge 57, 3) := by decide +kernel
theorem dX5_isShared_14 : decode cX5_isShared 14 = .ok (.aload_n 0, 1) := by decide +kernel
theorem dX5_isShared_15 : decode cX5_isShared 15 = .ok (.iload 4, 2) := by decide +kernel
theorem dX5_isShared_17 : decode cX5_isShared 17 = .ok (.invokevirtual 97, 3) := by decide +kernel
theorem dX5_isShared_20 : decode cX5_isShared 20 = .ok (.ifCond .eq 42, 3) := by decide +kernel
theorem dX5_isShared_23 : decode cX5_isShared 23 = .ok (.aload_n 0, 1) := by decide +kernel
theorem dX5_isShared_24 : decode cX5_isShared 24 = .ok (.getfield 21, 3) := by decide +kernel
theorem dX5_isShared_27 : decode cX5_isShared 27 = .ok (.iload 4, 2) := by decide +kernel
theorem dX5_isShared_29 : decode cX5_isShared 29 = .ok (.aaload, 1) := by decide +kernel
theorem dX5_isShared_30 : decode cX5_isShared 30 = .ok (.iload_n 1, 1) := by decide +kernel
theorem dX5_isShared_31 : decode cX5_isShared 31 = .ok (.iaload, 1) := by decide +kernel
theorem dX5_isShared_32 : decode cX5_isShared 32 = .ok (.iload_n 2, 1) := by decide +kernel
theorem dX5_isShared_33 : decode cX5_isShared 33 = .ok (.if_icmp .ne 29, 3) := by decide +kernel
theorem dX5_isShared_36 : decode cX5_isShared 36 = .ok (.iload_n 3, 1) := by decide +kernel
theorem dX5_isShared_37 : decode cX5_isShared 37 = .ok (.iconst (-1), 1) := by decide +kernel
theorem dX5_isShared_38 : decode cX5_isShared 38 = .ok (.if_icmp .eq 16, 3) := by decide +kernel
theorem dX5_isShared_41 : decode cX5_isShared 41 = .ok (.aload_n 0, 1) := by decide +kernel
theorem dX5_isShared_42 : decode cX5_isShared 42 = .ok (.getfield 41, 3) := by decide +kernel
theorem dX5_isShared_45 : decode cX5_isShared 45 = .ok (.iload 4, 2) := by decide +kernel
theorem dX5_isShared_47 : decode cX5_isShared 47 = .ok (.iaload, 1) := by decide +kernel
theorem dX5_isShared_48 : decode cX5_isShared 48 = .ok (.iload_n 3, 1) := by decide +kernel
theorem dX5_isShared_49 : decode cX5_isShared 49 = .ok (.if_icmp .eq 5, 3) := by decide +kernel
theorem dX5_isShared_52 : decode cX5_isShared 52 = .ok (.iconst 1, 1) := by decide +kernel
theorem dX5_isShared_53 : decode cX5_isShared 53 = .ok (.ireturn, 1) := by decide +kernel
theorem dX5_isShared_54 : decode cX5_isShared 54 = .ok (.aload_n 0, 1) := by decide +kernel
theorem dX5_isShared_55 : decode cX5_isShared 55 = .ok (.getfield 41, 3) := by decide +kernel
theorem dX5_isShared_58 : decode cX5_isShared 58 = .ok (.iload 4, 2) := by decide +kernel
theorem dX5_isShared_60 : decode cX5_isShared 60 = .ok (.iaload, 1) := by decide +kernel
theorem dX5_isShared_61 : decode cX5_isShared 61 = .ok (.istore_n 3, 1) := by decide +kernel
theorem dX5_isShared_62 : decode cX5_isShared 62 = .ok (.iinc 4 1, 3) := by decide +kernel
theorem dX5_isShared_65 : decode cX5_isShared 65 = .ok (.goto (-60), 3) := by decide +kernel
theorem dX5_isShared_68 : decode cX5_isShared 68 = .ok (.iconst 0, 1) := by decide +kernel
theorem dX5_isShared_69 : decode cX5_isShared 69 = .ok (.ireturn, 1) := by decide +kernel
theorem dX5_shared_0 : decode cX5_shared 0 = .ok (.aload_n 0, 1) := by decide +kernel
theorem dX5_shared_1 : decode cX5_shared 1 = .ok (.iload_n 1, 1) := by decide +kernel
theorem dX5_shared_2 : decode cX5_shared 2 = .ok (.iconst 0, 1) := by decide +kernel
theorem dX5_shared_3 : decode cX5_shared 3 = .ok (.iconst 2, 1) := by decide +kernel
theorem dX5_shared_4 : decode cX5_shared 4 = .ok (.invokestatic 59, 3) := by decide +kernel
theorem dX5_shared_7 : decode cX5_shared 7 = .ok (.ifCond .eq 7, 3) := by decide +kernel
theorem dX5_shared_10 : decode cX5_shared 10 = .ok (.iconst 0, 1) := by decide +kernel
theorem dX5_shared_11 : decode cX5_shared 11 = .ok (.goto 4, 3) := by decide +kernel
theorem dX5_shared_14 : decode cX5_shared 14 = .ok (.iconst 1, 1) := by decide +kernel
theorem dX5_shared_15 : decode cX5_shared 15 = .ok (.putfield 53, 3) := by decide +kernel
theorem dX5_shared_18 : decode cX5_shared 18 = .ok (.aload_n 0, 1) := by decide +kernel
theorem dX5_shared_19 : decode cX5_shared 19 = .ok (.getfield 53, 3) := by decide +kernel
theorem dX5_shared_22 : decode cX5_shared 22 = .ok (.ifCond .le 5, 3) := by decide +kernel
theorem dX5_shared_25 : decode cX5_shared 25 = .ok (.iconst 0, 1) := by decide +kernel
theorem dX5_shared_26 : decode cX5_shared 26 = .ok (.ireturn, 1) := by decide +kernel
theorem dX5_shared_27 : decode cX5_shared 27 = .ok (.aload_n 0, 1) := by decide +kernel
theorem dX5_shared_28 : decode cX5_shared 28 = .ok (.iconst 2, 1) := by decide +kernel
theorem dX5_shared_29 : decode cX5_shared 29 = .ok (.invokevirtual 113, 3) := by decide +kernel
theorem dX5_shared_32 : decode cX5_shared 32 = .ok (.iconst 0, 1) := by decide +kernel
theorem dX5_shared_33 : decode cX5_shared 33 = .ok (.istore_n 2, 1) := by decide +kernel
theorem dX5_shared_34 : decode cX5_shared 34 = .ok (.iconst 0, 1) := by decide +kernel
theorem dX5_shared_35 : decode cX5_shared 35 = .ok (.istore_n 3, 1) := by decide +kernel
theorem dX5_shared_36 : decode cX5_shared 36 = .ok (.iload_n 3, 1) := by decide +kernel
theorem dX5_shared_37 : decode cX5_shared 37 = .ok (.bipush 99, 2) := by decide +kernel
theorem dX5_shared_39 : decode cX5_shared 39 = .ok (.if_icmp .gt 26, 3) := by decide +kernel
theorem dX5_shared_42 : decode cX5_shared 42 = .ok (.iload_n 2, 1) := by decide +kernel
theorem dX5_shared_43 : decode cX5_shared 43 = .ok (.aload_n 0, 1) := by decide +kernel
theorem dX5_shared_44 : decode cX5_shared 44 = .ok (.iload_n 1, 1) := by decide +kernel
theorem dX5_shared_45 : decode cX5_shared 45 = .ok (.iload_n 3, 1) := by decide +kernel
theorem dX5_shared_46 : decode cX5_shared 46 = .ok (.invokevirtual 125, 3) := by decide +kernel
theorem dX5_shared_49 : decode cX5_shared 49 = .ok (.ifCond .eq 7, 3) := by decide +kernel
theorem dX5_shared_52 : decode cX5_shared 52 = .ok (.iconst 1, 1) := by decide +kernel
theorem dX5_shared_53 : decode cX5_shared 53 = .ok (.goto 4, 3) := by decide +kernel
theorem dX5_shared_56 : decode cX5_shared 56 = .ok (.iconst 0, 1) := by decide +kernel
theorem dX5_shared_57 : decode cX5_shared 57 = .ok (.iadd, 1) := by decide +kernel
theorem dX5_shared_58 : decode cX5_shared 58 = .ok (.istore_n 2, 1) := by decide +kernel
theorem dX5_shared_59 : decode cX5_shared 59 = .ok (.iinc 3 1, 3) := by decide +kernel
theorem dX5_shared_62 : decode cX5_shared 62 = .ok (.goto (-26), 3) := by decide +kernel
theorem dX5_shared_65 : decode cX5_shared 65 = .ok (.iload_n 2, 1) := by decide +kernel
theorem dX5_shared_66 : decode cX5_shared 66 = .ok (.ireturn, 1) := by decide +kernel
theorem dX5_thingsWithout_0 : decode cX5_thingsWithout 0 = .ok (.aload_n 0, 1) := by decide +kernel
theorem dX5_thingsWithout_1 : decode cX5_thingsWithout 1 = .ok (.iload_n 1, 1) := by decide +kernel
theorem dX5_thingsWithout_2 : decode cX5_thingsWithout 2 = .ok (.invokevirtual 76, 3) := by decide +kernel
theorem dX5_thingsWithout_5 : decode cX5_thingsWithout 5 = .ok (.ifCond .eq 5, 3) := by decide +kernel
theorem dX5_thingsWithout_8 : decode cX5_thingsWithout 8 = .ok (.iconst 0, 1) := by decide +kernel
theorem dX5_thingsWithout_9 : decode cX5_thingsWithout 9 = .ok (.ireturn, 1) := by decide +kernel
theorem dX5_thingsWithout_10 : decode cX5_thingsWithout 10 = .ok (.aload_n 0, 1) := by decide +kernel
theorem dX5_thingsWithout_11 : decode cX5_thingsWithout 11 = .ok (.iload_n 1, 1) := by decide +kernel
theorem dX5_thingsWithout_12 : decode cX5_thingsWithout 12 = .ok (.putfield 47, 3) := by decide +kernel
theorem dX5_thingsWithout_15 : decode cX5_thingsWithout 15 = .ok (.aload_n 0, 1) := by decide +kernel
theorem dX5_thingsWithout_16 : decode cX5_thingsWithout 16 = .ok (.invokevirtual 119, 3) := by decide +kernel
theorem dX5_thingsWithout_19 : decode cX5_thingsWithout 19 = .ok (.istore_n 2, 1) := by decide +kernel
theorem dX5_thingsWithout_20 : decode cX5_thingsWithout 20 = .ok (.aload_n 0, 1) := by decide +kernel
theorem dX5_thingsWithout_21 : decode cX5_thingsWithout 21 = .ok (.iconst (-1), 1) := by decide +kernel
theorem dX5_thingsWithout_22 : decode cX5_thingsWithout 22 = .ok (.putfield 47, 3) := by decide +kernel
theorem dX5_thingsWithout_25 : decode cX5_thingsWithout 25 = .ok (.iload_n 2, 1) := by decide +kernel
theorem dX5_thingsWithout_26 : decode cX5_thingsWithout 26 = .ok (.ireturn, 1) := by decide +kernel
theorem dX5_thingsIf_0 : decode cX5_thingsIf 0 = .ok (.aload_n 0, 1) := by decide +kernel
theorem dX5_thingsIf_1 : decode cX5_thingsIf 1 = .ok (.iload_n 1, 1) := by decide +kernel
theorem dX5_thingsIf_2 : decode cX5_thingsIf 2 = .ok (.iload_n 2, 1) := by decide +kernel
theorem dX5_thingsIf_3 : decode cX5_thingsIf 3 = .ok (.iload_n 3, 1) := by decide +kernel
theorem dX5_thingsIf_4 : decode cX5_thingsIf 4 = .ok (.invokevirtual 128, 3) := by decide +kernel
theorem dX5_thingsIf_7 : decode cX5_thingsIf 7 = .ok (.istore 4, 2) := by decide +kernel
theorem dX5_thingsIf_9 : decode cX5_thingsIf 9 = .ok (.aload_n 0, 1) := by decide +kernel
theorem dX5_thingsIf_10 : decode cX5_thingsIf 10 = .ok (.getfield 53, 3) := by decide +kernel
theorem dX5_thingsIf_13 : decode cX5_thingsIf 13 = .ok (.ifCond .le 5, 3) := by decide +kernel
theorem dX5_thingsIf_16 : decode cX5_thingsIf 16 = .ok (.iconst 0, 1) := by decide +kernel
theorem dX5_thingsIf_17 : decode cX5_thingsIf 17 = .ok (.ireturn, 1) := by decide +kernel
theorem dX5_thingsIf_18 : decode cX5_thingsIf 18 = .ok (.aload_n 0, 1) := by decide +kernel
theorem dX5_thingsIf_19 : decode cX5_thingsIf 19 = .ok (.invokevirtual 119, 3) := by decide +kernel
theorem dX5_thingsIf_22 : decode cX5_thingsIf 22 = .ok (.istore 5, 2) := by decide +kernel
theorem dX5_thingsIf_24 : decode cX5_thingsIf 24 = .ok (.aload_n 0, 1) := by decide +kernel
theorem dX5_thingsIf_25 : decode cX5_thingsIf 25 = .ok (.getfield 21, 3) := by decide +kernel
theorem dX5_thingsIf_28 : decode cX5_thingsIf 28 = .ok (.iload_n 1, 1) := by decide +kernel
theorem dX5_thingsIf_29 : decode cX5_thingsIf 29 = .ok (.aaload, 1) := by decide +kernel
theorem dX5_thingsIf_30 : decode cX5_thingsIf 30 = .ok (.iload_n 2, 1) := by decide +kernel
theorem dX5_thingsIf_31 : decode cX5_thingsIf 31 = .ok (.iload 4, 2) := by decide +kernel
theorem dX5_thingsIf_33 : decode cX5_thingsIf 33 = .ok (.iastore, 1) := by decide +kernel
theorem dX5_thingsIf_34 : decode cX5_thingsIf 34 = .ok (.iload 5, 2) := by decide +kernel
theorem dX5_thingsIf_36 : decode cX5_thingsIf 36 = .ok (.ireturn, 1) := by decide +kernel
theorem dX5_thingsIfAllowed_0 : decode cX5_thingsIfAllowed 0 = .ok (.aload_n 0, 1) := by decide +kernel
theorem dX5_thingsIfAllowed_1 : decode cX5_thingsIfAllowed 1 = .ok (.iload_n 1, 1) := by decide +kernel
theorem dX5_thingsIfAllowed_2 : decode cX5_thingsIfAllowed 2 = .ok (.invokevirtual 63, 3) := by decide +kernel
theorem dX5_thingsIfAllowed_5 : decode cX5_thingsIfAllowed 5 = .ok (.ifCond .eq 11, 3) := by decide +kernel
theorem dX5_thingsIfAllowed_8 : decode cX5_thingsIfAllowed 8 = .ok (.aload_n 0, 1) := by decide +kernel
theorem dX5_thingsIfAllowed_9 : decode cX5_thingsIfAllowed 9 = .ok (.iload_n 2, 1) := by decide +kernel
theorem dX5_thingsIfAllowed_10 : decode cX5_thingsIfAllowed 10 = .ok (.invokevirtual 63, 3) := by decide +kernel
theorem dX5_thingsIfAllowed_13 : decode cX5_thingsIfAllowed 13 = .ok (.ifCond .ne 9, 3) := by decide +kernel
theorem dX5_thingsIfAllowed_16 : decode cX5_thingsIfAllowed 16 = .ok (.aload_n 0, 1) := by decide +kernel
theorem dX5_thingsIfAllowed_17 : decode cX5_thingsIfAllowed 17 = .ok (.iconst 1, 1) := by decide +kernel
theorem dX5_thingsIfAllowed_18 : decode cX5_thingsIfAllowed 18 = .ok (.invokevirtual 93, 3) := by decide +kernel
theorem dX5_thingsIfAllowed_21 : decode cX5_thingsIfAllowed 21 = .ok (.ireturn, 1) := by decide +kernel
theorem dX5_thingsIfAllowed_22 : decode cX5_thingsIfAllowed 22 = .ok (.aload_n 0, 1) := by decide +kernel
theorem dX5_thingsIfAllowed_23 : decode cX5_thingsIfAllowed 23 = .ok (.iload_n 1, 1) := by decide +kernel
theorem dX5_thingsIfAllowed_24 : decode cX5_thingsIfAllowed 24 = .ok (.iload_n 2, 1) := by decide +kernel
theorem dX5_thingsIfAllowed_25 : decode cX5_thingsIfAllowed 25 = .ok (.invokevirtual 86, 3) := by decide +kernel
theorem dX5_thingsIfAllowed_28 : decode cX5_thingsIfAllowed 28 = .ok (.istore_n 3, 1) := by decide +kernel
theorem dX5_thingsIfAllowed_29 : decode cX5_thingsIfAllowed 29 = .ok (.iload_n 3, 1) := by decide +kernel
theorem dX5_thingsIfAllowed_30 : decode cX5_thingsIfAllowed 30 = .ok (.iconst (-1), 1) := by decide +kernel
theorem dX5_thingsIfAllowed_31 : decode cX5_thingsIfAllowed 31 = .ok (.if_icmp .ne 9, 3) := by decide +kernel
theorem dX5_thingsIfAllowed_34 : decode cX5_thingsIfAllowed 34 = .ok (.aload_n 0, 1) := by decide +kernel
theorem dX5_thingsIfAllowed_35 : decode cX5_thingsIfAllowed 35 = .ok (.iconst 2, 1) := by decide +kernel
theorem dX5_thingsIfAllowed_36 : decode cX5_thingsIfAllowed 36 = .ok (.invokevirtual 93, 3) := by decide +kernel
theorem dX5_thingsIfAllowed_39 : decode cX5_thingsIfAllowed 39 = .ok (.ireturn, 1) := by decide +kernel
theorem dX5_thingsIfAllowed_40 : decode cX5_thingsIfAllowed 40 = .ok (.aload_n 0, 1) := by decide +kernel
theorem dX5_thingsIfAllowed_41 : decode cX5_thingsIfAllowed 41 = .ok (.iconst 0, 1) := by decide +kernel
theorem dX5_thingsIfAllowed_42 : decode cX5_thingsIfAllowed 42 = .ok (.putfield 53, 3) := by decide +kernel
theorem dX5_thingsIfAllowed_45 : decode cX5_thingsIfAllowed 45 = .ok (.aload_n 0, 1) := by decide +kernel
theorem dX5_thingsIfAllowed_46 : decode cX5_thingsIfAllowed 46 = .ok (.iload_n 3, 1) := by decide +kernel
theorem dX5_thingsIfAllowed_47 : decode cX5_thingsIfAllowed 47 = .ok (.putfield 50, 3) := by decide +kernel
theorem dX5_thingsIfAllowed_50 : decode cX5_thingsIfAllowed 50 = .ok (.aload_n 0, 1) := by decide +kernel
theorem dX5_thingsIfAllowed_51 : decode cX5_thingsIfAllowed 51 = .ok (.invokevirtual 119, 3) := by decide +kernel
theorem dX5_thingsIfAllowed_54 : decode cX5_thingsIfAllowed 54 = .ok (.istore 4, 2) := by decide +kernel
theorem dX5_thingsIfAllowed_56 : decode cX5_thingsIfAllowed 56 = .ok (.aload_n 0, 1) := by decide +kernel
theorem dX5_thingsIfAllowed_57 : decode cX5_thingsIfAllowed 57 = .ok (.iconst (-1), 1) := by decide +kernel
theorem dX5_thingsIfAllowed_58 : decode cX5_thingsIfAllowed 58 = .ok (.putfield 50, 3) := by decide +kernel
theorem dX5_thingsIfAllowed_61 : decode cX5_thingsIfAllowed 61 = .ok (.iload 4, 2) := by decide +kernel
theorem dX5_thingsIfAllowed_63 : decode cX5_thingsIfAllowed 63 = .ok (.ireturn, 1) := by decide +kernel
theorem dX5_weightOf_0 : decode cX5_weightOf 0 = .ok (.aload_n 0, 1) := by decide +kernel
theorem dX5_weightOf_1 : decode cX5_weightOf 1 = .ok (.getfield 9, 3) := by decide +kernel
theorem dX5_weightOf_4 : decode cX5_weightOf 4 = .ok (.aload_n 0, 1) := by decide +kernel
theorem dX5_weightOf_5 : decode cX5_weightOf 5 = .ok (.getfield 13, 3) := by decide +kernel
theorem dX5_weightOf_8 : decode cX5_weightOf 8 = .ok (.iload_n 1, 1) := by decide +kernel
theorem dX5_weightOf_9 : decode cX5_weightOf 9 = .ok (.iaload, 1) := by decide +kernel
theorem dX5_weightOf_10 : decode cX5_weightOf 10 = .ok (.iaload, 1) := by decide +kernel
theorem dX5_weightOf_11 : decode cX5_weightOf 11 = .ok (.aload_n 0, 1) := by decide +kernel
theorem dX5_weightOf_12 : decode cX5_weightOf 12 = .ok (.getfield 73, 3) := by decide +kernel
theorem dX5_weightOf_15 : decode cX5_weightOf 15 = .ok (.aload_n 0, 1) := by decide +kernel
theorem dX5_weightOf_16 : decode cX5_weightOf 16 = .ok (.getfield 16, 3) := by decide +kernel
theorem dX5_weightOf_19 : decode cX5_weightOf 19 = .ok (.iload_n 1, 1) := by decide +kernel
theorem dX5_weightOf_20 : decode cX5_weightOf 20 = .ok (.iaload, 1) := by decide +kernel
theorem dX5_weightOf_21 : decode cX5_weightOf 21 = .ok (.isub, 1) := by decide +kernel
theorem dX5_weightOf_22 : decode cX5_weightOf 22 = .ok (.bipush 10, 2) := by decide +kernel
theorem dX5_weightOf_24 : decode cX5_weightOf 24 = .ok (.idiv, 1) := by decide +kernel
theorem dX5_weightOf_25 : decode cX5_weightOf 25 = .ok (.isub, 1) := by decide +kernel
theorem dX5_weightOf_26 : decode cX5_weightOf 26 = .ok (.ireturn, 1) := by decide +kernel
theorem dX5_weight_0 : decode cX5_weight 0 = .ok (.aload_n 0, 1) := by decide +kernel
theorem dX5_weight_1 : decode cX5_weight 1 = .ok (.iload_n 1, 1) := by decide +kernel
theorem dX5_weight_2 : decode cX5_weight 2 = .ok (.invokevirtual 76, 3) := by decide +kernel
theorem dX5_weight_5 : decode cX5_weight 5 = .ok (.ifCond .eq 7, 3) := by decide +kernel
theorem dX5_weight_8 : decode cX5_weight 8 = .ok (.iconst 0, 1) := by decide +kernel
theorem dX5_weight_9 : decode cX5_weight 9 = .ok (.goto 8, 3) := by decide +kernel
theorem dX5_weight_12 : decode cX5_weight 12 = .ok (.aload_n 0, 1) := by decide +kernel
theorem dX5_weight_13 : decode cX5_weight 13 = .ok (.iload_n 1, 1) := by decide +kernel
theorem dX5_weight_14 : decode cX5_weight 14 = .ok (.invokevirtual 132, 3) := by decide +kernel
theorem dX5_weight_17 : decode cX5_weight 17 = .ok (.ireturn, 1) := by decide +kernel
theorem dX5_isAhead_0 : decode cX5_isAhead 0 = .ok (.aload_n 0, 1) := by decide +kernel
theorem dX5_isAhead_1 : decode cX5_isAhead 1 = .ok (.iload_n 1, 1) := by decide +kernel
theorem dX5_isAhead_2 : decode cX5_isAhead 2 = .ok (.invokevirtual 132, 3) := by decide +kernel
theorem dX5_isAhead_5 : decode cX5_isAhead 5 = .ok (.aload_n 0, 1) := by decide +kernel
theorem dX5_isAhead_6 : decode cX5_isAhead 6 = .ok (.iload_n 2, 1) := by decide +kernel
theorem dX5_isAhead_7 : decode cX5_isAhead 7 = .ok (.invokevirtual 132, 3) := by decide +kernel
theorem dX5_isAhead_10 : decode cX5_isAhead 10 = .ok (.if_icmp .eq 22, 3) := by decide +kernel
theorem dX5_isAhead_13 : decode cX5_isAhead 13 = .ok (.aload_n 0, 1) := by decide +kernel
theorem dX5_isAhead_14 : decode cX5_isAhead 14 = .ok (.iload_n 1, 1) := by decide +kernel
theorem dX5_isAhead_15 : decode cX5_isAhead 15 = .ok (.invokevirtual 132, 3) := by decide +kernel
theorem dX5_isAhead_18 : decode cX5_isAhead 18 = .ok (.aload_n 0, 1) := by decide +kernel
theorem dX5_isAhead_19 : decode cX5_isAhead 19 = .ok (.iload_n 2, 1) := by decide +kernel
theorem dX5_isAhead_20 : decode cX5_isAhead 20 = .ok (.invokevirtual 132, 3) := by decide +kernel
theorem dX5_isAhead_23 : decode cX5_isAhead 23 = .ok (.if_icmp .le 7, 3) := by decide +kernel
theorem dX5_isAhead_26 : decode cX5_isAhead 26 = .ok (.iconst 1, 1) := by decide +kernel
theorem dX5_isAhead_27 : decode cX5_isAhead 27 = .ok (.goto 4, 3) := by decide +kernel
theorem dX5_isAhead_30 : decode cX5_isAhead 30 = .ok (.iconst 0, 1) := by decide +kernel
theorem dX5_isAhead_31 : decode cX5_isAhead 31 = .ok (.ireturn, 1) := by decide +kernel
theorem dX5_isAhead_32 : decode cX5_isAhead 32 = .ok (.aload_n 0, 1) := by decide +kernel
theorem dX5_isAhead_33 : decode cX5_isAhead 33 = .ok (.getfield 16, 3) := by decide +kernel
theorem dX5_isAhead_36 : decode cX5_isAhead 36 = .ok (.iload_n 1, 1) := by decide +kernel
theorem dX5_isAhead_37 : decode cX5_isAhead 37 = .ok (.iaload, 1) := by decide +kernel
theorem dX5_isAhead_38 : decode cX5_isAhead 38 = .ok (.aload_n 0, 1) := by decide +kernel
theorem dX5_isAhead_39 : decode cX5_isAhead 39 = .ok (.getfield 16, 3) := by decide +kernel
theorem dX5_isAhead_42 : decode cX5_isAhead 42 = .ok (.iload_n 2, 1) := by decide +kernel
theorem dX5_isAhead_43 : decode cX5_isAhead 43 = .ok (.iaload, 1) := by decide +kernel
theorem dX5_isAhead_44 : decode cX5_isAhead 44 = .ok (.if_icmp .eq 26, 3) := by decide +kernel
theorem dX5_isAhead_47 : decode cX5_isAhead 47 = .ok (.aload_n 0, 1) := by decide +kernel
theorem dX5_isAhead_48 : decode cX5_isAhead 48 = .ok (.getfield 16, 3) := by decide +kernel
theorem dX5_isAhead_51 : decode cX5_isAhead 51 = .ok (.iload_n 1, 1) := by decide +kernel
theorem dX5_isAhead_52 : decode cX5_isAhead 52 = .ok (.iaload, 1) := by decide +kernel
theorem dX5_isAhead_53 : decode cX5_isAhead 53 = .ok (.aload_n 0, 1) := by decide +kernel
theorem dX5_isAhead_54 : decode cX5_isAhead 54 = .ok (.getfield 16, 3) := by decide +kernel
theorem dX5_isAhead_57 : decode cX5_isAhead 57 = .ok (.iload_n 2, 1) := by decide +kernel
theorem dX5_isAhead_58 : decode cX5_isAhead 58 = .ok (.iaload, 1) := by decide +kernel
theorem dX5_isAhead_59 : decode cX5_isAhead 59 = .ok (.if_icmp .le 7, 3) := by decide +kernel
theorem dX5_isAhead_62 : decode cX5_isAhead 62 = .ok (.iconst 1, 1) := by decide +kernel
theorem dX5_isAhead_63 : decode cX5_isAhead 63 = .ok (.goto 17, 3) := by decide +kernel
theorem dX5_isAhead_66 : decode cX5_isAhead 66 = .ok (.iconst 0, 1) := by decide +kernel
theorem dX5_isAhead_67 : decode cX5_isAhead 67 = .ok (.goto 13, 3) := by decide +kernel
theorem dX5_isAhead_70 : decode cX5_isAhead 70 = .ok (.iload_n 1, 1) := by decide +kernel
theorem dX5_isAhead_71 : decode cX5_isAhead 71 = .ok (.iload_n 2, 1) := by decide +kernel
theorem dX5_isAhead_72 : decode cX5_isAhead 72 = .ok (.if_icmp .le 7, 3) := by decide +kernel
theorem dX5_isAhead_75 : decode cX5_isAhead 75 = .ok (.iconst 1, 1) := by decide +kernel
theorem dX5_isAhead_76 : decode cX5_isAhead 76 = .ok (.goto 4, 3) := by decide +kernel
theorem dX5_isAhead_79 : decode cX5_isAhead 79 = .ok (.iconst 0, 1) := by decide +kernel
theorem dX5_isAhead_80 : decode cX5_isAhead 80 = .ok (.ireturn, 1) := by decide +kernel
theorem dX5_teller_0 : decode cX5_teller 0 = .ok (.aload_n 0, 1) := by decide +kernel
theorem dX5_teller_1 : decode cX5_teller 1 = .ok (.aload_n 0, 1) := by decide +kernel
theorem dX5_teller_2 : decode cX5_teller 2 = .ok (.iload_n 1, 1) := by decide +kernel
theorem dX5_teller_3 : decode cX5_teller 3 = .ok (.invokevirtual 63, 3) := by decide +kernel
theorem dX5_teller_6 : decode cX5_teller 6 = .ok (.ifCond .eq 16, 3) := by decide +kernel
theorem dX5_teller_9 : decode cX5_teller 9 = .ok (.iload_n 2, 1) := by decide +kernel
theorem dX5_teller_10 : decode cX5_teller 10 = .ok (.iconst 0, 1) := by decide +kernel
theorem dX5_teller_11 : decode cX5_teller 11 = .ok (.iconst 2, 1) := by decide +kernel
theorem dX5_teller_12 : decode cX5_teller 12 = .ok (.invokestatic 59, 3) := by decide +kernel
theorem dX5_teller_15 : decode cX5_teller 15 = .ok (.ifCond .eq 7, 3) := by decide +kernel
theorem dX5_teller_18 : decode cX5_teller 18 = .ok (.iconst 0, 1) := by decide +kernel
theorem dX5_teller_19 : decode cX5_teller 19 = .ok (.goto 4, 3) := by decide +kernel
theorem dX5_teller_22 : decode cX5_teller 22 = .ok (.iconst 1, 1) := by decide +kernel
theorem dX5_teller_23 : decode cX5_teller 23 = .ok (.putfield 53, 3) := by decide +kernel
theorem dX5_teller_26 : decode cX5_teller 26 = .ok (.aload_n 0, 1) := by decide +kernel
theorem dX5_teller_27 : decode cX5_teller 27 = .ok (.getfield 53, 3) := by decide +kernel
theorem dX5_teller_30 : decode cX5_teller 30 = .ok (.ifCond .le 5, 3) := by decide +kernel
theorem dX5_teller_33 : decode cX5_teller 33 = .ok (.iconst (-1), 1) := by decide +kernel
theorem dX5_teller_34 : decode cX5_teller 34 = .ok (.ireturn, 1) := by decide +kernel
theorem dX5_teller_35 : decode cX5_teller 35 = .ok (.aload_n 0, 1) := by decide +kernel
theorem dX5_teller_36 : decode cX5_teller 36 = .ok (.iconst 2, 1) := by decide +kernel
theorem dX5_teller_37 : decode cX5_teller 37 = .ok (.invokevirtual 113, 3) := by decide +kernel
theorem dX5_teller_40 : decode cX5_teller 40 = .ok (.iconst (-1), 1) := by decide +kernel
theorem dX5_teller_41 : decode cX5_teller 41 = .ok (.istore_n 3, 1) := by decide +kernel
theorem dX5_teller_42 : decode cX5_teller 42 = .ok (.iconst 0, 1) := by decide +kernel
theorem dX5_teller_43 : decode cX5_teller 43 = .ok (.istore 4, 2) := by decide +kernel
theorem dX5_teller_45 : decode cX5_teller 45 = .ok (.iload 4, 2) := by decide +kernel
theorem dX5_teller_47 : decode cX5_teller 47 = .ok (.aload_n 0, 1) := by decide +kernel
theorem dX5_teller_48 : decode cX5_teller 48 = .ok (.getfield 56, 3) := by decide +kernel
theorem dX5_teller_51 : decode cX5_teller 51 = .ok (.if_icmp .ge 55, 3) := by decide +kernel
theorem dX5_teller_54 : decode cX5_teller 54 = .ok (.aload_n 0, 1) := by decide +kernel
theorem dX5_teller_55 : decode cX5_teller 55 = .ok (.iload 4, 2) := by decide +kernel
theorem dX5_teller_57 : decode cX5_teller 57 = .ok (.aload_n 0, 1) := by decide +kernel
theorem dX5_teller_58 : decode cX5_teller 58 = .ok (.getfield 41, 3) := by decide +kernel
theorem dX5_teller_61 : decode cX5_teller 61 = .ok (.iload_n 1, 1) := by decide +kernel
theorem dX5_teller_62 : decode cX5_teller 62 = .ok (.iaload, 1) := by decide +kernel
theorem dX5_teller_63 : decode cX5_teller 63 = .ok (.invokevirtual 122, 3) := by decide +kernel
theorem dX5_teller_66 : decode cX5_teller 66 = .ok (.ifCond .eq 34, 3) := by decide +kernel
theorem dX5_teller_69 : decode cX5_teller 69 = .ok (.aload_n 0, 1) := by decide +kernel
theorem dX5_teller_70 : decode cX5_teller 70 = .ok (.getfield 24, 3) := by decide +kernel
theorem dX5_teller_73 : decode cX5_teller 73 = .ok (.iload 4, 2) := by decide +kernel
theorem dX5_teller_75 : decode cX5_teller 75 = .ok (.aaload, 1) := by decide +kernel
theorem dX5_teller_76 : decode cX5_teller 76 = .ok (.iload_n 2, 1) := by decide +kernel
theorem dX5_teller_77 : decode cX5_teller 77 = .ok (.iaload, 1) := by decide +kernel
theorem dX5_teller_78 : decode cX5_teller 78 = .ok (.iconst (-1), 1) := by decide +kernel
theorem dX5_teller_79 : decode cX5_teller 79 = .ok (.if_icmp .eq 21, 3) := by decide +kernel
theorem dX5_teller_82 : decode cX5_teller 82 = .ok (.iload_n 3, 1) := by decide +kernel
theorem dX5_teller_83 : decode cX5_teller 83 = .ok (.iconst (-1), 1) := by decide +kernel
theorem dX5_teller_84 : decode cX5_teller 84 = .ok (.if_icmp .eq 13, 3) := by decide +kernel
theorem dX5_teller_87 : decode cX5_teller 87 = .ok (.aload_n 0, 1) := by decide +kernel
theorem dX5_teller_88 : decode cX5_teller 88 = .ok (.iload 4, 2) := by decide +kernel
theorem dX5_teller_90 : decode cX5_teller 90 = .ok (.iload_n 3, 1) := by decide +kernel
theorem dX5_teller_91 : decode cX5_teller 91 = .ok (.invokevirtual 135, 3) := by decide +kernel
theorem dX5_teller_94 : decode cX5_teller 94 = .ok (.ifCond .eq 6, 3) := by decide +kernel
theorem dX5_teller_97 : decode cX5_teller 97 = .ok (.iload 4, 2) := by decide +kernel
theorem dX5_teller_99 : decode cX5_teller 99 = .ok (.istore_n 3, 1) := by decide +kernel
theorem dX5_teller_100 : decode cX5_teller 100 = .ok (.iinc 4 1, 3) := by decide +kernel
theorem dX5_teller_103 : decode cX5_teller 103 = .ok (.goto (-58), 3) := by decide +kernel
theorem dX5_teller_106 : decode cX5_teller 106 = .ok (.aload_n 0, 1) := by decide +kernel
theorem dX5_teller_107 : decode cX5_teller 107 = .ok (.iload_n 3, 1) := by decide +kernel
theorem dX5_teller_108 : decode cX5_teller 108 = .ok (.iconst (-1), 1) := by decide +kernel
theorem dX5_teller_109 : decode cX5_teller 109 = .ok (.if_icmp .ne 7, 3) := by decide +kernel
theorem dX5_teller_112 : decode cX5_teller 112 = .ok (.iconst 2, 1) := by decide +kernel
theorem dX5_teller_113 : decode cX5_teller 113 = .ok (.goto 4, 3) := by decide +kernel
theorem dX5_teller_116 : decode cX5_teller 116 = .ok (.iconst 0, 1) := by decide +kernel
theorem dX5_teller_117 : decode cX5_teller 117 = .ok (.putfield 53, 3) := by decide +kernel
theorem dX5_teller_120 : decode cX5_teller 120 = .ok (.iload_n 3, 1) := by decide +kernel
theorem dX5_teller_121 : decode cX5_teller 121 = .ok (.ireturn, 1) := by decide +kernel
theorem dX5_fact_0 : decode cX5_fact 0 = .ok (.aload_n 0, 1) := by decide +kernel
theorem dX5_fact_1 : decode cX5_fact 1 = .ok (.iload_n 1, 1) := by decide +kernel
theorem dX5_fact_2 : decode cX5_fact 2 = .ok (.iload_n 2, 1) := by decide +kernel
theorem dX5_fact_3 : decode cX5_fact 3 = .ok (.invokevirtual 138, 3) := by decide +kernel
theorem dX5_fact_6 : decode cX5_fact 6 = .ok (.istore_n 3, 1) := by decide +kernel
theorem dX5_fact_7 : decode cX5_fact 7 = .ok (.iload_n 3, 1) := by decide +kernel
theorem dX5_fact_8 : decode cX5_fact 8 = .ok (.iconst (-1), 1) := by decide +kernel
theorem dX5_fact_9 : decode cX5_fact 9 = .ok (.if_icmp .ne 7, 3) := by decide +kernel
theorem dX5_fact_12 : decode cX5_fact 12 = .ok (.iconst 0, 1) := by decide +kernel
theorem dX5_fact_13 : decode cX5_fact 13 = .ok (.goto 11, 3) := by decide +kernel
theorem dX5_fact_16 : decode cX5_fact 16 = .ok (.aload_n 0, 1) := by decide +kernel
theorem dX5_fact_17 : decode cX5_fact 17 = .ok (.getfield 24, 3) := by decide +kernel
theorem dX5_fact_20 : decode cX5_fact 20 = .ok (.iload_n 3, 1) := by decide +kernel
theorem dX5_fact_21 : decode cX5_fact 21 = .ok (.aaload, 1) := by decide +kernel
theorem dX5_fact_22 : decode cX5_fact 22 = .ok (.iload_n 2, 1) := by decide +kernel
theorem dX5_fact_23 : decode cX5_fact 23 = .ok (.iaload, 1) := by decide +kernel
theorem dX5_fact_24 : decode cX5_fact 24 = .ok (.ireturn, 1) := by decide +kernel
theorem dX5_factByPairs_0 : decode cX5_factByPairs 0 = .ok (.aload_n 0, 1) := by decide +kernel
theorem dX5_factByPairs_1 : decode cX5_factByPairs 1 = .ok (.iload_n 1, 1) := by decide +kernel
theorem dX5_factByPairs_2 : decode cX5_factByPairs 2 = .ok (.iload_n 2, 1) := by decide +kernel
theorem dX5_factByPairs_3 : decode cX5_factByPairs 3 = .ok (.invokevirtual 141, 3) := by decide +kernel
theorem dX5_factByPairs_6 : decode cX5_factByPairs 6 = .ok (.ireturn, 1) := by decide +kernel
theorem dX5_factFrom_0 : decode cX5_factFrom 0 = .ok (.aload_n 0, 1) := by decide +kernel
theorem dX5_factFrom_1 : decode cX5_factFrom 1 = .ok (.iload_n 1, 1) := by decide +kernel
theorem dX5_factFrom_2 : decode cX5_factFrom 2 = .ok (.iload_n 2, 1) := by decide +kernel
theorem dX5_factFrom_3 : decode cX5_factFrom 3 = .ok (.invokevirtual 138, 3) := by decide +kernel
theorem dX5_factFrom_6 : decode cX5_factFrom 6 = .ok (.istore_n 3, 1) := by decide +kernel
theorem dX5_factFrom_7 : decode cX5_factFrom 7 = .ok (.iload_n 3, 1) := by decide +kernel
theorem dX5_factFrom_8 : decode cX5_factFrom 8 = .ok (.iconst (-1), 1) := by decide +kernel
theorem dX5_factFrom_9 : decode cX5_factFrom 9 = .ok (.if_icmp .ne 7, 3) := by decide +kernel
theorem dX5_factFrom_12 : decode cX5_factFrom 12 = .ok (.iconst 0, 1) := by decide +kernel
theorem dX5_factFrom_13 : decode cX5_factFrom 13 = .ok (.goto 4, 3) := by decide +kernel
theorem dX5_factFrom_16 : decode cX5_factFrom 16 = .ok (.iload_n 3, 1) := by decide +kernel
theorem dX5_factFrom_17 : decode cX5_factFrom 17 = .ok (.ireturn, 1) := by decide +kernel
theorem dX5_agreement_0 : decode cX5_agreement 0 = .ok (.aload_n 0, 1) := by decide +kernel
theorem dX5_agreement_1 : decode cX5_agreement 1 = .ok (.iload_n 1, 1) := by decide +kernel
theorem dX5_agreement_2 : decode cX5_agreement 2 = .ok (.iload_n 2, 1) := by decide +kernel
theorem dX5_agreement_3 : decode cX5_agreement 3 = .ok (.invokevirtual 138, 3) := by decide +kernel
theorem dX5_agreement_6 : decode cX5_agreement 6 = .ok (.istore_n 3, 1) := by decide +kernel
theorem dX5_agreement_7 : decode cX5_agreement 7 = .ok (.iconst 0, 1) := by decide +kernel
theorem dX5_agreement_8 : decode cX5_agreement 8 = .ok (.istore 4, 2) := by decide +kernel
theorem dX5_agreement_10 : decode cX5_agreement 10 = .ok (.iconst 0, 1) := by decide +kernel
theorem dX5_agreement_11 : decode cX5_agreement 11 = .ok (.istore 5, 2) := by decide +kernel
theorem dX5_agreement_13 : decode cX5_agreement 13 = .ok (.iconst 0, 1) := by decide +kernel
theorem dX5_agreement_14 : decode cX5_agreement 14 = .ok (.istore 6, 2) := by decide +kernel
theorem dX5_agreement_16 : decode cX5_agreement 16 = .ok (.iload 6, 2) := by decide +kernel
theorem dX5_agreement_18 : decode cX5_agreement 18 = .ok (.aload_n 0, 1) := by decide +kernel
theorem dX5_agreement_19 : decode cX5_agreement 19 = .ok (.getfield 56, 3) := by decide +kernel
theorem dX5_agreement_22 : decode cX5_agreement 22 = .ok (.if_icmp .ge 99, 3) := by decide +kernel
theorem dX5_agreement_25 : decode cX5_agreement 25 = .ok (.iload_n 3, 1) := by decide +kernel
theorem dX5_agreement_26 : decode cX5_agreement 26 = .ok (.iconst (-1), 1) := by decide +kernel
theorem dX5_agreement_27 : decode cX5_agreement 27 = .ok (.if_icmp .eq 94, 3) := by decide +kernel
theorem dX5_agreement_30 : decode cX5_agreement 30 = .ok (.aload_n 0, 1) := by decide +kernel
theorem dX5_agreement_31 : decode cX5_agreement 31 = .ok (.iload 6, 2) := by decide +kernel
theorem dX5_agreement_33 : decode cX5_agreement 33 = .ok (.aload_n 0, 1) := by decide +kernel
theorem dX5_agreement_34 : decode cX5_agreement 34 = .ok (.getfield 41, 3) := by decide +kernel
theorem dX5_agreement_37 : decode cX5_agreement 37 = .ok (.iload_n 1, 1) := by decide +kernel
theorem dX5_agreement_38 : decode cX5_agreement 38 = .ok (.iaload, 1) := by decide +kernel
theorem dX5_agreement_39 : decode cX5_agreement 39 = .ok (.invokevirtual 122, 3) := by decide +kernel
theorem dX5_agreement_42 : decode cX5_agreement 42 = .ok (.ifCond .eq 20, 3) := by decide +kernel
theorem dX5_agreement_45 : decode cX5_agreement 45 = .ok (.aload_n 0, 1) := by decide +kernel
theorem dX5_agreement_46 : decode cX5_agreement 46 = .ok (.getfield 24, 3) := by decide +kernel
theorem dX5_agreement_49 : decode cX5_agreement 49 = .ok (.iload 6, 2) := by decide +kernel
theorem dX5_agreement_51 : decode cX5_agreement 51 = .ok (.aaload, 1) := by decide +kernel
theorem dX5_agreement_52 : decode cX5_agreement 52 = .ok (.iload_n 2, 1) := by decide +kernel
theorem dX5_agreement_53 : decode cX5_agreement 53 = .ok (.iaload, 1) := by decide +kernel
theorem dX5_agreement_54 : decode cX5_agreement 54 = .ok (.iconst (-1), 1) := by decide +kernel
theorem dX5_agreement_55 : decode cX5_agreement 55 = .ok (.if_icmp .eq 7, 3) := by decide +kernel
theorem dX5_agreement_58 : decode cX5_agreement 58 = .ok (.iconst 1, 1) := by decide +kernel
theorem dX5_agreement_59 : decode cX5_agreement 59 = .ok (.goto 4, 3) := by decide +kernel
theorem dX5_agreement_62 : decode cX5_agreement 62 = .ok (.iconst 0, 1) := by decide +kernel
theorem dX5_agreement_63 : decode cX5_agreement 63 = .ok (.istore 7, 2) := by decide +kernel
theorem dX5_agreement_65 : decode cX5_agreement 65 = .ok (.iload 4, 2) := by decide +kernel
theorem dX5_agreement_67 : decode cX5_agreement 67 = .ok (.iload 7, 2) := by decide +kernel
theorem dX5_agreement_69 : decode cX5_agreement 69 = .ok (.ifCond .eq 7, 3) := by decide +kernel
theorem dX5_agreement_72 : decode cX5_agreement 72 = .ok (.iconst 1, 1) := by decide +kernel
theorem dX5_agreement_73 : decode cX5_agreement 73 = .ok (.goto 4, 3) := by decide +kernel
theorem dX5_agreement_76 : decode cX5_agreement 76 = .ok (.iconst 0, 1) := by decide +kernel
theorem dX5_agreement_77 : decode cX5_agreement 77 = .ok (.iadd, 1) := by decide +kernel
theorem dX5_agreement_78 : decode cX5_agreement 78 = .ok (.istore 4, 2) := by decide +kernel
theorem dX5_agreement_80 : decode cX5_agreement 80 = .ok (.iload 5, 2) := by decide +kernel
theorem dX5_agreement_82 : decode cX5_agreement 82 = .ok (.iload 7, 2) := by decide +kernel
theorem dX5_agreement_84 : decode cX5_agreement 84 = .ok (.ifCond .eq 27, 3) := by decide +kernel
theorem dX5_agreement_87 : decode cX5_agreement 87 = .ok (.aload_n 0, 1) := by decide +kernel
theorem dX5_agreement_88 : decode cX5_agreement 88 = .ok (.getfield 24, 3) := by decide +kernel
theorem dX5_agreement_91 : decode cX5_agreement 91 = .ok (.iload 6, 2) := by decide +kernel
theorem dX5_agreement_93 : decode cX5_agreement 93 = .ok (.aaload, 1) := by decide +kernel
theorem dX5_agreement_94 : decode cX5_agreement 94 = .ok (.iload_n 2, 1) := by decide +kernel
theorem dX5_agreement_95 : decode cX5_agreement 95 = .ok (.iaload, 1) := by decide +kernel
theorem dX5_agreement_96 : decode cX5_agreement 96 = .ok (.aload_n 0, 1) := by decide +kernel
theorem dX5_agreement_97 : decode cX5_agreement 97 = .ok (.getfield 24, 3) := by decide +kernel
theorem dX5_agreement_100 : decode cX5_agreement 100 = .ok (.iload_n 3, 1) := by decide +kernel
theorem dX5_agreement_101 : decode cX5_agreement 101 = .ok (.aaload, 1) := by decide +kernel
theorem dX5_agreement_102 : decode cX5_agreement 102 = .ok (.iload_n 2, 1) := by decide +kernel
theorem dX5_agreement_103 : decode cX5_agreement 103 = .ok (.iaload, 1) := by decide +kernel
theorem dX5_agreement_104 : decode cX5_agreement 104 = .ok (.if_icmp .ne 7, 3) := by decide +kernel
theorem dX5_agreement_107 : decode cX5_agreement 107 = .ok (.iconst 1, 1) := by decide +kernel
theorem dX5_agreement_108 : decode cX5_agreement 108 = .ok (.goto 4, 3) := by decide +kernel
theorem dX5_agreement_111 : decode cX5_agreement 111 = .ok (.iconst 0, 1) := by decide +kernel
theorem dX5_agreement_112 : decode cX5_agreement 112 = .ok (.iadd, 1) := by decide +kernel
theorem dX5_agreement_113 : decode cX5_agreement 113 = .ok (.istore 5, 2) := by decide +kernel
theorem dX5_agreement_115 : decode cX5_agreement 115 = .ok (.iinc 6 1, 3) := by decide +kernel
theorem dX5_agreement_118 : decode cX5_agreement 118 = .ok (.goto (-102), 3) := by decide +kernel
theorem dX5_agreement_121 : decode cX5_agreement 121 = .ok (.iload_n 3, 1) := by decide +kernel
theorem dX5_agreement_122 : decode cX5_agreement 122 = .ok (.iconst (-1), 1) := by decide +kernel
theorem dX5_agreement_123 : decode cX5_agreement 123 = .ok (.if_icmp .ne 7, 3) := by decide +kernel
theorem dX5_agreement_126 : decode cX5_agreement 126 = .ok (.fconst 0, 1) := by decide +kernel
theorem dX5_agreement_127 : decode cX5_agreement 127 = .ok (.goto 10, 3) := by decide +kernel
theorem dX5_agreement_130 : decode cX5_agreement 130 = .ok (.iload 5, 2) := by decide +kernel
theorem dX5_agreement_132 : decode cX5_agreement 132 = .ok (.i2f, 1) := by decide +kernel
theorem dX5_agreement_133 : decode cX5_agreement 133 = .ok (.iload 4, 2) := by decide +kernel
theorem dX5_agreement_135 : decode cX5_agreement 135 = .ok (.i2f, 1) := by decide +kernel
theorem dX5_agreement_136 : decode cX5_agreement 136 = .ok (.fdiv, 1) := by decide +kernel
theorem dX5_agreement_137 : decode cX5_agreement 137 = .ok (.freturn, 1) := by decide +kernel
theorem dX5_setLimit_0 : decode cX5_setLimit 0 = .ok (.aload_n 0, 1) := by decide +kernel
theorem dX5_setLimit_1 : decode cX5_setLimit 1 = .ok (.iload_n 1, 1) := by decide +kernel
theorem dX5_setLimit_2 : decode cX5_setLimit 2 = .ok (.iconst 1, 1) := by decide +kernel
theorem dX5_setLimit_3 : decode cX5_setLimit 3 = .ok (.bipush 99, 2) := by decide +kernel
theorem dX5_setLimit_5 : decode cX5_setLimit 5 = .ok (.invokestatic 59, 3) := by decide +kernel
theorem dX5_setLimit_8 : decode cX5_setLimit 8 = .ok (.ifCond .eq 7, 3) := by decide +kernel
theorem dX5_setLimit_11 : decode cX5_setLimit 11 = .ok (.iconst 0, 1) := by decide +kernel
theorem dX5_setLimit_12 : decode cX5_setLimit 12 = .ok (.goto 4, 3) := by decide +kernel
theorem dX5_setLimit_15 : decode cX5_setLimit 15 = .ok (.iconst 1, 1) := by decide +kernel
theorem dX5_setLimit_16 : decode cX5_setLimit 16 = .ok (.putfield 53, 3) := by decide +kernel
theorem dX5_setLimit_19 : decode cX5_setLimit 19 = .ok (.aload_n 0, 1) := by decide +kernel
theorem dX5_setLimit_20 : decode cX5_setLimit 20 = .ok (.getfield 53, 3) := by decide +kernel
theorem dX5_setLimit_23 : decode cX5_setLimit 23 = .ok (.ifCond .le 5, 3) := by decide +kernel
theorem dX5_setLimit_26 : decode cX5_setLimit 26 = .ok (.iconst 0, 1) := by decide +kernel
theorem dX5_setLimit_27 : decode cX5_setLimit 27 = .ok (.ireturn, 1) := by decide +kernel
theorem dX5_setLimit_28 : decode cX5_setLimit 28 = .ok (.aload_n 0, 1) := by decide +kernel
theorem dX5_setLimit_29 : decode cX5_setLimit 29 = .ok (.getfield 37, 3) := by decide +kernel
theorem dX5_setLimit_32 : decode cX5_setLimit 32 = .ok (.istore_n 2, 1) := by decide +kernel
theorem dX5_setLimit_33 : decode cX5_setLimit 33 = .ok (.aload_n 0, 1) := by decide +kernel
theorem dX5_setLimit_34 : decode cX5_setLimit 34 = .ok (.iload_n 1, 1) := by decide +kernel
theorem dX5_setLimit_35 : decode cX5_setLimit 35 = .ok (.putfield 37, 3) := by decide +kernel
theorem dX5_setLimit_38 : decode cX5_setLimit 38 = .ok (.iload_n 2, 1) := by decide +kernel
theorem dX5_setLimit_39 : decode cX5_setLimit 39 = .ok (.ireturn, 1) := by decide +kernel
theorem dX5_lastOf_0 : decode cX5_lastOf 0 = .ok (.iconst (-1), 1) := by decide +kernel
theorem dX5_lastOf_1 : decode cX5_lastOf 1 = .ok (.istore_n 2, 1) := by decide +kernel
theorem dX5_lastOf_2 : decode cX5_lastOf 2 = .ok (.iconst 0, 1) := by decide +kernel
theorem dX5_lastOf_3 : decode cX5_lastOf 3 = .ok (.istore_n 3, 1) := by decide +kernel
theorem dX5_lastOf_4 : decode cX5_lastOf 4 = .ok (.iload_n 3, 1) := by decide +kernel
theorem dX5_lastOf_5 : decode cX5_lastOf 5 = .ok (.aload_n 0, 1) := by decide +kernel
theorem dX5_lastOf_6 : decode cX5_lastOf 6 = .ok (.getfield 56, 3) := by decide +kernel
theorem dX5_lastOf_9 : decode cX5_lastOf 9 = .ok (.if_icmp .ge 33, 3) := by decide +kernel
theorem dX5_lastOf_12 : decode cX5_lastOf 12 = .ok (.aload_n 0, 1) := by decide +kernel
theorem dX5_lastOf_13 : decode cX5_lastOf 13 = .ok (.iload_n 3, 1) := by decide +kernel
theorem dX5_lastOf_14 : decode cX5_lastOf 14 = .ok (.iload_n 1, 1) := by decide +kernel
theorem dX5_lastOf_15 : decode cX5_lastOf 15 = .ok (.invokevirtual 122, 3) := by decide +kernel
theorem dX5_lastOf_18 : decode cX5_lastOf 18 = .ok (.ifCond .eq 16, 3) := by decide +kernel
theorem dX5_lastOf_21 : decode cX5_lastOf 21 = .ok (.iload_n 2, 1) := by decide +kernel
theorem dX5_lastOf_22 : decode cX5_lastOf 22 = .ok (.aload_n 0, 1) := by decide +kernel
theorem dX5_lastOf_23 : decode cX5_lastOf 23 = .ok (.getfield 16, 3) := by decide +kernel
theorem dX5_lastOf_26 : decode cX5_lastOf 26 = .ok (.iload_n 3, 1) := by decide +kernel
theorem dX5_lastOf_27 : decode cX5_lastOf 27 = .ok (.iaload, 1) := by decide +kernel
theorem dX5_lastOf_28 : decode cX5_lastOf 28 = .ok (.invokestatic 144, 3) := by decide +kernel
theorem dX5_lastOf_31 : decode cX5_lastOf 31 = .ok (.goto 4, 3) := by decide +kernel
theorem dX5_lastOf_34 : decode cX5_lastOf 34 = .ok (.iload_n 2, 1) := by decide +kernel
theorem dX5_lastOf_35 : decode cX5_lastOf 35 = .ok (.istore_n 2, 1) := by decide +kernel
theorem dX5_lastOf_36 : decode cX5_lastOf 36 = .ok (.iinc 3 1, 3) := by decide +kernel
theorem dX5_lastOf_39 : decode cX5_lastOf 39 = .ok (.goto (-35), 3) := by decide +kernel
theorem dX5_lastOf_42 : decode cX5_lastOf 42 = .ok (.iload_n 2, 1) := by decide +kernel
theorem dX5_lastOf_43 : decode cX5_lastOf 43 = .ok (.ireturn, 1) := by decide +kernel
theorem dX5_isGhost_0 : decode cX5_isGhost 0 = .ok (.aload_n 0, 1) := by decide +kernel
theorem dX5_isGhost_1 : decode cX5_isGhost 1 = .ok (.iload_n 1, 1) := by decide +kernel
theorem dX5_isGhost_2 : decode cX5_isGhost 2 = .ok (.invokevirtual 76, 3) := by decide +kernel
theorem dX5_isGhost_5 : decode cX5_isGhost 5 = .ok (.ifCond .eq 5, 3) := by decide +kernel
theorem dX5_isGhost_8 : decode cX5_isGhost 8 = .ok (.iconst 0, 1) := by decide +kernel
theorem dX5_isGhost_9 : decode cX5_isGhost 9 = .ok (.ireturn, 1) := by decide +kernel
theorem dX5_isGhost_10 : decode cX5_isGhost 10 = .ok (.aload_n 0, 1) := by decide +kernel
theorem dX5_isGhost_11 : decode cX5_isGhost 11 = .ok (.iconst 2, 1) := by decide +kernel
theorem dX5_isGhost_12 : decode cX5_isGhost 12 = .ok (.invokevirtual 113, 3) := by decide +kernel
theorem dX5_isGhost_15 : decode cX5_isGhost 15 = .ok (.aload_n 0, 1) := by decide +kernel
theorem dX5_isGhost_16 : decode cX5_isGhost 16 = .ok (.getfield 73, 3) := by decide +kernel
theorem dX5_isGhost_19 : decode cX5_isGhost 19 = .ok (.aload_n 0, 1) := by decide +kernel
theorem dX5_isGhost_20 : decode cX5_isGhost 20 = .ok (.aload_n 0, 1) := by decide +kernel
theorem dX5_isGhost_21 : decode cX5_isGhost 21 = .ok (.getfield 41, 3) := by decide +kernel
theorem dX5_isGhost_24 : decode cX5_isGhost 24 = .ok (.iload_n 1, 1) := by decide +kernel
theorem dX5_isGhost_25 : decode cX5_isGhost 25 = .ok (.iaload, 1) := by decide +kernel
theorem dX5_isGhost_26 : decode cX5_isGhost 26 = .ok (.invokevirtual 149, 3) := by decide +kernel
theorem dX5_isGhost_29 : decode cX5_isGhost 29 = .ok (.isub, 1) := by decide +kernel
theorem dX5_isGhost_30 : decode cX5_isGhost 30 = .ok (.aload_n 0, 1) := by decide +kernel
theorem dX5_isGhost_31 : decode cX5_isGhost 31 = .ok (.getfield 37, 3) := by decide +kernel
theorem dX5_isGhost_34 : decode cX5_isGhost 34 = .ok (.if_icmp .le 7, 3) := by decide +kernel
theorem dX5_isGhost_37 : decode cX5_isGhost 37 = .ok (.iconst 1, 1) := by decide +kernel
theorem dX5_isGhost_38 : decode cX5_isGhost 38 = .ok (.goto 4, 3) := by decide +kernel
theorem dX5_isGhost_41 : decode cX5_isGhost 41 = .ok (.iconst 0, 1) := by decide +kernel
theorem dX5_isGhost_42 : decode cX5_isGhost 42 = .ok (.ireturn, 1) := by decide +kernel
theorem dX5_ghosts_0 : decode cX5_ghosts 0 = .ok (.aload_n 0, 1) := by decide +kernel
theorem dX5_ghosts_1 : decode cX5_ghosts 1 = .ok (.iconst 0, 1) := by decide +kernel
theorem dX5_ghosts_2 : decode cX5_ghosts 2 = .ok (.putfield 53, 3) := by decide +kernel
theorem dX5_ghosts_5 : decode cX5_ghosts 5 = .ok (.aload_n 0, 1) := by decide +kernel
theorem dX5_ghosts_6 : decode cX5_ghosts 6 = .ok (.iconst 2, 1) := by decide +kernel
theorem dX5_ghosts_7 : decode cX5_ghosts 7 = .ok (.invokevirtual 113, 3) := by decide +kernel
theorem dX5_ghosts_10 : decode cX5_ghosts 10 = .ok (.iconst 0, 1) := by decide +kernel
theorem dX5_ghosts_11 : decode cX5_ghosts 11 = .ok (.istore_n 1, 1) := by decide +kernel
theorem dX5_ghosts_12 : decode cX5_ghosts 12 = .ok (.iconst 0, 1) := by decide +kernel
theorem dX5_ghosts_13 : decode cX5_ghosts 13 = .ok (.istore_n 2, 1) := by decide +kernel
theorem dX5_ghosts_14 : decode cX5_ghosts 14 = .ok (.iload_n 2, 1) := by decide +kernel
theorem dX5_ghosts_15 : decode cX5_ghosts 15 = .ok (.aload_n 0, 1) := by decide +kernel
theorem dX5_ghosts_16 : decode cX5_ghosts 16 = .ok (.getfield 56, 3) := by decide +kernel
theorem dX5_ghosts_19 : decode cX5_ghosts 19 = .ok (.if_icmp .ge 43, 3) := by decide +kernel
theorem dX5_ghosts_22 : decode cX5_ghosts 22 = .ok (.iload_n 1, 1) := by decide +kernel
theorem dX5_ghosts_23 : decode cX5_ghosts 23 = .ok (.aload_n 0, 1) := by decide +kernel
theorem dX5_ghosts_24 : decode cX5_ghosts 24 = .ok (.iload_n 2, 1) := by decide +kernel
theorem dX5_ghosts_25 : decode cX5_ghosts 25 = .ok (.iload_n 2, 1) := by decide +kernel
theorem dX5_ghosts_26 : decode cX5_ghosts 26 = .ok (.invokevirtual 122, 3) := by decide +kernel
theorem dX5_ghosts_29 : decode cX5_ghosts 29 = .ok (.ifCond .eq 24, 3) := by decide +kernel
theorem dX5_ghosts_32 : decode cX5_ghosts 32 = .ok (.aload_n 0, 1) := by decide +kernel
theorem dX5_ghosts_33 : decode cX5_ghosts 33 = .ok (.getfield 73, 3) := by decide +kernel
theorem dX5_ghosts_36 : decode cX5_ghosts 36 = .ok (.aload_n 0, 1) := by decide +kernel
theorem dX5_ghosts_37 : decode cX5_ghosts 37 = .ok (.iload_n 2, 1) := by decide +kernel
theorem dX5_ghosts_38 : decode cX5_ghosts 38 = .ok (.invokevirtual 149, 3) := by decide +kernel
theorem dX5_ghosts_41 : decode cX5_ghosts 41 = .ok (.isub, 1) := by decide +kernel
theorem dX5_ghosts_42 : decode cX5_ghosts 42 = .ok (.aload_n 0, 1) := by decide +kernel
theorem dX5_ghosts_43 : decode cX5_ghosts 43 = .ok (.getfield 37, 3) := by decide +kernel
theorem dX5_ghosts_46 : decode cX5_ghosts 46 = .ok (.if_icmp .le 7, 3) := by decide +kernel
theorem dX5_ghosts_49 : decode cX5_ghosts 49 = .ok (.iconst 1, 1) := by decide +kernel
theorem dX5_ghosts_50 : decode cX5_ghosts 50 = .ok (.goto 4, 3) := by decide +kernel
theorem dX5_ghosts_53 : decode cX5_ghosts 53 = .ok (.iconst 0, 1) := by decide +kernel
theorem dX5_ghosts_54 : decode cX5_ghosts 54 = .ok (.iadd, 1) := by decide +kernel
theorem dX5_ghosts_55 : decode cX5_ghosts 55 = .ok (.istore_n 1, 1) := by decide +kernel
theorem dX5_ghosts_56 : decode cX5_ghosts 56 = .ok (.iinc 2 1, 3) := by decide +kernel
theorem dX5_ghosts_59 : decode cX5_ghosts 59 = .ok (.goto (-45), 3) := by decide +kernel
theorem dX5_ghosts_62 : decode cX5_ghosts 62 = .ok (.iload_n 1, 1) := by decide +kernel
theorem dX5_ghosts_63 : decode cX5_ghosts 63 = .ok (.ireturn, 1) := by decide +kernel
theorem dX5_nextGhost_0 : decode cX5_nextGhost 0 = .ok (.aload_n 0, 1) := by decide +kernel
theorem dX5_nextGhost_1 : decode cX5_nextGhost 1 = .ok (.iconst 0, 1) := by decide +kernel
theorem dX5_nextGhost_2 : decode cX5_nextGhost 2 = .ok (.putfield 53, 3) := by decide +kernel
theorem dX5_nextGhost_5 : decode cX5_nextGhost 5 = .ok (.aload_n 0, 1) := by decide +kernel
theorem dX5_nextGhost_6 : decode cX5_nextGhost 6 = .ok (.iconst 2, 1) := by decide +kernel
theorem dX5_nextGhost_7 : decode cX5_nextGhost 7 = .ok (.invokevirtual 113, 3) := by decide +kernel
theorem dX5_nextGhost_10 : decode cX5_nextGhost 10 = .ok (.iconst (-1), 1) := by decide +kernel
theorem dX5_nextGhost_11 : decode cX5_nextGhost 11 = .ok (.istore_n 1, 1) := by decide +kernel
theorem dX5_nextGhost_12 : decode cX5_nextGhost 12 = .ok (.iconst 0, 1) := by decide +kernel
theorem dX5_nextGhost_13 : decode cX5_nextGhost 13 = .ok (.istore_n 2, 1) := by decide +kernel
theorem dX5_nextGhost_14 : decode cX5_nextGhost 14 = .ok (.iload_n 2, 1) := by decide +kernel
theorem dX5_nextGhost_15 : decode cX5_nextGhost 15 = .ok (.aload_n 0, 1) := by decide +kernel
theorem dX5_nextGhost_16 : decode cX5_nextGhost 16 = .ok (.getfield 56, 3) := by decide +kernel
theorem dX5_nextGhost_19 : decode cX5_nextGhost 19 = .ok (.if_icmp .ge 67, 3) := by decide +kernel
theorem dX5_nextGhost_22 : decode cX5_nextGhost 22 = .ok (.aload_n 0, 1) := by decide +kernel
theorem dX5_nextGhost_23 : decode cX5_nextGhost 23 = .ok (.iload_n 2, 1) := by decide +kernel
theorem dX5_nextGhost_24 : decode cX5_nextGhost 24 = .ok (.iload_n 2, 1) := by decide +kernel
theorem dX5_nextGhost_25 : decode cX5_nextGhost 25 = .ok (.invokevirtual 122, 3) := by decide +kernel
theorem dX5_nextGhost_28 : decode cX5_nextGhost 28 = .ok (.ifCond .eq 18, 3) := by decide +kernel
theorem dX5_nextGhost_31 : decode cX5_nextGhost 31 = .ok (.aload_n 0, 1) := by decide +kernel
theorem dX5_nextGhost_32 : decode cX5_nextGhost 32 = .ok (.iload_n 2, 1) := by decide +kernel
theorem dX5_nextGhost_33 : decode cX5_nextGhost 33 = .ok (.invokevirtual 149, 3) := by decide +kernel
theorem dX5_nextGhost_36 : decode cX5_nextGhost 36 = .ok (.aload_n 0, 1) := by decide +kernel
theorem dX5_nextGhost_37 : decode cX5_nextGhost 37 = .ok (.getfield 37, 3) := by decide +kernel
theorem dX5_nextGhost_40 : decode cX5_nextGhost 40 = .ok (.iadd, 1) := by decide +kernel
theorem dX5_nextGhost_41 : decode cX5_nextGhost 41 = .ok (.iconst 1, 1) := by decide +kernel
theorem dX5_nextGhost_42 : decode cX5_nextGhost 42 = .ok (.iadd, 1) := by decide +kernel
theorem dX5_nextGhost_43 : decode cX5_nextGhost 43 = .ok (.goto 4, 3) := by decide +kernel
theorem dX5_nextGhost_46 : decode cX5_nextGhost 46 = .ok (.iconst 0, 1) := by decide +kernel
theorem dX5_nextGhost_47 : decode cX5_nextGhost 47 = .ok (.istore_n 3, 1) := by decide +kernel
theorem dX5_nextGhost_48 : decode cX5_nextGhost 48 = .ok (.iload_n 3, 1) := by decide +kernel
theorem dX5_nextGhost_49 : decode cX5_nextGhost 49 = .ok (.aload_n 0, 1) := by decide +kernel
theorem dX5_nextGhost_50 : decode cX5_nextGhost 50 = .ok (.getfield 73, 3) := by decide +kernel
theorem dX5_nextGhost_53 : decode cX5_nextGhost 53 = .ok (.iconst 1, 1) := by decide +kernel
theorem dX5_nextGhost_54 : decode cX5_nextGhost 54 = .ok (.iadd, 1) := by decide +kernel
theorem dX5_nextGhost_55 : decode cX5_nextGhost 55 = .ok (.sipush 999, 3) := by decide +kernel
theorem dX5_nextGhost_58 : decode cX5_nextGhost 58 = .ok (.invokestatic 59, 3) := by decide +kernel
theorem dX5_nextGhost_61 : decode cX5_nextGhost 61 = .ok (.ifCond .eq 17, 3) := by decide +kernel
theorem dX5_nextGhost_64 : decode cX5_nextGhost 64 = .ok (.iload_n 1, 1) := by decide +kernel
theorem dX5_nextGhost_65 : decode cX5_nextGhost 65 = .ok (.iconst (-1), 1) := by decide +kernel
theorem dX5_nextGhost_66 : decode cX5_nextGhost 66 = .ok (.if_icmp .eq 8, 3) := by decide +kernel
theorem dX5_nextGhost_69 : decode cX5_nextGhost 69 = .ok (.iload_n 3, 1) := by decide +kernel
theorem dX5_nextGhost_70 : decode cX5_nextGhost 70 = .ok (.iload_n 1, 1) := by decide +kernel
theorem dX5_nextGhost_71 : decode cX5_nextGhost 71 = .ok (.if_icmp .ge 7, 3) := by decide +kernel
theorem dX5_nextGhost_74 : decode cX5_nextGhost 74 = .ok (.iload_n 3, 1) := by decide +kernel
theorem dX5_nextGhost_75 : decode cX5_nextGhost 75 = .ok (.goto 4, 3) := by decide +kernel
theorem dX5_nextGhost_78 : decode cX5_nextGhost 78 = .ok (.iload_n 1, 1) := by decide +kernel
theorem dX5_nextGhost_79 : decode cX5_nextGhost 79 = .ok (.istore_n 1, 1) := by decide +kernel
theorem dX5_nextGhost_80 : decode cX5_nextGhost 80 = .ok (.iinc 2 1, 3) := by decide +kernel
theorem dX5_nextGhost_83 : decode cX5_nextGhost 83 = .ok (.goto (-69), 3) := by decide +kernel
theorem dX5_nextGhost_86 : decode cX5_nextGhost 86 = .ok (.iload_n 1, 1) := by decide +kernel
theorem dX5_nextGhost_87 : decode cX5_nextGhost 87 = .ok (.ireturn, 1) := by decide +kernel
theorem dX5_nextGhostByDays_0 : decode cX5_nextGhostByDays 0 = .ok (.aload_n 0, 1) := by decide +kernel
theorem dX5_nextGhostByDays_1 : decode cX5_nextGhostByDays 1 = .ok (.invokevirtual 152, 3) := by decide +kernel
theorem dX5_nextGhostByDays_4 : decode cX5_nextGhostByDays 4 = .ok (.ireturn, 1) := by decide +kernel
theorem dX5_pass_0 : decode cX5_pass 0 = .ok (.aload_n 0, 1) := by decide +kernel
theorem dX5_pass_1 : decode cX5_pass 1 = .ok (.iload_n 1, 1) := by decide +kernel
theorem dX5_pass_2 : decode cX5_pass 2 = .ok (.iconst 1, 1) := by decide +kernel
theorem dX5_pass_3 : decode cX5_pass 3 = .ok (.bipush 99, 2) := by decide +kernel
theorem dX5_pass_5 : decode cX5_pass 5 = .ok (.invokestatic 59, 3) := by decide +kernel
theorem dX5_pass_8 : decode cX5_pass 8 = .ok (.ifCond .eq 15, 3) := by decide +kernel
theorem dX5_pass_11 : decode cX5_pass 11 = .ok (.aload_n 0, 1) := by decide +kernel
theorem dX5_pass_12 : decode cX5_pass 12 = .ok (.getfield 73, 3) := by decide +kernel
theorem dX5_pass_15 : decode cX5_pass 15 = .ok (.iload_n 1, 1) := by decide +kernel
theorem dX5_pass_16 : decode cX5_pass 16 = .ok (.iadd, 1) := by decide +kernel
theorem dX5_pass_17 : decode cX5_pass 17 = .ok (.sipush 999, 3) := by decide +kernel
theorem dX5_pass_20 : decode cX5_pass 20 = .ok (.if_icmp .le 7, 3) := by decide +kernel
theorem dX5_pass_23 : decode cX5_pass 23 = .ok (.iconst 1, 1) := by decide +kernel
theorem dX5_pass_24 : decode cX5_pass 24 = .ok (.goto 4, 3) := by decide +kernel
theorem dX5_pass_27 : decode cX5_pass 27 = .ok (.iconst 0, 1) := by decide +kernel
theorem dX5_pass_28 : decode cX5_pass 28 = .ok (.putfield 53, 3) := by decide +kernel
theorem dX5_pass_31 : decode cX5_pass 31 = .ok (.aload_n 0, 1) := by decide +kernel
theorem dX5_pass_32 : decode cX5_pass 32 = .ok (.getfield 53, 3) := by decide +kernel
theorem dX5_pass_35 : decode cX5_pass 35 = .ok (.ifCond .le 5, 3) := by decide +kernel
theorem dX5_pass_38 : decode cX5_pass 38 = .ok (.iconst 0, 1) := by decide +kernel
theorem dX5_pass_39 : decode cX5_pass 39 = .ok (.ireturn, 1) := by decide +kernel
theorem dX5_pass_40 : decode cX5_pass 40 = .ok (.aload_n 0, 1) := by decide +kernel
theorem dX5_pass_41 : decode cX5_pass 41 = .ok (.dup, 1) := by decide +kernel
theorem dX5_pass_42 : decode cX5_pass 42 = .ok (.getfield 73, 3) := by decide +kernel
theorem dX5_pass_45 : decode cX5_pass 45 = .ok (.iload_n 1, 1) := by decide +kernel
theorem dX5_pass_46 : decode cX5_pass 46 = .ok (.iadd, 1) := by decide +kernel
theorem dX5_pass_47 : decode cX5_pass 47 = .ok (.putfield 73, 3) := by decide +kernel
theorem dX5_pass_50 : decode cX5_pass 50 = .ok (.aload_n 0, 1) := by decide +kernel
theorem dX5_pass_51 : decode cX5_pass 51 = .ok (.getfield 73, 3) := by decide +kernel
theorem dX5_pass_54 : decode cX5_pass 54 = .ok (.ireturn, 1) := by decide +kernel
theorem dX5_today_0 : decode cX5_today 0 = .ok (.aload_n 0, 1) := by decide +kernel
theorem dX5_today_1 : decode cX5_today 1 = .ok (.iconst 0, 1) := by decide +kernel
theorem dX5_today_2 : decode cX5_today 2 = .ok (.putfield 53, 3) := by decide +kernel
theorem dX5_today_5 : decode cX5_today 5 = .ok (.aload_n 0, 1) := by decide +kernel
theorem dX5_today_6 : decode cX5_today 6 = .ok (.getfield 73, 3) := by decide +kernel
theorem dX5_today_9 : decode cX5_today 9 = .ok (.ireturn, 1) := by decide +kernel
theorem dX5_mark_0 : decode cX5_mark 0 = .ok (.aload_n 0, 1) := by decide +kernel
theorem dX5_mark_1 : decode cX5_mark 1 = .ok (.iconst 0, 1) := by decide +kernel
theorem dX5_mark_2 : decode cX5_mark 2 = .ok (.putfield 53, 3) := by decide +kernel
theorem dX5_mark_5 : decode cX5_mark 5 = .ok (.aload_n 0, 1) := by decide +kernel
theorem dX5_mark_6 : decode cX5_mark 6 = .ok (.iconst 2, 1) := by decide +kernel
theorem dX5_mark_7 : decode cX5_mark 7 = .ok (.invokevirtual 113, 3) := by decide +kernel
theorem dX5_mark_10 : decode cX5_mark 10 = .ok (.lconst 0, 1) := by decide +kernel
theorem dX5_mark_11 : decode cX5_mark 11 = .ok (.lstore_n 1, 1) := by decide +kernel
theorem dX5_mark_12 : decode cX5_mark 12 = .ok (.iconst 0, 1) := by decide +kernel
theorem dX5_mark_13 : decode cX5_mark 13 = .ok (.istore_n 3, 1) := by decide +kernel
theorem dX5_mark_14 : decode cX5_mark 14 = .ok (.iload_n 3, 1) := by decide +kernel
theorem dX5_mark_15 : decode cX5_mark 15 = .ok (.aload_n 0, 1) := by decide +kernel
theorem dX5_mark_16 : decode cX5_mark 16 = .ok (.getfield 56, 3) := by decide +kernel
theorem dX5_mark_19 : decode cX5_mark 19 = .ok (.if_icmp .ge 99, 3) := by decide +kernel
theorem dX5_mark_22 : decode cX5_mark 22 = .ok (.lconst 0, 1) := by decide +kernel
theorem dX5_mark_23 : decode cX5_mark 23 = .ok (.lstore 4, 2) := by decide +kernel
theorem dX5_mark_25 : decode cX5_mark 25 = .ok (.lconst 0, 1) := by decide +kernel
theorem dX5_mark_26 : decode cX5_mark 26 = .ok (.lstore 6, 2) := by decide +kernel
theorem dX5_mark_28 : decode cX5_mark 28 = .ok (.iconst 0, 1) := by decide +kernel
theorem dX5_mark_29 : decode cX5_mark 29 = .ok (.istore 8, 2) := by decide +kernel
theorem dX5_mark_31 : decode cX5_mark 31 = .ok (.iload 8, 2) := by decide +kernel
theorem dX5_mark_33 : decode cX5_mark 33 = .ok (.aload_n 0, 1) := by decide +kernel
theorem dX5_mark_34 : decode cX5_mark 34 = .ok (.getfield 56, 3) := by decide +kernel
theorem dX5_mark_37 : decode cX5_mark 37 = .ok (.if_icmp .ge 51, 3) := by decide +kernel
theorem dX5_mark_40 : decode cX5_mark 40 = .ok (.lload 4, 2) := by decide +kernel
theorem dX5_mark_42 : decode cX5_mark 42 = .ok (.aload_n 0, 1) := by decide +kernel
theorem dX5_mark_43 : decode cX5_mark 43 = .ok (.iload 8, 2) := by decide +kernel
theorem dX5_mark_45 : decode cX5_mark 45 = .ok (.iload_n 3, 1) := by decide +kernel
theorem dX5_mark_46 : decode cX5_mark 46 = .ok (.invokevirtual 122, 3) := by decide +kernel
theorem dX5_mark_49 : decode cX5_mark 49 = .ok (.ifCond .eq 7, 3) := by decide +kernel
theorem dX5_mark_52 : decode cX5_mark 52 = .ok (.lconst 1, 1) := by decide +kernel
theorem dX5_mark_53 : decode cX5_mark 53 = .ok (.goto 4, 3) := by decide +kernel
theorem dX5_mark_56 : decode cX5_mark 56 = .ok (.lconst 0, 1) := by decide +kernel
theorem dX5_mark_57 : decode cX5_mark 57 = .ok (.ladd, 1) := by decide +kernel
theorem dX5_mark_58 : decode cX5_mark 58 = .ok (.lstore 4, 2) := by decide +kernel
theorem dX5_mark_60 : decode cX5_mark 60 = .ok (.lload 6, 2) := by decide +kernel
theorem dX5_mark_62 : decode cX5_mark 62 = .ok (.aload_n 0, 1) := by decide +kernel
theorem dX5_mark_63 : decode cX5_mark 63 = .ok (.iload 8, 2) := by decide +kernel
theorem dX5_mark_65 : decode cX5_mark 65 = .ok (.iload_n 3, 1) := by decide +kernel
theorem dX5_mark_66 : decode cX5_mark 66 = .ok (.invokevirtual 122, 3) := by decide +kernel
theorem dX5_mark_69 : decode cX5_mark 69 = .ok (.ifCond .eq 9, 3) := by decide +kernel
theorem dX5_mark_72 : decode cX5_mark 72 = .ok (.iload 8, 2) := by decide +kernel
theorem dX5_mark_74 : decode cX5_mark 74 = .ok (.i2l, 1) := by decide +kernel
theorem dX5_mark_75 : decode cX5_mark 75 = .ok (.goto 4, 3) := by decide +kernel
theorem dX5_mark_78 : decode cX5_mark 78 = .ok (.lconst 0, 1) := by decide +kernel
theorem dX5_mark_79 : decode cX5_mark 79 = .ok (.ladd, 1) := by decide +kernel
theorem dX5_mark_80 : decode cX5_mark 80 = .ok (.lstore 6, 2) := by decide +kernel
theorem dX5_mark_82 : decode cX5_mark 82 = .ok (.iinc 8 1, 3) := by decide +kernel
theorem dX5_mark_85 : decode cX5_mark 85 = .ok (.goto (-54), 3) := by decide +kernel
theorem dX5_mark_88 : decode cX5_mark 88 = .ok (.lload_n 1, 1) := by decide +kernel
theorem dX5_mark_89 : decode cX5_mark 89 = .ok (.lload 4, 2) := by decide +kernel
theorem dX5_mark_91 : decode cX5_mark 91 = .ok (.lconst 0, 1) := by decide +kernel
theorem dX5_mark_92 : decode cX5_mark 92 = .ok (.lcmp, 1) := by decide +kernel
theorem dX5_mark_93 : decode cX5_mark 93 = .ok (.ifCond .le 16, 3) := by decide +kernel
theorem dX5_mark_96 : decode cX5_mark 96 = .ok (.lload 4, 2) := by decide +kernel
theorem dX5_mark_98 : decode cX5_mark 98 = .ok (.lload 4, 2) := by decide +kernel
theorem dX5_mark_100 : decode cX5_mark 100 = .ok (.lmul, 1) := by decide +kernel
theorem dX5_mark_101 : decode cX5_mark 101 = .ok (.lload 6, 2) := by decide +kernel
theorem dX5_mark_103 : decode cX5_mark 103 = .ok (.lmul, 1) := by decide +kernel
theorem dX5_mark_104 : decode cX5_mark 104 = .ok (.lconst 1, 1) := by decide +kernel
theorem dX5_mark_105 : decode cX5_mark 105 = .ok (.ladd, 1) := by decide +kernel
theorem dX5_mark_106 : decode cX5_mark 106 = .ok (.goto 4, 3) := by decide +kernel
theorem dX5_mark_109 : decode cX5_mark 109 = .ok (.lconst 0, 1) := by decide +kernel
theorem dX5_mark_110 : decode cX5_mark 110 = .ok (.ladd, 1) := by decide +kernel
theorem dX5_mark_111 : decode cX5_mark 111 = .ok (.lstore_n 1, 1) := by decide +kernel
theorem dX5_mark_112 : decode cX5_mark 112 = .ok (.iinc 3 1, 3) := by decide +kernel
theorem dX5_mark_115 : decode cX5_mark 115 = .ok (.goto (-101), 3) := by decide +kernel
theorem dX5_mark_118 : decode cX5_mark 118 = .ok (.lload_n 1, 1) := by decide +kernel
theorem dX5_mark_119 : decode cX5_mark 119 = .ok (.lreturn, 1) := by decide +kernel
