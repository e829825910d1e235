theorem dX0_init_0 : decode cX0_init 0 = .ok (.aload_n 0, 1) := by decide +kernel
theorem dX0_init_1 : decode cX0_init 1 = .ok (.invokespecial 3, 3) := by decide +kernel
theorem dX0_init_4 : decode cX0_init 4 = .ok (.aload_n 0, 1) := by decide +kernel
theorem dX0_init_5 : decode cX0_init 5 = .ok (.iconst 3, 1) := by decide +kernel
theorem dX0_init_6 : decode cX0_init 6 = .ok (.bipush 24, 2) := by decide +kernel
theorem dX0_init_8 : decode cX0_init 8 = .ok (.multianewarray 9 2, 4) := by decide +kernel
theorem dX0_init_12 : decode cX0_init 12 = .ok (.putfield 11, 3) := by decide +kernel
theorem dX0_init_15 : decode cX0_init 15 = .ok (.aload_n 0, 1) := by decide +kernel
theorem dX0_init_16 : decode cX0_init 16 = .ok (.bipush 24, 2) := by decide +kernel
theorem dX0_init_18 : decode cX0_init 18 = .ok (.newarray .int, 2) := by decide +kernel
theorem dX0_init_20 : decode cX0_init 20 = .ok (.putfield 16, 3) := by decide +kernel
theorem dX0_init_23 : decode cX0_init 23 = .ok (.return_, 1) := by decide +kernel
theorem dX0_findGroups_0 : decode cX0_findGroups 0 = .ok (.iconst 0, 1) := by decide +kernel
theorem dX0_findGroups_1 : decode cX0_findGroups 1 = .ok (.istore_n 2, 1) := by decide +kernel
theorem dX0_findGroups_2 : decode cX0_findGroups 2 = .ok (.iload_n 2, 1) := by decide +kernel
theorem dX0_findGroups_3 : decode cX0_findGroups 3 = .ok (.iconst 3, 1) := by decide +kernel
theorem dX0_findGroups_4 : decode cX0_findGroups 4 = .ok (.if_icmp .ge 49, 3) := by decide +kernel
theorem dX0_findGroups_7 : decode cX0_findGroups 7 = .ok (.iconst 0, 1) := by decide +kernel
theorem dX0_findGroups_8 : decode cX0_findGroups 8 = .ok (.istore_n 3, 1) := by decide +kernel
theorem dX0_findGroups_9 : decode cX0_findGroups 9 = .ok (.iload_n 3, 1) := by decide +kernel
theorem dX0_findGroups_10 : decode cX0_findGroups 10 = .ok (.aload_n 1, 1) := by decide +kernel
theorem dX0_findGroups_11 : decode cX0_findGroups 11 = .ok (.getfield 20, 3) := by decide +kernel
theorem dX0_findGroups_14 : decode cX0_findGroups 14 = .ok (.if_icmp .ge 21, 3) := by decide +kernel
theorem dX0_findGroups_17 : decode cX0_findGroups 17 = .ok (.aload_n 0, 1) := by decide +kernel
theorem dX0_findGroups_18 : decode cX0_findGroups 18 = .ok (.getfield 16, 3) := by decide +kernel
theorem dX0_findGroups_21 : decode cX0_findGroups 21 = .ok (.iload_n 3, 1) := by decide +kernel
theorem dX0_findGroups_22 : decode cX0_findGroups 22 = .ok (.aload_n 0, 1) := by decide +kernel
theorem dX0_findGroups_23 : decode cX0_findGroups 23 = .ok (.iload_n 3, 1) := by decide +kernel
theorem dX0_findGroups_24 : decode cX0_findGroups 24 = .ok (.iload_n 2, 1) := by decide +kernel
theorem dX0_findGroups_25 : decode cX0_findGroups 25 = .ok (.invokevirtual 26, 3) := by decide +kernel
theorem dX0_findGroups_28 : decode cX0_findGroups 28 = .ok (.iastore, 1) := by decide +kernel
theorem dX0_findGroups_29 : decode cX0_findGroups 29 = .ok (.iinc 3 1, 3) := by decide +kernel
theorem dX0_findGroups_32 : decode cX0_findGroups 32 = .ok (.goto (-23), 3) := by decide +kernel
theorem dX0_findGroups_35 : decode cX0_findGroups 35 = .ok (.aload_n 0, 1) := by decide +kernel
theorem dX0_findGroups_36 : decode cX0_findGroups 36 = .ok (.aload_n 1, 1) := by decide +kernel
theorem dX0_findGroups_37 : decode cX0_findGroups 37 = .ok (.iload_n 2, 1) := by decide +kernel
theorem dX0_findGroups_38 : decode cX0_findGroups 38 = .ok (.invokevirtual 30, 3) := by decide +kernel
theorem dX0_findGroups_41 : decode cX0_findGroups 41 = .ok (.aload_n 0, 1) := by decide +kernel
theorem dX0_findGroups_42 : decode cX0_findGroups 42 = .ok (.aload_n 1, 1) := by decide +kernel
theorem dX0_findGroups_43 : decode cX0_findGroups 43 = .ok (.iload_n 2, 1) := by decide +kernel
theorem dX0_findGroups_44 : decode cX0_findGroups 44 = .ok (.invokevirtual 34, 3) := by decide +kernel
theorem dX0_findGroups_47 : decode cX0_findGroups 47 = .ok (.iinc 2 1, 3) := by decide +kernel
theorem dX0_findGroups_50 : decode cX0_findGroups 50 = .ok (.goto (-48), 3) := by decide +kernel
theorem dX0_findGroups_53 : decode cX0_findGroups 53 = .ok (.return_, 1) := by decide +kernel
theorem dX0_groupBefore_0 : decode cX0_groupBefore 0 = .ok (.iload_n 2, 1) := by decide +kernel
theorem dX0_groupBefore_1 : decode cX0_groupBefore 1 = .ok (.ifCond .le 16, 3) := by decide +kernel
theorem dX0_groupBefore_4 : decode cX0_groupBefore 4 = .ok (.aload_n 0, 1) := by decide +kernel
theorem dX0_groupBefore_5 : decode cX0_groupBefore 5 = .ok (.getfield 11, 3) := by decide +kernel
theorem dX0_groupBefore_8 : decode cX0_groupBefore 8 = .ok (.iload_n 2, 1) := by decide +kernel
theorem dX0_groupBefore_9 : decode cX0_groupBefore 9 = .ok (.iconst 1, 1) := by decide +kernel
theorem dX0_groupBefore_10 : decode cX0_groupBefore 10 = .ok (.isub, 1) := by decide +kernel
theorem dX0_groupBefore_11 : decode cX0_groupBefore 11 = .ok (.aaload, 1) := by decide +kernel
theorem dX0_groupBefore_12 : decode cX0_groupBefore 12 = .ok (.iload_n 1, 1) := by decide +kernel
theorem dX0_groupBefore_13 : decode cX0_groupBefore 13 = .ok (.iaload, 1) := by decide +kernel
theorem dX0_groupBefore_14 : decode cX0_groupBefore 14 = .ok (.goto 4, 3) := by decide +kernel
theorem dX0_groupBefore_17 : decode cX0_groupBefore 17 = .ok (.iload_n 1, 1) := by decide +kernel
theorem dX0_groupBefore_18 : decode cX0_groupBefore 18 = .ok (.ireturn, 1) := by decide +kernel
theorem dX0_joinClusters_0 : decode cX0_joinClusters 0 = .ok (.iconst 0, 1) := by decide +kernel
theorem dX0_joinClusters_1 : decode cX0_joinClusters 1 = .ok (.istore_n 3, 1) := by decide +kernel
theorem dX0_joinClusters_2 : decode cX0_joinClusters 2 = .ok (.iload_n 3, 1) := by decide +kernel
theorem dX0_joinClusters_3 : decode cX0_joinClusters 3 = .ok (.aload_n 1, 1) := by decide +kernel
theorem dX0_joinClusters_4 : decode cX0_joinClusters 4 = .ok (.getfield 20, 3) := by decide +kernel
theorem dX0_joinClusters_7 : decode cX0_joinClusters 7 = .ok (.if_icmp .ge 55, 3) := by decide +kernel
theorem dX0_joinClusters_10 : decode cX0_joinClusters 10 = .ok (.aload_n 1, 1) := by decide +kernel
theorem dX0_joinClusters_11 : decode cX0_joinClusters 11 = .ok (.aload_n 0, 1) := by decide +kernel
theorem dX0_joinClusters_12 : decode cX0_joinClusters 12 = .ok (.aload_n 0, 1) := by decide +kernel
theorem dX0_joinClusters_13 : decode cX0_joinClusters 13 = .ok (.getfield 16, 3) := by decide +kernel
theorem dX0_joinClusters_16 : decode cX0_joinClusters 16 = .ok (.iload_n 3, 1) := by decide +kernel
theorem dX0_joinClusters_17 : decode cX0_joinClusters 17 = .ok (.iaload, 1) := by decide +kernel
theorem dX0_joinClusters_18 : decode cX0_joinClusters 18 = .ok (.aload_n 1, 1) := by decide +kernel
theorem dX0_joinClusters_19 : decode cX0_joinClusters 19 = .ok (.invokevirtual 37, 3) := by decide +kernel
theorem dX0_joinClusters_22 : decode cX0_joinClusters 22 = .ok (.iload_n 2, 1) := by decide +kernel
theorem dX0_joinClusters_23 : decode cX0_joinClusters 23 = .ok (.invokevirtual 41, 3) := by decide +kernel
theorem dX0_joinClusters_26 : decode cX0_joinClusters 26 = .ok (.istore 4, 2) := by decide +kernel
theorem dX0_joinClusters_28 : decode cX0_joinClusters 28 = .ok (.aload_n 0, 1) := by decide +kernel
theorem dX0_joinClusters_29 : decode cX0_joinClusters 29 = .ok (.getfield 11, 3) := by decide +kernel
theorem dX0_joinClusters_32 : decode cX0_joinClusters 32 = .ok (.iload_n 2, 1) := by decide +kernel
theorem dX0_joinClusters_33 : decode cX0_joinClusters 33 = .ok (.aaload, 1) := by decide +kernel
theorem dX0_joinClusters_34 : decode cX0_joinClusters 34 = .ok (.iload_n 3, 1) := by decide +kernel
theorem dX0_joinClusters_35 : decode cX0_joinClusters 35 = .ok (.iload 4, 2) := by decide +kernel
theorem dX0_joinClusters_37 : decode cX0_joinClusters 37 = .ok (.ifCond .eq 12, 3) := by decide +kernel
theorem dX0_joinClusters_40 : decode cX0_joinClusters 40 = .ok (.aload_n 0, 1) := by decide +kernel
theorem dX0_joinClusters_41 : decode cX0_joinClusters 41 = .ok (.getfield 16, 3) := by decide +kernel
theorem dX0_joinClusters_44 : decode cX0_joinClusters 44 = .ok (.iload_n 3, 1) := by decide +kernel
theorem dX0_joinClusters_45 : decode cX0_joinClusters 45 = .ok (.iaload, 1) := by decide +kernel
theorem dX0_joinClusters_46 : decode cX0_joinClusters 46 = .ok (.goto 9, 3) := by decide +kernel
theorem dX0_joinClusters_49 : decode cX0_joinClusters 49 = .ok (.aload_n 0, 1) := by decide +kernel
theorem dX0_joinClusters_50 : decode cX0_joinClusters 50 = .ok (.iload_n 3, 1) := by decide +kernel
theorem dX0_joinClusters_51 : decode cX0_joinClusters 51 = .ok (.iload_n 2, 1) := by decide +kernel
theorem dX0_joinClusters_52 : decode cX0_joinClusters 52 = .ok (.invokevirtual 26, 3) := by decide +kernel
theorem dX0_joinClusters_55 : decode cX0_joinClusters 55 = .ok (.iastore, 1) := by decide +kernel
theorem dX0_joinClusters_56 : decode cX0_joinClusters 56 = .ok (.iinc 3 1, 3) := by decide +kernel
theorem dX0_joinClusters_59 : decode cX0_joinClusters 59 = .ok (.goto (-57), 3) := by decide +kernel
theorem dX0_joinClusters_62 : decode cX0_joinClusters 62 = .ok (.return_, 1) := by decide +kernel
theorem dX0_membersOf_0 : decode cX0_membersOf 0 = .ok (.iconst 0, 1) := by decide +kernel
theorem dX0_membersOf_1 : decode cX0_membersOf 1 = .ok (.istore_n 3, 1) := by decide +kernel
theorem dX0_membersOf_2 : decode cX0_membersOf 2 = .ok (.iconst 0, 1) := by decide +kernel
theorem dX0_membersOf_3 : decode cX0_membersOf 3 = .ok (.istore 4, 2) := by decide +kernel
theorem dX0_membersOf_5 : decode cX0_membersOf 5 = .ok (.iload 4, 2) := by decide +kernel
theorem dX0_membersOf_7 : decode cX0_membersOf 7 = .ok (.aload_n 2, 1) := by decide +kernel
theorem dX0_membersOf_8 : decode cX0_membersOf 8 = .ok (.getfield 20, 3) := by decide +kernel
theorem dX0_membersOf_11 : decode cX0_membersOf 11 = .ok (.if_icmp .ge 36, 3) := by decide +kernel
theorem dX0_membersOf_14 : decode cX0_membersOf 14 = .ok (.aload_n 2, 1) := by decide +kernel
theorem dX0_membersOf_15 : decode cX0_membersOf 15 = .ok (.iload 4, 2) := by decide +kernel
theorem dX0_membersOf_17 : decode cX0_membersOf 17 = .ok (.invokevirtual 45, 3) := by decide +kernel
theorem dX0_membersOf_20 : decode cX0_membersOf 20 = .ok (.ifCond .eq 21, 3) := by decide +kernel
theorem dX0_membersOf_23 : decode cX0_membersOf 23 = .ok (.aload_n 0, 1) := by decide +kernel
theorem dX0_membersOf_24 : decode cX0_membersOf 24 = .ok (.getfield 16, 3) := by decide +kernel
theorem dX0_membersOf_27 : decode cX0_membersOf 27 = .ok (.iload 4, 2) := by decide +kernel
theorem dX0_membersOf_29 : decode cX0_membersOf 29 = .ok (.iaload, 1) := by decide +kernel
theorem dX0_membersOf_30 : decode cX0_membersOf 30 = .ok (.iload_n 1, 1) := by decide +kernel
theorem dX0_membersOf_31 : decode cX0_membersOf 31 = .ok (.if_icmp .ne 10, 3) := by decide +kernel
theorem dX0_membersOf_34 : decode cX0_membersOf 34 = .ok (.iload_n 3, 1) := by decide +kernel
theorem dX0_membersOf_35 : decode cX0_membersOf 35 = .ok (.iconst 1, 1) := by decide +kernel
theorem dX0_membersOf_36 : decode cX0_membersOf 36 = .ok (.iload 4, 2) := by decide +kernel
theorem dX0_membersOf_38 : decode cX0_membersOf 38 = .ok (.ishl, 1) := by decide +kernel
theorem dX0_membersOf_39 : decode cX0_membersOf 39 = .ok (.ior, 1) := by decide +kernel
theorem dX0_membersOf_40 : decode cX0_membersOf 40 = .ok (.istore_n 3, 1) := by decide +kernel
theorem dX0_membersOf_41 : decode cX0_membersOf 41 = .ok (.iinc 4 1, 3) := by decide +kernel
theorem dX0_membersOf_44 : decode cX0_membersOf 44 = .ok (.goto (-39), 3) := by decide +kernel
theorem dX0_membersOf_47 : decode cX0_membersOf 47 = .ok (.iload_n 3, 1) := by decide +kernel
theorem dX0_membersOf_48 : decode cX0_membersOf 48 = .ok (.ireturn, 1) := by decide +kernel
theorem dX1_init_0 : decode cX1_init 0 = .ok (.aload_n 0, 1) := by decide +kernel
theorem dX1_init_1 : decode cX1_init 1 = .ok (.invokespecial 3, 3) := by decide +kernel
theorem dX1_init_4 : decode cX1_init 4 = .ok (.aload_n 0, 1) := by decide +kernel
theorem dX1_init_5 : decode cX1_init 5 = .ok (.iconst 4, 1) := by decide +kernel
theorem dX1_init_6 : decode cX1_init 6 = .ok (.newarray .int, 2) := by decide +kernel
theorem dX1_init_8 : decode cX1_init 8 = .ok (.putfield 9, 3) := by decide +kernel
theorem dX1_init_11 : decode cX1_init 11 = .ok (.aload_n 0, 1) := by decide +kernel
theorem dX1_init_12 : decode cX1_init 12 = .ok (.bipush 24, 2) := by decide +kernel
theorem dX1_init_14 : decode cX1_init 14 = .ok (.newarray .int, 2) := by decide +kernel
theorem dX1_init_16 : decode cX1_init 16 = .ok (.putfield 15, 3) := by decide +kernel
theorem dX1_init_19 : decode cX1_init 19 = .ok (.aload_n 0, 1) := by decide +kernel
theorem dX1_init_20 : decode cX1_init 20 = .ok (.bipush 24, 2) := by decide +kernel
theorem dX1_init_22 : decode cX1_init 22 = .ok (.newarray .int, 2) := by decide +kernel
theorem dX1_init_24 : decode cX1_init 24 = .ok (.putfield 18, 3) := by decide +kernel
theorem dX1_init_27 : decode cX1_init 27 = .ok (.aload_n 0, 1) := by decide +kernel
theorem dX1_init_28 : decode cX1_init 28 = .ok (.iconst 3, 1) := by decide +kernel
theorem dX1_init_29 : decode cX1_init 29 = .ok (.bipush 24, 2) := by decide +kernel
theorem dX1_init_31 : decode cX1_init 31 = .ok (.multianewarray 21 2, 4) := by decide +kernel
theorem dX1_init_35 : decode cX1_init 35 = .ok (.putfield 23, 3) := by decide +kernel
theorem dX1_init_38 : decode cX1_init 38 = .ok (.aload_n 0, 1) := by decide +kernel
theorem dX1_init_39 : decode cX1_init 39 = .ok (.iconst 3, 1) := by decide +kernel
theorem dX1_init_40 : decode cX1_init 40 = .ok (.bipush 24, 2) := by decide +kernel
theorem dX1_init_42 : decode cX1_init 42 = .ok (.multianewarray 21 2, 4) := by decide +kernel
theorem dX1_init_46 : decode cX1_init 46 = .ok (.putfield 26, 3) := by decide +kernel
theorem dX1_init_49 : decode cX1_init 49 = .ok (.aload_n 0, 1) := by decide +kernel
theorem dX1_init_50 : decode cX1_init 50 = .ok (.bipush 24, 2) := by decide +kernel
theorem dX1_init_52 : decode cX1_init 52 = .ok (.newarray .int, 2) := by decide +kernel
theorem dX1_init_54 : decode cX1_init 54 = .ok (.putfield 29, 3) := by decide +kernel
theorem dX1_init_57 : decode cX1_init 57 = .ok (.return_, 1) := by decide +kernel
theorem dX1_putSource_0 : decode cX1_putSource 0 = .ok (.aload_n 0, 1) := by decide +kernel
theorem dX1_putSource_1 : decode cX1_putSource 1 = .ok (.getfield 32, 3) := by decide +kernel
theorem dX1_putSource_4 : decode cX1_putSource 4 = .ok (.istore_n 2, 1) := by decide +kernel
theorem dX1_putSource_5 : decode cX1_putSource 5 = .ok (.aload_n 0, 1) := by decide +kernel
theorem dX1_putSource_6 : decode cX1_putSource 6 = .ok (.getfield 9, 3) := by decide +kernel
theorem dX1_putSource_9 : decode cX1_putSource 9 = .ok (.iload_n 2, 1) := by decide +kernel
theorem dX1_putSource_10 : decode cX1_putSource 10 = .ok (.iload_n 1, 1) := by decide +kernel
theorem dX1_putSource_11 : decode cX1_putSource 11 = .ok (.iastore, 1) := by decide +kernel
theorem dX1_putSource_12 : decode cX1_putSource 12 = .ok (.aload_n 0, 1) := by decide +kernel
theorem dX1_putSource_13 : decode cX1_putSource 13 = .ok (.dup, 1) := by decide +kernel
theorem dX1_putSource_14 : decode cX1_putSource 14 = .ok (.getfield 32, 3) := by decide +kernel
theorem dX1_putSource_17 : decode cX1_putSource 17 = .ok (.iconst 1, 1) := by decide +kernel
theorem dX1_putSource_18 : decode cX1_putSource 18 = .ok (.iadd, 1) := by decide +kernel
theorem dX1_putSource_19 : decode cX1_putSource 19 = .ok (.putfield 32, 3) := by decide +kernel
theorem dX1_putSource_22 : decode cX1_putSource 22 = .ok (.iload_n 2, 1) := by decide +kernel
theorem dX1_putSource_23 : decode cX1_putSource 23 = .ok (.ireturn, 1) := by decide +kernel
theorem dX1_putRecord_0 : decode cX1_putRecord 0 = .ok (.aload_n 0, 1) := by decide +kernel
theorem dX1_putRecord_1 : decode cX1_putRecord 1 = .ok (.getfield 36, 3) := by decide +kernel
theorem dX1_putRecord_4 : decode cX1_putRecord 4 = .ok (.istore_n 3, 1) := by decide +kernel
theorem dX1_putRecord_5 : decode cX1_putRecord 5 = .ok (.aload_n 0, 1) := by decide +kernel
theorem dX1_putRecord_6 : decode cX1_putRecord 6 = .ok (.getfield 15, 3) := by decide +kernel
theorem dX1_putRecord_9 : decode cX1_putRecord 9 = .ok (.iload_n 3, 1) := by decide +kernel
theorem dX1_putRecord_10 : decode cX1_putRecord 10 = .ok (.iload_n 1, 1) := by decide +kernel
theorem dX1_putRecord_11 : decode cX1_putRecord 11 = .ok (.iastore, 1) := by decide +kernel
theorem dX1_putRecord_12 : decode cX1_putRecord 12 = .ok (.aload_n 0, 1) := by decide +kernel
theorem dX1_putRecord_13 : decode cX1_putRecord 13 = .ok (.getfield 18, 3) := by decide +kernel
theorem dX1_putRecord_16 : decode cX1_putRecord 16 = .ok (.iload_n 3, 1) := by decide +kernel
theorem dX1_putRecord_17 : decode cX1_putRecord 17 = .ok (.iload_n 2, 1) := by decide +kernel
theorem dX1_putRecord_18 : decode cX1_putRecord 18 = .ok (.iastore, 1) := by decide +kernel
theorem dX1_putRecord_19 : decode cX1_putRecord 19 = .ok (.iconst 0, 1) := by decide +kernel
theorem dX1_putRecord_20 : decode cX1_putRecord 20 = .ok (.istore 4, 2) := by decide +kernel
theorem dX1_putRecord_22 : decode cX1_putRecord 22 = .ok (.iload 4, 2) := by decide +kernel
theorem dX1_putRecord_24 : decode cX1_putRecord 24 = .ok (.iconst 3, 1) := by decide +kernel
theorem dX1_putRecord_25 : decode cX1_putRecord 25 = .ok (.if_icmp .ge 19, 3) := by decide +kernel
theorem dX1_putRecord_28 : decode cX1_putRecord 28 = .ok (.aload_n 0, 1) := by decide +kernel
theorem dX1_putRecord_29 : decode cX1_putRecord 29 = .ok (.getfield 26, 3) := by decide +kernel
theorem dX1_putRecord_32 : decode cX1_putRecord 32 = .ok (.iload 4, 2) := by decide +kernel
theorem dX1_putRecord_34 : decode cX1_putRecord 34 = .ok (.aaload, 1) := by decide +kernel
theorem dX1_putRecord_35 : decode cX1_putRecord 35 = .ok (.iload_n 3, 1) := by decide +kernel
theorem dX1_putRecord_36 : decode cX1_putRecord 36 = .ok (.iconst (-1), 1) := by decide +kernel
theorem dX1_putRecord_37 : decode cX1_putRecord 37 = .ok (.iastore, 1) := by decide +kernel
theorem dX1_putRecord_38 : decode cX1_putRecord 38 = .ok (.iinc 4 1, 3) := by decide +kernel
theorem dX1_putRecord_41 : decode cX1_putRecord 41 = .ok (.goto (-19), 3) := by decide +kernel
theorem dX1_putRecord_44 : decode cX1_putRecord 44 = .ok (.aload_n 0, 1) := by decide +kernel
theorem dX1_putRecord_45 : decode cX1_putRecord 45 = .ok (.dup, 1) := by decide +kernel
theorem dX1_putRecord_46 : decode cX1_putRecord 46 = .ok (.getfield 36, 3) := by decide +kernel
theorem dX1_putRecord_49 : decode cX1_putRecord 49 = .ok (.iconst 1, 1) := by decide +kernel
theorem dX1_putRecord_50 : decode cX1_putRecord 50 = .ok (.iadd, 1) := by decide +kernel
theorem dX1_putRecord_51 : decode cX1_putRecord 51 = .ok (.putfield 36, 3) := by decide +kernel
theorem dX1_putRecord_54 : decode cX1_putRecord 54 = .ok (.aload_n 0, 1) := by decide +kernel
theorem dX1_putRecord_55 : decode cX1_putRecord 55 = .ok (.iload_n 3, 1) := by decide +kernel
theorem dX1_putRecord_56 : decode cX1_putRecord 56 = .ok (.invokevirtual 39, 3) := by decide +kernel
theorem dX1_putRecord_59 : decode cX1_putRecord 59 = .ok (.iload_n 3, 1) := by decide +kernel
theorem dX1_putRecord_60 : decode cX1_putRecord 60 = .ok (.ireturn, 1) := by decide +kernel
theorem dX1_hide_0 : decode cX1_hide 0 = .ok (.aload_n 0, 1) := by decide +kernel
theorem dX1_hide_1 : decode cX1_hide 1 = .ok (.dup, 1) := by decide +kernel
theorem dX1_hide_2 : decode cX1_hide 2 = .ok (.getfield 43, 3) := by decide +kernel
theorem dX1_hide_5 : decode cX1_hide 5 = .ok (.iconst 1, 1) := by decide +kernel
theorem dX1_hide_6 : decode cX1_hide 6 = .ok (.iload_n 1, 1) := by decide +kernel
theorem dX1_hide_7 : decode cX1_hide 7 = .ok (.ishl, 1) := by decide +kernel
theorem dX1_hide_8 : decode cX1_hide 8 = .ok (.iconst (-1), 1) := by decide +kernel
theorem dX1_hide_9 : decode cX1_hide 9 = .ok (.ixor, 1) := by decide +kernel
theorem dX1_hide_10 : decode cX1_hide 10 = .ok (.iand, 1) := by decide +kernel
theorem dX1_hide_11 : decode cX1_hide 11 = .ok (.putfield 43, 3) := by decide +kernel
theorem dX1_hide_14 : decode cX1_hide 14 = .ok (.return_, 1) := by decide +kernel
theorem dX1_unhide_0 : decode cX1_unhide 0 = .ok (.aload_n 0, 1) := by decide +kernel
theorem dX1_unhide_1 : decode cX1_unhide 1 = .ok (.dup, 1) := by decide +kernel
theorem dX1_unhide_2 : decode cX1_unhide 2 = .ok (.getfield 43, 3) := by decide +kernel
theorem dX1_unhide_5 : decode cX1_unhide 5 = .ok (.iconst 1, 1) := by decide +kernel
theorem dX1_unhide_6 : decode cX1_unhide 6 = .ok (.iload_n 1, 1) := by decide +kernel
theorem dX1_unhide_7 : decode cX1_unhide 7 = .ok (.ishl, 1) := by decide +kernel
theorem dX1_unhide_8 : decode cX1_unhide 8 = .ok (.ior, 1) := by decide +kernel
theorem dX1_unhide_9 : decode cX1_unhide 9 = .ok (.putfield 43, 3) := by decide +kernel
theorem dX1_unhide_12 : decode cX1_unhide 12 = .ok (.return_, 1) := by decide +kernel
theorem dX1_holds_0 : decode cX1_holds 0 = .ok (.iload_n 1, 1) := by decide +kernel
theorem dX1_holds_1 : decode cX1_holds 1 = .ok (.ifCond .lt 26, 3) := by decide +kernel
theorem dX1_holds_4 : decode cX1_holds 4 = .ok (.iload_n 1, 1) := by decide +kernel
theorem dX1_holds_5 : decode cX1_holds 5 = .ok (.aload_n 0, 1) := by decide +kernel
theorem dX1_holds_6 : decode cX1_holds 6 = .ok (.getfield 36, 3) := by decide +kernel
theorem dX1_holds_9 : decode cX1_holds 9 = .ok (.if_icmp .ge 18, 3) := by decide +kernel
theorem dX1_holds_12 : decode cX1_holds 12 = .ok (.aload_n 0, 1) := by decide +kernel
theorem dX1_holds_13 : decode cX1_holds 13 = .ok (.getfield 43, 3) := by decide +kernel
theorem dX1_holds_16 : decode cX1_holds 16 = .ok (.iload_n 1, 1) := by decide +kernel
theorem dX1_holds_17 : decode cX1_holds 17 = .ok (.ishr, 1) := by decide +kernel
theorem dX1_holds_18 : decode cX1_holds 18 = .ok (.iconst 1, 1) := by decide +kernel
theorem dX1_holds_19 : decode cX1_holds 19 = .ok (.iand, 1) := by decide +kernel
theorem dX1_holds_20 : decode cX1_holds 20 = .ok (.ifCond .eq 7, 3) := by decide +kernel
theorem dX1_holds_23 : decode cX1_holds 23 = .ok (.iconst 1, 1) := by decide +kernel
theorem dX1_holds_24 : decode cX1_holds 24 = .ok (.goto 4, 3) := by decide +kernel
theorem dX1_holds_27 : decode cX1_holds 27 = .ok (.iconst 0, 1) := by decide +kernel
theorem dX1_holds_28 : decode cX1_holds 28 = .ok (.ireturn, 1) := by decide +kernel
theorem dX1_isIn_0 : decode cX1_isIn 0 = .ok (.iload_n 1, 1) := by decide +kernel
theorem dX1_isIn_1 : decode cX1_isIn 1 = .ok (.iload_n 0, 1) := by decide +kernel
theorem dX1_isIn_2 : decode cX1_isIn 2 = .ok (.ishr, 1) := by decide +kernel
theorem dX1_isIn_3 : decode cX1_isIn 3 = .ok (.iconst 1, 1) := by decide +kernel
theorem dX1_isIn_4 : decode cX1_isIn 4 = .ok (.iand, 1) := by decide +kernel
theorem dX1_isIn_5 : decode cX1_isIn 5 = .ok (.ifCond .eq 7, 3) := by decide +kernel
theorem dX1_isIn_8 : decode cX1_isIn 8 = .ok (.iconst 1, 1) := by decide +kernel
theorem dX1_isIn_9 : decode cX1_isIn 9 = .ok (.goto 4, 3) := by decide +kernel
theorem dX1_isIn_12 : decode cX1_isIn 12 = .ok (.iconst 0, 1) := by decide +kernel
theorem dX1_isIn_13 : decode cX1_isIn 13 = .ok (.ireturn, 1) := by decide +kernel
theorem dX1_countRecords_0 : decode cX1_countRecords 0 = .ok (.aload_n 0, 1) := by decide +kernel
theorem dX1_countRecords_1 : decode cX1_countRecords 1 = .ok (.getfield 43, 3) := by decide +kernel
theorem dX1_countRecords_4 : decode cX1_countRecords 4 = .ok (.invokestatic 46, 3) := by decide +kernel
theorem dX1_countRecords_7 : decode cX1_countRecords 7 = .ok (.ireturn, 1) := by decide +kernel
theorem dX1_part_0 : decode cX1_part 0 = .ok (.aload_n 0, 1) := by decide +kernel
theorem dX1_part_1 : decode cX1_part 1 = .ok (.getfield 29, 3) := by decide +kernel
theorem dX1_part_4 : decode cX1_part 4 = .ok (.iload_n 1, 1) := by decide +kernel
theorem dX1_part_5 : decode cX1_part 5 = .ok (.dup2, 1) := by decide +kernel
theorem dX1_part_6 : decode cX1_part 6 = .ok (.iaload, 1) := by decide +kernel
theorem dX1_part_7 : decode cX1_part 7 = .ok (.iconst 1, 1) := by decide +kernel
theorem dX1_part_8 : decode cX1_part 8 = .ok (.iload_n 2, 1) := by decide +kernel
theorem dX1_part_9 : decode cX1_part 9 = .ok (.ishl, 1) := by decide +kernel
theorem dX1_part_10 : decode cX1_part 10 = .ok (.ior, 1) := by decide +kernel
theorem dX1_part_11 : decode cX1_part 11 = .ok (.iastore, 1) := by decide +kernel
theorem dX1_part_12 : decode cX1_part 12 = .ok (.aload_n 0, 1) := by decide +kernel
theorem dX1_part_13 : decode cX1_part 13 = .ok (.getfield 29, 3) := by decide +kernel
theorem dX1_part_16 : decode cX1_part 16 = .ok (.iload_n 2, 1) := by decide +kernel
theorem dX1_part_17 : decode cX1_part 17 = .ok (.dup2, 1) := by decide +kernel
theorem dX1_part_18 : decode cX1_part 18 = .ok (.iaload, 1) := by decide +kernel
theorem dX1_part_19 : decode cX1_part 19 = .ok (.iconst 1, 1) := by decide +kernel
theorem dX1_part_20 : decode cX1_part 20 = .ok (.iload_n 1, 1) := by decide +kernel
theorem dX1_part_21 : decode cX1_part 21 = .ok (.ishl, 1) := by decide +kernel
theorem dX1_part_22 : decode cX1_part 22 = .ok (.ior, 1) := by decide +kernel
theorem dX1_part_23 : decode cX1_part 23 = .ok (.iastore, 1) := by decide +kernel
theorem dX1_part_24 : decode cX1_part 24 = .ok (.return_, 1) := by decide +kernel
theorem dX1_unpart_0 : decode cX1_unpart 0 = .ok (.aload_n 0, 1) := by decide +kernel
theorem dX1_unpart_1 : decode cX1_unpart 1 = .ok (.getfield 29, 3) := by decide +kernel
theorem dX1_unpart_4 : decode cX1_unpart 4 = .ok (.iload_n 1, 1) := by decide +kernel
theorem dX1_unpart_5 : decode cX1_unpart 5 = .ok (.dup2, 1) := by decide +kernel
theorem dX1_unpart_6 : decode cX1_unpart 6 = .ok (.iaload, 1) := by decide +kernel
theorem dX1_unpart_7 : decode cX1_unpart 7 = .ok (.iconst 1, 1) := by decide +kernel
theorem dX1_unpart_8 : decode cX1_unpart 8 = .ok (.iload_n 2, 1) := by decide +kernel
theorem dX1_unpart_9 : decode cX1_unpart 9 = .ok (.ishl, 1) := by decide +kernel
theorem dX1_unpart_10 : decode cX1_unpart 10 = .ok (.iconst (-1), 1) := by decide +kernel
theorem dX1_unpart_11 : decode cX1_unpart 11 = .ok (.ixor, 1) := by decide +kernel
theorem dX1_unpart_12 : decode cX1_unpart 12 = .ok (.iand, 1) := by decide +kernel
theorem dX1_unpart_13 : decode cX1_unpart 13 = .ok (.iastore, 1) := by decide +kernel
theorem dX1_unpart_14 : decode cX1_unpart 14 = .ok (.aload_n 0, 1) := by decide +kernel
theorem dX1_unpart_15 : decode cX1_unpart 15 = .ok (.getfield 29, 3) := by decide +kernel
theorem dX1_unpart_18 : decode cX1_unpart 18 = .ok (.iload_n 2, 1) := by decide +kernel
theorem dX1_unpart_19 : decode cX1_unpart 19 = .ok (.dup2, 1) := by decide +kernel
theorem dX1_unpart_20 : decode cX1_unpart 20 = .ok (.iaload, 1) := by decide +kernel
theorem dX1_unpart_21 : decode cX1_unpart 21 = .ok (.iconst 1, 1) := by decide +kernel
theorem dX1_unpart_22 : decode cX1_unpart 22 = .ok (.iload_n 1, 1) := by decide +kernel
theorem dX1_unpart_23 : decode cX1_unpart 23 = .ok (.ishl, 1) := by decide +kernel
theorem dX1_unpart_24 : decode cX1_unpart 24 = .ok (.iconst (-1), 1) := by decide +kernel
theorem dX1_unpart_25 : decode cX1_unpart 25 = .ok (.ixor, 1) := by decide +kernel
theorem dX1_unpart_26 : decode cX1_unpart 26 = .ok (.iand, 1) := by decide +kernel
theorem dX1_unpart_27 : decode cX1_unpart 27 = .ok (.iastore, 1) := by decide +kernel
theorem dX1_unpart_28 : decode cX1_unpart 28 = .ok (.return_, 1) := by decide +kernel
theorem dX1_isForbidden_0 : decode cX1_isForbidden 0 = .ok (.iload_n 2, 1) := by decide +kernel
theorem dX1_isForbidden_1 : decode cX1_isForbidden 1 = .ok (.aload_n 0, 1) := by decide +kernel
theorem dX1_isForbidden_2 : decode cX1_isForbidden 2 = .ok (.getfield 29, 3) := by decide +kernel
theorem dX1_isForbidden_5 : decode cX1_isForbidden 5 = .ok (.iload_n 1, 1) := by decide +kernel
theorem dX1_isForbidden_6 : decode cX1_isForbidden 6 = .ok (.iaload, 1) := by decide +kernel
theorem dX1_isForbidden_7 : decode cX1_isForbidden 7 = .ok (.invokestatic 52, 3) := by decide +kernel
theorem dX1_isForbidden_10 : decode cX1_isForbidden 10 = .ok (.ireturn, 1) := by decide +kernel
theorem dX1_countPairs_0 : decode cX1_countPairs 0 = .ok (.iconst 0, 1) := by decide +kernel
theorem dX1_countPairs_1 : decode cX1_countPairs 1 = .ok (.istore_n 1, 1) := by decide +kernel
theorem dX1_countPairs_2 : decode cX1_countPairs 2 = .ok (.iconst 0, 1) := by decide +kernel
theorem dX1_countPairs_3 : decode cX1_countPairs 3 = .ok (.istore_n 2, 1) := by decide +kernel
theorem dX1_countPairs_4 : decode cX1_countPairs 4 = .ok (.iload_n 2, 1) := by decide +kernel
theorem dX1_countPairs_5 : decode cX1_countPairs 5 = .ok (.aload_n 0, 1) := by decide +kernel
theorem dX1_countPairs_6 : decode cX1_countPairs 6 = .ok (.getfield 36, 3) := by decide +kernel
theorem dX1_countPairs_9 : decode cX1_countPairs 9 = .ok (.if_icmp .ge 34, 3) := by decide +kernel
theorem dX1_countPairs_12 : decode cX1_countPairs 12 = .ok (.aload_n 0, 1) := by decide +kernel
theorem dX1_countPairs_13 : decode cX1_countPairs 13 = .ok (.iload_n 2, 1) := by decide +kernel
theorem dX1_countPairs_14 : decode cX1_countPairs 14 = .ok (.invokevirtual 56, 3) := by decide +kernel
theorem dX1_countPairs_17 : decode cX1_countPairs 17 = .ok (.ifCond .eq 20, 3) := by decide +kernel
theorem dX1_countPairs_20 : decode cX1_countPairs 20 = .ok (.iload_n 1, 1) := by decide +kernel
theorem dX1_countPairs_21 : decode cX1_countPairs 21 = .ok (.aload_n 0, 1) := by decide +kernel
theorem dX1_countPairs_22 : decode cX1_countPairs 22 = .ok (.getfield 29, 3) := by decide +kernel
theorem dX1_countPairs_25 : decode cX1_countPairs 25 = .ok (.iload_n 2, 1) := by decide +kernel
theorem dX1_countPairs_26 : decode cX1_countPairs 26 = .ok (.iaload, 1) := by decide +kernel
theorem dX1_countPairs_27 : decode cX1_countPairs 27 = .ok (.aload_n 0, 1) := by decide +kernel
theorem dX1_countPairs_28 : decode cX1_countPairs 28 = .ok (.getfield 43, 3) := by decide +kernel
theorem dX1_countPairs_31 : decode cX1_countPairs 31 = .ok (.iand, 1) := by decide +kernel
theorem dX1_countPairs_32 : decode cX1_countPairs 32 = .ok (.invokestatic 46, 3) := by decide +kernel
theorem dX1_countPairs_35 : decode cX1_countPairs 35 = .ok (.iadd, 1) := by decide +kernel
theorem dX1_countPairs_36 : decode cX1_countPairs 36 = .ok (.istore_n 1, 1) := by decide +kernel
theorem dX1_countPairs_37 : decode cX1_countPairs 37 = .ok (.iinc 2 1, 3) := by decide +kernel
theorem dX1_countPairs_40 : decode cX1_countPairs 40 = .ok (.goto (-36), 3) := by decide +kernel
theorem dX1_countPairs_43 : decode cX1_countPairs 43 = .ok (.iload_n 1, 1) := by decide +kernel
theorem dX1_countPairs_44 : decode cX1_countPairs 44 = .ok (.iconst 2, 1) := by decide +kernel
theorem dX1_countPairs_45 : decode cX1_countPairs 45 = .ok (.idiv, 1) := by decide +kernel
theorem dX1_countPairs_46 : decode cX1_countPairs 46 = .ok (.ireturn, 1) := by decide +kernel
theorem dX1_haveSameKey_0 : decode cX1_haveSameKey 0 = .ok (.aload_n 0, 1) := by decide +kernel
theorem dX1_haveSameKey_1 : decode cX1_haveSameKey 1 = .ok (.iload_n 1, 1) := by decide +kernel
theorem dX1_haveSameKey_2 : decode cX1_haveSameKey 2 = .ok (.invokevirtual 56, 3) := by decide +kernel
theorem dX1_haveSameKey_5 : decode cX1_haveSameKey 5 = .ok (.ifCond .eq 46, 3) := by decide +kernel
theorem dX1_haveSameKey_8 : decode cX1_haveSameKey 8 = .ok (.aload_n 0, 1) := by decide +kernel
theorem dX1_haveSameKey_9 : decode cX1_haveSameKey 9 = .ok (.iload_n 2, 1) := by decide +kernel
theorem dX1_haveSameKey_10 : decode cX1_haveSameKey 10 = .ok (.invokevirtual 56, 3) := by decide +kernel
theorem dX1_haveSameKey_13 : decode cX1_haveSameKey 13 = .ok (.ifCond .eq 38, 3) := by decide +kernel
theorem dX1_haveSameKey_16 : decode cX1_haveSameKey 16 = .ok (.aload_n 0, 1) := by decide +kernel
theorem dX1_haveSameKey_17 : decode cX1_haveSameKey 17 = .ok (.getfield 23, 3) := by decide +kernel
theorem dX1_haveSameKey_20 : decode cX1_haveSameKey 20 = .ok (.iload_n 3, 1) := by decide +kernel
theorem dX1_haveSameKey_21 : decode cX1_haveSameKey 21 = .ok (.aaload, 1) := by decide +kernel
theorem dX1_haveSameKey_22 : decode cX1_haveSameKey 22 = .ok (.iload_n 1, 1) := by decide +kernel
theorem dX1_haveSameKey_23 : decode cX1_haveSameKey 23 = .ok (.iaload, 1) := by decide +kernel
theorem dX1_haveSameKey_24 : decode cX1_haveSameKey 24 = .ok (.iconst (-1), 1) := by decide +kernel
theorem dX1_haveSameKey_25 : decode cX1_haveSameKey 25 = .ok (.if_icmp .eq 26, 3) := by decide +kernel
theorem dX1_haveSameKey_28 : decode cX1_haveSameKey 28 = .ok (.aload_n 0, 1) := by decide +kernel
theorem dX1_haveSameKey_29 : decode cX1_haveSameKey 29 = .ok (.getfield 23, 3) := by decide +kernel
theorem dX1_haveSameKey_32 : decode cX1_haveSameKey 32 = .ok (.iload_n 3, 1) := by decide +kernel
theorem dX1_haveSameKey_33 : decode cX1_haveSameKey 33 = .ok (.aaload, 1) := by decide +kernel
theorem dX1_haveSameKey_34 : decode cX1_haveSameKey 34 = .ok (.iload_n 1, 1) := by decide +kernel
theorem dX1_haveSameKey_35 : decode cX1_haveSameKey 35 = .ok (.iaload, 1) := by decide +kernel
theorem dX1_haveSameKey_36 : decode cX1_haveSameKey 36 = .ok (.aload_n 0, 1) := by decide +kernel
theorem dX1_haveSameKey_37 : decode cX1_haveSameKey 37 = .ok (.getfield 23, 3) := by decide +kernel
theorem dX1_haveSameKey_40 : decode cX1_haveSameKey 40 = .ok (.iload_n 3, 1) := by decide +kernel
theorem dX1_haveSameKey_41 : decode cX1_haveSameKey 41 = .ok (.aaload, 1) := by decide +kernel
theorem dX1_haveSameKey_42 : decode cX1_haveSameKey 42 = .ok (.iload_n 2, 1) := by decide +kernel
theorem dX1_haveSameKey_43 : decode cX1_haveSameKey 43 = .ok (.iaload, 1) := by decide +kernel
theorem dX1_haveSameKey_44 : decode cX1_haveSameKey 44 = .ok (.if_icmp .ne 7, 3) := by decide +kernel
theorem dX1_haveSameKey_47 : decode cX1_haveSameKey 47 = .ok (.iconst 1, 1) := by decide +kernel
theorem dX1_haveSameKey_48 : decode cX1_haveSameKey 48 = .ok (.goto 4, 3) := by decide +kernel
theorem dX1_haveSameKey_51 : decode cX1_haveSameKey 51 = .ok (.iconst 0, 1) := by decide +kernel
theorem dX1_haveSameKey_52 : decode cX1_haveSameKey 52 = .ok (.ireturn, 1) := by decide +kernel
theorem dX1_isFirstWithKey_0 : decode cX1_isFirstWithKey 0 = .ok (.iconst 0, 1) := by decide +kernel
theorem dX1_isFirstWithKey_1 : decode cX1_isFirstWithKey 1 = .ok (.istore_n 3, 1) := by decide +kernel
theorem dX1_isFirstWithKey_2 : decode cX1_isFirstWithKey 2 = .ok (.iload_n 3, 1) := by decide +kernel
theorem dX1_isFirstWithKey_3 : decode cX1_isFirstWithKey 3 = .ok (.iload_n 1, 1) := by decide +kernel
theorem dX1_isFirstWithKey_4 : decode cX1_isFirstWithKey 4 = .ok (.if_icmp .ge 21, 3) := by decide +kernel
theorem dX1_isFirstWithKey_7 : decode cX1_isFirstWithKey 7 = .ok (.aload_n 0, 1) := by decide +kernel
theorem dX1_isFirstWithKey_8 : decode cX1_isFirstWithKey 8 = .ok (.iload_n 1, 1) := by decide +kernel
theorem dX1_isFirstWithKey_9 : decode cX1_isFirstWithKey 9 = .ok (.iload_n 3, 1) := by decide +kernel
theorem dX1_isFirstWithKey_10 : decode cX1_isFirstWithKey 10 = .ok (.iload_n 2, 1) := by decide +kernel
theorem dX1_isFirstWithKey_11 : decode cX1_isFirstWithKey 11 = .ok (.invokevirtual 60, 3) := by decide +kernel
theorem dX1_isFirstWithKey_14 : decode cX1_isFirstWithKey 14 = .ok (.ifCond .eq 5, 3) := by decide +kernel
theorem dX1_isFirstWithKey_17 : decode cX1_isFirstWithKey 17 = .ok (.iconst 0, 1) := by decide +kernel
theorem dX1_isFirstWithKey_18 : decode cX1_isFirstWithKey 18 = .ok (.ireturn, 1) := by decide +kernel
theorem dX1_isFirstWithKey_19 : decode cX1_isFirstWithKey 19 = .ok (.iinc 3 1, 3) := by decide +kernel
theorem dX1_isFirstWithKey_22 : decode cX1_isFirstWithKey 22 = .ok (.goto (-20), 3) := by decide +kernel
theorem dX1_isFirstWithKey_25 : decode cX1_isFirstWithKey 25 = .ok (.iconst 1, 1) := by decide +kernel
theorem dX1_isFirstWithKey_26 : decode cX1_isFirstWithKey 26 = .ok (.ireturn, 1) := by decide +kernel
theorem dX1_mayJoin_0 : decode cX1_mayJoin 0 = .ok (.iconst 0, 1) := by decide +kernel
theorem dX1_mayJoin_1 : decode cX1_mayJoin 1 = .ok (.istore_n 3, 1) := by decide +kernel
theorem dX1_mayJoin_2 : decode cX1_mayJoin 2 = .ok (.iload_n 3, 1) := by decide +kernel
theorem dX1_mayJoin_3 : decode cX1_mayJoin 3 = .ok (.iload_n 2, 1) := by decide +kernel
theorem dX1_mayJoin_4 : decode cX1_mayJoin 4 = .ok (.if_icmp .ge 20, 3) := by decide +kernel
theorem dX1_mayJoin_7 : decode cX1_mayJoin 7 = .ok (.aload_n 0, 1) := by decide +kernel
theorem dX1_mayJoin_8 : decode cX1_mayJoin 8 = .ok (.iload_n 1, 1) := by decide +kernel
theorem dX1_mayJoin_9 : decode cX1_mayJoin 9 = .ok (.iload_n 3, 1) := by decide +kernel
theorem dX1_mayJoin_10 : decode cX1_mayJoin 10 = .ok (.invokevirtual 64, 3) := by decide +kernel
theorem dX1_mayJoin_13 : decode cX1_mayJoin 13 = .ok (.ifCond .eq 5, 3) := by decide +kernel
theorem dX1_mayJoin_16 : decode cX1_mayJoin 16 = .ok (.iconst 0, 1) := by decide +kernel
theorem dX1_mayJoin_17 : decode cX1_mayJoin 17 = .ok (.ireturn, 1) := by decide +kernel
theorem dX1_mayJoin_18 : decode cX1_mayJoin 18 = .ok (.iinc 3 1, 3) := by decide +kernel
theorem dX1_mayJoin_21 : decode cX1_mayJoin 21 = .ok (.goto (-19), 3) := by decide +kernel
theorem dX1_mayJoin_24 : decode cX1_mayJoin 24 = .ok (.aload_n 0, 1) := by decide +kernel
theorem dX1_mayJoin_25 : decode cX1_mayJoin 25 = .ok (.iload_n 1, 1) := by decide +kernel
theorem dX1_mayJoin_26 : decode cX1_mayJoin 26 = .ok (.invokevirtual 67, 3) := by decide +kernel
theorem dX1_mayJoin_29 : decode cX1_mayJoin 29 = .ok (.ifCond .ne 7, 3) := by decide +kernel
theorem dX1_mayJoin_32 : decode cX1_mayJoin 32 = .ok (.iconst 1, 1) := by decide +kernel
theorem dX1_mayJoin_33 : decode cX1_mayJoin 33 = .ok (.goto 4, 3) := by decide +kernel
theorem dX1_mayJoin_36 : decode cX1_mayJoin 36 = .ok (.iconst 0, 1) := by decide +kernel
theorem dX1_mayJoin_37 : decode cX1_mayJoin 37 = .ok (.ireturn, 1) := by decide +kernel
theorem dX1_haveTwoKeys_0 : decode cX1_haveTwoKeys 0 = .ok (.iconst (-1), 1) := by decide +kernel
theorem dX1_haveTwoKeys_1 : decode cX1_haveTwoKeys 1 = .ok (.istore_n 3, 1) := by decide +kernel
theorem dX1_haveTwoKeys_2 : decode cX1_haveTwoKeys 2 = .ok (.iconst 0, 1) := by decide +kernel
theorem dX1_haveTwoKeys_3 : decode cX1_haveTwoKeys 3 = .ok (.istore 4, 2) := by decide +kernel
theorem dX1_haveTwoKeys_5 : decode cX1_haveTwoKeys 5 = .ok (.iload 4, 2) := by decide +kernel
theorem dX1_haveTwoKeys_7 : decode cX1_haveTwoKeys 7 = .ok (.aload_n 0, 1) := by decide +kernel
theorem dX1_haveTwoKeys_8 : decode cX1_haveTwoKeys 8 = .ok (.getfield 36, 3) := by decide +kernel
theorem dX1_haveTwoKeys_11 : decode cX1_haveTwoKeys 11 = .ok (.if_icmp .ge 65, 3) := by decide +kernel
theorem dX1_haveTwoKeys_14 : decode cX1_haveTwoKeys 14 = .ok (.iload 4, 2) := by decide +kernel
theorem dX1_haveTwoKeys_16 : decode cX1_haveTwoKeys 16 = .ok (.iload_n 1, 1) := by decide +kernel
theorem dX1_haveTwoKeys_17 : decode cX1_haveTwoKeys 17 = .ok (.invokestatic 52, 3) := by decide +kernel
theorem dX1_haveTwoKeys_20 : decode cX1_haveTwoKeys 20 = .ok (.ifCond .eq 15, 3) := by decide +kernel
theorem dX1_haveTwoKeys_23 : decode cX1_haveTwoKeys 23 = .ok (.aload_n 0, 1) := by decide +kernel
theorem dX1_haveTwoKeys_24 : decode cX1_haveTwoKeys 24 = .ok (.getfield 23, 3) := by decide +kernel
theorem dX1_haveTwoKeys_27 : decode cX1_haveTwoKeys 27 = .ok (.iload_n 2, 1) := by decide +kernel
theorem dX1_haveTwoKeys_28 : decode cX1_haveTwoKeys 28 = .ok (.aaload, 1) := by decide +kernel
theorem dX1_haveTwoKeys_29 : decode cX1_haveTwoKeys 29 = .ok (.iload 4, 2) := by decide +kernel
theorem dX1_haveTwoKeys_31 : decode cX1_haveTwoKeys 31 = .ok (.iaload, 1) := by decide +kernel
theorem dX1_haveTwoKeys_32 : decode cX1_haveTwoKeys 32 = .ok (.goto 4, 3) := by decide +kernel
theorem dX1_haveTwoKeys_35 : decode cX1_haveTwoKeys 35 = .ok (.iconst (-1), 1) := by decide +kernel
theorem dX1_haveTwoKeys_36 : decode cX1_haveTwoKeys 36 = .ok (.istore 5, 2) := by decide +kernel
theorem dX1_haveTwoKeys_38 : decode cX1_haveTwoKeys 38 = .ok (.iload 5, 2) := by decide +kernel
theorem dX1_haveTwoKeys_40 : decode cX1_haveTwoKeys 40 = .ok (.iconst (-1), 1) := by decide +kernel
theorem dX1_haveTwoKeys_41 : decode cX1_haveTwoKeys 41 = .ok (.if_icmp .eq 16, 3) := by decide +kernel
theorem dX1_haveTwoKeys_44 : decode cX1_haveTwoKeys 44 = .ok (.iload_n 3, 1) := by decide +kernel
theorem dX1_haveTwoKeys_45 : decode cX1_haveTwoKeys 45 = .ok (.iconst (-1), 1) := by decide +kernel
theorem dX1_haveTwoKeys_46 : decode cX1_haveTwoKeys 46 = .ok (.if_icmp .eq 11, 3) := by decide +kernel
theorem dX1_haveTwoKeys_49 : decode cX1_haveTwoKeys 49 = .ok (.iload 5, 2) := by decide +kernel
theorem dX1_haveTwoKeys_51 : decode cX1_haveTwoKeys 51 = .ok (.iload_n 3, 1) := by decide +kernel
theorem dX1_haveTwoKeys_52 : decode cX1_haveTwoKeys 52 = .ok (.if_icmp .eq 5, 3) := by decide +kernel
theorem dX1_haveTwoKeys_55 : decode cX1_haveTwoKeys 55 = .ok (.iconst 1, 1) := by decide +kernel
theorem dX1_haveTwoKeys_56 : decode cX1_haveTwoKeys 56 = .ok (.ireturn, 1) := by decide +kernel
theorem dX1_haveTwoKeys_57 : decode cX1_haveTwoKeys 57 = .ok (.iload 5, 2) := by decide +kernel
theorem dX1_haveTwoKeys_59 : decode cX1_haveTwoKeys 59 = .ok (.iconst (-1), 1) := by decide +kernel
theorem dX1_haveTwoKeys_60 : decode cX1_haveTwoKeys 60 = .ok (.if_icmp .ne 7, 3) := by decide +kernel
theorem dX1_haveTwoKeys_63 : decode cX1_haveTwoKeys 63 = .ok (.iload_n 3, 1) := by decide +kernel
theorem dX1_haveTwoKeys_64 : decode cX1_haveTwoKeys 64 = .ok (.goto 5, 3) := by decide +kernel
theorem dX1_haveTwoKeys_67 : decode cX1_haveTwoKeys 67 = .ok (.iload 5, 2) := by decide +kernel
theorem dX1_haveTwoKeys_69 : decode cX1_haveTwoKeys 69 = .ok (.istore_n 3, 1) := by decide +kernel
theorem dX1_haveTwoKeys_70 : decode cX1_haveTwoKeys 70 = .ok (.iinc 4 1, 3) := by decide +kernel
theorem dX1_haveTwoKeys_73 : decode cX1_haveTwoKeys 73 = .ok (.goto (-68), 3) := by decide +kernel
theorem dX1_haveTwoKeys_76 : decode cX1_haveTwoKeys 76 = .ok (.iconst 0, 1) := by decide +kernel
theorem dX1_haveTwoKeys_77 : decode cX1_haveTwoKeys 77 = .ok (.ireturn, 1) := by decide +kernel
theorem dX1_haveForbiddenPair_0 : decode cX1_haveForbiddenPair 0 = .ok (.iconst 0, 1) := by decide +kernel
theorem dX1_haveForbiddenPair_1 : decode cX1_haveForbiddenPair 1 = .ok (.istore_n 2, 1) := by decide +kernel
theorem dX1_haveForbiddenPair_2 : decode cX1_haveForbiddenPair 2 = .ok (.iload_n 2, 1) := by decide +kernel
theorem dX1_haveForbiddenPair_3 : decode cX1_haveForbiddenPair 3 = .ok (.aload_n 0, 1) := by decide +kernel
theorem dX1_haveForbiddenPair_4 : decode cX1_haveForbiddenPair 4 = .ok (.getfield 36, 3) := by decide +kernel
theorem dX1_haveForbiddenPair_7 : decode cX1_haveForbiddenPair 7 = .ok (.if_icmp .ge 30, 3) := by decide +kernel
theorem dX1_haveForbiddenPair_10 : decode cX1_haveForbiddenPair 10 = .ok (.iload_n 2, 1) := by decide +kernel
theorem dX1_haveForbiddenPair_11 : decode cX1_haveForbiddenPair 11 = .ok (.iload_n 1, 1) := by decide +kernel
theorem dX1_haveForbiddenPair_12 : decode cX1_haveForbiddenPair 12 = .ok (.invokestatic 52, 3) := by decide +kernel
theorem dX1_haveForbiddenPair_15 : decode cX1_haveForbiddenPair 15 = .ok (.ifCond .eq 16, 3) := by decide +kernel
theorem dX1_haveForbiddenPair_18 : decode cX1_haveForbiddenPair 18 = .ok (.aload_n 0, 1) := by decide +kernel
theorem dX1_haveForbiddenPair_19 : decode cX1_haveForbiddenPair 19 = .ok (.getfield 29, 3) := by decide +kernel
theorem dX1_haveForbiddenPair_22 : decode cX1_haveForbiddenPair 22 = .ok (.iload_n 2, 1) := by decide +kernel
theorem dX1_haveForbiddenPair_23 : decode cX1_haveForbiddenPair 23 = .ok (.iaload, 1) := by decide +kernel
theorem dX1_haveForbiddenPair_24 : decode cX1_haveForbiddenPair 24 = .ok (.iload_n 1, 1) := by decide +kernel
theorem dX1_haveForbiddenPair_25 : decode cX1_haveForbiddenPair 25 = .ok (.iand, 1) := by decide +kernel
theorem dX1_haveForbiddenPair_26 : decode cX1_haveForbiddenPair 26 = .ok (.ifCond .eq 5, 3) := by decide +kernel
theorem dX1_haveForbiddenPair_29 : decode cX1_haveForbiddenPair 29 = .ok (.iconst 1, 1) := by decide +kernel
theorem dX1_haveForbiddenPair_30 : decode cX1_haveForbiddenPair 30 = .ok (.ireturn, 1) := by decide +kernel
theorem dX1_haveForbiddenPair_31 : decode cX1_haveForbiddenPair 31 = .ok (.iinc 2 1, 3) := by decide +kernel
theorem dX1_haveForbiddenPair_34 : decode cX1_haveForbiddenPair 34 = .ok (.goto (-32), 3) := by decide +kernel
theorem dX1_haveForbiddenPair_37 : decode cX1_haveForbiddenPair 37 = .ok (.iconst 0, 1) := by decide +kernel
theorem dX1_haveForbiddenPair_38 : decode cX1_haveForbiddenPair 38 = .ok (.ireturn, 1) := by decide +kernel
theorem dX1_weigh_0 : decode cX1_weigh 0 = .ok (.aload_n 0, 1) := by decide +kernel
theorem dX1_weigh_1 : decode cX1_weigh 1 = .ok (.getfield 9, 3) := by decide +kernel
theorem dX1_weigh_4 : decode cX1_weigh 4 = .ok (.aload_n 0, 1) := by decide +kernel
theorem dX1_weigh_5 : decode cX1_weigh 5 = .ok (.getfield 15, 3) := by decide +kernel
theorem dX1_weigh_8 : decode cX1_weigh 8 = .ok (.iload_n 1, 1) := by decide +kernel
theorem dX1_weigh_9 : decode cX1_weigh 9 = .ok (.iaload, 1) := by decide +kernel
theorem dX1_weigh_10 : decode cX1_weigh 10 = .ok (.iaload, 1) := by decide +kernel
theorem dX1_weigh_11 : decode cX1_weigh 11 = .ok (.iload_n 2, 1) := by decide +kernel
theorem dX1_weigh_12 : decode cX1_weigh 12 = .ok (.aload_n 0, 1) := by decide +kernel
theorem dX1_weigh_13 : decode cX1_weigh 13 = .ok (.getfield 18, 3) := by decide +kernel
theorem dX1_weigh_16 : decode cX1_weigh 16 = .ok (.iload_n 1, 1) := by decide +kernel
theorem dX1_weigh_17 : decode cX1_weigh 17 = .ok (.iaload, 1) := by decide +kernel
theorem dX1_weigh_18 : decode cX1_weigh 18 = .ok (.isub, 1) := by decide +kernel
theorem dX1_weigh_19 : decode cX1_weigh 19 = .ok (.bipush 10, 2) := by decide +kernel
theorem dX1_weigh_21 : decode cX1_weigh 21 = .ok (.idiv, 1) := by decide +kernel
theorem dX1_weigh_22 : decode cX1_weigh 22 = .ok (.isub, 1) := by decide +kernel
theorem dX1_weigh_23 : decode cX1_weigh 23 = .ok (.ireturn, 1) := by decide +kernel
theorem dX1_isAhead_0 : decode cX1_isAhead 0 = .ok (.aload_n 0, 1) := by decide +kernel
theorem dX1_isAhead_1 : decode cX1_isAhead 1 = .ok (.iload_n 1, 1) := by decide +kernel
theorem dX1_isAhead_2 : decode cX1_isAhead 2 = .ok (.iload_n 3, 1) := by decide +kernel
theorem dX1_isAhead_3 : decode cX1_isAhead 3 = .ok (.invokevirtual 70, 3) := by decide +kernel
theorem dX1_isAhead_6 : decode cX1_isAhead 6 = .ok (.istore 4, 2) := by decide +kernel
theorem dX1_isAhead_8 : decode cX1_isAhead 8 = .ok (.aload_n 0, 1) := by decide +kernel
theorem dX1_isAhead_9 : decode cX1_isAhead 9 = .ok (.iload_n 2, 1) := by decide +kernel
theorem dX1_isAhead_10 : decode cX1_isAhead 10 = .ok (.iload_n 3, 1) := by decide +kernel
theorem dX1_isAhead_11 : decode cX1_isAhead 11 = .ok (.invokevirtual 70, 3) := by decide +kernel
theorem dX1_isAhead_14 : decode cX1_isAhead 14 = .ok (.istore 5, 2) := by decide +kernel
theorem dX1_isAhead_16 : decode cX1_isAhead 16 = .ok (.iload 4, 2) := by decide +kernel
theorem dX1_isAhead_18 : decode cX1_isAhead 18 = .ok (.iload 5, 2) := by decide +kernel
theorem dX1_isAhead_20 : decode cX1_isAhead 20 = .ok (.if_icmp .eq 16, 3) := by decide +kernel
theorem dX1_isAhead_23 : decode cX1_isAhead 23 = .ok (.iload 4, 2) := by decide +kernel
theorem dX1_isAhead_25 : decode cX1_isAhead 25 = .ok (.iload 5, 2) := by decide +kernel
theorem dX1_isAhead_27 : decode cX1_isAhead 27 = .ok (.if_icmp .le 7, 3) := by decide +kernel
theorem dX1_isAhead_30 : decode cX1_isAhead 30 = .ok (.iconst 1, 1) := by decide +kernel
theorem dX1_isAhead_31 : decode cX1_isAhead 31 = .ok (.goto 4, 3) := by decide +kernel
theorem dX1_isAhead_34 : decode cX1_isAhead 34 = .ok (.iconst 0, 1) := by decide +kernel
theorem dX1_isAhead_35 : decode cX1_isAhead 35 = .ok (.ireturn, 1) := by decide +kernel
theorem dX1_isAhead_36 : decode cX1_isAhead 36 = .ok (.aload_n 0, 1) := by decide +kernel
theorem dX1_isAhead_37 : decode cX1_isAhead 37 = .ok (.getfield 18, 3) := by decide +kernel
theorem dX1_isAhead_40 : decode cX1_isAhead 40 = .ok (.iload_n 1, 1) := by decide +kernel
theorem dX1_isAhead_41 : decode cX1_isAhead 41 = .ok (.iaload, 1) := by decide +kernel
theorem dX1_isAhead_42 : decode cX1_isAhead 42 = .ok (.aload_n 0, 1) := by decide +kernel
theorem dX1_isAhead_43 : decode cX1_isAhead 43 = .ok (.getfield 18, 3) := by decide +kernel
theorem dX1_isAhead_46 : decode cX1_isAhead 46 = .ok (.iload_n 2, 1) := by decide +kernel
theorem dX1_isAhead_47 : decode cX1_isAhead 47 = .ok (.iaload, 1) := by decide +kernel
theorem dX1_isAhead_48 : decode cX1_isAhead 48 = .ok (.if_icmp .eq 24, 3) := by decide +kernel
theorem dX1_isAhead_51 : decode cX1_isAhead 51 = .ok (.aload_n 0, 1) := by decide +kernel
theorem dX1_isAhead_52 : decode cX1_isAhead 52 = .ok (.getfield 18, 3) := by decide +kernel
theorem dX1_isAhead_55 : decode cX1_isAhead 55 = .ok (.iload_n 1, 1) := by decide +kernel
theorem dX1_isAhead_56 : decode cX1_isAhead 56 = .ok (.iaload, 1) := by decide +kernel
theorem dX1_isAhead_57 : decode cX1_isAhead 57 = .ok (.aload_n 0, 1) := by decide +kernel
theorem dX1_isAhead_58 : decode cX1_isAhead 58 = .ok (.getfield 18, 3) := by decide +kernel
theorem dX1_isAhead_61 : decode cX1_isAhead 61 = .ok (.iload_n 2, 1) := by decide +kernel
theorem dX1_isAhead_62 : decode cX1_isAhead 62 = .ok (.iaload, 1) := by decide +kernel
theorem dX1_isAhead_63 : decode cX1_isAhead 63 = .ok (.if_icmp .le 7, 3) := by decide +kernel
theorem dX1_isAhead_66 : decode cX1_isAhead 66 = .ok (.iconst 1, 1) := by decide +kernel
theorem dX1_isAhead_67 : decode cX1_isAhead 67 = .ok (.goto 4, 3) := by decide +kernel
theorem dX1_isAhead_70 : decode cX1_isAhead 70 = .ok (.iconst 0, 1) := by decide +kernel
theorem dX1_isAhead_71 : decode cX1_isAhead 71 = .ok (.ireturn, 1) := by decide +kernel
theorem dX1_isAhead_72 : decode cX1_isAhead 72 = .ok (.iload_n 1, 1) := by decide +kernel
theorem dX1_isAhead_73 : decode cX1_isAhead 73 = .ok (.iload_n 2, 1) := by decide +kernel
theorem dX1_isAhead_74 : decode cX1_isAhead 74 = .ok (.if_icmp .le 7, 3) := by decide +kernel
theorem dX1_isAhead_77 : decode cX1_isAhead 77 = .ok (.iconst 1, 1) := by decide +kernel
theorem dX1_isAhead_78 : decode cX1_isAhead 78 = .ok (.goto 4, 3) := by decide +kernel
theorem dX1_isAhead_81 : decode cX1_isAhead 81 = .ok (.iconst 0, 1) := by decide +kernel
theorem dX1_isAhead_82 : decode cX1_isAhead 82 = .ok (.ireturn, 1) := by decide +kernel
theorem dX2_init_0 : decode cX2_init 0 = .ok (.aload_n 0, 1) := by decide +kernel
theorem dX2_init_1 : decode cX2_init 1 = .ok (.invokespecial 1, 3) := by decide +kernel
theorem dX2_init_4 : decode cX2_init 4 = .ok (.return_, 1) := by decide +kernel
theorem dX2_findClusters_0 : decode cX2_findClusters 0 = .ok (.iconst 0, 1) := by decide +kernel
theorem dX2_findClusters_1 : decode cX2_findClusters 1 = .ok (.istore_n 3, 1) := by decide +kernel
theorem dX2_findClusters_2 : decode cX2_findClusters 2 = .ok (.iload_n 3, 1) := by decide +kernel
theorem dX2_findClusters_3 : decode cX2_findClusters 3 = .ok (.aload_n 1, 1) := by decide +kernel
theorem dX2_findClusters_4 : decode cX2_findClusters 4 = .ok (.getfield 7, 3) := by decide +kernel
theorem dX2_findClusters_7 : decode cX2_findClusters 7 = .ok (.if_icmp .ge 72, 3) := by decide +kernel
theorem dX2_findClusters_10 : decode cX2_findClusters 10 = .ok (.iconst 0, 1) := by decide +kernel
theorem dX2_findClusters_11 : decode cX2_findClusters 11 = .ok (.istore 4, 2) := by decide +kernel
theorem dX2_findClusters_13 : decode cX2_findClusters 13 = .ok (.iload 4, 2) := by decide +kernel
theorem dX2_findClusters_15 : decode cX2_findClusters 15 = .ok (.iload_n 3, 1) := by decide +kernel
theorem dX2_findClusters_16 : decode cX2_findClusters 16 = .ok (.if_icmp .ge 57, 3) := by decide +kernel
theorem dX2_findClusters_19 : decode cX2_findClusters 19 = .ok (.aload_n 1, 1) := by decide +kernel
theorem dX2_findClusters_20 : decode cX2_findClusters 20 = .ok (.iload_n 3, 1) := by decide +kernel
theorem dX2_findClusters_21 : decode cX2_findClusters 21 = .ok (.iload 4, 2) := by decide +kernel
theorem dX2_findClusters_23 : decode cX2_findClusters 23 = .ok (.iload_n 2, 1) := by decide +kernel
theorem dX2_findClusters_24 : decode cX2_findClusters 24 = .ok (.invokevirtual 13, 3) := by decide +kernel
theorem dX2_findClusters_27 : decode cX2_findClusters 27 = .ok (.ifCond .eq 40, 3) := by decide +kernel
theorem dX2_findClusters_30 : decode cX2_findClusters 30 = .ok (.aload_n 0, 1) := by decide +kernel
theorem dX2_findClusters_31 : decode cX2_findClusters 31 = .ok (.getfield 17, 3) := by decide +kernel
theorem dX2_findClusters_34 : decode cX2_findClusters 34 = .ok (.iload_n 3, 1) := by decide +kernel
theorem dX2_findClusters_35 : decode cX2_findClusters 35 = .ok (.iaload, 1) := by decide +kernel
theorem dX2_findClusters_36 : decode cX2_findClusters 36 = .ok (.aload_n 0, 1) := by decide +kernel
theorem dX2_findClusters_37 : decode cX2_findClusters 37 = .ok (.getfield 17, 3) := by decide +kernel
theorem dX2_findClusters_40 : decode cX2_findClusters 40 = .ok (.iload 4, 2) := by decide +kernel
theorem dX2_findClusters_42 : decode cX2_findClusters 42 = .ok (.iaload, 1) := by decide +kernel
theorem dX2_findClusters_43 : decode cX2_findClusters 43 = .ok (.if_icmp .eq 24, 3) := by decide +kernel
theorem dX2_findClusters_46 : decode cX2_findClusters 46 = .ok (.aload_n 0, 1) := by decide +kernel
theorem dX2_findClusters_47 : decode cX2_findClusters 47 = .ok (.aload_n 0, 1) := by decide +kernel
theorem dX2_findClusters_48 : decode cX2_findClusters 48 = .ok (.getfield 17, 3) := by decide +kernel
theorem dX2_findClusters_51 : decode cX2_findClusters 51 = .ok (.iload_n 3, 1) := by decide +kernel
theorem dX2_findClusters_52 : decode cX2_findClusters 52 = .ok (.iaload, 1) := by decide +kernel
theorem dX2_findClusters_53 : decode cX2_findClusters 53 = .ok (.aload_n 0, 1) := by decide +kernel
theorem dX2_findClusters_54 : decode cX2_findClusters 54 = .ok (.getfield 17, 3) := by decide +kernel
theorem dX2_findClusters_57 : decode cX2_findClusters 57 = .ok (.iload 4, 2) := by decide +kernel
theorem dX2_findClusters_59 : decode cX2_findClusters 59 = .ok (.iaload, 1) := by decide +kernel
theorem dX2_findClusters_60 : decode cX2_findClusters 60 = .ok (.aload_n 1, 1) := by decide +kernel
theorem dX2_findClusters_61 : decode cX2_findClusters 61 = .ok (.getfield 7, 3) := by decide +kernel
theorem dX2_findClusters_64 : decode cX2_findClusters 64 = .ok (.invokevirtual 23, 3) := by decide +kernel
theorem dX2_findClusters_67 : decode cX2_findClusters 67 = .ok (.iinc 4 1, 3) := by decide +kernel
theorem dX2_findClusters_70 : decode cX2_findClusters 70 = .ok (.goto (-57), 3) := by decide +kernel
theorem dX2_findClusters_73 : decode cX2_findClusters 73 = .ok (.iinc 3 1, 3) := by decide +kernel
theorem dX2_findClusters_76 : decode cX2_findClusters 76 = .ok (.goto (-74), 3) := by decide +kernel
theorem dX2_findClusters_79 : decode cX2_findClusters 79 = .ok (.return_, 1) := by decide +kernel
theorem dX2_joinTwo_0 : decode cX2_joinTwo 0 = .ok (.iload_n 1, 1) := by decide +kernel
theorem dX2_joinTwo_1 : decode cX2_joinTwo 1 = .ok (.iload_n 2, 1) := by decide +kernel
theorem dX2_joinTwo_2 : decode cX2_joinTwo 2 = .ok (.invokestatic 27, 3) := by decide +kernel
theorem dX2_joinTwo_5 : decode cX2_joinTwo 5 = .ok (.istore 4, 2) := by decide +kernel
theorem dX2_joinTwo_7 : decode cX2_joinTwo 7 = .ok (.iload_n 1, 1) := by decide +kernel
theorem dX2_joinTwo_8 : decode cX2_joinTwo 8 = .ok (.iload_n 2, 1) := by decide +kernel
theorem dX2_joinTwo_9 : decode cX2_joinTwo 9 = .ok (.invokestatic 33, 3) := by decide +kernel
theorem dX2_joinTwo_12 : decode cX2_joinTwo 12 = .ok (.istore 5, 2) := by decide +kernel
theorem dX2_joinTwo_14 : decode cX2_joinTwo 14 = .ok (.iconst 0, 1) := by decide +kernel
theorem dX2_joinTwo_15 : decode cX2_joinTwo 15 = .ok (.istore 6, 2) := by decide +kernel
theorem dX2_joinTwo_17 : decode cX2_joinTwo 17 = .ok (.iload 6, 2) := by decide +kernel
theorem dX2_joinTwo_19 : decode cX2_joinTwo 19 = .ok (.iload_n 3, 1) := by decide +kernel
theorem dX2_joinTwo_20 : decode cX2_joinTwo 20 = .ok (.if_icmp .ge 30, 3) := by decide +kernel
theorem dX2_joinTwo_23 : decode cX2_joinTwo 23 = .ok (.aload_n 0, 1) := by decide +kernel
theorem dX2_joinTwo_24 : decode cX2_joinTwo 24 = .ok (.getfield 17, 3) := by decide +kernel
theorem dX2_joinTwo_27 : decode cX2_joinTwo 27 = .ok (.iload 6, 2) := by decide +kernel
theorem dX2_joinTwo_29 : decode cX2_joinTwo 29 = .ok (.iaload, 1) := by decide +kernel
theorem dX2_joinTwo_30 : decode cX2_joinTwo 30 = .ok (.iload 5, 2) := by decide +kernel
theorem dX2_joinTwo_32 : decode cX2_joinTwo 32 = .ok (.if_icmp .ne 12, 3) := by decide +kernel
theorem dX2_joinTwo_35 : decode cX2_joinTwo 35 = .ok (.aload_n 0, 1) := by decide +kernel
theorem dX2_joinTwo_36 : decode cX2_joinTwo 36 = .ok (.getfield 17, 3) := by decide +kernel
theorem dX2_joinTwo_39 : decode cX2_joinTwo 39 = .ok (.iload 6, 2) := by decide +kernel
theorem dX2_joinTwo_41 : decode cX2_joinTwo 41 = .ok (.iload 4, 2) := by decide +kernel
theorem dX2_joinTwo_43 : decode cX2_joinTwo 43 = .ok (.iastore, 1) := by decide +kernel
theorem dX2_joinTwo_44 : decode cX2_joinTwo 44 = .ok (.iinc 6 1, 3) := by decide +kernel
theorem dX2_joinTwo_47 : decode cX2_joinTwo 47 = .ok (.goto (-30), 3) := by decide +kernel
theorem dX2_joinTwo_50 : decode cX2_joinTwo 50 = .ok (.return_, 1) := by decide +kernel
theorem dX3_init_0 : decode cX3_init 0 = .ok (.aload_n 0, 1) := by decide +kernel
theorem dX3_init_1 : decode cX3_init 1 = .ok (.invokespecial 3, 3) := by decide +kernel
theorem dX3_init_4 : decode cX3_init 4 = .ok (.return_, 1) := by decide +kernel
theorem dX3_findClusters_0 : decode cX3_findClusters 0 = .ok (.iconst 1, 1) := by decide +kernel
theorem dX3_findClusters_1 : decode cX3_findClusters 1 = .ok (.istore_n 3, 1) := by decide +kernel
theorem dX3_findClusters_2 : decode cX3_findClusters 2 = .ok (.iconst 0, 1) := by decide +kernel
theorem dX3_findClusters_3 : decode cX3_findClusters 3 = .ok (.istore 4, 2) := by decide +kernel
theorem dX3_findClusters_5 : decode cX3_findClusters 5 = .ok (.iload_n 3, 1) := by decide +kernel
theorem dX3_findClusters_6 : decode cX3_findClusters 6 = .ok (.ifCond .eq 23, 3) := by decide +kernel
theorem dX3_findClusters_9 : decode cX3_findClusters 9 = .ok (.iload 4, 2) := by decide +kernel
theorem dX3_findClusters_11 : decode cX3_findClusters 11 = .ok (.bipush 24, 2) := by decide +kernel
theorem dX3_findClusters_13 : decode cX3_findClusters 13 = .ok (.if_icmp .ge 16, 3) := by decide +kernel
theorem dX3_findClusters_16 : decode cX3_findClusters 16 = .ok (.aload_n 0, 1) := by decide +kernel
theorem dX3_findClusters_17 : decode cX3_findClusters 17 = .ok (.aload_n 1, 1) := by decide +kernel
theorem dX3_findClusters_18 : decode cX3_findClusters 18 = .ok (.iload_n 2, 1) := by decide +kernel
theorem dX3_findClusters_19 : decode cX3_findClusters 19 = .ok (.invokevirtual 9, 3) := by decide +kernel
theorem dX3_findClusters_22 : decode cX3_findClusters 22 = .ok (.istore_n 3, 1) := by decide +kernel
theorem dX3_findClusters_23 : decode cX3_findClusters 23 = .ok (.iinc 4 1, 3) := by decide +kernel
theorem dX3_findClusters_26 : decode cX3_findClusters 26 = .ok (.goto (-21), 3) := by decide +kernel
theorem dX3_findClusters_29 : decode cX3_findClusters 29 = .ok (.return_, 1) := by decide +kernel
theorem dX3_spreadOnce_0 : decode cX3_spreadOnce 0 = .ok (.iconst 0, 1) := by decide +kernel
theorem dX3_spreadOnce_1 : decode cX3_spreadOnce 1 = .ok (.istore_n 3, 1) := by decide +kernel
theorem dX3_spreadOnce_2 : decode cX3_spreadOnce 2 = .ok (.iconst 0, 1) := by decide +kernel
theorem dX3_spreadOnce_3 : decode cX3_spreadOnce 3 = .ok (.istore 4, 2) := by decide +kernel
theorem dX3_spreadOnce_5 : decode cX3_spreadOnce 5 = .ok (.iload 4, 2) := by decide +kernel
theorem dX3_spreadOnce_7 : decode cX3_spreadOnce 7 = .ok (.aload_n 1, 1) := by decide +kernel
theorem dX3_spreadOnce_8 : decode cX3_spreadOnce 8 = .ok (.getfield 15, 3) := by decide +kernel
theorem dX3_spreadOnce_11 : decode cX3_spreadOnce 11 = .ok (.if_icmp .ge 73, 3) := by decide +kernel
theorem dX3_spreadOnce_14 : decode cX3_spreadOnce 14 = .ok (.iconst 0, 1) := by decide +kernel
theorem dX3_spreadOnce_15 : decode cX3_spreadOnce 15 = .ok (.istore 5, 2) := by decide +kernel
theorem dX3_spreadOnce_17 : decode cX3_spreadOnce 17 = .ok (.iload 5, 2) := by decide +kernel
theorem dX3_spreadOnce_19 : decode cX3_spreadOnce 19 = .ok (.aload_n 1, 1) := by decide +kernel
theorem dX3_spreadOnce_20 : decode cX3_spreadOnce 20 = .ok (.getfield 15, 3) := by decide +kernel
theorem dX3_spreadOnce_23 : decode cX3_spreadOnce 23 = .ok (.if_icmp .ge 55, 3) := by decide +kernel
theorem dX3_spreadOnce_26 : decode cX3_spreadOnce 26 = .ok (.aload_n 0, 1) := by decide +kernel
theorem dX3_spreadOnce_27 : decode cX3_spreadOnce 27 = .ok (.getfield 21, 3) := by decide +kernel
theorem dX3_spreadOnce_30 : decode cX3_spreadOnce 30 = .ok (.iload 5, 2) := by decide +kernel
theorem dX3_spreadOnce_32 : decode cX3_spreadOnce 32 = .ok (.iaload, 1) := by decide +kernel
theorem dX3_spreadOnce_33 : decode cX3_spreadOnce 33 = .ok (.aload_n 0, 1) := by decide +kernel
theorem dX3_spreadOnce_34 : decode cX3_spreadOnce 34 = .ok (.getfield 21, 3) := by decide +kernel
theorem dX3_spreadOnce_37 : decode cX3_spreadOnce 37 = .ok (.iload 4, 2) := by decide +kernel
theorem dX3_spreadOnce_39 : decode cX3_spreadOnce 39 = .ok (.iaload, 1) := by decide +kernel
theorem dX3_spreadOnce_40 : decode cX3_spreadOnce 40 = .ok (.if_icmp .ge 32, 3) := by decide +kernel
theorem dX3_spreadOnce_43 : decode cX3_spreadOnce 43 = .ok (.aload_n 0, 1) := by decide +kernel
theorem dX3_spreadOnce_44 : decode cX3_spreadOnce 44 = .ok (.iload 4, 2) := by decide +kernel
theorem dX3_spreadOnce_46 : decode cX3_spreadOnce 46 = .ok (.iload 5, 2) := by decide +kernel
theorem dX3_spreadOnce_48 : decode cX3_spreadOnce 48 = .ok (.aload_n 1, 1) := by decide +kernel
theorem dX3_spreadOnce_49 : decode cX3_spreadOnce 49 = .ok (.iload_n 2, 1) := by decide +kernel
theorem dX3_spreadOnce_50 : decode cX3_spreadOnce 50 = .ok (.invokevirtual 25, 3) := by decide +kernel
theorem dX3_spreadOnce_53 : decode cX3_spreadOnce 53 = .ok (.ifCond .eq 19, 3) := by decide +kernel
theorem dX3_spreadOnce_56 : decode cX3_spreadOnce 56 = .ok (.aload_n 0, 1) := by decide +kernel
theorem dX3_spreadOnce_57 : decode cX3_spreadOnce 57 = .ok (.getfield 21, 3) := by decide +kernel
theorem dX3_spreadOnce_60 : decode cX3_spreadOnce 60 = .ok (.iload 4, 2) := by decide +kernel
theorem dX3_spreadOnce_62 : decode cX3_spreadOnce 62 = .ok (.aload_n 0, 1) := by decide +kernel
theorem dX3_spreadOnce_63 : decode cX3_spreadOnce 63 = .ok (.getfield 21, 3) := by decide +kernel
theorem dX3_spreadOnce_66 : decode cX3_spreadOnce 66 = .ok (.iload 5, 2) := by decide +kernel
theorem dX3_spreadOnce_68 : decode cX3_spreadOnce 68 = .ok (.iaload, 1) := by decide +kernel
theorem dX3_spreadOnce_69 : decode cX3_spreadOnce 69 = .ok (.iastore, 1) := by decide +kernel
theorem dX3_spreadOnce_70 : decode cX3_spreadOnce 70 = .ok (.iconst 1, 1) := by decide +kernel
theorem dX3_spreadOnce_71 : decode cX3_spreadOnce 71 = .ok (.istore_n 3, 1) := by decide +kernel
theorem dX3_spreadOnce_72 : decode cX3_spreadOnce 72 = .ok (.iinc 5 1, 3) := by decide +kernel
theorem dX3_spreadOnce_75 : decode cX3_spreadOnce 75 = .ok (.goto (-58), 3) := by decide +kernel
theorem dX3_spreadOnce_78 : decode cX3_spreadOnce 78 = .ok (.iinc 4 1, 3) := by decide +kernel
theorem dX3_spreadOnce_81 : decode cX3_spreadOnce 81 = .ok (.goto (-76), 3) := by decide +kernel
theorem dX3_spreadOnce_84 : decode cX3_spreadOnce 84 = .ok (.iload_n 3, 1) := by decide +kernel
theorem dX3_spreadOnce_85 : decode cX3_spreadOnce 85 = .ok (.ireturn, 1) := by decide +kernel
theorem dX3_areLinked_0 : decode cX3_areLinked 0 = .ok (.aload_n 0, 1) := by decide +kernel
theorem dX3_areLinked_1 : decode cX3_areLinked 1 = .ok (.iload_n 1, 1) := by decide +kernel
theorem dX3_areLinked_2 : decode cX3_areLinked 2 = .ok (.iload 4, 2) := by decide +kernel
theorem dX3_areLinked_4 : decode cX3_areLinked 4 = .ok (.invokevirtual 29, 3) := by decide +kernel
theorem dX3_areLinked_7 : decode cX3_areLinked 7 = .ok (.aload_n 0, 1) := by decide +kernel
theorem dX3_areLinked_8 : decode cX3_areLinked 8 = .ok (.iload_n 2, 1) := by decide +kernel
theorem dX3_areLinked_9 : decode cX3_areLinked 9 = .ok (.iload 4, 2) := by decide +kernel
theorem dX3_areLinked_11 : decode cX3_areLinked 11 = .ok (.invokevirtual 29, 3) := by decide +kernel
theorem dX3_areLinked_14 : decode cX3_areLinked 14 = .ok (.if_icmp .eq 14, 3) := by decide +kernel
theorem dX3_areLinked_17 : decode cX3_areLinked 17 = .ok (.aload_n 3, 1) := by decide +kernel
theorem dX3_areLinked_18 : decode cX3_areLinked 18 = .ok (.iload_n 1, 1) := by decide +kernel
theorem dX3_areLinked_19 : decode cX3_areLinked 19 = .ok (.iload_n 2, 1) := by decide +kernel
theorem dX3_areLinked_20 : decode cX3_areLinked 20 = .ok (.iload 4, 2) := by decide +kernel
theorem dX3_areLinked_22 : decode cX3_areLinked 22 = .ok (.invokevirtual 33, 3) := by decide +kernel
theorem dX3_areLinked_25 : decode cX3_areLinked 25 = .ok (.ifCond .eq 7, 3) := by decide +kernel
theorem dX3_areLinked_28 : decode cX3_areLinked 28 = .ok (.iconst 1, 1) := by decide +kernel
theorem dX3_areLinked_29 : decode cX3_areLinked 29 = .ok (.goto 4, 3) := by decide +kernel
theorem dX3_areLinked_32 : decode cX3_areLinked 32 = .ok (.iconst 0, 1) := by decide +kernel
theorem dX3_areLinked_33 : decode cX3_areLinked 33 = .ok (.ireturn, 1) := by decide +kernel
theorem dX4_init_0 : decode cX4_init 0 = .ok (.aload_n 0, 1) := by decide +kernel
theorem dX4_init_1 : decode cX4_init 1 = .ok (.invokespecial 3, 3) := by decide +kernel
theorem dX4_init_4 : decode cX4_init 4 = .ok (.aload_n 0, 1) := by decide +kernel
theorem dX4_init_5 : decode cX4_init 5 = .ok (.new 9, 3) := by decide +kernel
theorem dX4_init_8 : decode cX4_init 8 = .ok (.dup, 1) := by decide +kernel
theorem dX4_init_9 : decode cX4_init 9 = .ok (.invokespecial 11, 3) := by decide +kernel
theorem dX4_init_12 : decode cX4_init 12 = .ok (.putfield 12, 3) := by decide +kernel
theorem dX4_init_15 : decode cX4_init 15 = .ok (.aload_n 0, 1) := by decide +kernel
theorem dX4_init_16 : decode cX4_init 16 = .ok (.new 16, 3) := by decide +kernel
theorem dX4_init_19 : decode cX4_init 19 = .ok (.dup, 1) := by decide +kernel
theorem dX4_init_20 : decode cX4_init 20 = .ok (.invokespecial 18, 3) := by decide +kernel
theorem dX4_init_23 : decode cX4_init 23 = .ok (.putfield 19, 3) := by decide +kernel
theorem dX4_init_26 : decode cX4_init 26 = .ok (.aload_n 0, 1) := by decide +kernel
theorem dX4_init_27 : decode cX4_init 27 = .ok (.new 23, 3) := by decide +kernel
theorem dX4_init_30 : decode cX4_init 30 = .ok (.dup, 1) := by decide +kernel
theorem dX4_init_31 : decode cX4_init 31 = .ok (.invokespecial 25, 3) := by decide +kernel
theorem dX4_init_34 : decode cX4_init 34 = .ok (.putfield 26, 3) := by decide +kernel
theorem dX4_init_37 : decode cX4_init 37 = .ok (.aload_n 0, 1) := by decide +kernel
theorem dX4_init_38 : decode cX4_init 38 = .ok (.bipush 24, 2) := by decide +kernel
theorem dX4_init_40 : decode cX4_init 40 = .ok (.newarray .int, 2) := by decide +kernel
theorem dX4_init_42 : decode cX4_init 42 = .ok (.putfield 30, 3) := by decide +kernel
theorem dX4_init_45 : decode cX4_init 45 = .ok (.aload_n 0, 1) := by decide +kernel
theorem dX4_init_46 : decode cX4_init 46 = .ok (.bipush 30, 2) := by decide +kernel
theorem dX4_init_48 : decode cX4_init 48 = .ok (.putfield 34, 3) := by decide +kernel
theorem dX4_init_51 : decode cX4_init 51 = .ok (.return_, 1) := by decide +kernel
theorem dX4_addSource_0 : decode cX4_addSource 0 = .ok (.iload_n 1, 1) := by decide +kernel
theorem dX4_addSource_1 : decode cX4_addSource 1 = .ok (.iconst 1, 1) := by decide +kernel
theorem dX4_addSource_2 : decode cX4_addSource 2 = .ok (.bipush 9, 2) := by decide +kernel
theorem dX4_addSource_4 : decode cX4_addSource 4 = .ok (.invokestatic 38, 3) := by decide +kernel
theorem dX4_addSource_7 : decode cX4_addSource 7 = .ok (.aload_n 0, 1) := by decide +kernel
theorem dX4_addSource_8 : decode cX4_addSource 8 = .ok (.getfield 12, 3) := by decide +kernel
theorem dX4_addSource_11 : decode cX4_addSource 11 = .ok (.getfield 42, 3) := by decide +kernel
theorem dX4_addSource_14 : decode cX4_addSource 14 = .ok (.iconst 4, 1) := by decide +kernel
theorem dX4_addSource_15 : decode cX4_addSource 15 = .ok (.if_icmp .lt 13, 3) := by decide +kernel
theorem dX4_addSource_18 : decode cX4_addSource 18 = .ok (.new 45, 3) := by decide +kernel
theorem dX4_addSource_21 : decode cX4_addSource 21 = .ok (.dup, 1) := by decide +kernel
theorem dX4_addSource_22 : decode cX4_addSource 22 = .ok (.ldc 47, 2) := by decide +kernel
theorem dX4_addSource_24 : decode cX4_addSource 24 = .ok (.invokespecial 49, 3) := by decide +kernel
theorem dX4_addSource_27 : decode cX4_addSource 27 = .ok (.athrow, 1) := by decide +kernel
theorem dX4_addSource_28 : decode cX4_addSource 28 = .ok (.aload_n 0, 1) := by decide +kernel
theorem dX4_addSource_29 : decode cX4_addSource 29 = .ok (.getfield 12, 3) := by decide +kernel
theorem dX4_addSource_32 : decode cX4_addSource 32 = .ok (.iload_n 1, 1) := by decide +kernel
theorem dX4_addSource_33 : decode cX4_addSource 33 = .ok (.invokevirtual 52, 3) := by decide +kernel
theorem dX4_addSource_36 : decode cX4_addSource 36 = .ok (.ireturn, 1) := by decide +kernel
theorem dX4_setTrust_0 : decode cX4_setTrust 0 = .ok (.aload_n 0, 1) := by decide +kernel
theorem dX4_setTrust_1 : decode cX4_setTrust 1 = .ok (.iload_n 1, 1) := by decide +kernel
theorem dX4_setTrust_2 : decode cX4_setTrust 2 = .ok (.invokevirtual 56, 3) := by decide +kernel
theorem dX4_setTrust_5 : decode cX4_setTrust 5 = .ok (.iload_n 2, 1) := by decide +kernel
theorem dX4_setTrust_6 : decode cX4_setTrust 6 = .ok (.iconst 1, 1) := by decide +kernel
theorem dX4_setTrust_7 : decode cX4_setTrust 7 = .ok (.bipush 9, 2) := by decide +kernel
theorem dX4_setTrust_9 : decode cX4_setTrust 9 = .ok (.invokestatic 38, 3) := by decide +kernel
theorem dX4_setTrust_12 : decode cX4_setTrust 12 = .ok (.aload_n 0, 1) := by decide +kernel
theorem dX4_setTrust_13 : decode cX4_setTrust 13 = .ok (.getfield 12, 3) := by decide +kernel
theorem dX4_setTrust_16 : decode cX4_setTrust 16 = .ok (.getfield 60, 3) := by decide +kernel
theorem dX4_setTrust_19 : decode cX4_setTrust 19 = .ok (.iload_n 1, 1) := by decide +kernel
theorem dX4_setTrust_20 : decode cX4_setTrust 20 = .ok (.iaload, 1) := by decide +kernel
theorem dX4_setTrust_21 : decode cX4_setTrust 21 = .ok (.istore_n 3, 1) := by decide +kernel
theorem dX4_setTrust_22 : decode cX4_setTrust 22 = .ok (.aload_n 0, 1) := by decide +kernel
theorem dX4_setTrust_23 : decode cX4_setTrust 23 = .ok (.getfield 12, 3) := by decide +kernel
theorem dX4_setTrust_26 : decode cX4_setTrust 26 = .ok (.getfield 60, 3) := by decide +kernel
theorem dX4_setTrust_29 : decode cX4_setTrust 29 = .ok (.iload_n 1, 1) := by decide +kernel
theorem dX4_setTrust_30 : decode cX4_setTrust 30 = .ok (.iload_n 2, 1) := by decide +kernel
theorem dX4_setTrust_31 : decode cX4_setTrust 31 = .ok (.iastore, 1) := by decide +kernel
theorem dX4_setTrust_32 : decode cX4_setTrust 32 = .ok (.iload_n 3, 1) := by decide +kernel
theorem dX4_setTrust_33 : decode cX4_setTrust 33 = .ok (.ireturn, 1) := by decide +kernel
theorem dX4_addRecord_0 : decode cX4_addRecord 0 = .ok (.aload_n 0, 1) := by decide +kernel
theorem dX4_addRecord_1 : decode cX4_addRecord 1 = .ok (.iload_n 1, 1) := by decide +kernel
theorem dX4_addRecord_2 : decode cX4_addRecord 2 = .ok (.invokevirtual 56, 3) := by decide +kernel
theorem dX4_addRecord_5 : decode cX4_addRecord 5 = .ok (.iload_n 2, 1) := by decide +kernel
theorem dX4_addRecord_6 : decode cX4_addRecord 6 = .ok (.iconst (-1), 1) := by decide +kernel
theorem dX4_addRecord_7 : decode cX4_addRecord 7 = .ok (.bipush 99, 2) := by decide +kernel
theorem dX4_addRecord_9 : decode cX4_addRecord 9 = .ok (.invokestatic 38, 3) := by decide +kernel
theorem dX4_addRecord_12 : decode cX4_addRecord 12 = .ok (.iload_n 3, 1) := by decide +kernel
theorem dX4_addRecord_13 : decode cX4_addRecord 13 = .ok (.iconst (-1), 1) := by decide +kernel
theorem dX4_addRecord_14 : decode cX4_addRecord 14 = .ok (.bipush 99, 2) := by decide +kernel
theorem dX4_addRecord_16 : decode cX4_addRecord 16 = .ok (.invokestatic 38, 3) := by decide +kernel
theorem dX4_addRecord_19 : decode cX4_addRecord 19 = .ok (.iload 4, 2) := by decide +kernel
theorem dX4_addRecord_21 : decode cX4_addRecord 21 = .ok (.iconst (-1), 1) := by decide +kernel
theorem dX4_addRecord_22 : decode cX4_addRecord 22 = .ok (.bipush 99, 2) := by decide +kernel
theorem dX4_addRecord_24 : decode cX4_addRecord 24 = .ok (.invokestatic 38, 3) := by decide +kernel
theorem dX4_addRecord_27 : decode cX4_addRecord 27 = .ok (.aload_n 0, 1) := by decide +kernel
theorem dX4_addRecord_28 : decode cX4_addRecord 28 = .ok (.getfield 12, 3) := by decide +kernel
theorem dX4_addRecord_31 : decode cX4_addRecord 31 = .ok (.getfield 63, 3) := by decide +kernel
theorem dX4_addRecord_34 : decode cX4_addRecord 34 = .ok (.bipush 24, 2) := by decide +kernel
theorem dX4_addRecord_36 : decode cX4_addRecord 36 = .ok (.if_icmp .lt 13, 3) := by decide +kernel
theorem dX4_addRecord_39 : decode cX4_addRecord 39 = .ok (.new 45, 3) := by decide +kernel
theorem dX4_addRecord_42 : decode cX4_addRecord 42 = .ok (.dup, 1) := by decide +kernel
theorem dX4_addRecord_43 : decode cX4_addRecord 43 = .ok (.ldc 66, 2) := by decide +kernel
theorem dX4_addRecord_45 : decode cX4_addRecord 45 = .ok (.invokespecial 49, 3) := by decide +kernel
theorem dX4_addRecord_48 : decode cX4_addRecord 48 = .ok (.athrow, 1) := by decide +kernel
theorem dX4_addRecord_49 : decode cX4_addRecord 49 = .ok (.aload_n 0, 1) := by decide +kernel
theorem dX4_addRecord_50 : decode cX4_addRecord 50 = .ok (.getfield 12, 3) := by decide +kernel
theorem dX4_addRecord_53 : decode cX4_addRecord 53 = .ok (.iload_n 1, 1) := by decide +kernel
theorem dX4_addRecord_54 : decode cX4_addRecord 54 = .ok (.aload_n 0, 1) := by decide +kernel
theorem dX4_addRecord_55 : decode cX4_addRecord 55 = .ok (.getfield 68, 3) := by decide +kernel
theorem dX4_addRecord_58 : decode cX4_addRecord 58 = .ok (.invokevirtual 71, 3) := by decide +kernel
theorem dX4_addRecord_61 : decode cX4_addRecord 61 = .ok (.istore 5, 2) := by decide +kernel
theorem dX4_addRecord_63 : decode cX4_addRecord 63 = .ok (.aload_n 0, 1) := by decide +kernel
theorem dX4_addRecord_64 : decode cX4_addRecord 64 = .ok (.getfield 12, 3) := by decide +kernel
theorem dX4_addRecord_67 : decode cX4_addRecord 67 = .ok (.getfield 75, 3) := by decide +kernel
theorem dX4_addRecord_70 : decode cX4_addRecord 70 = .ok (.iconst 0, 1) := by decide +kernel
theorem dX4_addRecord_71 : decode cX4_addRecord 71 = .ok (.aaload, 1) := by decide +kernel
theorem dX4_addRecord_72 : decode cX4_addRecord 72 = .ok (.iload 5, 2) := by decide +kernel
theorem dX4_addRecord_74 : decode cX4_addRecord 74 = .ok (.iload_n 2, 1) := by decide +kernel
theorem dX4_addRecord_75 : decode cX4_addRecord 75 = .ok (.iastore, 1) := by decide +kernel
theorem dX4_addRecord_76 : decode cX4_addRecord 76 = .ok (.aload_n 0, 1) := by decide +kernel
theorem dX4_addRecord_77 : decode cX4_addRecord 77 = .ok (.getfield 12, 3) := by decide +kernel
theorem dX4_addRecord_80 : decode cX4_addRecord 80 = .ok (.getfield 75, 3) := by decide +kernel
theorem dX4_addRecord_83 : decode cX4_addRecord 83 = .ok (.iconst 1, 1) := by decide +kernel
theorem dX4_addRecord_84 : decode cX4_addRecord 84 = .ok (.aaload, 1) := by decide +kernel
theorem dX4_addRecord_85 : decode cX4_addRecord 85 = .ok (.iload 5, 2) := by decide +kernel
theorem dX4_addRecord_87 : decode cX4_addRecord 87 = .ok (.iload_n 3, 1) := by decide +kernel
theorem dX4_addRecord_88 : decode cX4_addRecord 88 = .ok (.iastore, 1) := by decide +kernel
theorem dX4_addRecord_89 : decode cX4_addRecord 89 = .ok (.aload_n 0, 1) := by decide +kernel
theorem dX4_addRecord_90 : decode cX4_addRecord 90 = .ok (.getfield 12, 3) := by decide +kernel
theorem dX4_addRecord_93 : decode cX4_addRecord 93 = .ok (.getfield 75, 3) := by decide +kernel
theorem dX4_addRecord_96 : decode cX4_addRecord 96 = .ok (.iconst 2, 1) := by decide +kernel
theorem dX4_addRecord_97 : decode cX4_addRecord 97 = .ok (.aaload, 1) := by decide +kernel
theorem dX4_addRecord_98 : decode cX4_addRecord 98 = .ok (.iload 5, 2) := by decide +kernel
theorem dX4_addRecord_100 : decode cX4_addRecord 100 = .ok (.iload 4, 2) := by decide +kernel
theorem dX4_addRecord_102 : decode cX4_addRecord 102 = .ok (.iastore, 1) := by decide +kernel
theorem dX4_addRecord_103 : decode cX4_addRecord 103 = .ok (.iload 5, 2) := by decide +kernel
theorem dX4_addRecord_105 : decode cX4_addRecord 105 = .ok (.ireturn, 1) := by decide +kernel
theorem dX4_setKey_0 : decode cX4_setKey 0 = .ok (.aload_n 0, 1) := by decide +kernel
theorem dX4_setKey_1 : decode cX4_setKey 1 = .ok (.iload_n 1, 1) := by decide +kernel
theorem dX4_setKey_2 : decode cX4_setKey 2 = .ok (.invokevirtual 79, 3) := by decide +kernel
theorem dX4_setKey_5 : decode cX4_setKey 5 = .ok (.iload_n 2, 1) := by decide +kernel
theorem dX4_setKey_6 : decode cX4_setKey 6 = .ok (.invokestatic 82, 3) := by decide +kernel
theorem dX4_setKey_9 : decode cX4_setKey 9 = .ok (.iload_n 3, 1) := by decide +kernel
theorem dX4_setKey_10 : decode cX4_setKey 10 = .ok (.iconst (-1), 1) := by decide +kernel
theorem dX4_setKey_11 : decode cX4_setKey 11 = .ok (.bipush 99, 2) := by decide +kernel
theorem dX4_setKey_13 : decode cX4_setKey 13 = .ok (.invokestatic 38, 3) := by decide +kernel
theorem dX4_setKey_16 : decode cX4_setKey 16 = .ok (.aload_n 0, 1) := by decide +kernel
theorem dX4_setKey_17 : decode cX4_setKey 17 = .ok (.getfield 12, 3) := by decide +kernel
theorem dX4_setKey_20 : decode cX4_setKey 20 = .ok (.getfield 75, 3) := by decide +kernel
theorem dX4_setKey_23 : decode cX4_setKey 23 = .ok (.iload_n 2, 1) := by decide +kernel
theorem dX4_setKey_24 : decode cX4_setKey 24 = .ok (.aaload, 1) := by decide +kernel
theorem dX4_setKey_25 : decode cX4_setKey 25 = .ok (.iload_n 1, 1) := by decide +kernel
theorem dX4_setKey_26 : decode cX4_setKey 26 = .ok (.iaload, 1) := by decide +kernel
theorem dX4_setKey_27 : decode cX4_setKey 27 = .ok (.istore 4, 2) := by decide +kernel
theorem dX4_setKey_29 : decode cX4_setKey 29 = .ok (.aload_n 0, 1) := by decide +kernel
theorem dX4_setKey_30 : decode cX4_setKey 30 = .ok (.getfield 12, 3) := by decide +kernel
theorem dX4_setKey_33 : decode cX4_setKey 33 = .ok (.getfield 75, 3) := by decide +kernel
theorem dX4_setKey_36 : decode cX4_setKey 36 = .ok (.iload_n 2, 1) := by decide +kernel
theorem dX4_setKey_37 : decode cX4_setKey 37 = .ok (.aaload, 1) := by decide +kernel
theorem dX4_setKey_38 : decode cX4_setKey 38 = .ok (.iload_n 1, 1) := by decide +kernel
theorem dX4_setKey_39 : decode cX4_setKey 39 = .ok (.iload_n 3, 1) := by decide +kernel
theorem dX4_setKey_40 : decode cX4_setKey 40 = .ok (.iastore, 1) := by decide +kernel
theorem dX4_setKey_41 : decode cX4_setKey 41 = .ok (.iload 4, 2) := by decide +kernel
theorem dX4_setKey_43 : decode cX4_setKey 43 = .ok (.ireturn, 1) := by decide +kernel
theorem dX4_setFact_0 : decode cX4_setFact 0 = .ok (.aload_n 0, 1) := by decide +kernel
theorem dX4_setFact_1 : decode cX4_setFact 1 = .ok (.iload_n 1, 1) := by decide +kernel
theorem dX4_setFact_2 : decode cX4_setFact 2 = .ok (.invokevirtual 79, 3) := by decide +kernel
theorem dX4_setFact_5 : decode cX4_setFact 5 = .ok (.iload_n 2, 1) := by decide +kernel
theorem dX4_setFact_6 : decode cX4_setFact 6 = .ok (.invokestatic 85, 3) := by decide +kernel
theorem dX4_setFact_9 : decode cX4_setFact 9 = .ok (.iload_n 3, 1) := by decide +kernel
theorem dX4_setFact_10 : decode cX4_setFact 10 = .ok (.iconst (-1), 1) := by decide +kernel
theorem dX4_setFact_11 : decode cX4_setFact 11 = .ok (.sipush 999, 3) := by decide +kernel
theorem dX4_setFact_14 : decode cX4_setFact 14 = .ok (.invokestatic 38, 3) := by decide +kernel
theorem dX4_setFact_17 : decode cX4_setFact 17 = .ok (.aload_n 0, 1) := by decide +kernel
theorem dX4_setFact_18 : decode cX4_setFact 18 = .ok (.getfield 12, 3) := by decide +kernel
theorem dX4_setFact_21 : decode cX4_setFact 21 = .ok (.getfield 88, 3) := by decide +kernel
theorem dX4_setFact_24 : decode cX4_setFact 24 = .ok (.iload_n 2, 1) := by decide +kernel
theorem dX4_setFact_25 : decode cX4_setFact 25 = .ok (.aaload, 1) := by decide +kernel
theorem dX4_setFact_26 : decode cX4_setFact 26 = .ok (.iload_n 1, 1) := by decide +kernel
theorem dX4_setFact_27 : decode cX4_setFact 27 = .ok (.iaload, 1) := by decide +kernel
theorem dX4_setFact_28 : decode cX4_setFact 28 = .ok (.istore 4, 2) := by decide +kernel
theorem dX4_setFact_30 : decode cX4_setFact 30 = .ok (.aload_n 0, 1) := by decide +kernel
theorem dX4_setFact_31 : decode cX4_setFact 31 = .ok (.getfield 12, 3) := by decide +kernel
theorem dX4_setFact_34 : decode cX4_setFact 34 = .ok (.getfield 88, 3) := by decide +kernel
theorem dX4_setFact_37 : decode cX4_setFact 37 = .ok (.iload_n 2, 1) := by decide +kernel
theorem dX4_setFact_38 : decode cX4_setFact 38 = .ok (.aaload, 1) := by decide +kernel
theorem dX4_setFact_39 : decode cX4_setFact 39 = .ok (.iload_n 1, 1) := by decide +kernel
theorem dX4_setFact_40 : decode cX4_setFact 40 = .ok (.iload_n 3, 1) := by decide +kernel
theorem dX4_setFact_41 : decode cX4_setFact 41 = .ok (.iastore, 1) := by decide +kernel
theorem dX4_setFact_42 : decode cX4_setFact 42 = .ok (.iload 4, 2) := by decide +kernel
theorem dX4_setFact_44 : decode cX4_setFact 44 = .ok (.ireturn, 1) := by decide +kernel
theorem dX4_see_0 : decode cX4_see 0 = .ok (.aload_n 0, 1) := by decide +kernel
theorem dX4_see_1 : decode cX4_see 1 = .ok (.iload_n 1, 1) := by decide +kernel
theorem dX4_see_2 : decode cX4_see 2 = .ok (.invokevirtual 79, 3) := by decide +kernel
theorem dX4_see_5 : decode cX4_see 5 = .ok (.aload_n 0, 1) := by decide +kernel
theorem dX4_see_6 : decode cX4_see 6 = .ok (.getfield 12, 3) := by decide +kernel
theorem dX4_see_9 : decode cX4_see 9 = .ok (.getfield 91, 3) := by decide +kernel
theorem dX4_see_12 : decode cX4_see 12 = .ok (.iload_n 1, 1) := by decide +kernel
theorem dX4_see_13 : decode cX4_see 13 = .ok (.iaload, 1) := by decide +kernel
theorem dX4_see_14 : decode cX4_see 14 = .ok (.istore_n 2, 1) := by decide +kernel
theorem dX4_see_15 : decode cX4_see 15 = .ok (.aload_n 0, 1) := by decide +kernel
theorem dX4_see_16 : decode cX4_see 16 = .ok (.getfield 12, 3) := by decide +kernel
theorem dX4_see_19 : decode cX4_see 19 = .ok (.getfield 91, 3) := by decide +kernel
theorem dX4_see_22 : decode cX4_see 22 = .ok (.iload_n 1, 1) := by decide +kernel
theorem dX4_see_23 : decode cX4_see 23 = .ok (.aload_n 0, 1) := by decide +kernel
theorem dX4_see_24 : decode cX4_see 24 = .ok (.getfield 68, 3) := by decide +kernel
theorem dX4_see_27 : decode cX4_see 27 = .ok (.iastore, 1) := by decide +kernel
theorem dX4_see_28 : decode cX4_see 28 = .ok (.iload_n 2, 1) := by decide +kernel
theorem dX4_see_29 : decode cX4_see 29 = .ok (.ireturn, 1) := by decide +kernel
theorem dX4_drop_0 : decode cX4_drop 0 = .ok (.aload_n 0, 1) := by decide +kernel
theorem dX4_drop_1 : decode cX4_drop 1 = .ok (.iload_n 1, 1) := by decide +kernel
theorem dX4_drop_2 : decode cX4_drop 2 = .ok (.invokevirtual 79, 3) := by decide +kernel
theorem dX4_drop_5 : decode cX4_drop 5 = .ok (.aload_n 0, 1) := by decide +kernel
theorem dX4_drop_6 : decode cX4_drop 6 = .ok (.getfield 12, 3) := by decide +kernel
theorem dX4_drop_9 : decode cX4_drop 9 = .ok (.iload_n 1, 1) := by decide +kernel
theorem dX4_drop_10 : decode cX4_drop 10 = .ok (.invokevirtual 94, 3) := by decide +kernel
theorem dX4_drop_13 : decode cX4_drop 13 = .ok (.aload_n 0, 1) := by decide +kernel
theorem dX4_drop_14 : decode cX4_drop 14 = .ok (.getfield 12, 3) := by decide +kernel
theorem dX4_drop_17 : decode cX4_drop 17 = .ok (.invokevirtual 97, 3) := by decide +kernel
theorem dX4_drop_20 : decode cX4_drop 20 = .ok (.ireturn, 1) := by decide +kernel
theorem dX4_forbid_0 : decode cX4_forbid 0 = .ok (.aload_n 0, 1) := by decide +kernel
theorem dX4_forbid_1 : decode cX4_forbid 1 = .ok (.iload_n 1, 1) := by decide +kernel
theorem dX4_forbid_2 : decode cX4_forbid 2 = .ok (.invokevirtual 79, 3) := by decide +kernel
theorem dX4_forbid_5 : decode cX4_forbid 5 = .ok (.aload_n 0, 1) := by decide +kernel
theorem dX4_forbid_6 : decode cX4_forbid 6 = .ok (.iload_n 2, 1) := by decide +kernel
theorem dX4_forbid_7 : decode cX4_forbid 7 = .ok (.invokevirtual 79, 3) := by decide +kernel
theorem dX4_forbid_10 : decode cX4_forbid 10 = .ok (.iload_n 1, 1) := by decide +kernel
theorem dX4_forbid_11 : decode cX4_forbid 11 = .ok (.iload_n 2, 1) := by decide +kernel
theorem dX4_forbid_12 : decode cX4_forbid 12 = .ok (.invokestatic 101, 3) := by decide +kernel
theorem dX4_forbid_15 : decode cX4_forbid 15 = .ok (.aload_n 0, 1) := by decide +kernel
theorem dX4_forbid_16 : decode cX4_forbid 16 = .ok (.getfield 12, 3) := by decide +kernel
theorem dX4_forbid_19 : decode cX4_forbid 19 = .ok (.iload_n 1, 1) := by decide +kernel
theorem dX4_forbid_20 : decode cX4_forbid 20 = .ok (.iload_n 2, 1) := by decide +kernel
theorem dX4_forbid_21 : decode cX4_forbid 21 = .ok (.invokevirtual 105, 3) := by decide +kernel
theorem dX4_forbid_24 : decode cX4_forbid 24 = .ok (.ifCond .eq 13, 3) := by decide +kernel
theorem dX4_forbid_27 : decode cX4_forbid 27 = .ok (.new 45, 3) := by decide +kernel
theorem dX4_forbid_30 : decode cX4_forbid 30 = .ok (.dup, 1) := by decide +kernel
theorem dX4_forbid_31 : decode cX4_forbid 31 = .ok (.ldc 109, 2) := by decide +kernel
theorem dX4_forbid_33 : decode cX4_forbid 33 = .ok (.invokespecial 49, 3) := by decide +kernel
theorem dX4_forbid_36 : decode cX4_forbid 36 = .ok (.athrow, 1) := by decide +kernel
theorem dX4_forbid_37 : decode cX4_forbid 37 = .ok (.aload_n 0, 1) := by decide +kernel
theorem dX4_forbid_38 : decode cX4_forbid 38 = .ok (.getfield 12, 3) := by decide +kernel
theorem dX4_forbid_41 : decode cX4_forbid 41 = .ok (.getfield 111, 3) := by decide +kernel
theorem dX4_forbid_44 : decode cX4_forbid 44 = .ok (.bipush 12, 2) := by decide +kernel
theorem dX4_forbid_46 : decode cX4_forbid 46 = .ok (.if_icmp .lt 13, 3) := by decide +kernel
theorem dX4_forbid_49 : decode cX4_forbid 49 = .ok (.new 45, 3) := by decide +kernel
theorem dX4_forbid_52 : decode cX4_forbid 52 = .ok (.dup, 1) := by decide +kernel
theorem dX4_forbid_53 : decode cX4_forbid 53 = .ok (.ldc 114, 2) := by decide +kernel
theorem dX4_forbid_55 : decode cX4_forbid 55 = .ok (.invokespecial 49, 3) := by decide +kernel
theorem dX4_forbid_58 : decode cX4_forbid 58 = .ok (.athrow, 1) := by decide +kernel
theorem dX4_forbid_59 : decode cX4_forbid 59 = .ok (.aload_n 0, 1) := by decide +kernel
theorem dX4_forbid_60 : decode cX4_forbid 60 = .ok (.getfield 12, 3) := by decide +kernel
theorem dX4_forbid_63 : decode cX4_forbid 63 = .ok (.iload_n 1, 1) := by decide +kernel
theorem dX4_forbid_64 : decode cX4_forbid 64 = .ok (.iload_n 2, 1) := by decide +kernel
theorem dX4_forbid_65 : decode cX4_forbid 65 = .ok (.invokevirtual 116, 3) := by decide +kernel
theorem dX4_forbid_68 : decode cX4_forbid 68 = .ok (.aload_n 0, 1) := by decide +kernel
theorem dX4_forbid_69 : decode cX4_forbid 69 = .ok (.getfield 12, 3) := by decide +kernel
theorem dX4_forbid_72 : decode cX4_forbid 72 = .ok (.dup, 1) := by decide +kernel
theorem dX4_forbid_73 : decode cX4_forbid 73 = .ok (.getfield 111, 3) := by decide +kernel
theorem dX4_forbid_76 : decode cX4_forbid 76 = .ok (.iconst 1, 1) := by decide +kernel
theorem dX4_forbid_77 : decode cX4_forbid 77 = .ok (.iadd, 1) := by decide +kernel
theorem dX4_forbid_78 : decode cX4_forbid 78 = .ok (.putfield 111, 3) := by decide +kernel
theorem dX4_forbid_81 : decode cX4_forbid 81 = .ok (.aload_n 0, 1) := by decide +kernel
theorem dX4_forbid_82 : decode cX4_forbid 82 = .ok (.getfield 12, 3) := by decide +kernel
theorem dX4_forbid_85 : decode cX4_forbid 85 = .ok (.invokevirtual 119, 3) := by decide +kernel
theorem dX4_forbid_88 : decode cX4_forbid 88 = .ok (.ireturn, 1) := by decide +kernel
theorem dX4_allow_0 : decode cX4_allow 0 = .ok (.aload_n 0, 1) := by decide +kernel
theorem dX4_allow_1 : decode cX4_allow 1 = .ok (.iload_n 1, 1) := by decide +kernel
theorem dX4_allow_2 : decode cX4_allow 2 = .ok (.invokevirtual 79, 3) := by decide +kernel
theorem dX4_allow_5 : decode cX4_allow 5 = .ok (.aload_n 0, 1) := by decide +kernel
theorem dX4_allow_6 : decode cX4_allow 6 = .ok (.iload_n 2, 1) := by decide +kernel
theorem dX4_allow_7 : decode cX4_allow 7 = .ok (.invokevirtual 79, 3) := by decide +kernel
theorem dX4_allow_10 : decode cX4_allow 10 = .ok (.aload_n 0, 1) := by decide +kernel
theorem dX4_allow_11 : decode cX4_allow 11 = .ok (.iload_n 1, 1) := by decide +kernel
theorem dX4_allow_12 : decode cX4_allow 12 = .ok (.iload_n 2, 1) := by decide +kernel
theorem dX4_allow_13 : decode cX4_allow 13 = .ok (.invokevirtual 122, 3) := by decide +kernel
theorem dX4_allow_16 : decode cX4_allow 16 = .ok (.aload_n 0, 1) := by decide +kernel
theorem dX4_allow_17 : decode cX4_allow 17 = .ok (.getfield 12, 3) := by decide +kernel
theorem dX4_allow_20 : decode cX4_allow 20 = .ok (.iload_n 1, 1) := by decide +kernel
theorem dX4_allow_21 : decode cX4_allow 21 = .ok (.iload_n 2, 1) := by decide +kernel
theorem dX4_allow_22 : decode cX4_allow 22 = .ok (.invokevirtual 125, 3) := by decide +kernel
theorem dX4_allow_25 : decode cX4_allow 25 = .ok (.aload_n 0, 1) := by decide +kernel
theorem dX4_allow_26 : decode cX4_allow 26 = .ok (.getfield 12, 3) := by decide +kernel
theorem dX4_allow_29 : decode cX4_allow 29 = .ok (.dup, 1) := by decide +kernel
theorem dX4_allow_30 : decode cX4_allow 30 = .ok (.getfield 111, 3) := by decide +kernel
theorem dX4_allow_33 : decode cX4_allow 33 = .ok (.iconst 1, 1) := by decide +kernel
theorem dX4_allow_34 : decode cX4_allow 34 = .ok (.isub, 1) := by decide +kernel
theorem dX4_allow_35 : decode cX4_allow 35 = .ok (.putfield 111, 3) := by decide +kernel
theorem dX4_allow_38 : decode cX4_allow 38 = .ok (.aload_n 0, 1) := by decide +kernel
theorem dX4_allow_39 : decode cX4_allow 39 = .ok (.getfield 12, 3) := by decide +kernel
theorem dX4_allow_42 : decode cX4_allow 42 = .ok (.invokevirtual 119, 3) := by decide +kernel
theorem dX4_allow_45 : decode cX4_allow 45 = .ok (.ireturn, 1) := by decide +kernel
theorem dX4_records_0 : decode cX4_records 0 = .ok (.aload_n 0, 1) := by decide +kernel
theorem dX4_records_1 : decode cX4_records 1 = .ok (.getfield 12, 3) := by decide +kernel
theorem dX4_records_4 : decode cX4_records 4 = .ok (.invokevirtual 97, 3) := by decide +kernel
theorem dX4_records_7 : decode cX4_records 7 = .ok (.ireturn, 1) := by decide +kernel
theorem dX4_key_0 : decode cX4_key 0 = .ok (.aload_n 0, 1) := by decide +kernel
theorem dX4_key_1 : decode cX4_key 1 = .ok (.iload_n 1, 1) := by decide +kernel
theorem dX4_key_2 : decode cX4_key 2 = .ok (.invokevirtual 79, 3) := by decide +kernel
theorem dX4_key_5 : decode cX4_key 5 = .ok (.iload_n 2, 1) := by decide +kernel
theorem dX4_key_6 : decode cX4_key 6 = .ok (.invokestatic 82, 3) := by decide +kernel
theorem dX4_key_9 : decode cX4_key 9 = .ok (.aload_n 0, 1) := by decide +kernel
theorem dX4_key_10 : decode cX4_key 10 = .ok (.getfield 12, 3) := by decide +kernel
theorem dX4_key_13 : decode cX4_key 13 = .ok (.getfield 75, 3) := by decide +kernel
theorem dX4_key_16 : decode cX4_key 16 = .ok (.iload_n 2, 1) := by decide +kernel
theorem dX4_key_17 : decode cX4_key 17 = .ok (.aaload, 1) := by decide +kernel
theorem dX4_key_18 : decode cX4_key 18 = .ok (.iload_n 1, 1) := by decide +kernel
theorem dX4_key_19 : decode cX4_key 19 = .ok (.iaload, 1) := by decide +kernel
theorem dX4_key_20 : decode cX4_key 20 = .ok (.ireturn, 1) := by decide +kernel
theorem dX4_seen_0 : decode cX4_seen 0 = .ok (.aload_n 0, 1) := by decide +kernel
theorem dX4_seen_1 : decode cX4_seen 1 = .ok (.iload_n 1, 1) := by decide +kernel
theorem dX4_seen_2 : decode cX4_seen 2 = .ok (.invokevirtual 79, 3) := by decide +kernel
theorem dX4_seen_5 : decode cX4_seen 5 = .ok (.aload_n 0, 1) := by decide +kernel
theorem dX4_seen_6 : decode cX4_seen 6 = .ok (.getfield 12, 3) := by decide +kernel
theorem dX4_seen_9 : decode cX4_seen 9 = .ok (.getfield 91, 3) := by decide +kernel
theorem dX4_seen_12 : decode cX4_seen 12 = .ok (.iload_n 1, 1) := by decide +kernel
theorem dX4_seen_13 : decode cX4_seen 13 = .ok (.iaload, 1) := by decide +kernel
theorem dX4_seen_14 : decode cX4_seen 14 = .ok (.ireturn, 1) := by decide +kernel
theorem dX4_thing_0 : decode cX4_thing 0 = .ok (.aload_n 0, 1) := by decide +kernel
theorem dX4_thing_1 : decode cX4_thing 1 = .ok (.iload_n 1, 1) := by decide +kernel
theorem dX4_thing_2 : decode cX4_thing 2 = .ok (.invokevirtual 79, 3) := by decide +kernel
theorem dX4_thing_5 : decode cX4_thing 5 = .ok (.aload_n 0, 1) := by decide +kernel
theorem dX4_thing_6 : decode cX4_thing 6 = .ok (.iload_n 1, 1) := by decide +kernel
theorem dX4_thing_7 : decode cX4_thing 7 = .ok (.invokevirtual 128, 3) := by decide +kernel
theorem dX4_thing_10 : decode cX4_thing 10 = .ok (.ireturn, 1) := by decide +kernel
theorem dX4_thingByRounds_0 : decode cX4_thingByRounds 0 = .ok (.aload_n 0, 1) := by decide +kernel
theorem dX4_thingByRounds_1 : decode cX4_thingByRounds 1 = .ok (.iload_n 1, 1) := by decide +kernel
theorem dX4_thingByRounds_2 : decode cX4_thingByRounds 2 = .ok (.invokevirtual 79, 3) := by decide +kernel
theorem dX4_thingByRounds_5 : decode cX4_thingByRounds 5 = .ok (.aload_n 0, 1) := by decide +kernel
theorem dX4_thingByRounds_6 : decode cX4_thingByRounds 6 = .ok (.getfield 26, 3) := by decide +kernel
theorem dX4_thingByRounds_9 : decode cX4_thingByRounds 9 = .ok (.aload_n 0, 1) := by decide +kernel
theorem dX4_thingByRounds_10 : decode cX4_thingByRounds 10 = .ok (.getfield 12, 3) := by decide +kernel
theorem dX4_thingByRounds_13 : decode cX4_thingByRounds 13 = .ok (.invokevirtual 131, 3) := by decide +kernel
theorem dX4_thingByRounds_16 : decode cX4_thingByRounds 16 = .ok (.aload_n 0, 1) := by decide +kernel
theorem dX4_thingByRounds_17 : decode cX4_thingByRounds 17 = .ok (.getfield 26, 3) := by decide +kernel
theorem dX4_thingByRounds_20 : decode cX4_thingByRounds 20 = .ok (.getfield 135, 3) := by decide +kernel
theorem dX4_thingByRounds_23 : decode cX4_thingByRounds 23 = .ok (.iconst 2, 1) := by decide +kernel
theorem dX4_thingByRounds_24 : decode cX4_thingByRounds 24 = .ok (.aaload, 1) := by decide +kernel
theorem dX4_thingByRounds_25 : decode cX4_thingByRounds 25 = .ok (.iload_n 1, 1) := by decide +kernel
theorem dX4_thingByRounds_26 : decode cX4_thingByRounds 26 = .ok (.iaload, 1) := by decide +kernel
theorem dX4_thingByRounds_27 : decode cX4_thingByRounds 27 = .ok (.ireturn, 1) := by decide +kernel
theorem dX4_things_0 : decode cX4_things 0 = .ok (.aload_n 0, 1) := by decide +kernel
theorem dX4_things_1 : decode cX4_things 1 = .ok (.invokevirtual 138, 3) := by decide +kernel
theorem dX4_things_4 : decode cX4_things 4 = .ok (.ireturn, 1) := by decide +kernel
theorem dX4_size_0 : decode cX4_size 0 = .ok (.aload_n 0, 1) := by decide +kernel
theorem dX4_size_1 : decode cX4_size 1 = .ok (.iload_n 1, 1) := by decide +kernel
theorem dX4_size_2 : decode cX4_size 2 = .ok (.invokevirtual 79, 3) := by decide +kernel
theorem dX4_size_5 : decode cX4_size 5 = .ok (.aload_n 0, 1) := by decide +kernel
theorem dX4_size_6 : decode cX4_size 6 = .ok (.aload_n 0, 1) := by decide +kernel
theorem dX4_size_7 : decode cX4_size 7 = .ok (.iload_n 1, 1) := by decide +kernel
theorem dX4_size_8 : decode cX4_size 8 = .ok (.invokevirtual 128, 3) := by decide +kernel
theorem dX4_size_11 : decode cX4_size 11 = .ok (.invokevirtual 141, 3) := by decide +kernel
theorem dX4_size_14 : decode cX4_size 14 = .ok (.ireturn, 1) := by decide +kernel
theorem dX4_member_0 : decode cX4_member 0 = .ok (.aload_n 0, 1) := by decide +kernel
theorem dX4_member_1 : decode cX4_member 1 = .ok (.iload_n 1, 1) := by decide +kernel
theorem dX4_member_2 : decode cX4_member 2 = .ok (.invokevirtual 79, 3) := by decide +kernel
theorem dX4_member_5 : decode cX4_member 5 = .ok (.aload_n 0, 1) := by decide +kernel
theorem dX4_member_6 : decode cX4_member 6 = .ok (.aload_n 0, 1) := by decide +kernel
theorem dX4_member_7 : decode cX4_member 7 = .ok (.iload_n 1, 1) := by decide +kernel
theorem dX4_member_8 : decode cX4_member 8 = .ok (.invokevirtual 128, 3) := by decide +kernel
theorem dX4_member_11 : decode cX4_member 11 = .ok (.iload_n 2, 1) := by decide +kernel
theorem dX4_member_12 : decode cX4_member 12 = .ok (.invokevirtual 144, 3) := by decide +kernel
theorem dX4_member_15 : decode cX4_member 15 = .ok (.istore_n 3, 1) := by decide +kernel
theorem dX4_member_16 : decode cX4_member 16 = .ok (.iload_n 3, 1) := by decide +kernel
theorem dX4_member_17 : decode cX4_member 17 = .ok (.iconst (-1), 1) := by decide +kernel
theorem dX4_member_18 : decode cX4_member 18 = .ok (.if_icmp .ne 13, 3) := by decide +kernel
theorem dX4_member_21 : decode cX4_member 21 = .ok (.new 147, 3) := by decide +kernel
theorem dX4_member_24 : decode cX4_member 24 = .ok (.dup, 1) := by decide +kernel
theorem dX4_member_25 : decode cX4_member 25 = .ok (.ldc 149, 2) := by decide +kernel
theorem dX4_member_27 : decode cX4_member 27 = .ok (.invokespecial 151, 3) := by decide +kernel
theorem dX4_member_30 : decode cX4_member 30 = .ok (.athrow, 1) := by decide +kernel
theorem dX4_member_31 : decode cX4_member 31 = .ok (.iload_n 3, 1) := by decide +kernel
theorem dX4_member_32 : decode cX4_member 32 = .ok (.ireturn, 1) := by decide +kernel
theorem dX4_areTogether_0 : decode cX4_areTogether 0 = .ok (.aload_n 0, 1) := by decide +kernel
theorem dX4_areTogether_1 : decode cX4_areTogether 1 = .ok (.iload_n 1, 1) := by decide +kernel
theorem dX4_areTogether_2 : decode cX4_areTogether 2 = .ok (.invokevirtual 79, 3) := by decide +kernel
theorem dX4_areTogether_5 : decode cX4_areTogether 5 = .ok (.aload_n 0, 1) := by decide +kernel
theorem dX4_areTogether_6 : decode cX4_areTogether 6 = .ok (.iload_n 2, 1) := by decide +kernel
theorem dX4_areTogether_7 : decode cX4_areTogether 7 = .ok (.invokevirtual 79, 3) := by decide +kernel
theorem dX4_areTogether_10 : decode cX4_areTogether 10 = .ok (.aload_n 0, 1) := by decide +kernel
theorem dX4_areTogether_11 : decode cX4_areTogether 11 = .ok (.iload_n 1, 1) := by decide +kernel
theorem dX4_areTogether_12 : decode cX4_areTogether 12 = .ok (.invokevirtual 128, 3) := by decide +kernel
theorem dX4_areTogether_15 : decode cX4_areTogether 15 = .ok (.aload_n 0, 1) := by decide +kernel
theorem dX4_areTogether_16 : decode cX4_areTogether 16 = .ok (.getfield 19, 3) := by decide +kernel
theorem dX4_areTogether_19 : decode cX4_areTogether 19 = .ok (.getfield 152, 3) := by decide +kernel
theorem dX4_areTogether_22 : decode cX4_areTogether 22 = .ok (.iconst 2, 1) := by decide +kernel
theorem dX4_areTogether_23 : decode cX4_areTogether 23 = .ok (.aaload, 1) := by decide +kernel
theorem dX4_areTogether_24 : decode cX4_areTogether 24 = .ok (.iload_n 2, 1) := by decide +kernel
theorem dX4_areTogether_25 : decode cX4_areTogether 25 = .ok (.iaload, 1) := by decide +kernel
theorem dX4_areTogether_26 : decode cX4_areTogether 26 = .ok (.if_icmp .ne 7, 3) := by decide +kernel
theorem dX4_areTogether_29 : decode cX4_areTogether 29 = .ok (.iconst 1, 1) := by decide +kernel
theorem dX4_areTogether_30 : decode cX4_areTogether 30 = .ok (.goto 4, 3) := by decide +kernel
theorem dX4_areTogether_33 : decode cX4_areTogether 33 = .ok (.iconst 0, 1) := by decide +kernel
theorem dX4_areTogether_34 : decode cX4_areTogether 34 = .ok (.ireturn, 1) := by decide +kernel
theorem dX4_step_0 : decode cX4_step 0 = .ok (.aload_n 0, 1) := by decide +kernel
theorem dX4_step_1 : decode cX4_step 1 = .ok (.iload_n 1, 1) := by decide +kernel
theorem dX4_step_2 : decode cX4_step 2 = .ok (.invokevirtual 79, 3) := by decide +kernel
theorem dX4_step_5 : decode cX4_step 5 = .ok (.aload_n 0, 1) := by decide +kernel
theorem dX4_step_6 : decode cX4_step 6 = .ok (.iload_n 2, 1) := by decide +kernel
theorem dX4_step_7 : decode cX4_step 7 = .ok (.invokevirtual 79, 3) := by decide +kernel
theorem dX4_step_10 : decode cX4_step 10 = .ok (.iload_n 1, 1) := by decide +kernel
theorem dX4_step_11 : decode cX4_step 11 = .ok (.iload_n 2, 1) := by decide +kernel
theorem dX4_step_12 : decode cX4_step 12 = .ok (.invokestatic 101, 3) := by decide +kernel
theorem dX4_step_15 : decode cX4_step 15 = .ok (.aload_n 0, 1) := by decide +kernel
theorem dX4_step_16 : decode cX4_step 16 = .ok (.iload_n 1, 1) := by decide +kernel
theorem dX4_step_17 : decode cX4_step 17 = .ok (.iload_n 2, 1) := by decide +kernel
theorem dX4_step_18 : decode cX4_step 18 = .ok (.invokevirtual 153, 3) := by decide +kernel
theorem dX4_step_21 : decode cX4_step 21 = .ok (.istore_n 3, 1) := by decide +kernel
theorem dX4_step_22 : decode cX4_step 22 = .ok (.iload_n 3, 1) := by decide +kernel
theorem dX4_step_23 : decode cX4_step 23 = .ok (.iconst (-1), 1) := by decide +kernel
theorem dX4_step_24 : decode cX4_step 24 = .ok (.if_icmp .ne 13, 3) := by decide +kernel
theorem dX4_step_27 : decode cX4_step 27 = .ok (.new 147, 3) := by decide +kernel
theorem dX4_step_30 : decode cX4_step 30 = .ok (.dup, 1) := by decide +kernel
theorem dX4_step_31 : decode cX4_step 31 = .ok (.ldc 156, 2) := by decide +kernel
theorem dX4_step_33 : decode cX4_step 33 = .ok (.invokespecial 151, 3) := by decide +kernel
theorem dX4_step_36 : decode cX4_step 36 = .ok (.athrow, 1) := by decide +kernel
theorem dX4_step_37 : decode cX4_step 37 = .ok (.iload_n 3, 1) := by decide +kernel
theorem dX4_step_38 : decode cX4_step 38 = .ok (.ireturn, 1) := by decide +kernel
theorem dX4_shared_0 : decode cX4_shared 0 = .ok (.iload_n 1, 1) := by decide +kernel
theorem dX4_shared_1 : decode cX4_shared 1 = .ok (.invokestatic 82, 3) := by decide +kernel
theorem dX4_shared_4 : decode cX4_shared 4 = .ok (.aload_n 0, 1) := by decide +kernel
theorem dX4_shared_5 : decode cX4_shared 5 = .ok (.getfield 19, 3) := by decide +kernel
theorem dX4_shared_8 : decode cX4_shared 8 = .ok (.aload_n 0, 1) := by decide +kernel
theorem dX4_shared_9 : decode cX4_shared 9 = .ok (.getfield 12, 3) := by decide +kernel
theorem dX4_shared_12 : decode cX4_shared 12 = .ok (.invokevirtual 158, 3) := by decide +kernel
theorem dX4_shared_15 : decode cX4_shared 15 = .ok (.iconst 0, 1) := by decide +kernel
theorem dX4_shared_16 : decode cX4_shared 16 = .ok (.istore_n 2, 1) := by decide +kernel
theorem dX4_shared_17 : decode cX4_shared 17 = .ok (.iconst 0, 1) := by decide +kernel
theorem dX4_shared_18 : decode cX4_shared 18 = .ok (.istore_n 3, 1) := by decide +kernel
theorem dX4_shared_19 : decode cX4_shared 19 = .ok (.iload_n 3, 1) := by decide +kernel
theorem dX4_shared_20 : decode cX4_shared 20 = .ok (.aload_n 0, 1) := by decide +kernel
theorem dX4_shared_21 : decode cX4_shared 21 = .ok (.getfield 12, 3) := by decide +kernel
theorem dX4_shared_24 : decode cX4_shared 24 = .ok (.getfield 63, 3) := by decide +kernel
theorem dX4_shared_27 : decode cX4_shared 27 = .ok (.if_icmp .ge 33, 3) := by decide +kernel
theorem dX4_shared_30 : decode cX4_shared 30 = .ok (.aload_n 0, 1) := by decide +kernel
theorem dX4_shared_31 : decode cX4_shared 31 = .ok (.getfield 12, 3) := by decide +kernel
theorem dX4_shared_34 : decode cX4_shared 34 = .ok (.iload_n 3, 1) := by decide +kernel
theorem dX4_shared_35 : decode cX4_shared 35 = .ok (.iload_n 1, 1) := by decide +kernel
theorem dX4_shared_36 : decode cX4_shared 36 = .ok (.invokevirtual 159, 3) := by decide +kernel
theorem dX4_shared_39 : decode cX4_shared 39 = .ok (.ifCond .eq 15, 3) := by decide +kernel
theorem dX4_shared_42 : decode cX4_shared 42 = .ok (.aload_n 0, 1) := by decide +kernel
theorem dX4_shared_43 : decode cX4_shared 43 = .ok (.iload_n 3, 1) := by decide +kernel
theorem dX4_shared_44 : decode cX4_shared 44 = .ok (.iload_n 1, 1) := by decide +kernel
theorem dX4_shared_45 : decode cX4_shared 45 = .ok (.invokevirtual 162, 3) := by decide +kernel
theorem dX4_shared_48 : decode cX4_shared 48 = .ok (.ifCond .eq 6, 3) := by decide +kernel
theorem dX4_shared_51 : decode cX4_shared 51 = .ok (.iinc 2 1, 3) := by decide +kernel
theorem dX4_shared_54 : decode cX4_shared 54 = .ok (.iinc 3 1, 3) := by decide +kernel
theorem dX4_shared_57 : decode cX4_shared 57 = .ok (.goto (-38), 3) := by decide +kernel
theorem dX4_shared_60 : decode cX4_shared 60 = .ok (.iload_n 2, 1) := by decide +kernel
theorem dX4_shared_61 : decode cX4_shared 61 = .ok (.ireturn, 1) := by decide +kernel
theorem dX4_thingsWithout_0 : decode cX4_thingsWithout 0 = .ok (.aload_n 0, 1) := by decide +kernel
theorem dX4_thingsWithout_1 : decode cX4_thingsWithout 1 = .ok (.iload_n 1, 1) := by decide +kernel
theorem dX4_thingsWithout_2 : decode cX4_thingsWithout 2 = .ok (.invokevirtual 79, 3) := by decide +kernel
theorem dX4_thingsWithout_5 : decode cX4_thingsWithout 5 = .ok (.aload_n 0, 1) := by decide +kernel
theorem dX4_thingsWithout_6 : decode cX4_thingsWithout 6 = .ok (.getfield 12, 3) := by decide +kernel
theorem dX4_thingsWithout_9 : decode cX4_thingsWithout 9 = .ok (.iload_n 1, 1) := by decide +kernel
theorem dX4_thingsWithout_10 : decode cX4_thingsWithout 10 = .ok (.invokevirtual 94, 3) := by decide +kernel
theorem dX4_thingsWithout_13 : decode cX4_thingsWithout 13 = .ok (.aload_n 0, 1) := by decide +kernel
theorem dX4_thingsWithout_14 : decode cX4_thingsWithout 14 = .ok (.invokevirtual 138, 3) := by decide +kernel
theorem dX4_thingsWithout_17 : decode cX4_thingsWithout 17 = .ok (.istore_n 2, 1) := by decide +kernel
theorem dX4_thingsWithout_18 : decode cX4_thingsWithout 18 = .ok (.aload_n 0, 1) := by decide +kernel
theorem dX4_thingsWithout_19 : decode cX4_thingsWithout 19 = .ok (.getfield 12, 3) := by decide +kernel
theorem dX4_thingsWithout_22 : decode cX4_thingsWithout 22 = .ok (.iload_n 1, 1) := by decide +kernel
theorem dX4_thingsWithout_23 : decode cX4_thingsWithout 23 = .ok (.invokevirtual 165, 3) := by decide +kernel
theorem dX4_thingsWithout_26 : decode cX4_thingsWithout 26 = .ok (.iload_n 2, 1) := by decide +kernel
theorem dX4_thingsWithout_27 : decode cX4_thingsWithout 27 = .ok (.ireturn, 1) := by decide +kernel
theorem dX4_thingsIf_0 : decode cX4_thingsIf 0 = .ok (.aload_n 0, 1) := by decide +kernel
theorem dX4_thingsIf_1 : decode cX4_thingsIf 1 = .ok (.iload_n 1, 1) := by decide +kernel
theorem dX4_thingsIf_2 : decode cX4_thingsIf 2 = .ok (.invokevirtual 79, 3) := by decide +kernel
theorem dX4_thingsIf_5 : decode cX4_thingsIf 5 = .ok (.iload_n 2, 1) := by decide +kernel
theorem dX4_thingsIf_6 : decode cX4_thingsIf 6 = .ok (.invokestatic 82, 3) := by decide +kernel
theorem dX4_thingsIf_9 : decode cX4_thingsIf 9 = .ok (.iload_n 3, 1) := by decide +kernel
theorem dX4_thingsIf_10 : decode cX4_thingsIf 10 = .ok (.iconst (-1), 1) := by decide +kernel
theorem dX4_thingsIf_11 : decode cX4_thingsIf 11 = .ok (.bipush 99, 2) := by decide +kernel
theorem dX4_thingsIf_13 : decode cX4_thingsIf 13 = .ok (.invokestatic 38, 3) := by decide +kernel
theorem dX4_thingsIf_16 : decode cX4_thingsIf 16 = .ok (.aload_n 0, 1) := by decide +kernel
theorem dX4_thingsIf_17 : decode cX4_thingsIf 17 = .ok (.getfield 12, 3) := by decide +kernel
theorem dX4_thingsIf_20 : decode cX4_thingsIf 20 = .ok (.getfield 75, 3) := by decide +kernel
theorem dX4_thingsIf_23 : decode cX4_thingsIf 23 = .ok (.iload_n 2, 1) := by decide +kernel
theorem dX4_thingsIf_24 : decode cX4_thingsIf 24 = .ok (.aaload, 1) := by decide +kernel
theorem dX4_thingsIf_25 : decode cX4_thingsIf 25 = .ok (.iload_n 1, 1) := by decide +kernel
theorem dX4_thingsIf_26 : decode cX4_thingsIf 26 = .ok (.iaload, 1) := by decide +kernel
theorem dX4_thingsIf_27 : decode cX4_thingsIf 27 = .ok (.istore 4, 2) := by decide +kernel
theorem dX4_thingsIf_29 : decode cX4_thingsIf 29 = .ok (.aload_n 0, 1) := by decide +kernel
theorem dX4_thingsIf_30 : decode cX4_thingsIf 30 = .ok (.getfield 12, 3) := by decide +kernel
theorem dX4_thingsIf_33 : decode cX4_thingsIf 33 = .ok (.getfield 75, 3) := by decide +kernel
theorem dX4_thingsIf_36 : decode cX4_thingsIf 36 = .ok (.iload_n 2, 1) := by decide +kernel
theorem dX4_thingsIf_37 : decode cX4_thingsIf 37 = .ok (.aaload, 1) := by decide +kernel
theorem dX4_thingsIf_38 : decode cX4_thingsIf 38 = .ok (.iload_n 1, 1) := by decide +kernel
theorem dX4_thingsIf_39 : decode cX4_thingsIf 39 = .ok (.iload_n 3, 1) := by decide +kernel
theorem dX4_thingsIf_40 : decode cX4_thingsIf 40 = .ok (.iastore, 1) := by decide +kernel
theorem dX4_thingsIf_41 : decode cX4_thingsIf 41 = .ok (.aload_n 0, 1) := by decide +kernel
theorem dX4_thingsIf_42 : decode cX4_thingsIf 42 = .ok (.invokevirtual 138, 3) := by decide +kernel
theorem dX4_thingsIf_45 : decode cX4_thingsIf 45 = .ok (.istore 5, 2) := by decide +kernel
theorem dX4_thingsIf_47 : decode cX4_thingsIf 47 = .ok (.aload_n 0, 1) := by decide +kernel
theorem dX4_thingsIf_48 : decode cX4_thingsIf 48 = .ok (.getfield 12, 3) := by decide +kernel
theorem dX4_thingsIf_51 : decode cX4_thingsIf 51 = .ok (.getfield 75, 3) := by decide +kernel
theorem dX4_thingsIf_54 : decode cX4_thingsIf 54 = .ok (.iload_n 2, 1) := by decide +kernel
theorem dX4_thingsIf_55 : decode cX4_thingsIf 55 = .ok (.aaload, 1) := by decide +kernel
theorem dX4_thingsIf_56 : decode cX4_thingsIf 56 = .ok (.iload_n 1, 1) := by decide +kernel
theorem dX4_thingsIf_57 : decode cX4_thingsIf 57 = .ok (.iload 4, 2) := by decide +kernel
theorem dX4_thingsIf_59 : decode cX4_thingsIf 59 = .ok (.iastore, 1) := by decide +kernel
theorem dX4_thingsIf_60 : decode cX4_thingsIf 60 = .ok (.iload 5, 2) := by decide +kernel
theorem dX4_thingsIf_62 : decode cX4_thingsIf 62 = .ok (.ireturn, 1) := by decide +kernel
theorem dX4_thingsIfAllowed_0 : decode cX4_thingsIfAllowed 0 = .ok (.aload_n 0, 1) := by decide +kernel
theorem dX4_thingsIfAllowed_1 : decode cX4_thingsIfAllowed 1 = .ok (.iload_n 1, 1) := by decide +kernel
theorem dX4_thingsIfAllowed_2 : decode cX4_thingsIfAllowed 2 = .ok (.invokevirtual 79, 3) := by decide +kernel
theorem dX4_thingsIfAllowed_5 : decode cX4_thingsIfAllowed 5 = .ok (.aload_n 0, 1) := by decide +kernel
theorem dX4_thingsIfAllowed_6 : decode cX4_thingsIfAllowed 6 = .ok (.iload_n 2, 1) := by decide +kernel
theorem dX4_thingsIfAllowed_7 : decode cX4_thingsIfAllowed 7 = .ok (.invokevirtual 79, 3) := by decide +kernel
theorem dX4_thingsIfAllowed_10 : decode cX4_thingsIfAllowed 10 = .ok (.aload_n 0, 1) := by decide +kernel
theorem dX4_thingsIfAllowed_11 : decode cX4_thingsIfAllowed 11 = .ok (.iload_n 1, 1) := by decide +kernel
theorem dX4_thingsIfAllowed_12 : decode cX4_thingsIfAllowed 12 = .ok (.iload_n 2, 1) := by decide +kernel
theorem dX4_thingsIfAllowed_13 : decode cX4_thingsIfAllowed 13 = .ok (.invokevirtual 122, 3) := by decide +kernel
theorem dX4_thingsIfAllowed_16 : decode cX4_thingsIfAllowed 16 = .ok (.aload_n 0, 1) := by decide +kernel
theorem dX4_thingsIfAllowed_17 : decode cX4_thingsIfAllowed 17 = .ok (.getfield 12, 3) := by decide +kernel
theorem dX4_thingsIfAllowed_20 : decode cX4_thingsIfAllowed 20 = .ok (.iload_n 1, 1) := by decide +kernel
theorem dX4_thingsIfAllowed_21 : decode cX4_thingsIfAllowed 21 = .ok (.iload_n 2, 1) := by decide +kernel
theorem dX4_thingsIfAllowed_22 : decode cX4_thingsIfAllowed 22 = .ok (.invokevirtual 125, 3) := by decide +kernel
theorem dX4_thingsIfAllowed_25 : decode cX4_thingsIfAllowed 25 = .ok (.aload_n 0, 1) := by decide +kernel
theorem dX4_thingsIfAllowed_26 : decode cX4_thingsIfAllowed 26 = .ok (.invokevirtual 138, 3) := by decide +kernel
theorem dX4_thingsIfAllowed_29 : decode cX4_thingsIfAllowed 29 = .ok (.istore_n 3, 1) := by decide +kernel
theorem dX4_thingsIfAllowed_30 : decode cX4_thingsIfAllowed 30 = .ok (.aload_n 0, 1) := by decide +kernel
theorem dX4_thingsIfAllowed_31 : decode cX4_thingsIfAllowed 31 = .ok (.getfield 12, 3) := by decide +kernel
theorem dX4_thingsIfAllowed_34 : decode cX4_thingsIfAllowed 34 = .ok (.iload_n 1, 1) := by decide +kernel
theorem dX4_thingsIfAllowed_35 : decode cX4_thingsIfAllowed 35 = .ok (.iload_n 2, 1) := by decide +kernel
theorem dX4_thingsIfAllowed_36 : decode cX4_thingsIfAllowed 36 = .ok (.invokevirtual 116, 3) := by decide +kernel
theorem dX4_thingsIfAllowed_39 : decode cX4_thingsIfAllowed 39 = .ok (.iload_n 3, 1) := by decide +kernel
theorem dX4_thingsIfAllowed_40 : decode cX4_thingsIfAllowed 40 = .ok (.ireturn, 1) := by decide +kernel
theorem dX4_weight_0 : decode cX4_weight 0 = .ok (.aload_n 0, 1) := by decide +kernel
theorem dX4_weight_1 : decode cX4_weight 1 = .ok (.iload_n 1, 1) := by decide +kernel
theorem dX4_weight_2 : decode cX4_weight 2 = .ok (.invokevirtual 79, 3) := by decide +kernel
theorem dX4_weight_5 : decode cX4_weight 5 = .ok (.aload_n 0, 1) := by decide +kernel
theorem dX4_weight_6 : decode cX4_weight 6 = .ok (.getfield 12, 3) := by decide +kernel
theorem dX4_weight_9 : decode cX4_weight 9 = .ok (.iload_n 1, 1) := by decide +kernel
theorem dX4_weight_10 : decode cX4_weight 10 = .ok (.aload_n 0, 1) := by decide +kernel
theorem dX4_weight_11 : decode cX4_weight 11 = .ok (.getfield 68, 3) := by decide +kernel
theorem dX4_weight_14 : decode cX4_weight 14 = .ok (.invokevirtual 168, 3) := by decide +kernel
theorem dX4_weight_17 : decode cX4_weight 17 = .ok (.ireturn, 1) := by decide +kernel
theorem dX4_fact_0 : decode cX4_fact 0 = .ok (.aload_n 0, 1) := by decide +kernel
theorem dX4_fact_1 : decode cX4_fact 1 = .ok (.iload_n 1, 1) := by decide +kernel
theorem dX4_fact_2 : decode cX4_fact 2 = .ok (.invokevirtual 79, 3) := by decide +kernel
theorem dX4_fact_5 : decode cX4_fact 5 = .ok (.iload_n 2, 1) := by decide +kernel
theorem dX4_fact_6 : decode cX4_fact 6 = .ok (.invokestatic 85, 3) := by decide +kernel
theorem dX4_fact_9 : decode cX4_fact 9 = .ok (.aload_n 0, 1) := by decide +kernel
theorem dX4_fact_10 : decode cX4_fact 10 = .ok (.aload_n 0, 1) := by decide +kernel
theorem dX4_fact_11 : decode cX4_fact 11 = .ok (.iload_n 1, 1) := by decide +kernel
theorem dX4_fact_12 : decode cX4_fact 12 = .ok (.invokevirtual 128, 3) := by decide +kernel
theorem dX4_fact_15 : decode cX4_fact 15 = .ok (.iload_n 2, 1) := by decide +kernel
theorem dX4_fact_16 : decode cX4_fact 16 = .ok (.invokevirtual 171, 3) := by decide +kernel
theorem dX4_fact_19 : decode cX4_fact 19 = .ok (.istore_n 3, 1) := by decide +kernel
theorem dX4_fact_20 : decode cX4_fact 20 = .ok (.iload_n 3, 1) := by decide +kernel
theorem dX4_fact_21 : decode cX4_fact 21 = .ok (.invokestatic 174, 3) := by decide +kernel
theorem dX4_fact_24 : decode cX4_fact 24 = .ok (.aload_n 0, 1) := by decide +kernel
theorem dX4_fact_25 : decode cX4_fact 25 = .ok (.getfield 12, 3) := by decide +kernel
theorem dX4_fact_28 : decode cX4_fact 28 = .ok (.getfield 88, 3) := by decide +kernel
theorem dX4_fact_31 : decode cX4_fact 31 = .ok (.iload_n 2, 1) := by decide +kernel
theorem dX4_fact_32 : decode cX4_fact 32 = .ok (.aaload, 1) := by decide +kernel
theorem dX4_fact_33 : decode cX4_fact 33 = .ok (.iload_n 3, 1) := by decide +kernel
theorem dX4_fact_34 : decode cX4_fact 34 = .ok (.iaload, 1) := by decide +kernel
theorem dX4_fact_35 : decode cX4_fact 35 = .ok (.ireturn, 1) := by decide +kernel
theorem dX4_factByPairs_0 : decode cX4_factByPairs 0 = .ok (.aload_n 0, 1) := by decide +kernel
theorem dX4_factByPairs_1 : decode cX4_factByPairs 1 = .ok (.iload_n 1, 1) := by decide +kernel
theorem dX4_factByPairs_2 : decode cX4_factByPairs 2 = .ok (.invokevirtual 79, 3) := by decide +kernel
theorem dX4_factByPairs_5 : decode cX4_factByPairs 5 = .ok (.iload_n 2, 1) := by decide +kernel
theorem dX4_factByPairs_6 : decode cX4_factByPairs 6 = .ok (.invokestatic 85, 3) := by decide +kernel
theorem dX4_factByPairs_9 : decode cX4_factByPairs 9 = .ok (.aload_n 0, 1) := by decide +kernel
theorem dX4_factByPairs_10 : decode cX4_factByPairs 10 = .ok (.aload_n 0, 1) := by decide +kernel
theorem dX4_factByPairs_11 : decode cX4_factByPairs 11 = .ok (.iload_n 1, 1) := by decide +kernel
theorem dX4_factByPairs_12 : decode cX4_factByPairs 12 = .ok (.invokevirtual 128, 3) := by decide +kernel
theorem dX4_factByPairs_15 : decode cX4_factByPairs 15 = .ok (.iload_n 2, 1) := by decide +kernel
theorem dX4_factByPairs_16 : decode cX4_factByPairs 16 = .ok (.invokevirtual 177, 3) := by decide +kernel
theorem dX4_factByPairs_19 : decode cX4_factByPairs 19 = .ok (.istore_n 3, 1) := by decide +kernel
theorem dX4_factByPairs_20 : decode cX4_factByPairs 20 = .ok (.iload_n 3, 1) := by decide +kernel
theorem dX4_factByPairs_21 : decode cX4_factByPairs 21 = .ok (.invokestatic 174, 3) := by decide +kernel
theorem dX4_factByPairs_24 : decode cX4_factByPairs 24 = .ok (.aload_n 0, 1) := by decide +kernel
theorem dX4_factByPairs_25 : decode cX4_factByPairs 25 = .ok (.getfield 12, 3) := by decide +kernel
theorem dX4_factByPairs_28 : decode cX4_factByPairs 28 = .ok (.getfield 88, 3) := by decide +kernel
theorem dX4_factByPairs_31 : decode cX4_factByPairs 31 = .ok (.iload_n 2, 1) := by decide +kernel
theorem dX4_factByPairs_32 : decode cX4_factByPairs 32 = .ok (.aaload, 1) := by decide +kernel
theorem dX4_factByPairs_33 : decode cX4_factByPairs 33 = .ok (.iload_n 3, 1) := by decide +kernel
theorem dX4_factByPairs_34 : decode cX4_factByPairs 34 = .ok (.iaload, 1) := by decide +kernel
theorem dX4_factByPairs_35 : decode cX4_factByPairs 35 = .ok (.ireturn, 1) := by decide +kernel
theorem dX4_factFrom_0 : decode cX4_factFrom 0 = .ok (.aload_n 0, 1) := by decide +kernel
theorem dX4_factFrom_1 : decode cX4_factFrom 1 = .ok (.iload_n 1, 1) := by decide +kernel
theorem dX4_factFrom_2 : decode cX4_factFrom 2 = .ok (.invokevirtual 79, 3) := by decide +kernel
theorem dX4_factFrom_5 : decode cX4_factFrom 5 = .ok (.iload_n 2, 1) := by decide +kernel
theorem dX4_factFrom_6 : decode cX4_factFrom 6 = .ok (.invokestatic 85, 3) := by decide +kernel
theorem dX4_factFrom_9 : decode cX4_factFrom 9 = .ok (.aload_n 0, 1) := by decide +kernel
theorem dX4_factFrom_10 : decode cX4_factFrom 10 = .ok (.aload_n 0, 1) := by decide +kernel
theorem dX4_factFrom_11 : decode cX4_factFrom 11 = .ok (.iload_n 1, 1) := by decide +kernel
theorem dX4_factFrom_12 : decode cX4_factFrom 12 = .ok (.invokevirtual 128, 3) := by decide +kernel
theorem dX4_factFrom_15 : decode cX4_factFrom 15 = .ok (.iload_n 2, 1) := by decide +kernel
theorem dX4_factFrom_16 : decode cX4_factFrom 16 = .ok (.invokevirtual 171, 3) := by decide +kernel
theorem dX4_factFrom_19 : decode cX4_factFrom 19 = .ok (.istore_n 3, 1) := by decide +kernel
theorem dX4_factFrom_20 : decode cX4_factFrom 20 = .ok (.iload_n 3, 1) := by decide +kernel
theorem dX4_factFrom_21 : decode cX4_factFrom 21 = .ok (.invokestatic 174, 3) := by decide +kernel
theorem dX4_factFrom_24 : decode cX4_factFrom 24 = .ok (.iload_n 3, 1) := by decide +kernel
theorem dX4_factFrom_25 : decode cX4_factFrom 25 = .ok (.ireturn, 1) := by decide +kernel
theorem dX4_agreement_0 : decode cX4_agreement 0 = .ok (.aload_n 0, 1) := by decide +kernel
theorem dX4_agreement_1 : decode cX4_agreement 1 = .ok (.iload_n 1, 1) := by decide +kernel
theorem dX4_agreement_2 : decode cX4_agreement 2 = .ok (.invokevirtual 79, 3) := by decide +kernel
theorem dX4_agreement_5 : decode cX4_agreement 5 = .ok (.iload_n 2, 1) := by decide +kernel
theorem dX4_agreement_6 : decode cX4_agreement 6 = .ok (.invokestatic 85, 3) := by decide +kernel
theorem dX4_agreement_9 : decode cX4_agreement 9 = .ok (.aload_n 0, 1) := by decide +kernel
theorem dX4_agreement_10 : decode cX4_agreement 10 = .ok (.iload_n 1, 1) := by decide +kernel
theorem dX4_agreement_11 : decode cX4_agreement 11 = .ok (.invokevirtual 128, 3) := by decide +kernel
theorem dX4_agreement_14 : decode cX4_agreement 14 = .ok (.istore_n 3, 1) := by decide +kernel
theorem dX4_agreement_15 : decode cX4_agreement 15 = .ok (.aload_n 0, 1) := by decide +kernel
theorem dX4_agreement_16 : decode cX4_agreement 16 = .ok (.iload_n 3, 1) := by decide +kernel
theorem dX4_agreement_17 : decode cX4_agreement 17 = .ok (.iload_n 2, 1) := by decide +kernel
theorem dX4_agreement_18 : decode cX4_agreement 18 = .ok (.invokevirtual 171, 3) := by decide +kernel
theorem dX4_agreement_21 : decode cX4_agreement 21 = .ok (.istore 4, 2) := by decide +kernel
theorem dX4_agreement_23 : decode cX4_agreement 23 = .ok (.iload 4, 2) := by decide +kernel
theorem dX4_agreement_25 : decode cX4_agreement 25 = .ok (.invokestatic 174, 3) := by decide +kernel
theorem dX4_agreement_28 : decode cX4_agreement 28 = .ok (.iconst 0, 1) := by decide +kernel
theorem dX4_agreement_29 : decode cX4_agreement 29 = .ok (.istore 5, 2) := by decide +kernel
theorem dX4_agreement_31 : decode cX4_agreement 31 = .ok (.iconst 0, 1) := by decide +kernel
theorem dX4_agreement_32 : decode cX4_agreement 32 = .ok (.istore 6, 2) := by decide +kernel
theorem dX4_agreement_34 : decode cX4_agreement 34 = .ok (.iconst 0, 1) := by decide +kernel
theorem dX4_agreement_35 : decode cX4_agreement 35 = .ok (.istore 7, 2) := by decide +kernel
theorem dX4_agreement_37 : decode cX4_agreement 37 = .ok (.iload 7, 2) := by decide +kernel
theorem dX4_agreement_39 : decode cX4_agreement 39 = .ok (.aload_n 0, 1) := by decide +kernel
theorem dX4_agreement_40 : decode cX4_agreement 40 = .ok (.getfield 12, 3) := by decide +kernel
theorem dX4_agreement_43 : decode cX4_agreement 43 = .ok (.getfield 63, 3) := by decide +kernel
theorem dX4_agreement_46 : decode cX4_agreement 46 = .ok (.if_icmp .ge 60, 3) := by decide +kernel
theorem dX4_agreement_49 : decode cX4_agreement 49 = .ok (.aload_n 0, 1) := by decide +kernel
theorem dX4_agreement_50 : decode cX4_agreement 50 = .ok (.iload 7, 2) := by decide +kernel
theorem dX4_agreement_52 : decode cX4_agreement 52 = .ok (.iload_n 3, 1) := by decide +kernel
theorem dX4_agreement_53 : decode cX4_agreement 53 = .ok (.iload_n 2, 1) := by decide +kernel
theorem dX4_agreement_54 : decode cX4_agreement 54 = .ok (.invokevirtual 180, 3) := by decide +kernel
theorem dX4_agreement_57 : decode cX4_agreement 57 = .ok (.ifCond .eq 43, 3) := by decide +kernel
theorem dX4_agreement_60 : decode cX4_agreement 60 = .ok (.iinc 5 1, 3) := by decide +kernel
theorem dX4_agreement_63 : decode cX4_agreement 63 = .ok (.iload 6, 2) := by decide +kernel
theorem dX4_agreement_65 : decode cX4_agreement 65 = .ok (.aload_n 0, 1) := by decide +kernel
theorem dX4_agreement_66 : decode cX4_agreement 66 = .ok (.getfield 12, 3) := by decide +kernel
theorem dX4_agreement_69 : decode cX4_agreement 69 = .ok (.getfield 88, 3) := by decide +kernel
theorem dX4_agreement_72 : decode cX4_agreement 72 = .ok (.iload_n 2, 1) := by decide +kernel
theorem dX4_agreement_73 : decode cX4_agreement 73 = .ok (.aaload, 1) := by decide +kernel
theorem dX4_agreement_74 : decode cX4_agreement 74 = .ok (.iload 7, 2) := by decide +kernel
theorem dX4_agreement_76 : decode cX4_agreement 76 = .ok (.iaload, 1) := by decide +kernel
theorem dX4_agreement_77 : decode cX4_agreement 77 = .ok (.aload_n 0, 1) := by decide +kernel
theorem dX4_agreement_78 : decode cX4_agreement 78 = .ok (.getfield 12, 3) := by decide +kernel
theorem dX4_agreement_81 : decode cX4_agreement 81 = .ok (.getfield 88, 3) := by decide +kernel
theorem dX4_agreement_84 : decode cX4_agreement 84 = .ok (.iload_n 2, 1) := by decide +kernel
theorem dX4_agreement_85 : decode cX4_agreement 85 = .ok (.aaload, 1) := by decide +kernel
theorem dX4_agreement_86 : decode cX4_agreement 86 = .ok (.iload 4, 2) := by decide +kernel
theorem dX4_agreement_88 : decode cX4_agreement 88 = .ok (.iaload, 1) := by decide +kernel
theorem dX4_agreement_89 : decode cX4_agreement 89 = .ok (.if_icmp .ne 7, 3) := by decide +kernel
theorem dX4_agreement_92 : decode cX4_agreement 92 = .ok (.iconst 1, 1) := by decide +kernel
theorem dX4_agreement_93 : decode cX4_agreement 93 = .ok (.goto 4, 3) := by decide +kernel
theorem dX4_agreement_96 : decode cX4_agreement 96 = .ok (.iconst 0, 1) := by decide +kernel
theorem dX4_agreement_97 : decode cX4_agreement 97 = .ok (.iadd, 1) := by decide +kernel
theorem dX4_agreement_98 : decode cX4_agreement 98 = .ok (.istore 6, 2) := by decide +kernel
theorem dX4_agreement_100 : decode cX4_agreement 100 = .ok (.iinc 7 1, 3) := by decide +kernel
theorem dX4_agreement_103 : decode cX4_agreement 103 = .ok (.goto (-66), 3) := by decide +kernel
theorem dX4_agreement_106 : decode cX4_agreement 106 = .ok (.iload 5, 2) := by decide +kernel
theorem dX4_agreement_108 : decode cX4_agreement 108 = .ok (.ifCond .ne 7, 3) := by decide +kernel
theorem dX4_agreement_111 : decode cX4_agreement 111 = .ok (.fconst 0, 1) := by decide +kernel
theorem dX4_agreement_112 : decode cX4_agreement 112 = .ok (.goto 10, 3) := by decide +kernel
theorem dX4_agreement_115 : decode cX4_agreement 115 = .ok (.iload 6, 2) := by decide +kernel
theorem dX4_agreement_117 : decode cX4_agreement 117 = .ok (.i2f, 1) := by decide +kernel
theorem dX4_agreement_118 : decode cX4_agreement 118 = .ok (.iload 5, 2) := by decide +kernel
theorem dX4_agreement_120 : decode cX4_agreement 120 = .ok (.i2f, 1) := by decide +kernel
theorem dX4_agreement_121 : decode cX4_agreement 121 = .ok (.fdiv, 1) := by decide +kernel
theorem dX4_agreement_122 : decode cX4_agreement 122 = .ok (.freturn, 1) := by decide +kernel
theorem dX4_setLimit_0 : decode cX4_setLimit 0 = .ok (.iload_n 1, 1) := by decide +kernel
theorem dX4_setLimit_1 : decode cX4_setLimit 1 = .ok (.iconst 1, 1) := by decide +kernel
theorem dX4_setLimit_2 : decode cX4_setLimit 2 = .ok (.bipush 99, 2) := by decide +kernel
theorem dX4_setLimit_4 : decode cX4_setLimit 4 = .ok (.invokestatic 38, 3) := by decide +kernel
theorem dX4_setLimit_7 : decode cX4_setLimit 7 = .ok (.aload_n 0, 1) := by decide +kernel
theorem dX4_setLimit_8 : decode cX4_setLimit 8 = .ok (.getfield 34, 3) := by decide +kernel
theorem dX4_setLimit_11 : decode cX4_setLimit 11 = .ok (.istore_n 2, 1) := by decide +kernel
theorem dX4_setLimit_12 : decode cX4_setLimit 12 = .ok (.aload_n 0, 1) := by decide +kernel
theorem dX4_setLimit_13 : decode cX4_setLimit 13 = .ok (.iload_n 1, 1) := by decide +kernel
theorem dX4_setLimit_14 : decode cX4_setLimit 14 = .ok (.putfield 34, 3) := by decide +kernel
theorem dX4_setLimit_17 : decode cX4_setLimit 17 = .ok (.iload_n 2, 1) := by decide +kernel
theorem dX4_setLimit_18 : decode cX4_setLimit 18 = .ok (.ireturn, 1) := by decide +kernel
theorem dX4_isGhost_0 : decode cX4_isGhost 0 = .ok (.aload_n 0, 1) := by decide +kernel
theorem dX4_isGhost_1 : decode cX4_isGhost 1 = .ok (.iload_n 1, 1) := by decide +kernel
theorem dX4_isGhost_2 : decode cX4_isGhost 2 = .ok (.invokevirtual 79, 3) := by decide +kernel
theorem dX4_isGhost_5 : decode cX4_isGhost 5 = .ok (.aload_n 0, 1) := by decide +kernel
theorem dX4_isGhost_6 : decode cX4_isGhost 6 = .ok (.aload_n 0, 1) := by decide +kernel
theorem dX4_isGhost_7 : decode cX4_isGhost 7 = .ok (.iload_n 1, 1) := by decide +kernel
theorem dX4_isGhost_8 : decode cX4_isGhost 8 = .ok (.invokevirtual 128, 3) := by decide +kernel
theorem dX4_isGhost_11 : decode cX4_isGhost 11 = .ok (.aload_n 0, 1) := by decide +kernel
theorem dX4_isGhost_12 : decode cX4_isGhost 12 = .ok (.getfield 68, 3) := by decide +kernel
theorem dX4_isGhost_15 : decode cX4_isGhost 15 = .ok (.invokevirtual 184, 3) := by decide +kernel
theorem dX4_isGhost_18 : decode cX4_isGhost 18 = .ok (.ireturn, 1) := by decide +kernel
theorem dX4_ghosts_0 : decode cX4_ghosts 0 = .ok (.aload_n 0, 1) := by decide +kernel
theorem dX4_ghosts_1 : decode cX4_ghosts 1 = .ok (.getfield 19, 3) := by decide +kernel
theorem dX4_ghosts_4 : decode cX4_ghosts 4 = .ok (.aload_n 0, 1) := by decide +kernel
theorem dX4_ghosts_5 : decode cX4_ghosts 5 = .ok (.getfield 12, 3) := by decide +kernel
theorem dX4_ghosts_8 : decode cX4_ghosts 8 = .ok (.invokevirtual 158, 3) := by decide +kernel
theorem dX4_ghosts_11 : decode cX4_ghosts 11 = .ok (.iconst 0, 1) := by decide +kernel
theorem dX4_ghosts_12 : decode cX4_ghosts 12 = .ok (.istore_n 1, 1) := by decide +kernel
theorem dX4_ghosts_13 : decode cX4_ghosts 13 = .ok (.iconst 0, 1) := by decide +kernel
theorem dX4_ghosts_14 : decode cX4_ghosts 14 = .ok (.istore_n 2, 1) := by decide +kernel
theorem dX4_ghosts_15 : decode cX4_ghosts 15 = .ok (.iload_n 2, 1) := by decide +kernel
theorem dX4_ghosts_16 : decode cX4_ghosts 16 = .ok (.aload_n 0, 1) := by decide +kernel
theorem dX4_ghosts_17 : decode cX4_ghosts 17 = .ok (.getfield 12, 3) := by decide +kernel
theorem dX4_ghosts_20 : decode cX4_ghosts 20 = .ok (.getfield 63, 3) := by decide +kernel
theorem dX4_ghosts_23 : decode cX4_ghosts 23 = .ok (.if_icmp .ge 32, 3) := by decide +kernel
theorem dX4_ghosts_26 : decode cX4_ghosts 26 = .ok (.aload_n 0, 1) := by decide +kernel
theorem dX4_ghosts_27 : decode cX4_ghosts 27 = .ok (.iload_n 2, 1) := by decide +kernel
theorem dX4_ghosts_28 : decode cX4_ghosts 28 = .ok (.invokevirtual 187, 3) := by decide +kernel
theorem dX4_ghosts_31 : decode cX4_ghosts 31 = .ok (.ifCond .eq 18, 3) := by decide +kernel
theorem dX4_ghosts_34 : decode cX4_ghosts 34 = .ok (.aload_n 0, 1) := by decide +kernel
theorem dX4_ghosts_35 : decode cX4_ghosts 35 = .ok (.iload_n 2, 1) := by decide +kernel
theorem dX4_ghosts_36 : decode cX4_ghosts 36 = .ok (.aload_n 0, 1) := by decide +kernel
theorem dX4_ghosts_37 : decode cX4_ghosts 37 = .ok (.getfield 68, 3) := by decide +kernel
theorem dX4_ghosts_40 : decode cX4_ghosts 40 = .ok (.invokevirtual 184, 3) := by decide +kernel
theorem dX4_ghosts_43 : decode cX4_ghosts 43 = .ok (.ifCond .eq 6, 3) := by decide +kernel
theorem dX4_ghosts_46 : decode cX4_ghosts 46 = .ok (.iinc 1 1, 3) := by decide +kernel
theorem dX4_ghosts_49 : decode cX4_ghosts 49 = .ok (.iinc 2 1, 3) := by decide +kernel
theorem dX4_ghosts_52 : decode cX4_ghosts 52 = .ok (.goto (-37), 3) := by decide +kernel
theorem dX4_ghosts_55 : decode cX4_ghosts 55 = .ok (.iload_n 1, 1) := by decide +kernel
theorem dX4_ghosts_56 : decode cX4_ghosts 56 = .ok (.ireturn, 1) := by decide +kernel
theorem dX4_nextGhost_0 : decode cX4_nextGhost 0 = .ok (.aload_n 0, 1) := by decide +kernel
theorem dX4_nextGhost_1 : decode cX4_nextGhost 1 = .ok (.getfield 19, 3) := by decide +kernel
theorem dX4_nextGhost_4 : decode cX4_nextGhost 4 = .ok (.aload_n 0, 1) := by decide +kernel
theorem dX4_nextGhost_5 : decode cX4_nextGhost 5 = .ok (.getfield 12, 3) := by decide +kernel
theorem dX4_nextGhost_8 : decode cX4_nextGhost 8 = .ok (.invokevirtual 158, 3) := by decide +kernel
theorem dX4_nextGhost_11 : decode cX4_nextGhost 11 = .ok (.iconst (-1), 1) := by decide +kernel
theorem dX4_nextGhost_12 : decode cX4_nextGhost 12 = .ok (.istore_n 1, 1) := by decide +kernel
theorem dX4_nextGhost_13 : decode cX4_nextGhost 13 = .ok (.iconst 0, 1) := by decide +kernel
theorem dX4_nextGhost_14 : decode cX4_nextGhost 14 = .ok (.istore_n 2, 1) := by decide +kernel
theorem dX4_nextGhost_15 : decode cX4_nextGhost 15 = .ok (.iload_n 2, 1) := by decide +kernel
theorem dX4_nextGhost_16 : decode cX4_nextGhost 16 = .ok (.aload_n 0, 1) := by decide +kernel
theorem dX4_nextGhost_17 : decode cX4_nextGhost 17 = .ok (.getfield 12, 3) := by decide +kernel
theorem dX4_nextGhost_20 : decode cX4_nextGhost 20 = .ok (.getfield 63, 3) := by decide +kernel
theorem dX4_nextGhost_23 : decode cX4_nextGhost 23 = .ok (.if_icmp .ge 57, 3) := by decide +kernel
theorem dX4_nextGhost_26 : decode cX4_nextGhost 26 = .ok (.aload_n 0, 1) := by decide +kernel
theorem dX4_nextGhost_27 : decode cX4_nextGhost 27 = .ok (.iload_n 2, 1) := by decide +kernel
theorem dX4_nextGhost_28 : decode cX4_nextGhost 28 = .ok (.invokevirtual 187, 3) := by decide +kernel
theorem dX4_nextGhost_31 : decode cX4_nextGhost 31 = .ok (.ifCond .eq 43, 3) := by decide +kernel
theorem dX4_nextGhost_34 : decode cX4_nextGhost 34 = .ok (.aload_n 0, 1) := by decide +kernel
theorem dX4_nextGhost_35 : decode cX4_nextGhost 35 = .ok (.iload_n 2, 1) := by decide +kernel
theorem dX4_nextGhost_36 : decode cX4_nextGhost 36 = .ok (.invokevirtual 191, 3) := by decide +kernel
theorem dX4_nextGhost_39 : decode cX4_nextGhost 39 = .ok (.aload_n 0, 1) := by decide +kernel
theorem dX4_nextGhost_40 : decode cX4_nextGhost 40 = .ok (.getfield 34, 3) := by decide +kernel
theorem dX4_nextGhost_43 : decode cX4_nextGhost 43 = .ok (.iadd, 1) := by decide +kernel
theorem dX4_nextGhost_44 : decode cX4_nextGhost 44 = .ok (.iconst 1, 1) := by decide +kernel
theorem dX4_nextGhost_45 : decode cX4_nextGhost 45 = .ok (.iadd, 1) := by decide +kernel
theorem dX4_nextGhost_46 : decode cX4_nextGhost 46 = .ok (.istore_n 3, 1) := by decide +kernel
theorem dX4_nextGhost_47 : decode cX4_nextGhost 47 = .ok (.iload_n 3, 1) := by decide +kernel
theorem dX4_nextGhost_48 : decode cX4_nextGhost 48 = .ok (.aload_n 0, 1) := by decide +kernel
theorem dX4_nextGhost_49 : decode cX4_nextGhost 49 = .ok (.getfield 68, 3) := by decide +kernel
theorem dX4_nextGhost_52 : decode cX4_nextGhost 52 = .ok (.if_icmp .le 22, 3) := by decide +kernel
theorem dX4_nextGhost_55 : decode cX4_nextGhost 55 = .ok (.iload_n 3, 1) := by decide +kernel
theorem dX4_nextGhost_56 : decode cX4_nextGhost 56 = .ok (.sipush 999, 3) := by decide +kernel
theorem dX4_nextGhost_59 : decode cX4_nextGhost 59 = .ok (.if_icmp .gt 15, 3) := by decide +kernel
theorem dX4_nextGhost_62 : decode cX4_nextGhost 62 = .ok (.iload_n 1, 1) := by decide +kernel
theorem dX4_nextGhost_63 : decode cX4_nextGhost 63 = .ok (.iconst (-1), 1) := by decide +kernel
theorem dX4_nextGhost_64 : decode cX4_nextGhost 64 = .ok (.if_icmp .eq 8, 3) := by decide +kernel
theorem dX4_nextGhost_67 : decode cX4_nextGhost 67 = .ok (.iload_n 3, 1) := by decide +kernel
theorem dX4_nextGhost_68 : decode cX4_nextGhost 68 = .ok (.iload_n 1, 1) := by decide +kernel
theorem dX4_nextGhost_69 : decode cX4_nextGhost 69 = .ok (.if_icmp .ge 5, 3) := by decide +kernel
theorem dX4_nextGhost_72 : decode cX4_nextGhost 72 = .ok (.iload_n 3, 1) := by decide +kernel
theorem dX4_nextGhost_73 : decode cX4_nextGhost 73 = .ok (.istore_n 1, 1) := by decide +kernel
theorem dX4_nextGhost_74 : decode cX4_nextGhost 74 = .ok (.iinc 2 1, 3) := by decide +kernel
theorem dX4_nextGhost_77 : decode cX4_nextGhost 77 = .ok (.goto (-62), 3) := by decide +kernel
theorem dX4_nextGhost_80 : decode cX4_nextGhost 80 = .ok (.iload_n 1, 1) := by decide +kernel
theorem dX4_nextGhost_81 : decode cX4_nextGhost 81 = .ok (.ireturn, 1) := by decide +kernel
theorem dX4_nextGhostByDays_0 : decode cX4_nextGhostByDays 0 = .ok (.aload_n 0, 1) := by decide +kernel
theorem dX4_nextGhostByDays_1 : decode cX4_nextGhostByDays 1 = .ok (.getfield 19, 3) := by decide +kernel
theorem dX4_nextGhostByDays_4 : decode cX4_nextGhostByDays 4 = .ok (.aload_n 0, 1) := by decide +kernel
theorem dX4_nextGhostByDays_5 : decode cX4_nextGhostByDays 5 = .ok (.getfield 12, 3) := by decide +kernel
theorem dX4_nextGhostByDays_8 : decode cX4_nextGhostByDays 8 = .ok (.invokevirtual 158, 3) := by decide +kernel
theorem dX4_nextGhostByDays_11 : decode cX4_nextGhostByDays 11 = .ok (.sipush 999, 3) := by decide +kernel
theorem dX4_nextGhostByDays_14 : decode cX4_nextGhostByDays 14 = .ok (.aload_n 0, 1) := by decide +kernel
theorem dX4_nextGhostByDays_15 : decode cX4_nextGhostByDays 15 = .ok (.getfield 68, 3) := by decide +kernel
theorem dX4_nextGhostByDays_18 : decode cX4_nextGhostByDays 18 = .ok (.aload_n 0, 1) := by decide +kernel
theorem dX4_nextGhostByDays_19 : decode cX4_nextGhostByDays 19 = .ok (.getfield 34, 3) := by decide +kernel
theorem dX4_nextGhostByDays_22 : decode cX4_nextGhostByDays 22 = .ok (.iadd, 1) := by decide +kernel
theorem dX4_nextGhostByDays_23 : decode cX4_nextGhostByDays 23 = .ok (.iconst 1, 1) := by decide +kernel
theorem dX4_nextGhostByDays_24 : decode cX4_nextGhostByDays 24 = .ok (.iadd, 1) := by decide +kernel
theorem dX4_nextGhostByDays_25 : decode cX4_nextGhostByDays 25 = .ok (.invokestatic 194, 3) := by decide +kernel
theorem dX4_nextGhostByDays_28 : decode cX4_nextGhostByDays 28 = .ok (.istore_n 1, 1) := by decide +kernel
theorem dX4_nextGhostByDays_29 : decode cX4_nextGhostByDays 29 = .ok (.aload_n 0, 1) := by decide +kernel
theorem dX4_nextGhostByDays_30 : decode cX4_nextGhostByDays 30 = .ok (.getfield 68, 3) := by decide +kernel
theorem dX4_nextGhostByDays_33 : decode cX4_nextGhostByDays 33 = .ok (.iconst 1, 1) := by decide +kernel
theorem dX4_nextGhostByDays_34 : decode cX4_nextGhostByDays 34 = .ok (.iadd, 1) := by decide +kernel
theorem dX4_nextGhostByDays_35 : decode cX4_nextGhostByDays 35 = .ok (.istore_n 2, 1) := by decide +kernel
theorem dX4_nextGhostByDays_36 : decode cX4_nextGhostByDays 36 = .ok (.iload_n 2, 1) := by decide +kernel
theorem dX4_nextGhostByDays_37 : decode cX4_nextGhostByDays 37 = .ok (.iload_n 1, 1) := by decide +kernel
theorem dX4_nextGhostByDays_38 : decode cX4_nextGhostByDays 38 = .ok (.if_icmp .gt 19, 3) := by decide +kernel
theorem dX4_nextGhostByDays_41 : decode cX4_nextGhostByDays 41 = .ok (.aload_n 0, 1) := by decide +kernel
theorem dX4_nextGhostByDays_42 : decode cX4_nextGhostByDays 42 = .ok (.iload_n 2, 1) := by decide +kernel
theorem dX4_nextGhostByDays_43 : decode cX4_nextGhostByDays 43 = .ok (.invokevirtual 199, 3) := by decide +kernel
theorem dX4_nextGhostByDays_46 : decode cX4_nextGhostByDays 46 = .ok (.ifCond .eq 5, 3) := by decide +kernel
theorem dX4_nextGhostByDays_49 : decode cX4_nextGhostByDays 49 = .ok (.iload_n 2, 1) := by decide +kernel
theorem dX4_nextGhostByDays_50 : decode cX4_nextGhostByDays 50 = .ok (.ireturn, 1) := by decide +kernel
theorem dX4_nextGhostByDays_51 : decode cX4_nextGhostByDays 51 = .ok (.iinc 2 1, 3) := by decide +kernel
theorem dX4_nextGhostByDays_54 : decode cX4_nextGhostByDays 54 = .ok (.goto (-18), 3) := by decide +kernel
theorem dX4_nextGhostByDays_57 : decode cX4_nextGhostByDays 57 = .ok (.iconst (-1), 1) := by decide +kernel
theorem dX4_nextGhostByDays_58 : decode cX4_nextGhostByDays 58 = .ok (.ireturn, 1) := by decide +kernel
theorem dX4_pass_0 : decode cX4_pass 0 = .ok (.iload_n 1, 1) := by decide +kernel
theorem dX4_pass_1 : decode cX4_pass 1 = .ok (.iconst 1, 1) := by decide +kernel
theorem dX4_pass_2 : decode cX4_pass 2 = .ok (.bipush 99, 2) := by decide +kernel
theorem dX4_pass_4 : decode cX4_pass 4 = .ok (.invokestatic 38, 3) := by decide +kernel
theorem dX4_pass_7 : decode cX4_pass 7 = .ok (.aload_n 0, 1) := by decide +kernel
theorem dX4_pass_8 : decode cX4_pass 8 = .ok (.getfield 68, 3) := by decide +kernel
theorem dX4_pass_11 : decode cX4_pass 11 = .ok (.iload_n 1, 1) := by decide +kernel
theorem dX4_pass_12 : decode cX4_pass 12 = .ok (.iadd, 1) := by decide +kernel
theorem dX4_pass_13 : decode cX4_pass 13 = .ok (.iconst 0, 1) := by decide +kernel
theorem dX4_pass_14 : decode cX4_pass 14 = .ok (.sipush 999, 3) := by decide +kernel
theorem dX4_pass_17 : decode cX4_pass 17 = .ok (.invokestatic 38, 3) := by decide +kernel
theorem dX4_pass_20 : decode cX4_pass 20 = .ok (.aload_n 0, 1) := by decide +kernel
theorem dX4_pass_21 : decode cX4_pass 21 = .ok (.dup, 1) := by decide +kernel
theorem dX4_pass_22 : decode cX4_pass 22 = .ok (.getfield 68, 3) := by decide +kernel
theorem dX4_pass_25 : decode cX4_pass 25 = .ok (.iload_n 1, 1) := by decide +kernel
theorem dX4_pass_26 : decode cX4_pass 26 = .ok (.iadd, 1) := by decide +kernel
theorem dX4_pass_27 : decode cX4_pass 27 = .ok (.putfield 68, 3) := by decide +kernel
theorem dX4_pass_30 : decode cX4_pass 30 = .ok (.aload_n 0, 1) := by decide +kernel
theorem dX4_pass_31 : decode cX4_pass 31 = .ok (.getfield 68, 3) := by decide +kernel
theorem dX4_pass_34 : decode cX4_pass 34 = .ok (.ireturn, 1) := by decide +kernel
theorem dX4_today_0 : decode cX4_today 0 = .ok (.aload_n 0, 1) := by decide +kernel
theorem dX4_today_1 : decode cX4_today 1 = .ok (.getfield 68, 3) := by decide +kernel
theorem dX4_today_4 : decode cX4_today 4 = .ok (.ireturn, 1) := by decide +kernel
theorem dX4_mark_0 : decode cX4_mark 0 = .ok (.aload_n 0, 1) := by decide +kernel
theorem dX4_mark_1 : decode cX4_mark 1 = .ok (.getfield 19, 3) := by decide +kernel
theorem dX4_mark_4 : decode cX4_mark 4 = .ok (.aload_n 0, 1) := by decide +kernel
theorem dX4_mark_5 : decode cX4_mark 5 = .ok (.getfield 12, 3) := by decide +kernel
theorem dX4_mark_8 : decode cX4_mark 8 = .ok (.invokevirtual 158, 3) := by decide +kernel
theorem dX4_mark_11 : decode cX4_mark 11 = .ok (.lconst 0, 1) := by decide +kernel
theorem dX4_mark_12 : decode cX4_mark 12 = .ok (.lstore_n 1, 1) := by decide +kernel
theorem dX4_mark_13 : decode cX4_mark 13 = .ok (.iconst 0, 1) := by decide +kernel
theorem dX4_mark_14 : decode cX4_mark 14 = .ok (.istore_n 3, 1) := by decide +kernel
theorem dX4_mark_15 : decode cX4_mark 15 = .ok (.iload_n 3, 1) := by decide +kernel
theorem dX4_mark_16 : decode cX4_mark 16 = .ok (.aload_n 0, 1) := by decide +kernel
theorem dX4_mark_17 : decode cX4_mark 17 = .ok (.getfield 12, 3) := by decide +kernel
theorem dX4_mark_20 : decode cX4_mark 20 = .ok (.getfield 63, 3) := by decide +kernel
theorem dX4_mark_23 : decode cX4_mark 23 = .ok (.if_icmp .ge 42, 3) := by decide +kernel
theorem dX4_mark_26 : decode cX4_mark 26 = .ok (.aload_n 0, 1) := by decide +kernel
theorem dX4_mark_27 : decode cX4_mark 27 = .ok (.iload_n 3, 1) := by decide +kernel
theorem dX4_mark_28 : decode cX4_mark 28 = .ok (.invokevirtual 187, 3) := by decide +kernel
theorem dX4_mark_31 : decode cX4_mark 31 = .ok (.ifCond .eq 28, 3) := by decide +kernel
theorem dX4_mark_34 : decode cX4_mark 34 = .ok (.aload_n 0, 1) := by decide +kernel
theorem dX4_mark_35 : decode cX4_mark 35 = .ok (.iload_n 3, 1) := by decide +kernel
theorem dX4_mark_36 : decode cX4_mark 36 = .ok (.invokevirtual 141, 3) := by decide +kernel
theorem dX4_mark_39 : decode cX4_mark 39 = .ok (.i2l, 1) := by decide +kernel
theorem dX4_mark_40 : decode cX4_mark 40 = .ok (.lstore 4, 2) := by decide +kernel
theorem dX4_mark_42 : decode cX4_mark 42 = .ok (.lload_n 1, 1) := by decide +kernel
theorem dX4_mark_43 : decode cX4_mark 43 = .ok (.lload 4, 2) := by decide +kernel
theorem dX4_mark_45 : decode cX4_mark 45 = .ok (.lload 4, 2) := by decide +kernel
theorem dX4_mark_47 : decode cX4_mark 47 = .ok (.lmul, 1) := by decide +kernel
theorem dX4_mark_48 : decode cX4_mark 48 = .ok (.aload_n 0, 1) := by decide +kernel
theorem dX4_mark_49 : decode cX4_mark 49 = .ok (.iload_n 3, 1) := by decide +kernel
theorem dX4_mark_50 : decode cX4_mark 50 = .ok (.invokevirtual 202, 3) := by decide +kernel
theorem dX4_mark_53 : decode cX4_mark 53 = .ok (.i2l, 1) := by decide +kernel
theorem dX4_mark_54 : decode cX4_mark 54 = .ok (.lmul, 1) := by decide +kernel
theorem dX4_mark_55 : decode cX4_mark 55 = .ok (.lconst 1, 1) := by decide +kernel
theorem dX4_mark_56 : decode cX4_mark 56 = .ok (.ladd, 1) := by decide +kernel
theorem dX4_mark_57 : decode cX4_mark 57 = .ok (.ladd, 1) := by decide +kernel
theorem dX4_mark_58 : decode cX4_mark 58 = .ok (.lstore_n 1, 1) := by decide +kernel
theorem dX4_mark_59 : decode cX4_mark 59 = .ok (.iinc 3 1, 3) := by decide +kernel
theorem dX4_mark_62 : decode cX4_mark 62 = .ok (.goto (-47), 3) := by decide +kernel
theorem dX4_mark_65 : decode cX4_mark 65 = .ok (.lload_n 1, 1) := by decide +kernel
theorem dX4_mark_66 : decode cX4_mark 66 = .ok (.lreturn, 1) := by decide +kernel
theorem dX4_checkSource_0 : decode cX4_checkSource 0 = .ok (.iload_n 1, 1) := by decide +kernel
theorem dX4_checkSource_1 : decode cX4_checkSource 1 = .ok (.ifCond .lt 14, 3) := by decide +kernel
theorem dX4_checkSource_4 : decode cX4_checkSource 4 = .ok (.iload_n 1, 1) := by decide +kernel
theorem dX4_checkSource_5 : decode cX4_checkSource 5 = .ok (.aload_n 0, 1) := by decide +kernel
theorem dX4_checkSource_6 : decode cX4_checkSource 6 = .ok (.getfield 12, 3) := by decide +kernel
theorem dX4_checkSource_9 : decode cX4_checkSource 9 = .ok (.getfield 42, 3) := by decide +kernel
theorem dX4_checkSource_12 : decode cX4_checkSource 12 = .ok (.if_icmp .lt 13, 3) := by decide +kernel
theorem dX4_checkSource_15 : decode cX4_checkSource 15 = .ok (.new 205, 3) := by decide +kernel
theorem dX4_checkSource_18 : decode cX4_checkSource 18 = .ok (.dup, 1) := by decide +kernel
theorem dX4_checkSource_19 : decode cX4_checkSource 19 = .ok (.ldc 207, 2) := by decide +kernel
theorem dX4_checkSource_21 : decode cX4_checkSource 21 = .ok (.invokespecial 209, 3) := by decide +kernel
theorem dX4_checkSource_24 : decode cX4_checkSource 24 = .ok (.athrow, 1) := by decide +kernel
theorem dX4_checkSource_25 : decode cX4_checkSource 25 = .ok (.return_, 1) := by decide +kernel
theorem dX4_checkRecord_0 : decode cX4_checkRecord 0 = .ok (.aload_n 0, 1) := by decide +kernel
theorem dX4_checkRecord_1 : decode cX4_checkRecord 1 = .ok (.getfield 12, 3) := by decide +kernel
theorem dX4_checkRecord_4 : decode cX4_checkRecord 4 = .ok (.iload_n 1, 1) := by decide +kernel
theorem dX4_checkRecord_5 : decode cX4_checkRecord 5 = .ok (.invokevirtual 210, 3) := by decide +kernel
theorem dX4_checkRecord_8 : decode cX4_checkRecord 8 = .ok (.ifCond .ne 13, 3) := by decide +kernel
theorem dX4_checkRecord_11 : decode cX4_checkRecord 11 = .ok (.new 205, 3) := by decide +kernel
theorem dX4_checkRecord_14 : decode cX4_checkRecord 14 = .ok (.dup, 1) := by decide +kernel
theorem dX4_checkRecord_15 : decode cX4_checkRecord 15 = .ok (.ldc 213, 2) := by decide +kernel
theorem dX4_checkRecord_17 : decode cX4_checkRecord 17 = .ok (.invokespecial 209, 3) := by decide +kernel
theorem dX4_checkRecord_20 : decode cX4_checkRecord 20 = .ok (.athrow, 1) := by decide +kernel
theorem dX4_checkRecord_21 : decode cX4_checkRecord 21 = .ok (.return_, 1) := by decide +kernel
theorem dX4_checkKind_0 : decode cX4_checkKind 0 = .ok (.iload_n 0, 1) := by decide +kernel
theorem dX4_checkKind_1 : decode cX4_checkKind 1 = .ok (.ifCond .lt 8, 3) := by decide +kernel
theorem dX4_checkKind_4 : decode cX4_checkKind 4 = .ok (.iload_n 0, 1) := by decide +kernel
theorem dX4_checkKind_5 : decode cX4_checkKind 5 = .ok (.iconst 3, 1) := by decide +kernel
theorem dX4_checkKind_6 : decode cX4_checkKind 6 = .ok (.if_icmp .lt 13, 3) := by decide +kernel
theorem dX4_checkKind_9 : decode cX4_checkKind 9 = .ok (.new 205, 3) := by decide +kernel
theorem dX4_checkKind_12 : decode cX4_checkKind 12 = .ok (.dup, 1) := by decide +kernel
theorem dX4_checkKind_13 : decode cX4_checkKind 13 = .ok (.ldc 215, 2) := by decide +kernel
theorem dX4_checkKind_15 : decode cX4_checkKind 15 = .ok (.invokespecial 209, 3) := by decide +kernel
theorem dX4_checkKind_18 : decode cX4_checkKind 18 = .ok (.athrow, 1) := by decide +kernel
theorem dX4_checkKind_19 : decode cX4_checkKind 19 = .ok (.return_, 1) := by decide +kernel
theorem dX4_checkField_0 : decode cX4_checkField 0 = .ok (.iload_n 0, 1) := by decide +kernel
theorem dX4_checkField_1 : decode cX4_checkField 1 = .ok (.ifCond .lt 8, 3) := by decide +kernel
theorem dX4_checkField_4 : decode cX4_checkField 4 = .ok (.iload_n 0, 1) := by decide +kernel
theorem dX4_checkField_5 : decode cX4_checkField 5 = .ok (.iconst 3, 1) := by decide +kernel
theorem dX4_checkField_6 : decode cX4_checkField 6 = .ok (.if_icmp .lt 13, 3) := by decide +kernel
theorem dX4_checkField_9 : decode cX4_checkField 9 = .ok (.new 205, 3) := by decide +kernel
theorem dX4_checkField_12 : decode cX4_checkField 12 = .ok (.dup, 1) := by decide +kernel
theorem dX4_checkField_13 : decode cX4_checkField 13 = .ok (.ldc 217, 2) := by decide +kernel
theorem dX4_checkField_15 : decode cX4_checkField 15 = .ok (.invokespecial 209, 3) := by decide +kernel
theorem dX4_checkField_18 : decode cX4_checkField 18 = .ok (.athrow, 1) := by decide +kernel
theorem dX4_checkField_19 : decode cX4_checkField 19 = .ok (.return_, 1) := by decide +kernel
theorem dX4_checkRange_0 : decode cX4_checkRange 0 = .ok (.iload_n 0, 1) := by decide +kernel
theorem dX4_checkRange_1 : decode cX4_checkRange 1 = .ok (.iload_n 1, 1) := by decide +kernel
theorem dX4_checkRange_2 : decode cX4_checkRange 2 = .ok (.if_icmp .lt 8, 3) := by decide +kernel
theorem dX4_checkRange_5 : decode cX4_checkRange 5 = .ok (.iload_n 0, 1) := by decide +kernel
theorem dX4_checkRange_6 : decode cX4_checkRange 6 = .ok (.iload_n 2, 1) := by decide +kernel
theorem dX4_checkRange_7 : decode cX4_checkRange 7 = .ok (.if_icmp .le 13, 3) := by decide +kernel
theorem dX4_checkRange_10 : decode cX4_checkRange 10 = .ok (.new 219, 3) := by decide +kernel
theorem dX4_checkRange_13 : decode cX4_checkRange 13 = .ok (.dup, 1) := by decide +kernel
theorem dX4_checkRange_14 : decode cX4_checkRange 14 = .ok (.ldc 221, 2) := by decide +kernel
theorem dX4_checkRange_16 : decode cX4_checkRange 16 = .ok (.invokespecial 223, 3) := by decide +kernel
theorem dX4_checkRange_19 : decode cX4_checkRange 19 = .ok (.athrow, 1) := by decide +kernel
theorem dX4_checkRange_20 : decode cX4_checkRange 20 = .ok (.return_, 1) := by decide +kernel
theorem dX4_checkDifferent_0 : decode cX4_checkDifferent 0 = .ok (.iload_n 0, 1) := by decide +kernel
theorem dX4_checkDifferent_1 : decode cX4_checkDifferent 1 = .ok (.iload_n 1, 1) := by decide +kernel
theorem dX4_checkDifferent_2 : decode cX4_checkDifferent 2 = .ok (.if_icmp .ne 13, 3) := by decide +kernel
theorem dX4_checkDifferent_5 : decode cX4_checkDifferent 5 = .ok (.new 219, 3) := by decide +kernel
theorem dX4_checkDifferent_8 : decode cX4_checkDifferent 8 = .ok (.dup, 1) := by decide +kernel
theorem dX4_checkDifferent_9 : decode cX4_checkDifferent 9 = .ok (.ldc 224, 2) := by decide +kernel
theorem dX4_checkDifferent_11 : decode cX4_checkDifferent 11 = .ok (.invokespecial 223, 3) := by decide +kernel
theorem dX4_checkDifferent_14 : decode cX4_checkDifferent 14 = .ok (.athrow, 1) := by decide +kernel
theorem dX4_checkDifferent_15 : decode cX4_checkDifferent 15 = .ok (.return_, 1) := by decide +kernel
theorem dX4_checkForbidden_0 : decode cX4_checkForbidden 0 = .ok (.aload_n 0, 1) := by decide +kernel
theorem dX4_checkForbidden_1 : decode cX4_checkForbidden 1 = .ok (.getfield 12, 3) := by decide +kernel
theorem dX4_checkForbidden_4 : decode cX4_checkForbidden 4 = .ok (.iload_n 1, 1) := by decide +kernel
theorem dX4_checkForbidden_5 : decode cX4_checkForbidden 5 = .ok (.iload_n 2, 1) := by decide +kernel
theorem dX4_checkForbidden_6 : decode cX4_checkForbidden 6 = .ok (.invokevirtual 105, 3) := by decide +kernel
theorem dX4_checkForbidden_9 : decode cX4_checkForbidden 9 = .ok (.ifCond .ne 13, 3) := by decide +kernel
theorem dX4_checkForbidden_12 : decode cX4_checkForbidden 12 = .ok (.new 147, 3) := by decide +kernel
theorem dX4_checkForbidden_15 : decode cX4_checkForbidden 15 = .ok (.dup, 1) := by decide +kernel
theorem dX4_checkForbidden_16 : decode cX4_checkForbidden 16 = .ok (.ldc 226, 2) := by decide +kernel
theorem dX4_checkForbidden_18 : decode cX4_checkForbidden 18 = .ok (.invokespecial 151, 3) := by decide +kernel
theorem dX4_checkForbidden_21 : decode cX4_checkForbidden 21 = .ok (.athrow, 1) := by decide +kernel
theorem dX4_checkForbidden_22 : decode cX4_checkForbidden 22 = .ok (.return_, 1) := by decide +kernel
theorem dX4_checkFactRecord_0 : decode cX4_checkFactRecord 0 = .ok (.iload_n 0, 1) := by decide +kernel
theorem dX4_checkFactRecord_1 : decode cX4_checkFactRecord 1 = .ok (.ifCond .lt 9, 3) := by decide +kernel
theorem dX4_checkFactRecord_4 : decode cX4_checkFactRecord 4 = .ok (.iload_n 0, 1) := by decide +kernel
theorem dX4_checkFactRecord_5 : decode cX4_checkFactRecord 5 = .ok (.bipush 24, 2) := by decide +kernel
theorem dX4_checkFactRecord_7 : decode cX4_checkFactRecord 7 = .ok (.if_icmp .lt 13, 3) := by decide +kernel
theorem dX4_checkFactRecord_10 : decode cX4_checkFactRecord 10 = .ok (.new 147, 3) := by decide +kernel
theorem dX4_checkFactRecord_13 : decode cX4_checkFactRecord 13 = .ok (.dup, 1) := by decide +kernel
theorem dX4_checkFactRecord_14 : decode cX4_checkFactRecord 14 = .ok (.ldc 228, 2) := by decide +kernel
theorem dX4_checkFactRecord_16 : decode cX4_checkFactRecord 16 = .ok (.invokespecial 151, 3) := by decide +kernel
theorem dX4_checkFactRecord_19 : decode cX4_checkFactRecord 19 = .ok (.athrow, 1) := by decide +kernel
theorem dX4_checkFactRecord_20 : decode cX4_checkFactRecord 20 = .ok (.return_, 1) := by decide +kernel
theorem dX4_findThing_0 : decode cX4_findThing 0 = .ok (.aload_n 0, 1) := by decide +kernel
theorem dX4_findThing_1 : decode cX4_findThing 1 = .ok (.getfield 19, 3) := by decide +kernel
theorem dX4_findThing_4 : decode cX4_findThing 4 = .ok (.aload_n 0, 1) := by decide +kernel
theorem dX4_findThing_5 : decode cX4_findThing 5 = .ok (.getfield 12, 3) := by decide +kernel
theorem dX4_findThing_8 : decode cX4_findThing 8 = .ok (.invokevirtual 158, 3) := by decide +kernel
theorem dX4_findThing_11 : decode cX4_findThing 11 = .ok (.aload_n 0, 1) := by decide +kernel
theorem dX4_findThing_12 : decode cX4_findThing 12 = .ok (.getfield 19, 3) := by decide +kernel
theorem dX4_findThing_15 : decode cX4_findThing 15 = .ok (.getfield 152, 3) := by decide +kernel
theorem dX4_findThing_18 : decode cX4_findThing 18 = .ok (.iconst 2, 1) := by decide +kernel
theorem dX4_findThing_19 : decode cX4_findThing 19 = .ok (.aaload, 1) := by decide +kernel
theorem dX4_findThing_20 : decode cX4_findThing 20 = .ok (.iload_n 1, 1) := by decide +kernel
theorem dX4_findThing_21 : decode cX4_findThing 21 = .ok (.iaload, 1) := by decide +kernel
theorem dX4_findThing_22 : decode cX4_findThing 22 = .ok (.ireturn, 1) := by decide +kernel
theorem dX4_countThings_0 : decode cX4_countThings 0 = .ok (.aload_n 0, 1) := by decide +kernel
theorem dX4_countThings_1 : decode cX4_countThings 1 = .ok (.getfield 19, 3) := by decide +kernel
theorem dX4_countThings_4 : decode cX4_countThings 4 = .ok (.aload_n 0, 1) := by decide +kernel
theorem dX4_countThings_5 : decode cX4_countThings 5 = .ok (.getfield 12, 3) := by decide +kernel
theorem dX4_countThings_8 : decode cX4_countThings 8 = .ok (.invokevirtual 158, 3) := by decide +kernel
theorem dX4_countThings_11 : decode cX4_countThings 11 = .ok (.iconst 0, 1) := by decide +kernel
theorem dX4_countThings_12 : decode cX4_countThings 12 = .ok (.istore_n 1, 1) := by decide +kernel
theorem dX4_countThings_13 : decode cX4_countThings 13 = .ok (.iconst 0, 1) := by decide +kernel
theorem dX4_countThings_14 : decode cX4_countThings 14 = .ok (.istore_n 2, 1) := by decide +kernel
theorem dX4_countThings_15 : decode cX4_countThings 15 = .ok (.iload_n 2, 1) := by decide +kernel
theorem dX4_countThings_16 : decode cX4_countThings 16 = .ok (.aload_n 0, 1) := by decide +kernel
theorem dX4_countThings_17 : decode cX4_countThings 17 = .ok (.getfield 12, 3) := by decide +kernel
theorem dX4_countThings_20 : decode cX4_countThings 20 = .ok (.getfield 63, 3) := by decide +kernel
theorem dX4_countThings_23 : decode cX4_countThings 23 = .ok (.if_icmp .ge 20, 3) := by decide +kernel
theorem dX4_countThings_26 : decode cX4_countThings 26 = .ok (.aload_n 0, 1) := by decide +kernel
theorem dX4_countThings_27 : decode cX4_countThings 27 = .ok (.iload_n 2, 1) := by decide +kernel
theorem dX4_countThings_28 : decode cX4_countThings 28 = .ok (.invokevirtual 187, 3) := by decide +kernel
theorem dX4_countThings_31 : decode cX4_countThings 31 = .ok (.ifCond .eq 6, 3) := by decide +kernel
theorem dX4_countThings_34 : decode cX4_countThings 34 = .ok (.iinc 1 1, 3) := by decide +kernel
theorem dX4_countThings_37 : decode cX4_countThings 37 = .ok (.iinc 2 1, 3) := by decide +kernel
theorem dX4_countThings_40 : decode cX4_countThings 40 = .ok (.goto (-25), 3) := by decide +kernel
theorem dX4_countThings_43 : decode cX4_countThings 43 = .ok (.iload_n 1, 1) := by decide +kernel
theorem dX4_countThings_44 : decode cX4_countThings 44 = .ok (.ireturn, 1) := by decide +kernel
theorem dX4_findStep_0 : decode cX4_findStep 0 = .ok (.aload_n 0, 1) := by decide +kernel
theorem dX4_findStep_1 : decode cX4_findStep 1 = .ok (.getfield 19, 3) := by decide +kernel
theorem dX4_findStep_4 : decode cX4_findStep 4 = .ok (.aload_n 0, 1) := by decide +kernel
theorem dX4_findStep_5 : decode cX4_findStep 5 = .ok (.getfield 12, 3) := by decide +kernel
theorem dX4_findStep_8 : decode cX4_findStep 8 = .ok (.invokevirtual 158, 3) := by decide +kernel
theorem dX4_findStep_11 : decode cX4_findStep 11 = .ok (.iconst 0, 1) := by decide +kernel
theorem dX4_findStep_12 : decode cX4_findStep 12 = .ok (.istore_n 3, 1) := by decide +kernel
theorem dX4_findStep_13 : decode cX4_findStep 13 = .ok (.iload_n 3, 1) := by decide +kernel
theorem dX4_findStep_14 : decode cX4_findStep 14 = .ok (.iconst 3, 1) := by decide +kernel
theorem dX4_findStep_15 : decode cX4_findStep 15 = .ok (.if_icmp .ge 36, 3) := by decide +kernel
theorem dX4_findStep_18 : decode cX4_findStep 18 = .ok (.aload_n 0, 1) := by decide +kernel
theorem dX4_findStep_19 : decode cX4_findStep 19 = .ok (.getfield 19, 3) := by decide +kernel
theorem dX4_findStep_22 : decode cX4_findStep 22 = .ok (.getfield 152, 3) := by decide +kernel
theorem dX4_findStep_25 : decode cX4_findStep 25 = .ok (.iload_n 3, 1) := by decide +kernel
theorem dX4_findStep_26 : decode cX4_findStep 26 = .ok (.aaload, 1) := by decide +kernel
theorem dX4_findStep_27 : decode cX4_findStep 27 = .ok (.iload_n 1, 1) := by decide +kernel
theorem dX4_findStep_28 : decode cX4_findStep 28 = .ok (.iaload, 1) := by decide +kernel
theorem dX4_findStep_29 : decode cX4_findStep 29 = .ok (.aload_n 0, 1) := by decide +kernel
theorem dX4_findStep_30 : decode cX4_findStep 30 = .ok (.getfield 19, 3) := by decide +kernel
theorem dX4_findStep_33 : decode cX4_findStep 33 = .ok (.getfield 152, 3) := by decide +kernel
theorem dX4_findStep_36 : decode cX4_findStep 36 = .ok (.iload_n 3, 1) := by decide +kernel
theorem dX4_findStep_37 : decode cX4_findStep 37 = .ok (.aaload, 1) := by decide +kernel
theorem dX4_findStep_38 : decode cX4_findStep 38 = .ok (.iload_n 2, 1) := by decide +kernel
theorem dX4_findStep_39 : decode cX4_findStep 39 = .ok (.iaload, 1) := by decide +kernel
theorem dX4_findStep_40 : decode cX4_findStep 40 = .ok (.if_icmp .ne 5, 3) := by decide +kernel
theorem dX4_findStep_43 : decode cX4_findStep 43 = .ok (.iload_n 3, 1) := by decide +kernel
theorem dX4_findStep_44 : decode cX4_findStep 44 = .ok (.ireturn, 1) := by decide +kernel
theorem dX4_findStep_45 : decode cX4_findStep 45 = .ok (.iinc 3 1, 3) := by decide +kernel
theorem dX4_findStep_48 : decode cX4_findStep 48 = .ok (.goto (-35), 3) := by decide +kernel
theorem dX4_findStep_51 : decode cX4_findStep 51 = .ok (.iconst (-1), 1) := by decide +kernel
theorem dX4_findStep_52 : decode cX4_findStep 52 = .ok (.ireturn, 1) := by decide +kernel
theorem dX4_isThing_0 : decode cX4_isThing 0 = .ok (.aload_n 0, 1) := by decide +kernel
theorem dX4_isThing_1 : decode cX4_isThing 1 = .ok (.iload_n 1, 1) := by decide +kernel
theorem dX4_isThing_2 : decode cX4_isThing 2 = .ok (.iload_n 1, 1) := by decide +kernel
theorem dX4_isThing_3 : decode cX4_isThing 3 = .ok (.invokevirtual 230, 3) := by decide +kernel
theorem dX4_isThing_6 : decode cX4_isThing 6 = .ok (.ireturn, 1) := by decide +kernel
theorem dX4_isMember_0 : decode cX4_isMember 0 = .ok (.aload_n 0, 1) := by decide +kernel
theorem dX4_isMember_1 : decode cX4_isMember 1 = .ok (.getfield 12, 3) := by decide +kernel
theorem dX4_isMember_4 : decode cX4_isMember 4 = .ok (.iload_n 1, 1) := by decide +kernel
theorem dX4_isMember_5 : decode cX4_isMember 5 = .ok (.invokevirtual 210, 3) := by decide +kernel
theorem dX4_isMember_8 : decode cX4_isMember 8 = .ok (.ifCond .eq 22, 3) := by decide +kernel
theorem dX4_isMember_11 : decode cX4_isMember 11 = .ok (.aload_n 0, 1) := by decide +kernel
theorem dX4_isMember_12 : decode cX4_isMember 12 = .ok (.getfield 19, 3) := by decide +kernel
theorem dX4_isMember_15 : decode cX4_isMember 15 = .ok (.getfield 152, 3) := by decide +kernel
theorem dX4_isMember_18 : decode cX4_isMember 18 = .ok (.iconst 2, 1) := by decide +kernel
theorem dX4_isMember_19 : decode cX4_isMember 19 = .ok (.aaload, 1) := by decide +kernel
theorem dX4_isMember_20 : decode cX4_isMember 20 = .ok (.iload_n 1, 1) := by decide +kernel
theorem dX4_isMember_21 : decode cX4_isMember 21 = .ok (.iaload, 1) := by decide +kernel
theorem dX4_isMember_22 : decode cX4_isMember 22 = .ok (.iload_n 2, 1) := by decide +kernel
theorem dX4_isMember_23 : decode cX4_isMember 23 = .ok (.if_icmp .ne 7, 3) := by decide +kernel
theorem dX4_isMember_26 : decode cX4_isMember 26 = .ok (.iconst 1, 1) := by decide +kernel
theorem dX4_isMember_27 : decode cX4_isMember 27 = .ok (.goto 4, 3) := by decide +kernel
theorem dX4_isMember_30 : decode cX4_isMember 30 = .ok (.iconst 0, 1) := by decide +kernel
theorem dX4_isMember_31 : decode cX4_isMember 31 = .ok (.ireturn, 1) := by decide +kernel
theorem dX4_countMembers_0 : decode cX4_countMembers 0 = .ok (.iconst 0, 1) := by decide +kernel
theorem dX4_countMembers_1 : decode cX4_countMembers 1 = .ok (.istore_n 2, 1) := by decide +kernel
theorem dX4_countMembers_2 : decode cX4_countMembers 2 = .ok (.iconst 0, 1) := by decide +kernel
theorem dX4_countMembers_3 : decode cX4_countMembers 3 = .ok (.istore_n 3, 1) := by decide +kernel
theorem dX4_countMembers_4 : decode cX4_countMembers 4 = .ok (.iload_n 3, 1) := by decide +kernel
theorem dX4_countMembers_5 : decode cX4_countMembers 5 = .ok (.aload_n 0, 1) := by decide +kernel
theorem dX4_countMembers_6 : decode cX4_countMembers 6 = .ok (.getfield 12, 3) := by decide +kernel
theorem dX4_countMembers_9 : decode cX4_countMembers 9 = .ok (.getfield 63, 3) := by decide +kernel
theorem dX4_countMembers_12 : decode cX4_countMembers 12 = .ok (.if_icmp .ge 21, 3) := by decide +kernel
theorem dX4_countMembers_15 : decode cX4_countMembers 15 = .ok (.aload_n 0, 1) := by decide +kernel
theorem dX4_countMembers_16 : decode cX4_countMembers 16 = .ok (.iload_n 3, 1) := by decide +kernel
theorem dX4_countMembers_17 : decode cX4_countMembers 17 = .ok (.iload_n 1, 1) := by decide +kernel
theorem dX4_countMembers_18 : decode cX4_countMembers 18 = .ok (.invokevirtual 230, 3) := by decide +kernel
theorem dX4_countMembers_21 : decode cX4_countMembers 21 = .ok (.ifCond .eq 6, 3) := by decide +kernel
theorem dX4_countMembers_24 : decode cX4_countMembers 24 = .ok (.iinc 2 1, 3) := by decide +kernel
theorem dX4_countMembers_27 : decode cX4_countMembers 27 = .ok (.iinc 3 1, 3) := by decide +kernel
theorem dX4_countMembers_30 : decode cX4_countMembers 30 = .ok (.goto (-26), 3) := by decide +kernel
theorem dX4_countMembers_33 : decode cX4_countMembers 33 = .ok (.iload_n 2, 1) := by decide +kernel
theorem dX4_countMembers_34 : decode cX4_countMembers 34 = .ok (.ireturn, 1) := by decide +kernel
theorem dX4_sumMembers_0 : decode cX4_sumMembers 0 = .ok (.iconst 0, 1) := by decide +kernel
theorem dX4_sumMembers_1 : decode cX4_sumMembers 1 = .ok (.istore_n 2, 1) := by decide +kernel
theorem dX4_sumMembers_2 : decode cX4_sumMembers 2 = .ok (.iconst 0, 1) := by decide +kernel
theorem dX4_sumMembers_3 : decode cX4_sumMembers 3 = .ok (.istore_n 3, 1) := by decide +kernel
theorem dX4_sumMembers_4 : decode cX4_sumMembers 4 = .ok (.iload_n 3, 1) := by decide +kernel
theorem dX4_sumMembers_5 : decode cX4_sumMembers 5 = .ok (.aload_n 0, 1) := by decide +kernel
theorem dX4_sumMembers_6 : decode cX4_sumMembers 6 = .ok (.getfield 12, 3) := by decide +kernel
theorem dX4_sumMembers_9 : decode cX4_sumMembers 9 = .ok (.getfield 63, 3) := by decide +kernel
theorem dX4_sumMembers_12 : decode cX4_sumMembers 12 = .ok (.if_icmp .ge 22, 3) := by decide +kernel
theorem dX4_sumMembers_15 : decode cX4_sumMembers 15 = .ok (.aload_n 0, 1) := by decide +kernel
theorem dX4_sumMembers_16 : decode cX4_sumMembers 16 = .ok (.iload_n 3, 1) := by decide +kernel
theorem dX4_sumMembers_17 : decode cX4_sumMembers 17 = .ok (.iload_n 1, 1) := by decide +kernel
theorem dX4_sumMembers_18 : decode cX4_sumMembers 18 = .ok (.invokevirtual 230, 3) := by decide +kernel
theorem dX4_sumMembers_21 : decode cX4_sumMembers 21 = .ok (.ifCond .eq 7, 3) := by decide +kernel
theorem dX4_sumMembers_24 : decode cX4_sumMembers 24 = .ok (.iload_n 2, 1) := by decide +kernel
theorem dX4_sumMembers_25 : decode cX4_sumMembers 25 = .ok (.iload_n 3, 1) := by decide +kernel
theorem dX4_sumMembers_26 : decode cX4_sumMembers 26 = .ok (.iadd, 1) := by decide +kernel
theorem dX4_sumMembers_27 : decode cX4_sumMembers 27 = .ok (.istore_n 2, 1) := by decide +kernel
theorem dX4_sumMembers_28 : decode cX4_sumMembers 28 = .ok (.iinc 3 1, 3) := by decide +kernel
theorem dX4_sumMembers_31 : decode cX4_sumMembers 31 = .ok (.goto (-27), 3) := by decide +kernel
theorem dX4_sumMembers_34 : decode cX4_sumMembers 34 = .ok (.iload_n 2, 1) := by decide +kernel
theorem dX4_sumMembers_35 : decode cX4_sumMembers 35 = .ok (.ireturn, 1) := by decide +kernel
theorem dX4_findMember_0 : decode cX4_findMember 0 = .ok (.iconst 0, 1) := by decide +kernel
theorem dX4_findMember_1 : decode cX4_findMember 1 = .ok (.istore_n 3, 1) := by decide +kernel
theorem dX4_findMember_2 : decode cX4_findMember 2 = .ok (.iconst 0, 1) := by decide +kernel
theorem dX4_findMember_3 : decode cX4_findMember 3 = .ok (.istore 4, 2) := by decide +kernel
theorem dX4_findMember_5 : decode cX4_findMember 5 = .ok (.iload 4, 2) := by decide +kernel
theorem dX4_findMember_7 : decode cX4_findMember 7 = .ok (.aload_n 0, 1) := by decide +kernel
theorem dX4_findMember_8 : decode cX4_findMember 8 = .ok (.getfield 12, 3) := by decide +kernel
theorem dX4_findMember_11 : decode cX4_findMember 11 = .ok (.getfield 63, 3) := by decide +kernel
theorem dX4_findMember_14 : decode cX4_findMember 14 = .ok (.if_icmp .ge 30, 3) := by decide +kernel
theorem dX4_findMember_17 : decode cX4_findMember 17 = .ok (.aload_n 0, 1) := by decide +kernel
theorem dX4_findMember_18 : decode cX4_findMember 18 = .ok (.iload 4, 2) := by decide +kernel
theorem dX4_findMember_20 : decode cX4_findMember 20 = .ok (.iload_n 1, 1) := by decide +kernel
theorem dX4_findMember_21 : decode cX4_findMember 21 = .ok (.invokevirtual 230, 3) := by decide +kernel
theorem dX4_findMember_24 : decode cX4_findMember 24 = .ok (.ifCond .eq 14, 3) := by decide +kernel
theorem dX4_findMember_27 : decode cX4_findMember 27 = .ok (.iload_n 3, 1) := by decide +kernel
theorem dX4_findMember_28 : decode cX4_findMember 28 = .ok (.iload_n 2, 1) := by decide +kernel
theorem dX4_findMember_29 : decode cX4_findMember 29 = .ok (.if_icmp .ne 6, 3) := by decide +kernel
theorem dX4_findMember_32 : decode cX4_findMember 32 = .ok (.iload 4, 2) := by decide +kernel
theorem dX4_findMember_34 : decode cX4_findMember 34 = .ok (.ireturn, 1) := by decide +kernel
theorem dX4_findMember_35 : decode cX4_findMember 35 = .ok (.iinc 3 1, 3) := by decide +kernel
theorem dX4_findMember_38 : decode cX4_findMember 38 = .ok (.iinc 4 1, 3) := by decide +kernel
theorem dX4_findMember_41 : decode cX4_findMember 41 = .ok (.goto (-36), 3) := by decide +kernel
theorem dX4_findMember_44 : decode cX4_findMember 44 = .ok (.iconst (-1), 1) := by decide +kernel
theorem dX4_findMember_45 : decode cX4_findMember 45 = .ok (.ireturn, 1) := by decide +kernel
theorem dX4_isKeyElsewhere_0 : decode cX4_isKeyElsewhere 0 = .ok (.aload_n 0, 1) := by decide +kernel
theorem dX4_isKeyElsewhere_1 : decode cX4_isKeyElsewhere 1 = .ok (.getfield 19, 3) := by decide +kernel
theorem dX4_isKeyElsewhere_4 : decode cX4_isKeyElsewhere 4 = .ok (.getfield 152, 3) := by decide +kernel
theorem dX4_isKeyElsewhere_7 : decode cX4_isKeyElsewhere 7 = .ok (.iconst 2, 1) := by decide +kernel
theorem dX4_isKeyElsewhere_8 : decode cX4_isKeyElsewhere 8 = .ok (.aaload, 1) := by decide +kernel
theorem dX4_isKeyElsewhere_9 : decode cX4_isKeyElsewhere 9 = .ok (.iload_n 1, 1) := by decide +kernel
theorem dX4_isKeyElsewhere_10 : decode cX4_isKeyElsewhere 10 = .ok (.iaload, 1) := by decide +kernel
theorem dX4_isKeyElsewhere_11 : decode cX4_isKeyElsewhere 11 = .ok (.istore_n 3, 1) := by decide +kernel
theorem dX4_isKeyElsewhere_12 : decode cX4_isKeyElsewhere 12 = .ok (.iconst 0, 1) := by decide +kernel
theorem dX4_isKeyElsewhere_13 : decode cX4_isKeyElsewhere 13 = .ok (.istore 4, 2) := by decide +kernel
theorem dX4_isKeyElsewhere_15 : decode cX4_isKeyElsewhere 15 = .ok (.iload 4, 2) := by decide +kernel
theorem dX4_isKeyElsewhere_17 : decode cX4_isKeyElsewhere 17 = .ok (.aload_n 0, 1) := by decide +kernel
theorem dX4_isKeyElsewhere_18 : decode cX4_isKeyElsewhere 18 = .ok (.getfield 12, 3) := by decide +kernel
theorem dX4_isKeyElsewhere_21 : decode cX4_isKeyElsewhere 21 = .ok (.getfield 63, 3) := by decide +kernel
theorem dX4_isKeyElsewhere_24 : decode cX4_isKeyElsewhere 24 = .ok (.if_icmp .ge 41, 3) := by decide +kernel
theorem dX4_isKeyElsewhere_27 : decode cX4_isKeyElsewhere 27 = .ok (.aload_n 0, 1) := by decide +kernel
theorem dX4_isKeyElsewhere_28 : decode cX4_isKeyElsewhere 28 = .ok (.getfield 12, 3) := by decide +kernel
theorem dX4_isKeyElsewhere_31 : decode cX4_isKeyElsewhere 31 = .ok (.iload_n 1, 1) := by decide +kernel
theorem dX4_isKeyElsewhere_32 : decode cX4_isKeyElsewhere 32 = .ok (.iload 4, 2) := by decide +kernel
theorem dX4_isKeyElsewhere_34 : decode cX4_isKeyElsewhere 34 = .ok (.iload_n 2, 1) := by decide +kernel
theorem dX4_isKeyElsewhere_35 : decode cX4_isKeyElsewhere 35 = .ok (.invokevirtual 233, 3) := by decide +kernel
theorem dX4_isKeyElsewhere_38 : decode cX4_isKeyElsewhere 38 = .ok (.ifCond .eq 21, 3) := by decide +kernel
theorem dX4_isKeyElsewhere_41 : decode cX4_isKeyElsewhere 41 = .ok (.aload_n 0, 1) := by decide +kernel
theorem dX4_isKeyElsewhere_42 : decode cX4_isKeyElsewhere 42 = .ok (.getfield 19, 3) := by decide +kernel
theorem dX4_isKeyElsewhere_45 : decode cX4_isKeyElsewhere 45 = .ok (.getfield 152, 3) := by decide +kernel
theorem dX4_isKeyElsewhere_48 : decode cX4_isKeyElsewhere 48 = .ok (.iconst 2, 1) := by decide +kernel
theorem dX4_isKeyElsewhere_49 : decode cX4_isKeyElsewhere 49 = .ok (.aaload, 1) := by decide +kernel
theorem dX4_isKeyElsewhere_50 : decode cX4_isKeyElsewhere 50 = .ok (.iload 4, 2) := by decide +kernel
theorem dX4_isKeyElsewhere_52 : decode cX4_isKeyElsewhere 52 = .ok (.iaload, 1) := by decide +kernel
theorem dX4_isKeyElsewhere_53 : decode cX4_isKeyElsewhere 53 = .ok (.iload_n 3, 1) := by decide +kernel
theorem dX4_isKeyElsewhere_54 : decode cX4_isKeyElsewhere 54 = .ok (.if_icmp .eq 5, 3) := by decide +kernel
theorem dX4_isKeyElsewhere_57 : decode cX4_isKeyElsewhere 57 = .ok (.iconst 1, 1) := by decide +kernel
theorem dX4_isKeyElsewhere_58 : decode cX4_isKeyElsewhere 58 = .ok (.ireturn, 1) := by decide +kernel
theorem dX4_isKeyElsewhere_59 : decode cX4_isKeyElsewhere 59 = .ok (.iinc 4 1, 3) := by decide +kernel
theorem dX4_isKeyElsewhere_62 : decode cX4_isKeyElsewhere 62 = .ok (.goto (-47), 3) := by decide +kernel
theorem dX4_isKeyElsewhere_65 : decode cX4_isKeyElsewhere 65 = .ok (.iconst 0, 1) := by decide +kernel
theorem dX4_isKeyElsewhere_66 : decode cX4_isKeyElsewhere 66 = .ok (.ireturn, 1) := by decide +kernel
theorem dX4_tellsFact_0 : decode cX4_tellsFact 0 = .ok (.aload_n 0, 1) := by decide +kernel
theorem dX4_tellsFact_1 : decode cX4_tellsFact 1 = .ok (.iload_n 1, 1) := by decide +kernel
theorem dX4_tellsFact_2 : decode cX4_tellsFact 2 = .ok (.iload_n 2, 1) := by decide +kernel
theorem dX4_tellsFact_3 : decode cX4_tellsFact 3 = .ok (.invokevirtual 230, 3) := by decide +kernel
theorem dX4_tellsFact_6 : decode cX4_tellsFact 6 = .ok (.ifCond .eq 22, 3) := by decide +kernel
theorem dX4_tellsFact_9 : decode cX4_tellsFact 9 = .ok (.aload_n 0, 1) := by decide +kernel
theorem dX4_tellsFact_10 : decode cX4_tellsFact 10 = .ok (.getfield 12, 3) := by decide +kernel
theorem dX4_tellsFact_13 : decode cX4_tellsFact 13 = .ok (.getfield 88, 3) := by decide +kernel
theorem dX4_tellsFact_16 : decode cX4_tellsFact 16 = .ok (.iload_n 3, 1) := by decide +kernel
theorem dX4_tellsFact_17 : decode cX4_tellsFact 17 = .ok (.aaload, 1) := by decide +kernel
theorem dX4_tellsFact_18 : decode cX4_tellsFact 18 = .ok (.iload_n 1, 1) := by decide +kernel
theorem dX4_tellsFact_19 : decode cX4_tellsFact 19 = .ok (.iaload, 1) := by decide +kernel
theorem dX4_tellsFact_20 : decode cX4_tellsFact 20 = .ok (.iconst (-1), 1) := by decide +kernel
theorem dX4_tellsFact_21 : decode cX4_tellsFact 21 = .ok (.if_icmp .eq 7, 3) := by decide +kernel
theorem dX4_tellsFact_24 : decode cX4_tellsFact 24 = .ok (.iconst 1, 1) := by decide +kernel
theorem dX4_tellsFact_25 : decode cX4_tellsFact 25 = .ok (.goto 4, 3) := by decide +kernel
theorem dX4_tellsFact_28 : decode cX4_tellsFact 28 = .ok (.iconst 0, 1) := by decide +kernel
theorem dX4_tellsFact_29 : decode cX4_tellsFact 29 = .ok (.ireturn, 1) := by decide +kernel
theorem dX4_findFirstByOrder_0 : decode cX4_findFirstByOrder 0 = .ok (.aload_n 0, 1) := by decide +kernel
theorem dX4_findFirstByOrder_1 : decode cX4_findFirstByOrder 1 = .ok (.iload_n 1, 1) := by decide +kernel
theorem dX4_findFirstByOrder_2 : decode cX4_findFirstByOrder 2 = .ok (.invokevirtual 236, 3) := by decide +kernel
theorem dX4_findFirstByOrder_5 : decode cX4_findFirstByOrder 5 = .ok (.istore_n 3, 1) := by decide +kernel
theorem dX4_findFirstByOrder_6 : decode cX4_findFirstByOrder 6 = .ok (.iconst 0, 1) := by decide +kernel
theorem dX4_findFirstByOrder_7 : decode cX4_findFirstByOrder 7 = .ok (.istore 4, 2) := by decide +kernel
theorem dX4_findFirstByOrder_9 : decode cX4_findFirstByOrder 9 = .ok (.iload 4, 2) := by decide +kernel
theorem dX4_findFirstByOrder_11 : decode cX4_findFirstByOrder 11 = .ok (.iload_n 3, 1) := by decide +kernel
theorem dX4_findFirstByOrder_12 : decode cX4_findFirstByOrder 12 = .ok (.if_icmp .ge 38, 3) := by decide +kernel
theorem dX4_findFirstByOrder_15 : decode cX4_findFirstByOrder 15 = .ok (.aload_n 0, 1) := by decide +kernel
theorem dX4_findFirstByOrder_16 : decode cX4_findFirstByOrder 16 = .ok (.getfield 12, 3) := by decide +kernel
theorem dX4_findFirstByOrder_19 : decode cX4_findFirstByOrder 19 = .ok (.getfield 88, 3) := by decide +kernel
theorem dX4_findFirstByOrder_22 : decode cX4_findFirstByOrder 22 = .ok (.iload_n 2, 1) := by decide +kernel
theorem dX4_findFirstByOrder_23 : decode cX4_findFirstByOrder 23 = .ok (.aaload, 1) := by decide +kernel
theorem dX4_findFirstByOrder_24 : decode cX4_findFirstByOrder 24 = .ok (.aload_n 0, 1) := by decide +kernel
theorem dX4_findFirstByOrder_25 : decode cX4_findFirstByOrder 25 = .ok (.getfield 30, 3) := by decide +kernel
theorem dX4_findFirstByOrder_28 : decode cX4_findFirstByOrder 28 = .ok (.iload 4, 2) := by decide +kernel
theorem dX4_findFirstByOrder_30 : decode cX4_findFirstByOrder 30 = .ok (.iaload, 1) := by decide +kernel
theorem dX4_findFirstByOrder_31 : decode cX4_findFirstByOrder 31 = .ok (.iaload, 1) := by decide +kernel
theorem dX4_findFirstByOrder_32 : decode cX4_findFirstByOrder 32 = .ok (.iconst (-1), 1) := by decide +kernel
theorem dX4_findFirstByOrder_33 : decode cX4_findFirstByOrder 33 = .ok (.if_icmp .eq 11, 3) := by decide +kernel
theorem dX4_findFirstByOrder_36 : decode cX4_findFirstByOrder 36 = .ok (.aload_n 0, 1) := by decide +kernel
theorem dX4_findFirstByOrder_37 : decode cX4_findFirstByOrder 37 = .ok (.getfield 30, 3) := by decide +kernel
theorem dX4_findFirstByOrder_40 : decode cX4_findFirstByOrder 40 = .ok (.iload 4, 2) := by decide +kernel
theorem dX4_findFirstByOrder_42 : decode cX4_findFirstByOrder 42 = .ok (.iaload, 1) := by decide +kernel
theorem dX4_findFirstByOrder_43 : decode cX4_findFirstByOrder 43 = .ok (.ireturn, 1) := by decide +kernel
theorem dX4_findFirstByOrder_44 : decode cX4_findFirstByOrder 44 = .ok (.iinc 4 1, 3) := by decide +kernel
theorem dX4_findFirstByOrder_47 : decode cX4_findFirstByOrder 47 = .ok (.goto (-38), 3) := by decide +kernel
theorem dX4_findFirstByOrder_50 : decode cX4_findFirstByOrder 50 = .ok (.iconst (-1), 1) := by decide +kernel
theorem dX4_findFirstByOrder_51 : decode cX4_findFirstByOrder 51 = .ok (.ireturn, 1) := by decide +kernel
theorem dX4_orderMembers_0 : decode cX4_orderMembers 0 = .ok (.iconst 0, 1) := by decide +kernel
theorem dX4_orderMembers_1 : decode cX4_orderMembers 1 = .ok (.istore_n 2, 1) := by decide +kernel
theorem dX4_orderMembers_2 : decode cX4_orderMembers 2 = .ok (.iconst 0, 1) := by decide +kernel
theorem dX4_orderMembers_3 : decode cX4_orderMembers 3 = .ok (.istore_n 3, 1) := by decide +kernel
theorem dX4_orderMembers_4 : decode cX4_orderMembers 4 = .ok (.iload_n 3, 1) := by decide +kernel
theorem dX4_orderMembers_5 : decode cX4_orderMembers 5 = .ok (.aload_n 0, 1) := by decide +kernel
theorem dX4_orderMembers_6 : decode cX4_orderMembers 6 = .ok (.getfield 12, 3) := by decide +kernel
theorem dX4_orderMembers_9 : decode cX4_orderMembers 9 = .ok (.getfield 63, 3) := by decide +kernel
theorem dX4_orderMembers_12 : decode cX4_orderMembers 12 = .ok (.if_icmp .ge 83, 3) := by decide +kernel
theorem dX4_orderMembers_15 : decode cX4_orderMembers 15 = .ok (.aload_n 0, 1) := by decide +kernel
theorem dX4_orderMembers_16 : decode cX4_orderMembers 16 = .ok (.iload_n 3, 1) := by decide +kernel
theorem dX4_orderMembers_17 : decode cX4_orderMembers 17 = .ok (.iload_n 1, 1) := by decide +kernel
theorem dX4_orderMembers_18 : decode cX4_orderMembers 18 = .ok (.invokevirtual 230, 3) := by decide +kernel
theorem dX4_orderMembers_21 : decode cX4_orderMembers 21 = .ok (.ifCond .eq 68, 3) := by decide +kernel
theorem dX4_orderMembers_24 : decode cX4_orderMembers 24 = .ok (.iload_n 2, 1) := by decide +kernel
theorem dX4_orderMembers_25 : decode cX4_orderMembers 25 = .ok (.istore 4, 2) := by decide +kernel
theorem dX4_orderMembers_27 : decode cX4_orderMembers 27 = .ok (.iload 4, 2) := by decide +kernel
theorem dX4_orderMembers_29 : decode cX4_orderMembers 29 = .ok (.ifCond .le 49, 3) := by decide +kernel
theorem dX4_orderMembers_32 : decode cX4_orderMembers 32 = .ok (.aload_n 0, 1) := by decide +kernel
theorem dX4_orderMembers_33 : decode cX4_orderMembers 33 = .ok (.getfield 12, 3) := by decide +kernel
theorem dX4_orderMembers_36 : decode cX4_orderMembers 36 = .ok (.iload_n 3, 1) := by decide +kernel
theorem dX4_orderMembers_37 : decode cX4_orderMembers 37 = .ok (.aload_n 0, 1) := by decide +kernel
theorem dX4_orderMembers_38 : decode cX4_orderMembers 38 = .ok (.getfield 30, 3) := by decide +kernel
theorem dX4_orderMembers_41 : decode cX4_orderMembers 41 = .ok (.iload 4, 2) := by decide +kernel
theorem dX4_orderMembers_43 : decode cX4_orderMembers 43 = .ok (.iconst 1, 1) := by decide +kernel
theorem dX4_orderMembers_44 : decode cX4_orderMembers 44 = .ok (.isub, 1) := by decide +kernel
theorem dX4_orderMembers_45 : decode cX4_orderMembers 45 = .ok (.iaload, 1) := by decide +kernel
theorem dX4_orderMembers_46 : decode cX4_orderMembers 46 = .ok (.aload_n 0, 1) := by decide +kernel
theorem dX4_orderMembers_47 : decode cX4_orderMembers 47 = .ok (.getfield 68, 3) := by decide +kernel
theorem dX4_orderMembers_50 : decode cX4_orderMembers 50 = .ok (.invokevirtual 239, 3) := by decide +kernel
theorem dX4_orderMembers_53 : decode cX4_orderMembers 53 = .ok (.ifCond .eq 25, 3) := by decide +kernel
theorem dX4_orderMembers_56 : decode cX4_orderMembers 56 = .ok (.aload_n 0, 1) := by decide +kernel
theorem dX4_orderMembers_57 : decode cX4_orderMembers 57 = .ok (.getfield 30, 3) := by decide +kernel
theorem dX4_orderMembers_60 : decode cX4_orderMembers 60 = .ok (.iload 4, 2) := by decide +kernel
theorem dX4_orderMembers_62 : decode cX4_orderMembers 62 = .ok (.aload_n 0, 1) := by decide +kernel
theorem dX4_orderMembers_63 : decode cX4_orderMembers 63 = .ok (.getfield 30, 3) := by decide +kernel
theorem dX4_orderMembers_66 : decode cX4_orderMembers 66 = .ok (.iload 4, 2) := by decide +kernel
theorem dX4_orderMembers_68 : decode cX4_orderMembers 68 = .ok (.iconst 1, 1) := by decide +kernel
theorem dX4_orderMembers_69 : decode cX4_orderMembers 69 = .ok (.isub, 1) := by decide +kernel
theorem dX4_orderMembers_70 : decode cX4_orderMembers 70 = .ok (.iaload, 1) := by decide +kernel
theorem dX4_orderMembers_71 : decode cX4_orderMembers 71 = .ok (.iastore, 1) := by decide +kernel
theorem dX4_orderMembers_72 : decode cX4_orderMembers 72 = .ok (.iinc 4 (-1), 3) := by decide +kernel
theorem dX4_orderMembers_75 : decode cX4_orderMembers 75 = .ok (.goto (-48), 3) := by decide +kernel
theorem dX4_orderMembers_78 : decode cX4_orderMembers 78 = .ok (.aload_n 0, 1) := by decide +kernel
theorem dX4_orderMembers_79 : decode cX4_orderMembers 79 = .ok (.getfield 30, 3) := by decide +kernel
theorem dX4_orderMembers_82 : decode cX4_orderMembers 82 = .ok (.iload 4, 2) := by decide +kernel
theorem dX4_orderMembers_84 : decode cX4_orderMembers 84 = .ok (.iload_n 3, 1) := by decide +kernel
theorem dX4_orderMembers_85 : decode cX4_orderMembers 85 = .ok (.iastore, 1) := by decide +kernel
theorem dX4_orderMembers_86 : decode cX4_orderMembers 86 = .ok (.iinc 2 1, 3) := by decide +kernel
theorem dX4_orderMembers_89 : decode cX4_orderMembers 89 = .ok (.iinc 3 1, 3) := by decide +kernel
theorem dX4_orderMembers_92 : decode cX4_orderMembers 92 = .ok (.goto (-88), 3) := by decide +kernel
theorem dX4_orderMembers_95 : decode cX4_orderMembers 95 = .ok (.iload_n 2, 1) := by decide +kernel
theorem dX4_orderMembers_96 : decode cX4_orderMembers 96 = .ok (.ireturn, 1) := by decide +kernel
theorem dX4_findFirstByPairs_0 : decode cX4_findFirstByPairs 0 = .ok (.iconst 0, 1) := by decide +kernel
theorem dX4_findFirstByPairs_1 : decode cX4_findFirstByPairs 1 = .ok (.istore_n 3, 1) := by decide +kernel
theorem dX4_findFirstByPairs_2 : decode cX4_findFirstByPairs 2 = .ok (.iload_n 3, 1) := by decide +kernel
theorem dX4_findFirstByPairs_3 : decode cX4_findFirstByPairs 3 = .ok (.aload_n 0, 1) := by decide +kernel
theorem dX4_findFirstByPairs_4 : decode cX4_findFirstByPairs 4 = .ok (.getfield 12, 3) := by decide +kernel
theorem dX4_findFirstByPairs_7 : decode cX4_findFirstByPairs 7 = .ok (.getfield 63, 3) := by decide +kernel
theorem dX4_findFirstByPairs_10 : decode cX4_findFirstByPairs 10 = .ok (.if_icmp .ge 31, 3) := by decide +kernel
theorem dX4_findFirstByPairs_13 : decode cX4_findFirstByPairs 13 = .ok (.aload_n 0, 1) := by decide +kernel
theorem dX4_findFirstByPairs_14 : decode cX4_findFirstByPairs 14 = .ok (.iload_n 3, 1) := by decide +kernel
theorem dX4_findFirstByPairs_15 : decode cX4_findFirstByPairs 15 = .ok (.iload_n 1, 1) := by decide +kernel
theorem dX4_findFirstByPairs_16 : decode cX4_findFirstByPairs 16 = .ok (.iload_n 2, 1) := by decide +kernel
theorem dX4_findFirstByPairs_17 : decode cX4_findFirstByPairs 17 = .ok (.invokevirtual 180, 3) := by decide +kernel
theorem dX4_findFirstByPairs_20 : decode cX4_findFirstByPairs 20 = .ok (.ifCond .eq 15, 3) := by decide +kernel
theorem dX4_findFirstByPairs_23 : decode cX4_findFirstByPairs 23 = .ok (.aload_n 0, 1) := by decide +kernel
theorem dX4_findFirstByPairs_24 : decode cX4_findFirstByPairs 24 = .ok (.iload_n 3, 1) := by decide +kernel
theorem dX4_findFirstByPairs_25 : decode cX4_findFirstByPairs 25 = .ok (.iload_n 1, 1) := by decide +kernel
theorem dX4_findFirstByPairs_26 : decode cX4_findFirstByPairs 26 = .ok (.iload_n 2, 1) := by decide +kernel
theorem dX4_findFirstByPairs_27 : decode cX4_findFirstByPairs 27 = .ok (.invokevirtual 242, 3) := by decide +kernel
theorem dX4_findFirstByPairs_30 : decode cX4_findFirstByPairs 30 = .ok (.ifCond .ne 5, 3) := by decide +kernel
theorem dX4_findFirstByPairs_33 : decode cX4_findFirstByPairs 33 = .ok (.iload_n 3, 1) := by decide +kernel
theorem dX4_findFirstByPairs_34 : decode cX4_findFirstByPairs 34 = .ok (.ireturn, 1) := by decide +kernel
theorem dX4_findFirstByPairs_35 : decode cX4_findFirstByPairs 35 = .ok (.iinc 3 1, 3) := by decide +kernel
theorem dX4_findFirstByPairs_38 : decode cX4_findFirstByPairs 38 = .ok (.goto (-36), 3) := by decide +kernel
theorem dX4_findFirstByPairs_41 : decode cX4_findFirstByPairs 41 = .ok (.iconst (-1), 1) := by decide +kernel
theorem dX4_findFirstByPairs_42 : decode cX4_findFirstByPairs 42 = .ok (.ireturn, 1) := by decide +kernel
theorem dX4_isBeaten_0 : decode cX4_isBeaten 0 = .ok (.iconst 0, 1) := by decide +kernel
theorem dX4_isBeaten_1 : decode cX4_isBeaten 1 = .ok (.istore 4, 2) := by decide +kernel
theorem dX4_isBeaten_3 : decode cX4_isBeaten 3 = .ok (.iload 4, 2) := by decide +kernel
theorem dX4_isBeaten_5 : decode cX4_isBeaten 5 = .ok (.aload_n 0, 1) := by decide +kernel
theorem dX4_isBeaten_6 : decode cX4_isBeaten 6 = .ok (.getfield 12, 3) := by decide +kernel
theorem dX4_isBeaten_9 : decode cX4_isBeaten 9 = .ok (.getfield 63, 3) := by decide +kernel
theorem dX4_isBeaten_12 : decode cX4_isBeaten 12 = .ok (.if_icmp .ge 45, 3) := by decide +kernel
theorem dX4_isBeaten_15 : decode cX4_isBeaten 15 = .ok (.iload 4, 2) := by decide +kernel
theorem dX4_isBeaten_17 : decode cX4_isBeaten 17 = .ok (.iload_n 1, 1) := by decide +kernel
theorem dX4_isBeaten_18 : decode cX4_isBeaten 18 = .ok (.if_icmp .eq 33, 3) := by decide +kernel
theorem dX4_isBeaten_21 : decode cX4_isBeaten 21 = .ok (.aload_n 0, 1) := by decide +kernel
theorem dX4_isBeaten_22 : decode cX4_isBeaten 22 = .ok (.iload 4, 2) := by decide +kernel
theorem dX4_isBeaten_24 : decode cX4_isBeaten 24 = .ok (.iload_n 2, 1) := by decide +kernel
theorem dX4_isBeaten_25 : decode cX4_isBeaten 25 = .ok (.iload_n 3, 1) := by decide +kernel
theorem dX4_isBeaten_26 : decode cX4_isBeaten 26 = .ok (.invokevirtual 180, 3) := by decide +kernel
theorem dX4_isBeaten_29 : decode cX4_isBeaten 29 = .ok (.ifCond .eq 22, 3) := by decide +kernel
theorem dX4_isBeaten_32 : decode cX4_isBeaten 32 = .ok (.aload_n 0, 1) := by decide +kernel
theorem dX4_isBeaten_33 : decode cX4_isBeaten 33 = .ok (.getfield 12, 3) := by decide +kernel
theorem dX4_isBeaten_36 : decode cX4_isBeaten 36 = .ok (.iload 4, 2) := by decide +kernel
theorem dX4_isBeaten_38 : decode cX4_isBeaten 38 = .ok (.iload_n 1, 1) := by decide +kernel
theorem dX4_isBeaten_39 : decode cX4_isBeaten 39 = .ok (.aload_n 0, 1) := by decide +kernel
theorem dX4_isBeaten_40 : decode cX4_isBeaten 40 = .ok (.getfield 68, 3) := by decide +kernel
theorem dX4_isBeaten_43 : decode cX4_isBeaten 43 = .ok (.invokevirtual 239, 3) := by decide +kernel
theorem dX4_isBeaten_46 : decode cX4_isBeaten 46 = .ok (.ifCond .eq 5, 3) := by decide +kernel
theorem dX4_isBeaten_49 : decode cX4_isBeaten 49 = .ok (.iconst 1, 1) := by decide +kernel
theorem dX4_isBeaten_50 : decode cX4_isBeaten 50 = .ok (.ireturn, 1) := by decide +kernel
theorem dX4_isBeaten_51 : decode cX4_isBeaten 51 = .ok (.iinc 4 1, 3) := by decide +kernel
theorem dX4_isBeaten_54 : decode cX4_isBeaten 54 = .ok (.goto (-51), 3) := by decide +kernel
theorem dX4_isBeaten_57 : decode cX4_isBeaten 57 = .ok (.iconst 0, 1) := by decide +kernel
theorem dX4_isBeaten_58 : decode cX4_isBeaten 58 = .ok (.ireturn, 1) := by decide +kernel
theorem dX4_findLastSeen_0 : decode cX4_findLastSeen 0 = .ok (.iconst 0, 1) := by decide +kernel
theorem dX4_findLastSeen_1 : decode cX4_findLastSeen 1 = .ok (.istore_n 2, 1) := by decide +kernel
theorem dX4_findLastSeen_2 : decode cX4_findLastSeen 2 = .ok (.iconst 0, 1) := by decide +kernel
theorem dX4_findLastSeen_3 : decode cX4_findLastSeen 3 = .ok (.istore_n 3, 1) := by decide +kernel
theorem dX4_findLastSeen_4 : decode cX4_findLastSeen 4 = .ok (.iload_n 3, 1) := by decide +kernel
theorem dX4_findLastSeen_5 : decode cX4_findLastSeen 5 = .ok (.aload_n 0, 1) := by decide +kernel
theorem dX4_findLastSeen_6 : decode cX4_findLastSeen 6 = .ok (.getfield 12, 3) := by decide +kernel
theorem dX4_findLastSeen_9 : decode cX4_findLastSeen 9 = .ok (.getfield 63, 3) := by decide +kernel
theorem dX4_findLastSeen_12 : decode cX4_findLastSeen 12 = .ok (.if_icmp .ge 32, 3) := by decide +kernel
theorem dX4_findLastSeen_15 : decode cX4_findLastSeen 15 = .ok (.aload_n 0, 1) := by decide +kernel
theorem dX4_findLastSeen_16 : decode cX4_findLastSeen 16 = .ok (.iload_n 3, 1) := by decide +kernel
theorem dX4_findLastSeen_17 : decode cX4_findLastSeen 17 = .ok (.iload_n 1, 1) := by decide +kernel
theorem dX4_findLastSeen_18 : decode cX4_findLastSeen 18 = .ok (.invokevirtual 230, 3) := by decide +kernel
theorem dX4_findLastSeen_21 : decode cX4_findLastSeen 21 = .ok (.ifCond .eq 17, 3) := by decide +kernel
theorem dX4_findLastSeen_24 : decode cX4_findLastSeen 24 = .ok (.iload_n 2, 1) := by decide +kernel
theorem dX4_findLastSeen_25 : decode cX4_findLastSeen 25 = .ok (.aload_n 0, 1) := by decide +kernel
theorem dX4_findLastSeen_26 : decode cX4_findLastSeen 26 = .ok (.getfield 12, 3) := by decide +kernel
theorem dX4_findLastSeen_29 : decode cX4_findLastSeen 29 = .ok (.getfield 91, 3) := by decide +kernel
theorem dX4_findLastSeen_32 : decode cX4_findLastSeen 32 = .ok (.iload_n 3, 1) := by decide +kernel
theorem dX4_findLastSeen_33 : decode cX4_findLastSeen 33 = .ok (.iaload, 1) := by decide +kernel
theorem dX4_findLastSeen_34 : decode cX4_findLastSeen 34 = .ok (.invokestatic 245, 3) := by decide +kernel
theorem dX4_findLastSeen_37 : decode cX4_findLastSeen 37 = .ok (.istore_n 2, 1) := by decide +kernel
theorem dX4_findLastSeen_38 : decode cX4_findLastSeen 38 = .ok (.iinc 3 1, 3) := by decide +kernel
theorem dX4_findLastSeen_41 : decode cX4_findLastSeen 41 = .ok (.goto (-37), 3) := by decide +kernel
theorem dX4_findLastSeen_44 : decode cX4_findLastSeen 44 = .ok (.iload_n 2, 1) := by decide +kernel
theorem dX4_findLastSeen_45 : decode cX4_findLastSeen 45 = .ok (.ireturn, 1) := by decide +kernel
theorem dX4_isGhostOn_0 : decode cX4_isGhostOn 0 = .ok (.iload_n 2, 1) := by decide +kernel
theorem dX4_isGhostOn_1 : decode cX4_isGhostOn 1 = .ok (.aload_n 0, 1) := by decide +kernel
theorem dX4_isGhostOn_2 : decode cX4_isGhostOn 2 = .ok (.iload_n 1, 1) := by decide +kernel
theorem dX4_isGhostOn_3 : decode cX4_isGhostOn 3 = .ok (.invokevirtual 191, 3) := by decide +kernel
theorem dX4_isGhostOn_6 : decode cX4_isGhostOn 6 = .ok (.isub, 1) := by decide +kernel
theorem dX4_isGhostOn_7 : decode cX4_isGhostOn 7 = .ok (.aload_n 0, 1) := by decide +kernel
theorem dX4_isGhostOn_8 : decode cX4_isGhostOn 8 = .ok (.getfield 34, 3) := by decide +kernel
theorem dX4_isGhostOn_11 : decode cX4_isGhostOn 11 = .ok (.if_icmp .le 7, 3) := by decide +kernel
theorem dX4_isGhostOn_14 : decode cX4_isGhostOn 14 = .ok (.iconst 1, 1) := by decide +kernel
theorem dX4_isGhostOn_15 : decode cX4_isGhostOn 15 = .ok (.goto 4, 3) := by decide +kernel
theorem dX4_isGhostOn_18 : decode cX4_isGhostOn 18 = .ok (.iconst 0, 1) := by decide +kernel
theorem dX4_isGhostOn_19 : decode cX4_isGhostOn 19 = .ok (.ireturn, 1) := by decide +kernel
theorem dX4_becomesGhostOn_0 : decode cX4_becomesGhostOn 0 = .ok (.iconst 0, 1) := by decide +kernel
theorem dX4_becomesGhostOn_1 : decode cX4_becomesGhostOn 1 = .ok (.istore_n 2, 1) := by decide +kernel
theorem dX4_becomesGhostOn_2 : decode cX4_becomesGhostOn 2 = .ok (.iload_n 2, 1) := by decide +kernel
theorem dX4_becomesGhostOn_3 : decode cX4_becomesGhostOn 3 = .ok (.aload_n 0, 1) := by decide +kernel
theorem dX4_becomesGhostOn_4 : decode cX4_becomesGhostOn 4 = .ok (.getfield 12, 3) := by decide +kernel
theorem dX4_becomesGhostOn_7 : decode cX4_becomesGhostOn 7 = .ok (.getfield 63, 3) := by decide +kernel
theorem dX4_becomesGhostOn_10 : decode cX4_becomesGhostOn 10 = .ok (.if_icmp .ge 39, 3) := by decide +kernel
theorem dX4_becomesGhostOn_13 : decode cX4_becomesGhostOn 13 = .ok (.aload_n 0, 1) := by decide +kernel
theorem dX4_becomesGhostOn_14 : decode cX4_becomesGhostOn 14 = .ok (.iload_n 2, 1) := by decide +kernel
theorem dX4_becomesGhostOn_15 : decode cX4_becomesGhostOn 15 = .ok (.invokevirtual 187, 3) := by decide +kernel
theorem dX4_becomesGhostOn_18 : decode cX4_becomesGhostOn 18 = .ok (.ifCond .eq 25, 3) := by decide +kernel
theorem dX4_becomesGhostOn_21 : decode cX4_becomesGhostOn 21 = .ok (.aload_n 0, 1) := by decide +kernel
theorem dX4_becomesGhostOn_22 : decode cX4_becomesGhostOn 22 = .ok (.iload_n 2, 1) := by decide +kernel
theorem dX4_becomesGhostOn_23 : decode cX4_becomesGhostOn 23 = .ok (.iload_n 1, 1) := by decide +kernel
theorem dX4_becomesGhostOn_24 : decode cX4_becomesGhostOn 24 = .ok (.invokevirtual 184, 3) := by decide +kernel
theorem dX4_becomesGhostOn_27 : decode cX4_becomesGhostOn 27 = .ok (.ifCond .eq 16, 3) := by decide +kernel
theorem dX4_becomesGhostOn_30 : decode cX4_becomesGhostOn 30 = .ok (.aload_n 0, 1) := by decide +kernel
theorem dX4_becomesGhostOn_31 : decode cX4_becomesGhostOn 31 = .ok (.iload_n 2, 1) := by decide +kernel
theorem dX4_becomesGhostOn_32 : decode cX4_becomesGhostOn 32 = .ok (.iload_n 1, 1) := by decide +kernel
theorem dX4_becomesGhostOn_33 : decode cX4_becomesGhostOn 33 = .ok (.iconst 1, 1) := by decide +kernel
theorem dX4_becomesGhostOn_34 : decode cX4_becomesGhostOn 34 = .ok (.isub, 1) := by decide +kernel
theorem dX4_becomesGhostOn_35 : decode cX4_becomesGhostOn 35 = .ok (.invokevirtual 184, 3) := by decide +kernel
theorem dX4_becomesGhostOn_38 : decode cX4_becomesGhostOn 38 = .ok (.ifCond .ne 5, 3) := by decide +kernel
theorem dX4_becomesGhostOn_41 : decode cX4_becomesGhostOn 41 = .ok (.iconst 1, 1) := by decide +kernel
theorem dX4_becomesGhostOn_42 : decode cX4_becomesGhostOn 42 = .ok (.ireturn, 1) := by decide +kernel
theorem dX4_becomesGhostOn_43 : decode cX4_becomesGhostOn 43 = .ok (.iinc 2 1, 3) := by decide +kernel
theorem dX4_becomesGhostOn_46 : decode cX4_becomesGhostOn 46 = .ok (.goto (-44), 3) := by decide +kernel
theorem dX4_becomesGhostOn_49 : decode cX4_becomesGhostOn 49 = .ok (.iconst 0, 1) := by decide +kernel
theorem dX4_becomesGhostOn_50 : decode cX4_becomesGhostOn 50 = .ok (.ireturn, 1) := by decide +kernel
theorem dJ6_bitCount_0f7a4_0 : decode cJ6_bitCount_0f7a4 0 = .ok (.iload_n 0, 1) := by decide +kernel
theorem dJ6_bitCount_0f7a4_1 : decode cJ6_bitCount_0f7a4 1 = .ok (.iload_n 0, 1) := by decide +kernel
theorem dJ6_bitCount_0f7a4_2 : decode cJ6_bitCount_0f7a4 2 = .ok (.iconst 1, 1) := by decide +kernel
theorem dJ6_bitCount_0f7a4_3 : decode cJ6_bitCount_0f7a4 3 = .ok (.iushr, 1) := by decide +kernel
theorem dJ6_bitCount_0f7a4_4 : decode cJ6_bitCount_0f7a4 4 = .ok (.ldc_w 265, 3) := by decide +kernel
theorem dJ6_bitCount_0f7a4_7 : decode cJ6_bitCount_0f7a4 7 = .ok (.iand, 1) := by decide +kernel
theorem dJ6_bitCount_0f7a4_8 : decode cJ6_bitCount_0f7a4 8 = .ok (.isub, 1) := by decide +kernel
theorem dJ6_bitCount_0f7a4_9 : decode cJ6_bitCount_0f7a4 9 = .ok (.istore_n 0, 1) := by decide +kernel
theorem dJ6_bitCount_0f7a4_10 : decode cJ6_bitCount_0f7a4 10 = .ok (.iload_n 0, 1) := by decide +kernel
theorem dJ6_bitCount_0f7a4_11 : decode cJ6_bitCount_0f7a4 11 = .ok (.ldc_w 266, 3) := by decide +kernel
theorem dJ6_bitCount_0f7a4_14 : decode cJ6_bitCount_0f7a4 14 = .ok (.iand, 1) := by decide +kernel
theorem dJ6_bitCount_0f7a4_15 : decode cJ6_bitCount_0f7a4 15 = .ok (.iload_n 0, 1) := by decide +kernel
theorem dJ6_bitCount_0f7a4_16 : decode cJ6_bitCount_0f7a4 16 = .ok (.iconst 2, 1) := by decide +kernel
theorem dJ6_bitCount_0f7a4_17 : decode cJ6_bitCount_0f7a4 17 = .ok (.iushr, 1) := by decide +kernel
theorem dJ6_bitCount_0f7a4_18 : decode cJ6_bitCount_0f7a4 18 = .ok (.ldc_w 266, 3) := by decide +kernel
theorem dJ6_bitCount_0f7a4_21 : decode cJ6_bitCount_0f7a4 21 = .ok (.iand, 1) := by decide +kernel
theorem dJ6_bitCount_0f7a4_22 : decode cJ6_bitCount_0f7a4 22 = .ok (.iadd, 1) := by decide +kernel
theorem dJ6_bitCount_0f7a4_23 : decode cJ6_bitCount_0f7a4 23 = .ok (.istore_n 0, 1) := by decide +kernel
theorem dJ6_bitCount_0f7a4_24 : decode cJ6_bitCount_0f7a4 24 = .ok (.iload_n 0, 1) := by decide +kernel
theorem dJ6_bitCount_0f7a4_25 : decode cJ6_bitCount_0f7a4 25 = .ok (.iload_n 0, 1) := by decide +kernel
theorem dJ6_bitCount_0f7a4_26 : decode cJ6_bitCount_0f7a4 26 = .ok (.iconst 4, 1) := by decide +kernel
theorem dJ6_bitCount_0f7a4_27 : decode cJ6_bitCount_0f7a4 27 = .ok (.iushr, 1) := by decide +kernel
theorem dJ6_bitCount_0f7a4_28 : decode cJ6_bitCount_0f7a4 28 = .ok (.iadd, 1) := by decide +kernel
theorem dJ6_bitCount_0f7a4_29 : decode cJ6_bitCount_0f7a4 29 = .ok (.ldc_w 267, 3) := by decide +kernel
theorem dJ6_bitCount_0f7a4_32 : decode cJ6_bitCount_0f7a4 32 = .ok (.iand, 1) := by decide +kernel
theorem dJ6_bitCount_0f7a4_33 : decode cJ6_bitCount_0f7a4 33 = .ok (.istore_n 0, 1) := by decide +kernel
theorem dJ6_bitCount_0f7a4_34 : decode cJ6_bitCount_0f7a4 34 = .ok (.iload_n 0, 1) := by decide +kernel
theorem dJ6_bitCount_0f7a4_35 : decode cJ6_bitCount_0f7a4 35 = .ok (.iload_n 0, 1) := by decide +kernel
theorem dJ6_bitCount_0f7a4_36 : decode cJ6_bitCount_0f7a4 36 = .ok (.bipush 8, 2) := by decide +kernel
theorem dJ6_bitCount_0f7a4_38 : decode cJ6_bitCount_0f7a4 38 = .ok (.iushr, 1) := by decide +kernel
theorem dJ6_bitCount_0f7a4_39 : decode cJ6_bitCount_0f7a4 39 = .ok (.iadd, 1) := by decide +kernel
theorem dJ6_bitCount_0f7a4_40 : decode cJ6_bitCount_0f7a4 40 = .ok (.istore_n 0, 1) := by decide +kernel
theorem dJ6_bitCount_0f7a4_41 : decode cJ6_bitCount_0f7a4 41 = .ok (.iload_n 0, 1) := by decide +kernel
theorem dJ6_bitCount_0f7a4_42 : decode cJ6_bitCount_0f7a4 42 = .ok (.iload_n 0, 1) := by decide +kernel
theorem dJ6_bitCount_0f7a4_43 : decode cJ6_bitCount_0f7a4 43 = .ok (.bipush 16, 2) := by decide +kernel
theorem dJ6_bitCount_0f7a4_45 : decode cJ6_bitCount_0f7a4 45 = .ok (.iushr, 1) := by decide +kernel
theorem dJ6_bitCount_0f7a4_46 : decode cJ6_bitCount_0f7a4 46 = .ok (.iadd, 1) := by decide +kernel
theorem dJ6_bitCount_0f7a4_47 : decode cJ6_bitCount_0f7a4 47 = .ok (.istore_n 0, 1) := by decide +kernel
theorem dJ6_bitCount_0f7a4_48 : decode cJ6_bitCount_0f7a4 48 = .ok (.iload_n 0, 1) := by decide +kernel
theorem dJ6_bitCount_0f7a4_49 : decode cJ6_bitCount_0f7a4 49 = .ok (.bipush 63, 2) := by decide +kernel
theorem dJ6_bitCount_0f7a4_51 : decode cJ6_bitCount_0f7a4 51 = .ok (.iand, 1) := by decide +kernel
theorem dJ6_bitCount_0f7a4_52 : decode cJ6_bitCount_0f7a4 52 = .ok (.ireturn, 1) := by decide +kernel
theorem dJ9_max_7cf53_0 : decode cJ9_max_7cf53 0 = .ok (.iload_n 0, 1) := by decide +kernel
theorem dJ9_max_7cf53_1 : decode cJ9_max_7cf53 1 = .ok (.iload_n 1, 1) := by decide +kernel
theorem dJ9_max_7cf53_2 : decode cJ9_max_7cf53 2 = .ok (.if_icmp .lt 7, 3) := by decide +kernel
theorem dJ9_max_7cf53_5 : decode cJ9_max_7cf53 5 = .ok (.iload_n 0, 1) := by decide +kernel
theorem dJ9_max_7cf53_6 : decode cJ9_max_7cf53 6 = .ok (.goto 4, 3) := by decide +kernel
theorem dJ9_max_7cf53_9 : decode cJ9_max_7cf53 9 = .ok (.iload_n 1, 1) := by decide +kernel
theorem dJ9_max_7cf53_10 : decode cJ9_max_7cf53 10 = .ok (.ireturn, 1) := by decide +kernel
theorem dJ9_min_7cf53_0 : decode cJ9_min_7cf53 0 = .ok (.iload_n 0, 1) := by decide +kernel
theorem dJ9_min_7cf53_1 : decode cJ9_min_7cf53 1 = .ok (.iload_n 1, 1) := by decide +kernel
theorem dJ9_min_7cf53_2 : decode cJ9_min_7cf53 2 = .ok (.if_icmp .gt 7, 3) := by decide +kernel
theorem dJ9_min_7cf53_5 : decode cJ9_min_7cf53 5 = .ok (.iload_n 0, 1) := by decide +kernel
theorem dJ9_min_7cf53_6 : decode cJ9_min_7cf53 6 = .ok (.goto 4, 3) := by decide +kernel
theorem dJ9_min_7cf53_9 : decode cJ9_min_7cf53 9 = .ok (.iload_n 1, 1) := by decide +kernel
theorem dJ9_min_7cf53_10 : decode cJ9_min_7cf53 10 = .ok (.ireturn, 1) := by decide +kernel
