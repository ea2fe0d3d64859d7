theorem dX10_lends_49 : decode cX10_lends 49 = .ok (.ireturn, 1) := by decide +kernel
theorem dX10_lends_50 : decode cX10_lends 50 = .ok (.aload_n 0, 1) := by decide +kernel
theorem dX10_lends_51 : decode cX10_lends 51 = .ok (.iload_n 2, 1) := by decide +kernel
theorem dX10_lends_52 : decode cX10_lends 52 = .ok (.invokevirtual 87, 3) := by decide +kernel
theorem dX10_lends_55 : decode cX10_lends 55 = .ok (.istore_n 3, 1) := by decide +kernel
theorem dX10_lends_56 : decode cX10_lends 56 = .ok (.iload_n 3, 1) := by decide +kernel
theorem dX10_lends_57 : decode cX10_lends 57 = .ok (.ifCond .lt 11, 3) := by decide +kernel
theorem dX10_lends_60 : decode cX10_lends 60 = .ok (.aload_n 0, 1) := by decide +kernel
theorem dX10_lends_61 : decode cX10_lends 61 = .ok (.iload_n 1, 1) := by decide +kernel
theorem dX10_lends_62 : decode cX10_lends 62 = .ok (.iload_n 3, 1) := by decide +kernel
theorem dX10_lends_63 : decode cX10_lends 63 = .ok (.invokevirtual 63, 3) := by decide +kernel
theorem dX10_lends_66 : decode cX10_lends 66 = .ok (.iload_n 3, 1) := by decide +kernel
theorem dX10_lends_67 : decode cX10_lends 67 = .ok (.ireturn, 1) := by decide +kernel
theorem dX10_lends_68 : decode cX10_lends 68 = .ok (.aload_n 0, 1) := by decide +kernel
theorem dX10_lends_69 : decode cX10_lends 69 = .ok (.iload_n 1, 1) := by decide +kernel
theorem dX10_lends_70 : decode cX10_lends 70 = .ok (.iload_n 2, 1) := by decide +kernel
theorem dX10_lends_71 : decode cX10_lends 71 = .ok (.invokevirtual 90, 3) := by decide +kernel
theorem dX10_lends_74 : decode cX10_lends 74 = .ok (.bipush 100, 2) := by decide +kernel
theorem dX10_lends_76 : decode cX10_lends 76 = .ok (.aload_n 0, 1) := by decide +kernel
theorem dX10_lends_77 : decode cX10_lends 77 = .ok (.getfield 7, 3) := by decide +kernel
theorem dX10_lends_80 : decode cX10_lends 80 = .ok (.bipush 6, 2) := by decide +kernel
theorem dX10_lends_82 : decode cX10_lends 82 = .ok (.iaload, 1) := by decide +kernel
theorem dX10_lends_83 : decode cX10_lends 83 = .ok (.iadd, 1) := by decide +kernel
theorem dX10_lends_84 : decode cX10_lends 84 = .ok (.ireturn, 1) := by decide +kernel
theorem dX10_givesBack_0 : decode cX10_givesBack 0 = .ok (.aload_n 0, 1) := by decide +kernel
theorem dX10_givesBack_1 : decode cX10_givesBack 1 = .ok (.iload_n 1, 1) := by decide +kernel
theorem dX10_givesBack_2 : decode cX10_givesBack 2 = .ok (.invokevirtual 81, 3) := by decide +kernel
theorem dX10_givesBack_5 : decode cX10_givesBack 5 = .ok (.ifCond .ne 5, 3) := by decide +kernel
theorem dX10_givesBack_8 : decode cX10_givesBack 8 = .ok (.iconst (-1), 1) := by decide +kernel
theorem dX10_givesBack_9 : decode cX10_givesBack 9 = .ok (.ireturn, 1) := by decide +kernel
theorem dX10_givesBack_10 : decode cX10_givesBack 10 = .ok (.aload_n 0, 1) := by decide +kernel
theorem dX10_givesBack_11 : decode cX10_givesBack 11 = .ok (.iload_n 1, 1) := by decide +kernel
theorem dX10_givesBack_12 : decode cX10_givesBack 12 = .ok (.invokevirtual 84, 3) := by decide +kernel
theorem dX10_givesBack_15 : decode cX10_givesBack 15 = .ok (.istore_n 2, 1) := by decide +kernel
theorem dX10_givesBack_16 : decode cX10_givesBack 16 = .ok (.iload_n 2, 1) := by decide +kernel
theorem dX10_givesBack_17 : decode cX10_givesBack 17 = .ok (.ifCond .lt 10, 3) := by decide +kernel
theorem dX10_givesBack_20 : decode cX10_givesBack 20 = .ok (.aload_n 0, 1) := by decide +kernel
theorem dX10_givesBack_21 : decode cX10_givesBack 21 = .ok (.iload_n 2, 1) := by decide +kernel
theorem dX10_givesBack_22 : decode cX10_givesBack 22 = .ok (.invokevirtual 59, 3) := by decide +kernel
theorem dX10_givesBack_25 : decode cX10_givesBack 25 = .ok (.iconst 0, 1) := by decide +kernel
theorem dX10_givesBack_26 : decode cX10_givesBack 26 = .ok (.ireturn, 1) := by decide +kernel
theorem dX10_givesBack_27 : decode cX10_givesBack 27 = .ok (.aload_n 0, 1) := by decide +kernel
theorem dX10_givesBack_28 : decode cX10_givesBack 28 = .ok (.iload_n 1, 1) := by decide +kernel
theorem dX10_givesBack_29 : decode cX10_givesBack 29 = .ok (.iconst 0, 1) := by decide +kernel
theorem dX10_givesBack_30 : decode cX10_givesBack 30 = .ok (.invokevirtual 66, 3) := by decide +kernel
theorem dX10_givesBack_33 : decode cX10_givesBack 33 = .ok (.ifCond .ge 6, 3) := by decide +kernel
theorem dX10_givesBack_36 : decode cX10_givesBack 36 = .ok (.bipush (-2), 2) := by decide +kernel
theorem dX10_givesBack_38 : decode cX10_givesBack 38 = .ok (.ireturn, 1) := by decide +kernel
theorem dX10_givesBack_39 : decode cX10_givesBack 39 = .ok (.aload_n 0, 1) := by decide +kernel
theorem dX10_givesBack_40 : decode cX10_givesBack 40 = .ok (.iload_n 1, 1) := by decide +kernel
theorem dX10_givesBack_41 : decode cX10_givesBack 41 = .ok (.invokevirtual 93, 3) := by decide +kernel
theorem dX10_givesBack_44 : decode cX10_givesBack 44 = .ok (.istore_n 3, 1) := by decide +kernel
theorem dX10_givesBack_45 : decode cX10_givesBack 45 = .ok (.aload_n 0, 1) := by decide +kernel
theorem dX10_givesBack_46 : decode cX10_givesBack 46 = .ok (.aload_n 0, 1) := by decide +kernel
theorem dX10_givesBack_47 : decode cX10_givesBack 47 = .ok (.iload_n 1, 1) := by decide +kernel
theorem dX10_givesBack_48 : decode cX10_givesBack 48 = .ok (.invokevirtual 96, 3) := by decide +kernel
theorem dX10_givesBack_51 : decode cX10_givesBack 51 = .ok (.invokevirtual 78, 3) := by decide +kernel
theorem dX10_givesBack_54 : decode cX10_givesBack 54 = .ok (.iload_n 3, 1) := by decide +kernel
theorem dX10_givesBack_55 : decode cX10_givesBack 55 = .ok (.ireturn, 1) := by decide +kernel
theorem dX10_renews_0 : decode cX10_renews 0 = .ok (.aload_n 0, 1) := by decide +kernel
theorem dX10_renews_1 : decode cX10_renews 1 = .ok (.iload_n 1, 1) := by decide +kernel
theorem dX10_renews_2 : decode cX10_renews 2 = .ok (.invokevirtual 81, 3) := by decide +kernel
theorem dX10_renews_5 : decode cX10_renews 5 = .ok (.ifCond .ne 5, 3) := by decide +kernel
theorem dX10_renews_8 : decode cX10_renews 8 = .ok (.iconst (-1), 1) := by decide +kernel
theorem dX10_renews_9 : decode cX10_renews 9 = .ok (.ireturn, 1) := by decide +kernel
theorem dX10_renews_10 : decode cX10_renews 10 = .ok (.aload_n 0, 1) := by decide +kernel
theorem dX10_renews_11 : decode cX10_renews 11 = .ok (.iload_n 1, 1) := by decide +kernel
theorem dX10_renews_12 : decode cX10_renews 12 = .ok (.iconst 0, 1) := by decide +kernel
theorem dX10_renews_13 : decode cX10_renews 13 = .ok (.invokevirtual 66, 3) := by decide +kernel
theorem dX10_renews_16 : decode cX10_renews 16 = .ok (.istore_n 2, 1) := by decide +kernel
theorem dX10_renews_17 : decode cX10_renews 17 = .ok (.iload_n 2, 1) := by decide +kernel
theorem dX10_renews_18 : decode cX10_renews 18 = .ok (.ifCond .lt 24, 3) := by decide +kernel
theorem dX10_renews_21 : decode cX10_renews 21 = .ok (.aload_n 0, 1) := by decide +kernel
theorem dX10_renews_22 : decode cX10_renews 22 = .ok (.iload_n 1, 1) := by decide +kernel
theorem dX10_renews_23 : decode cX10_renews 23 = .ok (.invokevirtual 93, 3) := by decide +kernel
theorem dX10_renews_26 : decode cX10_renews 26 = .ok (.ifCond .gt 16, 3) := by decide +kernel
theorem dX10_renews_29 : decode cX10_renews 29 = .ok (.aload_n 0, 1) := by decide +kernel
theorem dX10_renews_30 : decode cX10_renews 30 = .ok (.aload_n 0, 1) := by decide +kernel
theorem dX10_renews_31 : decode cX10_renews 31 = .ok (.iload_n 2, 1) := by decide +kernel
theorem dX10_renews_32 : decode cX10_renews 32 = .ok (.iconst 0, 1) := by decide +kernel
theorem dX10_renews_33 : decode cX10_renews 33 = .ok (.invokevirtual 36, 3) := by decide +kernel
theorem dX10_renews_36 : decode cX10_renews 36 = .ok (.invokevirtual 55, 3) := by decide +kernel
theorem dX10_renews_39 : decode cX10_renews 39 = .ok (.ifCond .lt 6, 3) := by decide +kernel
theorem dX10_renews_42 : decode cX10_renews 42 = .ok (.bipush (-2), 2) := by decide +kernel
theorem dX10_renews_44 : decode cX10_renews 44 = .ok (.ireturn, 1) := by decide +kernel
theorem dX10_renews_45 : decode cX10_renews 45 = .ok (.aload_n 0, 1) := by decide +kernel
theorem dX10_renews_46 : decode cX10_renews 46 = .ok (.iload_n 1, 1) := by decide +kernel
theorem dX10_renews_47 : decode cX10_renews 47 = .ok (.iconst 2, 1) := by decide +kernel
theorem dX10_renews_48 : decode cX10_renews 48 = .ok (.invokevirtual 66, 3) := by decide +kernel
theorem dX10_renews_51 : decode cX10_renews 51 = .ok (.aload_n 0, 1) := by decide +kernel
theorem dX10_renews_52 : decode cX10_renews 52 = .ok (.getfield 7, 3) := by decide +kernel
theorem dX10_renews_55 : decode cX10_renews 55 = .ok (.iconst 1, 1) := by decide +kernel
theorem dX10_renews_56 : decode cX10_renews 56 = .ok (.iaload, 1) := by decide +kernel
theorem dX10_renews_57 : decode cX10_renews 57 = .ok (.if_icmp .lt 6, 3) := by decide +kernel
theorem dX10_renews_60 : decode cX10_renews 60 = .ok (.bipush (-3), 2) := by decide +kernel
theorem dX10_renews_62 : decode cX10_renews 62 = .ok (.ireturn, 1) := by decide +kernel
theorem dX10_renews_63 : decode cX10_renews 63 = .ok (.aload_n 0, 1) := by decide +kernel
theorem dX10_renews_64 : decode cX10_renews 64 = .ok (.iload_n 1, 1) := by decide +kernel
theorem dX10_renews_65 : decode cX10_renews 65 = .ok (.iconst 2, 1) := by decide +kernel
theorem dX10_renews_66 : decode cX10_renews 66 = .ok (.aload_n 0, 1) := by decide +kernel
theorem dX10_renews_67 : decode cX10_renews 67 = .ok (.iload_n 1, 1) := by decide +kernel
theorem dX10_renews_68 : decode cX10_renews 68 = .ok (.iconst 2, 1) := by decide +kernel
theorem dX10_renews_69 : decode cX10_renews 69 = .ok (.invokevirtual 66, 3) := by decide +kernel
theorem dX10_renews_72 : decode cX10_renews 72 = .ok (.iconst 1, 1) := by decide +kernel
theorem dX10_renews_73 : decode cX10_renews 73 = .ok (.iadd, 1) := by decide +kernel
theorem dX10_renews_74 : decode cX10_renews 74 = .ok (.invokevirtual 48, 3) := by decide +kernel
theorem dX10_renews_77 : decode cX10_renews 77 = .ok (.aload_n 0, 1) := by decide +kernel
theorem dX10_renews_78 : decode cX10_renews 78 = .ok (.iload_n 1, 1) := by decide +kernel
theorem dX10_renews_79 : decode cX10_renews 79 = .ok (.iconst 1, 1) := by decide +kernel
theorem dX10_renews_80 : decode cX10_renews 80 = .ok (.aload_n 0, 1) := by decide +kernel
theorem dX10_renews_81 : decode cX10_renews 81 = .ok (.iload_n 1, 1) := by decide +kernel
theorem dX10_renews_82 : decode cX10_renews 82 = .ok (.iconst 1, 1) := by decide +kernel
theorem dX10_renews_83 : decode cX10_renews 83 = .ok (.invokevirtual 66, 3) := by decide +kernel
theorem dX10_renews_86 : decode cX10_renews 86 = .ok (.aload_n 0, 1) := by decide +kernel
theorem dX10_renews_87 : decode cX10_renews 87 = .ok (.getfield 7, 3) := by decide +kernel
theorem dX10_renews_90 : decode cX10_renews 90 = .ok (.iconst 0, 1) := by decide +kernel
theorem dX10_renews_91 : decode cX10_renews 91 = .ok (.iaload, 1) := by decide +kernel
theorem dX10_renews_92 : decode cX10_renews 92 = .ok (.iadd, 1) := by decide +kernel
theorem dX10_renews_93 : decode cX10_renews 93 = .ok (.invokevirtual 48, 3) := by decide +kernel
theorem dX10_renews_96 : decode cX10_renews 96 = .ok (.aload_n 0, 1) := by decide +kernel
theorem dX10_renews_97 : decode cX10_renews 97 = .ok (.iload_n 1, 1) := by decide +kernel
theorem dX10_renews_98 : decode cX10_renews 98 = .ok (.iconst 1, 1) := by decide +kernel
theorem dX10_renews_99 : decode cX10_renews 99 = .ok (.invokevirtual 66, 3) := by decide +kernel
theorem dX10_renews_102 : decode cX10_renews 102 = .ok (.ireturn, 1) := by decide +kernel
theorem dX10_changesLock_0 : decode cX10_changesLock 0 = .ok (.aload_n 0, 1) := by decide +kernel
theorem dX10_changesLock_1 : decode cX10_changesLock 1 = .ok (.iload_n 1, 1) := by decide +kernel
theorem dX10_changesLock_2 : decode cX10_changesLock 2 = .ok (.bipush 20, 2) := by decide +kernel
theorem dX10_changesLock_4 : decode cX10_changesLock 4 = .ok (.invokevirtual 99, 3) := by decide +kernel
theorem dX10_changesLock_7 : decode cX10_changesLock 7 = .ok (.aload_n 0, 1) := by decide +kernel
theorem dX10_changesLock_8 : decode cX10_changesLock 8 = .ok (.iload_n 1, 1) := by decide +kernel
theorem dX10_changesLock_9 : decode cX10_changesLock 9 = .ok (.invokevirtual 96, 3) := by decide +kernel
theorem dX10_changesLock_12 : decode cX10_changesLock 12 = .ok (.istore_n 2, 1) := by decide +kernel
theorem dX10_changesLock_13 : decode cX10_changesLock 13 = .ok (.aload_n 0, 1) := by decide +kernel
theorem dX10_changesLock_14 : decode cX10_changesLock 14 = .ok (.iload_n 2, 1) := by decide +kernel
theorem dX10_changesLock_15 : decode cX10_changesLock 15 = .ok (.iconst 0, 1) := by decide +kernel
theorem dX10_changesLock_16 : decode cX10_changesLock 16 = .ok (.invokevirtual 36, 3) := by decide +kernel
theorem dX10_changesLock_19 : decode cX10_changesLock 19 = .ok (.istore_n 3, 1) := by decide +kernel
theorem dX10_changesLock_20 : decode cX10_changesLock 20 = .ok (.aload_n 0, 1) := by decide +kernel
theorem dX10_changesLock_21 : decode cX10_changesLock 21 = .ok (.iload_n 2, 1) := by decide +kernel
theorem dX10_changesLock_22 : decode cX10_changesLock 22 = .ok (.iconst 3, 1) := by decide +kernel
theorem dX10_changesLock_23 : decode cX10_changesLock 23 = .ok (.iconst 1, 1) := by decide +kernel
theorem dX10_changesLock_24 : decode cX10_changesLock 24 = .ok (.invokevirtual 44, 3) := by decide +kernel
theorem dX10_changesLock_27 : decode cX10_changesLock 27 = .ok (.aload_n 0, 1) := by decide +kernel
theorem dX10_changesLock_28 : decode cX10_changesLock 28 = .ok (.iload_n 2, 1) := by decide +kernel
theorem dX10_changesLock_29 : decode cX10_changesLock 29 = .ok (.iconst 4, 1) := by decide +kernel
theorem dX10_changesLock_30 : decode cX10_changesLock 30 = .ok (.aload_n 0, 1) := by decide +kernel
theorem dX10_changesLock_31 : decode cX10_changesLock 31 = .ok (.getfield 7, 3) := by decide +kernel
theorem dX10_changesLock_34 : decode cX10_changesLock 34 = .ok (.iconst 3, 1) := by decide +kernel
theorem dX10_changesLock_35 : decode cX10_changesLock 35 = .ok (.iaload, 1) := by decide +kernel
theorem dX10_changesLock_36 : decode cX10_changesLock 36 = .ok (.iconst 3, 1) := by decide +kernel
theorem dX10_changesLock_37 : decode cX10_changesLock 37 = .ok (.iadd, 1) := by decide +kernel
theorem dX10_changesLock_38 : decode cX10_changesLock 38 = .ok (.invokevirtual 44, 3) := by decide +kernel
theorem dX10_changesLock_41 : decode cX10_changesLock 41 = .ok (.aload_n 0, 1) := by decide +kernel
theorem dX10_changesLock_42 : decode cX10_changesLock 42 = .ok (.iload_n 3, 1) := by decide +kernel
theorem dX10_changesLock_43 : decode cX10_changesLock 43 = .ok (.invokevirtual 87, 3) := by decide +kernel
theorem dX10_changesLock_46 : decode cX10_changesLock 46 = .ok (.istore 4, 2) := by decide +kernel
theorem dX10_changesLock_48 : decode cX10_changesLock 48 = .ok (.iload 4, 2) := by decide +kernel
theorem dX10_changesLock_50 : decode cX10_changesLock 50 = .ok (.ifCond .lt 13, 3) := by decide +kernel
theorem dX10_changesLock_53 : decode cX10_changesLock 53 = .ok (.aload_n 0, 1) := by decide +kernel
theorem dX10_changesLock_54 : decode cX10_changesLock 54 = .ok (.iload_n 1, 1) := by decide +kernel
theorem dX10_changesLock_55 : decode cX10_changesLock 55 = .ok (.iload 4, 2) := by decide +kernel
theorem dX10_changesLock_57 : decode cX10_changesLock 57 = .ok (.invokevirtual 63, 3) := by decide +kernel
theorem dX10_changesLock_60 : decode cX10_changesLock 60 = .ok (.goto 9, 3) := by decide +kernel
theorem dX10_changesLock_63 : decode cX10_changesLock 63 = .ok (.aload_n 0, 1) := by decide +kernel
theorem dX10_changesLock_64 : decode cX10_changesLock 64 = .ok (.iload_n 1, 1) := by decide +kernel
theorem dX10_changesLock_65 : decode cX10_changesLock 65 = .ok (.iload_n 3, 1) := by decide +kernel
theorem dX10_changesLock_66 : decode cX10_changesLock 66 = .ok (.invokevirtual 90, 3) := by decide +kernel
theorem dX10_changesLock_69 : decode cX10_changesLock 69 = .ok (.return_, 1) := by decide +kernel
theorem dX10_loses_0 : decode cX10_loses 0 = .ok (.aload_n 0, 1) := by decide +kernel
theorem dX10_loses_1 : decode cX10_loses 1 = .ok (.iload_n 1, 1) := by decide +kernel
theorem dX10_loses_2 : decode cX10_loses 2 = .ok (.invokevirtual 81, 3) := by decide +kernel
theorem dX10_loses_5 : decode cX10_loses 5 = .ok (.ifCond .ne 5, 3) := by decide +kernel
theorem dX10_loses_8 : decode cX10_loses 8 = .ok (.iconst (-1), 1) := by decide +kernel
theorem dX10_loses_9 : decode cX10_loses 9 = .ok (.ireturn, 1) := by decide +kernel
theorem dX10_loses_10 : decode cX10_loses 10 = .ok (.aload_n 0, 1) := by decide +kernel
theorem dX10_loses_11 : decode cX10_loses 11 = .ok (.iload_n 1, 1) := by decide +kernel
theorem dX10_loses_12 : decode cX10_loses 12 = .ok (.iconst 0, 1) := by decide +kernel
theorem dX10_loses_13 : decode cX10_loses 13 = .ok (.invokevirtual 66, 3) := by decide +kernel
theorem dX10_loses_16 : decode cX10_loses 16 = .ok (.istore_n 2, 1) := by decide +kernel
theorem dX10_loses_17 : decode cX10_loses 17 = .ok (.iload_n 2, 1) := by decide +kernel
theorem dX10_loses_18 : decode cX10_loses 18 = .ok (.ifCond .ge 6, 3) := by decide +kernel
theorem dX10_loses_21 : decode cX10_loses 21 = .ok (.bipush (-2), 2) := by decide +kernel
theorem dX10_loses_23 : decode cX10_loses 23 = .ok (.ireturn, 1) := by decide +kernel
theorem dX10_loses_24 : decode cX10_loses 24 = .ok (.aload_n 0, 1) := by decide +kernel
theorem dX10_loses_25 : decode cX10_loses 25 = .ok (.iload_n 1, 1) := by decide +kernel
theorem dX10_loses_26 : decode cX10_loses 26 = .ok (.bipush 6, 2) := by decide +kernel
theorem dX10_loses_28 : decode cX10_loses 28 = .ok (.aload_n 0, 1) := by decide +kernel
theorem dX10_loses_29 : decode cX10_loses 29 = .ok (.iload_n 1, 1) := by decide +kernel
theorem dX10_loses_30 : decode cX10_loses 30 = .ok (.bipush 6, 2) := by decide +kernel
theorem dX10_loses_32 : decode cX10_loses 32 = .ok (.invokevirtual 66, 3) := by decide +kernel
theorem dX10_loses_35 : decode cX10_loses 35 = .ok (.iconst 1, 1) := by decide +kernel
theorem dX10_loses_36 : decode cX10_loses 36 = .ok (.iadd, 1) := by decide +kernel
theorem dX10_loses_37 : decode cX10_loses 37 = .ok (.invokevirtual 48, 3) := by decide +kernel
theorem dX10_loses_40 : decode cX10_loses 40 = .ok (.aload_n 0, 1) := by decide +kernel
theorem dX10_loses_41 : decode cX10_loses 41 = .ok (.iload_n 1, 1) := by decide +kernel
theorem dX10_loses_42 : decode cX10_loses 42 = .ok (.iconst 5, 1) := by decide +kernel
theorem dX10_loses_43 : decode cX10_loses 43 = .ok (.invokevirtual 99, 3) := by decide +kernel
theorem dX10_loses_46 : decode cX10_loses 46 = .ok (.aload_n 0, 1) := by decide +kernel
theorem dX10_loses_47 : decode cX10_loses 47 = .ok (.iload_n 2, 1) := by decide +kernel
theorem dX10_loses_48 : decode cX10_loses 48 = .ok (.iconst 3, 1) := by decide +kernel
theorem dX10_loses_49 : decode cX10_loses 49 = .ok (.invokevirtual 36, 3) := by decide +kernel
theorem dX10_loses_52 : decode cX10_loses 52 = .ok (.iconst 1, 1) := by decide +kernel
theorem dX10_loses_53 : decode cX10_loses 53 = .ok (.if_icmp .ne 13, 3) := by decide +kernel
theorem dX10_loses_56 : decode cX10_loses 56 = .ok (.aload_n 0, 1) := by decide +kernel
theorem dX10_loses_57 : decode cX10_loses 57 = .ok (.iload_n 2, 1) := by decide +kernel
theorem dX10_loses_58 : decode cX10_loses 58 = .ok (.iconst 3, 1) := by decide +kernel
theorem dX10_loses_59 : decode cX10_loses 59 = .ok (.iconst 0, 1) := by decide +kernel
theorem dX10_loses_60 : decode cX10_loses 60 = .ok (.invokevirtual 44, 3) := by decide +kernel
theorem dX10_loses_63 : decode cX10_loses 63 = .ok (.goto 8, 3) := by decide +kernel
theorem dX10_loses_66 : decode cX10_loses 66 = .ok (.aload_n 0, 1) := by decide +kernel
theorem dX10_loses_67 : decode cX10_loses 67 = .ok (.iload_n 1, 1) := by decide +kernel
theorem dX10_loses_68 : decode cX10_loses 68 = .ok (.invokevirtual 102, 3) := by decide +kernel
theorem dX10_loses_71 : decode cX10_loses 71 = .ok (.aload_n 0, 1) := by decide +kernel
theorem dX10_loses_72 : decode cX10_loses 72 = .ok (.iload_n 1, 1) := by decide +kernel
theorem dX10_loses_73 : decode cX10_loses 73 = .ok (.iconst 3, 1) := by decide +kernel
theorem dX10_loses_74 : decode cX10_loses 74 = .ok (.invokevirtual 66, 3) := by decide +kernel
theorem dX10_loses_77 : decode cX10_loses 77 = .ok (.ireturn, 1) := by decide +kernel
theorem dX10_wishes_0 : decode cX10_wishes 0 = .ok (.aload_n 0, 1) := by decide +kernel
theorem dX10_wishes_1 : decode cX10_wishes 1 = .ok (.iload_n 1, 1) := by decide +kernel
theorem dX10_wishes_2 : decode cX10_wishes 2 = .ok (.invokevirtual 81, 3) := by decide +kernel
theorem dX10_wishes_5 : decode cX10_wishes 5 = .ok (.ifCond .eq 12, 3) := by decide +kernel
theorem dX10_wishes_8 : decode cX10_wishes 8 = .ok (.iload_n 2, 1) := by decide +kernel
theorem dX10_wishes_9 : decode cX10_wishes 9 = .ok (.iconst 0, 1) := by decide +kernel
theorem dX10_wishes_10 : decode cX10_wishes 10 = .ok (.iconst 2, 1) := by decide +kernel
theorem dX10_wishes_11 : decode cX10_wishes 11 = .ok (.invokestatic 28, 3) := by decide +kernel
theorem dX10_wishes_14 : decode cX10_wishes 14 = .ok (.ifCond .ne 5, 3) := by decide +kernel
theorem dX10_wishes_17 : decode cX10_wishes 17 = .ok (.iconst (-1), 1) := by decide +kernel
theorem dX10_wishes_18 : decode cX10_wishes 18 = .ok (.ireturn, 1) := by decide +kernel
theorem dX10_wishes_19 : decode cX10_wishes 19 = .ok (.aload_n 0, 1) := by decide +kernel
theorem dX10_wishes_20 : decode cX10_wishes 20 = .ok (.iload_n 1, 1) := by decide +kernel
theorem dX10_wishes_21 : decode cX10_wishes 21 = .ok (.iconst 0, 1) := by decide +kernel
theorem dX10_wishes_22 : decode cX10_wishes 22 = .ok (.invokevirtual 66, 3) := by decide +kernel
theorem dX10_wishes_25 : decode cX10_wishes 25 = .ok (.istore_n 3, 1) := by decide +kernel
theorem dX10_wishes_26 : decode cX10_wishes 26 = .ok (.iload_n 3, 1) := by decide +kernel
theorem dX10_wishes_27 : decode cX10_wishes 27 = .ok (.ifCond .lt 13, 3) := by decide +kernel
theorem dX10_wishes_30 : decode cX10_wishes 30 = .ok (.aload_n 0, 1) := by decide +kernel
theorem dX10_wishes_31 : decode cX10_wishes 31 = .ok (.iload_n 3, 1) := by decide +kernel
theorem dX10_wishes_32 : decode cX10_wishes 32 = .ok (.iconst 0, 1) := by decide +kernel
theorem dX10_wishes_33 : decode cX10_wishes 33 = .ok (.invokevirtual 36, 3) := by decide +kernel
theorem dX10_wishes_36 : decode cX10_wishes 36 = .ok (.iload_n 2, 1) := by decide +kernel
theorem dX10_wishes_37 : decode cX10_wishes 37 = .ok (.if_icmp .ne 6, 3) := by decide +kernel
theorem dX10_wishes_40 : decode cX10_wishes 40 = .ok (.bipush (-2), 2) := by decide +kernel
theorem dX10_wishes_42 : decode cX10_wishes 42 = .ok (.ireturn, 1) := by decide +kernel
theorem dX10_wishes_43 : decode cX10_wishes 43 = .ok (.aload_n 0, 1) := by decide +kernel
theorem dX10_wishes_44 : decode cX10_wishes 44 = .ok (.iload_n 1, 1) := by decide +kernel
theorem dX10_wishes_45 : decode cX10_wishes 45 = .ok (.invokevirtual 69, 3) := by decide +kernel
theorem dX10_wishes_48 : decode cX10_wishes 48 = .ok (.aload_n 0, 1) := by decide +kernel
theorem dX10_wishes_49 : decode cX10_wishes 49 = .ok (.iload_n 1, 1) := by decide +kernel
theorem dX10_wishes_50 : decode cX10_wishes 50 = .ok (.iconst 5, 1) := by decide +kernel
theorem dX10_wishes_51 : decode cX10_wishes 51 = .ok (.iload_n 2, 1) := by decide +kernel
theorem dX10_wishes_52 : decode cX10_wishes 52 = .ok (.invokevirtual 48, 3) := by decide +kernel
theorem dX10_wishes_55 : decode cX10_wishes 55 = .ok (.aload_n 0, 1) := by decide +kernel
theorem dX10_wishes_56 : decode cX10_wishes 56 = .ok (.getfield 7, 3) := by decide +kernel
theorem dX10_wishes_59 : decode cX10_wishes 59 = .ok (.sipush 183, 3) := by decide +kernel
theorem dX10_wishes_62 : decode cX10_wishes 62 = .ok (.aload_n 0, 1) := by decide +kernel
theorem dX10_wishes_63 : decode cX10_wishes 63 = .ok (.getfield 7, 3) := by decide +kernel
theorem dX10_wishes_66 : decode cX10_wishes 66 = .ok (.bipush 7, 2) := by decide +kernel
theorem dX10_wishes_68 : decode cX10_wishes 68 = .ok (.iaload, 1) := by decide +kernel
theorem dX10_wishes_69 : decode cX10_wishes 69 = .ok (.iadd, 1) := by decide +kernel
theorem dX10_wishes_70 : decode cX10_wishes 70 = .ok (.iload_n 1, 1) := by decide +kernel
theorem dX10_wishes_71 : decode cX10_wishes 71 = .ok (.iastore, 1) := by decide +kernel
theorem dX10_wishes_72 : decode cX10_wishes 72 = .ok (.aload_n 0, 1) := by decide +kernel
theorem dX10_wishes_73 : decode cX10_wishes 73 = .ok (.getfield 7, 3) := by decide +kernel
theorem dX10_wishes_76 : decode cX10_wishes 76 = .ok (.bipush 7, 2) := by decide +kernel
theorem dX10_wishes_78 : decode cX10_wishes 78 = .ok (.dup2, 1) := by decide +kernel
theorem dX10_wishes_79 : decode cX10_wishes 79 = .ok (.iaload, 1) := by decide +kernel
theorem dX10_wishes_80 : decode cX10_wishes 80 = .ok (.iconst 1, 1) := by decide +kernel
theorem dX10_wishes_81 : decode cX10_wishes 81 = .ok (.iadd, 1) := by decide +kernel
theorem dX10_wishes_82 : decode cX10_wishes 82 = .ok (.iastore, 1) := by decide +kernel
theorem dX10_wishes_83 : decode cX10_wishes 83 = .ok (.aload_n 0, 1) := by decide +kernel
theorem dX10_wishes_84 : decode cX10_wishes 84 = .ok (.getfield 7, 3) := by decide +kernel
theorem dX10_wishes_87 : decode cX10_wishes 87 = .ok (.bipush 7, 2) := by decide +kernel
theorem dX10_wishes_89 : decode cX10_wishes 89 = .ok (.iaload, 1) := by decide +kernel
theorem dX10_wishes_90 : decode cX10_wishes 90 = .ok (.ireturn, 1) := by decide +kernel
theorem dX10_wishesNoMore_0 : decode cX10_wishesNoMore 0 = .ok (.aload_n 0, 1) := by decide +kernel
theorem dX10_wishesNoMore_1 : decode cX10_wishesNoMore 1 = .ok (.iload_n 1, 1) := by decide +kernel
theorem dX10_wishesNoMore_2 : decode cX10_wishesNoMore 2 = .ok (.invokevirtual 81, 3) := by decide +kernel
theorem dX10_wishesNoMore_5 : decode cX10_wishesNoMore 5 = .ok (.ifCond .ne 5, 3) := by decide +kernel
theorem dX10_wishesNoMore_8 : decode cX10_wishesNoMore 8 = .ok (.iconst (-1), 1) := by decide +kernel
theorem dX10_wishesNoMore_9 : decode cX10_wishesNoMore 9 = .ok (.ireturn, 1) := by decide +kernel
theorem dX10_wishesNoMore_10 : decode cX10_wishesNoMore 10 = .ok (.aload_n 0, 1) := by decide +kernel
theorem dX10_wishesNoMore_11 : decode cX10_wishesNoMore 11 = .ok (.iload_n 1, 1) := by decide +kernel
theorem dX10_wishesNoMore_12 : decode cX10_wishesNoMore 12 = .ok (.iconst 5, 1) := by decide +kernel
theorem dX10_wishesNoMore_13 : decode cX10_wishesNoMore 13 = .ok (.invokevirtual 66, 3) := by decide +kernel
theorem dX10_wishesNoMore_16 : decode cX10_wishesNoMore 16 = .ok (.istore_n 2, 1) := by decide +kernel
theorem dX10_wishesNoMore_17 : decode cX10_wishesNoMore 17 = .ok (.iload_n 2, 1) := by decide +kernel
theorem dX10_wishesNoMore_18 : decode cX10_wishesNoMore 18 = .ok (.ifCond .ge 6, 3) := by decide +kernel
theorem dX10_wishesNoMore_21 : decode cX10_wishesNoMore 21 = .ok (.bipush (-2), 2) := by decide +kernel
theorem dX10_wishesNoMore_23 : decode cX10_wishesNoMore 23 = .ok (.ireturn, 1) := by decide +kernel
theorem dX10_wishesNoMore_24 : decode cX10_wishesNoMore 24 = .ok (.aload_n 0, 1) := by decide +kernel
theorem dX10_wishesNoMore_25 : decode cX10_wishesNoMore 25 = .ok (.iload_n 1, 1) := by decide +kernel
theorem dX10_wishesNoMore_26 : decode cX10_wishesNoMore 26 = .ok (.invokevirtual 69, 3) := by decide +kernel
theorem dX10_wishesNoMore_29 : decode cX10_wishesNoMore 29 = .ok (.iload_n 2, 1) := by decide +kernel
theorem dX10_wishesNoMore_30 : decode cX10_wishesNoMore 30 = .ok (.ireturn, 1) := by decide +kernel
theorem dX10_pays_0 : decode cX10_pays 0 = .ok (.aload_n 0, 1) := by decide +kernel
theorem dX10_pays_1 : decode cX10_pays 1 = .ok (.iload_n 1, 1) := by decide +kernel
theorem dX10_pays_2 : decode cX10_pays 2 = .ok (.invokevirtual 81, 3) := by decide +kernel
theorem dX10_pays_5 : decode cX10_pays 5 = .ok (.ifCond .eq 14, 3) := by decide +kernel
theorem dX10_pays_8 : decode cX10_pays 8 = .ok (.iload_n 2, 1) := by decide +kernel
theorem dX10_pays_9 : decode cX10_pays 9 = .ok (.iconst 1, 1) := by decide +kernel
theorem dX10_pays_10 : decode cX10_pays 10 = .ok (.sipush 999, 3) := by decide +kernel
theorem dX10_pays_13 : decode cX10_pays 13 = .ok (.invokestatic 28, 3) := by decide +kernel
theorem dX10_pays_16 : decode cX10_pays 16 = .ok (.ifCond .ne 5, 3) := by decide +kernel
theorem dX10_pays_19 : decode cX10_pays 19 = .ok (.iconst (-1), 1) := by decide +kernel
theorem dX10_pays_20 : decode cX10_pays 20 = .ok (.ireturn, 1) := by decide +kernel
theorem dX10_pays_21 : decode cX10_pays 21 = .ok (.aload_n 0, 1) := by decide +kernel
theorem dX10_pays_22 : decode cX10_pays 22 = .ok (.iload_n 1, 1) := by decide +kernel
theorem dX10_pays_23 : decode cX10_pays 23 = .ok (.iconst 3, 1) := by decide +kernel
theorem dX10_pays_24 : decode cX10_pays 24 = .ok (.invokevirtual 66, 3) := by decide +kernel
theorem dX10_pays_27 : decode cX10_pays 27 = .ok (.iload_n 2, 1) := by decide +kernel
theorem dX10_pays_28 : decode cX10_pays 28 = .ok (.if_icmp .ge 6, 3) := by decide +kernel
theorem dX10_pays_31 : decode cX10_pays 31 = .ok (.bipush (-2), 2) := by decide +kernel
theorem dX10_pays_33 : decode cX10_pays 33 = .ok (.ireturn, 1) := by decide +kernel
theorem dX10_pays_34 : decode cX10_pays 34 = .ok (.aload_n 0, 1) := by decide +kernel
theorem dX10_pays_35 : decode cX10_pays 35 = .ok (.iload_n 1, 1) := by decide +kernel
theorem dX10_pays_36 : decode cX10_pays 36 = .ok (.iconst 3, 1) := by decide +kernel
theorem dX10_pays_37 : decode cX10_pays 37 = .ok (.aload_n 0, 1) := by decide +kernel
theorem dX10_pays_38 : decode cX10_pays 38 = .ok (.iload_n 1, 1) := by decide +kernel
theorem dX10_pays_39 : decode cX10_pays 39 = .ok (.iconst 3, 1) := by decide +kernel
theorem dX10_pays_40 : decode cX10_pays 40 = .ok (.invokevirtual 66, 3) := by decide +kernel
theorem dX10_pays_43 : decode cX10_pays 43 = .ok (.iload_n 2, 1) := by decide +kernel
theorem dX10_pays_44 : decode cX10_pays 44 = .ok (.isub, 1) := by decide +kernel
theorem dX10_pays_45 : decode cX10_pays 45 = .ok (.invokevirtual 48, 3) := by decide +kernel
theorem dX10_pays_48 : decode cX10_pays 48 = .ok (.aload_n 0, 1) := by decide +kernel
theorem dX10_pays_49 : decode cX10_pays 49 = .ok (.iload_n 1, 1) := by decide +kernel
theorem dX10_pays_50 : decode cX10_pays 50 = .ok (.iconst 4, 1) := by decide +kernel
theorem dX10_pays_51 : decode cX10_pays 51 = .ok (.aload_n 0, 1) := by decide +kernel
theorem dX10_pays_52 : decode cX10_pays 52 = .ok (.iload_n 1, 1) := by decide +kernel
theorem dX10_pays_53 : decode cX10_pays 53 = .ok (.iconst 4, 1) := by decide +kernel
theorem dX10_pays_54 : decode cX10_pays 54 = .ok (.invokevirtual 66, 3) := by decide +kernel
theorem dX10_pays_57 : decode cX10_pays 57 = .ok (.iload_n 2, 1) := by decide +kernel
theorem dX10_pays_58 : decode cX10_pays 58 = .ok (.iadd, 1) := by decide +kernel
theorem dX10_pays_59 : decode cX10_pays 59 = .ok (.invokevirtual 48, 3) := by decide +kernel
theorem dX10_pays_62 : decode cX10_pays 62 = .ok (.aload_n 0, 1) := by decide +kernel
theorem dX10_pays_63 : decode cX10_pays 63 = .ok (.getfield 7, 3) := by decide +kernel
theorem dX10_pays_66 : decode cX10_pays 66 = .ok (.bipush 8, 2) := by decide +kernel
theorem dX10_pays_68 : decode cX10_pays 68 = .ok (.dup2, 1) := by decide +kernel
theorem dX10_pays_69 : decode cX10_pays 69 = .ok (.iaload, 1) := by decide +kernel
theorem dX10_pays_70 : decode cX10_pays 70 = .ok (.iload_n 2, 1) := by decide +kernel
theorem dX10_pays_71 : decode cX10_pays 71 = .ok (.iadd, 1) := by decide +kernel
theorem dX10_pays_72 : decode cX10_pays 72 = .ok (.iastore, 1) := by decide +kernel
theorem dX10_pays_73 : decode cX10_pays 73 = .ok (.aload_n 0, 1) := by decide +kernel
theorem dX10_pays_74 : decode cX10_pays 74 = .ok (.iload_n 1, 1) := by decide +kernel
theorem dX10_pays_75 : decode cX10_pays 75 = .ok (.iconst 3, 1) := by decide +kernel
theorem dX10_pays_76 : decode cX10_pays 76 = .ok (.invokevirtual 66, 3) := by decide +kernel
theorem dX10_pays_79 : decode cX10_pays 79 = .ok (.ireturn, 1) := by decide +kernel
theorem dX10_moves_0 : decode cX10_moves 0 = .ok (.aload_n 0, 1) := by decide +kernel
theorem dX10_moves_1 : decode cX10_moves 1 = .ok (.iload_n 1, 1) := by decide +kernel
theorem dX10_moves_2 : decode cX10_moves 2 = .ok (.iload_n 2, 1) := by decide +kernel
theorem dX10_moves_3 : decode cX10_moves 3 = .ok (.invokevirtual 51, 3) := by decide +kernel
theorem dX10_moves_6 : decode cX10_moves 6 = .ok (.aload_n 0, 1) := by decide +kernel
theorem dX10_moves_7 : decode cX10_moves 7 = .ok (.iload_n 1, 1) := by decide +kernel
theorem dX10_moves_8 : decode cX10_moves 8 = .ok (.invokevirtual 69, 3) := by decide +kernel
theorem dX10_moves_11 : decode cX10_moves 11 = .ok (.aload_n 0, 1) := by decide +kernel
theorem dX10_moves_12 : decode cX10_moves 12 = .ok (.getfield 7, 3) := by decide +kernel
theorem dX10_moves_15 : decode cX10_moves 15 = .ok (.bipush 10, 2) := by decide +kernel
theorem dX10_moves_17 : decode cX10_moves 17 = .ok (.dup2, 1) := by decide +kernel
theorem dX10_moves_18 : decode cX10_moves 18 = .ok (.iaload, 1) := by decide +kernel
theorem dX10_moves_19 : decode cX10_moves 19 = .ok (.iconst 1, 1) := by decide +kernel
theorem dX10_moves_20 : decode cX10_moves 20 = .ok (.iadd, 1) := by decide +kernel
theorem dX10_moves_21 : decode cX10_moves 21 = .ok (.iastore, 1) := by decide +kernel
theorem dX10_moves_22 : decode cX10_moves 22 = .ok (.return_, 1) := by decide +kernel
theorem dX10_takesFree_0 : decode cX10_takesFree 0 = .ok (.iconst 0, 1) := by decide +kernel
theorem dX10_takesFree_1 : decode cX10_takesFree 1 = .ok (.istore_n 1, 1) := by decide +kernel
theorem dX10_takesFree_2 : decode cX10_takesFree 2 = .ok (.iload_n 1, 1) := by decide +kernel
theorem dX10_takesFree_3 : decode cX10_takesFree 3 = .ok (.aload_n 0, 1) := by decide +kernel
theorem dX10_takesFree_4 : decode cX10_takesFree 4 = .ok (.getfield 7, 3) := by decide +kernel
theorem dX10_takesFree_7 : decode cX10_takesFree 7 = .ok (.bipush 7, 2) := by decide +kernel
theorem dX10_takesFree_9 : decode cX10_takesFree 9 = .ok (.iaload, 1) := by decide +kernel
theorem dX10_takesFree_10 : decode cX10_takesFree 10 = .ok (.if_icmp .ge 65, 3) := by decide +kernel
theorem dX10_takesFree_13 : decode cX10_takesFree 13 = .ok (.aload_n 0, 1) := by decide +kernel
theorem dX10_takesFree_14 : decode cX10_takesFree 14 = .ok (.getfield 7, 3) := by decide +kernel
theorem dX10_takesFree_17 : decode cX10_takesFree 17 = .ok (.sipush 183, 3) := by decide +kernel
theorem dX10_takesFree_20 : decode cX10_takesFree 20 = .ok (.iload_n 1, 1) := by decide +kernel
theorem dX10_takesFree_21 : decode cX10_takesFree 21 = .ok (.iadd, 1) := by decide +kernel
theorem dX10_takesFree_22 : decode cX10_takesFree 22 = .ok (.iaload, 1) := by decide +kernel
theorem dX10_takesFree_23 : decode cX10_takesFree 23 = .ok (.istore_n 2, 1) := by decide +kernel
theorem dX10_takesFree_24 : decode cX10_takesFree 24 = .ok (.aload_n 0, 1) := by decide +kernel
theorem dX10_takesFree_25 : decode cX10_takesFree 25 = .ok (.aload_n 0, 1) := by decide +kernel
theorem dX10_takesFree_26 : decode cX10_takesFree 26 = .ok (.iload_n 2, 1) := by decide +kernel
theorem dX10_takesFree_27 : decode cX10_takesFree 27 = .ok (.iconst 5, 1) := by decide +kernel
theorem dX10_takesFree_28 : decode cX10_takesFree 28 = .ok (.invokevirtual 66, 3) := by decide +kernel
theorem dX10_takesFree_31 : decode cX10_takesFree 31 = .ok (.invokevirtual 87, 3) := by decide +kernel
theorem dX10_takesFree_34 : decode cX10_takesFree 34 = .ok (.istore_n 3, 1) := by decide +kernel
theorem dX10_takesFree_35 : decode cX10_takesFree 35 = .ok (.iload_n 3, 1) := by decide +kernel
theorem dX10_takesFree_36 : decode cX10_takesFree 36 = .ok (.ifCond .lt 33, 3) := by decide +kernel
theorem dX10_takesFree_39 : decode cX10_takesFree 39 = .ok (.aload_n 0, 1) := by decide +kernel
theorem dX10_takesFree_40 : decode cX10_takesFree 40 = .ok (.iload_n 2, 1) := by decide +kernel
theorem dX10_takesFree_41 : decode cX10_takesFree 41 = .ok (.iconst 0, 1) := by decide +kernel
theorem dX10_takesFree_42 : decode cX10_takesFree 42 = .ok (.invokevirtual 66, 3) := by decide +kernel
theorem dX10_takesFree_45 : decode cX10_takesFree 45 = .ok (.istore 4, 2) := by decide +kernel
theorem dX10_takesFree_47 : decode cX10_takesFree 47 = .ok (.aload_n 0, 1) := by decide +kernel
theorem dX10_takesFree_48 : decode cX10_takesFree 48 = .ok (.iload 4, 2) := by decide +kernel
theorem dX10_takesFree_50 : decode cX10_takesFree 50 = .ok (.iconst 2, 1) := by decide +kernel
theorem dX10_takesFree_51 : decode cX10_takesFree 51 = .ok (.iconst (-1), 1) := by decide +kernel
theorem dX10_takesFree_52 : decode cX10_takesFree 52 = .ok (.invokevirtual 44, 3) := by decide +kernel
theorem dX10_takesFree_55 : decode cX10_takesFree 55 = .ok (.aload_n 0, 1) := by decide +kernel
theorem dX10_takesFree_56 : decode cX10_takesFree 56 = .ok (.iload_n 2, 1) := by decide +kernel
theorem dX10_takesFree_57 : decode cX10_takesFree 57 = .ok (.iload_n 3, 1) := by decide +kernel
theorem dX10_takesFree_58 : decode cX10_takesFree 58 = .ok (.invokevirtual 105, 3) := by decide +kernel
theorem dX10_takesFree_61 : decode cX10_takesFree 61 = .ok (.aload_n 0, 1) := by decide +kernel
theorem dX10_takesFree_62 : decode cX10_takesFree 62 = .ok (.iload 4, 2) := by decide +kernel
theorem dX10_takesFree_64 : decode cX10_takesFree 64 = .ok (.invokevirtual 78, 3) := by decide +kernel
theorem dX10_takesFree_67 : decode cX10_takesFree 67 = .ok (.iconst 1, 1) := by decide +kernel
theorem dX10_takesFree_68 : decode cX10_takesFree 68 = .ok (.ireturn, 1) := by decide +kernel
theorem dX10_takesFree_69 : decode cX10_takesFree 69 = .ok (.iinc 1 1, 3) := by decide +kernel
theorem dX10_takesFree_72 : decode cX10_takesFree 72 = .ok (.goto (-70), 3) := by decide +kernel
theorem dX10_takesFree_75 : decode cX10_takesFree 75 = .ok (.iconst 0, 1) := by decide +kernel
theorem dX10_takesFree_76 : decode cX10_takesFree 76 = .ok (.ireturn, 1) := by decide +kernel
theorem dX10_wants_0 : decode cX10_wants 0 = .ok (.iload_n 1, 1) := by decide +kernel
theorem dX10_wants_1 : decode cX10_wants 1 = .ok (.iload_n 2, 1) := by decide +kernel
theorem dX10_wants_2 : decode cX10_wants 2 = .ok (.if_icmp .eq 45, 3) := by decide +kernel
theorem dX10_wants_5 : decode cX10_wants 5 = .ok (.aload_n 0, 1) := by decide +kernel
theorem dX10_wants_6 : decode cX10_wants 6 = .ok (.iload_n 1, 1) := by decide +kernel
theorem dX10_wants_7 : decode cX10_wants 7 = .ok (.iconst 5, 1) := by decide +kernel
theorem dX10_wants_8 : decode cX10_wants 8 = .ok (.invokevirtual 66, 3) := by decide +kernel
theorem dX10_wants_11 : decode cX10_wants 11 = .ok (.ifCond .lt 36, 3) := by decide +kernel
theorem dX10_wants_14 : decode cX10_wants 14 = .ok (.aload_n 0, 1) := by decide +kernel
theorem dX10_wants_15 : decode cX10_wants 15 = .ok (.iload_n 2, 1) := by decide +kernel
theorem dX10_wants_16 : decode cX10_wants 16 = .ok (.iconst 5, 1) := by decide +kernel
theorem dX10_wants_17 : decode cX10_wants 17 = .ok (.invokevirtual 66, 3) := by decide +kernel
theorem dX10_wants_20 : decode cX10_wants 20 = .ok (.ifCond .lt 27, 3) := by decide +kernel
theorem dX10_wants_23 : decode cX10_wants 23 = .ok (.aload_n 0, 1) := by decide +kernel
theorem dX10_wants_24 : decode cX10_wants 24 = .ok (.iload_n 1, 1) := by decide +kernel
theorem dX10_wants_25 : decode cX10_wants 25 = .ok (.iconst 5, 1) := by decide +kernel
theorem dX10_wants_26 : decode cX10_wants 26 = .ok (.invokevirtual 66, 3) := by decide +kernel
theorem dX10_wants_29 : decode cX10_wants 29 = .ok (.aload_n 0, 1) := by decide +kernel
theorem dX10_wants_30 : decode cX10_wants 30 = .ok (.aload_n 0, 1) := by decide +kernel
theorem dX10_wants_31 : decode cX10_wants 31 = .ok (.iload_n 2, 1) := by decide +kernel
theorem dX10_wants_32 : decode cX10_wants 32 = .ok (.iconst 0, 1) := by decide +kernel
theorem dX10_wants_33 : decode cX10_wants 33 = .ok (.invokevirtual 66, 3) := by decide +kernel
theorem dX10_wants_36 : decode cX10_wants 36 = .ok (.iconst 0, 1) := by decide +kernel
theorem dX10_wants_37 : decode cX10_wants 37 = .ok (.invokevirtual 36, 3) := by decide +kernel
theorem dX10_wants_40 : decode cX10_wants 40 = .ok (.if_icmp .ne 7, 3) := by decide +kernel
theorem dX10_wants_43 : decode cX10_wants 43 = .ok (.iconst 1, 1) := by decide +kernel
theorem dX10_wants_44 : decode cX10_wants 44 = .ok (.goto 4, 3) := by decide +kernel
theorem dX10_wants_47 : decode cX10_wants 47 = .ok (.iconst 0, 1) := by decide +kernel
theorem dX10_wants_48 : decode cX10_wants 48 = .ok (.ireturn, 1) := by decide +kernel
theorem dX10_thirdOf_0 : decode cX10_thirdOf 0 = .ok (.aload_n 0, 1) := by decide +kernel
theorem dX10_thirdOf_1 : decode cX10_thirdOf 1 = .ok (.iload_n 1, 1) := by decide +kernel
theorem dX10_thirdOf_2 : decode cX10_thirdOf 2 = .ok (.iload_n 2, 1) := by decide +kernel
theorem dX10_thirdOf_3 : decode cX10_thirdOf 3 = .ok (.invokevirtual 108, 3) := by decide +kernel
theorem dX10_thirdOf_6 : decode cX10_thirdOf 6 = .ok (.ifCond .ne 6, 3) := by decide +kernel
theorem dX10_thirdOf_9 : decode cX10_thirdOf 9 = .ok (.bipush (-4), 2) := by decide +kernel
theorem dX10_thirdOf_11 : decode cX10_thirdOf 11 = .ok (.ireturn, 1) := by decide +kernel
theorem dX10_thirdOf_12 : decode cX10_thirdOf 12 = .ok (.aload_n 0, 1) := by decide +kernel
theorem dX10_thirdOf_13 : decode cX10_thirdOf 13 = .ok (.iload_n 2, 1) := by decide +kernel
theorem dX10_thirdOf_14 : decode cX10_thirdOf 14 = .ok (.iload_n 1, 1) := by decide +kernel
theorem dX10_thirdOf_15 : decode cX10_thirdOf 15 = .ok (.invokevirtual 108, 3) := by decide +kernel
theorem dX10_thirdOf_18 : decode cX10_thirdOf 18 = .ok (.ifCond .eq 5, 3) := by decide +kernel
theorem dX10_thirdOf_21 : decode cX10_thirdOf 21 = .ok (.iconst (-1), 1) := by decide +kernel
theorem dX10_thirdOf_22 : decode cX10_thirdOf 22 = .ok (.ireturn, 1) := by decide +kernel
theorem dX10_thirdOf_23 : decode cX10_thirdOf 23 = .ok (.iload_n 1, 1) := by decide +kernel
theorem dX10_thirdOf_24 : decode cX10_thirdOf 24 = .ok (.iconst 1, 1) := by decide +kernel
theorem dX10_thirdOf_25 : decode cX10_thirdOf 25 = .ok (.iadd, 1) := by decide +kernel
theorem dX10_thirdOf_26 : decode cX10_thirdOf 26 = .ok (.istore_n 3, 1) := by decide +kernel
theorem dX10_thirdOf_27 : decode cX10_thirdOf 27 = .ok (.iload_n 3, 1) := by decide +kernel
theorem dX10_thirdOf_28 : decode cX10_thirdOf 28 = .ok (.aload_n 0, 1) := by decide +kernel
theorem dX10_thirdOf_29 : decode cX10_thirdOf 29 = .ok (.getfield 7, 3) := by decide +kernel
theorem dX10_thirdOf_32 : decode cX10_thirdOf 32 = .ok (.iconst 5, 1) := by decide +kernel
theorem dX10_thirdOf_33 : decode cX10_thirdOf 33 = .ok (.iaload, 1) := by decide +kernel
theorem dX10_thirdOf_34 : decode cX10_thirdOf 34 = .ok (.if_icmp .ge 29, 3) := by decide +kernel
theorem dX10_thirdOf_37 : decode cX10_thirdOf 37 = .ok (.aload_n 0, 1) := by decide +kernel
theorem dX10_thirdOf_38 : decode cX10_thirdOf 38 = .ok (.iload_n 2, 1) := by decide +kernel
theorem dX10_thirdOf_39 : decode cX10_thirdOf 39 = .ok (.iload_n 3, 1) := by decide +kernel
theorem dX10_thirdOf_40 : decode cX10_thirdOf 40 = .ok (.invokevirtual 108, 3) := by decide +kernel
theorem dX10_thirdOf_43 : decode cX10_thirdOf 43 = .ok (.ifCond .eq 14, 3) := by decide +kernel
theorem dX10_thirdOf_46 : decode cX10_thirdOf 46 = .ok (.aload_n 0, 1) := by decide +kernel
theorem dX10_thirdOf_47 : decode cX10_thirdOf 47 = .ok (.iload_n 3, 1) := by decide +kernel
theorem dX10_thirdOf_48 : decode cX10_thirdOf 48 = .ok (.iload_n 1, 1) := by decide +kernel
theorem dX10_thirdOf_49 : decode cX10_thirdOf 49 = .ok (.invokevirtual 108, 3) := by decide +kernel
theorem dX10_thirdOf_52 : decode cX10_thirdOf 52 = .ok (.ifCond .eq 5, 3) := by decide +kernel
theorem dX10_thirdOf_55 : decode cX10_thirdOf 55 = .ok (.iload_n 3, 1) := by decide +kernel
theorem dX10_thirdOf_56 : decode cX10_thirdOf 56 = .ok (.ireturn, 1) := by decide +kernel
theorem dX10_thirdOf_57 : decode cX10_thirdOf 57 = .ok (.iinc 3 1, 3) := by decide +kernel
theorem dX10_thirdOf_60 : decode cX10_thirdOf 60 = .ok (.goto (-33), 3) := by decide +kernel
theorem dX10_thirdOf_63 : decode cX10_thirdOf 63 = .ok (.bipush (-4), 2) := by decide +kernel
theorem dX10_thirdOf_65 : decode cX10_thirdOf 65 = .ok (.ireturn, 1) := by decide +kernel
theorem dX10_goesRound_0 : decode cX10_goesRound 0 = .ok (.aload_n 0, 1) := by decide +kernel
theorem dX10_goesRound_1 : decode cX10_goesRound 1 = .ok (.iload_n 1, 1) := by decide +kernel
theorem dX10_goesRound_2 : decode cX10_goesRound 2 = .ok (.iconst 0, 1) := by decide +kernel
theorem dX10_goesRound_3 : decode cX10_goesRound 3 = .ok (.invokevirtual 66, 3) := by decide +kernel
theorem dX10_goesRound_6 : decode cX10_goesRound 6 = .ok (.istore 4, 2) := by decide +kernel
theorem dX10_goesRound_8 : decode cX10_goesRound 8 = .ok (.aload_n 0, 1) := by decide +kernel
theorem dX10_goesRound_9 : decode cX10_goesRound 9 = .ok (.iload_n 1, 1) := by decide +kernel
theorem dX10_goesRound_10 : decode cX10_goesRound 10 = .ok (.aload_n 0, 1) := by decide +kernel
theorem dX10_goesRound_11 : decode cX10_goesRound 11 = .ok (.iload_n 2, 1) := by decide +kernel
theorem dX10_goesRound_12 : decode cX10_goesRound 12 = .ok (.iconst 0, 1) := by decide +kernel
theorem dX10_goesRound_13 : decode cX10_goesRound 13 = .ok (.invokevirtual 66, 3) := by decide +kernel
theorem dX10_goesRound_16 : decode cX10_goesRound 16 = .ok (.invokevirtual 105, 3) := by decide +kernel
theorem dX10_goesRound_19 : decode cX10_goesRound 19 = .ok (.iload_n 3, 1) := by decide +kernel
theorem dX10_goesRound_20 : decode cX10_goesRound 20 = .ok (.ifCond .lt 23, 3) := by decide +kernel
theorem dX10_goesRound_23 : decode cX10_goesRound 23 = .ok (.aload_n 0, 1) := by decide +kernel
theorem dX10_goesRound_24 : decode cX10_goesRound 24 = .ok (.iload_n 2, 1) := by decide +kernel
theorem dX10_goesRound_25 : decode cX10_goesRound 25 = .ok (.aload_n 0, 1) := by decide +kernel
theorem dX10_goesRound_26 : decode cX10_goesRound 26 = .ok (.iload_n 3, 1) := by decide +kernel
theorem dX10_goesRound_27 : decode cX10_goesRound 27 = .ok (.iconst 0, 1) := by decide +kernel
theorem dX10_goesRound_28 : decode cX10_goesRound 28 = .ok (.invokevirtual 66, 3) := by decide +kernel
theorem dX10_goesRound_31 : decode cX10_goesRound 31 = .ok (.invokevirtual 105, 3) := by decide +kernel
theorem dX10_goesRound_34 : decode cX10_goesRound 34 = .ok (.aload_n 0, 1) := by decide +kernel
theorem dX10_goesRound_35 : decode cX10_goesRound 35 = .ok (.iload_n 3, 1) := by decide +kernel
theorem dX10_goesRound_36 : decode cX10_goesRound 36 = .ok (.iload 4, 2) := by decide +kernel
theorem dX10_goesRound_38 : decode cX10_goesRound 38 = .ok (.invokevirtual 105, 3) := by decide +kernel
theorem dX10_goesRound_41 : decode cX10_goesRound 41 = .ok (.iconst 3, 1) := by decide +kernel
theorem dX10_goesRound_42 : decode cX10_goesRound 42 = .ok (.ireturn, 1) := by decide +kernel
theorem dX10_goesRound_43 : decode cX10_goesRound 43 = .ok (.aload_n 0, 1) := by decide +kernel
theorem dX10_goesRound_44 : decode cX10_goesRound 44 = .ok (.iload_n 2, 1) := by decide +kernel
theorem dX10_goesRound_45 : decode cX10_goesRound 45 = .ok (.iload 4, 2) := by decide +kernel
theorem dX10_goesRound_47 : decode cX10_goesRound 47 = .ok (.invokevirtual 105, 3) := by decide +kernel
theorem dX10_goesRound_50 : decode cX10_goesRound 50 = .ok (.iconst 2, 1) := by decide +kernel
theorem dX10_goesRound_51 : decode cX10_goesRound 51 = .ok (.ireturn, 1) := by decide +kernel
theorem dX10_takesRing_0 : decode cX10_takesRing 0 = .ok (.iconst 0, 1) := by decide +kernel
theorem dX10_takesRing_1 : decode cX10_takesRing 1 = .ok (.istore_n 1, 1) := by decide +kernel
theorem dX10_takesRing_2 : decode cX10_takesRing 2 = .ok (.iload_n 1, 1) := by decide +kernel
theorem dX10_takesRing_3 : decode cX10_takesRing 3 = .ok (.aload_n 0, 1) := by decide +kernel
theorem dX10_takesRing_4 : decode cX10_takesRing 4 = .ok (.getfield 7, 3) := by decide +kernel
theorem dX10_takesRing_7 : decode cX10_takesRing 7 = .ok (.iconst 5, 1) := by decide +kernel
theorem dX10_takesRing_8 : decode cX10_takesRing 8 = .ok (.iaload, 1) := by decide +kernel
theorem dX10_takesRing_9 : decode cX10_takesRing 9 = .ok (.if_icmp .ge 50, 3) := by decide +kernel
theorem dX10_takesRing_12 : decode cX10_takesRing 12 = .ok (.iload_n 1, 1) := by decide +kernel
theorem dX10_takesRing_13 : decode cX10_takesRing 13 = .ok (.iconst 1, 1) := by decide +kernel
theorem dX10_takesRing_14 : decode cX10_takesRing 14 = .ok (.iadd, 1) := by decide +kernel
theorem dX10_takesRing_15 : decode cX10_takesRing 15 = .ok (.istore_n 2, 1) := by decide +kernel
theorem dX10_takesRing_16 : decode cX10_takesRing 16 = .ok (.iload_n 2, 1) := by decide +kernel
theorem dX10_takesRing_17 : decode cX10_takesRing 17 = .ok (.aload_n 0, 1) := by decide +kernel
theorem dX10_takesRing_18 : decode cX10_takesRing 18 = .ok (.getfield 7, 3) := by decide +kernel
theorem dX10_takesRing_21 : decode cX10_takesRing 21 = .ok (.iconst 5, 1) := by decide +kernel
theorem dX10_takesRing_22 : decode cX10_takesRing 22 = .ok (.iaload, 1) := by decide +kernel
theorem dX10_takesRing_23 : decode cX10_takesRing 23 = .ok (.if_icmp .ge 30, 3) := by decide +kernel
theorem dX10_takesRing_26 : decode cX10_takesRing 26 = .ok (.aload_n 0, 1) := by decide +kernel
theorem dX10_takesRing_27 : decode cX10_takesRing 27 = .ok (.iload_n 1, 1) := by decide +kernel
theorem dX10_takesRing_28 : decode cX10_takesRing 28 = .ok (.iload_n 2, 1) := by decide +kernel
theorem dX10_takesRing_29 : decode cX10_takesRing 29 = .ok (.invokevirtual 112, 3) := by decide +kernel
theorem dX10_takesRing_32 : decode cX10_takesRing 32 = .ok (.istore_n 3, 1) := by decide +kernel
theorem dX10_takesRing_33 : decode cX10_takesRing 33 = .ok (.iload_n 3, 1) := by decide +kernel
theorem dX10_takesRing_34 : decode cX10_takesRing 34 = .ok (.bipush (-4), 2) := by decide +kernel
theorem dX10_takesRing_36 : decode cX10_takesRing 36 = .ok (.if_icmp .eq 11, 3) := by decide +kernel
theorem dX10_takesRing_39 : decode cX10_takesRing 39 = .ok (.aload_n 0, 1) := by decide +kernel
theorem dX10_takesRing_40 : decode cX10_takesRing 40 = .ok (.iload_n 1, 1) := by decide +kernel
theorem dX10_takesRing_41 : decode cX10_takesRing 41 = .ok (.iload_n 2, 1) := by decide +kernel
theorem dX10_takesRing_42 : decode cX10_takesRing 42 = .ok (.iload_n 3, 1) := by decide +kernel
theorem dX10_takesRing_43 : decode cX10_takesRing 43 = .ok (.invokevirtual 115, 3) := by decide +kernel
theorem dX10_takesRing_46 : decode cX10_takesRing 46 = .ok (.ireturn, 1) := by decide +kernel
theorem dX10_takesRing_47 : decode cX10_takesRing 47 = .ok (.iinc 2 1, 3) := by decide +kernel
theorem dX10_takesRing_50 : decode cX10_takesRing 50 = .ok (.goto (-34), 3) := by decide +kernel
theorem dX10_takesRing_53 : decode cX10_takesRing 53 = .ok (.iinc 1 1, 3) := by decide +kernel
theorem dX10_takesRing_56 : decode cX10_takesRing 56 = .ok (.goto (-54), 3) := by decide +kernel
theorem dX10_takesRing_59 : decode cX10_takesRing 59 = .ok (.iconst 0, 1) := by decide +kernel
theorem dX10_takesRing_60 : decode cX10_takesRing 60 = .ok (.ireturn, 1) := by decide +kernel
theorem dX10_swaps_0 : decode cX10_swaps 0 = .ok (.iconst 0, 1) := by decide +kernel
theorem dX10_swaps_1 : decode cX10_swaps 1 = .ok (.istore_n 1, 1) := by decide +kernel
theorem dX10_swaps_2 : decode cX10_swaps 2 = .ok (.iconst 1, 1) := by decide +kernel
theorem dX10_swaps_3 : decode cX10_swaps 3 = .ok (.istore_n 2, 1) := by decide +kernel
theorem dX10_swaps_4 : decode cX10_swaps 4 = .ok (.iload_n 2, 1) := by decide +kernel
theorem dX10_swaps_5 : decode cX10_swaps 5 = .ok (.ifCond .eq 36, 3) := by decide +kernel
theorem dX10_swaps_8 : decode cX10_swaps 8 = .ok (.aload_n 0, 1) := by decide +kernel
theorem dX10_swaps_9 : decode cX10_swaps 9 = .ok (.invokevirtual 119, 3) := by decide +kernel
theorem dX10_swaps_12 : decode cX10_swaps 12 = .ok (.ifCond .eq 7, 3) := by decide +kernel
theorem dX10_swaps_15 : decode cX10_swaps 15 = .ok (.iconst 1, 1) := by decide +kernel
theorem dX10_swaps_16 : decode cX10_swaps 16 = .ok (.goto 7, 3) := by decide +kernel
theorem dX10_swaps_19 : decode cX10_swaps 19 = .ok (.aload_n 0, 1) := by decide +kernel
theorem dX10_swaps_20 : decode cX10_swaps 20 = .ok (.invokevirtual 123, 3) := by decide +kernel
theorem dX10_swaps_23 : decode cX10_swaps 23 = .ok (.istore_n 3, 1) := by decide +kernel
theorem dX10_swaps_24 : decode cX10_swaps 24 = .ok (.iload_n 1, 1) := by decide +kernel
theorem dX10_swaps_25 : decode cX10_swaps 25 = .ok (.iload_n 3, 1) := by decide +kernel
theorem dX10_swaps_26 : decode cX10_swaps 26 = .ok (.iadd, 1) := by decide +kernel
theorem dX10_swaps_27 : decode cX10_swaps 27 = .ok (.istore_n 1, 1) := by decide +kernel
theorem dX10_swaps_28 : decode cX10_swaps 28 = .ok (.iload_n 3, 1) := by decide +kernel
theorem dX10_swaps_29 : decode cX10_swaps 29 = .ok (.ifCond .le 7, 3) := by decide +kernel
theorem dX10_swaps_32 : decode cX10_swaps 32 = .ok (.iconst 1, 1) := by decide +kernel
theorem dX10_swaps_33 : decode cX10_swaps 33 = .ok (.goto 4, 3) := by decide +kernel
theorem dX10_swaps_36 : decode cX10_swaps 36 = .ok (.iconst 0, 1) := by decide +kernel
theorem dX10_swaps_37 : decode cX10_swaps 37 = .ok (.istore_n 2, 1) := by decide +kernel
theorem dX10_swaps_38 : decode cX10_swaps 38 = .ok (.goto (-34), 3) := by decide +kernel
theorem dX10_swaps_41 : decode cX10_swaps 41 = .ok (.iload_n 1, 1) := by decide +kernel
theorem dX10_swaps_42 : decode cX10_swaps 42 = .ok (.ireturn, 1) := by decide +kernel
theorem dX10_feeOf_0 : decode cX10_feeOf 0 = .ok (.iload_n 0, 1) := by decide +kernel
theorem dX10_feeOf_1 : decode cX10_feeOf 1 = .ok (.bipush 7, 2) := by decide +kernel
theorem dX10_feeOf_3 : decode cX10_feeOf 3 = .ok (.if_icmp .gt 7, 3) := by decide +kernel
theorem dX10_feeOf_6 : decode cX10_feeOf 6 = .ok (.iconst 1, 1) := by decide +kernel
theorem dX10_feeOf_7 : decode cX10_feeOf 7 = .ok (.goto 14, 3) := by decide +kernel
theorem dX10_feeOf_10 : decode cX10_feeOf 10 = .ok (.iload_n 0, 1) := by decide +kernel
theorem dX10_feeOf_11 : decode cX10_feeOf 11 = .ok (.bipush 14, 2) := by decide +kernel
theorem dX10_feeOf_13 : decode cX10_feeOf 13 = .ok (.if_icmp .gt 7, 3) := by decide +kernel
theorem dX10_feeOf_16 : decode cX10_feeOf 16 = .ok (.iconst 2, 1) := by decide +kernel
theorem dX10_feeOf_17 : decode cX10_feeOf 17 = .ok (.goto 4, 3) := by decide +kernel
theorem dX10_feeOf_20 : decode cX10_feeOf 20 = .ok (.iconst 4, 1) := by decide +kernel
theorem dX10_feeOf_21 : decode cX10_feeOf 21 = .ok (.iload_n 1, 1) := by decide +kernel
theorem dX10_feeOf_22 : decode cX10_feeOf 22 = .ok (.iconst 1, 1) := by decide +kernel
theorem dX10_feeOf_23 : decode cX10_feeOf 23 = .ok (.iadd, 1) := by decide +kernel
theorem dX10_feeOf_24 : decode cX10_feeOf 24 = .ok (.imul, 1) := by decide +kernel
theorem dX10_feeOf_25 : decode cX10_feeOf 25 = .ok (.ireturn, 1) := by decide +kernel
theorem dX10_dayPasses_0 : decode cX10_dayPasses 0 = .ok (.aload_n 0, 1) := by decide +kernel
theorem dX10_dayPasses_1 : decode cX10_dayPasses 1 = .ok (.getfield 7, 3) := by decide +kernel
theorem dX10_dayPasses_4 : decode cX10_dayPasses 4 = .ok (.iconst 3, 1) := by decide +kernel
theorem dX10_dayPasses_5 : decode cX10_dayPasses 5 = .ok (.dup2, 1) := by decide +kernel
theorem dX10_dayPasses_6 : decode cX10_dayPasses 6 = .ok (.iaload, 1) := by decide +kernel
theorem dX10_dayPasses_7 : decode cX10_dayPasses 7 = .ok (.iconst 1, 1) := by decide +kernel
theorem dX10_dayPasses_8 : decode cX10_dayPasses 8 = .ok (.iadd, 1) := by decide +kernel
theorem dX10_dayPasses_9 : decode cX10_dayPasses 9 = .ok (.iastore, 1) := by decide +kernel
theorem dX10_dayPasses_10 : decode cX10_dayPasses 10 = .ok (.iconst 0, 1) := by decide +kernel
theorem dX10_dayPasses_11 : decode cX10_dayPasses 11 = .ok (.istore_n 1, 1) := by decide +kernel
theorem dX10_dayPasses_12 : decode cX10_dayPasses 12 = .ok (.iload_n 1, 1) := by decide +kernel
theorem dX10_dayPasses_13 : decode cX10_dayPasses 13 = .ok (.aload_n 0, 1) := by decide +kernel
theorem dX10_dayPasses_14 : decode cX10_dayPasses 14 = .ok (.getfield 7, 3) := by decide +kernel
theorem dX10_dayPasses_17 : decode cX10_dayPasses 17 = .ok (.iconst 4, 1) := by decide +kernel
theorem dX10_dayPasses_18 : decode cX10_dayPasses 18 = .ok (.iaload, 1) := by decide +kernel
theorem dX10_dayPasses_19 : decode cX10_dayPasses 19 = .ok (.if_icmp .ge 36, 3) := by decide +kernel
theorem dX10_dayPasses_22 : decode cX10_dayPasses 22 = .ok (.aload_n 0, 1) := by decide +kernel
theorem dX10_dayPasses_23 : decode cX10_dayPasses 23 = .ok (.iload_n 1, 1) := by decide +kernel
theorem dX10_dayPasses_24 : decode cX10_dayPasses 24 = .ok (.iconst 4, 1) := by decide +kernel
theorem dX10_dayPasses_25 : decode cX10_dayPasses 25 = .ok (.invokevirtual 36, 3) := by decide +kernel
theorem dX10_dayPasses_28 : decode cX10_dayPasses 28 = .ok (.aload_n 0, 1) := by decide +kernel
theorem dX10_dayPasses_29 : decode cX10_dayPasses 29 = .ok (.getfield 7, 3) := by decide +kernel
theorem dX10_dayPasses_32 : decode cX10_dayPasses 32 = .ok (.iconst 3, 1) := by decide +kernel
theorem dX10_dayPasses_33 : decode cX10_dayPasses 33 = .ok (.iaload, 1) := by decide +kernel
theorem dX10_dayPasses_34 : decode cX10_dayPasses 34 = .ok (.if_icmp .ne 15, 3) := by decide +kernel
theorem dX10_dayPasses_37 : decode cX10_dayPasses 37 = .ok (.aload_n 0, 1) := by decide +kernel
theorem dX10_dayPasses_38 : decode cX10_dayPasses 38 = .ok (.iload_n 1, 1) := by decide +kernel
theorem dX10_dayPasses_39 : decode cX10_dayPasses 39 = .ok (.iconst 4, 1) := by decide +kernel
theorem dX10_dayPasses_40 : decode cX10_dayPasses 40 = .ok (.iconst (-1), 1) := by decide +kernel
theorem dX10_dayPasses_41 : decode cX10_dayPasses 41 = .ok (.invokevirtual 44, 3) := by decide +kernel
theorem dX10_dayPasses_44 : decode cX10_dayPasses 44 = .ok (.aload_n 0, 1) := by decide +kernel
theorem dX10_dayPasses_45 : decode cX10_dayPasses 45 = .ok (.iload_n 1, 1) := by decide +kernel
theorem dX10_dayPasses_46 : decode cX10_dayPasses 46 = .ok (.invokevirtual 78, 3) := by decide +kernel
theorem dX10_dayPasses_49 : decode cX10_dayPasses 49 = .ok (.iinc 1 1, 3) := by decide +kernel
theorem dX10_dayPasses_52 : decode cX10_dayPasses 52 = .ok (.goto (-40), 3) := by decide +kernel
theorem dX10_dayPasses_55 : decode cX10_dayPasses 55 = .ok (.iconst 0, 1) := by decide +kernel
theorem dX10_dayPasses_56 : decode cX10_dayPasses 56 = .ok (.istore_n 1, 1) := by decide +kernel
theorem dX10_dayPasses_57 : decode cX10_dayPasses 57 = .ok (.iconst 0, 1) := by decide +kernel
theorem dX10_dayPasses_58 : decode cX10_dayPasses 58 = .ok (.istore_n 2, 1) := by decide +kernel
theorem dX10_dayPasses_59 : decode cX10_dayPasses 59 = .ok (.iload_n 2, 1) := by decide +kernel
theorem dX10_dayPasses_60 : decode cX10_dayPasses 60 = .ok (.aload_n 0, 1) := by decide +kernel
theorem dX10_dayPasses_61 : decode cX10_dayPasses 61 = .ok (.getfield 7, 3) := by decide +kernel
theorem dX10_dayPasses_64 : decode cX10_dayPasses 64 = .ok (.iconst 5, 1) := by decide +kernel
theorem dX10_dayPasses_65 : decode cX10_dayPasses 65 = .ok (.iaload, 1) := by decide +kernel
theorem dX10_dayPasses_66 : decode cX10_dayPasses 66 = .ok (.if_icmp .ge 97, 3) := by decide +kernel
theorem dX10_dayPasses_69 : decode cX10_dayPasses 69 = .ok (.aload_n 0, 1) := by decide +kernel
theorem dX10_dayPasses_70 : decode cX10_dayPasses 70 = .ok (.iload_n 2, 1) := by decide +kernel
theorem dX10_dayPasses_71 : decode cX10_dayPasses 71 = .ok (.iconst 0, 1) := by decide +kernel
theorem dX10_dayPasses_72 : decode cX10_dayPasses 72 = .ok (.invokevirtual 66, 3) := by decide +kernel
theorem dX10_dayPasses_75 : decode cX10_dayPasses 75 = .ok (.ifCond .lt 11, 3) := by decide +kernel
theorem dX10_dayPasses_78 : decode cX10_dayPasses 78 = .ok (.aload_n 0, 1) := by decide +kernel
theorem dX10_dayPasses_79 : decode cX10_dayPasses 79 = .ok (.iload_n 2, 1) := by decide +kernel
theorem dX10_dayPasses_80 : decode cX10_dayPasses 80 = .ok (.invokevirtual 93, 3) := by decide +kernel
theorem dX10_dayPasses_83 : decode cX10_dayPasses 83 = .ok (.goto 4, 3) := by decide +kernel
theorem dX10_dayPasses_86 : decode cX10_dayPasses 86 = .ok (.iconst 0, 1) := by decide +kernel
theorem dX10_dayPasses_87 : decode cX10_dayPasses 87 = .ok (.istore_n 3, 1) := by decide +kernel
theorem dX10_dayPasses_88 : decode cX10_dayPasses 88 = .ok (.iload_n 3, 1) := by decide +kernel
theorem dX10_dayPasses_89 : decode cX10_dayPasses 89 = .ok (.ifCond .le 23, 3) := by decide +kernel
theorem dX10_dayPasses_92 : decode cX10_dayPasses 92 = .ok (.aload_n 0, 1) := by decide +kernel
theorem dX10_dayPasses_93 : decode cX10_dayPasses 93 = .ok (.iload_n 2, 1) := by decide +kernel
theorem dX10_dayPasses_94 : decode cX10_dayPasses 94 = .ok (.iload_n 3, 1) := by decide +kernel
theorem dX10_dayPasses_95 : decode cX10_dayPasses 95 = .ok (.aload_n 0, 1) := by decide +kernel
theorem dX10_dayPasses_96 : decode cX10_dayPasses 96 = .ok (.aload_n 0, 1) := by decide +kernel
theorem dX10_dayPasses_97 : decode cX10_dayPasses 97 = .ok (.iload_n 2, 1) := by decide +kernel
theorem dX10_dayPasses_98 : decode cX10_dayPasses 98 = .ok (.iconst 0, 1) := by decide +kernel
theorem dX10_dayPasses_99 : decode cX10_dayPasses 99 = .ok (.invokevirtual 66, 3) := by decide +kernel
theorem dX10_dayPasses_102 : decode cX10_dayPasses 102 = .ok (.iconst 0, 1) := by decide +kernel
theorem dX10_dayPasses_103 : decode cX10_dayPasses 103 = .ok (.invokevirtual 36, 3) := by decide +kernel
theorem dX10_dayPasses_106 : decode cX10_dayPasses 106 = .ok (.invokestatic 127, 3) := by decide +kernel
theorem dX10_dayPasses_109 : decode cX10_dayPasses 109 = .ok (.invokevirtual 99, 3) := by decide +kernel
theorem dX10_dayPasses_112 : decode cX10_dayPasses 112 = .ok (.iload_n 3, 1) := by decide +kernel
theorem dX10_dayPasses_113 : decode cX10_dayPasses 113 = .ok (.bipush 21, 2) := by decide +kernel
theorem dX10_dayPasses_115 : decode cX10_dayPasses 115 = .ok (.if_icmp .ne 42, 3) := by decide +kernel
theorem dX10_dayPasses_118 : decode cX10_dayPasses 118 = .ok (.aload_n 0, 1) := by decide +kernel
theorem dX10_dayPasses_119 : decode cX10_dayPasses 119 = .ok (.iload_n 2, 1) := by decide +kernel
theorem dX10_dayPasses_120 : decode cX10_dayPasses 120 = .ok (.aload_n 0, 1) := by decide +kernel
theorem dX10_dayPasses_121 : decode cX10_dayPasses 121 = .ok (.getfield 7, 3) := by decide +kernel
theorem dX10_dayPasses_124 : decode cX10_dayPasses 124 = .ok (.iconst 2, 1) := by decide +kernel
theorem dX10_dayPasses_125 : decode cX10_dayPasses 125 = .ok (.iaload, 1) := by decide +kernel
theorem dX10_dayPasses_126 : decode cX10_dayPasses 126 = .ok (.invokevirtual 99, 3) := by decide +kernel
theorem dX10_dayPasses_129 : decode cX10_dayPasses 129 = .ok (.aload_n 0, 1) := by decide +kernel
theorem dX10_dayPasses_130 : decode cX10_dayPasses 130 = .ok (.iload_n 2, 1) := by decide +kernel
theorem dX10_dayPasses_131 : decode cX10_dayPasses 131 = .ok (.bipush 7, 2) := by decide +kernel
theorem dX10_dayPasses_133 : decode cX10_dayPasses 133 = .ok (.aload_n 0, 1) := by decide +kernel
theorem dX10_dayPasses_134 : decode cX10_dayPasses 134 = .ok (.iload_n 2, 1) := by decide +kernel
theorem dX10_dayPasses_135 : decode cX10_dayPasses 135 = .ok (.bipush 7, 2) := by decide +kernel
theorem dX10_dayPasses_137 : decode cX10_dayPasses 137 = .ok (.invokevirtual 66, 3) := by decide +kernel
theorem dX10_dayPasses_140 : decode cX10_dayPasses 140 = .ok (.iconst 1, 1) := by decide +kernel
theorem dX10_dayPasses_141 : decode cX10_dayPasses 141 = .ok (.iadd, 1) := by decide +kernel
theorem dX10_dayPasses_142 : decode cX10_dayPasses 142 = .ok (.invokevirtual 48, 3) := by decide +kernel
theorem dX10_dayPasses_145 : decode cX10_dayPasses 145 = .ok (.aload_n 0, 1) := by decide +kernel
theorem dX10_dayPasses_146 : decode cX10_dayPasses 146 = .ok (.aload_n 0, 1) := by decide +kernel
theorem dX10_dayPasses_147 : decode cX10_dayPasses 147 = .ok (.iload_n 2, 1) := by decide +kernel
theorem dX10_dayPasses_148 : decode cX10_dayPasses 148 = .ok (.invokevirtual 96, 3) := by decide +kernel
theorem dX10_dayPasses_151 : decode cX10_dayPasses 151 = .ok (.invokevirtual 78, 3) := by decide +kernel
theorem dX10_dayPasses_154 : decode cX10_dayPasses 154 = .ok (.iinc 1 1, 3) := by decide +kernel
theorem dX10_dayPasses_157 : decode cX10_dayPasses 157 = .ok (.iinc 2 1, 3) := by decide +kernel
theorem dX10_dayPasses_160 : decode cX10_dayPasses 160 = .ok (.goto (-101), 3) := by decide +kernel
theorem dX10_dayPasses_163 : decode cX10_dayPasses 163 = .ok (.iload_n 1, 1) := by decide +kernel
theorem dX10_dayPasses_164 : decode cX10_dayPasses 164 = .ok (.ireturn, 1) := by decide +kernel
theorem dX10_passDays_0 : decode cX10_passDays 0 = .ok (.iconst 0, 1) := by decide +kernel
theorem dX10_passDays_1 : decode cX10_passDays 1 = .ok (.istore_n 2, 1) := by decide +kernel
theorem dX10_passDays_2 : decode cX10_passDays 2 = .ok (.iconst 0, 1) := by decide +kernel
theorem dX10_passDays_3 : decode cX10_passDays 3 = .ok (.istore_n 3, 1) := by decide +kernel
theorem dX10_passDays_4 : decode cX10_passDays 4 = .ok (.iload_n 3, 1) := by decide +kernel
theorem dX10_passDays_5 : decode cX10_passDays 5 = .ok (.iload_n 1, 1) := by decide +kernel
theorem dX10_passDays_6 : decode cX10_passDays 6 = .ok (.if_icmp .ge 20, 3) := by decide +kernel
theorem dX10_passDays_9 : decode cX10_passDays 9 = .ok (.aload_n 0, 1) := by decide +kernel
theorem dX10_passDays_10 : decode cX10_passDays 10 = .ok (.invokevirtual 130, 3) := by decide +kernel
theorem dX10_passDays_13 : decode cX10_passDays 13 = .ok (.istore 4, 2) := by decide +kernel
theorem dX10_passDays_15 : decode cX10_passDays 15 = .ok (.iload_n 2, 1) := by decide +kernel
theorem dX10_passDays_16 : decode cX10_passDays 16 = .ok (.iload 4, 2) := by decide +kernel
theorem dX10_passDays_18 : decode cX10_passDays 18 = .ok (.iadd, 1) := by decide +kernel
theorem dX10_passDays_19 : decode cX10_passDays 19 = .ok (.istore_n 2, 1) := by decide +kernel
theorem dX10_passDays_20 : decode cX10_passDays 20 = .ok (.iinc 3 1, 3) := by decide +kernel
theorem dX10_passDays_23 : decode cX10_passDays 23 = .ok (.goto (-19), 3) := by decide +kernel
theorem dX10_passDays_26 : decode cX10_passDays 26 = .ok (.iload_n 2, 1) := by decide +kernel
theorem dX10_passDays_27 : decode cX10_passDays 27 = .ok (.ireturn, 1) := by decide +kernel
theorem dX10_passes_0 : decode cX10_passes 0 = .ok (.iload_n 1, 1) := by decide +kernel
theorem dX10_passes_1 : decode cX10_passes 1 = .ok (.iconst 1, 1) := by decide +kernel
theorem dX10_passes_2 : decode cX10_passes 2 = .ok (.bipush 99, 2) := by decide +kernel
theorem dX10_passes_4 : decode cX10_passes 4 = .ok (.invokestatic 28, 3) := by decide +kernel
theorem dX10_passes_7 : decode cX10_passes 7 = .ok (.ifCond .ne 5, 3) := by decide +kernel
theorem dX10_passes_10 : decode cX10_passes 10 = .ok (.iconst (-1), 1) := by decide +kernel
theorem dX10_passes_11 : decode cX10_passes 11 = .ok (.ireturn, 1) := by decide +kernel
theorem dX10_passes_12 : decode cX10_passes 12 = .ok (.aload_n 0, 1) := by decide +kernel
theorem dX10_passes_13 : decode cX10_passes 13 = .ok (.getfield 7, 3) := by decide +kernel
theorem dX10_passes_16 : decode cX10_passes 16 = .ok (.iconst 3, 1) := by decide +kernel
theorem dX10_passes_17 : decode cX10_passes 17 = .ok (.iaload, 1) := by decide +kernel
theorem dX10_passes_18 : decode cX10_passes 18 = .ok (.iload_n 1, 1) := by decide +kernel
theorem dX10_passes_19 : decode cX10_passes 19 = .ok (.iadd, 1) := by decide +kernel
theorem dX10_passes_20 : decode cX10_passes 20 = .ok (.sipush 5000, 3) := by decide +kernel
theorem dX10_passes_23 : decode cX10_passes 23 = .ok (.if_icmp .le 8, 3) := by decide +kernel
theorem dX10_passes_26 : decode cX10_passes 26 = .ok (.bipush (-3), 2) := by decide +kernel
theorem dX10_passes_28 : decode cX10_passes 28 = .ok (.goto 8, 3) := by decide +kernel
theorem dX10_passes_31 : decode cX10_passes 31 = .ok (.aload_n 0, 1) := by decide +kernel
theorem dX10_passes_32 : decode cX10_passes 32 = .ok (.iload_n 1, 1) := by decide +kernel
theorem dX10_passes_33 : decode cX10_passes 33 = .ok (.invokevirtual 133, 3) := by decide +kernel
theorem dX10_passes_36 : decode cX10_passes 36 = .ok (.ireturn, 1) := by decide +kernel
theorem dX10_least_0 : decode cX10_least 0 = .ok (.iload_n 0, 1) := by decide +kernel
theorem dX10_least_1 : decode cX10_least 1 = .ok (.ifCond .ne 7, 3) := by decide +kernel
theorem dX10_least_4 : decode cX10_least 4 = .ok (.iconst 1, 1) := by decide +kernel
theorem dX10_least_5 : decode cX10_least 5 = .ok (.goto 4, 3) := by decide +kernel
theorem dX10_least_8 : decode cX10_least 8 = .ok (.iconst 0, 1) := by decide +kernel
theorem dX10_least_9 : decode cX10_least 9 = .ok (.ireturn, 1) := by decide +kernel
theorem dX10_most_0 : decode cX10_most 0 = .ok (.iload_n 0, 1) := by decide +kernel
theorem dX10_most_1 : decode cX10_most 1 = .ok (.ifCond .ne 8, 3) := by decide +kernel
theorem dX10_most_4 : decode cX10_most 4 = .ok (.bipush 60, 2) := by decide +kernel
theorem dX10_most_6 : decode cX10_most 6 = .ok (.goto 14, 3) := by decide +kernel
theorem dX10_most_9 : decode cX10_most 9 = .ok (.iload_n 0, 1) := by decide +kernel
theorem dX10_most_10 : decode cX10_most 10 = .ok (.iconst 1, 1) := by decide +kernel
theorem dX10_most_11 : decode cX10_most 11 = .ok (.if_icmp .ne 7, 3) := by decide +kernel
theorem dX10_most_14 : decode cX10_most 14 = .ok (.iconst 5, 1) := by decide +kernel
theorem dX10_most_15 : decode cX10_most 15 = .ok (.goto 5, 3) := by decide +kernel
theorem dX10_most_18 : decode cX10_most 18 = .ok (.bipush 99, 2) := by decide +kernel
theorem dX10_most_20 : decode cX10_most 20 = .ok (.ireturn, 1) := by decide +kernel
theorem dX10_sets_0 : decode cX10_sets 0 = .ok (.iload_n 1, 1) := by decide +kernel
theorem dX10_sets_1 : decode cX10_sets 1 = .ok (.iconst 0, 1) := by decide +kernel
theorem dX10_sets_2 : decode cX10_sets 2 = .ok (.iconst 2, 1) := by decide +kernel
theorem dX10_sets_3 : decode cX10_sets 3 = .ok (.invokestatic 28, 3) := by decide +kernel
theorem dX10_sets_6 : decode cX10_sets 6 = .ok (.ifCond .eq 18, 3) := by decide +kernel
theorem dX10_sets_9 : decode cX10_sets 9 = .ok (.iload_n 2, 1) := by decide +kernel
theorem dX10_sets_10 : decode cX10_sets 10 = .ok (.iload_n 1, 1) := by decide +kernel
theorem dX10_sets_11 : decode cX10_sets 11 = .ok (.invokestatic 136, 3) := by decide +kernel
theorem dX10_sets_14 : decode cX10_sets 14 = .ok (.iload_n 1, 1) := by decide +kernel
theorem dX10_sets_15 : decode cX10_sets 15 = .ok (.invokestatic 139, 3) := by decide +kernel
theorem dX10_sets_18 : decode cX10_sets 18 = .ok (.invokestatic 28, 3) := by decide +kernel
theorem dX10_sets_21 : decode cX10_sets 21 = .ok (.ifCond .ne 5, 3) := by decide +kernel
theorem dX10_sets_24 : decode cX10_sets 24 = .ok (.iconst (-1), 1) := by decide +kernel
theorem dX10_sets_25 : decode cX10_sets 25 = .ok (.ireturn, 1) := by decide +kernel
theorem dX10_sets_26 : decode cX10_sets 26 = .ok (.aload_n 0, 1) := by decide +kernel
theorem dX10_sets_27 : decode cX10_sets 27 = .ok (.getfield 7, 3) := by decide +kernel
theorem dX10_sets_30 : decode cX10_sets 30 = .ok (.iload_n 1, 1) := by decide +kernel
theorem dX10_sets_31 : decode cX10_sets 31 = .ok (.iaload, 1) := by decide +kernel
theorem dX10_sets_32 : decode cX10_sets 32 = .ok (.istore_n 3, 1) := by decide +kernel
theorem dX10_sets_33 : decode cX10_sets 33 = .ok (.aload_n 0, 1) := by decide +kernel
theorem dX10_sets_34 : decode cX10_sets 34 = .ok (.getfield 7, 3) := by decide +kernel
theorem dX10_sets_37 : decode cX10_sets 37 = .ok (.iload_n 1, 1) := by decide +kernel
theorem dX10_sets_38 : decode cX10_sets 38 = .ok (.iload_n 2, 1) := by decide +kernel
theorem dX10_sets_39 : decode cX10_sets 39 = .ok (.iastore, 1) := by decide +kernel
theorem dX10_sets_40 : decode cX10_sets 40 = .ok (.iload_n 3, 1) := by decide +kernel
theorem dX10_sets_41 : decode cX10_sets 41 = .ok (.ireturn, 1) := by decide +kernel
theorem dX10_locker_0 : decode cX10_locker 0 = .ok (.aload_n 0, 1) := by decide +kernel
theorem dX10_locker_1 : decode cX10_locker 1 = .ok (.invokevirtual 142, 3) := by decide +kernel
theorem dX10_locker_4 : decode cX10_locker 4 = .ok (.aload_n 0, 1) := by decide +kernel
theorem dX10_locker_5 : decode cX10_locker 5 = .ok (.aload_n 0, 1) := by decide +kernel
theorem dX10_locker_6 : decode cX10_locker 6 = .ok (.iload_n 1, 1) := by decide +kernel
theorem dX10_locker_7 : decode cX10_locker 7 = .ok (.invokevirtual 145, 3) := by decide +kernel
theorem dX10_locker_10 : decode cX10_locker 10 = .ok (.invokevirtual 148, 3) := by decide +kernel
theorem dX10_locker_13 : decode cX10_locker 13 = .ok (.ireturn, 1) := by decide +kernel
theorem dX10_person_0 : decode cX10_person 0 = .ok (.aload_n 0, 1) := by decide +kernel
theorem dX10_person_1 : decode cX10_person 1 = .ok (.invokevirtual 142, 3) := by decide +kernel
theorem dX10_person_4 : decode cX10_person 4 = .ok (.aload_n 0, 1) := by decide +kernel
theorem dX10_person_5 : decode cX10_person 5 = .ok (.aload_n 0, 1) := by decide +kernel
theorem dX10_person_6 : decode cX10_person 6 = .ok (.invokevirtual 151, 3) := by decide +kernel
theorem dX10_person_9 : decode cX10_person 9 = .ok (.invokevirtual 148, 3) := by decide +kernel
theorem dX10_person_12 : decode cX10_person 12 = .ok (.ireturn, 1) := by decide +kernel
theorem dX10_stand_0 : decode cX10_stand 0 = .ok (.aload_n 0, 1) := by decide +kernel
theorem dX10_stand_1 : decode cX10_stand 1 = .ok (.invokevirtual 142, 3) := by decide +kernel
theorem dX10_stand_4 : decode cX10_stand 4 = .ok (.aload_n 0, 1) := by decide +kernel
theorem dX10_stand_5 : decode cX10_stand 5 = .ok (.aload_n 0, 1) := by decide +kernel
theorem dX10_stand_6 : decode cX10_stand 6 = .ok (.iload_n 1, 1) := by decide +kernel
theorem dX10_stand_7 : decode cX10_stand 7 = .ok (.iload_n 2, 1) := by decide +kernel
theorem dX10_stand_8 : decode cX10_stand 8 = .ok (.invokevirtual 154, 3) := by decide +kernel
theorem dX10_stand_11 : decode cX10_stand 11 = .ok (.invokevirtual 148, 3) := by decide +kernel
theorem dX10_stand_14 : decode cX10_stand 14 = .ok (.ireturn, 1) := by decide +kernel
theorem dX10_lend_0 : decode cX10_lend 0 = .ok (.aload_n 0, 1) := by decide +kernel
theorem dX10_lend_1 : decode cX10_lend 1 = .ok (.invokevirtual 142, 3) := by decide +kernel
theorem dX10_lend_4 : decode cX10_lend 4 = .ok (.aload_n 0, 1) := by decide +kernel
theorem dX10_lend_5 : decode cX10_lend 5 = .ok (.aload_n 0, 1) := by decide +kernel
theorem dX10_lend_6 : decode cX10_lend 6 = .ok (.iload_n 1, 1) := by decide +kernel
theorem dX10_lend_7 : decode cX10_lend 7 = .ok (.iload_n 2, 1) := by decide +kernel
theorem dX10_lend_8 : decode cX10_lend 8 = .ok (.invokevirtual 157, 3) := by decide +kernel
theorem dX10_lend_11 : decode cX10_lend 11 = .ok (.invokevirtual 148, 3) := by decide +kernel
theorem dX10_lend_14 : decode cX10_lend 14 = .ok (.ireturn, 1) := by decide +kernel
theorem dX10_giveBack_0 : decode cX10_giveBack 0 = .ok (.aload_n 0, 1) := by decide +kernel
theorem dX10_giveBack_1 : decode cX10_giveBack 1 = .ok (.invokevirtual 142, 3) := by decide +kernel
theorem dX10_giveBack_4 : decode cX10_giveBack 4 = .ok (.aload_n 0, 1) := by decide +kernel
theorem dX10_giveBack_5 : decode cX10_giveBack 5 = .ok (.aload_n 0, 1) := by decide +kernel
theorem dX10_giveBack_6 : decode cX10_giveBack 6 = .ok (.iload_n 1, 1) := by decide +kernel
theorem dX10_giveBack_7 : decode cX10_giveBack 7 = .ok (.invokevirtual 160, 3) := by decide +kernel
theorem dX10_giveBack_10 : decode cX10_giveBack 10 = .ok (.invokevirtual 148, 3) := by decide +kernel
theorem dX10_giveBack_13 : decode cX10_giveBack 13 = .ok (.ireturn, 1) := by decide +kernel
theorem dX10_renew_0 : decode cX10_renew 0 = .ok (.aload_n 0, 1) := by decide +kernel
theorem dX10_renew_1 : decode cX10_renew 1 = .ok (.invokevirtual 142, 3) := by decide +kernel
theorem dX10_renew_4 : decode cX10_renew 4 = .ok (.aload_n 0, 1) := by decide +kernel
theorem dX10_renew_5 : decode cX10_renew 5 = .ok (.aload_n 0, 1) := by decide +kernel
theorem dX10_renew_6 : decode cX10_renew 6 = .ok (.iload_n 1, 1) := by decide +kernel
theorem dX10_renew_7 : decode cX10_renew 7 = .ok (.invokevirtual 163, 3) := by decide +kernel
theorem dX10_renew_10 : decode cX10_renew 10 = .ok (.invokevirtual 148, 3) := by decide +kernel
theorem dX10_renew_13 : decode cX10_renew 13 = .ok (.ireturn, 1) := by decide +kernel
theorem dX10_lose_0 : decode cX10_lose 0 = .ok (.aload_n 0, 1) := by decide +kernel
theorem dX10_lose_1 : decode cX10_lose 1 = .ok (.invokevirtual 142, 3) := by decide +kernel
theorem dX10_lose_4 : decode cX10_lose 4 = .ok (.aload_n 0, 1) := by decide +kernel
theorem dX10_lose_5 : decode cX10_lose 5 = .ok (.aload_n 0, 1) := by decide +kernel
theorem dX10_lose_6 : decode cX10_lose 6 = .ok (.iload_n 1, 1) := by decide +kernel
theorem dX10_lose_7 : decode cX10_lose 7 = .ok (.invokevirtual 166, 3) := by decide +kernel
theorem dX10_lose_10 : decode cX10_lose 10 = .ok (.invokevirtual 148, 3) := by decide +kernel
theorem dX10_lose_13 : decode cX10_lose 13 = .ok (.ireturn, 1) := by decide +kernel
theorem dX10_wish_0 : decode cX10_wish 0 = .ok (.aload_n 0, 1) := by decide +kernel
theorem dX10_wish_1 : decode cX10_wish 1 = .ok (.invokevirtual 142, 3) := by decide +kernel
theorem dX10_wish_4 : decode cX10_wish 4 = .ok (.aload_n 0, 1) := by decide +kernel
theorem dX10_wish_5 : decode cX10_wish 5 = .ok (.aload_n 0, 1) := by decide +kernel
theorem dX10_wish_6 : decode cX10_wish 6 = .ok (.iload_n 1, 1) := by decide +kernel
theorem dX10_wish_7 : decode cX10_wish 7 = .ok (.iload_n 2, 1) := by decide +kernel
theorem dX10_wish_8 : decode cX10_wish 8 = .ok (.invokevirtual 169, 3) := by decide +kernel
theorem dX10_wish_11 : decode cX10_wish 11 = .ok (.invokevirtual 148, 3) := by decide +kernel
theorem dX10_wish_14 : decode cX10_wish 14 = .ok (.ireturn, 1) := by decide +kernel
theorem dX10_noWish_0 : decode cX10_noWish 0 = .ok (.aload_n 0, 1) := by decide +kernel
theorem dX10_noWish_1 : decode cX10_noWish 1 = .ok (.invokevirtual 142, 3) := by decide +kernel
theorem dX10_noWish_4 : decode cX10_noWish 4 = .ok (.aload_n 0, 1) := by decide +kernel
theorem dX10_noWish_5 : decode cX10_noWish 5 = .ok (.aload_n 0, 1) := by decide +kernel
theorem dX10_noWish_6 : decode cX10_noWish 6 = .ok (.iload_n 1, 1) := by decide +kernel
theorem dX10_noWish_7 : decode cX10_noWish 7 = .ok (.invokevirtual 172, 3) := by decide +kernel
theorem dX10_noWish_10 : decode cX10_noWish 10 = .ok (.invokevirtual 148, 3) := by decide +kernel
theorem dX10_noWish_13 : decode cX10_noWish 13 = .ok (.ireturn, 1) := by decide +kernel
theorem dX10_swap_0 : decode cX10_swap 0 = .ok (.aload_n 0, 1) := by decide +kernel
theorem dX10_swap_1 : decode cX10_swap 1 = .ok (.invokevirtual 142, 3) := by decide +kernel
theorem dX10_swap_4 : decode cX10_swap 4 = .ok (.aload_n 0, 1) := by decide +kernel
theorem dX10_swap_5 : decode cX10_swap 5 = .ok (.aload_n 0, 1) := by decide +kernel
theorem dX10_swap_6 : decode cX10_swap 6 = .ok (.invokevirtual 175, 3) := by decide +kernel
theorem dX10_swap_9 : decode cX10_swap 9 = .ok (.invokevirtual 148, 3) := by decide +kernel
theorem dX10_swap_12 : decode cX10_swap 12 = .ok (.ireturn, 1) := by decide +kernel
theorem dX10_pay_0 : decode cX10_pay 0 = .ok (.aload_n 0, 1) := by decide +kernel
theorem dX10_pay_1 : decode cX10_pay 1 = .ok (.invokevirtual 142, 3) := by decide +kernel
theorem dX10_pay_4 : decode cX10_pay 4 = .ok (.aload_n 0, 1) := by decide +kernel
theorem dX10_pay_5 : decode cX10_pay 5 = .ok (.aload_n 0, 1) := by decide +kernel
theorem dX10_pay_6 : decode cX10_pay 6 = .ok (.iload_n 1, 1) := by decide +kernel
theorem dX10_pay_7 : decode cX10_pay 7 = .ok (.iload_n 2, 1) := by decide +kernel
theorem dX10_pay_8 : decode cX10_pay 8 = .ok (.invokevirtual 178, 3) := by decide +kernel
theorem dX10_pay_11 : decode cX10_pay 11 = .ok (.invokevirtual 148, 3) := by decide +kernel
theorem dX10_pay_14 : decode cX10_pay 14 = .ok (.ireturn, 1) := by decide +kernel
theorem dX10_pass_0 : decode cX10_pass 0 = .ok (.aload_n 0, 1) := by decide +kernel
theorem dX10_pass_1 : decode cX10_pass 1 = .ok (.invokevirtual 142, 3) := by decide +kernel
theorem dX10_pass_4 : decode cX10_pass 4 = .ok (.aload_n 0, 1) := by decide +kernel
theorem dX10_pass_5 : decode cX10_pass 5 = .ok (.aload_n 0, 1) := by decide +kernel
theorem dX10_pass_6 : decode cX10_pass 6 = .ok (.iload_n 1, 1) := by decide +kernel
theorem dX10_pass_7 : decode cX10_pass 7 = .ok (.invokevirtual 181, 3) := by decide +kernel
theorem dX10_pass_10 : decode cX10_pass 10 = .ok (.invokevirtual 148, 3) := by decide +kernel
theorem dX10_pass_13 : decode cX10_pass 13 = .ok (.ireturn, 1) := by decide +kernel
theorem dX10_set_0 : decode cX10_set 0 = .ok (.aload_n 0, 1) := by decide +kernel
theorem dX10_set_1 : decode cX10_set 1 = .ok (.invokevirtual 142, 3) := by decide +kernel
theorem dX10_set_4 : decode cX10_set 4 = .ok (.aload_n 0, 1) := by decide +kernel
theorem dX10_set_5 : decode cX10_set 5 = .ok (.aload_n 0, 1) := by decide +kernel
theorem dX10_set_6 : decode cX10_set 6 = .ok (.iload_n 1, 1) := by decide +kernel
theorem dX10_set_7 : decode cX10_set 7 = .ok (.iload_n 2, 1) := by decide +kernel
theorem dX10_set_8 : decode cX10_set 8 = .ok (.invokevirtual 184, 3) := by decide +kernel
theorem dX10_set_11 : decode cX10_set 11 = .ok (.invokevirtual 148, 3) := by decide +kernel
theorem dX10_set_14 : decode cX10_set 14 = .ok (.ireturn, 1) := by decide +kernel
theorem dX10_orNone_0 : decode cX10_orNone 0 = .ok (.iload_n 0, 1) := by decide +kernel
theorem dX10_orNone_1 : decode cX10_orNone 1 = .ok (.ifCond .ge 8, 3) := by decide +kernel
theorem dX10_orNone_4 : decode cX10_orNone 4 = .ok (.bipush (-4), 2) := by decide +kernel
theorem dX10_orNone_6 : decode cX10_orNone 6 = .ok (.goto 4, 3) := by decide +kernel
theorem dX10_orNone_9 : decode cX10_orNone 9 = .ok (.iload_n 0, 1) := by decide +kernel
theorem dX10_orNone_10 : decode cX10_orNone 10 = .ok (.ireturn, 1) := by decide +kernel
theorem dX10_personOf_0 : decode cX10_personOf 0 = .ok (.aload_n 0, 1) := by decide +kernel
theorem dX10_personOf_1 : decode cX10_personOf 1 = .ok (.iload_n 1, 1) := by decide +kernel
theorem dX10_personOf_2 : decode cX10_personOf 2 = .ok (.invokevirtual 81, 3) := by decide +kernel
theorem dX10_personOf_5 : decode cX10_personOf 5 = .ok (.ifCond .eq 13, 3) := by decide +kernel
theorem dX10_personOf_8 : decode cX10_personOf 8 = .ok (.iload_n 2, 1) := by decide +kernel
theorem dX10_personOf_9 : decode cX10_personOf 9 = .ok (.iconst 0, 1) := by decide +kernel
theorem dX10_personOf_10 : decode cX10_personOf 10 = .ok (.bipush 9, 2) := by decide +kernel
theorem dX10_personOf_12 : decode cX10_personOf 12 = .ok (.invokestatic 28, 3) := by decide +kernel
theorem dX10_personOf_15 : decode cX10_personOf 15 = .ok (.ifCond .ne 5, 3) := by decide +kernel
theorem dX10_personOf_18 : decode cX10_personOf 18 = .ok (.iconst (-1), 1) := by decide +kernel
theorem dX10_personOf_19 : decode cX10_personOf 19 = .ok (.ireturn, 1) := by decide +kernel
theorem dX10_personOf_20 : decode cX10_personOf 20 = .ok (.iload_n 2, 1) := by decide +kernel
theorem dX10_personOf_21 : decode cX10_personOf 21 = .ok (.iconst 4, 1) := by decide +kernel
theorem dX10_personOf_22 : decode cX10_personOf 22 = .ok (.if_icmp .ge 15, 3) := by decide +kernel
theorem dX10_personOf_25 : decode cX10_personOf 25 = .ok (.aload_n 0, 1) := by decide +kernel
theorem dX10_personOf_26 : decode cX10_personOf 26 = .ok (.iload_n 1, 1) := by decide +kernel
theorem dX10_personOf_27 : decode cX10_personOf 27 = .ok (.iconst 0, 1) := by decide +kernel
theorem dX10_personOf_28 : decode cX10_personOf 28 = .ok (.invokevirtual 66, 3) := by decide +kernel
theorem dX10_personOf_31 : decode cX10_personOf 31 = .ok (.ifCond .ge 6, 3) := by decide +kernel
theorem dX10_personOf_34 : decode cX10_personOf 34 = .ok (.bipush (-4), 2) := by decide +kernel
theorem dX10_personOf_36 : decode cX10_personOf 36 = .ok (.ireturn, 1) := by decide +kernel
theorem dX10_personOf_37 : decode cX10_personOf 37 = .ok (.iload_n 2, 1) := by decide +kernel
theorem dX10_personOf_38 : decode cX10_personOf 38 = .ok (.tableswitch 85 3 9 #[42, 48, 48, 57, 67, 76, 76], 42) := by decide +kernel
theorem dX10_personOf_80 : decode cX10_personOf 80 = .ok (.aload_n 0, 1) := by decide +kernel
theorem dX10_personOf_81 : decode cX10_personOf 81 = .ok (.iload_n 1, 1) := by decide +kernel
theorem dX10_personOf_82 : decode cX10_personOf 82 = .ok (.invokevirtual 93, 3) := by decide +kernel
theorem dX10_personOf_85 : decode cX10_personOf 85 = .ok (.ireturn, 1) := by decide +kernel
theorem dX10_personOf_86 : decode cX10_personOf 86 = .ok (.aload_n 0, 1) := by decide +kernel
theorem dX10_personOf_87 : decode cX10_personOf 87 = .ok (.iload_n 1, 1) := by decide +kernel
theorem dX10_personOf_88 : decode cX10_personOf 88 = .ok (.iload_n 2, 1) := by decide +kernel
theorem dX10_personOf_89 : decode cX10_personOf 89 = .ok (.iconst 1, 1) := by decide +kernel
theorem dX10_personOf_90 : decode cX10_personOf 90 = .ok (.isub, 1) := by decide +kernel
theorem dX10_personOf_91 : decode cX10_personOf 91 = .ok (.invokevirtual 66, 3) := by decide +kernel
theorem dX10_personOf_94 : decode cX10_personOf 94 = .ok (.ireturn, 1) := by decide +kernel
theorem dX10_personOf_95 : decode cX10_personOf 95 = .ok (.aload_n 0, 1) := by decide +kernel
theorem dX10_personOf_96 : decode cX10_personOf 96 = .ok (.iload_n 1, 1) := by decide +kernel
theorem dX10_personOf_97 : decode cX10_personOf 97 = .ok (.iconst 5, 1) := by decide +kernel
theorem dX10_personOf_98 : decode cX10_personOf 98 = .ok (.invokevirtual 66, 3) := by decide +kernel
theorem dX10_personOf_101 : decode cX10_personOf 101 = .ok (.invokestatic 187, 3) := by decide +kernel
theorem dX10_personOf_104 : decode cX10_personOf 104 = .ok (.ireturn, 1) := by decide +kernel
theorem dX10_personOf_105 : decode cX10_personOf 105 = .ok (.aload_n 0, 1) := by decide +kernel
theorem dX10_personOf_106 : decode cX10_personOf 106 = .ok (.iload_n 1, 1) := by decide +kernel
theorem dX10_personOf_107 : decode cX10_personOf 107 = .ok (.invokevirtual 84, 3) := by decide +kernel
theorem dX10_personOf_110 : decode cX10_personOf 110 = .ok (.invokestatic 187, 3) := by decide +kernel
theorem dX10_personOf_113 : decode cX10_personOf 113 = .ok (.ireturn, 1) := by decide +kernel
theorem dX10_personOf_114 : decode cX10_personOf 114 = .ok (.aload_n 0, 1) := by decide +kernel
theorem dX10_personOf_115 : decode cX10_personOf 115 = .ok (.iload_n 1, 1) := by decide +kernel
theorem dX10_personOf_116 : decode cX10_personOf 116 = .ok (.iload_n 2, 1) := by decide +kernel
theorem dX10_personOf_117 : decode cX10_personOf 117 = .ok (.iconst 2, 1) := by decide +kernel
theorem dX10_personOf_118 : decode cX10_personOf 118 = .ok (.isub, 1) := by decide +kernel
theorem dX10_personOf_119 : decode cX10_personOf 119 = .ok (.invokevirtual 66, 3) := by decide +kernel
theorem dX10_personOf_122 : decode cX10_personOf 122 = .ok (.ireturn, 1) := by decide +kernel
theorem dX10_personOf_123 : decode cX10_personOf 123 = .ok (.aload_n 0, 1) := by decide +kernel
theorem dX10_personOf_124 : decode cX10_personOf 124 = .ok (.iload_n 1, 1) := by decide +kernel
theorem dX10_personOf_125 : decode cX10_personOf 125 = .ok (.iload_n 2, 1) := by decide +kernel
theorem dX10_personOf_126 : decode cX10_personOf 126 = .ok (.invokevirtual 66, 3) := by decide +kernel
theorem dX10_personOf_129 : decode cX10_personOf 129 = .ok (.ireturn, 1) := by decide +kernel
theorem dX10_lockerOf_0 : decode cX10_lockerOf 0 = .ok (.aload_n 0, 1) := by decide +kernel
theorem dX10_lockerOf_1 : decode cX10_lockerOf 1 = .ok (.iload_n 1, 1) := by decide +kernel
theorem dX10_lockerOf_2 : decode cX10_lockerOf 2 = .ok (.invokevirtual 72, 3) := by decide +kernel
theorem dX10_lockerOf_5 : decode cX10_lockerOf 5 = .ok (.ifCond .ne 5, 3) := by decide +kernel
theorem dX10_lockerOf_8 : decode cX10_lockerOf 8 = .ok (.iconst (-1), 1) := by decide +kernel
theorem dX10_lockerOf_9 : decode cX10_lockerOf 9 = .ok (.ireturn, 1) := by decide +kernel
theorem dX10_lockerOf_10 : decode cX10_lockerOf 10 = .ok (.iload_n 2, 1) := by decide +kernel
theorem dX10_lockerOf_11 : decode cX10_lockerOf 11 = .ok (.tableswitch 111 0 6 #[41, 48, 63, 73, 87, 94, 104], 41) := by decide +kernel
theorem dX10_lockerOf_52 : decode cX10_lockerOf 52 = .ok (.aload_n 0, 1) := by decide +kernel
theorem dX10_lockerOf_53 : decode cX10_lockerOf 53 = .ok (.iload_n 1, 1) := by decide +kernel
theorem dX10_lockerOf_54 : decode cX10_lockerOf 54 = .ok (.iconst 0, 1) := by decide +kernel
theorem dX10_lockerOf_55 : decode cX10_lockerOf 55 = .ok (.invokevirtual 36, 3) := by decide +kernel
theorem dX10_lockerOf_58 : decode cX10_lockerOf 58 = .ok (.ireturn, 1) := by decide +kernel
theorem dX10_lockerOf_59 : decode cX10_lockerOf 59 = .ok (.aload_n 0, 1) := by decide +kernel
theorem dX10_lockerOf_60 : decode cX10_lockerOf 60 = .ok (.iload_n 1, 1) := by decide +kernel
theorem dX10_lockerOf_61 : decode cX10_lockerOf 61 = .ok (.iconst 1, 1) := by decide +kernel
theorem dX10_lockerOf_62 : decode cX10_lockerOf 62 = .ok (.invokevirtual 36, 3) := by decide +kernel
theorem dX10_lockerOf_65 : decode cX10_lockerOf 65 = .ok (.ifCond .lt 7, 3) := by decide +kernel
theorem dX10_lockerOf_68 : decode cX10_lockerOf 68 = .ok (.iconst 1, 1) := by decide +kernel
theorem dX10_lockerOf_69 : decode cX10_lockerOf 69 = .ok (.goto 4, 3) := by decide +kernel
theorem dX10_lockerOf_72 : decode cX10_lockerOf 72 = .ok (.iconst 0, 1) := by decide +kernel
theorem dX10_lockerOf_73 : decode cX10_lockerOf 73 = .ok (.ireturn, 1) := by decide +kernel
theorem dX10_lockerOf_74 : decode cX10_lockerOf 74 = .ok (.aload_n 0, 1) := by decide +kernel
theorem dX10_lockerOf_75 : decode cX10_lockerOf 75 = .ok (.iload_n 1, 1) := by decide +kernel
theorem dX10_lockerOf_76 : decode cX10_lockerOf 76 = .ok (.iconst 2, 1) := by decide +kernel
theorem dX10_lockerOf_77 : decode cX10_lockerOf 77 = .ok (.invokevirtual 36, 3) := by decide +kernel
theorem dX10_lockerOf_80 : decode cX10_lockerOf 80 = .ok (.invokestatic 187, 3) := by decide +kernel
theorem dX10_lockerOf_83 : decode cX10_lockerOf 83 = .ok (.ireturn, 1) := by decide +kernel
theorem dX10_lockerOf_84 : decode cX10_lockerOf 84 = .ok (.aload_n 0, 1) := by decide +kernel
theorem dX10_lockerOf_85 : decode cX10_lockerOf 85 = .ok (.iload_n 1, 1) := by decide +kernel
theorem dX10_lockerOf_86 : decode cX10_lockerOf 86 = .ok (.invokevirtual 40, 3) := by decide +kernel
theorem dX10_lockerOf_89 : decode cX10_lockerOf 89 = .ok (.ifCond .eq 7, 3) := by decide +kernel
theorem dX10_lockerOf_92 : decode cX10_lockerOf 92 = .ok (.iconst 1, 1) := by decide +kernel
theorem dX10_lockerOf_93 : decode cX10_lockerOf 93 = .ok (.goto 4, 3) := by decide +kernel
theorem dX10_lockerOf_96 : decode cX10_lockerOf 96 = .ok (.iconst 0, 1) := by decide +kernel
theorem dX10_lockerOf_97 : decode cX10_lockerOf 97 = .ok (.ireturn, 1) := by decide +kernel
theorem dX10_lockerOf_98 : decode cX10_lockerOf 98 = .ok (.aload_n 0, 1) := by decide +kernel
theorem dX10_lockerOf_99 : decode cX10_lockerOf 99 = .ok (.iload_n 1, 1) := by decide +kernel
theorem dX10_lockerOf_100 : decode cX10_lockerOf 100 = .ok (.iconst 3, 1) := by decide +kernel
theorem dX10_lockerOf_101 : decode cX10_lockerOf 101 = .ok (.invokevirtual 36, 3) := by decide +kernel
theorem dX10_lockerOf_104 : decode cX10_lockerOf 104 = .ok (.ireturn, 1) := by decide +kernel
theorem dX10_lockerOf_105 : decode cX10_lockerOf 105 = .ok (.aload_n 0, 1) := by decide +kernel
theorem dX10_lockerOf_106 : decode cX10_lockerOf 106 = .ok (.iload_n 1, 1) := by decide +kernel
theorem dX10_lockerOf_107 : decode cX10_lockerOf 107 = .ok (.iconst 4, 1) := by decide +kernel
theorem dX10_lockerOf_108 : decode cX10_lockerOf 108 = .ok (.invokevirtual 36, 3) := by decide +kernel
theorem dX10_lockerOf_111 : decode cX10_lockerOf 111 = .ok (.invokestatic 187, 3) := by decide +kernel
theorem dX10_lockerOf_114 : decode cX10_lockerOf 114 = .ok (.ireturn, 1) := by decide +kernel
theorem dX10_lockerOf_115 : decode cX10_lockerOf 115 = .ok (.aload_n 0, 1) := by decide +kernel
theorem dX10_lockerOf_116 : decode cX10_lockerOf 116 = .ok (.iload_n 1, 1) := by decide +kernel
theorem dX10_lockerOf_117 : decode cX10_lockerOf 117 = .ok (.iconst 5, 1) := by decide +kernel
theorem dX10_lockerOf_118 : decode cX10_lockerOf 118 = .ok (.invokevirtual 36, 3) := by decide +kernel
theorem dX10_lockerOf_121 : decode cX10_lockerOf 121 = .ok (.ireturn, 1) := by decide +kernel
theorem dX10_lockerOf_122 : decode cX10_lockerOf 122 = .ok (.iconst (-1), 1) := by decide +kernel
theorem dX10_lockerOf_123 : decode cX10_lockerOf 123 = .ok (.ireturn, 1) := by decide +kernel
theorem dX10_waitingAt_0 : decode cX10_waitingAt 0 = .ok (.iload_n 1, 1) := by decide +kernel
theorem dX10_waitingAt_1 : decode cX10_waitingAt 1 = .ok (.ifCond .lt 12, 3) := by decide +kernel
theorem dX10_waitingAt_4 : decode cX10_waitingAt 4 = .ok (.iload_n 2, 1) := by decide +kernel
theorem dX10_waitingAt_5 : decode cX10_waitingAt 5 = .ok (.iconst 0, 1) := by decide +kernel
theorem dX10_waitingAt_6 : decode cX10_waitingAt 6 = .ok (.iconst 1, 1) := by decide +kernel
theorem dX10_waitingAt_7 : decode cX10_waitingAt 7 = .ok (.invokestatic 28, 3) := by decide +kernel
theorem dX10_waitingAt_10 : decode cX10_waitingAt 10 = .ok (.ifCond .ne 5, 3) := by decide +kernel
theorem dX10_waitingAt_13 : decode cX10_waitingAt 13 = .ok (.iconst (-1), 1) := by decide +kernel
theorem dX10_waitingAt_14 : decode cX10_waitingAt 14 = .ok (.ireturn, 1) := by decide +kernel
theorem dX10_waitingAt_15 : decode cX10_waitingAt 15 = .ok (.iload_n 1, 1) := by decide +kernel
theorem dX10_waitingAt_16 : decode cX10_waitingAt 16 = .ok (.aload_n 0, 1) := by decide +kernel
theorem dX10_waitingAt_17 : decode cX10_waitingAt 17 = .ok (.getfield 7, 3) := by decide +kernel
theorem dX10_waitingAt_20 : decode cX10_waitingAt 20 = .ok (.bipush 6, 2) := by decide +kernel
theorem dX10_waitingAt_22 : decode cX10_waitingAt 22 = .ok (.iaload, 1) := by decide +kernel
theorem dX10_waitingAt_23 : decode cX10_waitingAt 23 = .ok (.if_icmp .ge 20, 3) := by decide +kernel
theorem dX10_waitingAt_26 : decode cX10_waitingAt 26 = .ok (.aload_n 0, 1) := by decide +kernel
theorem dX10_waitingAt_27 : decode cX10_waitingAt 27 = .ok (.getfield 7, 3) := by decide +kernel
theorem dX10_waitingAt_30 : decode cX10_waitingAt 30 = .ok (.sipush 163, 3) := by decide +kernel
theorem dX10_waitingAt_33 : decode cX10_waitingAt 33 = .ok (.iconst 2, 1) := by decide +kernel
theorem dX10_waitingAt_34 : decode cX10_waitingAt 34 = .ok (.iload_n 1, 1) := by decide +kernel
theorem dX10_waitingAt_35 : decode cX10_waitingAt 35 = .ok (.imul, 1) := by decide +kernel
theorem dX10_waitingAt_36 : decode cX10_waitingAt 36 = .ok (.iadd, 1) := by decide +kernel
theorem dX10_waitingAt_37 : decode cX10_waitingAt 37 = .ok (.iload_n 2, 1) := by decide +kernel
theorem dX10_waitingAt_38 : decode cX10_waitingAt 38 = .ok (.iadd, 1) := by decide +kernel
theorem dX10_waitingAt_39 : decode cX10_waitingAt 39 = .ok (.iaload, 1) := by decide +kernel
theorem dX10_waitingAt_40 : decode cX10_waitingAt 40 = .ok (.goto 5, 3) := by decide +kernel
theorem dX10_waitingAt_43 : decode cX10_waitingAt 43 = .ok (.bipush (-4), 2) := by decide +kernel
theorem dX10_waitingAt_45 : decode cX10_waitingAt 45 = .ok (.ireturn, 1) := by decide +kernel
theorem dX10_lockersThat_0 : decode cX10_lockersThat 0 = .ok (.iconst 0, 1) := by decide +kernel
theorem dX10_lockersThat_1 : decode cX10_lockersThat 1 = .ok (.istore_n 2, 1) := by decide +kernel
theorem dX10_lockersThat_2 : decode cX10_lockersThat 2 = .ok (.iconst 0, 1) := by decide +kernel
theorem dX10_lockersThat_3 : decode cX10_lockersThat 3 = .ok (.istore_n 3, 1) := by decide +kernel
theorem dX10_lockersThat_4 : decode cX10_lockersThat 4 = .ok (.iload_n 3, 1) := by decide +kernel
theorem dX10_lockersThat_5 : decode cX10_lockersThat 5 = .ok (.aload_n 0, 1) := by decide +kernel
theorem dX10_lockersThat_6 : decode cX10_lockersThat 6 = .ok (.getfield 7, 3) := by decide +kernel
theorem dX10_lockersThat_9 : decode cX10_lockersThat 9 = .ok (.iconst 4, 1) := by decide +kernel
theorem dX10_lockersThat_10 : decode cX10_lockersThat 10 = .ok (.iaload, 1) := by decide +kernel
theorem dX10_lockersThat_11 : decode cX10_lockersThat 11 = .ok (.if_icmp .ge 94, 3) := by decide +kernel
theorem dX10_lockersThat_14 : decode cX10_lockersThat 14 = .ok (.iload_n 1, 1) := by decide +kernel
theorem dX10_lockersThat_15 : decode cX10_lockersThat 15 = .ok (.ifCond .ne 11, 3) := by decide +kernel
theorem dX10_lockersThat_18 : decode cX10_lockersThat 18 = .ok (.aload_n 0, 1) := by decide +kernel
theorem dX10_lockersThat_19 : decode cX10_lockersThat 19 = .ok (.iload_n 3, 1) := by decide +kernel
theorem dX10_lockersThat_20 : decode cX10_lockersThat 20 = .ok (.invokevirtual 40, 3) := by decide +kernel
theorem dX10_lockersThat_23 : decode cX10_lockersThat 23 = .ok (.goto 61, 3) := by decide +kernel
theorem dX10_lockersThat_26 : decode cX10_lockersThat 26 = .ok (.iload_n 1, 1) := by decide +kernel
theorem dX10_lockersThat_27 : decode cX10_lockersThat 27 = .ok (.iconst 1, 1) := by decide +kernel
theorem dX10_lockersThat_28 : decode cX10_lockersThat 28 = .ok (.if_icmp .ne 20, 3) := by decide +kernel
theorem dX10_lockersThat_31 : decode cX10_lockersThat 31 = .ok (.aload_n 0, 1) := by decide +kernel
theorem dX10_lockersThat_32 : decode cX10_lockersThat 32 = .ok (.iload_n 3, 1) := by decide +kernel
theorem dX10_lockersThat_33 : decode cX10_lockersThat 33 = .ok (.iconst 2, 1) := by decide +kernel
theorem dX10_lockersThat_34 : decode cX10_lockersThat 34 = .ok (.invokevirtual 36, 3) := by decide +kernel
theorem dX10_lockersThat_37 : decode cX10_lockersThat 37 = .ok (.ifCond .lt 7, 3) := by decide +kernel
theorem dX10_lockersThat_40 : decode cX10_lockersThat 40 = .ok (.iconst 1, 1) := by decide +kernel
theorem dX10_lockersThat_41 : decode cX10_lockersThat 41 = .ok (.goto 43, 3) := by decide +kernel
theorem dX10_lockersThat_44 : decode cX10_lockersThat 44 = .ok (.iconst 0, 1) := by decide +kernel
theorem dX10_lockersThat_45 : decode cX10_lockersThat 45 = .ok (.goto 39, 3) := by decide +kernel
theorem dX10_lockersThat_48 : decode cX10_lockersThat 48 = .ok (.iload_n 1, 1) := by decide +kernel
theorem dX10_lockersThat_49 : decode cX10_lockersThat 49 = .ok (.iconst 2, 1) := by decide +kernel
theorem dX10_lockersThat_50 : decode cX10_lockersThat 50 = .ok (.if_icmp .ne 20, 3) := by decide +kernel
theorem dX10_lockersThat_53 : decode cX10_lockersThat 53 = .ok (.aload_n 0, 1) := by decide +kernel
theorem dX10_lockersThat_54 : decode cX10_lockersThat 54 = .ok (.iload_n 3, 1) := by decide +kernel
theorem dX10_lockersThat_55 : decode cX10_lockersThat 55 = .ok (.iconst 4, 1) := by decide +kernel
theorem dX10_lockersThat_56 : decode cX10_lockersThat 56 = .ok (.invokevirtual 36, 3) := by decide +kernel
theorem dX10_lockersThat_59 : decode cX10_lockersThat 59 = .ok (.ifCond .lt 7, 3) := by decide +kernel
theorem dX10_lockersThat_62 : decode cX10_lockersThat 62 = .ok (.iconst 1, 1) := by decide +kernel
theorem dX10_lockersThat_63 : decode cX10_lockersThat 63 = .ok (.goto 21, 3) := by decide +kernel
theorem dX10_lockersThat_66 : decode cX10_lockersThat 66 = .ok (.iconst 0, 1) := by decide +kernel
theorem dX10_lockersThat_67 : decode cX10_lockersThat 67 = .ok (.goto 17, 3) := by decide +kernel
theorem dX10_lockersThat_70 : decode cX10_lockersThat 70 = .ok (.aload_n 0, 1) := by decide +kernel
theorem dX10_lockersThat_71 : decode cX10_lockersThat 71 = .ok (.iload_n 3, 1) := by decide +kernel
theorem dX10_lockersThat_72 : decode cX10_lockersThat 72 = .ok (.iconst 1, 1) := by decide +kernel
theorem dX10_lockersThat_73 : decode cX10_lockersThat 73 = .ok (.invokevirtual 36, 3) := by decide +kernel
theorem dX10_lockersThat_76 : decode cX10_lockersThat 76 = .ok (.ifCond .lt 7, 3) := by decide +kernel
theorem dX10_lockersThat_79 : decode cX10_lockersThat 79 = .ok (.iconst 1, 1) := by decide +kernel
theorem dX10_lockersThat_80 : decode cX10_lockersThat 80 = .ok (.goto 4, 3) := by decide +kernel
theorem dX10_lockersThat_83 : decode cX10_lockersThat 83 = .ok (.iconst 0, 1) := by decide +kernel
theorem dX10_lockersThat_84 : decode cX10_lockersThat 84 = .ok (.istore 4, 2) := by decide +kernel
theorem dX10_lockersThat_86 : decode cX10_lockersThat 86 = .ok (.iload_n 2, 1) := by decide +kernel
theorem dX10_lockersThat_87 : decode cX10_lockersThat 87 = .ok (.iload 4, 2) := by decide +kernel
theorem dX10_lockersThat_89 : decode cX10_lockersThat 89 = .ok (.ifCond .eq 7, 3) := by decide +kernel
theorem dX10_lockersThat_92 : decode cX10_lockersThat 92 = .ok (.iconst 1, 1) := by decide +kernel
theorem dX10_lockersThat_93 : decode cX10_lockersThat 93 = .ok (.goto 4, 3) := by decide +kernel
theorem dX10_lockersThat_96 : decode cX10_lockersThat 96 = .ok (.iconst 0, 1) := by decide +kernel
theorem dX10_lockersThat_97 : decode cX10_lockersThat 97 = .ok (.iadd, 1) := by decide +kernel
theorem dX10_lockersThat_98 : decode cX10_lockersThat 98 = .ok (.istore_n 2, 1) := by decide +kernel
theorem dX10_lockersThat_99 : decode cX10_lockersThat 99 = .ok (.iinc 3 1, 3) := by decide +kernel
theorem dX10_lockersThat_102 : decode cX10_lockersThat 102 = .ok (.goto (-98), 3) := by decide +kernel
theorem dX10_lockersThat_105 : decode cX10_lockersThat 105 = .ok (.iload_n 2, 1) := by decide +kernel
theorem dX10_lockersThat_106 : decode cX10_lockersThat 106 = .ok (.ireturn, 1) := by decide +kernel
theorem dX10_debts_0 : decode cX10_debts 0 = .ok (.iconst 0, 1) := by decide +kernel
theorem dX10_debts_1 : decode cX10_debts 1 = .ok (.istore_n 1, 1) := by decide +kernel
theorem dX10_debts_2 : decode cX10_debts 2 = .ok (.iconst 0, 1) := by decide +kernel
theorem dX10_debts_3 : decode cX10_debts 3 = .ok (.istore_n 2, 1) := by decide +kernel
theorem dX10_debts_4 : decode cX10_debts 4 = .ok (.iload_n 2, 1) := by decide +kernel
theorem dX10_debts_5 : decode cX10_debts 5 = .ok (.aload_n 0, 1) := by decide +kernel
theorem dX10_debts_6 : decode cX10_debts 6 = .ok (.getfield 7, 3) := by decide +kernel
theorem dX10_debts_9 : decode cX10_debts 9 = .ok (.iconst 5, 1) := by decide +kernel
theorem dX10_debts_10 : decode cX10_debts 10 = .ok (.iaload, 1) := by decide +kernel
theorem dX10_debts_11 : decode cX10_debts 11 = .ok (.if_icmp .ge 18, 3) := by decide +kernel
theorem dX10_debts_14 : decode cX10_debts 14 = .ok (.iload_n 1, 1) := by decide +kernel
theorem dX10_debts_15 : decode cX10_debts 15 = .ok (.aload_n 0, 1) := by decide +kernel
theorem dX10_debts_16 : decode cX10_debts 16 = .ok (.iload_n 2, 1) := by decide +kernel
theorem dX10_debts_17 : decode cX10_debts 17 = .ok (.iconst 3, 1) := by decide +kernel
theorem dX10_debts_18 : decode cX10_debts 18 = .ok (.invokevirtual 66, 3) := by decide +kernel
theorem dX10_debts_21 : decode cX10_debts 21 = .ok (.iadd, 1) := by decide +kernel
theorem dX10_debts_22 : decode cX10_debts 22 = .ok (.istore_n 1, 1) := by decide +kernel
theorem dX10_debts_23 : decode cX10_debts 23 = .ok (.iinc 2 1, 3) := by decide +kernel
theorem dX10_debts_26 : decode cX10_debts 26 = .ok (.goto (-22), 3) := by decide +kernel
theorem dX10_debts_29 : decode cX10_debts 29 = .ok (.iload_n 1, 1) := by decide +kernel
theorem dX10_debts_30 : decode cX10_debts 30 = .ok (.ireturn, 1) := by decide +kernel
theorem dX10_count_0 : decode cX10_count 0 = .ok (.iload_n 1, 1) := by decide +kernel
theorem dX10_count_1 : decode cX10_count 1 = .ok (.tableswitch 126 0 13 #[71, 71, 80, 87, 87, 87, 95, 95, 102, 107, 107, 107, 116, 121], 71) := by decide +kernel
theorem dX10_count_72 : decode cX10_count 72 = .ok (.aload_n 0, 1) := by decide +kernel
theorem dX10_count_73 : decode cX10_count 73 = .ok (.getfield 7, 3) := by decide +kernel
theorem dX10_count_76 : decode cX10_count 76 = .ok (.iconst 4, 1) := by decide +kernel
theorem dX10_count_77 : decode cX10_count 77 = .ok (.iload_n 1, 1) := by decide +kernel
theorem dX10_count_78 : decode cX10_count 78 = .ok (.iadd, 1) := by decide +kernel
theorem dX10_count_79 : decode cX10_count 79 = .ok (.iaload, 1) := by decide +kernel
theorem dX10_count_80 : decode cX10_count 80 = .ok (.ireturn, 1) := by decide +kernel
theorem dX10_count_81 : decode cX10_count 81 = .ok (.aload_n 0, 1) := by decide +kernel
theorem dX10_count_82 : decode cX10_count 82 = .ok (.getfield 7, 3) := by decide +kernel
theorem dX10_count_85 : decode cX10_count 85 = .ok (.iconst 3, 1) := by decide +kernel
theorem dX10_count_86 : decode cX10_count 86 = .ok (.iaload, 1) := by decide +kernel
theorem dX10_count_87 : decode cX10_count 87 = .ok (.ireturn, 1) := by decide +kernel
theorem dX10_count_88 : decode cX10_count 88 = .ok (.aload_n 0, 1) := by decide +kernel
theorem dX10_count_89 : decode cX10_count 89 = .ok (.iload_n 1, 1) := by decide +kernel
theorem dX10_count_90 : decode cX10_count 90 = .ok (.iconst 3, 1) := by decide +kernel
theorem dX10_count_91 : decode cX10_count 91 = .ok (.isub, 1) := by decide +kernel
theorem dX10_count_92 : decode cX10_count 92 = .ok (.invokevirtual 190, 3) := by decide +kernel
theorem dX10_count_95 : decode cX10_count 95 = .ok (.ireturn, 1) := by decide +kernel
theorem dX10_count_96 : decode cX10_count 96 = .ok (.aload_n 0, 1) := by decide +kernel
theorem dX10_count_97 : decode cX10_count 97 = .ok (.getfield 7, 3) := by decide +kernel
theorem dX10_count_100 : decode cX10_count 100 = .ok (.iload_n 1, 1) := by decide +kernel
theorem dX10_count_101 : decode cX10_count 101 = .ok (.iaload, 1) := by decide +kernel
theorem dX10_count_102 : decode cX10_count 102 = .ok (.ireturn, 1) := by decide +kernel
theorem dX10_count_103 : decode cX10_count 103 = .ok (.aload_n 0, 1) := by decide +kernel
theorem dX10_count_104 : decode cX10_count 104 = .ok (.invokevirtual 193, 3) := by decide +kernel
theorem dX10_count_107 : decode cX10_count 107 = .ok (.ireturn, 1) := by decide +kernel
theorem dX10_count_108 : decode cX10_count 108 = .ok (.aload_n 0, 1) := by decide +kernel
theorem dX10_count_109 : decode cX10_count 109 = .ok (.getfield 7, 3) := by decide +kernel
theorem dX10_count_112 : decode cX10_count 112 = .ok (.iload_n 1, 1) := by decide +kernel
theorem dX10_count_113 : decode cX10_count 113 = .ok (.iconst 1, 1) := by decide +kernel
theorem dX10_count_114 : decode cX10_count 114 = .ok (.isub, 1) := by decide +kernel
theorem dX10_count_115 : decode cX10_count 115 = .ok (.iaload, 1) := by decide +kernel
theorem dX10_count_116 : decode cX10_count 116 = .ok (.ireturn, 1) := by decide +kernel
theorem dX10_count_117 : decode cX10_count 117 = .ok (.aload_n 0, 1) := by decide +kernel
theorem dX10_count_118 : decode cX10_count 118 = .ok (.getfield 32, 3) := by decide +kernel
theorem dX10_count_121 : decode cX10_count 121 = .ok (.ireturn, 1) := by decide +kernel
theorem dX10_count_122 : decode cX10_count 122 = .ok (.aload_n 0, 1) := by decide +kernel
theorem dX10_count_123 : decode cX10_count 123 = .ok (.getfield 196, 3) := by decide +kernel
theorem dX10_count_126 : decode cX10_count 126 = .ok (.ireturn, 1) := by decide +kernel
theorem dX10_count_127 : decode cX10_count 127 = .ok (.iload_n 1, 1) := by decide +kernel
theorem dX10_count_128 : decode cX10_count 128 = .ok (.bipush 20, 2) := by decide +kernel
theorem dX10_count_130 : decode cX10_count 130 = .ok (.bipush 22, 2) := by decide +kernel
theorem dX10_count_132 : decode cX10_count 132 = .ok (.invokestatic 28, 3) := by decide +kernel
theorem dX10_count_135 : decode cX10_count 135 = .ok (.ifCond .eq 15, 3) := by decide +kernel
theorem dX10_count_138 : decode cX10_count 138 = .ok (.aload_n 0, 1) := by decide +kernel
theorem dX10_count_139 : decode cX10_count 139 = .ok (.getfield 7, 3) := by decide +kernel
theorem dX10_count_142 : decode cX10_count 142 = .ok (.iload_n 1, 1) := by decide +kernel
theorem dX10_count_143 : decode cX10_count 143 = .ok (.bipush 20, 2) := by decide +kernel
theorem dX10_count_145 : decode cX10_count 145 = .ok (.isub, 1) := by decide +kernel
theorem dX10_count_146 : decode cX10_count 146 = .ok (.iaload, 1) := by decide +kernel
theorem dX10_count_147 : decode cX10_count 147 = .ok (.goto 4, 3) := by decide +kernel
theorem dX10_count_150 : decode cX10_count 150 = .ok (.iconst (-1), 1) := by decide +kernel
theorem dX10_count_151 : decode cX10_count 151 = .ok (.ireturn, 1) := by decide +kernel
theorem dX10_feeIn_0 : decode cX10_feeIn 0 = .ok (.aload_n 0, 1) := by decide +kernel
theorem dX10_feeIn_1 : decode cX10_feeIn 1 = .ok (.iload_n 1, 1) := by decide +kernel
theorem dX10_feeIn_2 : decode cX10_feeIn 2 = .ok (.invokevirtual 81, 3) := by decide +kernel
theorem dX10_feeIn_5 : decode cX10_feeIn 5 = .ok (.ifCond .eq 13, 3) := by decide +kernel
theorem dX10_feeIn_8 : decode cX10_feeIn 8 = .ok (.iload_n 2, 1) := by decide +kernel
theorem dX10_feeIn_9 : decode cX10_feeIn 9 = .ok (.iconst 1, 1) := by decide +kernel
theorem dX10_feeIn_10 : decode cX10_feeIn 10 = .ok (.bipush 99, 2) := by decide +kernel
theorem dX10_feeIn_12 : decode cX10_feeIn 12 = .ok (.invokestatic 28, 3) := by decide +kernel
theorem dX10_feeIn_15 : decode cX10_feeIn 15 = .ok (.ifCond .ne 5, 3) := by decide +kernel
theorem dX10_feeIn_18 : decode cX10_feeIn 18 = .ok (.iconst (-1), 1) := by decide +kernel
theorem dX10_feeIn_19 : decode cX10_feeIn 19 = .ok (.ireturn, 1) := by decide +kernel
theorem dX10_feeIn_20 : decode cX10_feeIn 20 = .ok (.aload_n 0, 1) := by decide +kernel
theorem dX10_feeIn_21 : decode cX10_feeIn 21 = .ok (.invokevirtual 199, 3) := by decide +kernel
theorem dX10_feeIn_24 : decode cX10_feeIn 24 = .ok (.aload_n 0, 1) := by decide +kernel
theorem dX10_feeIn_25 : decode cX10_feeIn 25 = .ok (.iload_n 1, 1) := by decide +kernel
theorem dX10_feeIn_26 : decode cX10_feeIn 26 = .ok (.iconst 3, 1) := by decide +kernel
theorem dX10_feeIn_27 : decode cX10_feeIn 27 = .ok (.invokevirtual 66, 3) := by decide +kernel
theorem dX10_feeIn_30 : decode cX10_feeIn 30 = .ok (.istore_n 3, 1) := by decide +kernel
theorem dX10_feeIn_31 : decode cX10_feeIn 31 = .ok (.aload_n 0, 1) := by decide +kernel
theorem dX10_feeIn_32 : decode cX10_feeIn 32 = .ok (.iload_n 2, 1) := by decide +kernel
theorem dX10_feeIn_33 : decode cX10_feeIn 33 = .ok (.invokevirtual 133, 3) := by decide +kernel
theorem dX10_feeIn_36 : decode cX10_feeIn 36 = .ok (.pop, 1) := by decide +kernel
theorem dX10_feeIn_37 : decode cX10_feeIn 37 = .ok (.aload_n 0, 1) := by decide +kernel
theorem dX10_feeIn_38 : decode cX10_feeIn 38 = .ok (.iload_n 1, 1) := by decide +kernel
theorem dX10_feeIn_39 : decode cX10_feeIn 39 = .ok (.iconst 3, 1) := by decide +kernel
theorem dX10_feeIn_40 : decode cX10_feeIn 40 = .ok (.invokevirtual 66, 3) := by decide +kernel
theorem dX10_feeIn_43 : decode cX10_feeIn 43 = .ok (.iload_n 3, 1) := by decide +kernel
theorem dX10_feeIn_44 : decode cX10_feeIn 44 = .ok (.isub, 1) := by decide +kernel
theorem dX10_feeIn_45 : decode cX10_feeIn 45 = .ok (.istore 4, 2) := by decide +kernel
theorem dX10_feeIn_47 : decode cX10_feeIn 47 = .ok (.aload_n 0, 1) := by decide +kernel
theorem dX10_feeIn_48 : decode cX10_feeIn 48 = .ok (.invokevirtual 202, 3) := by decide +kernel
theorem dX10_feeIn_51 : decode cX10_feeIn 51 = .ok (.iload 4, 2) := by decide +kernel
theorem dX10_feeIn_53 : decode cX10_feeIn 53 = .ok (.ireturn, 1) := by decide +kernel
theorem dX10_wouldHave_0 : decode cX10_wouldHave 0 = .ok (.aload_n 0, 1) := by decide +kernel
theorem dX10_wouldHave_1 : decode cX10_wouldHave 1 = .ok (.iload_n 1, 1) := by decide +kernel
theorem dX10_wouldHave_2 : decode cX10_wouldHave 2 = .ok (.invokevirtual 81, 3) := by decide +kernel
theorem dX10_wouldHave_5 : decode cX10_wouldHave 5 = .ok (.ifCond .ne 5, 3) := by decide +kernel
