theorem dX1_init_0 : decode cX1_init 0 = .ok (.aload_n 0, 1) := by decide +kernel
theorem dX1_init_1 : decode cX1_init 1 = .ok (.invokespecial 3, 3) := by decide +kernel
theorem dX1_init_4 : decode cX1_init 4 = .ok (.aload_n 0, 1) := by decide +kernel
theorem dX1_init_5 : decode cX1_init 5 = .ok (.bipush 12, 2) := by decide +kernel
theorem dX1_init_7 : decode cX1_init 7 = .ok (.anewarray 9, 3) := by decide +kernel
theorem dX1_init_10 : decode cX1_init 10 = .ok (.putfield 11, 3) := by decide +kernel
theorem dX1_init_13 : decode cX1_init 13 = .ok (.aload_n 0, 1) := by decide +kernel
theorem dX1_init_14 : decode cX1_init 14 = .ok (.bipush 10, 2) := by decide +kernel
theorem dX1_init_16 : decode cX1_init 16 = .ok (.anewarray 17, 3) := by decide +kernel
theorem dX1_init_19 : decode cX1_init 19 = .ok (.putfield 19, 3) := by decide +kernel
theorem dX1_init_22 : decode cX1_init 22 = .ok (.aload_n 0, 1) := by decide +kernel
theorem dX1_init_23 : decode cX1_init 23 = .ok (.new 23, 3) := by decide +kernel
theorem dX1_init_26 : decode cX1_init 26 = .ok (.dup, 1) := by decide +kernel
theorem dX1_init_27 : decode cX1_init 27 = .ok (.invokespecial 25, 3) := by decide +kernel
theorem dX1_init_30 : decode cX1_init 30 = .ok (.putfield 26, 3) := by decide +kernel
theorem dX1_init_33 : decode cX1_init 33 = .ok (.aload_n 0, 1) := by decide +kernel
theorem dX1_init_34 : decode cX1_init 34 = .ok (.new 23, 3) := by decide +kernel
theorem dX1_init_37 : decode cX1_init 37 = .ok (.dup, 1) := by decide +kernel
theorem dX1_init_38 : decode cX1_init 38 = .ok (.invokespecial 25, 3) := by decide +kernel
theorem dX1_init_41 : decode cX1_init 41 = .ok (.putfield 30, 3) := by decide +kernel
theorem dX1_init_44 : decode cX1_init 44 = .ok (.aload_n 0, 1) := by decide +kernel
theorem dX1_init_45 : decode cX1_init 45 = .ok (.iconst 3, 1) := by decide +kernel
theorem dX1_init_46 : decode cX1_init 46 = .ok (.newarray .int, 2) := by decide +kernel
theorem dX1_init_48 : decode cX1_init 48 = .ok (.putfield 33, 3) := by decide +kernel
theorem dX1_init_51 : decode cX1_init 51 = .ok (.aload_n 0, 1) := by decide +kernel
theorem dX1_init_52 : decode cX1_init 52 = .ok (.iconst 3, 1) := by decide +kernel
theorem dX1_init_53 : decode cX1_init 53 = .ok (.newarray .int, 2) := by decide +kernel
theorem dX1_init_55 : decode cX1_init 55 = .ok (.putfield 37, 3) := by decide +kernel
theorem dX1_init_58 : decode cX1_init 58 = .ok (.iconst 0, 1) := by decide +kernel
theorem dX1_init_59 : decode cX1_init 59 = .ok (.istore_n 1, 1) := by decide +kernel
theorem dX1_init_60 : decode cX1_init 60 = .ok (.iload_n 1, 1) := by decide +kernel
theorem dX1_init_61 : decode cX1_init 61 = .ok (.bipush 12, 2) := by decide +kernel
theorem dX1_init_63 : decode cX1_init 63 = .ok (.if_icmp .ge 23, 3) := by decide +kernel
theorem dX1_init_66 : decode cX1_init 66 = .ok (.aload_n 0, 1) := by decide +kernel
theorem dX1_init_67 : decode cX1_init 67 = .ok (.getfield 11, 3) := by decide +kernel
theorem dX1_init_70 : decode cX1_init 70 = .ok (.iload_n 1, 1) := by decide +kernel
theorem dX1_init_71 : decode cX1_init 71 = .ok (.new 9, 3) := by decide +kernel
theorem dX1_init_74 : decode cX1_init 74 = .ok (.dup, 1) := by decide +kernel
theorem dX1_init_75 : decode cX1_init 75 = .ok (.iload_n 1, 1) := by decide +kernel
theorem dX1_init_76 : decode cX1_init 76 = .ok (.invokespecial 40, 3) := by decide +kernel
theorem dX1_init_79 : decode cX1_init 79 = .ok (.aastore, 1) := by decide +kernel
theorem dX1_init_80 : decode cX1_init 80 = .ok (.iinc 1 1, 3) := by decide +kernel
theorem dX1_init_83 : decode cX1_init 83 = .ok (.goto (-23), 3) := by decide +kernel
theorem dX1_init_86 : decode cX1_init 86 = .ok (.iconst 0, 1) := by decide +kernel
theorem dX1_init_87 : decode cX1_init 87 = .ok (.istore_n 1, 1) := by decide +kernel
theorem dX1_init_88 : decode cX1_init 88 = .ok (.iload_n 1, 1) := by decide +kernel
theorem dX1_init_89 : decode cX1_init 89 = .ok (.bipush 10, 2) := by decide +kernel
theorem dX1_init_91 : decode cX1_init 91 = .ok (.if_icmp .ge 23, 3) := by decide +kernel
theorem dX1_init_94 : decode cX1_init 94 = .ok (.aload_n 0, 1) := by decide +kernel
theorem dX1_init_95 : decode cX1_init 95 = .ok (.getfield 19, 3) := by decide +kernel
theorem dX1_init_98 : decode cX1_init 98 = .ok (.iload_n 1, 1) := by decide +kernel
theorem dX1_init_99 : decode cX1_init 99 = .ok (.new 17, 3) := by decide +kernel
theorem dX1_init_102 : decode cX1_init 102 = .ok (.dup, 1) := by decide +kernel
theorem dX1_init_103 : decode cX1_init 103 = .ok (.iload_n 1, 1) := by decide +kernel
theorem dX1_init_104 : decode cX1_init 104 = .ok (.invokespecial 43, 3) := by decide +kernel
theorem dX1_init_107 : decode cX1_init 107 = .ok (.aastore, 1) := by decide +kernel
theorem dX1_init_108 : decode cX1_init 108 = .ok (.iinc 1 1, 3) := by decide +kernel
theorem dX1_init_111 : decode cX1_init 111 = .ok (.goto (-23), 3) := by decide +kernel
theorem dX1_init_114 : decode cX1_init 114 = .ok (.aload_n 0, 1) := by decide +kernel
theorem dX1_init_115 : decode cX1_init 115 = .ok (.getfield 33, 3) := by decide +kernel
theorem dX1_init_118 : decode cX1_init 118 = .ok (.iconst 0, 1) := by decide +kernel
theorem dX1_init_119 : decode cX1_init 119 = .ok (.bipush 10, 2) := by decide +kernel
theorem dX1_init_121 : decode cX1_init 121 = .ok (.iastore, 1) := by decide +kernel
theorem dX1_init_122 : decode cX1_init 122 = .ok (.aload_n 0, 1) := by decide +kernel
theorem dX1_init_123 : decode cX1_init 123 = .ok (.getfield 33, 3) := by decide +kernel
theorem dX1_init_126 : decode cX1_init 126 = .ok (.iconst 1, 1) := by decide +kernel
theorem dX1_init_127 : decode cX1_init 127 = .ok (.iconst 2, 1) := by decide +kernel
theorem dX1_init_128 : decode cX1_init 128 = .ok (.iastore, 1) := by decide +kernel
theorem dX1_init_129 : decode cX1_init 129 = .ok (.aload_n 0, 1) := by decide +kernel
theorem dX1_init_130 : decode cX1_init 130 = .ok (.getfield 33, 3) := by decide +kernel
theorem dX1_init_133 : decode cX1_init 133 = .ok (.iconst 2, 1) := by decide +kernel
theorem dX1_init_134 : decode cX1_init 134 = .ok (.bipush 15, 2) := by decide +kernel
theorem dX1_init_136 : decode cX1_init 136 = .ok (.iastore, 1) := by decide +kernel
theorem dX1_init_137 : decode cX1_init 137 = .ok (.return_, 1) := by decide +kernel
theorem dX1_copyFrom_0 : decode cX1_copyFrom 0 = .ok (.iconst 0, 1) := by decide +kernel
theorem dX1_copyFrom_1 : decode cX1_copyFrom 1 = .ok (.istore_n 2, 1) := by decide +kernel
theorem dX1_copyFrom_2 : decode cX1_copyFrom 2 = .ok (.iload_n 2, 1) := by decide +kernel
theorem dX1_copyFrom_3 : decode cX1_copyFrom 3 = .ok (.bipush 12, 2) := by decide +kernel
theorem dX1_copyFrom_5 : decode cX1_copyFrom 5 = .ok (.if_icmp .ge 24, 3) := by decide +kernel
theorem dX1_copyFrom_8 : decode cX1_copyFrom 8 = .ok (.aload_n 0, 1) := by decide +kernel
theorem dX1_copyFrom_9 : decode cX1_copyFrom 9 = .ok (.getfield 11, 3) := by decide +kernel
theorem dX1_copyFrom_12 : decode cX1_copyFrom 12 = .ok (.iload_n 2, 1) := by decide +kernel
theorem dX1_copyFrom_13 : decode cX1_copyFrom 13 = .ok (.aaload, 1) := by decide +kernel
theorem dX1_copyFrom_14 : decode cX1_copyFrom 14 = .ok (.aload_n 1, 1) := by decide +kernel
theorem dX1_copyFrom_15 : decode cX1_copyFrom 15 = .ok (.getfield 11, 3) := by decide +kernel
theorem dX1_copyFrom_18 : decode cX1_copyFrom 18 = .ok (.iload_n 2, 1) := by decide +kernel
theorem dX1_copyFrom_19 : decode cX1_copyFrom 19 = .ok (.aaload, 1) := by decide +kernel
theorem dX1_copyFrom_20 : decode cX1_copyFrom 20 = .ok (.invokevirtual 44, 3) := by decide +kernel
theorem dX1_copyFrom_23 : decode cX1_copyFrom 23 = .ok (.iinc 2 1, 3) := by decide +kernel
theorem dX1_copyFrom_26 : decode cX1_copyFrom 26 = .ok (.goto (-24), 3) := by decide +kernel
theorem dX1_copyFrom_29 : decode cX1_copyFrom 29 = .ok (.iconst 0, 1) := by decide +kernel
theorem dX1_copyFrom_30 : decode cX1_copyFrom 30 = .ok (.istore_n 2, 1) := by decide +kernel
theorem dX1_copyFrom_31 : decode cX1_copyFrom 31 = .ok (.iload_n 2, 1) := by decide +kernel
theorem dX1_copyFrom_32 : decode cX1_copyFrom 32 = .ok (.bipush 10, 2) := by decide +kernel
theorem dX1_copyFrom_34 : decode cX1_copyFrom 34 = .ok (.if_icmp .ge 24, 3) := by decide +kernel
theorem dX1_copyFrom_37 : decode cX1_copyFrom 37 = .ok (.aload_n 0, 1) := by decide +kernel
theorem dX1_copyFrom_38 : decode cX1_copyFrom 38 = .ok (.getfield 19, 3) := by decide +kernel
theorem dX1_copyFrom_41 : decode cX1_copyFrom 41 = .ok (.iload_n 2, 1) := by decide +kernel
theorem dX1_copyFrom_42 : decode cX1_copyFrom 42 = .ok (.aaload, 1) := by decide +kernel
theorem dX1_copyFrom_43 : decode cX1_copyFrom 43 = .ok (.aload_n 1, 1) := by decide +kernel
theorem dX1_copyFrom_44 : decode cX1_copyFrom 44 = .ok (.getfield 19, 3) := by decide +kernel
theorem dX1_copyFrom_47 : decode cX1_copyFrom 47 = .ok (.iload_n 2, 1) := by decide +kernel
theorem dX1_copyFrom_48 : decode cX1_copyFrom 48 = .ok (.aaload, 1) := by decide +kernel
theorem dX1_copyFrom_49 : decode cX1_copyFrom 49 = .ok (.invokevirtual 48, 3) := by decide +kernel
theorem dX1_copyFrom_52 : decode cX1_copyFrom 52 = .ok (.iinc 2 1, 3) := by decide +kernel
theorem dX1_copyFrom_55 : decode cX1_copyFrom 55 = .ok (.goto (-24), 3) := by decide +kernel
theorem dX1_copyFrom_58 : decode cX1_copyFrom 58 = .ok (.iconst 0, 1) := by decide +kernel
theorem dX1_copyFrom_59 : decode cX1_copyFrom 59 = .ok (.istore_n 2, 1) := by decide +kernel
theorem dX1_copyFrom_60 : decode cX1_copyFrom 60 = .ok (.iload_n 2, 1) := by decide +kernel
theorem dX1_copyFrom_61 : decode cX1_copyFrom 61 = .ok (.iconst 3, 1) := by decide +kernel
theorem dX1_copyFrom_62 : decode cX1_copyFrom 62 = .ok (.if_icmp .ge 21, 3) := by decide +kernel
theorem dX1_copyFrom_65 : decode cX1_copyFrom 65 = .ok (.aload_n 0, 1) := by decide +kernel
theorem dX1_copyFrom_66 : decode cX1_copyFrom 66 = .ok (.getfield 33, 3) := by decide +kernel
theorem dX1_copyFrom_69 : decode cX1_copyFrom 69 = .ok (.iload_n 2, 1) := by decide +kernel
theorem dX1_copyFrom_70 : decode cX1_copyFrom 70 = .ok (.aload_n 1, 1) := by decide +kernel
theorem dX1_copyFrom_71 : decode cX1_copyFrom 71 = .ok (.getfield 33, 3) := by decide +kernel
theorem dX1_copyFrom_74 : decode cX1_copyFrom 74 = .ok (.iload_n 2, 1) := by decide +kernel
theorem dX1_copyFrom_75 : decode cX1_copyFrom 75 = .ok (.iaload, 1) := by decide +kernel
theorem dX1_copyFrom_76 : decode cX1_copyFrom 76 = .ok (.iastore, 1) := by decide +kernel
theorem dX1_copyFrom_77 : decode cX1_copyFrom 77 = .ok (.iinc 2 1, 3) := by decide +kernel
theorem dX1_copyFrom_80 : decode cX1_copyFrom 80 = .ok (.goto (-20), 3) := by decide +kernel
theorem dX1_copyFrom_83 : decode cX1_copyFrom 83 = .ok (.aload_n 0, 1) := by decide +kernel
theorem dX1_copyFrom_84 : decode cX1_copyFrom 84 = .ok (.getfield 26, 3) := by decide +kernel
theorem dX1_copyFrom_87 : decode cX1_copyFrom 87 = .ok (.aload_n 1, 1) := by decide +kernel
theorem dX1_copyFrom_88 : decode cX1_copyFrom 88 = .ok (.getfield 26, 3) := by decide +kernel
theorem dX1_copyFrom_91 : decode cX1_copyFrom 91 = .ok (.invokevirtual 51, 3) := by decide +kernel
theorem dX1_copyFrom_94 : decode cX1_copyFrom 94 = .ok (.aload_n 0, 1) := by decide +kernel
theorem dX1_copyFrom_95 : decode cX1_copyFrom 95 = .ok (.getfield 30, 3) := by decide +kernel
theorem dX1_copyFrom_98 : decode cX1_copyFrom 98 = .ok (.aload_n 1, 1) := by decide +kernel
theorem dX1_copyFrom_99 : decode cX1_copyFrom 99 = .ok (.getfield 30, 3) := by decide +kernel
theorem dX1_copyFrom_102 : decode cX1_copyFrom 102 = .ok (.invokevirtual 51, 3) := by decide +kernel
theorem dX1_copyFrom_105 : decode cX1_copyFrom 105 = .ok (.aload_n 0, 1) := by decide +kernel
theorem dX1_copyFrom_106 : decode cX1_copyFrom 106 = .ok (.aload_n 1, 1) := by decide +kernel
theorem dX1_copyFrom_107 : decode cX1_copyFrom 107 = .ok (.getfield 54, 3) := by decide +kernel
theorem dX1_copyFrom_110 : decode cX1_copyFrom 110 = .ok (.putfield 54, 3) := by decide +kernel
theorem dX1_copyFrom_113 : decode cX1_copyFrom 113 = .ok (.aload_n 0, 1) := by decide +kernel
theorem dX1_copyFrom_114 : decode cX1_copyFrom 114 = .ok (.aload_n 1, 1) := by decide +kernel
theorem dX1_copyFrom_115 : decode cX1_copyFrom 115 = .ok (.getfield 58, 3) := by decide +kernel
theorem dX1_copyFrom_118 : decode cX1_copyFrom 118 = .ok (.putfield 58, 3) := by decide +kernel
theorem dX1_copyFrom_121 : decode cX1_copyFrom 121 = .ok (.aload_n 0, 1) := by decide +kernel
theorem dX1_copyFrom_122 : decode cX1_copyFrom 122 = .ok (.aload_n 1, 1) := by decide +kernel
theorem dX1_copyFrom_123 : decode cX1_copyFrom 123 = .ok (.getfield 61, 3) := by decide +kernel
theorem dX1_copyFrom_126 : decode cX1_copyFrom 126 = .ok (.putfield 61, 3) := by decide +kernel
theorem dX1_copyFrom_129 : decode cX1_copyFrom 129 = .ok (.aload_n 0, 1) := by decide +kernel
theorem dX1_copyFrom_130 : decode cX1_copyFrom 130 = .ok (.aload_n 1, 1) := by decide +kernel
theorem dX1_copyFrom_131 : decode cX1_copyFrom 131 = .ok (.getfield 64, 3) := by decide +kernel
theorem dX1_copyFrom_134 : decode cX1_copyFrom 134 = .ok (.putfield 64, 3) := by decide +kernel
theorem dX1_copyFrom_137 : decode cX1_copyFrom 137 = .ok (.return_, 1) := by decide +kernel
theorem dX1_lockerAt_0 : decode cX1_lockerAt 0 = .ok (.iload_n 1, 1) := by decide +kernel
theorem dX1_lockerAt_1 : decode cX1_lockerAt 1 = .ok (.ifCond .lt 26, 3) := by decide +kernel
theorem dX1_lockerAt_4 : decode cX1_lockerAt 4 = .ok (.iload_n 1, 1) := by decide +kernel
theorem dX1_lockerAt_5 : decode cX1_lockerAt 5 = .ok (.aload_n 0, 1) := by decide +kernel
theorem dX1_lockerAt_6 : decode cX1_lockerAt 6 = .ok (.getfield 54, 3) := by decide +kernel
theorem dX1_lockerAt_9 : decode cX1_lockerAt 9 = .ok (.if_icmp .ge 18, 3) := by decide +kernel
theorem dX1_lockerAt_12 : decode cX1_lockerAt 12 = .ok (.iload_n 1, 1) := by decide +kernel
theorem dX1_lockerAt_13 : decode cX1_lockerAt 13 = .ok (.bipush 12, 2) := by decide +kernel
theorem dX1_lockerAt_15 : decode cX1_lockerAt 15 = .ok (.if_icmp .ge 12, 3) := by decide +kernel
theorem dX1_lockerAt_18 : decode cX1_lockerAt 18 = .ok (.aload_n 0, 1) := by decide +kernel
theorem dX1_lockerAt_19 : decode cX1_lockerAt 19 = .ok (.getfield 11, 3) := by decide +kernel
theorem dX1_lockerAt_22 : decode cX1_lockerAt 22 = .ok (.iload_n 1, 1) := by decide +kernel
theorem dX1_lockerAt_23 : decode cX1_lockerAt 23 = .ok (.aaload, 1) := by decide +kernel
theorem dX1_lockerAt_24 : decode cX1_lockerAt 24 = .ok (.goto 4, 3) := by decide +kernel
theorem dX1_lockerAt_27 : decode cX1_lockerAt 27 = .ok (.aconst_null, 1) := by decide +kernel
theorem dX1_lockerAt_28 : decode cX1_lockerAt 28 = .ok (.areturn, 1) := by decide +kernel
theorem dX1_personAt_0 : decode cX1_personAt 0 = .ok (.iload_n 1, 1) := by decide +kernel
theorem dX1_personAt_1 : decode cX1_personAt 1 = .ok (.ifCond .lt 26, 3) := by decide +kernel
theorem dX1_personAt_4 : decode cX1_personAt 4 = .ok (.iload_n 1, 1) := by decide +kernel
theorem dX1_personAt_5 : decode cX1_personAt 5 = .ok (.aload_n 0, 1) := by decide +kernel
theorem dX1_personAt_6 : decode cX1_personAt 6 = .ok (.getfield 58, 3) := by decide +kernel
theorem dX1_personAt_9 : decode cX1_personAt 9 = .ok (.if_icmp .ge 18, 3) := by decide +kernel
theorem dX1_personAt_12 : decode cX1_personAt 12 = .ok (.iload_n 1, 1) := by decide +kernel
theorem dX1_personAt_13 : decode cX1_personAt 13 = .ok (.bipush 10, 2) := by decide +kernel
theorem dX1_personAt_15 : decode cX1_personAt 15 = .ok (.if_icmp .ge 12, 3) := by decide +kernel
theorem dX1_personAt_18 : decode cX1_personAt 18 = .ok (.aload_n 0, 1) := by decide +kernel
theorem dX1_personAt_19 : decode cX1_personAt 19 = .ok (.getfield 19, 3) := by decide +kernel
theorem dX1_personAt_22 : decode cX1_personAt 22 = .ok (.iload_n 1, 1) := by decide +kernel
theorem dX1_personAt_23 : decode cX1_personAt 23 = .ok (.aaload, 1) := by decide +kernel
theorem dX1_personAt_24 : decode cX1_personAt 24 = .ok (.goto 4, 3) := by decide +kernel
theorem dX1_personAt_27 : decode cX1_personAt 27 = .ok (.aconst_null, 1) := by decide +kernel
theorem dX1_personAt_28 : decode cX1_personAt 28 = .ok (.areturn, 1) := by decide +kernel
theorem dX1_lockerOfPerson_0 : decode cX1_lockerOfPerson 0 = .ok (.aload_n 0, 1) := by decide +kernel
theorem dX1_lockerOfPerson_1 : decode cX1_lockerOfPerson 1 = .ok (.iload_n 1, 1) := by decide +kernel
theorem dX1_lockerOfPerson_2 : decode cX1_lockerOfPerson 2 = .ok (.invokevirtual 67, 3) := by decide +kernel
theorem dX1_lockerOfPerson_5 : decode cX1_lockerOfPerson 5 = .ok (.astore_n 2, 1) := by decide +kernel
theorem dX1_lockerOfPerson_6 : decode cX1_lockerOfPerson 6 = .ok (.aload_n 2, 1) := by decide +kernel
theorem dX1_lockerOfPerson_7 : decode cX1_lockerOfPerson 7 = .ok (.ifnonnull 7, 3) := by decide +kernel
theorem dX1_lockerOfPerson_10 : decode cX1_lockerOfPerson 10 = .ok (.aconst_null, 1) := by decide +kernel
theorem dX1_lockerOfPerson_11 : decode cX1_lockerOfPerson 11 = .ok (.goto 11, 3) := by decide +kernel
theorem dX1_lockerOfPerson_14 : decode cX1_lockerOfPerson 14 = .ok (.aload_n 0, 1) := by decide +kernel
theorem dX1_lockerOfPerson_15 : decode cX1_lockerOfPerson 15 = .ok (.aload_n 2, 1) := by decide +kernel
theorem dX1_lockerOfPerson_16 : decode cX1_lockerOfPerson 16 = .ok (.getfield 71, 3) := by decide +kernel
theorem dX1_lockerOfPerson_19 : decode cX1_lockerOfPerson 19 = .ok (.invokevirtual 74, 3) := by decide +kernel
theorem dX1_lockerOfPerson_22 : decode cX1_lockerOfPerson 22 = .ok (.areturn, 1) := by decide +kernel
theorem dX1_addLocker_0 : decode cX1_addLocker 0 = .ok (.iload_n 1, 1) := by decide +kernel
theorem dX1_addLocker_1 : decode cX1_addLocker 1 = .ok (.ifCond .lt 8, 3) := by decide +kernel
theorem dX1_addLocker_4 : decode cX1_addLocker 4 = .ok (.iload_n 1, 1) := by decide +kernel
theorem dX1_addLocker_5 : decode cX1_addLocker 5 = .ok (.iconst 2, 1) := by decide +kernel
theorem dX1_addLocker_6 : decode cX1_addLocker 6 = .ok (.if_icmp .le 5, 3) := by decide +kernel
theorem dX1_addLocker_9 : decode cX1_addLocker 9 = .ok (.iconst (-1), 1) := by decide +kernel
theorem dX1_addLocker_10 : decode cX1_addLocker 10 = .ok (.ireturn, 1) := by decide +kernel
theorem dX1_addLocker_11 : decode cX1_addLocker 11 = .ok (.aload_n 0, 1) := by decide +kernel
theorem dX1_addLocker_12 : decode cX1_addLocker 12 = .ok (.getfield 54, 3) := by decide +kernel
theorem dX1_addLocker_15 : decode cX1_addLocker 15 = .ok (.bipush 12, 2) := by decide +kernel
theorem dX1_addLocker_17 : decode cX1_addLocker 17 = .ok (.if_icmp .lt 6, 3) := by decide +kernel
theorem dX1_addLocker_20 : decode cX1_addLocker 20 = .ok (.bipush (-3), 2) := by decide +kernel
theorem dX1_addLocker_22 : decode cX1_addLocker 22 = .ok (.ireturn, 1) := by decide +kernel
theorem dX1_addLocker_23 : decode cX1_addLocker 23 = .ok (.aload_n 0, 1) := by decide +kernel
theorem dX1_addLocker_24 : decode cX1_addLocker 24 = .ok (.getfield 11, 3) := by decide +kernel
theorem dX1_addLocker_27 : decode cX1_addLocker 27 = .ok (.aload_n 0, 1) := by decide +kernel
theorem dX1_addLocker_28 : decode cX1_addLocker 28 = .ok (.getfield 54, 3) := by decide +kernel
theorem dX1_addLocker_31 : decode cX1_addLocker 31 = .ok (.aaload, 1) := by decide +kernel
theorem dX1_addLocker_32 : decode cX1_addLocker 32 = .ok (.iload_n 1, 1) := by decide +kernel
theorem dX1_addLocker_33 : decode cX1_addLocker 33 = .ok (.putfield 78, 3) := by decide +kernel
theorem dX1_addLocker_36 : decode cX1_addLocker 36 = .ok (.aload_n 0, 1) := by decide +kernel
theorem dX1_addLocker_37 : decode cX1_addLocker 37 = .ok (.dup, 1) := by decide +kernel
theorem dX1_addLocker_38 : decode cX1_addLocker 38 = .ok (.getfield 54, 3) := by decide +kernel
theorem dX1_addLocker_41 : decode cX1_addLocker 41 = .ok (.iconst 1, 1) := by decide +kernel
theorem dX1_addLocker_42 : decode cX1_addLocker 42 = .ok (.iadd, 1) := by decide +kernel
theorem dX1_addLocker_43 : decode cX1_addLocker 43 = .ok (.putfield 54, 3) := by decide +kernel
theorem dX1_addLocker_46 : decode cX1_addLocker 46 = .ok (.aload_n 0, 1) := by decide +kernel
theorem dX1_addLocker_47 : decode cX1_addLocker 47 = .ok (.getfield 54, 3) := by decide +kernel
theorem dX1_addLocker_50 : decode cX1_addLocker 50 = .ok (.iconst 1, 1) := by decide +kernel
theorem dX1_addLocker_51 : decode cX1_addLocker 51 = .ok (.isub, 1) := by decide +kernel
theorem dX1_addLocker_52 : decode cX1_addLocker 52 = .ok (.ireturn, 1) := by decide +kernel
theorem dX1_addPerson_0 : decode cX1_addPerson 0 = .ok (.aload_n 0, 1) := by decide +kernel
theorem dX1_addPerson_1 : decode cX1_addPerson 1 = .ok (.getfield 58, 3) := by decide +kernel
theorem dX1_addPerson_4 : decode cX1_addPerson 4 = .ok (.bipush 10, 2) := by decide +kernel
theorem dX1_addPerson_6 : decode cX1_addPerson 6 = .ok (.if_icmp .lt 6, 3) := by decide +kernel
theorem dX1_addPerson_9 : decode cX1_addPerson 9 = .ok (.bipush (-3), 2) := by decide +kernel
theorem dX1_addPerson_11 : decode cX1_addPerson 11 = .ok (.ireturn, 1) := by decide +kernel
theorem dX1_addPerson_12 : decode cX1_addPerson 12 = .ok (.aload_n 0, 1) := by decide +kernel
theorem dX1_addPerson_13 : decode cX1_addPerson 13 = .ok (.dup, 1) := by decide +kernel
theorem dX1_addPerson_14 : decode cX1_addPerson 14 = .ok (.getfield 58, 3) := by decide +kernel
theorem dX1_addPerson_17 : decode cX1_addPerson 17 = .ok (.iconst 1, 1) := by decide +kernel
theorem dX1_addPerson_18 : decode cX1_addPerson 18 = .ok (.iadd, 1) := by decide +kernel
theorem dX1_addPerson_19 : decode cX1_addPerson 19 = .ok (.putfield 58, 3) := by decide +kernel
theorem dX1_addPerson_22 : decode cX1_addPerson 22 = .ok (.aload_n 0, 1) := by decide +kernel
theorem dX1_addPerson_23 : decode cX1_addPerson 23 = .ok (.getfield 58, 3) := by decide +kernel
theorem dX1_addPerson_26 : decode cX1_addPerson 26 = .ok (.iconst 1, 1) := by decide +kernel
theorem dX1_addPerson_27 : decode cX1_addPerson 27 = .ok (.isub, 1) := by decide +kernel
theorem dX1_addPerson_28 : decode cX1_addPerson 28 = .ok (.ireturn, 1) := by decide +kernel
theorem dX1_putIntoRow_0 : decode cX1_putIntoRow 0 = .ok (.aload_n 0, 1) := by decide +kernel
theorem dX1_putIntoRow_1 : decode cX1_putIntoRow 1 = .ok (.iload_n 1, 1) := by decide +kernel
theorem dX1_putIntoRow_2 : decode cX1_putIntoRow 2 = .ok (.invokevirtual 74, 3) := by decide +kernel
theorem dX1_putIntoRow_5 : decode cX1_putIntoRow 5 = .ok (.astore_n 3, 1) := by decide +kernel
theorem dX1_putIntoRow_6 : decode cX1_putIntoRow 6 = .ok (.aload_n 3, 1) := by decide +kernel
theorem dX1_putIntoRow_7 : decode cX1_putIntoRow 7 = .ok (.ifnull 12, 3) := by decide +kernel
theorem dX1_putIntoRow_10 : decode cX1_putIntoRow 10 = .ok (.iload_n 2, 1) := by decide +kernel
theorem dX1_putIntoRow_11 : decode cX1_putIntoRow 11 = .ok (.ifCond .lt 8, 3) := by decide +kernel
theorem dX1_putIntoRow_14 : decode cX1_putIntoRow 14 = .ok (.iload_n 2, 1) := by decide +kernel
theorem dX1_putIntoRow_15 : decode cX1_putIntoRow 15 = .ok (.iconst 2, 1) := by decide +kernel
theorem dX1_putIntoRow_16 : decode cX1_putIntoRow 16 = .ok (.if_icmp .le 5, 3) := by decide +kernel
theorem dX1_putIntoRow_19 : decode cX1_putIntoRow 19 = .ok (.iconst (-1), 1) := by decide +kernel
theorem dX1_putIntoRow_20 : decode cX1_putIntoRow 20 = .ok (.ireturn, 1) := by decide +kernel
theorem dX1_putIntoRow_21 : decode cX1_putIntoRow 21 = .ok (.aload_n 3, 1) := by decide +kernel
theorem dX1_putIntoRow_22 : decode cX1_putIntoRow 22 = .ok (.getfield 81, 3) := by decide +kernel
theorem dX1_putIntoRow_25 : decode cX1_putIntoRow 25 = .ok (.ifCond .ne 11, 3) := by decide +kernel
theorem dX1_putIntoRow_28 : decode cX1_putIntoRow 28 = .ok (.aload_n 3, 1) := by decide +kernel
theorem dX1_putIntoRow_29 : decode cX1_putIntoRow 29 = .ok (.getfield 78, 3) := by decide +kernel
theorem dX1_putIntoRow_32 : decode cX1_putIntoRow 32 = .ok (.iload_n 2, 1) := by decide +kernel
theorem dX1_putIntoRow_33 : decode cX1_putIntoRow 33 = .ok (.if_icmp .eq 6, 3) := by decide +kernel
theorem dX1_putIntoRow_36 : decode cX1_putIntoRow 36 = .ok (.bipush (-2), 2) := by decide +kernel
theorem dX1_putIntoRow_38 : decode cX1_putIntoRow 38 = .ok (.ireturn, 1) := by decide +kernel
theorem dX1_putIntoRow_39 : decode cX1_putIntoRow 39 = .ok (.aload_n 0, 1) := by decide +kernel
theorem dX1_putIntoRow_40 : decode cX1_putIntoRow 40 = .ok (.iload_n 2, 1) := by decide +kernel
theorem dX1_putIntoRow_41 : decode cX1_putIntoRow 41 = .ok (.invokevirtual 85, 3) := by decide +kernel
theorem dX1_putIntoRow_44 : decode cX1_putIntoRow 44 = .ok (.istore 4, 2) := by decide +kernel
theorem dX1_putIntoRow_46 : decode cX1_putIntoRow 46 = .ok (.iload 4, 2) := by decide +kernel
theorem dX1_putIntoRow_48 : decode cX1_putIntoRow 48 = .ok (.iconst 4, 1) := by decide +kernel
theorem dX1_putIntoRow_49 : decode cX1_putIntoRow 49 = .ok (.if_icmp .lt 6, 3) := by decide +kernel
theorem dX1_putIntoRow_52 : decode cX1_putIntoRow 52 = .ok (.bipush (-3), 2) := by decide +kernel
theorem dX1_putIntoRow_54 : decode cX1_putIntoRow 54 = .ok (.ireturn, 1) := by decide +kernel
theorem dX1_putIntoRow_55 : decode cX1_putIntoRow 55 = .ok (.aload_n 3, 1) := by decide +kernel
theorem dX1_putIntoRow_56 : decode cX1_putIntoRow 56 = .ok (.iconst 1, 1) := by decide +kernel
theorem dX1_putIntoRow_57 : decode cX1_putIntoRow 57 = .ok (.putfield 81, 3) := by decide +kernel
theorem dX1_putIntoRow_60 : decode cX1_putIntoRow 60 = .ok (.aload_n 0, 1) := by decide +kernel
theorem dX1_putIntoRow_61 : decode cX1_putIntoRow 61 = .ok (.aload_n 3, 1) := by decide +kernel
theorem dX1_putIntoRow_62 : decode cX1_putIntoRow 62 = .ok (.invokevirtual 89, 3) := by decide +kernel
theorem dX1_putIntoRow_65 : decode cX1_putIntoRow 65 = .ok (.iload 4, 2) := by decide +kernel
theorem dX1_putIntoRow_67 : decode cX1_putIntoRow 67 = .ok (.iconst 1, 1) := by decide +kernel
theorem dX1_putIntoRow_68 : decode cX1_putIntoRow 68 = .ok (.iadd, 1) := by decide +kernel
theorem dX1_putIntoRow_69 : decode cX1_putIntoRow 69 = .ok (.ireturn, 1) := by decide +kernel
theorem dX1_lendTo_0 : decode cX1_lendTo 0 = .ok (.aload_n 0, 1) := by decide +kernel
theorem dX1_lendTo_1 : decode cX1_lendTo 1 = .ok (.iload_n 1, 1) := by decide +kernel
theorem dX1_lendTo_2 : decode cX1_lendTo 2 = .ok (.invokevirtual 67, 3) := by decide +kernel
theorem dX1_lendTo_5 : decode cX1_lendTo 5 = .ok (.astore_n 3, 1) := by decide +kernel
theorem dX1_lendTo_6 : decode cX1_lendTo 6 = .ok (.aload_n 3, 1) := by decide +kernel
theorem dX1_lendTo_7 : decode cX1_lendTo 7 = .ok (.ifnull 12, 3) := by decide +kernel
theorem dX1_lendTo_10 : decode cX1_lendTo 10 = .ok (.iload_n 2, 1) := by decide +kernel
theorem dX1_lendTo_11 : decode cX1_lendTo 11 = .ok (.ifCond .lt 8, 3) := by decide +kernel
theorem dX1_lendTo_14 : decode cX1_lendTo 14 = .ok (.iload_n 2, 1) := by decide +kernel
theorem dX1_lendTo_15 : decode cX1_lendTo 15 = .ok (.iconst 3, 1) := by decide +kernel
theorem dX1_lendTo_16 : decode cX1_lendTo 16 = .ok (.if_icmp .le 5, 3) := by decide +kernel
theorem dX1_lendTo_19 : decode cX1_lendTo 19 = .ok (.iconst (-1), 1) := by decide +kernel
theorem dX1_lendTo_20 : decode cX1_lendTo 20 = .ok (.ireturn, 1) := by decide +kernel
theorem dX1_lendTo_21 : decode cX1_lendTo 21 = .ok (.aload_n 3, 1) := by decide +kernel
theorem dX1_lendTo_22 : decode cX1_lendTo 22 = .ok (.getfield 71, 3) := by decide +kernel
theorem dX1_lendTo_25 : decode cX1_lendTo 25 = .ok (.iconst (-1), 1) := by decide +kernel
theorem dX1_lendTo_26 : decode cX1_lendTo 26 = .ok (.if_icmp .ne 24, 3) := by decide +kernel
theorem dX1_lendTo_29 : decode cX1_lendTo 29 = .ok (.aload_n 0, 1) := by decide +kernel
theorem dX1_lendTo_30 : decode cX1_lendTo 30 = .ok (.getfield 26, 3) := by decide +kernel
theorem dX1_lendTo_33 : decode cX1_lendTo 33 = .ok (.iload_n 1, 1) := by decide +kernel
theorem dX1_lendTo_34 : decode cX1_lendTo 34 = .ok (.invokevirtual 92, 3) := by decide +kernel
theorem dX1_lendTo_37 : decode cX1_lendTo 37 = .ok (.iconst (-1), 1) := by decide +kernel
theorem dX1_lendTo_38 : decode cX1_lendTo 38 = .ok (.if_icmp .ne 12, 3) := by decide +kernel
theorem dX1_lendTo_41 : decode cX1_lendTo 41 = .ok (.aload_n 3, 1) := by decide +kernel
theorem dX1_lendTo_42 : decode cX1_lendTo 42 = .ok (.getfield 95, 3) := by decide +kernel
theorem dX1_lendTo_45 : decode cX1_lendTo 45 = .ok (.bipush 30, 2) := by decide +kernel
theorem dX1_lendTo_47 : decode cX1_lendTo 47 = .ok (.if_icmp .le 6, 3) := by decide +kernel
theorem dX1_lendTo_50 : decode cX1_lendTo 50 = .ok (.bipush (-2), 2) := by decide +kernel
theorem dX1_lendTo_52 : decode cX1_lendTo 52 = .ok (.ireturn, 1) := by decide +kernel
theorem dX1_lendTo_53 : decode cX1_lendTo 53 = .ok (.aload_n 0, 1) := by decide +kernel
theorem dX1_lendTo_54 : decode cX1_lendTo 54 = .ok (.iload_n 2, 1) := by decide +kernel
theorem dX1_lendTo_55 : decode cX1_lendTo 55 = .ok (.invokevirtual 98, 3) := by decide +kernel
theorem dX1_lendTo_58 : decode cX1_lendTo 58 = .ok (.astore 4, 2) := by decide +kernel
theorem dX1_lendTo_60 : decode cX1_lendTo 60 = .ok (.aload 4, 2) := by decide +kernel
theorem dX1_lendTo_62 : decode cX1_lendTo 62 = .ok (.ifnonnull 23, 3) := by decide +kernel
theorem dX1_lendTo_65 : decode cX1_lendTo 65 = .ok (.aload_n 0, 1) := by decide +kernel
theorem dX1_lendTo_66 : decode cX1_lendTo 66 = .ok (.getfield 26, 3) := by decide +kernel
theorem dX1_lendTo_69 : decode cX1_lendTo 69 = .ok (.iload_n 1, 1) := by decide +kernel
theorem dX1_lendTo_70 : decode cX1_lendTo 70 = .ok (.iload_n 2, 1) := by decide +kernel
theorem dX1_lendTo_71 : decode cX1_lendTo 71 = .ok (.invokevirtual 101, 3) := by decide +kernel
theorem dX1_lendTo_74 : decode cX1_lendTo 74 = .ok (.bipush 100, 2) := by decide +kernel
theorem dX1_lendTo_76 : decode cX1_lendTo 76 = .ok (.aload_n 0, 1) := by decide +kernel
theorem dX1_lendTo_77 : decode cX1_lendTo 77 = .ok (.getfield 26, 3) := by decide +kernel
theorem dX1_lendTo_80 : decode cX1_lendTo 80 = .ok (.getfield 105, 3) := by decide +kernel
theorem dX1_lendTo_83 : decode cX1_lendTo 83 = .ok (.iadd, 1) := by decide +kernel
theorem dX1_lendTo_84 : decode cX1_lendTo 84 = .ok (.ireturn, 1) := by decide +kernel
theorem dX1_lendTo_85 : decode cX1_lendTo 85 = .ok (.aload_n 0, 1) := by decide +kernel
theorem dX1_lendTo_86 : decode cX1_lendTo 86 = .ok (.aload_n 3, 1) := by decide +kernel
theorem dX1_lendTo_87 : decode cX1_lendTo 87 = .ok (.aload 4, 2) := by decide +kernel
theorem dX1_lendTo_89 : decode cX1_lendTo 89 = .ok (.invokevirtual 108, 3) := by decide +kernel
theorem dX1_lendTo_92 : decode cX1_lendTo 92 = .ok (.aload 4, 2) := by decide +kernel
theorem dX1_lendTo_94 : decode cX1_lendTo 94 = .ok (.getfield 112, 3) := by decide +kernel
theorem dX1_lendTo_97 : decode cX1_lendTo 97 = .ok (.ireturn, 1) := by decide +kernel
theorem dX1_takeBack_0 : decode cX1_takeBack 0 = .ok (.aload_n 0, 1) := by decide +kernel
theorem dX1_takeBack_1 : decode cX1_takeBack 1 = .ok (.iload_n 1, 1) := by decide +kernel
theorem dX1_takeBack_2 : decode cX1_takeBack 2 = .ok (.invokevirtual 67, 3) := by decide +kernel
theorem dX1_takeBack_5 : decode cX1_takeBack 5 = .ok (.astore_n 2, 1) := by decide +kernel
theorem dX1_takeBack_6 : decode cX1_takeBack 6 = .ok (.aload_n 2, 1) := by decide +kernel
theorem dX1_takeBack_7 : decode cX1_takeBack 7 = .ok (.ifnonnull 5, 3) := by decide +kernel
theorem dX1_takeBack_10 : decode cX1_takeBack 10 = .ok (.iconst (-1), 1) := by decide +kernel
theorem dX1_takeBack_11 : decode cX1_takeBack 11 = .ok (.ireturn, 1) := by decide +kernel
theorem dX1_takeBack_12 : decode cX1_takeBack 12 = .ok (.aload_n 0, 1) := by decide +kernel
theorem dX1_takeBack_13 : decode cX1_takeBack 13 = .ok (.getfield 26, 3) := by decide +kernel
theorem dX1_takeBack_16 : decode cX1_takeBack 16 = .ok (.iload_n 1, 1) := by decide +kernel
theorem dX1_takeBack_17 : decode cX1_takeBack 17 = .ok (.invokevirtual 92, 3) := by decide +kernel
theorem dX1_takeBack_20 : decode cX1_takeBack 20 = .ok (.iconst (-1), 1) := by decide +kernel
theorem dX1_takeBack_21 : decode cX1_takeBack 21 = .ok (.if_icmp .eq 13, 3) := by decide +kernel
theorem dX1_takeBack_24 : decode cX1_takeBack 24 = .ok (.aload_n 0, 1) := by decide +kernel
theorem dX1_takeBack_25 : decode cX1_takeBack 25 = .ok (.getfield 26, 3) := by decide +kernel
theorem dX1_takeBack_28 : decode cX1_takeBack 28 = .ok (.iload_n 1, 1) := by decide +kernel
theorem dX1_takeBack_29 : decode cX1_takeBack 29 = .ok (.invokevirtual 115, 3) := by decide +kernel
theorem dX1_takeBack_32 : decode cX1_takeBack 32 = .ok (.iconst 0, 1) := by decide +kernel
theorem dX1_takeBack_33 : decode cX1_takeBack 33 = .ok (.ireturn, 1) := by decide +kernel
theorem dX1_takeBack_34 : decode cX1_takeBack 34 = .ok (.aload_n 0, 1) := by decide +kernel
theorem dX1_takeBack_35 : decode cX1_takeBack 35 = .ok (.aload_n 2, 1) := by decide +kernel
theorem dX1_takeBack_36 : decode cX1_takeBack 36 = .ok (.getfield 71, 3) := by decide +kernel
theorem dX1_takeBack_39 : decode cX1_takeBack 39 = .ok (.invokevirtual 74, 3) := by decide +kernel
theorem dX1_takeBack_42 : decode cX1_takeBack 42 = .ok (.astore_n 3, 1) := by decide +kernel
theorem dX1_takeBack_43 : decode cX1_takeBack 43 = .ok (.aload_n 3, 1) := by decide +kernel
theorem dX1_takeBack_44 : decode cX1_takeBack 44 = .ok (.ifnonnull 6, 3) := by decide +kernel
theorem dX1_takeBack_47 : decode cX1_takeBack 47 = .ok (.bipush (-2), 2) := by decide +kernel
theorem dX1_takeBack_49 : decode cX1_takeBack 49 = .ok (.ireturn, 1) := by decide +kernel
theorem dX1_takeBack_50 : decode cX1_takeBack 50 = .ok (.aload_n 2, 1) := by decide +kernel
theorem dX1_takeBack_51 : decode cX1_takeBack 51 = .ok (.aload_n 0, 1) := by decide +kernel
theorem dX1_takeBack_52 : decode cX1_takeBack 52 = .ok (.getfield 61, 3) := by decide +kernel
theorem dX1_takeBack_55 : decode cX1_takeBack 55 = .ok (.invokevirtual 118, 3) := by decide +kernel
theorem dX1_takeBack_58 : decode cX1_takeBack 58 = .ok (.istore 4, 2) := by decide +kernel
theorem dX1_takeBack_60 : decode cX1_takeBack 60 = .ok (.aload_n 0, 1) := by decide +kernel
theorem dX1_takeBack_61 : decode cX1_takeBack 61 = .ok (.aload_n 2, 1) := by decide +kernel
theorem dX1_takeBack_62 : decode cX1_takeBack 62 = .ok (.aload_n 3, 1) := by decide +kernel
theorem dX1_takeBack_63 : decode cX1_takeBack 63 = .ok (.invokevirtual 121, 3) := by decide +kernel
theorem dX1_takeBack_66 : decode cX1_takeBack 66 = .ok (.aload_n 0, 1) := by decide +kernel
theorem dX1_takeBack_67 : decode cX1_takeBack 67 = .ok (.aload_n 3, 1) := by decide +kernel
theorem dX1_takeBack_68 : decode cX1_takeBack 68 = .ok (.invokevirtual 89, 3) := by decide +kernel
theorem dX1_takeBack_71 : decode cX1_takeBack 71 = .ok (.iload 4, 2) := by decide +kernel
theorem dX1_takeBack_73 : decode cX1_takeBack 73 = .ok (.ireturn, 1) := by decide +kernel
theorem dX1_prolong_0 : decode cX1_prolong 0 = .ok (.aload_n 0, 1) := by decide +kernel
theorem dX1_prolong_1 : decode cX1_prolong 1 = .ok (.iload_n 1, 1) := by decide +kernel
theorem dX1_prolong_2 : decode cX1_prolong 2 = .ok (.invokevirtual 67, 3) := by decide +kernel
theorem dX1_prolong_5 : decode cX1_prolong 5 = .ok (.astore_n 2, 1) := by decide +kernel
theorem dX1_prolong_6 : decode cX1_prolong 6 = .ok (.aload_n 2, 1) := by decide +kernel
theorem dX1_prolong_7 : decode cX1_prolong 7 = .ok (.ifnonnull 5, 3) := by decide +kernel
theorem dX1_prolong_10 : decode cX1_prolong 10 = .ok (.iconst (-1), 1) := by decide +kernel
theorem dX1_prolong_11 : decode cX1_prolong 11 = .ok (.ireturn, 1) := by decide +kernel
theorem dX1_prolong_12 : decode cX1_prolong 12 = .ok (.aload_n 0, 1) := by decide +kernel
theorem dX1_prolong_13 : decode cX1_prolong 13 = .ok (.aload_n 2, 1) := by decide +kernel
theorem dX1_prolong_14 : decode cX1_prolong 14 = .ok (.getfield 71, 3) := by decide +kernel
theorem dX1_prolong_17 : decode cX1_prolong 17 = .ok (.invokevirtual 74, 3) := by decide +kernel
theorem dX1_prolong_20 : decode cX1_prolong 20 = .ok (.astore_n 3, 1) := by decide +kernel
theorem dX1_prolong_21 : decode cX1_prolong 21 = .ok (.aload_n 3, 1) := by decide +kernel
theorem dX1_prolong_22 : decode cX1_prolong 22 = .ok (.ifnull 29, 3) := by decide +kernel
theorem dX1_prolong_25 : decode cX1_prolong 25 = .ok (.aload_n 2, 1) := by decide +kernel
theorem dX1_prolong_26 : decode cX1_prolong 26 = .ok (.aload_n 0, 1) := by decide +kernel
theorem dX1_prolong_27 : decode cX1_prolong 27 = .ok (.getfield 61, 3) := by decide +kernel
theorem dX1_prolong_30 : decode cX1_prolong 30 = .ok (.invokevirtual 118, 3) := by decide +kernel
theorem dX1_prolong_33 : decode cX1_prolong 33 = .ok (.ifCond .gt 18, 3) := by decide +kernel
theorem dX1_prolong_36 : decode cX1_prolong 36 = .ok (.aload_n 0, 1) := by decide +kernel
theorem dX1_prolong_37 : decode cX1_prolong 37 = .ok (.getfield 26, 3) := by decide +kernel
theorem dX1_prolong_40 : decode cX1_prolong 40 = .ok (.aload_n 3, 1) := by decide +kernel
theorem dX1_prolong_41 : decode cX1_prolong 41 = .ok (.getfield 78, 3) := by decide +kernel
theorem dX1_prolong_44 : decode cX1_prolong 44 = .ok (.invokevirtual 124, 3) := by decide +kernel
theorem dX1_prolong_47 : decode cX1_prolong 47 = .ok (.iconst (-1), 1) := by decide +kernel
theorem dX1_prolong_48 : decode cX1_prolong 48 = .ok (.if_icmp .eq 6, 3) := by decide +kernel
theorem dX1_prolong_51 : decode cX1_prolong 51 = .ok (.bipush (-2), 2) := by decide +kernel
theorem dX1_prolong_53 : decode cX1_prolong 53 = .ok (.ireturn, 1) := by decide +kernel
theorem dX1_prolong_54 : decode cX1_prolong 54 = .ok (.aload_n 2, 1) := by decide +kernel
theorem dX1_prolong_55 : decode cX1_prolong 55 = .ok (.getfield 127, 3) := by decide +kernel
theorem dX1_prolong_58 : decode cX1_prolong 58 = .ok (.aload_n 0, 1) := by decide +kernel
theorem dX1_prolong_59 : decode cX1_prolong 59 = .ok (.getfield 33, 3) := by decide +kernel
theorem dX1_prolong_62 : decode cX1_prolong 62 = .ok (.iconst 1, 1) := by decide +kernel
theorem dX1_prolong_63 : decode cX1_prolong 63 = .ok (.iaload, 1) := by decide +kernel
theorem dX1_prolong_64 : decode cX1_prolong 64 = .ok (.if_icmp .lt 6, 3) := by decide +kernel
theorem dX1_prolong_67 : decode cX1_prolong 67 = .ok (.bipush (-3), 2) := by decide +kernel
theorem dX1_prolong_69 : decode cX1_prolong 69 = .ok (.ireturn, 1) := by decide +kernel
theorem dX1_prolong_70 : decode cX1_prolong 70 = .ok (.aload_n 2, 1) := by decide +kernel
theorem dX1_prolong_71 : decode cX1_prolong 71 = .ok (.dup, 1) := by decide +kernel
theorem dX1_prolong_72 : decode cX1_prolong 72 = .ok (.getfield 127, 3) := by decide +kernel
theorem dX1_prolong_75 : decode cX1_prolong 75 = .ok (.iconst 1, 1) := by decide +kernel
theorem dX1_prolong_76 : decode cX1_prolong 76 = .ok (.iadd, 1) := by decide +kernel
theorem dX1_prolong_77 : decode cX1_prolong 77 = .ok (.putfield 127, 3) := by decide +kernel
theorem dX1_prolong_80 : decode cX1_prolong 80 = .ok (.aload_n 2, 1) := by decide +kernel
theorem dX1_prolong_81 : decode cX1_prolong 81 = .ok (.dup, 1) := by decide +kernel
theorem dX1_prolong_82 : decode cX1_prolong 82 = .ok (.getfield 130, 3) := by decide +kernel
theorem dX1_prolong_85 : decode cX1_prolong 85 = .ok (.aload_n 0, 1) := by decide +kernel
theorem dX1_prolong_86 : decode cX1_prolong 86 = .ok (.getfield 33, 3) := by decide +kernel
theorem dX1_prolong_89 : decode cX1_prolong 89 = .ok (.iconst 0, 1) := by decide +kernel
theorem dX1_prolong_90 : decode cX1_prolong 90 = .ok (.iaload, 1) := by decide +kernel
theorem dX1_prolong_91 : decode cX1_prolong 91 = .ok (.iadd, 1) := by decide +kernel
theorem dX1_prolong_92 : decode cX1_prolong 92 = .ok (.putfield 130, 3) := by decide +kernel
theorem dX1_prolong_95 : decode cX1_prolong 95 = .ok (.aload_n 2, 1) := by decide +kernel
theorem dX1_prolong_96 : decode cX1_prolong 96 = .ok (.getfield 130, 3) := by decide +kernel
theorem dX1_prolong_99 : decode cX1_prolong 99 = .ok (.ireturn, 1) := by decide +kernel
theorem dX1_loseKey_0 : decode cX1_loseKey 0 = .ok (.aload_n 0, 1) := by decide +kernel
theorem dX1_loseKey_1 : decode cX1_loseKey 1 = .ok (.iload_n 1, 1) := by decide +kernel
theorem dX1_loseKey_2 : decode cX1_loseKey 2 = .ok (.invokevirtual 67, 3) := by decide +kernel
theorem dX1_loseKey_5 : decode cX1_loseKey 5 = .ok (.astore_n 2, 1) := by decide +kernel
theorem dX1_loseKey_6 : decode cX1_loseKey 6 = .ok (.aload_n 2, 1) := by decide +kernel
theorem dX1_loseKey_7 : decode cX1_loseKey 7 = .ok (.ifnonnull 5, 3) := by decide +kernel
theorem dX1_loseKey_10 : decode cX1_loseKey 10 = .ok (.iconst (-1), 1) := by decide +kernel
theorem dX1_loseKey_11 : decode cX1_loseKey 11 = .ok (.ireturn, 1) := by decide +kernel
theorem dX1_loseKey_12 : decode cX1_loseKey 12 = .ok (.aload_n 0, 1) := by decide +kernel
theorem dX1_loseKey_13 : decode cX1_loseKey 13 = .ok (.aload_n 2, 1) := by decide +kernel
theorem dX1_loseKey_14 : decode cX1_loseKey 14 = .ok (.getfield 71, 3) := by decide +kernel
theorem dX1_loseKey_17 : decode cX1_loseKey 17 = .ok (.invokevirtual 74, 3) := by decide +kernel
theorem dX1_loseKey_20 : decode cX1_loseKey 20 = .ok (.astore_n 3, 1) := by decide +kernel
theorem dX1_loseKey_21 : decode cX1_loseKey 21 = .ok (.aload_n 3, 1) := by decide +kernel
theorem dX1_loseKey_22 : decode cX1_loseKey 22 = .ok (.ifnonnull 6, 3) := by decide +kernel
theorem dX1_loseKey_25 : decode cX1_loseKey 25 = .ok (.bipush (-2), 2) := by decide +kernel
theorem dX1_loseKey_27 : decode cX1_loseKey 27 = .ok (.ireturn, 1) := by decide +kernel
theorem dX1_loseKey_28 : decode cX1_loseKey 28 = .ok (.aload_n 2, 1) := by decide +kernel
theorem dX1_loseKey_29 : decode cX1_loseKey 29 = .ok (.dup, 1) := by decide +kernel
theorem dX1_loseKey_30 : decode cX1_loseKey 30 = .ok (.getfield 133, 3) := by decide +kernel
theorem dX1_loseKey_33 : decode cX1_loseKey 33 = .ok (.iconst 1, 1) := by decide +kernel
theorem dX1_loseKey_34 : decode cX1_loseKey 34 = .ok (.iadd, 1) := by decide +kernel
theorem dX1_loseKey_35 : decode cX1_loseKey 35 = .ok (.putfield 133, 3) := by decide +kernel
theorem dX1_loseKey_38 : decode cX1_loseKey 38 = .ok (.aload_n 2, 1) := by decide +kernel
theorem dX1_loseKey_39 : decode cX1_loseKey 39 = .ok (.dup, 1) := by decide +kernel
theorem dX1_loseKey_40 : decode cX1_loseKey 40 = .ok (.getfield 95, 3) := by decide +kernel
theorem dX1_loseKey_43 : decode cX1_loseKey 43 = .ok (.iconst 5, 1) := by decide +kernel
theorem dX1_loseKey_44 : decode cX1_loseKey 44 = .ok (.iadd, 1) := by decide +kernel
theorem dX1_loseKey_45 : decode cX1_loseKey 45 = .ok (.putfield 95, 3) := by decide +kernel
theorem dX1_loseKey_48 : decode cX1_loseKey 48 = .ok (.aload_n 3, 1) := by decide +kernel
theorem dX1_loseKey_49 : decode cX1_loseKey 49 = .ok (.getfield 136, 3) := by decide +kernel
theorem dX1_loseKey_52 : decode cX1_loseKey 52 = .ok (.ifCond .eq 11, 3) := by decide +kernel
theorem dX1_loseKey_55 : decode cX1_loseKey 55 = .ok (.aload_n 3, 1) := by decide +kernel
theorem dX1_loseKey_56 : decode cX1_loseKey 56 = .ok (.iconst 0, 1) := by decide +kernel
theorem dX1_loseKey_57 : decode cX1_loseKey 57 = .ok (.putfield 136, 3) := by decide +kernel
theorem dX1_loseKey_60 : decode cX1_loseKey 60 = .ok (.goto 9, 3) := by decide +kernel
theorem dX1_loseKey_63 : decode cX1_loseKey 63 = .ok (.aload_n 0, 1) := by decide +kernel
theorem dX1_loseKey_64 : decode cX1_loseKey 64 = .ok (.aload_n 2, 1) := by decide +kernel
theorem dX1_loseKey_65 : decode cX1_loseKey 65 = .ok (.aload_n 3, 1) := by decide +kernel
theorem dX1_loseKey_66 : decode cX1_loseKey 66 = .ok (.invokevirtual 139, 3) := by decide +kernel
theorem dX1_loseKey_69 : decode cX1_loseKey 69 = .ok (.aload_n 2, 1) := by decide +kernel
theorem dX1_loseKey_70 : decode cX1_loseKey 70 = .ok (.getfield 95, 3) := by decide +kernel
theorem dX1_loseKey_73 : decode cX1_loseKey 73 = .ok (.ireturn, 1) := by decide +kernel
theorem dX1_changeLock_0 : decode cX1_changeLock 0 = .ok (.aload_n 1, 1) := by decide +kernel
theorem dX1_changeLock_1 : decode cX1_changeLock 1 = .ok (.dup, 1) := by decide +kernel
theorem dX1_changeLock_2 : decode cX1_changeLock 2 = .ok (.getfield 95, 3) := by decide +kernel
theorem dX1_changeLock_5 : decode cX1_changeLock 5 = .ok (.bipush 20, 2) := by decide +kernel
theorem dX1_changeLock_7 : decode cX1_changeLock 7 = .ok (.iadd, 1) := by decide +kernel
theorem dX1_changeLock_8 : decode cX1_changeLock 8 = .ok (.putfield 95, 3) := by decide +kernel
theorem dX1_changeLock_11 : decode cX1_changeLock 11 = .ok (.aload_n 0, 1) := by decide +kernel
theorem dX1_changeLock_12 : decode cX1_changeLock 12 = .ok (.aload_n 1, 1) := by decide +kernel
theorem dX1_changeLock_13 : decode cX1_changeLock 13 = .ok (.aload_n 2, 1) := by decide +kernel
theorem dX1_changeLock_14 : decode cX1_changeLock 14 = .ok (.invokevirtual 121, 3) := by decide +kernel
theorem dX1_changeLock_17 : decode cX1_changeLock 17 = .ok (.aload_n 2, 1) := by decide +kernel
theorem dX1_changeLock_18 : decode cX1_changeLock 18 = .ok (.iconst 1, 1) := by decide +kernel
theorem dX1_changeLock_19 : decode cX1_changeLock 19 = .ok (.putfield 136, 3) := by decide +kernel
theorem dX1_changeLock_22 : decode cX1_changeLock 22 = .ok (.aload_n 2, 1) := by decide +kernel
theorem dX1_changeLock_23 : decode cX1_changeLock 23 = .ok (.aload_n 0, 1) := by decide +kernel
theorem dX1_changeLock_24 : decode cX1_changeLock 24 = .ok (.getfield 61, 3) := by decide +kernel
theorem dX1_changeLock_27 : decode cX1_changeLock 27 = .ok (.iconst 3, 1) := by decide +kernel
theorem dX1_changeLock_28 : decode cX1_changeLock 28 = .ok (.iadd, 1) := by decide +kernel
theorem dX1_changeLock_29 : decode cX1_changeLock 29 = .ok (.putfield 142, 3) := by decide +kernel
theorem dX1_changeLock_32 : decode cX1_changeLock 32 = .ok (.aload_n 0, 1) := by decide +kernel
theorem dX1_changeLock_33 : decode cX1_changeLock 33 = .ok (.aload_n 2, 1) := by decide +kernel
theorem dX1_changeLock_34 : decode cX1_changeLock 34 = .ok (.getfield 78, 3) := by decide +kernel
theorem dX1_changeLock_37 : decode cX1_changeLock 37 = .ok (.invokevirtual 98, 3) := by decide +kernel
theorem dX1_changeLock_40 : decode cX1_changeLock 40 = .ok (.astore_n 3, 1) := by decide +kernel
theorem dX1_changeLock_41 : decode cX1_changeLock 41 = .ok (.aload_n 3, 1) := by decide +kernel
theorem dX1_changeLock_42 : decode cX1_changeLock 42 = .ok (.ifnonnull 21, 3) := by decide +kernel
theorem dX1_changeLock_45 : decode cX1_changeLock 45 = .ok (.aload_n 0, 1) := by decide +kernel
theorem dX1_changeLock_46 : decode cX1_changeLock 46 = .ok (.getfield 26, 3) := by decide +kernel
theorem dX1_changeLock_49 : decode cX1_changeLock 49 = .ok (.aload_n 1, 1) := by decide +kernel
theorem dX1_changeLock_50 : decode cX1_changeLock 50 = .ok (.getfield 145, 3) := by decide +kernel
theorem dX1_changeLock_53 : decode cX1_changeLock 53 = .ok (.aload_n 2, 1) := by decide +kernel
theorem dX1_changeLock_54 : decode cX1_changeLock 54 = .ok (.getfield 78, 3) := by decide +kernel
theorem dX1_changeLock_57 : decode cX1_changeLock 57 = .ok (.invokevirtual 101, 3) := by decide +kernel
theorem dX1_changeLock_60 : decode cX1_changeLock 60 = .ok (.goto 9, 3) := by decide +kernel
theorem dX1_changeLock_63 : decode cX1_changeLock 63 = .ok (.aload_n 0, 1) := by decide +kernel
theorem dX1_changeLock_64 : decode cX1_changeLock 64 = .ok (.aload_n 1, 1) := by decide +kernel
theorem dX1_changeLock_65 : decode cX1_changeLock 65 = .ok (.aload_n 3, 1) := by decide +kernel
theorem dX1_changeLock_66 : decode cX1_changeLock 66 = .ok (.invokevirtual 108, 3) := by decide +kernel
theorem dX1_changeLock_69 : decode cX1_changeLock 69 = .ok (.return_, 1) := by decide +kernel
theorem dX1_wishFor_0 : decode cX1_wishFor 0 = .ok (.aload_n 0, 1) := by decide +kernel
theorem dX1_wishFor_1 : decode cX1_wishFor 1 = .ok (.iload_n 1, 1) := by decide +kernel
theorem dX1_wishFor_2 : decode cX1_wishFor 2 = .ok (.invokevirtual 67, 3) := by decide +kernel
theorem dX1_wishFor_5 : decode cX1_wishFor 5 = .ok (.astore_n 3, 1) := by decide +kernel
theorem dX1_wishFor_6 : decode cX1_wishFor 6 = .ok (.aload_n 3, 1) := by decide +kernel
theorem dX1_wishFor_7 : decode cX1_wishFor 7 = .ok (.ifnull 12, 3) := by decide +kernel
theorem dX1_wishFor_10 : decode cX1_wishFor 10 = .ok (.iload_n 2, 1) := by decide +kernel
theorem dX1_wishFor_11 : decode cX1_wishFor 11 = .ok (.ifCond .lt 8, 3) := by decide +kernel
theorem dX1_wishFor_14 : decode cX1_wishFor 14 = .ok (.iload_n 2, 1) := by decide +kernel
theorem dX1_wishFor_15 : decode cX1_wishFor 15 = .ok (.iconst 2, 1) := by decide +kernel
theorem dX1_wishFor_16 : decode cX1_wishFor 16 = .ok (.if_icmp .le 5, 3) := by decide +kernel
theorem dX1_wishFor_19 : decode cX1_wishFor 19 = .ok (.iconst (-1), 1) := by decide +kernel
theorem dX1_wishFor_20 : decode cX1_wishFor 20 = .ok (.ireturn, 1) := by decide +kernel
theorem dX1_wishFor_21 : decode cX1_wishFor 21 = .ok (.aload_n 0, 1) := by decide +kernel
theorem dX1_wishFor_22 : decode cX1_wishFor 22 = .ok (.aload_n 3, 1) := by decide +kernel
theorem dX1_wishFor_23 : decode cX1_wishFor 23 = .ok (.getfield 71, 3) := by decide +kernel
theorem dX1_wishFor_26 : decode cX1_wishFor 26 = .ok (.invokevirtual 74, 3) := by decide +kernel
theorem dX1_wishFor_29 : decode cX1_wishFor 29 = .ok (.astore 4, 2) := by decide +kernel
theorem dX1_wishFor_31 : decode cX1_wishFor 31 = .ok (.aload 4, 2) := by decide +kernel
theorem dX1_wishFor_33 : decode cX1_wishFor 33 = .ok (.ifnull 12, 3) := by decide +kernel
theorem dX1_wishFor_36 : decode cX1_wishFor 36 = .ok (.aload 4, 2) := by decide +kernel
theorem dX1_wishFor_38 : decode cX1_wishFor 38 = .ok (.getfield 78, 3) := by decide +kernel
theorem dX1_wishFor_41 : decode cX1_wishFor 41 = .ok (.iload_n 2, 1) := by decide +kernel
theorem dX1_wishFor_42 : decode cX1_wishFor 42 = .ok (.if_icmp .ne 6, 3) := by decide +kernel
theorem dX1_wishFor_45 : decode cX1_wishFor 45 = .ok (.bipush (-2), 2) := by decide +kernel
theorem dX1_wishFor_47 : decode cX1_wishFor 47 = .ok (.ireturn, 1) := by decide +kernel
theorem dX1_wishFor_48 : decode cX1_wishFor 48 = .ok (.aload_n 0, 1) := by decide +kernel
theorem dX1_wishFor_49 : decode cX1_wishFor 49 = .ok (.getfield 30, 3) := by decide +kernel
theorem dX1_wishFor_52 : decode cX1_wishFor 52 = .ok (.iload_n 1, 1) := by decide +kernel
theorem dX1_wishFor_53 : decode cX1_wishFor 53 = .ok (.invokevirtual 115, 3) := by decide +kernel
theorem dX1_wishFor_56 : decode cX1_wishFor 56 = .ok (.aload_n 0, 1) := by decide +kernel
theorem dX1_wishFor_57 : decode cX1_wishFor 57 = .ok (.getfield 30, 3) := by decide +kernel
theorem dX1_wishFor_60 : decode cX1_wishFor 60 = .ok (.iload_n 1, 1) := by decide +kernel
theorem dX1_wishFor_61 : decode cX1_wishFor 61 = .ok (.iload_n 2, 1) := by decide +kernel
theorem dX1_wishFor_62 : decode cX1_wishFor 62 = .ok (.invokevirtual 101, 3) := by decide +kernel
theorem dX1_wishFor_65 : decode cX1_wishFor 65 = .ok (.aload_n 0, 1) := by decide +kernel
theorem dX1_wishFor_66 : decode cX1_wishFor 66 = .ok (.getfield 30, 3) := by decide +kernel
theorem dX1_wishFor_69 : decode cX1_wishFor 69 = .ok (.getfield 105, 3) := by decide +kernel
theorem dX1_wishFor_72 : decode cX1_wishFor 72 = .ok (.ireturn, 1) := by decide +kernel
theorem dX1_endWish_0 : decode cX1_endWish 0 = .ok (.aload_n 0, 1) := by decide +kernel
theorem dX1_endWish_1 : decode cX1_endWish 1 = .ok (.iload_n 1, 1) := by decide +kernel
theorem dX1_endWish_2 : decode cX1_endWish 2 = .ok (.invokevirtual 67, 3) := by decide +kernel
theorem dX1_endWish_5 : decode cX1_endWish 5 = .ok (.ifnonnull 5, 3) := by decide +kernel
theorem dX1_endWish_8 : decode cX1_endWish 8 = .ok (.iconst (-1), 1) := by decide +kernel
theorem dX1_endWish_9 : decode cX1_endWish 9 = .ok (.ireturn, 1) := by decide +kernel
theorem dX1_endWish_10 : decode cX1_endWish 10 = .ok (.aload_n 0, 1) := by decide +kernel
theorem dX1_endWish_11 : decode cX1_endWish 11 = .ok (.getfield 30, 3) := by decide +kernel
theorem dX1_endWish_14 : decode cX1_endWish 14 = .ok (.iload_n 1, 1) := by decide +kernel
theorem dX1_endWish_15 : decode cX1_endWish 15 = .ok (.invokevirtual 146, 3) := by decide +kernel
theorem dX1_endWish_18 : decode cX1_endWish 18 = .ok (.istore_n 2, 1) := by decide +kernel
theorem dX1_endWish_19 : decode cX1_endWish 19 = .ok (.iload_n 2, 1) := by decide +kernel
theorem dX1_endWish_20 : decode cX1_endWish 20 = .ok (.iconst (-1), 1) := by decide +kernel
theorem dX1_endWish_21 : decode cX1_endWish 21 = .ok (.if_icmp .ne 6, 3) := by decide +kernel
theorem dX1_endWish_24 : decode cX1_endWish 24 = .ok (.bipush (-2), 2) := by decide +kernel
theorem dX1_endWish_26 : decode cX1_endWish 26 = .ok (.ireturn, 1) := by decide +kernel
theorem dX1_endWish_27 : decode cX1_endWish 27 = .ok (.aload_n 0, 1) := by decide +kernel
theorem dX1_endWish_28 : decode cX1_endWish 28 = .ok (.getfield 30, 3) := by decide +kernel
theorem dX1_endWish_31 : decode cX1_endWish 31 = .ok (.iload_n 1, 1) := by decide +kernel
theorem dX1_endWish_32 : decode cX1_endWish 32 = .ok (.invokevirtual 115, 3) := by decide +kernel
theorem dX1_endWish_35 : decode cX1_endWish 35 = .ok (.iload_n 2, 1) := by decide +kernel
theorem dX1_endWish_36 : decode cX1_endWish 36 = .ok (.ireturn, 1) := by decide +kernel
theorem dX1_swapAll_0 : decode cX1_swapAll 0 = .ok (.iconst 0, 1) := by decide +kernel
theorem dX1_swapAll_1 : decode cX1_swapAll 1 = .ok (.istore_n 1, 1) := by decide +kernel
theorem dX1_swapAll_2 : decode cX1_swapAll 2 = .ok (.iconst 0, 1) := by decide +kernel
theorem dX1_swapAll_3 : decode cX1_swapAll 3 = .ok (.istore_n 2, 1) := by decide +kernel
theorem dX1_swapAll_4 : decode cX1_swapAll 4 = .ok (.iload_n 2, 1) := by decide +kernel
theorem dX1_swapAll_5 : decode cX1_swapAll 5 = .ok (.bipush 10, 2) := by decide +kernel
theorem dX1_swapAll_7 : decode cX1_swapAll 7 = .ok (.if_icmp .gt 39, 3) := by decide +kernel
theorem dX1_swapAll_10 : decode cX1_swapAll 10 = .ok (.aload_n 0, 1) := by decide +kernel
theorem dX1_swapAll_11 : decode cX1_swapAll 11 = .ok (.invokevirtual 149, 3) := by decide +kernel
theorem dX1_swapAll_14 : decode cX1_swapAll 14 = .ok (.istore_n 3, 1) := by decide +kernel
theorem dX1_swapAll_15 : decode cX1_swapAll 15 = .ok (.iload_n 3, 1) := by decide +kernel
theorem dX1_swapAll_16 : decode cX1_swapAll 16 = .ok (.ifCond .ne 13, 3) := by decide +kernel
theorem dX1_swapAll_19 : decode cX1_swapAll 19 = .ok (.aload_n 0, 1) := by decide +kernel
theorem dX1_swapAll_20 : decode cX1_swapAll 20 = .ok (.invokevirtual 153, 3) := by decide +kernel
theorem dX1_swapAll_23 : decode cX1_swapAll 23 = .ok (.istore_n 3, 1) := by decide +kernel
theorem dX1_swapAll_24 : decode cX1_swapAll 24 = .ok (.aload_n 0, 1) := by decide +kernel
theorem dX1_swapAll_25 : decode cX1_swapAll 25 = .ok (.iload_n 3, 1) := by decide +kernel
theorem dX1_swapAll_26 : decode cX1_swapAll 26 = .ok (.invokevirtual 156, 3) := by decide +kernel
theorem dX1_swapAll_29 : decode cX1_swapAll 29 = .ok (.iload_n 3, 1) := by decide +kernel
theorem dX1_swapAll_30 : decode cX1_swapAll 30 = .ok (.ifCond .ne 6, 3) := by decide +kernel
theorem dX1_swapAll_33 : decode cX1_swapAll 33 = .ok (.goto 13, 3) := by decide +kernel
theorem dX1_swapAll_36 : decode cX1_swapAll 36 = .ok (.iload_n 1, 1) := by decide +kernel
theorem dX1_swapAll_37 : decode cX1_swapAll 37 = .ok (.iload_n 3, 1) := by decide +kernel
theorem dX1_swapAll_38 : decode cX1_swapAll 38 = .ok (.iadd, 1) := by decide +kernel
theorem dX1_swapAll_39 : decode cX1_swapAll 39 = .ok (.istore_n 1, 1) := by decide +kernel
theorem dX1_swapAll_40 : decode cX1_swapAll 40 = .ok (.iinc 2 1, 3) := by decide +kernel
theorem dX1_swapAll_43 : decode cX1_swapAll 43 = .ok (.goto (-39), 3) := by decide +kernel
theorem dX1_swapAll_46 : decode cX1_swapAll 46 = .ok (.aload_n 0, 1) := by decide +kernel
theorem dX1_swapAll_47 : decode cX1_swapAll 47 = .ok (.dup, 1) := by decide +kernel
theorem dX1_swapAll_48 : decode cX1_swapAll 48 = .ok (.getfield 64, 3) := by decide +kernel
theorem dX1_swapAll_51 : decode cX1_swapAll 51 = .ok (.iload_n 1, 1) := by decide +kernel
theorem dX1_swapAll_52 : decode cX1_swapAll 52 = .ok (.iadd, 1) := by decide +kernel
theorem dX1_swapAll_53 : decode cX1_swapAll 53 = .ok (.putfield 64, 3) := by decide +kernel
theorem dX1_swapAll_56 : decode cX1_swapAll 56 = .ok (.iload_n 1, 1) := by decide +kernel
theorem dX1_swapAll_57 : decode cX1_swapAll 57 = .ok (.ireturn, 1) := by decide +kernel
theorem dX1_moveToFree_0 : decode cX1_moveToFree 0 = .ok (.iconst 0, 1) := by decide +kernel
theorem dX1_moveToFree_1 : decode cX1_moveToFree 1 = .ok (.istore_n 1, 1) := by decide +kernel
theorem dX1_moveToFree_2 : decode cX1_moveToFree 2 = .ok (.iload_n 1, 1) := by decide +kernel
theorem dX1_moveToFree_3 : decode cX1_moveToFree 3 = .ok (.aload_n 0, 1) := by decide +kernel
theorem dX1_moveToFree_4 : decode cX1_moveToFree 4 = .ok (.getfield 30, 3) := by decide +kernel
theorem dX1_moveToFree_7 : decode cX1_moveToFree 7 = .ok (.getfield 105, 3) := by decide +kernel
theorem dX1_moveToFree_10 : decode cX1_moveToFree 10 = .ok (.if_icmp .ge 67, 3) := by decide +kernel
theorem dX1_moveToFree_13 : decode cX1_moveToFree 13 = .ok (.aload_n 0, 1) := by decide +kernel
theorem dX1_moveToFree_14 : decode cX1_moveToFree 14 = .ok (.getfield 30, 3) := by decide +kernel
theorem dX1_moveToFree_17 : decode cX1_moveToFree 17 = .ok (.iload_n 1, 1) := by decide +kernel
theorem dX1_moveToFree_18 : decode cX1_moveToFree 18 = .ok (.invokevirtual 159, 3) := by decide +kernel
theorem dX1_moveToFree_21 : decode cX1_moveToFree 21 = .ok (.istore_n 2, 1) := by decide +kernel
theorem dX1_moveToFree_22 : decode cX1_moveToFree 22 = .ok (.aload_n 0, 1) := by decide +kernel
theorem dX1_moveToFree_23 : decode cX1_moveToFree 23 = .ok (.aload_n 0, 1) := by decide +kernel
theorem dX1_moveToFree_24 : decode cX1_moveToFree 24 = .ok (.getfield 30, 3) := by decide +kernel
theorem dX1_moveToFree_27 : decode cX1_moveToFree 27 = .ok (.iload_n 1, 1) := by decide +kernel
theorem dX1_moveToFree_28 : decode cX1_moveToFree 28 = .ok (.invokevirtual 161, 3) := by decide +kernel
theorem dX1_moveToFree_31 : decode cX1_moveToFree 31 = .ok (.invokevirtual 98, 3) := by decide +kernel
theorem dX1_moveToFree_34 : decode cX1_moveToFree 34 = .ok (.astore_n 3, 1) := by decide +kernel
theorem dX1_moveToFree_35 : decode cX1_moveToFree 35 = .ok (.aload_n 0, 1) := by decide +kernel
theorem dX1_moveToFree_36 : decode cX1_moveToFree 36 = .ok (.iload_n 2, 1) := by decide +kernel
theorem dX1_moveToFree_37 : decode cX1_moveToFree 37 = .ok (.invokevirtual 164, 3) := by decide +kernel
theorem dX1_moveToFree_40 : decode cX1_moveToFree 40 = .ok (.astore 4, 2) := by decide +kernel
theorem dX1_moveToFree_42 : decode cX1_moveToFree 42 = .ok (.aload_n 3, 1) := by decide +kernel
theorem dX1_moveToFree_43 : decode cX1_moveToFree 43 = .ok (.ifnull 28, 3) := by decide +kernel
theorem dX1_moveToFree_46 : decode cX1_moveToFree 46 = .ok (.aload 4, 2) := by decide +kernel
theorem dX1_moveToFree_48 : decode cX1_moveToFree 48 = .ok (.ifnull 23, 3) := by decide +kernel
theorem dX1_moveToFree_51 : decode cX1_moveToFree 51 = .ok (.aload 4, 2) := by decide +kernel
theorem dX1_moveToFree_53 : decode cX1_moveToFree 53 = .ok (.iconst (-1), 1) := by decide +kernel
theorem dX1_moveToFree_54 : decode cX1_moveToFree 54 = .ok (.putfield 167, 3) := by decide +kernel
theorem dX1_moveToFree_57 : decode cX1_moveToFree 57 = .ok (.aload_n 0, 1) := by decide +kernel
theorem dX1_moveToFree_58 : decode cX1_moveToFree 58 = .ok (.iload_n 2, 1) := by decide +kernel
theorem dX1_moveToFree_59 : decode cX1_moveToFree 59 = .ok (.aload_n 3, 1) := by decide +kernel
theorem dX1_moveToFree_60 : decode cX1_moveToFree 60 = .ok (.invokevirtual 170, 3) := by decide +kernel
theorem dX1_moveToFree_63 : decode cX1_moveToFree 63 = .ok (.aload_n 0, 1) := by decide +kernel
theorem dX1_moveToFree_64 : decode cX1_moveToFree 64 = .ok (.aload 4, 2) := by decide +kernel
theorem dX1_moveToFree_66 : decode cX1_moveToFree 66 = .ok (.invokevirtual 89, 3) := by decide +kernel
theorem dX1_moveToFree_69 : decode cX1_moveToFree 69 = .ok (.iconst 1, 1) := by decide +kernel
theorem dX1_moveToFree_70 : decode cX1_moveToFree 70 = .ok (.ireturn, 1) := by decide +kernel
theorem dX1_moveToFree_71 : decode cX1_moveToFree 71 = .ok (.iinc 1 1, 3) := by decide +kernel
theorem dX1_moveToFree_74 : decode cX1_moveToFree 74 = .ok (.goto (-72), 3) := by decide +kernel
theorem dX1_moveToFree_77 : decode cX1_moveToFree 77 = .ok (.iconst 0, 1) := by decide +kernel
theorem dX1_moveToFree_78 : decode cX1_moveToFree 78 = .ok (.ireturn, 1) := by decide +kernel
theorem dX1_findRing_0 : decode cX1_findRing 0 = .ok (.iconst 0, 1) := by decide +kernel
theorem dX1_findRing_1 : decode cX1_findRing 1 = .ok (.istore_n 1, 1) := by decide +kernel
theorem dX1_findRing_2 : decode cX1_findRing 2 = .ok (.iload_n 1, 1) := by decide +kernel
theorem dX1_findRing_3 : decode cX1_findRing 3 = .ok (.bipush 10, 2) := by decide +kernel
theorem dX1_findRing_5 : decode cX1_findRing 5 = .ok (.if_icmp .ge 150, 3) := by decide +kernel
theorem dX1_findRing_8 : decode cX1_findRing 8 = .ok (.iload_n 1, 1) := by decide +kernel
theorem dX1_findRing_9 : decode cX1_findRing 9 = .ok (.iconst 1, 1) := by decide +kernel
theorem dX1_findRing_10 : decode cX1_findRing 10 = .ok (.iadd, 1) := by decide +kernel
theorem dX1_findRing_11 : decode cX1_findRing 11 = .ok (.istore_n 2, 1) := by decide +kernel
theorem dX1_findRing_12 : decode cX1_findRing 12 = .ok (.iload_n 2, 1) := by decide +kernel
theorem dX1_findRing_13 : decode cX1_findRing 13 = .ok (.bipush 10, 2) := by decide +kernel
theorem dX1_findRing_15 : decode cX1_findRing 15 = .ok (.if_icmp .ge 134, 3) := by decide +kernel
theorem dX1_findRing_18 : decode cX1_findRing 18 = .ok (.aload_n 0, 1) := by decide +kernel
theorem dX1_findRing_19 : decode cX1_findRing 19 = .ok (.aload_n 0, 1) := by decide +kernel
theorem dX1_findRing_20 : decode cX1_findRing 20 = .ok (.getfield 19, 3) := by decide +kernel
theorem dX1_findRing_23 : decode cX1_findRing 23 = .ok (.iload_n 1, 1) := by decide +kernel
theorem dX1_findRing_24 : decode cX1_findRing 24 = .ok (.aaload, 1) := by decide +kernel
theorem dX1_findRing_25 : decode cX1_findRing 25 = .ok (.aload_n 0, 1) := by decide +kernel
theorem dX1_findRing_26 : decode cX1_findRing 26 = .ok (.getfield 19, 3) := by decide +kernel
theorem dX1_findRing_29 : decode cX1_findRing 29 = .ok (.iload_n 2, 1) := by decide +kernel
theorem dX1_findRing_30 : decode cX1_findRing 30 = .ok (.aaload, 1) := by decide +kernel
theorem dX1_findRing_31 : decode cX1_findRing 31 = .ok (.invokevirtual 174, 3) := by decide +kernel
theorem dX1_findRing_34 : decode cX1_findRing 34 = .ok (.ifCond .ne 6, 3) := by decide +kernel
theorem dX1_findRing_37 : decode cX1_findRing 37 = .ok (.goto 106, 3) := by decide +kernel
theorem dX1_findRing_40 : decode cX1_findRing 40 = .ok (.aload_n 0, 1) := by decide +kernel
theorem dX1_findRing_41 : decode cX1_findRing 41 = .ok (.getfield 37, 3) := by decide +kernel
theorem dX1_findRing_44 : decode cX1_findRing 44 = .ok (.iconst 0, 1) := by decide +kernel
theorem dX1_findRing_45 : decode cX1_findRing 45 = .ok (.iload_n 1, 1) := by decide +kernel
theorem dX1_findRing_46 : decode cX1_findRing 46 = .ok (.iastore, 1) := by decide +kernel
theorem dX1_findRing_47 : decode cX1_findRing 47 = .ok (.aload_n 0, 1) := by decide +kernel
theorem dX1_findRing_48 : decode cX1_findRing 48 = .ok (.getfield 37, 3) := by decide +kernel
theorem dX1_findRing_51 : decode cX1_findRing 51 = .ok (.iconst 1, 1) := by decide +kernel
theorem dX1_findRing_52 : decode cX1_findRing 52 = .ok (.iload_n 2, 1) := by decide +kernel
theorem dX1_findRing_53 : decode cX1_findRing 53 = .ok (.iastore, 1) := by decide +kernel
theorem dX1_findRing_54 : decode cX1_findRing 54 = .ok (.aload_n 0, 1) := by decide +kernel
theorem dX1_findRing_55 : decode cX1_findRing 55 = .ok (.aload_n 0, 1) := by decide +kernel
theorem dX1_findRing_56 : decode cX1_findRing 56 = .ok (.getfield 19, 3) := by decide +kernel
theorem dX1_findRing_59 : decode cX1_findRing 59 = .ok (.iload_n 2, 1) := by decide +kernel
theorem dX1_findRing_60 : decode cX1_findRing 60 = .ok (.aaload, 1) := by decide +kernel
theorem dX1_findRing_61 : decode cX1_findRing 61 = .ok (.aload_n 0, 1) := by decide +kernel
theorem dX1_findRing_62 : decode cX1_findRing 62 = .ok (.getfield 19, 3) := by decide +kernel
theorem dX1_findRing_65 : decode cX1_findRing 65 = .ok (.iload_n 1, 1) := by decide +kernel
theorem dX1_findRing_66 : decode cX1_findRing 66 = .ok (.aaload, 1) := by decide +kernel
theorem dX1_findRing_67 : decode cX1_findRing 67 = .ok (.invokevirtual 174, 3) := by decide +kernel
theorem dX1_findRing_70 : decode cX1_findRing 70 = .ok (.ifCond .eq 5, 3) := by decide +kernel
theorem dX1_findRing_73 : decode cX1_findRing 73 = .ok (.iconst 2, 1) := by decide +kernel
theorem dX1_findRing_74 : decode cX1_findRing 74 = .ok (.ireturn, 1) := by decide +kernel
theorem dX1_findRing_75 : decode cX1_findRing 75 = .ok (.iload_n 1, 1) := by decide +kernel
theorem dX1_findRing_76 : decode cX1_findRing 76 = .ok (.iconst 1, 1) := by decide +kernel
theorem dX1_findRing_77 : decode cX1_findRing 77 = .ok (.iadd, 1) := by decide +kernel
theorem dX1_findRing_78 : decode cX1_findRing 78 = .ok (.istore_n 3, 1) := by decide +kernel
theorem dX1_findRing_79 : decode cX1_findRing 79 = .ok (.iload_n 3, 1) := by decide +kernel
theorem dX1_findRing_80 : decode cX1_findRing 80 = .ok (.bipush 10, 2) := by decide +kernel
theorem dX1_findRing_82 : decode cX1_findRing 82 = .ok (.if_icmp .ge 61, 3) := by decide +kernel
theorem dX1_findRing_85 : decode cX1_findRing 85 = .ok (.iload_n 3, 1) := by decide +kernel
theorem dX1_findRing_86 : decode cX1_findRing 86 = .ok (.iload_n 2, 1) := by decide +kernel
theorem dX1_findRing_87 : decode cX1_findRing 87 = .ok (.if_icmp .eq 50, 3) := by decide +kernel
theorem dX1_findRing_90 : decode cX1_findRing 90 = .ok (.aload_n 0, 1) := by decide +kernel
theorem dX1_findRing_91 : decode cX1_findRing 91 = .ok (.aload_n 0, 1) := by decide +kernel
theorem dX1_findRing_92 : decode cX1_findRing 92 = .ok (.getfield 19, 3) := by decide +kernel
theorem dX1_findRing_95 : decode cX1_findRing 95 = .ok (.iload_n 2, 1) := by decide +kernel
theorem dX1_findRing_96 : decode cX1_findRing 96 = .ok (.aaload, 1) := by decide +kernel
theorem dX1_findRing_97 : decode cX1_findRing 97 = .ok (.aload_n 0, 1) := by decide +kernel
theorem dX1_findRing_98 : decode cX1_findRing 98 = .ok (.getfield 19, 3) := by decide +kernel
theorem dX1_findRing_101 : decode cX1_findRing 101 = .ok (.iload_n 3, 1) := by decide +kernel
theorem dX1_findRing_102 : decode cX1_findRing 102 = .ok (.aaload, 1) := by decide +kernel
theorem dX1_findRing_103 : decode cX1_findRing 103 = .ok (.invokevirtual 174, 3) := by decide +kernel
theorem dX1_findRing_106 : decode cX1_findRing 106 = .ok (.ifCond .eq 31, 3) := by decide +kernel
theorem dX1_findRing_109 : decode cX1_findRing 109 = .ok (.aload_n 0, 1) := by decide +kernel
theorem dX1_findRing_110 : decode cX1_findRing 110 = .ok (.aload_n 0, 1) := by decide +kernel
theorem dX1_findRing_111 : decode cX1_findRing 111 = .ok (.getfield 19, 3) := by decide +kernel
theorem dX1_findRing_114 : decode cX1_findRing 114 = .ok (.iload_n 3, 1) := by decide +kernel
theorem dX1_findRing_115 : decode cX1_findRing 115 = .ok (.aaload, 1) := by decide +kernel
theorem dX1_findRing_116 : decode cX1_findRing 116 = .ok (.aload_n 0, 1) := by decide +kernel
theorem dX1_findRing_117 : decode cX1_findRing 117 = .ok (.getfield 19, 3) := by decide +kernel
theorem dX1_findRing_120 : decode cX1_findRing 120 = .ok (.iload_n 1, 1) := by decide +kernel
theorem dX1_findRing_121 : decode cX1_findRing 121 = .ok (.aaload, 1) := by decide +kernel
theorem dX1_findRing_122 : decode cX1_findRing 122 = .ok (.invokevirtual 174, 3) := by decide +kernel
theorem dX1_findRing_125 : decode cX1_findRing 125 = .ok (.ifCond .eq 12, 3) := by decide +kernel
theorem dX1_findRing_128 : decode cX1_findRing 128 = .ok (.aload_n 0, 1) := by decide +kernel
theorem dX1_findRing_129 : decode cX1_findRing 129 = .ok (.getfield 37, 3) := by decide +kernel
theorem dX1_findRing_132 : decode cX1_findRing 132 = .ok (.iconst 2, 1) := by decide +kernel
theorem dX1_findRing_133 : decode cX1_findRing 133 = .ok (.iload_n 3, 1) := by decide +kernel
theorem dX1_findRing_134 : decode cX1_findRing 134 = .ok (.iastore, 1) := by decide +kernel
theorem dX1_findRing_135 : decode cX1_findRing 135 = .ok (.iconst 3, 1) := by decide +kernel
theorem dX1_findRing_136 : decode cX1_findRing 136 = .ok (.ireturn, 1) := by decide +kernel
theorem dX1_findRing_137 : decode cX1_findRing 137 = .ok (.iinc 3 1, 3) := by decide +kernel
theorem dX1_findRing_140 : decode cX1_findRing 140 = .ok (.goto (-61), 3) := by decide +kernel
theorem dX1_findRing_143 : decode cX1_findRing 143 = .ok (.iinc 2 1, 3) := by decide +kernel
theorem dX1_findRing_146 : decode cX1_findRing 146 = .ok (.goto (-134), 3) := by decide +kernel
theorem dX1_findRing_149 : decode cX1_findRing 149 = .ok (.iinc 1 1, 3) := by decide +kernel
theorem dX1_findRing_152 : decode cX1_findRing 152 = .ok (.goto (-150), 3) := by decide +kernel
theorem dX1_findRing_155 : decode cX1_findRing 155 = .ok (.iconst 0, 1) := by decide +kernel
theorem dX1_findRing_156 : decode cX1_findRing 156 = .ok (.ireturn, 1) := by decide +kernel
theorem dX1_wants_0 : decode cX1_wants 0 = .ok (.aload_n 0, 1) := by decide +kernel
theorem dX1_wants_1 : decode cX1_wants 1 = .ok (.aload_n 2, 1) := by decide +kernel
theorem dX1_wants_2 : decode cX1_wants 2 = .ok (.getfield 71, 3) := by decide +kernel
theorem dX1_wants_5 : decode cX1_wants 5 = .ok (.invokevirtual 74, 3) := by decide +kernel
theorem dX1_wants_8 : decode cX1_wants 8 = .ok (.astore_n 3, 1) := by decide +kernel
theorem dX1_wants_9 : decode cX1_wants 9 = .ok (.aload_n 3, 1) := by decide +kernel
theorem dX1_wants_10 : decode cX1_wants 10 = .ok (.ifnull 25, 3) := by decide +kernel
theorem dX1_wants_13 : decode cX1_wants 13 = .ok (.aload_n 0, 1) := by decide +kernel
theorem dX1_wants_14 : decode cX1_wants 14 = .ok (.getfield 30, 3) := by decide +kernel
theorem dX1_wants_17 : decode cX1_wants 17 = .ok (.aload_n 1, 1) := by decide +kernel
theorem dX1_wants_18 : decode cX1_wants 18 = .ok (.getfield 145, 3) := by decide +kernel
theorem dX1_wants_21 : decode cX1_wants 21 = .ok (.invokevirtual 146, 3) := by decide +kernel
theorem dX1_wants_24 : decode cX1_wants 24 = .ok (.aload_n 3, 1) := by decide +kernel
theorem dX1_wants_25 : decode cX1_wants 25 = .ok (.getfield 78, 3) := by decide +kernel
theorem dX1_wants_28 : decode cX1_wants 28 = .ok (.if_icmp .ne 7, 3) := by decide +kernel
theorem dX1_wants_31 : decode cX1_wants 31 = .ok (.iconst 1, 1) := by decide +kernel
theorem dX1_wants_32 : decode cX1_wants 32 = .ok (.goto 4, 3) := by decide +kernel
theorem dX1_wants_35 : decode cX1_wants 35 = .ok (.iconst 0, 1) := by decide +kernel
theorem dX1_wants_36 : decode cX1_wants 36 = .ok (.ireturn, 1) := by decide +kernel
theorem dX1_moveAround_0 : decode cX1_moveAround 0 = .ok (.aload_n 0, 1) := by decide +kernel
theorem dX1_moveAround_1 : decode cX1_moveAround 1 = .ok (.aload_n 0, 1) := by decide +kernel
theorem dX1_moveAround_2 : decode cX1_moveAround 2 = .ok (.getfield 37, 3) := by decide +kernel
theorem dX1_moveAround_5 : decode cX1_moveAround 5 = .ok (.iconst 0, 1) := by decide +kernel
theorem dX1_moveAround_6 : decode cX1_moveAround 6 = .ok (.iaload, 1) := by decide +kernel
theorem dX1_moveAround_7 : decode cX1_moveAround 7 = .ok (.invokevirtual 164, 3) := by decide +kernel
theorem dX1_moveAround_10 : decode cX1_moveAround 10 = .ok (.astore_n 2, 1) := by decide +kernel
theorem dX1_moveAround_11 : decode cX1_moveAround 11 = .ok (.iconst 0, 1) := by decide +kernel
theorem dX1_moveAround_12 : decode cX1_moveAround 12 = .ok (.istore_n 3, 1) := by decide +kernel
theorem dX1_moveAround_13 : decode cX1_moveAround 13 = .ok (.iload_n 3, 1) := by decide +kernel
theorem dX1_moveAround_14 : decode cX1_moveAround 14 = .ok (.iload_n 1, 1) := by decide +kernel
theorem dX1_moveAround_15 : decode cX1_moveAround 15 = .ok (.if_icmp .ge 66, 3) := by decide +kernel
theorem dX1_moveAround_18 : decode cX1_moveAround 18 = .ok (.iload_n 3, 1) := by decide +kernel
theorem dX1_moveAround_19 : decode cX1_moveAround 19 = .ok (.iconst 3, 1) := by decide +kernel
theorem dX1_moveAround_20 : decode cX1_moveAround 20 = .ok (.if_icmp .ge 61, 3) := by decide +kernel
theorem dX1_moveAround_23 : decode cX1_moveAround 23 = .ok (.iload_n 3, 1) := by decide +kernel
theorem dX1_moveAround_24 : decode cX1_moveAround 24 = .ok (.iconst 1, 1) := by decide +kernel
theorem dX1_moveAround_25 : decode cX1_moveAround 25 = .ok (.iadd, 1) := by decide +kernel
theorem dX1_moveAround_26 : decode cX1_moveAround 26 = .ok (.iload_n 1, 1) := by decide +kernel
theorem dX1_moveAround_27 : decode cX1_moveAround 27 = .ok (.if_icmp .ge 14, 3) := by decide +kernel
theorem dX1_moveAround_30 : decode cX1_moveAround 30 = .ok (.iload_n 3, 1) := by decide +kernel
theorem dX1_moveAround_31 : decode cX1_moveAround 31 = .ok (.iconst 1, 1) := by decide +kernel
theorem dX1_moveAround_32 : decode cX1_moveAround 32 = .ok (.iadd, 1) := by decide +kernel
theorem dX1_moveAround_33 : decode cX1_moveAround 33 = .ok (.iconst 3, 1) := by decide +kernel
theorem dX1_moveAround_34 : decode cX1_moveAround 34 = .ok (.if_icmp .ge 7, 3) := by decide +kernel
theorem dX1_moveAround_37 : decode cX1_moveAround 37 = .ok (.iconst 1, 1) := by decide +kernel
theorem dX1_moveAround_38 : decode cX1_moveAround 38 = .ok (.goto 4, 3) := by decide +kernel
theorem dX1_moveAround_41 : decode cX1_moveAround 41 = .ok (.iconst 0, 1) := by decide +kernel
theorem dX1_moveAround_42 : decode cX1_moveAround 42 = .ok (.istore 4, 2) := by decide +kernel
theorem dX1_moveAround_44 : decode cX1_moveAround 44 = .ok (.aload_n 0, 1) := by decide +kernel
theorem dX1_moveAround_45 : decode cX1_moveAround 45 = .ok (.aload_n 0, 1) := by decide +kernel
theorem dX1_moveAround_46 : decode cX1_moveAround 46 = .ok (.getfield 37, 3) := by decide +kernel
theorem dX1_moveAround_49 : decode cX1_moveAround 49 = .ok (.iload_n 3, 1) := by decide +kernel
theorem dX1_moveAround_50 : decode cX1_moveAround 50 = .ok (.iaload, 1) := by decide +kernel
theorem dX1_moveAround_51 : decode cX1_moveAround 51 = .ok (.iload 4, 2) := by decide +kernel
theorem dX1_moveAround_53 : decode cX1_moveAround 53 = .ok (.ifCond .eq 18, 3) := by decide +kernel
theorem dX1_moveAround_56 : decode cX1_moveAround 56 = .ok (.aload_n 0, 1) := by decide +kernel
theorem dX1_moveAround_57 : decode cX1_moveAround 57 = .ok (.aload_n 0, 1) := by decide +kernel
theorem dX1_moveAround_58 : decode cX1_moveAround 58 = .ok (.getfield 37, 3) := by decide +kernel
theorem dX1_moveAround_61 : decode cX1_moveAround 61 = .ok (.iload_n 3, 1) := by decide +kernel
theorem dX1_moveAround_62 : decode cX1_moveAround 62 = .ok (.iconst 1, 1) := by decide +kernel
theorem dX1_moveAround_63 : decode cX1_moveAround 63 = .ok (.iadd, 1) := by decide +kernel
theorem dX1_moveAround_64 : decode cX1_moveAround 64 = .ok (.iaload, 1) := by decide +kernel
theorem dX1_moveAround_65 : decode cX1_moveAround 65 = .ok (.invokevirtual 164, 3) := by decide +kernel
theorem dX1_moveAround_68 : decode cX1_moveAround 68 = .ok (.goto 4, 3) := by decide +kernel
theorem dX1_moveAround_71 : decode cX1_moveAround 71 = .ok (.aload_n 2, 1) := by decide +kernel
theorem dX1_moveAround_72 : decode cX1_moveAround 72 = .ok (.invokevirtual 170, 3) := by decide +kernel
theorem dX1_moveAround_75 : decode cX1_moveAround 75 = .ok (.iinc 3 1, 3) := by decide +kernel
theorem dX1_moveAround_78 : decode cX1_moveAround 78 = .ok (.goto (-65), 3) := by decide +kernel
theorem dX1_moveAround_81 : decode cX1_moveAround 81 = .ok (.return_, 1) := by decide +kernel
theorem dX1_payCoins_0 : decode cX1_payCoins 0 = .ok (.aload_n 0, 1) := by decide +kernel
theorem dX1_payCoins_1 : decode cX1_payCoins 1 = .ok (.iload_n 1, 1) := by decide +kernel
theorem dX1_payCoins_2 : decode cX1_payCoins 2 = .ok (.invokevirtual 67, 3) := by decide +kernel
theorem dX1_payCoins_5 : decode cX1_payCoins 5 = .ok (.astore_n 3, 1) := by decide +kernel
theorem dX1_payCoins_6 : decode cX1_payCoins 6 = .ok (.aload_n 3, 1) := by decide +kernel
theorem dX1_payCoins_7 : decode cX1_payCoins 7 = .ok (.ifnull 15, 3) := by decide +kernel
theorem dX1_payCoins_10 : decode cX1_payCoins 10 = .ok (.iload_n 2, 1) := by decide +kernel
theorem dX1_payCoins_11 : decode cX1_payCoins 11 = .ok (.iconst 1, 1) := by decide +kernel
theorem dX1_payCoins_12 : decode cX1_payCoins 12 = .ok (.if_icmp .lt 10, 3) := by decide +kernel
theorem dX1_payCoins_15 : decode cX1_payCoins 15 = .ok (.iload_n 2, 1) := by decide +kernel
theorem dX1_payCoins_16 : decode cX1_payCoins 16 = .ok (.sipush 999, 3) := by decide +kernel
theorem dX1_payCoins_19 : decode cX1_payCoins 19 = .ok (.if_icmp .le 5, 3) := by decide +kernel
theorem dX1_payCoins_22 : decode cX1_payCoins 22 = .ok (.iconst (-1), 1) := by decide +kernel
theorem dX1_payCoins_23 : decode cX1_payCoins 23 = .ok (.ireturn, 1) := by decide +kernel
theorem dX1_payCoins_24 : decode cX1_payCoins 24 = .ok (.aload_n 3, 1) := by decide +kernel
theorem dX1_payCoins_25 : decode cX1_payCoins 25 = .ok (.getfield 95, 3) := by decide +kernel
theorem dX1_payCoins_28 : decode cX1_payCoins 28 = .ok (.iload_n 2, 1) := by decide +kernel
theorem dX1_payCoins_29 : decode cX1_payCoins 29 = .ok (.if_icmp .ge 6, 3) := by decide +kernel
theorem dX1_payCoins_32 : decode cX1_payCoins 32 = .ok (.bipush (-2), 2) := by decide +kernel
theorem dX1_payCoins_34 : decode cX1_payCoins 34 = .ok (.ireturn, 1) := by decide +kernel
theorem dX1_payCoins_35 : decode cX1_payCoins 35 = .ok (.aload_n 3, 1) := by decide +kernel
theorem dX1_payCoins_36 : decode cX1_payCoins 36 = .ok (.dup, 1) := by decide +kernel
theorem dX1_payCoins_37 : decode cX1_payCoins 37 = .ok (.getfield 95, 3) := by decide +kernel
theorem dX1_payCoins_40 : decode cX1_payCoins 40 = .ok (.iload_n 2, 1) := by decide +kernel
theorem dX1_payCoins_41 : decode cX1_payCoins 41 = .ok (.isub, 1) := by decide +kernel
theorem dX1_payCoins_42 : decode cX1_payCoins 42 = .ok (.putfield 95, 3) := by decide +kernel
theorem dX1_payCoins_45 : decode cX1_payCoins 45 = .ok (.aload_n 3, 1) := by decide +kernel
theorem dX1_payCoins_46 : decode cX1_payCoins 46 = .ok (.dup, 1) := by decide +kernel
theorem dX1_payCoins_47 : decode cX1_payCoins 47 = .ok (.getfield 178, 3) := by decide +kernel
theorem dX1_payCoins_50 : decode cX1_payCoins 50 = .ok (.iload_n 2, 1) := by decide +kernel
theorem dX1_payCoins_51 : decode cX1_payCoins 51 = .ok (.iadd, 1) := by decide +kernel
theorem dX1_payCoins_52 : decode cX1_payCoins 52 = .ok (.putfield 178, 3) := by decide +kernel
theorem dX1_payCoins_55 : decode cX1_payCoins 55 = .ok (.aload_n 3, 1) := by decide +kernel
theorem dX1_payCoins_56 : decode cX1_payCoins 56 = .ok (.getfield 95, 3) := by decide +kernel
theorem dX1_payCoins_59 : decode cX1_payCoins 59 = .ok (.ireturn, 1) := by decide +kernel
theorem dX1_passDays_0 : decode cX1_passDays 0 = .ok (.iload_n 1, 1) := by decide +kernel
theorem dX1_passDays_1 : decode cX1_passDays 1 = .ok (.iconst 1, 1) := by decide +kernel
theorem dX1_passDays_2 : decode cX1_passDays 2 = .ok (.if_icmp .lt 9, 3) := by decide +kernel
theorem dX1_passDays_5 : decode cX1_passDays 5 = .ok (.iload_n 1, 1) := by decide +kernel
theorem dX1_passDays_6 : decode cX1_passDays 6 = .ok (.bipush 99, 2) := by decide +kernel
theorem dX1_passDays_8 : decode cX1_passDays 8 = .ok (.if_icmp .le 5, 3) := by decide +kernel
theorem dX1_passDays_11 : decode cX1_passDays 11 = .ok (.iconst (-1), 1) := by decide +kernel
theorem dX1_passDays_12 : decode cX1_passDays 12 = .ok (.ireturn, 1) := by decide +kernel
theorem dX1_passDays_13 : decode cX1_passDays 13 = .ok (.aload_n 0, 1) := by decide +kernel
theorem dX1_passDays_14 : decode cX1_passDays 14 = .ok (.getfield 61, 3) := by decide +kernel
theorem dX1_passDays_17 : decode cX1_passDays 17 = .ok (.iload_n 1, 1) := by decide +kernel
theorem dX1_passDays_18 : decode cX1_passDays 18 = .ok (.iadd, 1) := by decide +kernel
theorem dX1_passDays_19 : decode cX1_passDays 19 = .ok (.iload_n 2, 1) := by decide +kernel
theorem dX1_passDays_20 : decode cX1_passDays 20 = .ok (.if_icmp .le 6, 3) := by decide +kernel
theorem dX1_passDays_23 : decode cX1_passDays 23 = .ok (.bipush (-3), 2) := by decide +kernel
theorem dX1_passDays_25 : decode cX1_passDays 25 = .ok (.ireturn, 1) := by decide +kernel
theorem dX1_passDays_26 : decode cX1_passDays 26 = .ok (.iconst 0, 1) := by decide +kernel
theorem dX1_passDays_27 : decode cX1_passDays 27 = .ok (.istore_n 3, 1) := by decide +kernel
theorem dX1_passDays_28 : decode cX1_passDays 28 = .ok (.iconst 0, 1) := by decide +kernel
theorem dX1_passDays_29 : decode cX1_passDays 29 = .ok (.istore 4, 2) := by decide +kernel
theorem dX1_passDays_31 : decode cX1_passDays 31 = .ok (.iload 4, 2) := by decide +kernel
theorem dX1_passDays_33 : decode cX1_passDays 33 = .ok (.iload_n 1, 1) := by decide +kernel
theorem dX1_passDays_34 : decode cX1_passDays 34 = .ok (.if_icmp .ge 30, 3) := by decide +kernel
theorem dX1_passDays_37 : decode cX1_passDays 37 = .ok (.aload_n 0, 1) := by decide +kernel
theorem dX1_passDays_38 : decode cX1_passDays 38 = .ok (.dup, 1) := by decide +kernel
theorem dX1_passDays_39 : decode cX1_passDays 39 = .ok (.getfield 61, 3) := by decide +kernel
theorem dX1_passDays_42 : decode cX1_passDays 42 = .ok (.iconst 1, 1) := by decide +kernel
theorem dX1_passDays_43 : decode cX1_passDays 43 = .ok (.iadd, 1) := by decide +kernel
theorem dX1_passDays_44 : decode cX1_passDays 44 = .ok (.putfield 61, 3) := by decide +kernel
theorem dX1_passDays_47 : decode cX1_passDays 47 = .ok (.aload_n 0, 1) := by decide +kernel
theorem dX1_passDays_48 : decode cX1_passDays 48 = .ok (.invokevirtual 181, 3) := by decide +kernel
theorem dX1_passDays_51 : decode cX1_passDays 51 = .ok (.iload_n 3, 1) := by decide +kernel
theorem dX1_passDays_52 : decode cX1_passDays 52 = .ok (.aload_n 0, 1) := by decide +kernel
theorem dX1_passDays_53 : decode cX1_passDays 53 = .ok (.invokevirtual 184, 3) := by decide +kernel
theorem dX1_passDays_56 : decode cX1_passDays 56 = .ok (.iadd, 1) := by decide +kernel
theorem dX1_passDays_57 : decode cX1_passDays 57 = .ok (.istore_n 3, 1) := by decide +kernel
theorem dX1_passDays_58 : decode cX1_passDays 58 = .ok (.iinc 4 1, 3) := by decide +kernel
theorem dX1_passDays_61 : decode cX1_passDays 61 = .ok (.goto (-30), 3) := by decide +kernel
theorem dX1_passDays_64 : decode cX1_passDays 64 = .ok (.iload_n 3, 1) := by decide +kernel
theorem dX1_passDays_65 : decode cX1_passDays 65 = .ok (.ireturn, 1) := by decide +kernel
theorem dX1_endClosing_0 : decode cX1_endClosing 0 = .ok (.iconst 0, 1) := by decide +kernel
theorem dX1_endClosing_1 : decode cX1_endClosing 1 = .ok (.istore_n 1, 1) := by decide +kernel
theorem dX1_endClosing_2 : decode cX1_endClosing 2 = .ok (.iload_n 1, 1) := by decide +kernel
theorem dX1_endClosing_3 : decode cX1_endClosing 3 = .ok (.bipush 12, 2) := by decide +kernel
theorem dX1_endClosing_5 : decode cX1_endClosing 5 = .ok (.if_icmp .ge 45, 3) := by decide +kernel
theorem dX1_endClosing_8 : decode cX1_endClosing 8 = .ok (.aload_n 0, 1) := by decide +kernel
theorem dX1_endClosing_9 : decode cX1_endClosing 9 = .ok (.getfield 11, 3) := by decide +kernel
theorem dX1_endClosing_12 : decode cX1_endClosing 12 = .ok (.iload_n 1, 1) := by decide +kernel
theorem dX1_endClosing_13 : decode cX1_endClosing 13 = .ok (.aaload, 1) := by decide +kernel
theorem dX1_endClosing_14 : decode cX1_endClosing 14 = .ok (.astore_n 2, 1) := by decide +kernel
theorem dX1_endClosing_15 : decode cX1_endClosing 15 = .ok (.aload_n 2, 1) := by decide +kernel
theorem dX1_endClosing_16 : decode cX1_endClosing 16 = .ok (.getfield 142, 3) := by decide +kernel
theorem dX1_endClosing_19 : decode cX1_endClosing 19 = .ok (.iconst (-1), 1) := by decide +kernel
theorem dX1_endClosing_20 : decode cX1_endClosing 20 = .ok (.if_icmp .eq 24, 3) := by decide +kernel
theorem dX1_endClosing_23 : decode cX1_endClosing 23 = .ok (.aload_n 2, 1) := by decide +kernel
theorem dX1_endClosing_24 : decode cX1_endClosing 24 = .ok (.getfield 142, 3) := by decide +kernel
theorem dX1_endClosing_27 : decode cX1_endClosing 27 = .ok (.aload_n 0, 1) := by decide +kernel
theorem dX1_endClosing_28 : decode cX1_endClosing 28 = .ok (.getfield 61, 3) := by decide +kernel
theorem dX1_endClosing_31 : decode cX1_endClosing 31 = .ok (.if_icmp .gt 13, 3) := by decide +kernel
theorem dX1_endClosing_34 : decode cX1_endClosing 34 = .ok (.aload_n 2, 1) := by decide +kernel
theorem dX1_endClosing_35 : decode cX1_endClosing 35 = .ok (.iconst (-1), 1) := by decide +kernel
theorem dX1_endClosing_36 : decode cX1_endClosing 36 = .ok (.putfield 142, 3) := by decide +kernel
theorem dX1_endClosing_39 : decode cX1_endClosing 39 = .ok (.aload_n 0, 1) := by decide +kernel
theorem dX1_endClosing_40 : decode cX1_endClosing 40 = .ok (.aload_n 2, 1) := by decide +kernel
theorem dX1_endClosing_41 : decode cX1_endClosing 41 = .ok (.invokevirtual 89, 3) := by decide +kernel
theorem dX1_endClosing_44 : decode cX1_endClosing 44 = .ok (.iinc 1 1, 3) := by decide +kernel
theorem dX1_endClosing_47 : decode cX1_endClosing 47 = .ok (.goto (-45), 3) := by decide +kernel
theorem dX1_endClosing_50 : decode cX1_endClosing 50 = .ok (.return_, 1) := by decide +kernel
theorem dX1_chargeOverdue_0 : decode cX1_chargeOverdue 0 = .ok (.iconst 0, 1) := by decide +kernel
theorem dX1_chargeOverdue_1 : decode cX1_chargeOverdue 1 = .ok (.istore_n 1, 1) := by decide +kernel
theorem dX1_chargeOverdue_2 : decode cX1_chargeOverdue 2 = .ok (.iconst 0, 1) := by decide +kernel
theorem dX1_chargeOverdue_3 : decode cX1_chargeOverdue 3 = .ok (.istore_n 2, 1) := by decide +kernel
theorem dX1_chargeOverdue_4 : decode cX1_chargeOverdue 4 = .ok (.iload_n 2, 1) := by decide +kernel
theorem dX1_chargeOverdue_5 : decode cX1_chargeOverdue 5 = .ok (.bipush 10, 2) := by decide +kernel
theorem dX1_chargeOverdue_7 : decode cX1_chargeOverdue 7 = .ok (.if_icmp .ge 120, 3) := by decide +kernel
theorem dX1_chargeOverdue_10 : decode cX1_chargeOverdue 10 = .ok (.aload_n 0, 1) := by decide +kernel
theorem dX1_chargeOverdue_11 : decode cX1_chargeOverdue 11 = .ok (.getfield 19, 3) := by decide +kernel
theorem dX1_chargeOverdue_14 : decode cX1_chargeOverdue 14 = .ok (.iload_n 2, 1) := by decide +kernel
theorem dX1_chargeOverdue_15 : decode cX1_chargeOverdue 15 = .ok (.aaload, 1) := by decide +kernel
theorem dX1_chargeOverdue_16 : decode cX1_chargeOverdue 16 = .ok (.astore_n 3, 1) := by decide +kernel
theorem dX1_chargeOverdue_17 : decode cX1_chargeOverdue 17 = .ok (.aload_n 3, 1) := by decide +kernel
theorem dX1_chargeOverdue_18 : decode cX1_chargeOverdue 18 = .ok (.aload_n 0, 1) := by decide +kernel
theorem dX1_chargeOverdue_19 : decode cX1_chargeOverdue 19 = .ok (.getfield 61, 3) := by decide +kernel
theorem dX1_chargeOverdue_22 : decode cX1_chargeOverdue 22 = .ok (.invokevirtual 118, 3) := by decide +kernel
theorem dX1_chargeOverdue_25 : decode cX1_chargeOverdue 25 = .ok (.istore 4, 2) := by decide +kernel
theorem dX1_chargeOverdue_27 : decode cX1_chargeOverdue 27 = .ok (.iload 4, 2) := by decide +kernel
theorem dX1_chargeOverdue_29 : decode cX1_chargeOverdue 29 = .ok (.ifCond .le 14, 3) := by decide +kernel
theorem dX1_chargeOverdue_32 : decode cX1_chargeOverdue 32 = .ok (.aload_n 0, 1) := by decide +kernel
theorem dX1_chargeOverdue_33 : decode cX1_chargeOverdue 33 = .ok (.aload_n 3, 1) := by decide +kernel
theorem dX1_chargeOverdue_34 : decode cX1_chargeOverdue 34 = .ok (.getfield 71, 3) := by decide +kernel
theorem dX1_chargeOverdue_37 : decode cX1_chargeOverdue 37 = .ok (.invokevirtual 74, 3) := by decide +kernel
theorem dX1_chargeOverdue_40 : decode cX1_chargeOverdue 40 = .ok (.goto 4, 3) := by decide +kernel
theorem dX1_chargeOverdue_43 : decode cX1_chargeOverdue 43 = .ok (.aconst_null, 1) := by decide +kernel
theorem dX1_chargeOverdue_44 : decode cX1_chargeOverdue 44 = .ok (.astore 5, 2) := by decide +kernel
theorem dX1_chargeOverdue_46 : decode cX1_chargeOverdue 46 = .ok (.aload 5, 2) := by decide +kernel
theorem dX1_chargeOverdue_48 : decode cX1_chargeOverdue 48 = .ok (.ifnull 73, 3) := by decide +kernel
theorem dX1_chargeOverdue_51 : decode cX1_chargeOverdue 51 = .ok (.aload_n 3, 1) := by decide +kernel
theorem dX1_chargeOverdue_52 : decode cX1_chargeOverdue 52 = .ok (.dup, 1) := by decide +kernel
theorem dX1_chargeOverdue_53 : decode cX1_chargeOverdue 53 = .ok (.getfield 95, 3) := by decide +kernel
theorem dX1_chargeOverdue_56 : decode cX1_chargeOverdue 56 = .ok (.iload 4, 2) := by decide +kernel
theorem dX1_chargeOverdue_58 : decode cX1_chargeOverdue 58 = .ok (.invokestatic 187, 3) := by decide +kernel
theorem dX1_chargeOverdue_61 : decode cX1_chargeOverdue 61 = .ok (.aload 5, 2) := by decide +kernel
theorem dX1_chargeOverdue_63 : decode cX1_chargeOverdue 63 = .ok (.getfield 78, 3) := by decide +kernel
theorem dX1_chargeOverdue_66 : decode cX1_chargeOverdue 66 = .ok (.iconst 1, 1) := by decide +kernel
theorem dX1_chargeOverdue_67 : decode cX1_chargeOverdue 67 = .ok (.iadd, 1) := by decide +kernel
theorem dX1_chargeOverdue_68 : decode cX1_chargeOverdue 68 = .ok (.imul, 1) := by decide +kernel
theorem dX1_chargeOverdue_69 : decode cX1_chargeOverdue 69 = .ok (.iadd, 1) := by decide +kernel
theorem dX1_chargeOverdue_70 : decode cX1_chargeOverdue 70 = .ok (.putfield 95, 3) := by decide +kernel
theorem dX1_chargeOverdue_73 : decode cX1_chargeOverdue 73 = .ok (.iload 4, 2) := by decide +kernel
theorem dX1_chargeOverdue_75 : decode cX1_chargeOverdue 75 = .ok (.bipush 21, 2) := by decide +kernel
theorem dX1_chargeOverdue_77 : decode cX1_chargeOverdue 77 = .ok (.if_icmp .lt 44, 3) := by decide +kernel
theorem dX1_chargeOverdue_80 : decode cX1_chargeOverdue 80 = .ok (.aload_n 3, 1) := by decide +kernel
theorem dX1_chargeOverdue_81 : decode cX1_chargeOverdue 81 = .ok (.dup, 1) := by decide +kernel
theorem dX1_chargeOverdue_82 : decode cX1_chargeOverdue 82 = .ok (.getfield 95, 3) := by decide +kernel
theorem dX1_chargeOverdue_85 : decode cX1_chargeOverdue 85 = .ok (.aload_n 0, 1) := by decide +kernel
theorem dX1_chargeOverdue_86 : decode cX1_chargeOverdue 86 = .ok (.getfield 33, 3) := by decide +kernel
theorem dX1_chargeOverdue_89 : decode cX1_chargeOverdue 89 = .ok (.iconst 2, 1) := by decide +kernel
theorem dX1_chargeOverdue_90 : decode cX1_chargeOverdue 90 = .ok (.iaload, 1) := by decide +kernel
theorem dX1_chargeOverdue_91 : decode cX1_chargeOverdue 91 = .ok (.iadd, 1) := by decide +kernel
theorem dX1_chargeOverdue_92 : decode cX1_chargeOverdue 92 = .ok (.putfield 95, 3) := by decide +kernel
theorem dX1_chargeOverdue_95 : decode cX1_chargeOverdue 95 = .ok (.aload_n 3, 1) := by decide +kernel
theorem dX1_chargeOverdue_96 : decode cX1_chargeOverdue 96 = .ok (.dup, 1) := by decide +kernel
theorem dX1_chargeOverdue_97 : decode cX1_chargeOverdue 97 = .ok (.getfield 190, 3) := by decide +kernel
theorem dX1_chargeOverdue_100 : decode cX1_chargeOverdue 100 = .ok (.iconst 1, 1) := by decide +kernel
theorem dX1_chargeOverdue_101 : decode cX1_chargeOverdue 101 = .ok (.iadd, 1) := by decide +kernel
theorem dX1_chargeOverdue_102 : decode cX1_chargeOverdue 102 = .ok (.putfield 190, 3) := by decide +kernel
theorem dX1_chargeOverdue_105 : decode cX1_chargeOverdue 105 = .ok (.aload_n 0, 1) := by decide +kernel
theorem dX1_chargeOverdue_106 : decode cX1_chargeOverdue 106 = .ok (.aload_n 3, 1) := by decide +kernel
theorem dX1_chargeOverdue_107 : decode cX1_chargeOverdue 107 = .ok (.aload 5, 2) := by decide +kernel
theorem dX1_chargeOverdue_109 : decode cX1_chargeOverdue 109 = .ok (.invokevirtual 121, 3) := by decide +kernel
theorem dX1_chargeOverdue_112 : decode cX1_chargeOverdue 112 = .ok (.aload_n 0, 1) := by decide +kernel
theorem dX1_chargeOverdue_113 : decode cX1_chargeOverdue 113 = .ok (.aload 5, 2) := by decide +kernel
theorem dX1_chargeOverdue_115 : decode cX1_chargeOverdue 115 = .ok (.invokevirtual 89, 3) := by decide +kernel
theorem dX1_chargeOverdue_118 : decode cX1_chargeOverdue 118 = .ok (.iinc 1 1, 3) := by decide +kernel
theorem dX1_chargeOverdue_121 : decode cX1_chargeOverdue 121 = .ok (.iinc 2 1, 3) := by decide +kernel
theorem dX1_chargeOverdue_124 : decode cX1_chargeOverdue 124 = .ok (.goto (-120), 3) := by decide +kernel
theorem dX1_chargeOverdue_127 : decode cX1_chargeOverdue 127 = .ok (.iload_n 1, 1) := by decide +kernel
theorem dX1_chargeOverdue_128 : decode cX1_chargeOverdue 128 = .ok (.ireturn, 1) := by decide +kernel
theorem dX1_feeOfDay_0 : decode cX1_feeOfDay 0 = .ok (.iload_n 0, 1) := by decide +kernel
theorem dX1_feeOfDay_1 : decode cX1_feeOfDay 1 = .ok (.bipush 7, 2) := by decide +kernel
theorem dX1_feeOfDay_3 : decode cX1_feeOfDay 3 = .ok (.if_icmp .gt 5, 3) := by decide +kernel
theorem dX1_feeOfDay_6 : decode cX1_feeOfDay 6 = .ok (.iconst 1, 1) := by decide +kernel
theorem dX1_feeOfDay_7 : decode cX1_feeOfDay 7 = .ok (.ireturn, 1) := by decide +kernel
theorem dX1_feeOfDay_8 : decode cX1_feeOfDay 8 = .ok (.iload_n 0, 1) := by decide +kernel
theorem dX1_feeOfDay_9 : decode cX1_feeOfDay 9 = .ok (.bipush 14, 2) := by decide +kernel
theorem dX1_feeOfDay_11 : decode cX1_feeOfDay 11 = .ok (.if_icmp .gt 7, 3) := by decide +kernel
theorem dX1_feeOfDay_14 : decode cX1_feeOfDay 14 = .ok (.iconst 2, 1) := by decide +kernel
theorem dX1_feeOfDay_15 : decode cX1_feeOfDay 15 = .ok (.goto 4, 3) := by decide +kernel
theorem dX1_feeOfDay_18 : decode cX1_feeOfDay 18 = .ok (.iconst 4, 1) := by decide +kernel
theorem dX1_feeOfDay_19 : decode cX1_feeOfDay 19 = .ok (.ireturn, 1) := by decide +kernel
theorem dX1_changeSetting_0 : decode cX1_changeSetting 0 = .ok (.iload_n 1, 1) := by decide +kernel
theorem dX1_changeSetting_1 : decode cX1_changeSetting 1 = .ok (.ifCond .lt 24, 3) := by decide +kernel
theorem dX1_changeSetting_4 : decode cX1_changeSetting 4 = .ok (.iload_n 1, 1) := by decide +kernel
theorem dX1_changeSetting_5 : decode cX1_changeSetting 5 = .ok (.iconst 3, 1) := by decide +kernel
theorem dX1_changeSetting_6 : decode cX1_changeSetting 6 = .ok (.if_icmp .ge 19, 3) := by decide +kernel
theorem dX1_changeSetting_9 : decode cX1_changeSetting 9 = .ok (.iload_n 2, 1) := by decide +kernel
theorem dX1_changeSetting_10 : decode cX1_changeSetting 10 = .ok (.iload_n 1, 1) := by decide +kernel
theorem dX1_changeSetting_11 : decode cX1_changeSetting 11 = .ok (.invokestatic 193, 3) := by decide +kernel
theorem dX1_changeSetting_14 : decode cX1_changeSetting 14 = .ok (.if_icmp .lt 11, 3) := by decide +kernel
theorem dX1_changeSetting_17 : decode cX1_changeSetting 17 = .ok (.iload_n 2, 1) := by decide +kernel
theorem dX1_changeSetting_18 : decode cX1_changeSetting 18 = .ok (.iload_n 1, 1) := by decide +kernel
theorem dX1_changeSetting_19 : decode cX1_changeSetting 19 = .ok (.invokestatic 196, 3) := by decide +kernel
theorem dX1_changeSetting_22 : decode cX1_changeSetting 22 = .ok (.if_icmp .le 5, 3) := by decide +kernel
theorem dX1_changeSetting_25 : decode cX1_changeSetting 25 = .ok (.iconst (-1), 1) := by decide +kernel
theorem dX1_changeSetting_26 : decode cX1_changeSetting 26 = .ok (.ireturn, 1) := by decide +kernel
theorem dX1_changeSetting_27 : decode cX1_changeSetting 27 = .ok (.aload_n 0, 1) := by decide +kernel
theorem dX1_changeSetting_28 : decode cX1_changeSetting 28 = .ok (.getfield 33, 3) := by decide +kernel
theorem dX1_changeSetting_31 : decode cX1_changeSetting 31 = .ok (.iload_n 1, 1) := by decide +kernel
theorem dX1_changeSetting_32 : decode cX1_changeSetting 32 = .ok (.iaload, 1) := by decide +kernel
theorem dX1_changeSetting_33 : decode cX1_changeSetting 33 = .ok (.istore_n 3, 1) := by decide +kernel
theorem dX1_changeSetting_34 : decode cX1_changeSetting 34 = .ok (.aload_n 0, 1) := by decide +kernel
theorem dX1_changeSetting_35 : decode cX1_changeSetting 35 = .ok (.getfield 33, 3) := by decide +kernel
theorem dX1_changeSetting_38 : decode cX1_changeSetting 38 = .ok (.iload_n 1, 1) := by decide +kernel
theorem dX1_changeSetting_39 : decode cX1_changeSetting 39 = .ok (.iload_n 2, 1) := by decide +kernel
theorem dX1_changeSetting_40 : decode cX1_changeSetting 40 = .ok (.iastore, 1) := by decide +kernel
theorem dX1_changeSetting_41 : decode cX1_changeSetting 41 = .ok (.iload_n 3, 1) := by decide +kernel
theorem dX1_changeSetting_42 : decode cX1_changeSetting 42 = .ok (.ireturn, 1) := by decide +kernel
theorem dX1_lowestSetting_0 : decode cX1_lowestSetting 0 = .ok (.iload_n 0, 1) := by decide +kernel
theorem dX1_lowestSetting_1 : decode cX1_lowestSetting 1 = .ok (.ifCond .ne 7, 3) := by decide +kernel
theorem dX1_lowestSetting_4 : decode cX1_lowestSetting 4 = .ok (.iconst 1, 1) := by decide +kernel
theorem dX1_lowestSetting_5 : decode cX1_lowestSetting 5 = .ok (.goto 4, 3) := by decide +kernel
theorem dX1_lowestSetting_8 : decode cX1_lowestSetting 8 = .ok (.iconst 0, 1) := by decide +kernel
theorem dX1_lowestSetting_9 : decode cX1_lowestSetting 9 = .ok (.ireturn, 1) := by decide +kernel
theorem dX1_highestSetting_0 : decode cX1_highestSetting 0 = .ok (.iload_n 0, 1) := by decide +kernel
theorem dX1_highestSetting_1 : decode cX1_highestSetting 1 = .ok (.lookupswitch 32 #[(0, 27), (1, 30)], 27) := by decide +kernel
theorem dX1_highestSetting_28 : decode cX1_highestSetting 28 = .ok (.bipush 60, 2) := by decide +kernel
theorem dX1_highestSetting_30 : decode cX1_highestSetting 30 = .ok (.ireturn, 1) := by decide +kernel
theorem dX1_highestSetting_31 : decode cX1_highestSetting 31 = .ok (.iconst 5, 1) := by decide +kernel
theorem dX1_highestSetting_32 : decode cX1_highestSetting 32 = .ok (.ireturn, 1) := by decide +kernel
theorem dX1_highestSetting_33 : decode cX1_highestSetting 33 = .ok (.bipush 99, 2) := by decide +kernel
theorem dX1_highestSetting_35 : decode cX1_highestSetting 35 = .ok (.ireturn, 1) := by decide +kernel
theorem dX1_lowestFree_0 : decode cX1_lowestFree 0 = .ok (.iconst 0, 1) := by decide +kernel
theorem dX1_lowestFree_1 : decode cX1_lowestFree 1 = .ok (.istore_n 2, 1) := by decide +kernel
theorem dX1_lowestFree_2 : decode cX1_lowestFree 2 = .ok (.iload_n 2, 1) := by decide +kernel
theorem dX1_lowestFree_3 : decode cX1_lowestFree 3 = .ok (.bipush 12, 2) := by decide +kernel
theorem dX1_lowestFree_5 : decode cX1_lowestFree 5 = .ok (.if_icmp .ge 38, 3) := by decide +kernel
theorem dX1_lowestFree_8 : decode cX1_lowestFree 8 = .ok (.aload_n 0, 1) := by decide +kernel
theorem dX1_lowestFree_9 : decode cX1_lowestFree 9 = .ok (.getfield 11, 3) := by decide +kernel
theorem dX1_lowestFree_12 : decode cX1_lowestFree 12 = .ok (.iload_n 2, 1) := by decide +kernel
theorem dX1_lowestFree_13 : decode cX1_lowestFree 13 = .ok (.aaload, 1) := by decide +kernel
theorem dX1_lowestFree_14 : decode cX1_lowestFree 14 = .ok (.astore_n 3, 1) := by decide +kernel
theorem dX1_lowestFree_15 : decode cX1_lowestFree 15 = .ok (.aload_n 3, 1) := by decide +kernel
theorem dX1_lowestFree_16 : decode cX1_lowestFree 16 = .ok (.invokevirtual 199, 3) := by decide +kernel
theorem dX1_lowestFree_19 : decode cX1_lowestFree 19 = .ok (.ifCond .eq 18, 3) := by decide +kernel
theorem dX1_lowestFree_22 : decode cX1_lowestFree 22 = .ok (.iload_n 1, 1) := by decide +kernel
theorem dX1_lowestFree_23 : decode cX1_lowestFree 23 = .ok (.iconst 3, 1) := by decide +kernel
theorem dX1_lowestFree_24 : decode cX1_lowestFree 24 = .ok (.if_icmp .eq 11, 3) := by decide +kernel
theorem dX1_lowestFree_27 : decode cX1_lowestFree 27 = .ok (.iload_n 1, 1) := by decide +kernel
theorem dX1_lowestFree_28 : decode cX1_lowestFree 28 = .ok (.aload_n 3, 1) := by decide +kernel
theorem dX1_lowestFree_29 : decode cX1_lowestFree 29 = .ok (.getfield 78, 3) := by decide +kernel
theorem dX1_lowestFree_32 : decode cX1_lowestFree 32 = .ok (.if_icmp .ne 5, 3) := by decide +kernel
theorem dX1_lowestFree_35 : decode cX1_lowestFree 35 = .ok (.aload_n 3, 1) := by decide +kernel
theorem dX1_lowestFree_36 : decode cX1_lowestFree 36 = .ok (.areturn, 1) := by decide +kernel
theorem dX1_lowestFree_37 : decode cX1_lowestFree 37 = .ok (.iinc 2 1, 3) := by decide +kernel
theorem dX1_lowestFree_40 : decode cX1_lowestFree 40 = .ok (.goto (-38), 3) := by decide +kernel
theorem dX1_lowestFree_43 : decode cX1_lowestFree 43 = .ok (.aconst_null, 1) := by decide +kernel
theorem dX1_lowestFree_44 : decode cX1_lowestFree 44 = .ok (.areturn, 1) := by decide +kernel
theorem dX1_offer_0 : decode cX1_offer 0 = .ok (.aload_n 0, 1) := by decide +kernel
theorem dX1_offer_1 : decode cX1_offer 1 = .ok (.aload_n 0, 1) := by decide +kernel
theorem dX1_offer_2 : decode cX1_offer 2 = .ok (.getfield 26, 3) := by decide +kernel
theorem dX1_offer_5 : decode cX1_offer 5 = .ok (.aload_n 1, 1) := by decide +kernel
theorem dX1_offer_6 : decode cX1_offer 6 = .ok (.getfield 78, 3) := by decide +kernel
theorem dX1_offer_9 : decode cX1_offer 9 = .ok (.invokevirtual 124, 3) := by decide +kernel
theorem dX1_offer_12 : decode cX1_offer 12 = .ok (.invokevirtual 67, 3) := by decide +kernel
theorem dX1_offer_15 : decode cX1_offer 15 = .ok (.astore_n 2, 1) := by decide +kernel
theorem dX1_offer_16 : decode cX1_offer 16 = .ok (.aload_n 2, 1) := by decide +kernel
theorem dX1_offer_17 : decode cX1_offer 17 = .ok (.ifnull 27, 3) := by decide +kernel
theorem dX1_offer_20 : decode cX1_offer 20 = .ok (.aload_n 1, 1) := by decide +kernel
theorem dX1_offer_21 : decode cX1_offer 21 = .ok (.invokevirtual 199, 3) := by decide +kernel
theorem dX1_offer_24 : decode cX1_offer 24 = .ok (.ifCond .eq 20, 3) := by decide +kernel
theorem dX1_offer_27 : decode cX1_offer 27 = .ok (.aload_n 0, 1) := by decide +kernel
theorem dX1_offer_28 : decode cX1_offer 28 = .ok (.getfield 26, 3) := by decide +kernel
theorem dX1_offer_31 : decode cX1_offer 31 = .ok (.aload_n 2, 1) := by decide +kernel
theorem dX1_offer_32 : decode cX1_offer 32 = .ok (.getfield 145, 3) := by decide +kernel
theorem dX1_offer_35 : decode cX1_offer 35 = .ok (.invokevirtual 115, 3) := by decide +kernel
theorem dX1_offer_38 : decode cX1_offer 38 = .ok (.aload_n 0, 1) := by decide +kernel
theorem dX1_offer_39 : decode cX1_offer 39 = .ok (.aload_n 2, 1) := by decide +kernel
theorem dX1_offer_40 : decode cX1_offer 40 = .ok (.aload_n 1, 1) := by decide +kernel
theorem dX1_offer_41 : decode cX1_offer 41 = .ok (.invokevirtual 108, 3) := by decide +kernel
theorem dX1_offer_44 : decode cX1_offer 44 = .ok (.return_, 1) := by decide +kernel
theorem dX1_beginLoan_0 : decode cX1_beginLoan 0 = .ok (.aload_n 1, 1) := by decide +kernel
theorem dX1_beginLoan_1 : decode cX1_beginLoan 1 = .ok (.aload_n 2, 1) := by decide +kernel
theorem dX1_beginLoan_2 : decode cX1_beginLoan 2 = .ok (.getfield 112, 3) := by decide +kernel
theorem dX1_beginLoan_5 : decode cX1_beginLoan 5 = .ok (.putfield 71, 3) := by decide +kernel
theorem dX1_beginLoan_8 : decode cX1_beginLoan 8 = .ok (.aload_n 1, 1) := by decide +kernel
theorem dX1_beginLoan_9 : decode cX1_beginLoan 9 = .ok (.aload_n 0, 1) := by decide +kernel
theorem dX1_beginLoan_10 : decode cX1_beginLoan 10 = .ok (.getfield 61, 3) := by decide +kernel
theorem dX1_beginLoan_13 : decode cX1_beginLoan 13 = .ok (.aload_n 0, 1) := by decide +kernel
theorem dX1_beginLoan_14 : decode cX1_beginLoan 14 = .ok (.getfield 33, 3) := by decide +kernel
theorem dX1_beginLoan_17 : decode cX1_beginLoan 17 = .ok (.iconst 0, 1) := by decide +kernel
theorem dX1_beginLoan_18 : decode cX1_beginLoan 18 = .ok (.iaload, 1) := by decide +kernel
theorem dX1_beginLoan_19 : decode cX1_beginLoan 19 = .ok (.iadd, 1) := by decide +kernel
theorem dX1_beginLoan_20 : decode cX1_beginLoan 20 = .ok (.putfield 130, 3) := by decide +kernel
theorem dX1_beginLoan_23 : decode cX1_beginLoan 23 = .ok (.aload_n 1, 1) := by decide +kernel
theorem dX1_beginLoan_24 : decode cX1_beginLoan 24 = .ok (.iconst 0, 1) := by decide +kernel
theorem dX1_beginLoan_25 : decode cX1_beginLoan 25 = .ok (.putfield 127, 3) := by decide +kernel
theorem dX1_beginLoan_28 : decode cX1_beginLoan 28 = .ok (.aload_n 2, 1) := by decide +kernel
theorem dX1_beginLoan_29 : decode cX1_beginLoan 29 = .ok (.aload_n 1, 1) := by decide +kernel
theorem dX1_beginLoan_30 : decode cX1_beginLoan 30 = .ok (.getfield 145, 3) := by decide +kernel
theorem dX1_beginLoan_33 : decode cX1_beginLoan 33 = .ok (.putfield 167, 3) := by decide +kernel
theorem dX1_beginLoan_36 : decode cX1_beginLoan 36 = .ok (.aload_n 2, 1) := by decide +kernel
theorem dX1_beginLoan_37 : decode cX1_beginLoan 37 = .ok (.dup, 1) := by decide +kernel
theorem dX1_beginLoan_38 : decode cX1_beginLoan 38 = .ok (.getfield 203, 3) := by decide +kernel
theorem dX1_beginLoan_41 : decode cX1_beginLoan 41 = .ok (.iconst 1, 1) := by decide +kernel
theorem dX1_beginLoan_42 : decode cX1_beginLoan 42 = .ok (.iadd, 1) := by decide +kernel
theorem dX1_beginLoan_43 : decode cX1_beginLoan 43 = .ok (.putfield 203, 3) := by decide +kernel
theorem dX1_beginLoan_46 : decode cX1_beginLoan 46 = .ok (.return_, 1) := by decide +kernel
theorem dX1_endLoan_0 : decode cX1_endLoan 0 = .ok (.aload_n 1, 1) := by decide +kernel
theorem dX1_endLoan_1 : decode cX1_endLoan 1 = .ok (.iconst (-1), 1) := by decide +kernel
theorem dX1_endLoan_2 : decode cX1_endLoan 2 = .ok (.putfield 71, 3) := by decide +kernel
theorem dX1_endLoan_5 : decode cX1_endLoan 5 = .ok (.aload_n 2, 1) := by decide +kernel
theorem dX1_endLoan_6 : decode cX1_endLoan 6 = .ok (.iconst (-1), 1) := by decide +kernel
theorem dX1_endLoan_7 : decode cX1_endLoan 7 = .ok (.putfield 167, 3) := by decide +kernel
theorem dX1_endLoan_10 : decode cX1_endLoan 10 = .ok (.aload_n 0, 1) := by decide +kernel
theorem dX1_endLoan_11 : decode cX1_endLoan 11 = .ok (.getfield 30, 3) := by decide +kernel
theorem dX1_endLoan_14 : decode cX1_endLoan 14 = .ok (.aload_n 1, 1) := by decide +kernel
theorem dX1_endLoan_15 : decode cX1_endLoan 15 = .ok (.getfield 145, 3) := by decide +kernel
theorem dX1_endLoan_18 : decode cX1_endLoan 18 = .ok (.invokevirtual 115, 3) := by decide +kernel
theorem dX1_endLoan_21 : decode cX1_endLoan 21 = .ok (.return_, 1) := by decide +kernel
theorem dX1_move_0 : decode cX1_move 0 = .ok (.aload_n 0, 1) := by decide +kernel
theorem dX1_move_1 : decode cX1_move 1 = .ok (.iload_n 1, 1) := by decide +kernel
theorem dX1_move_2 : decode cX1_move 2 = .ok (.invokevirtual 67, 3) := by decide +kernel
theorem dX1_move_5 : decode cX1_move 5 = .ok (.astore_n 3, 1) := by decide +kernel
theorem dX1_move_6 : decode cX1_move 6 = .ok (.aload_n 3, 1) := by decide +kernel
theorem dX1_move_7 : decode cX1_move 7 = .ok (.ifnull 7, 3) := by decide +kernel
theorem dX1_move_10 : decode cX1_move 10 = .ok (.aload_n 2, 1) := by decide +kernel
theorem dX1_move_11 : decode cX1_move 11 = .ok (.ifnonnull 4, 3) := by decide +kernel
theorem dX1_move_14 : decode cX1_move 14 = .ok (.return_, 1) := by decide +kernel
theorem dX1_move_15 : decode cX1_move 15 = .ok (.aload_n 3, 1) := by decide +kernel
theorem dX1_move_16 : decode cX1_move 16 = .ok (.aload_n 2, 1) := by decide +kernel
theorem dX1_move_17 : decode cX1_move 17 = .ok (.getfield 112, 3) := by decide +kernel
theorem dX1_move_20 : decode cX1_move 20 = .ok (.putfield 71, 3) := by decide +kernel
theorem dX1_move_23 : decode cX1_move 23 = .ok (.aload_n 2, 1) := by decide +kernel
theorem dX1_move_24 : decode cX1_move 24 = .ok (.iload_n 1, 1) := by decide +kernel
theorem dX1_move_25 : decode cX1_move 25 = .ok (.putfield 167, 3) := by decide +kernel
theorem dX1_move_28 : decode cX1_move 28 = .ok (.aload_n 2, 1) := by decide +kernel
theorem dX1_move_29 : decode cX1_move 29 = .ok (.dup, 1) := by decide +kernel
theorem dX1_move_30 : decode cX1_move 30 = .ok (.getfield 203, 3) := by decide +kernel
theorem dX1_move_33 : decode cX1_move 33 = .ok (.iconst 1, 1) := by decide +kernel
theorem dX1_move_34 : decode cX1_move 34 = .ok (.iadd, 1) := by decide +kernel
theorem dX1_move_35 : decode cX1_move 35 = .ok (.putfield 203, 3) := by decide +kernel
theorem dX1_move_38 : decode cX1_move 38 = .ok (.aload_n 0, 1) := by decide +kernel
theorem dX1_move_39 : decode cX1_move 39 = .ok (.getfield 30, 3) := by decide +kernel
theorem dX1_move_42 : decode cX1_move 42 = .ok (.iload_n 1, 1) := by decide +kernel
theorem dX1_move_43 : decode cX1_move 43 = .ok (.invokevirtual 115, 3) := by decide +kernel
theorem dX1_move_46 : decode cX1_move 46 = .ok (.return_, 1) := by decide +kernel
theorem dX1_tellOfPerson_0 : decode cX1_tellOfPerson 0 = .ok (.aload_n 0, 1) := by decide +kernel
theorem dX1_tellOfPerson_1 : decode cX1_tellOfPerson 1 = .ok (.iload_n 1, 1) := by decide +kernel
theorem dX1_tellOfPerson_2 : decode cX1_tellOfPerson 2 = .ok (.invokevirtual 67, 3) := by decide +kernel
theorem dX1_tellOfPerson_5 : decode cX1_tellOfPerson 5 = .ok (.astore_n 3, 1) := by decide +kernel
theorem dX1_tellOfPerson_6 : decode cX1_tellOfPerson 6 = .ok (.aload_n 3, 1) := by decide +kernel
theorem dX1_tellOfPerson_7 : decode cX1_tellOfPerson 7 = .ok (.ifnull 13, 3) := by decide +kernel
theorem dX1_tellOfPerson_10 : decode cX1_tellOfPerson 10 = .ok (.iload_n 2, 1) := by decide +kernel
theorem dX1_tellOfPerson_11 : decode cX1_tellOfPerson 11 = .ok (.ifCond .lt 9, 3) := by decide +kernel
theorem dX1_tellOfPerson_14 : decode cX1_tellOfPerson 14 = .ok (.iload_n 2, 1) := by decide +kernel
theorem dX1_tellOfPerson_15 : decode cX1_tellOfPerson 15 = .ok (.bipush 9, 2) := by decide +kernel
theorem dX1_tellOfPerson_17 : decode cX1_tellOfPerson 17 = .ok (.if_icmp .le 5, 3) := by decide +kernel
theorem dX1_tellOfPerson_20 : decode cX1_tellOfPerson 20 = .ok (.iconst (-1), 1) := by decide +kernel
theorem dX1_tellOfPerson_21 : decode cX1_tellOfPerson 21 = .ok (.ireturn, 1) := by decide +kernel
theorem dX1_tellOfPerson_22 : decode cX1_tellOfPerson 22 = .ok (.iload_n 2, 1) := by decide +kernel
theorem dX1_tellOfPerson_23 : decode cX1_tellOfPerson 23 = .ok (.iconst 3, 1) := by decide +kernel
theorem dX1_tellOfPerson_24 : decode cX1_tellOfPerson 24 = .ok (.if_icmp .gt 14, 3) := by decide +kernel
theorem dX1_tellOfPerson_27 : decode cX1_tellOfPerson 27 = .ok (.aload_n 3, 1) := by decide +kernel
theorem dX1_tellOfPerson_28 : decode cX1_tellOfPerson 28 = .ok (.getfield 71, 3) := by decide +kernel
theorem dX1_tellOfPerson_31 : decode cX1_tellOfPerson 31 = .ok (.iconst (-1), 1) := by decide +kernel
theorem dX1_tellOfPerson_32 : decode cX1_tellOfPerson 32 = .ok (.if_icmp .ne 6, 3) := by decide +kernel
theorem dX1_tellOfPerson_35 : decode cX1_tellOfPerson 35 = .ok (.bipush (-4), 2) := by decide +kernel
theorem dX1_tellOfPerson_37 : decode cX1_tellOfPerson 37 = .ok (.ireturn, 1) := by decide +kernel
theorem dX1_tellOfPerson_38 : decode cX1_tellOfPerson 38 = .ok (.iload_n 2, 1) := by decide +kernel
theorem dX1_tellOfPerson_39 : decode cX1_tellOfPerson 39 = .ok (.tableswitch 112 0 8 #[49, 54, 59, 64, 73, 78, 83, 95, 107], 49) := by decide +kernel
theorem dX1_tellOfPerson_88 : decode cX1_tellOfPerson 88 = .ok (.aload_n 3, 1) := by decide +kernel
theorem dX1_tellOfPerson_89 : decode cX1_tellOfPerson 89 = .ok (.getfield 71, 3) := by decide +kernel
theorem dX1_tellOfPerson_92 : decode cX1_tellOfPerson 92 = .ok (.ireturn, 1) := by decide +kernel
theorem dX1_tellOfPerson_93 : decode cX1_tellOfPerson 93 = .ok (.aload_n 3, 1) := by decide +kernel
theorem dX1_tellOfPerson_94 : decode cX1_tellOfPerson 94 = .ok (.getfield 130, 3) := by decide +kernel
theorem dX1_tellOfPerson_97 : decode cX1_tellOfPerson 97 = .ok (.ireturn, 1) := by decide +kernel
theorem dX1_tellOfPerson_98 : decode cX1_tellOfPerson 98 = .ok (.aload_n 3, 1) := by decide +kernel
theorem dX1_tellOfPerson_99 : decode cX1_tellOfPerson 99 = .ok (.getfield 127, 3) := by decide +kernel
theorem dX1_tellOfPerson_102 : decode cX1_tellOfPerson 102 = .ok (.ireturn, 1) := by decide +kernel
theorem dX1_tellOfPerson_103 : decode cX1_tellOfPerson 103 = .ok (.aload_n 3, 1) := by decide +kernel
theorem dX1_tellOfPerson_104 : decode cX1_tellOfPerson 104 = .ok (.aload_n 0, 1) := by decide +kernel
theorem dX1_tellOfPerson_105 : decode cX1_tellOfPerson 105 = .ok (.getfield 61, 3) := by decide +kernel
theorem dX1_tellOfPerson_108 : decode cX1_tellOfPerson 108 = .ok (.invokevirtual 118, 3) := by decide +kernel
theorem dX1_tellOfPerson_111 : decode cX1_tellOfPerson 111 = .ok (.ireturn, 1) := by decide +kernel
theorem dX1_tellOfPerson_112 : decode cX1_tellOfPerson 112 = .ok (.aload_n 3, 1) := by decide +kernel
theorem dX1_tellOfPerson_113 : decode cX1_tellOfPerson 113 = .ok (.getfield 95, 3) := by decide +kernel
theorem dX1_tellOfPerson_116 : decode cX1_tellOfPerson 116 = .ok (.ireturn, 1) := by decide +kernel
