theorem dX1_tellOfPerson_117 : decode cX1_tellOfPerson 117 = .ok (.aload_n 3, 1) := by decide +kernel
theorem dX1_tellOfPerson_118 : decode cX1_tellOfPerson 118 = .ok (.getfield 178, 3) := by decide +kernel
theorem dX1_tellOfPerson_121 : decode cX1_tellOfPerson 121 = .ok (.ireturn, 1) := by decide +kernel
theorem dX1_tellOfPerson_122 : decode cX1_tellOfPerson 122 = .ok (.aload_n 0, 1) := by decide +kernel
theorem dX1_tellOfPerson_123 : decode cX1_tellOfPerson 123 = .ok (.getfield 30, 3) := by decide +kernel
theorem dX1_tellOfPerson_126 : decode cX1_tellOfPerson 126 = .ok (.iload_n 1, 1) := by decide +kernel
theorem dX1_tellOfPerson_127 : decode cX1_tellOfPerson 127 = .ok (.invokevirtual 146, 3) := by decide +kernel
theorem dX1_tellOfPerson_130 : decode cX1_tellOfPerson 130 = .ok (.invokestatic 206, 3) := by decide +kernel
theorem dX1_tellOfPerson_133 : decode cX1_tellOfPerson 133 = .ok (.ireturn, 1) := by decide +kernel
theorem dX1_tellOfPerson_134 : decode cX1_tellOfPerson 134 = .ok (.aload_n 0, 1) := by decide +kernel
theorem dX1_tellOfPerson_135 : decode cX1_tellOfPerson 135 = .ok (.getfield 26, 3) := by decide +kernel
theorem dX1_tellOfPerson_138 : decode cX1_tellOfPerson 138 = .ok (.iload_n 1, 1) := by decide +kernel
theorem dX1_tellOfPerson_139 : decode cX1_tellOfPerson 139 = .ok (.invokevirtual 92, 3) := by decide +kernel
theorem dX1_tellOfPerson_142 : decode cX1_tellOfPerson 142 = .ok (.invokestatic 206, 3) := by decide +kernel
theorem dX1_tellOfPerson_145 : decode cX1_tellOfPerson 145 = .ok (.ireturn, 1) := by decide +kernel
theorem dX1_tellOfPerson_146 : decode cX1_tellOfPerson 146 = .ok (.aload_n 3, 1) := by decide +kernel
theorem dX1_tellOfPerson_147 : decode cX1_tellOfPerson 147 = .ok (.getfield 133, 3) := by decide +kernel
theorem dX1_tellOfPerson_150 : decode cX1_tellOfPerson 150 = .ok (.ireturn, 1) := by decide +kernel
theorem dX1_tellOfPerson_151 : decode cX1_tellOfPerson 151 = .ok (.aload_n 3, 1) := by decide +kernel
theorem dX1_tellOfPerson_152 : decode cX1_tellOfPerson 152 = .ok (.getfield 190, 3) := by decide +kernel
theorem dX1_tellOfPerson_155 : decode cX1_tellOfPerson 155 = .ok (.ireturn, 1) := by decide +kernel
theorem dX1_tellOfLocker_0 : decode cX1_tellOfLocker 0 = .ok (.aload_n 0, 1) := by decide +kernel
theorem dX1_tellOfLocker_1 : decode cX1_tellOfLocker 1 = .ok (.iload_n 1, 1) := by decide +kernel
theorem dX1_tellOfLocker_2 : decode cX1_tellOfLocker 2 = .ok (.invokevirtual 74, 3) := by decide +kernel
theorem dX1_tellOfLocker_5 : decode cX1_tellOfLocker 5 = .ok (.astore_n 3, 1) := by decide +kernel
theorem dX1_tellOfLocker_6 : decode cX1_tellOfLocker 6 = .ok (.aload_n 3, 1) := by decide +kernel
theorem dX1_tellOfLocker_7 : decode cX1_tellOfLocker 7 = .ok (.ifnonnull 5, 3) := by decide +kernel
theorem dX1_tellOfLocker_10 : decode cX1_tellOfLocker 10 = .ok (.iconst (-1), 1) := by decide +kernel
theorem dX1_tellOfLocker_11 : decode cX1_tellOfLocker 11 = .ok (.ireturn, 1) := by decide +kernel
theorem dX1_tellOfLocker_12 : decode cX1_tellOfLocker 12 = .ok (.iload_n 2, 1) := by decide +kernel
theorem dX1_tellOfLocker_13 : decode cX1_tellOfLocker 13 = .ok (.tableswitch 108 0 6 #[43, 48, 61, 69, 82, 95, 103], 43) := by decide +kernel
theorem dX1_tellOfLocker_56 : decode cX1_tellOfLocker 56 = .ok (.aload_n 3, 1) := by decide +kernel
theorem dX1_tellOfLocker_57 : decode cX1_tellOfLocker 57 = .ok (.getfield 78, 3) := by decide +kernel
theorem dX1_tellOfLocker_60 : decode cX1_tellOfLocker 60 = .ok (.ireturn, 1) := by decide +kernel
theorem dX1_tellOfLocker_61 : decode cX1_tellOfLocker 61 = .ok (.aload_n 3, 1) := by decide +kernel
theorem dX1_tellOfLocker_62 : decode cX1_tellOfLocker 62 = .ok (.getfield 81, 3) := by decide +kernel
theorem dX1_tellOfLocker_65 : decode cX1_tellOfLocker 65 = .ok (.ifCond .eq 7, 3) := by decide +kernel
theorem dX1_tellOfLocker_68 : decode cX1_tellOfLocker 68 = .ok (.iconst 1, 1) := by decide +kernel
theorem dX1_tellOfLocker_69 : decode cX1_tellOfLocker 69 = .ok (.goto 4, 3) := by decide +kernel
theorem dX1_tellOfLocker_72 : decode cX1_tellOfLocker 72 = .ok (.iconst 0, 1) := by decide +kernel
theorem dX1_tellOfLocker_73 : decode cX1_tellOfLocker 73 = .ok (.ireturn, 1) := by decide +kernel
theorem dX1_tellOfLocker_74 : decode cX1_tellOfLocker 74 = .ok (.aload_n 3, 1) := by decide +kernel
theorem dX1_tellOfLocker_75 : decode cX1_tellOfLocker 75 = .ok (.getfield 167, 3) := by decide +kernel
theorem dX1_tellOfLocker_78 : decode cX1_tellOfLocker 78 = .ok (.invokestatic 206, 3) := by decide +kernel
theorem dX1_tellOfLocker_81 : decode cX1_tellOfLocker 81 = .ok (.ireturn, 1) := by decide +kernel
theorem dX1_tellOfLocker_82 : decode cX1_tellOfLocker 82 = .ok (.aload_n 3, 1) := by decide +kernel
theorem dX1_tellOfLocker_83 : decode cX1_tellOfLocker 83 = .ok (.invokevirtual 199, 3) := by decide +kernel
theorem dX1_tellOfLocker_86 : decode cX1_tellOfLocker 86 = .ok (.ifCond .eq 7, 3) := by decide +kernel
theorem dX1_tellOfLocker_89 : decode cX1_tellOfLocker 89 = .ok (.iconst 1, 1) := by decide +kernel
theorem dX1_tellOfLocker_90 : decode cX1_tellOfLocker 90 = .ok (.goto 4, 3) := by decide +kernel
theorem dX1_tellOfLocker_93 : decode cX1_tellOfLocker 93 = .ok (.iconst 0, 1) := by decide +kernel
theorem dX1_tellOfLocker_94 : decode cX1_tellOfLocker 94 = .ok (.ireturn, 1) := by decide +kernel
theorem dX1_tellOfLocker_95 : decode cX1_tellOfLocker 95 = .ok (.aload_n 3, 1) := by decide +kernel
theorem dX1_tellOfLocker_96 : decode cX1_tellOfLocker 96 = .ok (.getfield 136, 3) := by decide +kernel
theorem dX1_tellOfLocker_99 : decode cX1_tellOfLocker 99 = .ok (.ifCond .eq 7, 3) := by decide +kernel
theorem dX1_tellOfLocker_102 : decode cX1_tellOfLocker 102 = .ok (.iconst 1, 1) := by decide +kernel
theorem dX1_tellOfLocker_103 : decode cX1_tellOfLocker 103 = .ok (.goto 4, 3) := by decide +kernel
theorem dX1_tellOfLocker_106 : decode cX1_tellOfLocker 106 = .ok (.iconst 0, 1) := by decide +kernel
theorem dX1_tellOfLocker_107 : decode cX1_tellOfLocker 107 = .ok (.ireturn, 1) := by decide +kernel
theorem dX1_tellOfLocker_108 : decode cX1_tellOfLocker 108 = .ok (.aload_n 3, 1) := by decide +kernel
theorem dX1_tellOfLocker_109 : decode cX1_tellOfLocker 109 = .ok (.getfield 142, 3) := by decide +kernel
theorem dX1_tellOfLocker_112 : decode cX1_tellOfLocker 112 = .ok (.invokestatic 206, 3) := by decide +kernel
theorem dX1_tellOfLocker_115 : decode cX1_tellOfLocker 115 = .ok (.ireturn, 1) := by decide +kernel
theorem dX1_tellOfLocker_116 : decode cX1_tellOfLocker 116 = .ok (.aload_n 3, 1) := by decide +kernel
theorem dX1_tellOfLocker_117 : decode cX1_tellOfLocker 117 = .ok (.getfield 203, 3) := by decide +kernel
theorem dX1_tellOfLocker_120 : decode cX1_tellOfLocker 120 = .ok (.ireturn, 1) := by decide +kernel
theorem dX1_tellOfLocker_121 : decode cX1_tellOfLocker 121 = .ok (.iconst (-1), 1) := by decide +kernel
theorem dX1_tellOfLocker_122 : decode cX1_tellOfLocker 122 = .ok (.ireturn, 1) := by decide +kernel
theorem dX1_foundOr_0 : decode cX1_foundOr 0 = .ok (.iload_n 0, 1) := by decide +kernel
theorem dX1_foundOr_1 : decode cX1_foundOr 1 = .ok (.iconst (-1), 1) := by decide +kernel
theorem dX1_foundOr_2 : decode cX1_foundOr 2 = .ok (.if_icmp .ne 8, 3) := by decide +kernel
theorem dX1_foundOr_5 : decode cX1_foundOr 5 = .ok (.bipush (-4), 2) := by decide +kernel
theorem dX1_foundOr_7 : decode cX1_foundOr 7 = .ok (.goto 4, 3) := by decide +kernel
theorem dX1_foundOr_10 : decode cX1_foundOr 10 = .ok (.iload_n 0, 1) := by decide +kernel
theorem dX1_foundOr_11 : decode cX1_foundOr 11 = .ok (.ireturn, 1) := by decide +kernel
theorem dX1_tellNumber_0 : decode cX1_tellNumber 0 = .ok (.iload_n 1, 1) := by decide +kernel
theorem dX1_tellNumber_1 : decode cX1_tellNumber 1 = .ok (.tableswitch 134 0 11 #[63, 68, 73, 78, 83, 88, 93, 101, 109, 114, 119, 129], 63) := by decide +kernel
theorem dX1_tellNumber_64 : decode cX1_tellNumber 64 = .ok (.aload_n 0, 1) := by decide +kernel
theorem dX1_tellNumber_65 : decode cX1_tellNumber 65 = .ok (.getfield 54, 3) := by decide +kernel
theorem dX1_tellNumber_68 : decode cX1_tellNumber 68 = .ok (.ireturn, 1) := by decide +kernel
theorem dX1_tellNumber_69 : decode cX1_tellNumber 69 = .ok (.aload_n 0, 1) := by decide +kernel
theorem dX1_tellNumber_70 : decode cX1_tellNumber 70 = .ok (.getfield 58, 3) := by decide +kernel
theorem dX1_tellNumber_73 : decode cX1_tellNumber 73 = .ok (.ireturn, 1) := by decide +kernel
theorem dX1_tellNumber_74 : decode cX1_tellNumber 74 = .ok (.aload_n 0, 1) := by decide +kernel
theorem dX1_tellNumber_75 : decode cX1_tellNumber 75 = .ok (.getfield 61, 3) := by decide +kernel
theorem dX1_tellNumber_78 : decode cX1_tellNumber 78 = .ok (.ireturn, 1) := by decide +kernel
theorem dX1_tellNumber_79 : decode cX1_tellNumber 79 = .ok (.aload_n 0, 1) := by decide +kernel
theorem dX1_tellNumber_80 : decode cX1_tellNumber 80 = .ok (.invokevirtual 209, 3) := by decide +kernel
theorem dX1_tellNumber_83 : decode cX1_tellNumber 83 = .ok (.ireturn, 1) := by decide +kernel
theorem dX1_tellNumber_84 : decode cX1_tellNumber 84 = .ok (.aload_n 0, 1) := by decide +kernel
theorem dX1_tellNumber_85 : decode cX1_tellNumber 85 = .ok (.invokevirtual 212, 3) := by decide +kernel
theorem dX1_tellNumber_88 : decode cX1_tellNumber 88 = .ok (.ireturn, 1) := by decide +kernel
theorem dX1_tellNumber_89 : decode cX1_tellNumber 89 = .ok (.aload_n 0, 1) := by decide +kernel
theorem dX1_tellNumber_90 : decode cX1_tellNumber 90 = .ok (.invokevirtual 215, 3) := by decide +kernel
theorem dX1_tellNumber_93 : decode cX1_tellNumber 93 = .ok (.ireturn, 1) := by decide +kernel
theorem dX1_tellNumber_94 : decode cX1_tellNumber 94 = .ok (.aload_n 0, 1) := by decide +kernel
theorem dX1_tellNumber_95 : decode cX1_tellNumber 95 = .ok (.getfield 26, 3) := by decide +kernel
theorem dX1_tellNumber_98 : decode cX1_tellNumber 98 = .ok (.getfield 105, 3) := by decide +kernel
theorem dX1_tellNumber_101 : decode cX1_tellNumber 101 = .ok (.ireturn, 1) := by decide +kernel
theorem dX1_tellNumber_102 : decode cX1_tellNumber 102 = .ok (.aload_n 0, 1) := by decide +kernel
theorem dX1_tellNumber_103 : decode cX1_tellNumber 103 = .ok (.getfield 30, 3) := by decide +kernel
theorem dX1_tellNumber_106 : decode cX1_tellNumber 106 = .ok (.getfield 105, 3) := by decide +kernel
theorem dX1_tellNumber_109 : decode cX1_tellNumber 109 = .ok (.ireturn, 1) := by decide +kernel
theorem dX1_tellNumber_110 : decode cX1_tellNumber 110 = .ok (.aload_n 0, 1) := by decide +kernel
theorem dX1_tellNumber_111 : decode cX1_tellNumber 111 = .ok (.invokevirtual 218, 3) := by decide +kernel
theorem dX1_tellNumber_114 : decode cX1_tellNumber 114 = .ok (.ireturn, 1) := by decide +kernel
theorem dX1_tellNumber_115 : decode cX1_tellNumber 115 = .ok (.aload_n 0, 1) := by decide +kernel
theorem dX1_tellNumber_116 : decode cX1_tellNumber 116 = .ok (.invokevirtual 221, 3) := by decide +kernel
theorem dX1_tellNumber_119 : decode cX1_tellNumber 119 = .ok (.ireturn, 1) := by decide +kernel
theorem dX1_tellNumber_120 : decode cX1_tellNumber 120 = .ok (.aload_n 0, 1) := by decide +kernel
theorem dX1_tellNumber_121 : decode cX1_tellNumber 121 = .ok (.invokevirtual 218, 3) := by decide +kernel
theorem dX1_tellNumber_124 : decode cX1_tellNumber 124 = .ok (.aload_n 0, 1) := by decide +kernel
theorem dX1_tellNumber_125 : decode cX1_tellNumber 125 = .ok (.invokevirtual 221, 3) := by decide +kernel
theorem dX1_tellNumber_128 : decode cX1_tellNumber 128 = .ok (.iadd, 1) := by decide +kernel
theorem dX1_tellNumber_129 : decode cX1_tellNumber 129 = .ok (.ireturn, 1) := by decide +kernel
theorem dX1_tellNumber_130 : decode cX1_tellNumber 130 = .ok (.aload_n 0, 1) := by decide +kernel
theorem dX1_tellNumber_131 : decode cX1_tellNumber 131 = .ok (.getfield 64, 3) := by decide +kernel
theorem dX1_tellNumber_134 : decode cX1_tellNumber 134 = .ok (.ireturn, 1) := by decide +kernel
theorem dX1_tellNumber_135 : decode cX1_tellNumber 135 = .ok (.aload_n 0, 1) := by decide +kernel
theorem dX1_tellNumber_136 : decode cX1_tellNumber 136 = .ok (.iload_n 1, 1) := by decide +kernel
theorem dX1_tellNumber_137 : decode cX1_tellNumber 137 = .ok (.bipush 20, 2) := by decide +kernel
theorem dX1_tellNumber_139 : decode cX1_tellNumber 139 = .ok (.isub, 1) := by decide +kernel
theorem dX1_tellNumber_140 : decode cX1_tellNumber 140 = .ok (.invokevirtual 224, 3) := by decide +kernel
theorem dX1_tellNumber_143 : decode cX1_tellNumber 143 = .ok (.ireturn, 1) := by decide +kernel
theorem dX1_tellSetting_0 : decode cX1_tellSetting 0 = .ok (.iload_n 1, 1) := by decide +kernel
theorem dX1_tellSetting_1 : decode cX1_tellSetting 1 = .ok (.ifCond .lt 17, 3) := by decide +kernel
theorem dX1_tellSetting_4 : decode cX1_tellSetting 4 = .ok (.iload_n 1, 1) := by decide +kernel
theorem dX1_tellSetting_5 : decode cX1_tellSetting 5 = .ok (.iconst 3, 1) := by decide +kernel
theorem dX1_tellSetting_6 : decode cX1_tellSetting 6 = .ok (.if_icmp .ge 12, 3) := by decide +kernel
theorem dX1_tellSetting_9 : decode cX1_tellSetting 9 = .ok (.aload_n 0, 1) := by decide +kernel
theorem dX1_tellSetting_10 : decode cX1_tellSetting 10 = .ok (.getfield 33, 3) := by decide +kernel
theorem dX1_tellSetting_13 : decode cX1_tellSetting 13 = .ok (.iload_n 1, 1) := by decide +kernel
theorem dX1_tellSetting_14 : decode cX1_tellSetting 14 = .ok (.iaload, 1) := by decide +kernel
theorem dX1_tellSetting_15 : decode cX1_tellSetting 15 = .ok (.goto 4, 3) := by decide +kernel
theorem dX1_tellSetting_18 : decode cX1_tellSetting 18 = .ok (.iconst (-1), 1) := by decide +kernel
theorem dX1_tellSetting_19 : decode cX1_tellSetting 19 = .ok (.ireturn, 1) := by decide +kernel
theorem dX1_standingOf_0 : decode cX1_standingOf 0 = .ok (.iconst 0, 1) := by decide +kernel
theorem dX1_standingOf_1 : decode cX1_standingOf 1 = .ok (.istore_n 2, 1) := by decide +kernel
theorem dX1_standingOf_2 : decode cX1_standingOf 2 = .ok (.iconst 0, 1) := by decide +kernel
theorem dX1_standingOf_3 : decode cX1_standingOf 3 = .ok (.istore_n 3, 1) := by decide +kernel
theorem dX1_standingOf_4 : decode cX1_standingOf 4 = .ok (.iload_n 3, 1) := by decide +kernel
theorem dX1_standingOf_5 : decode cX1_standingOf 5 = .ok (.bipush 12, 2) := by decide +kernel
theorem dX1_standingOf_7 : decode cX1_standingOf 7 = .ok (.if_icmp .ge 42, 3) := by decide +kernel
theorem dX1_standingOf_10 : decode cX1_standingOf 10 = .ok (.iload_n 2, 1) := by decide +kernel
theorem dX1_standingOf_11 : decode cX1_standingOf 11 = .ok (.aload_n 0, 1) := by decide +kernel
theorem dX1_standingOf_12 : decode cX1_standingOf 12 = .ok (.getfield 11, 3) := by decide +kernel
theorem dX1_standingOf_15 : decode cX1_standingOf 15 = .ok (.iload_n 3, 1) := by decide +kernel
theorem dX1_standingOf_16 : decode cX1_standingOf 16 = .ok (.aaload, 1) := by decide +kernel
theorem dX1_standingOf_17 : decode cX1_standingOf 17 = .ok (.getfield 81, 3) := by decide +kernel
theorem dX1_standingOf_20 : decode cX1_standingOf 20 = .ok (.ifCond .eq 20, 3) := by decide +kernel
theorem dX1_standingOf_23 : decode cX1_standingOf 23 = .ok (.aload_n 0, 1) := by decide +kernel
theorem dX1_standingOf_24 : decode cX1_standingOf 24 = .ok (.getfield 11, 3) := by decide +kernel
theorem dX1_standingOf_27 : decode cX1_standingOf 27 = .ok (.iload_n 3, 1) := by decide +kernel
theorem dX1_standingOf_28 : decode cX1_standingOf 28 = .ok (.aaload, 1) := by decide +kernel
theorem dX1_standingOf_29 : decode cX1_standingOf 29 = .ok (.getfield 78, 3) := by decide +kernel
theorem dX1_standingOf_32 : decode cX1_standingOf 32 = .ok (.iload_n 1, 1) := by decide +kernel
theorem dX1_standingOf_33 : decode cX1_standingOf 33 = .ok (.if_icmp .ne 7, 3) := by decide +kernel
theorem dX1_standingOf_36 : decode cX1_standingOf 36 = .ok (.iconst 1, 1) := by decide +kernel
theorem dX1_standingOf_37 : decode cX1_standingOf 37 = .ok (.goto 4, 3) := by decide +kernel
theorem dX1_standingOf_40 : decode cX1_standingOf 40 = .ok (.iconst 0, 1) := by decide +kernel
theorem dX1_standingOf_41 : decode cX1_standingOf 41 = .ok (.iadd, 1) := by decide +kernel
theorem dX1_standingOf_42 : decode cX1_standingOf 42 = .ok (.istore_n 2, 1) := by decide +kernel
theorem dX1_standingOf_43 : decode cX1_standingOf 43 = .ok (.iinc 3 1, 3) := by decide +kernel
theorem dX1_standingOf_46 : decode cX1_standingOf 46 = .ok (.goto (-42), 3) := by decide +kernel
theorem dX1_standingOf_49 : decode cX1_standingOf 49 = .ok (.iload_n 2, 1) := by decide +kernel
theorem dX1_standingOf_50 : decode cX1_standingOf 50 = .ok (.ireturn, 1) := by decide +kernel
theorem dX1_lentLockers_0 : decode cX1_lentLockers 0 = .ok (.iconst 0, 1) := by decide +kernel
theorem dX1_lentLockers_1 : decode cX1_lentLockers 1 = .ok (.istore_n 1, 1) := by decide +kernel
theorem dX1_lentLockers_2 : decode cX1_lentLockers 2 = .ok (.iconst 0, 1) := by decide +kernel
theorem dX1_lentLockers_3 : decode cX1_lentLockers 3 = .ok (.istore_n 2, 1) := by decide +kernel
theorem dX1_lentLockers_4 : decode cX1_lentLockers 4 = .ok (.iload_n 2, 1) := by decide +kernel
theorem dX1_lentLockers_5 : decode cX1_lentLockers 5 = .ok (.bipush 12, 2) := by decide +kernel
theorem dX1_lentLockers_7 : decode cX1_lentLockers 7 = .ok (.if_icmp .ge 30, 3) := by decide +kernel
theorem dX1_lentLockers_10 : decode cX1_lentLockers 10 = .ok (.iload_n 1, 1) := by decide +kernel
theorem dX1_lentLockers_11 : decode cX1_lentLockers 11 = .ok (.aload_n 0, 1) := by decide +kernel
theorem dX1_lentLockers_12 : decode cX1_lentLockers 12 = .ok (.getfield 11, 3) := by decide +kernel
theorem dX1_lentLockers_15 : decode cX1_lentLockers 15 = .ok (.iload_n 2, 1) := by decide +kernel
theorem dX1_lentLockers_16 : decode cX1_lentLockers 16 = .ok (.aaload, 1) := by decide +kernel
theorem dX1_lentLockers_17 : decode cX1_lentLockers 17 = .ok (.getfield 167, 3) := by decide +kernel
theorem dX1_lentLockers_20 : decode cX1_lentLockers 20 = .ok (.iconst (-1), 1) := by decide +kernel
theorem dX1_lentLockers_21 : decode cX1_lentLockers 21 = .ok (.if_icmp .eq 7, 3) := by decide +kernel
theorem dX1_lentLockers_24 : decode cX1_lentLockers 24 = .ok (.iconst 1, 1) := by decide +kernel
theorem dX1_lentLockers_25 : decode cX1_lentLockers 25 = .ok (.goto 4, 3) := by decide +kernel
theorem dX1_lentLockers_28 : decode cX1_lentLockers 28 = .ok (.iconst 0, 1) := by decide +kernel
theorem dX1_lentLockers_29 : decode cX1_lentLockers 29 = .ok (.iadd, 1) := by decide +kernel
theorem dX1_lentLockers_30 : decode cX1_lentLockers 30 = .ok (.istore_n 1, 1) := by decide +kernel
theorem dX1_lentLockers_31 : decode cX1_lentLockers 31 = .ok (.iinc 2 1, 3) := by decide +kernel
theorem dX1_lentLockers_34 : decode cX1_lentLockers 34 = .ok (.goto (-30), 3) := by decide +kernel
theorem dX1_lentLockers_37 : decode cX1_lentLockers 37 = .ok (.iload_n 1, 1) := by decide +kernel
theorem dX1_lentLockers_38 : decode cX1_lentLockers 38 = .ok (.ireturn, 1) := by decide +kernel
theorem dX1_freeLockers_0 : decode cX1_freeLockers 0 = .ok (.iconst 0, 1) := by decide +kernel
theorem dX1_freeLockers_1 : decode cX1_freeLockers 1 = .ok (.istore_n 1, 1) := by decide +kernel
theorem dX1_freeLockers_2 : decode cX1_freeLockers 2 = .ok (.iconst 0, 1) := by decide +kernel
theorem dX1_freeLockers_3 : decode cX1_freeLockers 3 = .ok (.istore_n 2, 1) := by decide +kernel
theorem dX1_freeLockers_4 : decode cX1_freeLockers 4 = .ok (.iload_n 2, 1) := by decide +kernel
theorem dX1_freeLockers_5 : decode cX1_freeLockers 5 = .ok (.bipush 12, 2) := by decide +kernel
theorem dX1_freeLockers_7 : decode cX1_freeLockers 7 = .ok (.if_icmp .ge 29, 3) := by decide +kernel
theorem dX1_freeLockers_10 : decode cX1_freeLockers 10 = .ok (.iload_n 1, 1) := by decide +kernel
theorem dX1_freeLockers_11 : decode cX1_freeLockers 11 = .ok (.aload_n 0, 1) := by decide +kernel
theorem dX1_freeLockers_12 : decode cX1_freeLockers 12 = .ok (.getfield 11, 3) := by decide +kernel
theorem dX1_freeLockers_15 : decode cX1_freeLockers 15 = .ok (.iload_n 2, 1) := by decide +kernel
theorem dX1_freeLockers_16 : decode cX1_freeLockers 16 = .ok (.aaload, 1) := by decide +kernel
theorem dX1_freeLockers_17 : decode cX1_freeLockers 17 = .ok (.invokevirtual 199, 3) := by decide +kernel
theorem dX1_freeLockers_20 : decode cX1_freeLockers 20 = .ok (.ifCond .eq 7, 3) := by decide +kernel
theorem dX1_freeLockers_23 : decode cX1_freeLockers 23 = .ok (.iconst 1, 1) := by decide +kernel
theorem dX1_freeLockers_24 : decode cX1_freeLockers 24 = .ok (.goto 4, 3) := by decide +kernel
theorem dX1_freeLockers_27 : decode cX1_freeLockers 27 = .ok (.iconst 0, 1) := by decide +kernel
theorem dX1_freeLockers_28 : decode cX1_freeLockers 28 = .ok (.iadd, 1) := by decide +kernel
theorem dX1_freeLockers_29 : decode cX1_freeLockers 29 = .ok (.istore_n 1, 1) := by decide +kernel
theorem dX1_freeLockers_30 : decode cX1_freeLockers 30 = .ok (.iinc 2 1, 3) := by decide +kernel
theorem dX1_freeLockers_33 : decode cX1_freeLockers 33 = .ok (.goto (-29), 3) := by decide +kernel
theorem dX1_freeLockers_36 : decode cX1_freeLockers 36 = .ok (.iload_n 1, 1) := by decide +kernel
theorem dX1_freeLockers_37 : decode cX1_freeLockers 37 = .ok (.ireturn, 1) := by decide +kernel
theorem dX1_closedLockers_0 : decode cX1_closedLockers 0 = .ok (.iconst 0, 1) := by decide +kernel
theorem dX1_closedLockers_1 : decode cX1_closedLockers 1 = .ok (.istore_n 1, 1) := by decide +kernel
theorem dX1_closedLockers_2 : decode cX1_closedLockers 2 = .ok (.iconst 0, 1) := by decide +kernel
theorem dX1_closedLockers_3 : decode cX1_closedLockers 3 = .ok (.istore_n 2, 1) := by decide +kernel
theorem dX1_closedLockers_4 : decode cX1_closedLockers 4 = .ok (.iload_n 2, 1) := by decide +kernel
theorem dX1_closedLockers_5 : decode cX1_closedLockers 5 = .ok (.bipush 12, 2) := by decide +kernel
theorem dX1_closedLockers_7 : decode cX1_closedLockers 7 = .ok (.if_icmp .ge 30, 3) := by decide +kernel
theorem dX1_closedLockers_10 : decode cX1_closedLockers 10 = .ok (.iload_n 1, 1) := by decide +kernel
theorem dX1_closedLockers_11 : decode cX1_closedLockers 11 = .ok (.aload_n 0, 1) := by decide +kernel
theorem dX1_closedLockers_12 : decode cX1_closedLockers 12 = .ok (.getfield 11, 3) := by decide +kernel
theorem dX1_closedLockers_15 : decode cX1_closedLockers 15 = .ok (.iload_n 2, 1) := by decide +kernel
theorem dX1_closedLockers_16 : decode cX1_closedLockers 16 = .ok (.aaload, 1) := by decide +kernel
theorem dX1_closedLockers_17 : decode cX1_closedLockers 17 = .ok (.getfield 142, 3) := by decide +kernel
theorem dX1_closedLockers_20 : decode cX1_closedLockers 20 = .ok (.iconst (-1), 1) := by decide +kernel
theorem dX1_closedLockers_21 : decode cX1_closedLockers 21 = .ok (.if_icmp .eq 7, 3) := by decide +kernel
theorem dX1_closedLockers_24 : decode cX1_closedLockers 24 = .ok (.iconst 1, 1) := by decide +kernel
theorem dX1_closedLockers_25 : decode cX1_closedLockers 25 = .ok (.goto 4, 3) := by decide +kernel
theorem dX1_closedLockers_28 : decode cX1_closedLockers 28 = .ok (.iconst 0, 1) := by decide +kernel
theorem dX1_closedLockers_29 : decode cX1_closedLockers 29 = .ok (.iadd, 1) := by decide +kernel
theorem dX1_closedLockers_30 : decode cX1_closedLockers 30 = .ok (.istore_n 1, 1) := by decide +kernel
theorem dX1_closedLockers_31 : decode cX1_closedLockers 31 = .ok (.iinc 2 1, 3) := by decide +kernel
theorem dX1_closedLockers_34 : decode cX1_closedLockers 34 = .ok (.goto (-30), 3) := by decide +kernel
theorem dX1_closedLockers_37 : decode cX1_closedLockers 37 = .ok (.iload_n 1, 1) := by decide +kernel
theorem dX1_closedLockers_38 : decode cX1_closedLockers 38 = .ok (.ireturn, 1) := by decide +kernel
theorem dX1_owedByAll_0 : decode cX1_owedByAll 0 = .ok (.iconst 0, 1) := by decide +kernel
theorem dX1_owedByAll_1 : decode cX1_owedByAll 1 = .ok (.istore_n 1, 1) := by decide +kernel
theorem dX1_owedByAll_2 : decode cX1_owedByAll 2 = .ok (.iconst 0, 1) := by decide +kernel
theorem dX1_owedByAll_3 : decode cX1_owedByAll 3 = .ok (.istore_n 2, 1) := by decide +kernel
theorem dX1_owedByAll_4 : decode cX1_owedByAll 4 = .ok (.iload_n 2, 1) := by decide +kernel
theorem dX1_owedByAll_5 : decode cX1_owedByAll 5 = .ok (.bipush 10, 2) := by decide +kernel
theorem dX1_owedByAll_7 : decode cX1_owedByAll 7 = .ok (.if_icmp .ge 21, 3) := by decide +kernel
theorem dX1_owedByAll_10 : decode cX1_owedByAll 10 = .ok (.iload_n 1, 1) := by decide +kernel
theorem dX1_owedByAll_11 : decode cX1_owedByAll 11 = .ok (.aload_n 0, 1) := by decide +kernel
theorem dX1_owedByAll_12 : decode cX1_owedByAll 12 = .ok (.getfield 19, 3) := by decide +kernel
theorem dX1_owedByAll_15 : decode cX1_owedByAll 15 = .ok (.iload_n 2, 1) := by decide +kernel
theorem dX1_owedByAll_16 : decode cX1_owedByAll 16 = .ok (.aaload, 1) := by decide +kernel
theorem dX1_owedByAll_17 : decode cX1_owedByAll 17 = .ok (.getfield 95, 3) := by decide +kernel
theorem dX1_owedByAll_20 : decode cX1_owedByAll 20 = .ok (.iadd, 1) := by decide +kernel
theorem dX1_owedByAll_21 : decode cX1_owedByAll 21 = .ok (.istore_n 1, 1) := by decide +kernel
theorem dX1_owedByAll_22 : decode cX1_owedByAll 22 = .ok (.iinc 2 1, 3) := by decide +kernel
theorem dX1_owedByAll_25 : decode cX1_owedByAll 25 = .ok (.goto (-21), 3) := by decide +kernel
theorem dX1_owedByAll_28 : decode cX1_owedByAll 28 = .ok (.iload_n 1, 1) := by decide +kernel
theorem dX1_owedByAll_29 : decode cX1_owedByAll 29 = .ok (.ireturn, 1) := by decide +kernel
theorem dX1_paidByAll_0 : decode cX1_paidByAll 0 = .ok (.iconst 0, 1) := by decide +kernel
theorem dX1_paidByAll_1 : decode cX1_paidByAll 1 = .ok (.istore_n 1, 1) := by decide +kernel
theorem dX1_paidByAll_2 : decode cX1_paidByAll 2 = .ok (.iconst 0, 1) := by decide +kernel
theorem dX1_paidByAll_3 : decode cX1_paidByAll 3 = .ok (.istore_n 2, 1) := by decide +kernel
theorem dX1_paidByAll_4 : decode cX1_paidByAll 4 = .ok (.iload_n 2, 1) := by decide +kernel
theorem dX1_paidByAll_5 : decode cX1_paidByAll 5 = .ok (.bipush 10, 2) := by decide +kernel
theorem dX1_paidByAll_7 : decode cX1_paidByAll 7 = .ok (.if_icmp .ge 21, 3) := by decide +kernel
theorem dX1_paidByAll_10 : decode cX1_paidByAll 10 = .ok (.iload_n 1, 1) := by decide +kernel
theorem dX1_paidByAll_11 : decode cX1_paidByAll 11 = .ok (.aload_n 0, 1) := by decide +kernel
theorem dX1_paidByAll_12 : decode cX1_paidByAll 12 = .ok (.getfield 19, 3) := by decide +kernel
theorem dX1_paidByAll_15 : decode cX1_paidByAll 15 = .ok (.iload_n 2, 1) := by decide +kernel
theorem dX1_paidByAll_16 : decode cX1_paidByAll 16 = .ok (.aaload, 1) := by decide +kernel
theorem dX1_paidByAll_17 : decode cX1_paidByAll 17 = .ok (.getfield 178, 3) := by decide +kernel
theorem dX1_paidByAll_20 : decode cX1_paidByAll 20 = .ok (.iadd, 1) := by decide +kernel
theorem dX1_paidByAll_21 : decode cX1_paidByAll 21 = .ok (.istore_n 1, 1) := by decide +kernel
theorem dX1_paidByAll_22 : decode cX1_paidByAll 22 = .ok (.iinc 2 1, 3) := by decide +kernel
theorem dX1_paidByAll_25 : decode cX1_paidByAll 25 = .ok (.goto (-21), 3) := by decide +kernel
theorem dX1_paidByAll_28 : decode cX1_paidByAll 28 = .ok (.iload_n 1, 1) := by decide +kernel
theorem dX1_paidByAll_29 : decode cX1_paidByAll 29 = .ok (.ireturn, 1) := by decide +kernel
theorem dX1_overdueDays_0 : decode cX1_overdueDays 0 = .ok (.iconst 0, 1) := by decide +kernel
theorem dX1_overdueDays_1 : decode cX1_overdueDays 1 = .ok (.istore_n 1, 1) := by decide +kernel
theorem dX1_overdueDays_2 : decode cX1_overdueDays 2 = .ok (.iconst 0, 1) := by decide +kernel
theorem dX1_overdueDays_3 : decode cX1_overdueDays 3 = .ok (.istore_n 2, 1) := by decide +kernel
theorem dX1_overdueDays_4 : decode cX1_overdueDays 4 = .ok (.iload_n 2, 1) := by decide +kernel
theorem dX1_overdueDays_5 : decode cX1_overdueDays 5 = .ok (.bipush 10, 2) := by decide +kernel
theorem dX1_overdueDays_7 : decode cX1_overdueDays 7 = .ok (.if_icmp .ge 25, 3) := by decide +kernel
theorem dX1_overdueDays_10 : decode cX1_overdueDays 10 = .ok (.iload_n 1, 1) := by decide +kernel
theorem dX1_overdueDays_11 : decode cX1_overdueDays 11 = .ok (.aload_n 0, 1) := by decide +kernel
theorem dX1_overdueDays_12 : decode cX1_overdueDays 12 = .ok (.getfield 19, 3) := by decide +kernel
theorem dX1_overdueDays_15 : decode cX1_overdueDays 15 = .ok (.iload_n 2, 1) := by decide +kernel
theorem dX1_overdueDays_16 : decode cX1_overdueDays 16 = .ok (.aaload, 1) := by decide +kernel
theorem dX1_overdueDays_17 : decode cX1_overdueDays 17 = .ok (.aload_n 0, 1) := by decide +kernel
theorem dX1_overdueDays_18 : decode cX1_overdueDays 18 = .ok (.getfield 61, 3) := by decide +kernel
theorem dX1_overdueDays_21 : decode cX1_overdueDays 21 = .ok (.invokevirtual 118, 3) := by decide +kernel
theorem dX1_overdueDays_24 : decode cX1_overdueDays 24 = .ok (.iadd, 1) := by decide +kernel
theorem dX1_overdueDays_25 : decode cX1_overdueDays 25 = .ok (.istore_n 1, 1) := by decide +kernel
theorem dX1_overdueDays_26 : decode cX1_overdueDays 26 = .ok (.iinc 2 1, 3) := by decide +kernel
theorem dX1_overdueDays_29 : decode cX1_overdueDays 29 = .ok (.goto (-25), 3) := by decide +kernel
theorem dX1_overdueDays_32 : decode cX1_overdueDays 32 = .ok (.iload_n 1, 1) := by decide +kernel
theorem dX1_overdueDays_33 : decode cX1_overdueDays 33 = .ok (.ireturn, 1) := by decide +kernel
theorem dX2_init_0 : decode cX2_init 0 = .ok (.aload_n 0, 1) := by decide +kernel
theorem dX2_init_1 : decode cX2_init 1 = .ok (.invokespecial 3, 3) := by decide +kernel
theorem dX2_init_4 : decode cX2_init 4 = .ok (.aload_n 0, 1) := by decide +kernel
theorem dX2_init_5 : decode cX2_init 5 = .ok (.iconst 5, 1) := by decide +kernel
theorem dX2_init_6 : decode cX2_init 6 = .ok (.anewarray 11, 3) := by decide +kernel
theorem dX2_init_9 : decode cX2_init 9 = .ok (.putfield 13, 3) := by decide +kernel
theorem dX2_init_12 : decode cX2_init 12 = .ok (.iconst 0, 1) := by decide +kernel
theorem dX2_init_13 : decode cX2_init 13 = .ok (.istore_n 1, 1) := by decide +kernel
theorem dX2_init_14 : decode cX2_init 14 = .ok (.iload_n 1, 1) := by decide +kernel
theorem dX2_init_15 : decode cX2_init 15 = .ok (.iconst 5, 1) := by decide +kernel
theorem dX2_init_16 : decode cX2_init 16 = .ok (.if_icmp .ge 22, 3) := by decide +kernel
theorem dX2_init_19 : decode cX2_init 19 = .ok (.aload_n 0, 1) := by decide +kernel
theorem dX2_init_20 : decode cX2_init 20 = .ok (.getfield 13, 3) := by decide +kernel
theorem dX2_init_23 : decode cX2_init 23 = .ok (.iload_n 1, 1) := by decide +kernel
theorem dX2_init_24 : decode cX2_init 24 = .ok (.new 11, 3) := by decide +kernel
theorem dX2_init_27 : decode cX2_init 27 = .ok (.dup, 1) := by decide +kernel
theorem dX2_init_28 : decode cX2_init 28 = .ok (.invokespecial 17, 3) := by decide +kernel
theorem dX2_init_31 : decode cX2_init 31 = .ok (.aastore, 1) := by decide +kernel
theorem dX2_init_32 : decode cX2_init 32 = .ok (.iinc 1 1, 3) := by decide +kernel
theorem dX2_init_35 : decode cX2_init 35 = .ok (.goto (-21), 3) := by decide +kernel
theorem dX2_init_38 : decode cX2_init 38 = .ok (.return_, 1) := by decide +kernel
theorem dX2_slot_0 : decode cX2_slot 0 = .ok (.aload_n 0, 1) := by decide +kernel
theorem dX2_slot_1 : decode cX2_slot 1 = .ok (.getfield 13, 3) := by decide +kernel
theorem dX2_slot_4 : decode cX2_slot 4 = .ok (.aload_n 0, 1) := by decide +kernel
theorem dX2_slot_5 : decode cX2_slot 5 = .ok (.getfield 18, 3) := by decide +kernel
theorem dX2_slot_8 : decode cX2_slot 8 = .ok (.iload_n 1, 1) := by decide +kernel
theorem dX2_slot_9 : decode cX2_slot 9 = .ok (.iadd, 1) := by decide +kernel
theorem dX2_slot_10 : decode cX2_slot 10 = .ok (.iconst 5, 1) := by decide +kernel
theorem dX2_slot_11 : decode cX2_slot 11 = .ok (.invokestatic 22, 3) := by decide +kernel
theorem dX2_slot_14 : decode cX2_slot 14 = .ok (.aaload, 1) := by decide +kernel
theorem dX2_slot_15 : decode cX2_slot 15 = .ok (.areturn, 1) := by decide +kernel
theorem dX2_prepare_0 : decode cX2_prepare 0 = .ok (.aload_n 0, 1) := by decide +kernel
theorem dX2_prepare_1 : decode cX2_prepare 1 = .ok (.aload_n 0, 1) := by decide +kernel
theorem dX2_prepare_2 : decode cX2_prepare 2 = .ok (.getfield 28, 3) := by decide +kernel
theorem dX2_prepare_5 : decode cX2_prepare 5 = .ok (.invokevirtual 31, 3) := by decide +kernel
theorem dX2_prepare_8 : decode cX2_prepare 8 = .ok (.aload_n 1, 1) := by decide +kernel
theorem dX2_prepare_9 : decode cX2_prepare 9 = .ok (.invokevirtual 35, 3) := by decide +kernel
theorem dX2_prepare_12 : decode cX2_prepare 12 = .ok (.return_, 1) := by decide +kernel
theorem dX2_settle_0 : decode cX2_settle 0 = .ok (.iload_n 1, 1) := by decide +kernel
theorem dX2_settle_1 : decode cX2_settle 1 = .ok (.ifCond .lt 40, 3) := by decide +kernel
theorem dX2_settle_4 : decode cX2_settle 4 = .ok (.aload_n 0, 1) := by decide +kernel
theorem dX2_settle_5 : decode cX2_settle 5 = .ok (.dup, 1) := by decide +kernel
theorem dX2_settle_6 : decode cX2_settle 6 = .ok (.getfield 28, 3) := by decide +kernel
theorem dX2_settle_9 : decode cX2_settle 9 = .ok (.iconst 1, 1) := by decide +kernel
theorem dX2_settle_10 : decode cX2_settle 10 = .ok (.iadd, 1) := by decide +kernel
theorem dX2_settle_11 : decode cX2_settle 11 = .ok (.putfield 28, 3) := by decide +kernel
theorem dX2_settle_14 : decode cX2_settle 14 = .ok (.aload_n 0, 1) := by decide +kernel
theorem dX2_settle_15 : decode cX2_settle 15 = .ok (.getfield 28, 3) := by decide +kernel
theorem dX2_settle_18 : decode cX2_settle 18 = .ok (.iconst 4, 1) := by decide +kernel
theorem dX2_settle_19 : decode cX2_settle 19 = .ok (.if_icmp .le 22, 3) := by decide +kernel
theorem dX2_settle_22 : decode cX2_settle 22 = .ok (.aload_n 0, 1) := by decide +kernel
theorem dX2_settle_23 : decode cX2_settle 23 = .ok (.iconst 4, 1) := by decide +kernel
theorem dX2_settle_24 : decode cX2_settle 24 = .ok (.putfield 28, 3) := by decide +kernel
theorem dX2_settle_27 : decode cX2_settle 27 = .ok (.aload_n 0, 1) := by decide +kernel
theorem dX2_settle_28 : decode cX2_settle 28 = .ok (.aload_n 0, 1) := by decide +kernel
theorem dX2_settle_29 : decode cX2_settle 29 = .ok (.getfield 18, 3) := by decide +kernel
theorem dX2_settle_32 : decode cX2_settle 32 = .ok (.iconst 1, 1) := by decide +kernel
theorem dX2_settle_33 : decode cX2_settle 33 = .ok (.iadd, 1) := by decide +kernel
theorem dX2_settle_34 : decode cX2_settle 34 = .ok (.iconst 5, 1) := by decide +kernel
theorem dX2_settle_35 : decode cX2_settle 35 = .ok (.invokestatic 22, 3) := by decide +kernel
theorem dX2_settle_38 : decode cX2_settle 38 = .ok (.putfield 18, 3) := by decide +kernel
theorem dX2_settle_41 : decode cX2_settle 41 = .ok (.iload_n 1, 1) := by decide +kernel
theorem dX2_settle_42 : decode cX2_settle 42 = .ok (.ireturn, 1) := by decide +kernel
theorem dX2_restore_0 : decode cX2_restore 0 = .ok (.aload_n 0, 1) := by decide +kernel
theorem dX2_restore_1 : decode cX2_restore 1 = .ok (.getfield 28, 3) := by decide +kernel
theorem dX2_restore_4 : decode cX2_restore 4 = .ok (.ifCond .ne 6, 3) := by decide +kernel
theorem dX2_restore_7 : decode cX2_restore 7 = .ok (.bipush (-2), 2) := by decide +kernel
theorem dX2_restore_9 : decode cX2_restore 9 = .ok (.ireturn, 1) := by decide +kernel
theorem dX2_restore_10 : decode cX2_restore 10 = .ok (.aload_n 0, 1) := by decide +kernel
theorem dX2_restore_11 : decode cX2_restore 11 = .ok (.dup, 1) := by decide +kernel
theorem dX2_restore_12 : decode cX2_restore 12 = .ok (.getfield 28, 3) := by decide +kernel
theorem dX2_restore_15 : decode cX2_restore 15 = .ok (.iconst 1, 1) := by decide +kernel
theorem dX2_restore_16 : decode cX2_restore 16 = .ok (.isub, 1) := by decide +kernel
theorem dX2_restore_17 : decode cX2_restore 17 = .ok (.putfield 28, 3) := by decide +kernel
theorem dX2_restore_20 : decode cX2_restore 20 = .ok (.aload_n 1, 1) := by decide +kernel
theorem dX2_restore_21 : decode cX2_restore 21 = .ok (.aload_n 0, 1) := by decide +kernel
theorem dX2_restore_22 : decode cX2_restore 22 = .ok (.aload_n 0, 1) := by decide +kernel
theorem dX2_restore_23 : decode cX2_restore 23 = .ok (.getfield 28, 3) := by decide +kernel
theorem dX2_restore_26 : decode cX2_restore 26 = .ok (.invokevirtual 31, 3) := by decide +kernel
theorem dX2_restore_29 : decode cX2_restore 29 = .ok (.invokevirtual 35, 3) := by decide +kernel
theorem dX2_restore_32 : decode cX2_restore 32 = .ok (.aload_n 0, 1) := by decide +kernel
theorem dX2_restore_33 : decode cX2_restore 33 = .ok (.getfield 28, 3) := by decide +kernel
theorem dX2_restore_36 : decode cX2_restore 36 = .ok (.ireturn, 1) := by decide +kernel
theorem dX3_init_0 : decode cX3_init 0 = .ok (.aload_n 0, 1) := by decide +kernel
theorem dX3_init_1 : decode cX3_init 1 = .ok (.invokespecial 3, 3) := by decide +kernel
theorem dX3_init_4 : decode cX3_init 4 = .ok (.aload_n 0, 1) := by decide +kernel
theorem dX3_init_5 : decode cX3_init 5 = .ok (.bipush 10, 2) := by decide +kernel
theorem dX3_init_7 : decode cX3_init 7 = .ok (.newarray .int, 2) := by decide +kernel
theorem dX3_init_9 : decode cX3_init 9 = .ok (.putfield 9, 3) := by decide +kernel
theorem dX3_init_12 : decode cX3_init 12 = .ok (.aload_n 0, 1) := by decide +kernel
theorem dX3_init_13 : decode cX3_init 13 = .ok (.bipush 10, 2) := by decide +kernel
theorem dX3_init_15 : decode cX3_init 15 = .ok (.newarray .int, 2) := by decide +kernel
theorem dX3_init_17 : decode cX3_init 17 = .ok (.putfield 15, 3) := by decide +kernel
theorem dX3_init_20 : decode cX3_init 20 = .ok (.return_, 1) := by decide +kernel
theorem dX3_personAt_0 : decode cX3_personAt 0 = .ok (.iload_n 1, 1) := by decide +kernel
theorem dX3_personAt_1 : decode cX3_personAt 1 = .ok (.ifCond .lt 26, 3) := by decide +kernel
theorem dX3_personAt_4 : decode cX3_personAt 4 = .ok (.iload_n 1, 1) := by decide +kernel
theorem dX3_personAt_5 : decode cX3_personAt 5 = .ok (.aload_n 0, 1) := by decide +kernel
theorem dX3_personAt_6 : decode cX3_personAt 6 = .ok (.getfield 18, 3) := by decide +kernel
theorem dX3_personAt_9 : decode cX3_personAt 9 = .ok (.if_icmp .ge 18, 3) := by decide +kernel
theorem dX3_personAt_12 : decode cX3_personAt 12 = .ok (.iload_n 1, 1) := by decide +kernel
theorem dX3_personAt_13 : decode cX3_personAt 13 = .ok (.bipush 10, 2) := by decide +kernel
theorem dX3_personAt_15 : decode cX3_personAt 15 = .ok (.if_icmp .ge 12, 3) := by decide +kernel
theorem dX3_personAt_18 : decode cX3_personAt 18 = .ok (.aload_n 0, 1) := by decide +kernel
theorem dX3_personAt_19 : decode cX3_personAt 19 = .ok (.getfield 9, 3) := by decide +kernel
theorem dX3_personAt_22 : decode cX3_personAt 22 = .ok (.iload_n 1, 1) := by decide +kernel
theorem dX3_personAt_23 : decode cX3_personAt 23 = .ok (.iaload, 1) := by decide +kernel
theorem dX3_personAt_24 : decode cX3_personAt 24 = .ok (.goto 4, 3) := by decide +kernel
theorem dX3_personAt_27 : decode cX3_personAt 27 = .ok (.iconst (-1), 1) := by decide +kernel
theorem dX3_personAt_28 : decode cX3_personAt 28 = .ok (.ireturn, 1) := by decide +kernel
theorem dX3_sizeAt_0 : decode cX3_sizeAt 0 = .ok (.iload_n 1, 1) := by decide +kernel
theorem dX3_sizeAt_1 : decode cX3_sizeAt 1 = .ok (.ifCond .lt 26, 3) := by decide +kernel
theorem dX3_sizeAt_4 : decode cX3_sizeAt 4 = .ok (.iload_n 1, 1) := by decide +kernel
theorem dX3_sizeAt_5 : decode cX3_sizeAt 5 = .ok (.aload_n 0, 1) := by decide +kernel
theorem dX3_sizeAt_6 : decode cX3_sizeAt 6 = .ok (.getfield 18, 3) := by decide +kernel
theorem dX3_sizeAt_9 : decode cX3_sizeAt 9 = .ok (.if_icmp .ge 18, 3) := by decide +kernel
theorem dX3_sizeAt_12 : decode cX3_sizeAt 12 = .ok (.iload_n 1, 1) := by decide +kernel
theorem dX3_sizeAt_13 : decode cX3_sizeAt 13 = .ok (.bipush 10, 2) := by decide +kernel
theorem dX3_sizeAt_15 : decode cX3_sizeAt 15 = .ok (.if_icmp .ge 12, 3) := by decide +kernel
theorem dX3_sizeAt_18 : decode cX3_sizeAt 18 = .ok (.aload_n 0, 1) := by decide +kernel
theorem dX3_sizeAt_19 : decode cX3_sizeAt 19 = .ok (.getfield 15, 3) := by decide +kernel
theorem dX3_sizeAt_22 : decode cX3_sizeAt 22 = .ok (.iload_n 1, 1) := by decide +kernel
theorem dX3_sizeAt_23 : decode cX3_sizeAt 23 = .ok (.iaload, 1) := by decide +kernel
theorem dX3_sizeAt_24 : decode cX3_sizeAt 24 = .ok (.goto 4, 3) := by decide +kernel
theorem dX3_sizeAt_27 : decode cX3_sizeAt 27 = .ok (.iconst (-1), 1) := by decide +kernel
theorem dX3_sizeAt_28 : decode cX3_sizeAt 28 = .ok (.ireturn, 1) := by decide +kernel
theorem dX3_placeOf_0 : decode cX3_placeOf 0 = .ok (.iconst 0, 1) := by decide +kernel
theorem dX3_placeOf_1 : decode cX3_placeOf 1 = .ok (.istore_n 2, 1) := by decide +kernel
theorem dX3_placeOf_2 : decode cX3_placeOf 2 = .ok (.iload_n 2, 1) := by decide +kernel
theorem dX3_placeOf_3 : decode cX3_placeOf 3 = .ok (.aload_n 0, 1) := by decide +kernel
theorem dX3_placeOf_4 : decode cX3_placeOf 4 = .ok (.getfield 18, 3) := by decide +kernel
theorem dX3_placeOf_7 : decode cX3_placeOf 7 = .ok (.if_icmp .ge 27, 3) := by decide +kernel
theorem dX3_placeOf_10 : decode cX3_placeOf 10 = .ok (.iload_n 2, 1) := by decide +kernel
theorem dX3_placeOf_11 : decode cX3_placeOf 11 = .ok (.bipush 10, 2) := by decide +kernel
theorem dX3_placeOf_13 : decode cX3_placeOf 13 = .ok (.if_icmp .ge 21, 3) := by decide +kernel
theorem dX3_placeOf_16 : decode cX3_placeOf 16 = .ok (.aload_n 0, 1) := by decide +kernel
theorem dX3_placeOf_17 : decode cX3_placeOf 17 = .ok (.getfield 9, 3) := by decide +kernel
theorem dX3_placeOf_20 : decode cX3_placeOf 20 = .ok (.iload_n 2, 1) := by decide +kernel
theorem dX3_placeOf_21 : decode cX3_placeOf 21 = .ok (.iaload, 1) := by decide +kernel
theorem dX3_placeOf_22 : decode cX3_placeOf 22 = .ok (.iload_n 1, 1) := by decide +kernel
theorem dX3_placeOf_23 : decode cX3_placeOf 23 = .ok (.if_icmp .ne 5, 3) := by decide +kernel
theorem dX3_placeOf_26 : decode cX3_placeOf 26 = .ok (.iload_n 2, 1) := by decide +kernel
theorem dX3_placeOf_27 : decode cX3_placeOf 27 = .ok (.ireturn, 1) := by decide +kernel
theorem dX3_placeOf_28 : decode cX3_placeOf 28 = .ok (.iinc 2 1, 3) := by decide +kernel
theorem dX3_placeOf_31 : decode cX3_placeOf 31 = .ok (.goto (-29), 3) := by decide +kernel
theorem dX3_placeOf_34 : decode cX3_placeOf 34 = .ok (.iconst (-1), 1) := by decide +kernel
theorem dX3_placeOf_35 : decode cX3_placeOf 35 = .ok (.ireturn, 1) := by decide +kernel
theorem dX3_sizeOf_0 : decode cX3_sizeOf 0 = .ok (.iconst 0, 1) := by decide +kernel
theorem dX3_sizeOf_1 : decode cX3_sizeOf 1 = .ok (.istore_n 2, 1) := by decide +kernel
theorem dX3_sizeOf_2 : decode cX3_sizeOf 2 = .ok (.iload_n 2, 1) := by decide +kernel
theorem dX3_sizeOf_3 : decode cX3_sizeOf 3 = .ok (.aload_n 0, 1) := by decide +kernel
theorem dX3_sizeOf_4 : decode cX3_sizeOf 4 = .ok (.getfield 18, 3) := by decide +kernel
theorem dX3_sizeOf_7 : decode cX3_sizeOf 7 = .ok (.if_icmp .ge 32, 3) := by decide +kernel
theorem dX3_sizeOf_10 : decode cX3_sizeOf 10 = .ok (.iload_n 2, 1) := by decide +kernel
theorem dX3_sizeOf_11 : decode cX3_sizeOf 11 = .ok (.bipush 10, 2) := by decide +kernel
theorem dX3_sizeOf_13 : decode cX3_sizeOf 13 = .ok (.if_icmp .ge 26, 3) := by decide +kernel
theorem dX3_sizeOf_16 : decode cX3_sizeOf 16 = .ok (.aload_n 0, 1) := by decide +kernel
theorem dX3_sizeOf_17 : decode cX3_sizeOf 17 = .ok (.getfield 9, 3) := by decide +kernel
theorem dX3_sizeOf_20 : decode cX3_sizeOf 20 = .ok (.iload_n 2, 1) := by decide +kernel
theorem dX3_sizeOf_21 : decode cX3_sizeOf 21 = .ok (.iaload, 1) := by decide +kernel
theorem dX3_sizeOf_22 : decode cX3_sizeOf 22 = .ok (.iload_n 1, 1) := by decide +kernel
theorem dX3_sizeOf_23 : decode cX3_sizeOf 23 = .ok (.if_icmp .ne 10, 3) := by decide +kernel
theorem dX3_sizeOf_26 : decode cX3_sizeOf 26 = .ok (.aload_n 0, 1) := by decide +kernel
theorem dX3_sizeOf_27 : decode cX3_sizeOf 27 = .ok (.getfield 15, 3) := by decide +kernel
theorem dX3_sizeOf_30 : decode cX3_sizeOf 30 = .ok (.iload_n 2, 1) := by decide +kernel
theorem dX3_sizeOf_31 : decode cX3_sizeOf 31 = .ok (.iaload, 1) := by decide +kernel
theorem dX3_sizeOf_32 : decode cX3_sizeOf 32 = .ok (.ireturn, 1) := by decide +kernel
theorem dX3_sizeOf_33 : decode cX3_sizeOf 33 = .ok (.iinc 2 1, 3) := by decide +kernel
theorem dX3_sizeOf_36 : decode cX3_sizeOf 36 = .ok (.goto (-34), 3) := by decide +kernel
theorem dX3_sizeOf_39 : decode cX3_sizeOf 39 = .ok (.iconst (-1), 1) := by decide +kernel
theorem dX3_sizeOf_40 : decode cX3_sizeOf 40 = .ok (.ireturn, 1) := by decide +kernel
theorem dX3_firstFor_0 : decode cX3_firstFor 0 = .ok (.iconst 0, 1) := by decide +kernel
theorem dX3_firstFor_1 : decode cX3_firstFor 1 = .ok (.istore_n 2, 1) := by decide +kernel
theorem dX3_firstFor_2 : decode cX3_firstFor 2 = .ok (.iload_n 2, 1) := by decide +kernel
theorem dX3_firstFor_3 : decode cX3_firstFor 3 = .ok (.aload_n 0, 1) := by decide +kernel
theorem dX3_firstFor_4 : decode cX3_firstFor 4 = .ok (.getfield 18, 3) := by decide +kernel
theorem dX3_firstFor_7 : decode cX3_firstFor 7 = .ok (.if_icmp .ge 42, 3) := by decide +kernel
theorem dX3_firstFor_10 : decode cX3_firstFor 10 = .ok (.iload_n 2, 1) := by decide +kernel
theorem dX3_firstFor_11 : decode cX3_firstFor 11 = .ok (.bipush 10, 2) := by decide +kernel
theorem dX3_firstFor_13 : decode cX3_firstFor 13 = .ok (.if_icmp .ge 36, 3) := by decide +kernel
theorem dX3_firstFor_16 : decode cX3_firstFor 16 = .ok (.aload_n 0, 1) := by decide +kernel
theorem dX3_firstFor_17 : decode cX3_firstFor 17 = .ok (.getfield 15, 3) := by decide +kernel
theorem dX3_firstFor_20 : decode cX3_firstFor 20 = .ok (.iload_n 2, 1) := by decide +kernel
theorem dX3_firstFor_21 : decode cX3_firstFor 21 = .ok (.iaload, 1) := by decide +kernel
theorem dX3_firstFor_22 : decode cX3_firstFor 22 = .ok (.iload_n 1, 1) := by decide +kernel
theorem dX3_firstFor_23 : decode cX3_firstFor 23 = .ok (.if_icmp .eq 13, 3) := by decide +kernel
theorem dX3_firstFor_26 : decode cX3_firstFor 26 = .ok (.aload_n 0, 1) := by decide +kernel
theorem dX3_firstFor_27 : decode cX3_firstFor 27 = .ok (.getfield 15, 3) := by decide +kernel
theorem dX3_firstFor_30 : decode cX3_firstFor 30 = .ok (.iload_n 2, 1) := by decide +kernel
theorem dX3_firstFor_31 : decode cX3_firstFor 31 = .ok (.iaload, 1) := by decide +kernel
theorem dX3_firstFor_32 : decode cX3_firstFor 32 = .ok (.iconst 3, 1) := by decide +kernel
theorem dX3_firstFor_33 : decode cX3_firstFor 33 = .ok (.if_icmp .ne 10, 3) := by decide +kernel
theorem dX3_firstFor_36 : decode cX3_firstFor 36 = .ok (.aload_n 0, 1) := by decide +kernel
theorem dX3_firstFor_37 : decode cX3_firstFor 37 = .ok (.getfield 9, 3) := by decide +kernel
theorem dX3_firstFor_40 : decode cX3_firstFor 40 = .ok (.iload_n 2, 1) := by decide +kernel
theorem dX3_firstFor_41 : decode cX3_firstFor 41 = .ok (.iaload, 1) := by decide +kernel
theorem dX3_firstFor_42 : decode cX3_firstFor 42 = .ok (.ireturn, 1) := by decide +kernel
theorem dX3_firstFor_43 : decode cX3_firstFor 43 = .ok (.iinc 2 1, 3) := by decide +kernel
theorem dX3_firstFor_46 : decode cX3_firstFor 46 = .ok (.goto (-44), 3) := by decide +kernel
theorem dX3_firstFor_49 : decode cX3_firstFor 49 = .ok (.iconst (-1), 1) := by decide +kernel
theorem dX3_firstFor_50 : decode cX3_firstFor 50 = .ok (.ireturn, 1) := by decide +kernel
theorem dX3_add_0 : decode cX3_add 0 = .ok (.aload_n 0, 1) := by decide +kernel
theorem dX3_add_1 : decode cX3_add 1 = .ok (.getfield 18, 3) := by decide +kernel
theorem dX3_add_4 : decode cX3_add 4 = .ok (.bipush 10, 2) := by decide +kernel
theorem dX3_add_6 : decode cX3_add 6 = .ok (.if_icmp .ge 33, 3) := by decide +kernel
theorem dX3_add_9 : decode cX3_add 9 = .ok (.aload_n 0, 1) := by decide +kernel
theorem dX3_add_10 : decode cX3_add 10 = .ok (.getfield 9, 3) := by decide +kernel
theorem dX3_add_13 : decode cX3_add 13 = .ok (.aload_n 0, 1) := by decide +kernel
theorem dX3_add_14 : decode cX3_add 14 = .ok (.getfield 18, 3) := by decide +kernel
theorem dX3_add_17 : decode cX3_add 17 = .ok (.iload_n 1, 1) := by decide +kernel
theorem dX3_add_18 : decode cX3_add 18 = .ok (.iastore, 1) := by decide +kernel
theorem dX3_add_19 : decode cX3_add 19 = .ok (.aload_n 0, 1) := by decide +kernel
theorem dX3_add_20 : decode cX3_add 20 = .ok (.getfield 15, 3) := by decide +kernel
theorem dX3_add_23 : decode cX3_add 23 = .ok (.aload_n 0, 1) := by decide +kernel
theorem dX3_add_24 : decode cX3_add 24 = .ok (.getfield 18, 3) := by decide +kernel
theorem dX3_add_27 : decode cX3_add 27 = .ok (.iload_n 2, 1) := by decide +kernel
theorem dX3_add_28 : decode cX3_add 28 = .ok (.iastore, 1) := by decide +kernel
theorem dX3_add_29 : decode cX3_add 29 = .ok (.aload_n 0, 1) := by decide +kernel
theorem dX3_add_30 : decode cX3_add 30 = .ok (.dup, 1) := by decide +kernel
theorem dX3_add_31 : decode cX3_add 31 = .ok (.getfield 18, 3) := by decide +kernel
theorem dX3_add_34 : decode cX3_add 34 = .ok (.iconst 1, 1) := by decide +kernel
theorem dX3_add_35 : decode cX3_add 35 = .ok (.iadd, 1) := by decide +kernel
theorem dX3_add_36 : decode cX3_add 36 = .ok (.putfield 18, 3) := by decide +kernel
theorem dX3_add_39 : decode cX3_add 39 = .ok (.return_, 1) := by decide +kernel
theorem dX3_remove_0 : decode cX3_remove 0 = .ok (.iconst 0, 1) := by decide +kernel
theorem dX3_remove_1 : decode cX3_remove 1 = .ok (.istore_n 2, 1) := by decide +kernel
theorem dX3_remove_2 : decode cX3_remove 2 = .ok (.iconst 0, 1) := by decide +kernel
theorem dX3_remove_3 : decode cX3_remove 3 = .ok (.istore_n 3, 1) := by decide +kernel
theorem dX3_remove_4 : decode cX3_remove 4 = .ok (.iload_n 3, 1) := by decide +kernel
theorem dX3_remove_5 : decode cX3_remove 5 = .ok (.aload_n 0, 1) := by decide +kernel
theorem dX3_remove_6 : decode cX3_remove 6 = .ok (.getfield 18, 3) := by decide +kernel
theorem dX3_remove_9 : decode cX3_remove 9 = .ok (.if_icmp .ge 52, 3) := by decide +kernel
theorem dX3_remove_12 : decode cX3_remove 12 = .ok (.iload_n 3, 1) := by decide +kernel
theorem dX3_remove_13 : decode cX3_remove 13 = .ok (.bipush 10, 2) := by decide +kernel
theorem dX3_remove_15 : decode cX3_remove 15 = .ok (.if_icmp .ge 46, 3) := by decide +kernel
theorem dX3_remove_18 : decode cX3_remove 18 = .ok (.aload_n 0, 1) := by decide +kernel
theorem dX3_remove_19 : decode cX3_remove 19 = .ok (.getfield 9, 3) := by decide +kernel
theorem dX3_remove_22 : decode cX3_remove 22 = .ok (.iload_n 3, 1) := by decide +kernel
theorem dX3_remove_23 : decode cX3_remove 23 = .ok (.iaload, 1) := by decide +kernel
theorem dX3_remove_24 : decode cX3_remove 24 = .ok (.iload_n 1, 1) := by decide +kernel
theorem dX3_remove_25 : decode cX3_remove 25 = .ok (.if_icmp .eq 30, 3) := by decide +kernel
theorem dX3_remove_28 : decode cX3_remove 28 = .ok (.aload_n 0, 1) := by decide +kernel
theorem dX3_remove_29 : decode cX3_remove 29 = .ok (.getfield 9, 3) := by decide +kernel
theorem dX3_remove_32 : decode cX3_remove 32 = .ok (.iload_n 2, 1) := by decide +kernel
theorem dX3_remove_33 : decode cX3_remove 33 = .ok (.aload_n 0, 1) := by decide +kernel
theorem dX3_remove_34 : decode cX3_remove 34 = .ok (.getfield 9, 3) := by decide +kernel
theorem dX3_remove_37 : decode cX3_remove 37 = .ok (.iload_n 3, 1) := by decide +kernel
theorem dX3_remove_38 : decode cX3_remove 38 = .ok (.iaload, 1) := by decide +kernel
theorem dX3_remove_39 : decode cX3_remove 39 = .ok (.iastore, 1) := by decide +kernel
theorem dX3_remove_40 : decode cX3_remove 40 = .ok (.aload_n 0, 1) := by decide +kernel
theorem dX3_remove_41 : decode cX3_remove 41 = .ok (.getfield 15, 3) := by decide +kernel
theorem dX3_remove_44 : decode cX3_remove 44 = .ok (.iload_n 2, 1) := by decide +kernel
theorem dX3_remove_45 : decode cX3_remove 45 = .ok (.aload_n 0, 1) := by decide +kernel
theorem dX3_remove_46 : decode cX3_remove 46 = .ok (.getfield 15, 3) := by decide +kernel
theorem dX3_remove_49 : decode cX3_remove 49 = .ok (.iload_n 3, 1) := by decide +kernel
theorem dX3_remove_50 : decode cX3_remove 50 = .ok (.iaload, 1) := by decide +kernel
theorem dX3_remove_51 : decode cX3_remove 51 = .ok (.iastore, 1) := by decide +kernel
theorem dX3_remove_52 : decode cX3_remove 52 = .ok (.iinc 2 1, 3) := by decide +kernel
theorem dX3_remove_55 : decode cX3_remove 55 = .ok (.iinc 3 1, 3) := by decide +kernel
theorem dX3_remove_58 : decode cX3_remove 58 = .ok (.goto (-54), 3) := by decide +kernel
theorem dX3_remove_61 : decode cX3_remove 61 = .ok (.aload_n 0, 1) := by decide +kernel
theorem dX3_remove_62 : decode cX3_remove 62 = .ok (.iload_n 2, 1) := by decide +kernel
theorem dX3_remove_63 : decode cX3_remove 63 = .ok (.putfield 18, 3) := by decide +kernel
theorem dX3_remove_66 : decode cX3_remove 66 = .ok (.return_, 1) := by decide +kernel
theorem dX3_copyFrom_0 : decode cX3_copyFrom 0 = .ok (.iconst 0, 1) := by decide +kernel
theorem dX3_copyFrom_1 : decode cX3_copyFrom 1 = .ok (.istore_n 2, 1) := by decide +kernel
theorem dX3_copyFrom_2 : decode cX3_copyFrom 2 = .ok (.iload_n 2, 1) := by decide +kernel
theorem dX3_copyFrom_3 : decode cX3_copyFrom 3 = .ok (.bipush 10, 2) := by decide +kernel
theorem dX3_copyFrom_5 : decode cX3_copyFrom 5 = .ok (.if_icmp .ge 33, 3) := by decide +kernel
theorem dX3_copyFrom_8 : decode cX3_copyFrom 8 = .ok (.aload_n 0, 1) := by decide +kernel
theorem dX3_copyFrom_9 : decode cX3_copyFrom 9 = .ok (.getfield 9, 3) := by decide +kernel
theorem dX3_copyFrom_12 : decode cX3_copyFrom 12 = .ok (.iload_n 2, 1) := by decide +kernel
theorem dX3_copyFrom_13 : decode cX3_copyFrom 13 = .ok (.aload_n 1, 1) := by decide +kernel
theorem dX3_copyFrom_14 : decode cX3_copyFrom 14 = .ok (.getfield 9, 3) := by decide +kernel
theorem dX3_copyFrom_17 : decode cX3_copyFrom 17 = .ok (.iload_n 2, 1) := by decide +kernel
theorem dX3_copyFrom_18 : decode cX3_copyFrom 18 = .ok (.iaload, 1) := by decide +kernel
theorem dX3_copyFrom_19 : decode cX3_copyFrom 19 = .ok (.iastore, 1) := by decide +kernel
theorem dX3_copyFrom_20 : decode cX3_copyFrom 20 = .ok (.aload_n 0, 1) := by decide +kernel
theorem dX3_copyFrom_21 : decode cX3_copyFrom 21 = .ok (.getfield 15, 3) := by decide +kernel
theorem dX3_copyFrom_24 : decode cX3_copyFrom 24 = .ok (.iload_n 2, 1) := by decide +kernel
theorem dX3_copyFrom_25 : decode cX3_copyFrom 25 = .ok (.aload_n 1, 1) := by decide +kernel
theorem dX3_copyFrom_26 : decode cX3_copyFrom 26 = .ok (.getfield 15, 3) := by decide +kernel
theorem dX3_copyFrom_29 : decode cX3_copyFrom 29 = .ok (.iload_n 2, 1) := by decide +kernel
theorem dX3_copyFrom_30 : decode cX3_copyFrom 30 = .ok (.iaload, 1) := by decide +kernel
theorem dX3_copyFrom_31 : decode cX3_copyFrom 31 = .ok (.iastore, 1) := by decide +kernel
theorem dX3_copyFrom_32 : decode cX3_copyFrom 32 = .ok (.iinc 2 1, 3) := by decide +kernel
theorem dX3_copyFrom_35 : decode cX3_copyFrom 35 = .ok (.goto (-33), 3) := by decide +kernel
theorem dX3_copyFrom_38 : decode cX3_copyFrom 38 = .ok (.aload_n 0, 1) := by decide +kernel
theorem dX3_copyFrom_39 : decode cX3_copyFrom 39 = .ok (.aload_n 1, 1) := by decide +kernel
theorem dX3_copyFrom_40 : decode cX3_copyFrom 40 = .ok (.getfield 18, 3) := by decide +kernel
theorem dX3_copyFrom_43 : decode cX3_copyFrom 43 = .ok (.putfield 18, 3) := by decide +kernel
theorem dX3_copyFrom_46 : decode cX3_copyFrom 46 = .ok (.return_, 1) := by decide +kernel
theorem dX4_init_0 : decode cX4_init 0 = .ok (.aload_n 0, 1) := by decide +kernel
theorem dX4_init_1 : decode cX4_init 1 = .ok (.invokespecial 3, 3) := by decide +kernel
theorem dX4_init_4 : decode cX4_init 4 = .ok (.aload_n 0, 1) := by decide +kernel
theorem dX4_init_5 : decode cX4_init 5 = .ok (.iconst (-1), 1) := by decide +kernel
theorem dX4_init_6 : decode cX4_init 6 = .ok (.putfield 9, 3) := by decide +kernel
theorem dX4_init_9 : decode cX4_init 9 = .ok (.aload_n 0, 1) := by decide +kernel
theorem dX4_init_10 : decode cX4_init 10 = .ok (.iconst 1, 1) := by decide +kernel
theorem dX4_init_11 : decode cX4_init 11 = .ok (.putfield 15, 3) := by decide +kernel
theorem dX4_init_14 : decode cX4_init 14 = .ok (.aload_n 0, 1) := by decide +kernel
theorem dX4_init_15 : decode cX4_init 15 = .ok (.iconst (-1), 1) := by decide +kernel
theorem dX4_init_16 : decode cX4_init 16 = .ok (.putfield 19, 3) := by decide +kernel
theorem dX4_init_19 : decode cX4_init 19 = .ok (.aload_n 0, 1) := by decide +kernel
theorem dX4_init_20 : decode cX4_init 20 = .ok (.iload_n 1, 1) := by decide +kernel
theorem dX4_init_21 : decode cX4_init 21 = .ok (.putfield 22, 3) := by decide +kernel
theorem dX4_init_24 : decode cX4_init 24 = .ok (.return_, 1) := by decide +kernel
theorem dX4_isFree_0 : decode cX4_isFree 0 = .ok (.aload_n 0, 1) := by decide +kernel
theorem dX4_isFree_1 : decode cX4_isFree 1 = .ok (.getfield 25, 3) := by decide +kernel
theorem dX4_isFree_4 : decode cX4_isFree 4 = .ok (.ifCond .eq 23, 3) := by decide +kernel
theorem dX4_isFree_7 : decode cX4_isFree 7 = .ok (.aload_n 0, 1) := by decide +kernel
theorem dX4_isFree_8 : decode cX4_isFree 8 = .ok (.getfield 9, 3) := by decide +kernel
theorem dX4_isFree_11 : decode cX4_isFree 11 = .ok (.iconst (-1), 1) := by decide +kernel
theorem dX4_isFree_12 : decode cX4_isFree 12 = .ok (.if_icmp .ne 15, 3) := by decide +kernel
theorem dX4_isFree_15 : decode cX4_isFree 15 = .ok (.aload_n 0, 1) := by decide +kernel
theorem dX4_isFree_16 : decode cX4_isFree 16 = .ok (.getfield 19, 3) := by decide +kernel
theorem dX4_isFree_19 : decode cX4_isFree 19 = .ok (.iconst (-1), 1) := by decide +kernel
theorem dX4_isFree_20 : decode cX4_isFree 20 = .ok (.if_icmp .ne 7, 3) := by decide +kernel
theorem dX4_isFree_23 : decode cX4_isFree 23 = .ok (.iconst 1, 1) := by decide +kernel
theorem dX4_isFree_24 : decode cX4_isFree 24 = .ok (.goto 4, 3) := by decide +kernel
theorem dX4_isFree_27 : decode cX4_isFree 27 = .ok (.iconst 0, 1) := by decide +kernel
theorem dX4_isFree_28 : decode cX4_isFree 28 = .ok (.ireturn, 1) := by decide +kernel
theorem dX4_copyFrom_0 : decode cX4_copyFrom 0 = .ok (.aload_n 0, 1) := by decide +kernel
theorem dX4_copyFrom_1 : decode cX4_copyFrom 1 = .ok (.aload_n 1, 1) := by decide +kernel
theorem dX4_copyFrom_2 : decode cX4_copyFrom 2 = .ok (.getfield 28, 3) := by decide +kernel
theorem dX4_copyFrom_5 : decode cX4_copyFrom 5 = .ok (.putfield 28, 3) := by decide +kernel
theorem dX4_copyFrom_8 : decode cX4_copyFrom 8 = .ok (.aload_n 0, 1) := by decide +kernel
theorem dX4_copyFrom_9 : decode cX4_copyFrom 9 = .ok (.aload_n 1, 1) := by decide +kernel
theorem dX4_copyFrom_10 : decode cX4_copyFrom 10 = .ok (.getfield 25, 3) := by decide +kernel
theorem dX4_copyFrom_13 : decode cX4_copyFrom 13 = .ok (.putfield 25, 3) := by decide +kernel
theorem dX4_copyFrom_16 : decode cX4_copyFrom 16 = .ok (.aload_n 0, 1) := by decide +kernel
theorem dX4_copyFrom_17 : decode cX4_copyFrom 17 = .ok (.aload_n 1, 1) := by decide +kernel
theorem dX4_copyFrom_18 : decode cX4_copyFrom 18 = .ok (.getfield 9, 3) := by decide +kernel
theorem dX4_copyFrom_21 : decode cX4_copyFrom 21 = .ok (.putfield 9, 3) := by decide +kernel
theorem dX4_copyFrom_24 : decode cX4_copyFrom 24 = .ok (.aload_n 0, 1) := by decide +kernel
theorem dX4_copyFrom_25 : decode cX4_copyFrom 25 = .ok (.aload_n 1, 1) := by decide +kernel
theorem dX4_copyFrom_26 : decode cX4_copyFrom 26 = .ok (.getfield 15, 3) := by decide +kernel
theorem dX4_copyFrom_29 : decode cX4_copyFrom 29 = .ok (.putfield 15, 3) := by decide +kernel
theorem dX4_copyFrom_32 : decode cX4_copyFrom 32 = .ok (.aload_n 0, 1) := by decide +kernel
theorem dX4_copyFrom_33 : decode cX4_copyFrom 33 = .ok (.aload_n 1, 1) := by decide +kernel
theorem dX4_copyFrom_34 : decode cX4_copyFrom 34 = .ok (.getfield 19, 3) := by decide +kernel
theorem dX4_copyFrom_37 : decode cX4_copyFrom 37 = .ok (.putfield 19, 3) := by decide +kernel
theorem dX4_copyFrom_40 : decode cX4_copyFrom 40 = .ok (.aload_n 0, 1) := by decide +kernel
theorem dX4_copyFrom_41 : decode cX4_copyFrom 41 = .ok (.aload_n 1, 1) := by decide +kernel
theorem dX4_copyFrom_42 : decode cX4_copyFrom 42 = .ok (.getfield 31, 3) := by decide +kernel
theorem dX4_copyFrom_45 : decode cX4_copyFrom 45 = .ok (.putfield 31, 3) := by decide +kernel
theorem dX4_copyFrom_48 : decode cX4_copyFrom 48 = .ok (.return_, 1) := by decide +kernel
theorem dX5_init_0 : decode cX5_init 0 = .ok (.aload_n 0, 1) := by decide +kernel
theorem dX5_init_1 : decode cX5_init 1 = .ok (.invokespecial 3, 3) := by decide +kernel
theorem dX5_init_4 : decode cX5_init 4 = .ok (.aload_n 0, 1) := by decide +kernel
theorem dX5_init_5 : decode cX5_init 5 = .ok (.iconst (-1), 1) := by decide +kernel
theorem dX5_init_6 : decode cX5_init 6 = .ok (.putfield 9, 3) := by decide +kernel
theorem dX5_init_9 : decode cX5_init 9 = .ok (.aload_n 0, 1) := by decide +kernel
theorem dX5_init_10 : decode cX5_init 10 = .ok (.iload_n 1, 1) := by decide +kernel
theorem dX5_init_11 : decode cX5_init 11 = .ok (.putfield 15, 3) := by decide +kernel
theorem dX5_init_14 : decode cX5_init 14 = .ok (.return_, 1) := by decide +kernel
theorem dX5_overdueOn_0 : decode cX5_overdueOn 0 = .ok (.aload_n 0, 1) := by decide +kernel
theorem dX5_overdueOn_1 : decode cX5_overdueOn 1 = .ok (.getfield 9, 3) := by decide +kernel
theorem dX5_overdueOn_4 : decode cX5_overdueOn 4 = .ok (.iconst (-1), 1) := by decide +kernel
theorem dX5_overdueOn_5 : decode cX5_overdueOn 5 = .ok (.if_icmp .eq 11, 3) := by decide +kernel
theorem dX5_overdueOn_8 : decode cX5_overdueOn 8 = .ok (.iload_n 1, 1) := by decide +kernel
theorem dX5_overdueOn_9 : decode cX5_overdueOn 9 = .ok (.aload_n 0, 1) := by decide +kernel
theorem dX5_overdueOn_10 : decode cX5_overdueOn 10 = .ok (.getfield 18, 3) := by decide +kernel
theorem dX5_overdueOn_13 : decode cX5_overdueOn 13 = .ok (.if_icmp .gt 7, 3) := by decide +kernel
theorem dX5_overdueOn_16 : decode cX5_overdueOn 16 = .ok (.iconst 0, 1) := by decide +kernel
theorem dX5_overdueOn_17 : decode cX5_overdueOn 17 = .ok (.goto 9, 3) := by decide +kernel
theorem dX5_overdueOn_20 : decode cX5_overdueOn 20 = .ok (.iload_n 1, 1) := by decide +kernel
theorem dX5_overdueOn_21 : decode cX5_overdueOn 21 = .ok (.aload_n 0, 1) := by decide +kernel
theorem dX5_overdueOn_22 : decode cX5_overdueOn 22 = .ok (.getfield 18, 3) := by decide +kernel
theorem dX5_overdueOn_25 : decode cX5_overdueOn 25 = .ok (.isub, 1) := by decide +kernel
theorem dX5_overdueOn_26 : decode cX5_overdueOn 26 = .ok (.ireturn, 1) := by decide +kernel
theorem dX5_copyFrom_0 : decode cX5_copyFrom 0 = .ok (.aload_n 0, 1) := by decide +kernel
theorem dX5_copyFrom_1 : decode cX5_copyFrom 1 = .ok (.aload_n 1, 1) := by decide +kernel
theorem dX5_copyFrom_2 : decode cX5_copyFrom 2 = .ok (.getfield 9, 3) := by decide +kernel
theorem dX5_copyFrom_5 : decode cX5_copyFrom 5 = .ok (.putfield 9, 3) := by decide +kernel
theorem dX5_copyFrom_8 : decode cX5_copyFrom 8 = .ok (.aload_n 0, 1) := by decide +kernel
theorem dX5_copyFrom_9 : decode cX5_copyFrom 9 = .ok (.aload_n 1, 1) := by decide +kernel
theorem dX5_copyFrom_10 : decode cX5_copyFrom 10 = .ok (.getfield 18, 3) := by decide +kernel
theorem dX5_copyFrom_13 : decode cX5_copyFrom 13 = .ok (.putfield 18, 3) := by decide +kernel
theorem dX5_copyFrom_16 : decode cX5_copyFrom 16 = .ok (.aload_n 0, 1) := by decide +kernel
theorem dX5_copyFrom_17 : decode cX5_copyFrom 17 = .ok (.aload_n 1, 1) := by decide +kernel
theorem dX5_copyFrom_18 : decode cX5_copyFrom 18 = .ok (.getfield 21, 3) := by decide +kernel
theorem dX5_copyFrom_21 : decode cX5_copyFrom 21 = .ok (.putfield 21, 3) := by decide +kernel
theorem dX5_copyFrom_24 : decode cX5_copyFrom 24 = .ok (.aload_n 0, 1) := by decide +kernel
theorem dX5_copyFrom_25 : decode cX5_copyFrom 25 = .ok (.aload_n 1, 1) := by decide +kernel
theorem dX5_copyFrom_26 : decode cX5_copyFrom 26 = .ok (.getfield 24, 3) := by decide +kernel
theorem dX5_copyFrom_29 : decode cX5_copyFrom 29 = .ok (.putfield 24, 3) := by decide +kernel
theorem dX5_copyFrom_32 : decode cX5_copyFrom 32 = .ok (.aload_n 0, 1) := by decide +kernel
theorem dX5_copyFrom_33 : decode cX5_copyFrom 33 = .ok (.aload_n 1, 1) := by decide +kernel
theorem dX5_copyFrom_34 : decode cX5_copyFrom 34 = .ok (.getfield 27, 3) := by decide +kernel
theorem dX5_copyFrom_37 : decode cX5_copyFrom 37 = .ok (.putfield 27, 3) := by decide +kernel
theorem dX5_copyFrom_40 : decode cX5_copyFrom 40 = .ok (.aload_n 0, 1) := by decide +kernel
theorem dX5_copyFrom_41 : decode cX5_copyFrom 41 = .ok (.aload_n 1, 1) := by decide +kernel
theorem dX5_copyFrom_42 : decode cX5_copyFrom 42 = .ok (.getfield 30, 3) := by decide +kernel
theorem dX5_copyFrom_45 : decode cX5_copyFrom 45 = .ok (.putfield 30, 3) := by decide +kernel
theorem dX5_copyFrom_48 : decode cX5_copyFrom 48 = .ok (.aload_n 0, 1) := by decide +kernel
theorem dX5_copyFrom_49 : decode cX5_copyFrom 49 = .ok (.aload_n 1, 1) := by decide +kernel
theorem dX5_copyFrom_50 : decode cX5_copyFrom 50 = .ok (.getfield 33, 3) := by decide +kernel
theorem dX5_copyFrom_53 : decode cX5_copyFrom 53 = .ok (.putfield 33, 3) := by decide +kernel
theorem dX5_copyFrom_56 : decode cX5_copyFrom 56 = .ok (.return_, 1) := by decide +kernel
theorem dX6_init_0 : decode cX6_init 0 = .ok (.aload_n 0, 1) := by decide +kernel
theorem dX6_init_1 : decode cX6_init 1 = .ok (.invokespecial 3, 3) := by decide +kernel
theorem dX6_init_4 : decode cX6_init 4 = .ok (.aload_n 0, 1) := by decide +kernel
theorem dX6_init_5 : decode cX6_init 5 = .ok (.new 9, 3) := by decide +kernel
theorem dX6_init_8 : decode cX6_init 8 = .ok (.dup, 1) := by decide +kernel
theorem dX6_init_9 : decode cX6_init 9 = .ok (.invokespecial 11, 3) := by decide +kernel
theorem dX6_init_12 : decode cX6_init 12 = .ok (.putfield 12, 3) := by decide +kernel
theorem dX6_init_15 : decode cX6_init 15 = .ok (.return_, 1) := by decide +kernel
theorem dX6_feeOf_0 : decode cX6_feeOf 0 = .ok (.aload_n 1, 1) := by decide +kernel
theorem dX6_feeOf_1 : decode cX6_feeOf 1 = .ok (.iload_n 2, 1) := by decide +kernel
theorem dX6_feeOf_2 : decode cX6_feeOf 2 = .ok (.invokevirtual 18, 3) := by decide +kernel
theorem dX6_feeOf_5 : decode cX6_feeOf 5 = .ok (.astore 4, 2) := by decide +kernel
theorem dX6_feeOf_7 : decode cX6_feeOf 7 = .ok (.aload 4, 2) := by decide +kernel
theorem dX6_feeOf_9 : decode cX6_feeOf 9 = .ok (.ifnull 14, 3) := by decide +kernel
theorem dX6_feeOf_12 : decode cX6_feeOf 12 = .ok (.iload_n 3, 1) := by decide +kernel
theorem dX6_feeOf_13 : decode cX6_feeOf 13 = .ok (.iconst 1, 1) := by decide +kernel
theorem dX6_feeOf_14 : decode cX6_feeOf 14 = .ok (.if_icmp .lt 9, 3) := by decide +kernel
theorem dX6_feeOf_17 : decode cX6_feeOf 17 = .ok (.iload_n 3, 1) := by decide +kernel
theorem dX6_feeOf_18 : decode cX6_feeOf 18 = .ok (.bipush 99, 2) := by decide +kernel
theorem dX6_feeOf_20 : decode cX6_feeOf 20 = .ok (.if_icmp .le 5, 3) := by decide +kernel
theorem dX6_feeOf_23 : decode cX6_feeOf 23 = .ok (.iconst (-1), 1) := by decide +kernel
theorem dX6_feeOf_24 : decode cX6_feeOf 24 = .ok (.ireturn, 1) := by decide +kernel
theorem dX6_feeOf_25 : decode cX6_feeOf 25 = .ok (.aload_n 0, 1) := by decide +kernel
theorem dX6_feeOf_26 : decode cX6_feeOf 26 = .ok (.getfield 12, 3) := by decide +kernel
theorem dX6_feeOf_29 : decode cX6_feeOf 29 = .ok (.aload_n 1, 1) := by decide +kernel
theorem dX6_feeOf_30 : decode cX6_feeOf 30 = .ok (.invokevirtual 22, 3) := by decide +kernel
theorem dX6_feeOf_33 : decode cX6_feeOf 33 = .ok (.aload_n 0, 1) := by decide +kernel
theorem dX6_feeOf_34 : decode cX6_feeOf 34 = .ok (.getfield 12, 3) := by decide +kernel
theorem dX6_feeOf_37 : decode cX6_feeOf 37 = .ok (.iload_n 3, 1) := by decide +kernel
theorem dX6_feeOf_38 : decode cX6_feeOf 38 = .ok (.sipush 5099, 3) := by decide +kernel
theorem dX6_feeOf_41 : decode cX6_feeOf 41 = .ok (.invokevirtual 26, 3) := by decide +kernel
theorem dX6_feeOf_44 : decode cX6_feeOf 44 = .ok (.pop, 1) := by decide +kernel
theorem dX6_feeOf_45 : decode cX6_feeOf 45 = .ok (.aload_n 0, 1) := by decide +kernel
theorem dX6_feeOf_46 : decode cX6_feeOf 46 = .ok (.getfield 12, 3) := by decide +kernel
theorem dX6_feeOf_49 : decode cX6_feeOf 49 = .ok (.iload_n 2, 1) := by decide +kernel
theorem dX6_feeOf_50 : decode cX6_feeOf 50 = .ok (.invokevirtual 18, 3) := by decide +kernel
theorem dX6_feeOf_53 : decode cX6_feeOf 53 = .ok (.astore 5, 2) := by decide +kernel
theorem dX6_feeOf_55 : decode cX6_feeOf 55 = .ok (.aload 5, 2) := by decide +kernel
theorem dX6_feeOf_57 : decode cX6_feeOf 57 = .ok (.ifnonnull 7, 3) := by decide +kernel
theorem dX6_feeOf_60 : decode cX6_feeOf 60 = .ok (.iconst (-1), 1) := by decide +kernel
theorem dX6_feeOf_61 : decode cX6_feeOf 61 = .ok (.goto 14, 3) := by decide +kernel
theorem dX6_feeOf_64 : decode cX6_feeOf 64 = .ok (.aload 5, 2) := by decide +kernel
theorem dX6_feeOf_66 : decode cX6_feeOf 66 = .ok (.getfield 30, 3) := by decide +kernel
theorem dX6_feeOf_69 : decode cX6_feeOf 69 = .ok (.aload 4, 2) := by decide +kernel
theorem dX6_feeOf_71 : decode cX6_feeOf 71 = .ok (.getfield 30, 3) := by decide +kernel
theorem dX6_feeOf_74 : decode cX6_feeOf 74 = .ok (.isub, 1) := by decide +kernel
theorem dX6_feeOf_75 : decode cX6_feeOf 75 = .ok (.ireturn, 1) := by decide +kernel
theorem dX6_lockerBehindSwapping_0 : decode cX6_lockerBehindSwapping 0 = .ok (.aload_n 0, 1) := by decide +kernel
theorem dX6_lockerBehindSwapping_1 : decode cX6_lockerBehindSwapping 1 = .ok (.getfield 12, 3) := by decide +kernel
theorem dX6_lockerBehindSwapping_4 : decode cX6_lockerBehindSwapping 4 = .ok (.aload_n 1, 1) := by decide +kernel
theorem dX6_lockerBehindSwapping_5 : decode cX6_lockerBehindSwapping 5 = .ok (.invokevirtual 22, 3) := by decide +kernel
theorem dX6_lockerBehindSwapping_8 : decode cX6_lockerBehindSwapping 8 = .ok (.aload_n 0, 1) := by decide +kernel
theorem dX6_lockerBehindSwapping_9 : decode cX6_lockerBehindSwapping 9 = .ok (.getfield 12, 3) := by decide +kernel
theorem dX6_lockerBehindSwapping_12 : decode cX6_lockerBehindSwapping 12 = .ok (.invokevirtual 36, 3) := by decide +kernel
theorem dX6_lockerBehindSwapping_15 : decode cX6_lockerBehindSwapping 15 = .ok (.pop, 1) := by decide +kernel
theorem dX6_lockerBehindSwapping_16 : decode cX6_lockerBehindSwapping 16 = .ok (.aload_n 0, 1) := by decide +kernel
theorem dX6_lockerBehindSwapping_17 : decode cX6_lockerBehindSwapping 17 = .ok (.getfield 12, 3) := by decide +kernel
theorem dX6_lockerBehindSwapping_20 : decode cX6_lockerBehindSwapping 20 = .ok (.iload_n 2, 1) := by decide +kernel
theorem dX6_lockerBehindSwapping_21 : decode cX6_lockerBehindSwapping 21 = .ok (.iconst 0, 1) := by decide +kernel
theorem dX6_lockerBehindSwapping_22 : decode cX6_lockerBehindSwapping 22 = .ok (.invokevirtual 40, 3) := by decide +kernel
theorem dX6_lockerBehindSwapping_25 : decode cX6_lockerBehindSwapping 25 = .ok (.ireturn, 1) := by decide +kernel
theorem dX6_playText_0 : decode cX6_playText 0 = .ok (.aload_n 0, 1) := by decide +kernel
theorem dX6_playText_1 : decode cX6_playText 1 = .ok (.getfield 12, 3) := by decide +kernel
theorem dX6_playText_4 : decode cX6_playText 4 = .ok (.aload_n 1, 1) := by decide +kernel
theorem dX6_playText_5 : decode cX6_playText 5 = .ok (.invokevirtual 22, 3) := by decide +kernel
theorem dX6_playText_8 : decode cX6_playText 8 = .ok (.aload_n 0, 1) := by decide +kernel
theorem dX6_playText_9 : decode cX6_playText 9 = .ok (.iconst (-1), 1) := by decide +kernel
theorem dX6_playText_10 : decode cX6_playText 10 = .ok (.putfield 43, 3) := by decide +kernel
theorem dX6_playText_13 : decode cX6_playText 13 = .ok (.aload_n 0, 1) := by decide +kernel
theorem dX6_playText_14 : decode cX6_playText 14 = .ok (.iconst 0, 1) := by decide +kernel
theorem dX6_playText_15 : decode cX6_playText 15 = .ok (.putfield 46, 3) := by decide +kernel
theorem dX6_playText_18 : decode cX6_playText 18 = .ok (.iconst 0, 1) := by decide +kernel
theorem dX6_playText_19 : decode cX6_playText 19 = .ok (.istore_n 3, 1) := by decide +kernel
theorem dX6_playText_20 : decode cX6_playText 20 = .ok (.iconst 0, 1) := by decide +kernel
theorem dX6_playText_21 : decode cX6_playText 21 = .ok (.istore 4, 2) := by decide +kernel
theorem dX6_playText_23 : decode cX6_playText 23 = .ok (.iload 4, 2) := by decide +kernel
theorem dX6_playText_25 : decode cX6_playText 25 = .ok (.bipush 80, 2) := by decide +kernel
theorem dX6_playText_27 : decode cX6_playText 27 = .ok (.if_icmp .ge 80, 3) := by decide +kernel
theorem dX6_playText_30 : decode cX6_playText 30 = .ok (.iload_n 3, 1) := by decide +kernel
theorem dX6_playText_31 : decode cX6_playText 31 = .ok (.aload_n 2, 1) := by decide +kernel
theorem dX6_playText_32 : decode cX6_playText 32 = .ok (.getfield 49, 3) := by decide +kernel
theorem dX6_playText_35 : decode cX6_playText 35 = .ok (.if_icmp .ge 72, 3) := by decide +kernel
theorem dX6_playText_38 : decode cX6_playText 38 = .ok (.aload_n 2, 1) := by decide +kernel
theorem dX6_playText_39 : decode cX6_playText 39 = .ok (.iload_n 3, 1) := by decide +kernel
theorem dX6_playText_40 : decode cX6_playText 40 = .ok (.invokevirtual 54, 3) := by decide +kernel
theorem dX6_playText_43 : decode cX6_playText 43 = .ok (.ifCond .ne 11, 3) := by decide +kernel
theorem dX6_playText_46 : decode cX6_playText 46 = .ok (.aload_n 0, 1) := by decide +kernel
theorem dX6_playText_47 : decode cX6_playText 47 = .ok (.iload_n 3, 1) := by decide +kernel
theorem dX6_playText_48 : decode cX6_playText 48 = .ok (.iconst 1, 1) := by decide +kernel
theorem dX6_playText_49 : decode cX6_playText 49 = .ok (.iconst 0, 1) := by decide +kernel
theorem dX6_playText_50 : decode cX6_playText 50 = .ok (.invokevirtual 58, 3) := by decide +kernel
theorem dX6_playText_53 : decode cX6_playText 53 = .ok (.return_, 1) := by decide +kernel
theorem dX6_playText_54 : decode cX6_playText 54 = .ok (.aload_n 0, 1) := by decide +kernel
theorem dX6_playText_55 : decode cX6_playText 55 = .ok (.aload_n 2, 1) := by decide +kernel
theorem dX6_playText_56 : decode cX6_playText 56 = .ok (.getfield 62, 3) := by decide +kernel
theorem dX6_playText_59 : decode cX6_playText 59 = .ok (.aload_n 2, 1) := by decide +kernel
theorem dX6_playText_60 : decode cX6_playText 60 = .ok (.getfield 66, 3) := by decide +kernel
theorem dX6_playText_63 : decode cX6_playText 63 = .ok (.aload_n 2, 1) := by decide +kernel
theorem dX6_playText_64 : decode cX6_playText 64 = .ok (.getfield 69, 3) := by decide +kernel
theorem dX6_playText_67 : decode cX6_playText 67 = .ok (.invokevirtual 72, 3) := by decide +kernel
theorem dX6_playText_70 : decode cX6_playText 70 = .ok (.istore 5, 2) := by decide +kernel
theorem dX6_playText_72 : decode cX6_playText 72 = .ok (.iload 5, 2) := by decide +kernel
theorem dX6_playText_74 : decode cX6_playText 74 = .ok (.ifCond .ge 12, 3) := by decide +kernel
theorem dX6_playText_77 : decode cX6_playText 77 = .ok (.aload_n 0, 1) := by decide +kernel
theorem dX6_playText_78 : decode cX6_playText 78 = .ok (.iload_n 3, 1) := by decide +kernel
theorem dX6_playText_79 : decode cX6_playText 79 = .ok (.iconst 2, 1) := by decide +kernel
theorem dX6_playText_80 : decode cX6_playText 80 = .ok (.iload 5, 2) := by decide +kernel
theorem dX6_playText_82 : decode cX6_playText 82 = .ok (.invokevirtual 58, 3) := by decide +kernel
theorem dX6_playText_85 : decode cX6_playText 85 = .ok (.return_, 1) := by decide +kernel
theorem dX6_playText_86 : decode cX6_playText 86 = .ok (.aload_n 0, 1) := by decide +kernel
theorem dX6_playText_87 : decode cX6_playText 87 = .ok (.dup, 1) := by decide +kernel
theorem dX6_playText_88 : decode cX6_playText 88 = .ok (.getfield 46, 3) := by decide +kernel
theorem dX6_playText_91 : decode cX6_playText 91 = .ok (.iconst 1, 1) := by decide +kernel
theorem dX6_playText_92 : decode cX6_playText 92 = .ok (.iadd, 1) := by decide +kernel
theorem dX6_playText_93 : decode cX6_playText 93 = .ok (.putfield 46, 3) := by decide +kernel
theorem dX6_playText_96 : decode cX6_playText 96 = .ok (.aload_n 2, 1) := by decide +kernel
theorem dX6_playText_97 : decode cX6_playText 97 = .ok (.getfield 76, 3) := by decide +kernel
theorem dX6_playText_100 : decode cX6_playText 100 = .ok (.istore_n 3, 1) := by decide +kernel
theorem dX6_playText_101 : decode cX6_playText 101 = .ok (.iinc 4 1, 3) := by decide +kernel
theorem dX6_playText_104 : decode cX6_playText 104 = .ok (.goto (-81), 3) := by decide +kernel
theorem dX6_playText_107 : decode cX6_playText 107 = .ok (.return_, 1) := by decide +kernel
theorem dX6_failed_0 : decode cX6_failed 0 = .ok (.aload_n 0, 1) := by decide +kernel
theorem dX6_failed_1 : decode cX6_failed 1 = .ok (.getfield 43, 3) := by decide +kernel
theorem dX6_failed_4 : decode cX6_failed 4 = .ok (.iconst (-1), 1) := by decide +kernel
theorem dX6_failed_5 : decode cX6_failed 5 = .ok (.if_icmp .eq 7, 3) := by decide +kernel
theorem dX6_failed_8 : decode cX6_failed 8 = .ok (.iconst 1, 1) := by decide +kernel
theorem dX6_failed_9 : decode cX6_failed 9 = .ok (.goto 4, 3) := by decide +kernel
theorem dX6_failed_12 : decode cX6_failed 12 = .ok (.iconst 0, 1) := by decide +kernel
theorem dX6_failed_13 : decode cX6_failed 13 = .ok (.ireturn, 1) := by decide +kernel
theorem dX6_noteFault_0 : decode cX6_noteFault 0 = .ok (.aload_n 0, 1) := by decide +kernel
theorem dX6_noteFault_1 : decode cX6_noteFault 1 = .ok (.iload_n 1, 1) := by decide +kernel
theorem dX6_noteFault_2 : decode cX6_noteFault 2 = .ok (.putfield 43, 3) := by decide +kernel
theorem dX6_noteFault_5 : decode cX6_noteFault 5 = .ok (.aload_n 0, 1) := by decide +kernel
theorem dX6_noteFault_6 : decode cX6_noteFault 6 = .ok (.iload_n 2, 1) := by decide +kernel
theorem dX6_noteFault_7 : decode cX6_noteFault 7 = .ok (.putfield 79, 3) := by decide +kernel
theorem dX6_noteFault_10 : decode cX6_noteFault 10 = .ok (.aload_n 0, 1) := by decide +kernel
theorem dX6_noteFault_11 : decode cX6_noteFault 11 = .ok (.iload_n 3, 1) := by decide +kernel
theorem dX6_noteFault_12 : decode cX6_noteFault 12 = .ok (.putfield 82, 3) := by decide +kernel
theorem dX6_noteFault_15 : decode cX6_noteFault 15 = .ok (.return_, 1) := by decide +kernel
theorem dX6_obey_0 : decode cX6_obey 0 = .ok (.getstatic 85, 3) := by decide +kernel
theorem dX6_obey_3 : decode cX6_obey 3 = .ok (.aload_n 1, 1) := by decide +kernel
theorem dX6_obey_4 : decode cX6_obey 4 = .ok (.invokevirtual 91, 3) := by decide +kernel
theorem dX6_obey_7 : decode cX6_obey 7 = .ok (.iaload, 1) := by decide +kernel
theorem dX6_obey_8 : decode cX6_obey 8 = .ok (.tableswitch 109 1 7 #[44, 54, 63, 72, 81, 91, 99], 44) := by decide +kernel
theorem dX6_obey_52 : decode cX6_obey 52 = .ok (.aload_n 0, 1) := by decide +kernel
theorem dX6_obey_53 : decode cX6_obey 53 = .ok (.getfield 12, 3) := by decide +kernel
theorem dX6_obey_56 : decode cX6_obey 56 = .ok (.iload_n 2, 1) := by decide +kernel
theorem dX6_obey_57 : decode cX6_obey 57 = .ok (.iload_n 3, 1) := by decide +kernel
theorem dX6_obey_58 : decode cX6_obey 58 = .ok (.invokevirtual 96, 3) := by decide +kernel
theorem dX6_obey_61 : decode cX6_obey 61 = .ok (.ireturn, 1) := by decide +kernel
theorem dX6_obey_62 : decode cX6_obey 62 = .ok (.aload_n 0, 1) := by decide +kernel
theorem dX6_obey_63 : decode cX6_obey 63 = .ok (.getfield 12, 3) := by decide +kernel
theorem dX6_obey_66 : decode cX6_obey 66 = .ok (.iload_n 2, 1) := by decide +kernel
theorem dX6_obey_67 : decode cX6_obey 67 = .ok (.invokevirtual 99, 3) := by decide +kernel
theorem dX6_obey_70 : decode cX6_obey 70 = .ok (.ireturn, 1) := by decide +kernel
theorem dX6_obey_71 : decode cX6_obey 71 = .ok (.aload_n 0, 1) := by decide +kernel
theorem dX6_obey_72 : decode cX6_obey 72 = .ok (.getfield 12, 3) := by decide +kernel
theorem dX6_obey_75 : decode cX6_obey 75 = .ok (.iload_n 2, 1) := by decide +kernel
theorem dX6_obey_76 : decode cX6_obey 76 = .ok (.invokevirtual 103, 3) := by decide +kernel
theorem dX6_obey_79 : decode cX6_obey 79 = .ok (.ireturn, 1) := by decide +kernel
theorem dX6_obey_80 : decode cX6_obey 80 = .ok (.aload_n 0, 1) := by decide +kernel
theorem dX6_obey_81 : decode cX6_obey 81 = .ok (.getfield 12, 3) := by decide +kernel
theorem dX6_obey_84 : decode cX6_obey 84 = .ok (.iload_n 2, 1) := by decide +kernel
theorem dX6_obey_85 : decode cX6_obey 85 = .ok (.invokevirtual 106, 3) := by decide +kernel
theorem dX6_obey_88 : decode cX6_obey 88 = .ok (.ireturn, 1) := by decide +kernel
theorem dX6_obey_89 : decode cX6_obey 89 = .ok (.aload_n 0, 1) := by decide +kernel
theorem dX6_obey_90 : decode cX6_obey 90 = .ok (.getfield 12, 3) := by decide +kernel
theorem dX6_obey_93 : decode cX6_obey 93 = .ok (.iload_n 2, 1) := by decide +kernel
theorem dX6_obey_94 : decode cX6_obey 94 = .ok (.iload_n 3, 1) := by decide +kernel
theorem dX6_obey_95 : decode cX6_obey 95 = .ok (.invokevirtual 109, 3) := by decide +kernel
theorem dX6_obey_98 : decode cX6_obey 98 = .ok (.ireturn, 1) := by decide +kernel
theorem dX6_obey_99 : decode cX6_obey 99 = .ok (.aload_n 0, 1) := by decide +kernel
theorem dX6_obey_100 : decode cX6_obey 100 = .ok (.getfield 12, 3) := by decide +kernel
theorem dX6_obey_103 : decode cX6_obey 103 = .ok (.invokevirtual 36, 3) := by decide +kernel
theorem dX6_obey_106 : decode cX6_obey 106 = .ok (.ireturn, 1) := by decide +kernel
theorem dX6_obey_107 : decode cX6_obey 107 = .ok (.aload_n 0, 1) := by decide +kernel
theorem dX6_obey_108 : decode cX6_obey 108 = .ok (.getfield 12, 3) := by decide +kernel
theorem dX6_obey_111 : decode cX6_obey 111 = .ok (.iload_n 2, 1) := by decide +kernel
theorem dX6_obey_112 : decode cX6_obey 112 = .ok (.iload_n 3, 1) := by decide +kernel
theorem dX6_obey_113 : decode cX6_obey 113 = .ok (.invokevirtual 112, 3) := by decide +kernel
theorem dX6_obey_116 : decode cX6_obey 116 = .ok (.ireturn, 1) := by decide +kernel
theorem dX6_obey_117 : decode cX6_obey 117 = .ok (.aload_n 0, 1) := by decide +kernel
theorem dX6_obey_118 : decode cX6_obey 118 = .ok (.getfield 12, 3) := by decide +kernel
theorem dX6_obey_121 : decode cX6_obey 121 = .ok (.iload_n 2, 1) := by decide +kernel
theorem dX6_obey_122 : decode cX6_obey 122 = .ok (.sipush 5000, 3) := by decide +kernel
theorem dX6_obey_125 : decode cX6_obey 125 = .ok (.invokevirtual 26, 3) := by decide +kernel
theorem dX6_obey_128 : decode cX6_obey 128 = .ok (.ireturn, 1) := by decide +kernel
theorem dX7_init_0 : decode cX7_init 0 = .ok (.aload_n 0, 1) := by decide +kernel
theorem dX7_init_1 : decode cX7_init 1 = .ok (.invokespecial 3, 3) := by decide +kernel
theorem dX7_init_4 : decode cX7_init 4 = .ok (.aload_n 0, 1) := by decide +kernel
theorem dX7_init_5 : decode cX7_init 5 = .ok (.bipush 80, 2) := by decide +kernel
theorem dX7_init_7 : decode cX7_init 7 = .ok (.newarray .char, 2) := by decide +kernel
theorem dX7_init_9 : decode cX7_init 9 = .ok (.putfield 9, 3) := by decide +kernel
theorem dX7_init_12 : decode cX7_init 12 = .ok (.return_, 1) := by decide +kernel
theorem dX7_append_0 : decode cX7_append 0 = .ok (.iload_n 1, 1) := by decide +kernel
theorem dX7_append_1 : decode cX7_append 1 = .ok (.bipush 32, 2) := by decide +kernel
theorem dX7_append_3 : decode cX7_append 3 = .ok (.if_icmp .lt 9, 3) := by decide +kernel
theorem dX7_append_6 : decode cX7_append 6 = .ok (.iload_n 1, 1) := by decide +kernel
theorem dX7_append_7 : decode cX7_append 7 = .ok (.bipush 126, 2) := by decide +kernel
theorem dX7_append_9 : decode cX7_append 9 = .ok (.if_icmp .le 5, 3) := by decide +kernel
theorem dX7_append_12 : decode cX7_append 12 = .ok (.iconst (-1), 1) := by decide +kernel
theorem dX7_append_13 : decode cX7_append 13 = .ok (.ireturn, 1) := by decide +kernel
theorem dX7_append_14 : decode cX7_append 14 = .ok (.aload_n 0, 1) := by decide +kernel
theorem dX7_append_15 : decode cX7_append 15 = .ok (.getfield 15, 3) := by decide +kernel
theorem dX7_append_18 : decode cX7_append 18 = .ok (.bipush 80, 2) := by decide +kernel
theorem dX7_append_20 : decode cX7_append 20 = .ok (.if_icmp .lt 6, 3) := by decide +kernel
theorem dX7_append_23 : decode cX7_append 23 = .ok (.bipush (-3), 2) := by decide +kernel
theorem dX7_append_25 : decode cX7_append 25 = .ok (.ireturn, 1) := by decide +kernel
theorem dX7_append_26 : decode cX7_append 26 = .ok (.aload_n 0, 1) := by decide +kernel
theorem dX7_append_27 : decode cX7_append 27 = .ok (.getfield 9, 3) := by decide +kernel
theorem dX7_append_30 : decode cX7_append 30 = .ok (.aload_n 0, 1) := by decide +kernel
theorem dX7_append_31 : decode cX7_append 31 = .ok (.getfield 15, 3) := by decide +kernel
theorem dX7_append_34 : decode cX7_append 34 = .ok (.iload_n 1, 1) := by decide +kernel
theorem dX7_append_35 : decode cX7_append 35 = .ok (.i2c, 1) := by decide +kernel
theorem dX7_append_36 : decode cX7_append 36 = .ok (.castore, 1) := by decide +kernel
theorem dX7_append_37 : decode cX7_append 37 = .ok (.aload_n 0, 1) := by decide +kernel
theorem dX7_append_38 : decode cX7_append 38 = .ok (.dup, 1) := by decide +kernel
theorem dX7_append_39 : decode cX7_append 39 = .ok (.getfield 15, 3) := by decide +kernel
theorem dX7_append_42 : decode cX7_append 42 = .ok (.iconst 1, 1) := by decide +kernel
theorem dX7_append_43 : decode cX7_append 43 = .ok (.iadd, 1) := by decide +kernel
theorem dX7_append_44 : decode cX7_append 44 = .ok (.putfield 15, 3) := by decide +kernel
theorem dX7_append_47 : decode cX7_append 47 = .ok (.aload_n 0, 1) := by decide +kernel
theorem dX7_append_48 : decode cX7_append 48 = .ok (.getfield 15, 3) := by decide +kernel
theorem dX7_append_51 : decode cX7_append 51 = .ok (.ireturn, 1) := by decide +kernel
theorem dX7_clear_0 : decode cX7_clear 0 = .ok (.aload_n 0, 1) := by decide +kernel
theorem dX7_clear_1 : decode cX7_clear 1 = .ok (.getfield 15, 3) := by decide +kernel
theorem dX7_clear_4 : decode cX7_clear 4 = .ok (.istore_n 1, 1) := by decide +kernel
theorem dX7_clear_5 : decode cX7_clear 5 = .ok (.aload_n 0, 1) := by decide +kernel
theorem dX7_clear_6 : decode cX7_clear 6 = .ok (.iconst 0, 1) := by decide +kernel
theorem dX7_clear_7 : decode cX7_clear 7 = .ok (.putfield 15, 3) := by decide +kernel
theorem dX7_clear_10 : decode cX7_clear 10 = .ok (.iload_n 1, 1) := by decide +kernel
theorem dX7_clear_11 : decode cX7_clear 11 = .ok (.ireturn, 1) := by decide +kernel
theorem dX7_readCommand_0 : decode cX7_readCommand 0 = .ok (.aload_n 0, 1) := by decide +kernel
theorem dX7_readCommand_1 : decode cX7_readCommand 1 = .ok (.aload_n 0, 1) := by decide +kernel
theorem dX7_readCommand_2 : decode cX7_readCommand 2 = .ok (.iload_n 1, 1) := by decide +kernel
theorem dX7_readCommand_3 : decode cX7_readCommand 3 = .ok (.invokevirtual 19, 3) := by decide +kernel
theorem dX7_readCommand_6 : decode cX7_readCommand 6 = .ok (.putfield 23, 3) := by decide +kernel
theorem dX7_readCommand_9 : decode cX7_readCommand 9 = .ok (.aload_n 0, 1) := by decide +kernel
theorem dX7_readCommand_10 : decode cX7_readCommand 10 = .ok (.getfield 23, 3) := by decide +kernel
theorem dX7_readCommand_13 : decode cX7_readCommand 13 = .ok (.ifnonnull 5, 3) := by decide +kernel
theorem dX7_readCommand_16 : decode cX7_readCommand 16 = .ok (.iconst 0, 1) := by decide +kernel
theorem dX7_readCommand_17 : decode cX7_readCommand 17 = .ok (.ireturn, 1) := by decide +kernel
theorem dX7_readCommand_18 : decode cX7_readCommand 18 = .ok (.aload_n 0, 1) := by decide +kernel
theorem dX7_readCommand_19 : decode cX7_readCommand 19 = .ok (.iload_n 1, 1) := by decide +kernel
theorem dX7_readCommand_20 : decode cX7_readCommand 20 = .ok (.aload_n 0, 1) := by decide +kernel
theorem dX7_readCommand_21 : decode cX7_readCommand 21 = .ok (.getfield 23, 3) := by decide +kernel
theorem dX7_readCommand_24 : decode cX7_readCommand 24 = .ok (.getfield 27, 3) := by decide +kernel
theorem dX7_readCommand_27 : decode cX7_readCommand 27 = .ok (.invokevirtual 33, 3) := by decide +kernel
theorem dX7_readCommand_30 : decode cX7_readCommand 30 = .ok (.iadd, 1) := by decide +kernel
theorem dX7_readCommand_31 : decode cX7_readCommand 31 = .ok (.putfield 38, 3) := by decide +kernel
theorem dX7_readCommand_34 : decode cX7_readCommand 34 = .ok (.aload_n 0, 1) := by decide +kernel
theorem dX7_readCommand_35 : decode cX7_readCommand 35 = .ok (.aload_n 0, 1) := by decide +kernel
theorem dX7_readCommand_36 : decode cX7_readCommand 36 = .ok (.getfield 23, 3) := by decide +kernel
theorem dX7_readCommand_39 : decode cX7_readCommand 39 = .ok (.getfield 41, 3) := by decide +kernel
theorem dX7_readCommand_42 : decode cX7_readCommand 42 = .ok (.iconst 1, 1) := by decide +kernel
theorem dX7_readCommand_43 : decode cX7_readCommand 43 = .ok (.if_icmp .lt 10, 3) := by decide +kernel
theorem dX7_readCommand_46 : decode cX7_readCommand 46 = .ok (.aload_n 0, 1) := by decide +kernel
theorem dX7_readCommand_47 : decode cX7_readCommand 47 = .ok (.invokevirtual 44, 3) := by decide +kernel
theorem dX7_readCommand_50 : decode cX7_readCommand 50 = .ok (.goto 4, 3) := by decide +kernel
theorem dX7_readCommand_53 : decode cX7_readCommand 53 = .ok (.iconst 0, 1) := by decide +kernel
theorem dX7_readCommand_54 : decode cX7_readCommand 54 = .ok (.putfield 47, 3) := by decide +kernel
theorem dX7_readCommand_57 : decode cX7_readCommand 57 = .ok (.aload_n 0, 1) := by decide +kernel
theorem dX7_readCommand_58 : decode cX7_readCommand 58 = .ok (.aload_n 0, 1) := by decide +kernel
theorem dX7_readCommand_59 : decode cX7_readCommand 59 = .ok (.getfield 23, 3) := by decide +kernel
theorem dX7_readCommand_62 : decode cX7_readCommand 62 = .ok (.getfield 41, 3) := by decide +kernel
theorem dX7_readCommand_65 : decode cX7_readCommand 65 = .ok (.iconst 2, 1) := by decide +kernel
theorem dX7_readCommand_66 : decode cX7_readCommand 66 = .ok (.if_icmp .lt 10, 3) := by decide +kernel
theorem dX7_readCommand_69 : decode cX7_readCommand 69 = .ok (.aload_n 0, 1) := by decide +kernel
theorem dX7_readCommand_70 : decode cX7_readCommand 70 = .ok (.invokevirtual 44, 3) := by decide +kernel
theorem dX7_readCommand_73 : decode cX7_readCommand 73 = .ok (.goto 4, 3) := by decide +kernel
theorem dX7_readCommand_76 : decode cX7_readCommand 76 = .ok (.iconst 0, 1) := by decide +kernel
theorem dX7_readCommand_77 : decode cX7_readCommand 77 = .ok (.putfield 50, 3) := by decide +kernel
theorem dX7_readCommand_80 : decode cX7_readCommand 80 = .ok (.aload_n 0, 1) := by decide +kernel
theorem dX7_readCommand_81 : decode cX7_readCommand 81 = .ok (.getfield 47, 3) := by decide +kernel
theorem dX7_readCommand_84 : decode cX7_readCommand 84 = .ok (.iconst (-1), 1) := by decide +kernel
theorem dX7_readCommand_85 : decode cX7_readCommand 85 = .ok (.if_icmp .eq 24, 3) := by decide +kernel
theorem dX7_readCommand_88 : decode cX7_readCommand 88 = .ok (.aload_n 0, 1) := by decide +kernel
theorem dX7_readCommand_89 : decode cX7_readCommand 89 = .ok (.getfield 50, 3) := by decide +kernel
theorem dX7_readCommand_92 : decode cX7_readCommand 92 = .ok (.iconst (-1), 1) := by decide +kernel
theorem dX7_readCommand_93 : decode cX7_readCommand 93 = .ok (.if_icmp .eq 16, 3) := by decide +kernel
theorem dX7_readCommand_96 : decode cX7_readCommand 96 = .ok (.aload_n 0, 1) := by decide +kernel
theorem dX7_readCommand_97 : decode cX7_readCommand 97 = .ok (.aload_n 0, 1) := by decide +kernel
theorem dX7_readCommand_98 : decode cX7_readCommand 98 = .ok (.getfield 38, 3) := by decide +kernel
theorem dX7_readCommand_101 : decode cX7_readCommand 101 = .ok (.invokevirtual 53, 3) := by decide +kernel
theorem dX7_readCommand_104 : decode cX7_readCommand 104 = .ok (.bipush 59, 2) := by decide +kernel
theorem dX7_readCommand_106 : decode cX7_readCommand 106 = .ok (.if_icmp .eq 5, 3) := by decide +kernel
theorem dX7_readCommand_109 : decode cX7_readCommand 109 = .ok (.iconst 0, 1) := by decide +kernel
theorem dX7_readCommand_110 : decode cX7_readCommand 110 = .ok (.ireturn, 1) := by decide +kernel
theorem dX7_readCommand_111 : decode cX7_readCommand 111 = .ok (.aload_n 0, 1) := by decide +kernel
theorem dX7_readCommand_112 : decode cX7_readCommand 112 = .ok (.dup, 1) := by decide +kernel
theorem dX7_readCommand_113 : decode cX7_readCommand 113 = .ok (.getfield 38, 3) := by decide +kernel
theorem dX7_readCommand_116 : decode cX7_readCommand 116 = .ok (.iconst 1, 1) := by decide +kernel
theorem dX7_readCommand_117 : decode cX7_readCommand 117 = .ok (.iadd, 1) := by decide +kernel
theorem dX7_readCommand_118 : decode cX7_readCommand 118 = .ok (.putfield 38, 3) := by decide +kernel
theorem dX7_readCommand_121 : decode cX7_readCommand 121 = .ok (.iconst 1, 1) := by decide +kernel
theorem dX7_readCommand_122 : decode cX7_readCommand 122 = .ok (.ireturn, 1) := by decide +kernel
theorem dX7_verbAt_0 : decode cX7_verbAt 0 = .ok (.iconst 0, 1) := by decide +kernel
theorem dX7_verbAt_1 : decode cX7_verbAt 1 = .ok (.istore_n 2, 1) := by decide +kernel
theorem dX7_verbAt_2 : decode cX7_verbAt 2 = .ok (.iload_n 2, 1) := by decide +kernel
theorem dX7_verbAt_3 : decode cX7_verbAt 3 = .ok (.getstatic 57, 3) := by decide +kernel
theorem dX7_verbAt_6 : decode cX7_verbAt 6 = .ok (.arraylength, 1) := by decide +kernel
theorem dX7_verbAt_7 : decode cX7_verbAt 7 = .ok (.if_icmp .ge 31, 3) := by decide +kernel
theorem dX7_verbAt_10 : decode cX7_verbAt 10 = .ok (.aload_n 0, 1) := by decide +kernel
theorem dX7_verbAt_11 : decode cX7_verbAt 11 = .ok (.iload_n 1, 1) := by decide +kernel
theorem dX7_verbAt_12 : decode cX7_verbAt 12 = .ok (.getstatic 57, 3) := by decide +kernel
theorem dX7_verbAt_15 : decode cX7_verbAt 15 = .ok (.iload_n 2, 1) := by decide +kernel
theorem dX7_verbAt_16 : decode cX7_verbAt 16 = .ok (.aaload, 1) := by decide +kernel
theorem dX7_verbAt_17 : decode cX7_verbAt 17 = .ok (.getfield 27, 3) := by decide +kernel
theorem dX7_verbAt_20 : decode cX7_verbAt 20 = .ok (.invokevirtual 61, 3) := by decide +kernel
theorem dX7_verbAt_23 : decode cX7_verbAt 23 = .ok (.ifCond .eq 9, 3) := by decide +kernel
theorem dX7_verbAt_26 : decode cX7_verbAt 26 = .ok (.getstatic 57, 3) := by decide +kernel
theorem dX7_verbAt_29 : decode cX7_verbAt 29 = .ok (.iload_n 2, 1) := by decide +kernel
theorem dX7_verbAt_30 : decode cX7_verbAt 30 = .ok (.aaload, 1) := by decide +kernel
theorem dX7_verbAt_31 : decode cX7_verbAt 31 = .ok (.areturn, 1) := by decide +kernel
theorem dX7_verbAt_32 : decode cX7_verbAt 32 = .ok (.iinc 2 1, 3) := by decide +kernel
theorem dX7_verbAt_35 : decode cX7_verbAt 35 = .ok (.goto (-33), 3) := by decide +kernel
theorem dX7_verbAt_38 : decode cX7_verbAt 38 = .ok (.aconst_null, 1) := by decide +kernel
theorem dX7_verbAt_39 : decode cX7_verbAt 39 = .ok (.areturn, 1) := by decide +kernel
theorem dX7_hasWordAt_0 : decode cX7_hasWordAt 0 = .ok (.iconst 0, 1) := by decide +kernel
theorem dX7_hasWordAt_1 : decode cX7_hasWordAt 1 = .ok (.istore_n 3, 1) := by decide +kernel
theorem dX7_hasWordAt_2 : decode cX7_hasWordAt 2 = .ok (.iload_n 3, 1) := by decide +kernel
theorem dX7_hasWordAt_3 : decode cX7_hasWordAt 3 = .ok (.aload_n 2, 1) := by decide +kernel
theorem dX7_hasWordAt_4 : decode cX7_hasWordAt 4 = .ok (.invokevirtual 33, 3) := by decide +kernel
theorem dX7_hasWordAt_7 : decode cX7_hasWordAt 7 = .ok (.if_icmp .ge 26, 3) := by decide +kernel
theorem dX7_hasWordAt_10 : decode cX7_hasWordAt 10 = .ok (.aload_n 0, 1) := by decide +kernel
theorem dX7_hasWordAt_11 : decode cX7_hasWordAt 11 = .ok (.iload_n 1, 1) := by decide +kernel
theorem dX7_hasWordAt_12 : decode cX7_hasWordAt 12 = .ok (.iload_n 3, 1) := by decide +kernel
theorem dX7_hasWordAt_13 : decode cX7_hasWordAt 13 = .ok (.iadd, 1) := by decide +kernel
theorem dX7_hasWordAt_14 : decode cX7_hasWordAt 14 = .ok (.invokevirtual 53, 3) := by decide +kernel
theorem dX7_hasWordAt_17 : decode cX7_hasWordAt 17 = .ok (.aload_n 2, 1) := by decide +kernel
theorem dX7_hasWordAt_18 : decode cX7_hasWordAt 18 = .ok (.iload_n 3, 1) := by decide +kernel
theorem dX7_hasWordAt_19 : decode cX7_hasWordAt 19 = .ok (.invokevirtual 65, 3) := by decide +kernel
theorem dX7_hasWordAt_22 : decode cX7_hasWordAt 22 = .ok (.if_icmp .eq 5, 3) := by decide +kernel
theorem dX7_hasWordAt_25 : decode cX7_hasWordAt 25 = .ok (.iconst 0, 1) := by decide +kernel
theorem dX7_hasWordAt_26 : decode cX7_hasWordAt 26 = .ok (.ireturn, 1) := by decide +kernel
theorem dX7_hasWordAt_27 : decode cX7_hasWordAt 27 = .ok (.iinc 3 1, 3) := by decide +kernel
theorem dX7_hasWordAt_30 : decode cX7_hasWordAt 30 = .ok (.goto (-28), 3) := by decide +kernel
theorem dX7_hasWordAt_33 : decode cX7_hasWordAt 33 = .ok (.iconst 1, 1) := by decide +kernel
theorem dX7_hasWordAt_34 : decode cX7_hasWordAt 34 = .ok (.ireturn, 1) := by decide +kernel
theorem dX7_readNumber_0 : decode cX7_readNumber 0 = .ok (.aload_n 0, 1) := by decide +kernel
theorem dX7_readNumber_1 : decode cX7_readNumber 1 = .ok (.aload_n 0, 1) := by decide +kernel
theorem dX7_readNumber_2 : decode cX7_readNumber 2 = .ok (.getfield 38, 3) := by decide +kernel
theorem dX7_readNumber_5 : decode cX7_readNumber 5 = .ok (.invokevirtual 53, 3) := by decide +kernel
theorem dX7_readNumber_8 : decode cX7_readNumber 8 = .ok (.bipush 32, 2) := by decide +kernel
theorem dX7_readNumber_10 : decode cX7_readNumber 10 = .ok (.if_icmp .eq 5, 3) := by decide +kernel
theorem dX7_readNumber_13 : decode cX7_readNumber 13 = .ok (.iconst (-1), 1) := by decide +kernel
theorem dX7_readNumber_14 : decode cX7_readNumber 14 = .ok (.ireturn, 1) := by decide +kernel
theorem dX7_readNumber_15 : decode cX7_readNumber 15 = .ok (.aload_n 0, 1) := by decide +kernel
theorem dX7_readNumber_16 : decode cX7_readNumber 16 = .ok (.dup, 1) := by decide +kernel
theorem dX7_readNumber_17 : decode cX7_readNumber 17 = .ok (.getfield 38, 3) := by decide +kernel
theorem dX7_readNumber_20 : decode cX7_readNumber 20 = .ok (.iconst 1, 1) := by decide +kernel
theorem dX7_readNumber_21 : decode cX7_readNumber 21 = .ok (.iadd, 1) := by decide +kernel
theorem dX7_readNumber_22 : decode cX7_readNumber 22 = .ok (.putfield 38, 3) := by decide +kernel
theorem dX7_readNumber_25 : decode cX7_readNumber 25 = .ok (.iconst 0, 1) := by decide +kernel
theorem dX7_readNumber_26 : decode cX7_readNumber 26 = .ok (.istore_n 1, 1) := by decide +kernel
theorem dX7_readNumber_27 : decode cX7_readNumber 27 = .ok (.iconst 0, 1) := by decide +kernel
theorem dX7_readNumber_28 : decode cX7_readNumber 28 = .ok (.istore_n 2, 1) := by decide +kernel
theorem dX7_readNumber_29 : decode cX7_readNumber 29 = .ok (.iload_n 1, 1) := by decide +kernel
theorem dX7_readNumber_30 : decode cX7_readNumber 30 = .ok (.iconst 3, 1) := by decide +kernel
theorem dX7_readNumber_31 : decode cX7_readNumber 31 = .ok (.if_icmp .ge 62, 3) := by decide +kernel
theorem dX7_readNumber_34 : decode cX7_readNumber 34 = .ok (.aload_n 0, 1) := by decide +kernel
theorem dX7_readNumber_35 : decode cX7_readNumber 35 = .ok (.aload_n 0, 1) := by decide +kernel
theorem dX7_readNumber_36 : decode cX7_readNumber 36 = .ok (.getfield 38, 3) := by decide +kernel
theorem dX7_readNumber_39 : decode cX7_readNumber 39 = .ok (.invokevirtual 53, 3) := by decide +kernel
theorem dX7_readNumber_42 : decode cX7_readNumber 42 = .ok (.bipush 48, 2) := by decide +kernel
theorem dX7_readNumber_44 : decode cX7_readNumber 44 = .ok (.if_icmp .lt 49, 3) := by decide +kernel
theorem dX7_readNumber_47 : decode cX7_readNumber 47 = .ok (.aload_n 0, 1) := by decide +kernel
theorem dX7_readNumber_48 : decode cX7_readNumber 48 = .ok (.aload_n 0, 1) := by decide +kernel
theorem dX7_readNumber_49 : decode cX7_readNumber 49 = .ok (.getfield 38, 3) := by decide +kernel
theorem dX7_readNumber_52 : decode cX7_readNumber 52 = .ok (.invokevirtual 53, 3) := by decide +kernel
theorem dX7_readNumber_55 : decode cX7_readNumber 55 = .ok (.bipush 57, 2) := by decide +kernel
theorem dX7_readNumber_57 : decode cX7_readNumber 57 = .ok (.if_icmp .gt 36, 3) := by decide +kernel
theorem dX7_readNumber_60 : decode cX7_readNumber 60 = .ok (.iload_n 2, 1) := by decide +kernel
theorem dX7_readNumber_61 : decode cX7_readNumber 61 = .ok (.bipush 10, 2) := by decide +kernel
theorem dX7_readNumber_63 : decode cX7_readNumber 63 = .ok (.imul, 1) := by decide +kernel
theorem dX7_readNumber_64 : decode cX7_readNumber 64 = .ok (.aload_n 0, 1) := by decide +kernel
theorem dX7_readNumber_65 : decode cX7_readNumber 65 = .ok (.aload_n 0, 1) := by decide +kernel
theorem dX7_readNumber_66 : decode cX7_readNumber 66 = .ok (.getfield 38, 3) := by decide +kernel
theorem dX7_readNumber_69 : decode cX7_readNumber 69 = .ok (.invokevirtual 53, 3) := by decide +kernel
theorem dX7_readNumber_72 : decode cX7_readNumber 72 = .ok (.bipush 48, 2) := by decide +kernel
theorem dX7_readNumber_74 : decode cX7_readNumber 74 = .ok (.isub, 1) := by decide +kernel
theorem dX7_readNumber_75 : decode cX7_readNumber 75 = .ok (.iadd, 1) := by decide +kernel
theorem dX7_readNumber_76 : decode cX7_readNumber 76 = .ok (.istore_n 2, 1) := by decide +kernel
theorem dX7_readNumber_77 : decode cX7_readNumber 77 = .ok (.iinc 1 1, 3) := by decide +kernel
theorem dX7_readNumber_80 : decode cX7_readNumber 80 = .ok (.aload_n 0, 1) := by decide +kernel
theorem dX7_readNumber_81 : decode cX7_readNumber 81 = .ok (.dup, 1) := by decide +kernel
theorem dX7_readNumber_82 : decode cX7_readNumber 82 = .ok (.getfield 38, 3) := by decide +kernel
theorem dX7_readNumber_85 : decode cX7_readNumber 85 = .ok (.iconst 1, 1) := by decide +kernel
theorem dX7_readNumber_86 : decode cX7_readNumber 86 = .ok (.iadd, 1) := by decide +kernel
theorem dX7_readNumber_87 : decode cX7_readNumber 87 = .ok (.putfield 38, 3) := by decide +kernel
theorem dX7_readNumber_90 : decode cX7_readNumber 90 = .ok (.goto (-61), 3) := by decide +kernel
theorem dX7_readNumber_93 : decode cX7_readNumber 93 = .ok (.iload_n 1, 1) := by decide +kernel
theorem dX7_readNumber_94 : decode cX7_readNumber 94 = .ok (.ifCond .ne 7, 3) := by decide +kernel
theorem dX7_readNumber_97 : decode cX7_readNumber 97 = .ok (.iconst (-1), 1) := by decide +kernel
theorem dX7_readNumber_98 : decode cX7_readNumber 98 = .ok (.goto 4, 3) := by decide +kernel
theorem dX7_readNumber_101 : decode cX7_readNumber 101 = .ok (.iload_n 2, 1) := by decide +kernel
theorem dX7_readNumber_102 : decode cX7_readNumber 102 = .ok (.ireturn, 1) := by decide +kernel
theorem dX7_signAt_0 : decode cX7_signAt 0 = .ok (.iload_n 1, 1) := by decide +kernel
theorem dX7_signAt_1 : decode cX7_signAt 1 = .ok (.ifCond .lt 26, 3) := by decide +kernel
theorem dX7_signAt_4 : decode cX7_signAt 4 = .ok (.iload_n 1, 1) := by decide +kernel
theorem dX7_signAt_5 : decode cX7_signAt 5 = .ok (.aload_n 0, 1) := by decide +kernel
theorem dX7_signAt_6 : decode cX7_signAt 6 = .ok (.getfield 15, 3) := by decide +kernel
theorem dX7_signAt_9 : decode cX7_signAt 9 = .ok (.if_icmp .ge 18, 3) := by decide +kernel
theorem dX7_signAt_12 : decode cX7_signAt 12 = .ok (.iload_n 1, 1) := by decide +kernel
theorem dX7_signAt_13 : decode cX7_signAt 13 = .ok (.bipush 80, 2) := by decide +kernel
theorem dX7_signAt_15 : decode cX7_signAt 15 = .ok (.if_icmp .ge 12, 3) := by decide +kernel
theorem dX7_signAt_18 : decode cX7_signAt 18 = .ok (.aload_n 0, 1) := by decide +kernel
theorem dX7_signAt_19 : decode cX7_signAt 19 = .ok (.getfield 9, 3) := by decide +kernel
theorem dX7_signAt_22 : decode cX7_signAt 22 = .ok (.iload_n 1, 1) := by decide +kernel
theorem dX7_signAt_23 : decode cX7_signAt 23 = .ok (.caload, 1) := by decide +kernel
theorem dX7_signAt_24 : decode cX7_signAt 24 = .ok (.goto 4, 3) := by decide +kernel
theorem dX7_signAt_27 : decode cX7_signAt 27 = .ok (.iconst 0, 1) := by decide +kernel
theorem dX7_signAt_28 : decode cX7_signAt 28 = .ok (.ireturn, 1) := by decide +kernel
theorem dX9_init_0 : decode cX9_init 0 = .ok (.aload_n 0, 1) := by decide +kernel
theorem dX9_init_1 : decode cX9_init 1 = .ok (.invokespecial 1, 3) := by decide +kernel
theorem dX9_init_4 : decode cX9_init 4 = .ok (.aload_n 0, 1) := by decide +kernel
theorem dX9_init_5 : decode cX9_init 5 = .ok (.new 7, 3) := by decide +kernel
theorem dX9_init_8 : decode cX9_init 8 = .ok (.dup, 1) := by decide +kernel
theorem dX9_init_9 : decode cX9_init 9 = .ok (.invokespecial 9, 3) := by decide +kernel
theorem dX9_init_12 : decode cX9_init 12 = .ok (.putfield 10, 3) := by decide +kernel
theorem dX9_init_15 : decode cX9_init 15 = .ok (.aload_n 0, 1) := by decide +kernel
theorem dX9_init_16 : decode cX9_init 16 = .ok (.new 16, 3) := by decide +kernel
theorem dX9_init_19 : decode cX9_init 19 = .ok (.dup, 1) := by decide +kernel
theorem dX9_init_20 : decode cX9_init 20 = .ok (.invokespecial 18, 3) := by decide +kernel
theorem dX9_init_23 : decode cX9_init 23 = .ok (.putfield 19, 3) := by decide +kernel
theorem dX9_init_26 : decode cX9_init 26 = .ok (.aload_n 0, 1) := by decide +kernel
theorem dX9_init_27 : decode cX9_init 27 = .ok (.new 23, 3) := by decide +kernel
theorem dX9_init_30 : decode cX9_init 30 = .ok (.dup, 1) := by decide +kernel
theorem dX9_init_31 : decode cX9_init 31 = .ok (.invokespecial 25, 3) := by decide +kernel
theorem dX9_init_34 : decode cX9_init 34 = .ok (.putfield 26, 3) := by decide +kernel
theorem dX9_init_37 : decode cX9_init 37 = .ok (.aload_n 0, 1) := by decide +kernel
theorem dX9_init_38 : decode cX9_init 38 = .ok (.new 30, 3) := by decide +kernel
theorem dX9_init_41 : decode cX9_init 41 = .ok (.dup, 1) := by decide +kernel
theorem dX9_init_42 : decode cX9_init 42 = .ok (.invokespecial 32, 3) := by decide +kernel
theorem dX9_init_45 : decode cX9_init 45 = .ok (.putfield 33, 3) := by decide +kernel
theorem dX9_init_48 : decode cX9_init 48 = .ok (.return_, 1) := by decide +kernel
theorem dX9_locker_0 : decode cX9_locker 0 = .ok (.aload_n 0, 1) := by decide +kernel
theorem dX9_locker_1 : decode cX9_locker 1 = .ok (.getfield 19, 3) := by decide +kernel
theorem dX9_locker_4 : decode cX9_locker 4 = .ok (.aload_n 0, 1) := by decide +kernel
theorem dX9_locker_5 : decode cX9_locker 5 = .ok (.getfield 10, 3) := by decide +kernel
theorem dX9_locker_8 : decode cX9_locker 8 = .ok (.invokevirtual 37, 3) := by decide +kernel
theorem dX9_locker_11 : decode cX9_locker 11 = .ok (.aload_n 0, 1) := by decide +kernel
theorem dX9_locker_12 : decode cX9_locker 12 = .ok (.getfield 19, 3) := by decide +kernel
theorem dX9_locker_15 : decode cX9_locker 15 = .ok (.aload_n 0, 1) := by decide +kernel
theorem dX9_locker_16 : decode cX9_locker 16 = .ok (.getfield 10, 3) := by decide +kernel
theorem dX9_locker_19 : decode cX9_locker 19 = .ok (.iload_n 1, 1) := by decide +kernel
theorem dX9_locker_20 : decode cX9_locker 20 = .ok (.invokevirtual 41, 3) := by decide +kernel
theorem dX9_locker_23 : decode cX9_locker 23 = .ok (.invokevirtual 45, 3) := by decide +kernel
theorem dX9_locker_26 : decode cX9_locker 26 = .ok (.ireturn, 1) := by decide +kernel
theorem dX9_person_0 : decode cX9_person 0 = .ok (.aload_n 0, 1) := by decide +kernel
theorem dX9_person_1 : decode cX9_person 1 = .ok (.getfield 19, 3) := by decide +kernel
theorem dX9_person_4 : decode cX9_person 4 = .ok (.aload_n 0, 1) := by decide +kernel
theorem dX9_person_5 : decode cX9_person 5 = .ok (.getfield 10, 3) := by decide +kernel
theorem dX9_person_8 : decode cX9_person 8 = .ok (.invokevirtual 37, 3) := by decide +kernel
theorem dX9_person_11 : decode cX9_person 11 = .ok (.aload_n 0, 1) := by decide +kernel
theorem dX9_person_12 : decode cX9_person 12 = .ok (.getfield 19, 3) := by decide +kernel
theorem dX9_person_15 : decode cX9_person 15 = .ok (.aload_n 0, 1) := by decide +kernel
theorem dX9_person_16 : decode cX9_person 16 = .ok (.getfield 10, 3) := by decide +kernel
theorem dX9_person_19 : decode cX9_person 19 = .ok (.invokevirtual 48, 3) := by decide +kernel
theorem dX9_person_22 : decode cX9_person 22 = .ok (.invokevirtual 45, 3) := by decide +kernel
theorem dX9_person_25 : decode cX9_person 25 = .ok (.ireturn, 1) := by decide +kernel
theorem dX9_stand_0 : decode cX9_stand 0 = .ok (.aload_n 0, 1) := by decide +kernel
theorem dX9_stand_1 : decode cX9_stand 1 = .ok (.getfield 19, 3) := by decide +kernel
theorem dX9_stand_4 : decode cX9_stand 4 = .ok (.aload_n 0, 1) := by decide +kernel
theorem dX9_stand_5 : decode cX9_stand 5 = .ok (.getfield 10, 3) := by decide +kernel
theorem dX9_stand_8 : decode cX9_stand 8 = .ok (.invokevirtual 37, 3) := by decide +kernel
theorem dX9_stand_11 : decode cX9_stand 11 = .ok (.aload_n 0, 1) := by decide +kernel
theorem dX9_stand_12 : decode cX9_stand 12 = .ok (.getfield 19, 3) := by decide +kernel
theorem dX9_stand_15 : decode cX9_stand 15 = .ok (.aload_n 0, 1) := by decide +kernel
theorem dX9_stand_16 : decode cX9_stand 16 = .ok (.getfield 10, 3) := by decide +kernel
theorem dX9_stand_19 : decode cX9_stand 19 = .ok (.iload_n 1, 1) := by decide +kernel
theorem dX9_stand_20 : decode cX9_stand 20 = .ok (.iload_n 2, 1) := by decide +kernel
theorem dX9_stand_21 : decode cX9_stand 21 = .ok (.invokevirtual 52, 3) := by decide +kernel
theorem dX9_stand_24 : decode cX9_stand 24 = .ok (.invokevirtual 45, 3) := by decide +kernel
theorem dX9_stand_27 : decode cX9_stand 27 = .ok (.ireturn, 1) := by decide +kernel
theorem dX9_lend_0 : decode cX9_lend 0 = .ok (.aload_n 0, 1) := by decide +kernel
theorem dX9_lend_1 : decode cX9_lend 1 = .ok (.getfield 19, 3) := by decide +kernel
theorem dX9_lend_4 : decode cX9_lend 4 = .ok (.aload_n 0, 1) := by decide +kernel
theorem dX9_lend_5 : decode cX9_lend 5 = .ok (.getfield 10, 3) := by decide +kernel
theorem dX9_lend_8 : decode cX9_lend 8 = .ok (.invokevirtual 37, 3) := by decide +kernel
theorem dX9_lend_11 : decode cX9_lend 11 = .ok (.aload_n 0, 1) := by decide +kernel
theorem dX9_lend_12 : decode cX9_lend 12 = .ok (.getfield 19, 3) := by decide +kernel
theorem dX9_lend_15 : decode cX9_lend 15 = .ok (.aload_n 0, 1) := by decide +kernel
theorem dX9_lend_16 : decode cX9_lend 16 = .ok (.getfield 10, 3) := by decide +kernel
theorem dX9_lend_19 : decode cX9_lend 19 = .ok (.iload_n 1, 1) := by decide +kernel
theorem dX9_lend_20 : decode cX9_lend 20 = .ok (.iload_n 2, 1) := by decide +kernel
theorem dX9_lend_21 : decode cX9_lend 21 = .ok (.invokevirtual 56, 3) := by decide +kernel
theorem dX9_lend_24 : decode cX9_lend 24 = .ok (.invokevirtual 45, 3) := by decide +kernel
theorem dX9_lend_27 : decode cX9_lend 27 = .ok (.ireturn, 1) := by decide +kernel
theorem dX9_giveBack_0 : decode cX9_giveBack 0 = .ok (.aload_n 0, 1) := by decide +kernel
theorem dX9_giveBack_1 : decode cX9_giveBack 1 = .ok (.getfield 19, 3) := by decide +kernel
theorem dX9_giveBack_4 : decode cX9_giveBack 4 = .ok (.aload_n 0, 1) := by decide +kernel
theorem dX9_giveBack_5 : decode cX9_giveBack 5 = .ok (.getfield 10, 3) := by decide +kernel
theorem dX9_giveBack_8 : decode cX9_giveBack 8 = .ok (.invokevirtual 37, 3) := by decide +kernel
theorem dX9_giveBack_11 : decode cX9_giveBack 11 = .ok (.aload_n 0, 1) := by decide +kernel
theorem dX9_giveBack_12 : decode cX9_giveBack 12 = .ok (.getfield 19, 3) := by decide +kernel
theorem dX9_giveBack_15 : decode cX9_giveBack 15 = .ok (.aload_n 0, 1) := by decide +kernel
theorem dX9_giveBack_16 : decode cX9_giveBack 16 = .ok (.getfield 10, 3) := by decide +kernel
theorem dX9_giveBack_19 : decode cX9_giveBack 19 = .ok (.iload_n 1, 1) := by decide +kernel
theorem dX9_giveBack_20 : decode cX9_giveBack 20 = .ok (.invokevirtual 59, 3) := by decide +kernel
theorem dX9_giveBack_23 : decode cX9_giveBack 23 = .ok (.invokevirtual 45, 3) := by decide +kernel
theorem dX9_giveBack_26 : decode cX9_giveBack 26 = .ok (.ireturn, 1) := by decide +kernel
theorem dX9_renew_0 : decode cX9_renew 0 = .ok (.aload_n 0, 1) := by decide +kernel
theorem dX9_renew_1 : decode cX9_renew 1 = .ok (.getfield 19, 3) := by decide +kernel
