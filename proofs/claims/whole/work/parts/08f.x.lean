/-! the law's cases: each call of both sides, and what is left behind it -/
theorem nwf_0 : Cond.code yX9_locker cX9_locker 2 (some .int) ∈ zWL := zw_in (zw_2 (List.mem_of_getElem? (i := 17) (by decide +kernel))) rfl
theorem nwf_1 : Cond.instanceMethod yX9_locker ∈ zWL := zw_in (zw_2 (List.mem_of_getElem? (i := 15) (by decide +kernel))) rfl
theorem nwf_2 : Cond.selects RX9 yX9_locker yX9_locker ∈ zWL := zw_in (zw_2 (List.mem_of_getElem? (i := 16) (by decide +kernel))) rfl
theorem nwf_3 : Cond.initialized RX9 ∈ zWL := zw_in (zw_1 (List.mem_of_getElem? (i := 1) (by decide +kernel))) rfl
theorem nwf_4 : Cond.methodLink RL 13 yX9_locker ∈ zWL := zw_in (zw_2 (List.mem_of_getElem? (i := 14) (by decide +kernel))) rfl
theorem nwf_5 : Cond.code yX10_locker cX10_locker 2 (some .int) ∈ zWL := zw_in (zw_4 (List.mem_of_getElem? (i := 59) (by decide +kernel))) rfl
theorem nwf_6 : Cond.instanceMethod yX10_locker ∈ zWL := zw_in (zw_4 (List.mem_of_getElem? (i := 57) (by decide +kernel))) rfl
theorem nwf_7 : Cond.selects RX10 yX10_locker yX10_locker ∈ zWL := zw_in (zw_4 (List.mem_of_getElem? (i := 58) (by decide +kernel))) rfl
theorem nwf_8 : Cond.initialized RX10 ∈ zWL := zw_in (zw_1 (List.mem_of_getElem? (i := 9) (by decide +kernel))) rfl
theorem nwf_9 : Cond.methodLink RL 17 yX10_locker ∈ zWL := zw_in (zw_4 (List.mem_of_getElem? (i := 56) (by decide +kernel))) rfl
theorem nwf_10 : Cond.code yX9_person cX9_person 1 (some .int) ∈ zWL := zw_in (zw_2 (List.mem_of_getElem? (i := 56) (by decide +kernel))) rfl
theorem nwf_11 : Cond.instanceMethod yX9_person ∈ zWL := zw_in (zw_2 (List.mem_of_getElem? (i := 54) (by decide +kernel))) rfl
theorem nwf_12 : Cond.selects RX9 yX9_person yX9_person ∈ zWL := zw_in (zw_2 (List.mem_of_getElem? (i := 55) (by decide +kernel))) rfl
theorem nwf_13 : Cond.methodLink RL 18 yX9_person ∈ zWL := zw_in (zw_2 (List.mem_of_getElem? (i := 53) (by decide +kernel))) rfl
theorem nwf_14 : Cond.code yX10_person cX10_person 1 (some .int) ∈ zWL := zw_in (zw_4 (List.mem_of_getElem? (i := 82) (by decide +kernel))) rfl
theorem nwf_15 : Cond.instanceMethod yX10_person ∈ zWL := zw_in (zw_4 (List.mem_of_getElem? (i := 80) (by decide +kernel))) rfl
theorem nwf_16 : Cond.selects RX10 yX10_person yX10_person ∈ zWL := zw_in (zw_4 (List.mem_of_getElem? (i := 81) (by decide +kernel))) rfl
theorem nwf_17 : Cond.methodLink RL 22 yX10_person ∈ zWL := zw_in (zw_4 (List.mem_of_getElem? (i := 79) (by decide +kernel))) rfl
theorem nwf_18 : Cond.code yX9_stand cX9_stand 3 (some .int) ∈ zWL := zw_in (zw_2 (List.mem_of_getElem? (i := 64) (by decide +kernel))) rfl
theorem nwf_19 : Cond.instanceMethod yX9_stand ∈ zWL := zw_in (zw_2 (List.mem_of_getElem? (i := 62) (by decide +kernel))) rfl
theorem nwf_20 : Cond.selects RX9 yX9_stand yX9_stand ∈ zWL := zw_in (zw_2 (List.mem_of_getElem? (i := 63) (by decide +kernel))) rfl
theorem nwf_21 : Cond.methodLink RL 23 yX9_stand ∈ zWL := zw_in (zw_2 (List.mem_of_getElem? (i := 61) (by decide +kernel))) rfl
theorem nwf_22 : Cond.code yX10_stand cX10_stand 3 (some .int) ∈ zWL := zw_in (zw_4 (List.mem_of_getElem? (i := 94) (by decide +kernel))) rfl
theorem nwf_23 : Cond.instanceMethod yX10_stand ∈ zWL := zw_in (zw_4 (List.mem_of_getElem? (i := 92) (by decide +kernel))) rfl
theorem nwf_24 : Cond.selects RX10 yX10_stand yX10_stand ∈ zWL := zw_in (zw_4 (List.mem_of_getElem? (i := 93) (by decide +kernel))) rfl
theorem nwf_25 : Cond.methodLink RL 27 yX10_stand ∈ zWL := zw_in (zw_4 (List.mem_of_getElem? (i := 91) (by decide +kernel))) rfl
theorem nwf_26 : Cond.code yX9_lend cX9_lend 3 (some .int) ∈ zWL := zw_in (zw_2 (List.mem_of_getElem? (i := 104) (by decide +kernel))) rfl
theorem nwf_27 : Cond.instanceMethod yX9_lend ∈ zWL := zw_in (zw_2 (List.mem_of_getElem? (i := 102) (by decide +kernel))) rfl
theorem nwf_28 : Cond.selects RX9 yX9_lend yX9_lend ∈ zWL := zw_in (zw_2 (List.mem_of_getElem? (i := 103) (by decide +kernel))) rfl
theorem nwf_29 : Cond.methodLink RL 28 yX9_lend ∈ zWL := zw_in (zw_2 (List.mem_of_getElem? (i := 101) (by decide +kernel))) rfl
theorem nwf_30 : Cond.code yX10_lend cX10_lend 3 (some .int) ∈ zWL := zw_in (zw_4 (List.mem_of_getElem? (i := 138) (by decide +kernel))) rfl
theorem nwf_31 : Cond.instanceMethod yX10_lend ∈ zWL := zw_in (zw_4 (List.mem_of_getElem? (i := 136) (by decide +kernel))) rfl
theorem nwf_32 : Cond.selects RX10 yX10_lend yX10_lend ∈ zWL := zw_in (zw_4 (List.mem_of_getElem? (i := 137) (by decide +kernel))) rfl
theorem nwf_33 : Cond.methodLink RL 31 yX10_lend ∈ zWL := zw_in (zw_4 (List.mem_of_getElem? (i := 135) (by decide +kernel))) rfl
theorem nwf_34 : Cond.code yX9_giveBack cX9_giveBack 2 (some .int) ∈ zWL := zw_in (zw_2 (List.mem_of_getElem? (i := 124) (by decide +kernel))) rfl
theorem nwf_35 : Cond.instanceMethod yX9_giveBack ∈ zWL := zw_in (zw_2 (List.mem_of_getElem? (i := 122) (by decide +kernel))) rfl
theorem nwf_36 : Cond.selects RX9 yX9_giveBack yX9_giveBack ∈ zWL := zw_in (zw_2 (List.mem_of_getElem? (i := 123) (by decide +kernel))) rfl
theorem nwf_37 : Cond.methodLink RL 32 yX9_giveBack ∈ zWL := zw_in (zw_2 (List.mem_of_getElem? (i := 121) (by decide +kernel))) rfl
theorem nwf_38 : Cond.code yX10_giveBack cX10_giveBack 2 (some .int) ∈ zWL := zw_in (zw_4 (List.mem_of_getElem? (i := 166) (by decide +kernel))) rfl
theorem nwf_39 : Cond.instanceMethod yX10_giveBack ∈ zWL := zw_in (zw_4 (List.mem_of_getElem? (i := 164) (by decide +kernel))) rfl
theorem nwf_40 : Cond.selects RX10 yX10_giveBack yX10_giveBack ∈ zWL := zw_in (zw_4 (List.mem_of_getElem? (i := 165) (by decide +kernel))) rfl
theorem nwf_41 : Cond.methodLink RL 35 yX10_giveBack ∈ zWL := zw_in (zw_4 (List.mem_of_getElem? (i := 163) (by decide +kernel))) rfl
theorem nwf_42 : Cond.code yX9_renew cX9_renew 2 (some .int) ∈ zWL := zw_in (zw_2 (List.mem_of_getElem? (i := 140) (by decide +kernel))) rfl
theorem nwf_43 : Cond.instanceMethod yX9_renew ∈ zWL := zw_in (zw_2 (List.mem_of_getElem? (i := 138) (by decide +kernel))) rfl
theorem nwf_44 : Cond.selects RX9 yX9_renew yX9_renew ∈ zWL := zw_in (zw_2 (List.mem_of_getElem? (i := 139) (by decide +kernel))) rfl
theorem nwf_45 : Cond.methodLink RL 36 yX9_renew ∈ zWL := zw_in (zw_2 (List.mem_of_getElem? (i := 137) (by decide +kernel))) rfl
theorem nwf_46 : Cond.code yX10_renew cX10_renew 2 (some .int) ∈ zWL := zw_in (zw_4 (List.mem_of_getElem? (i := 186) (by decide +kernel))) rfl
theorem nwf_47 : Cond.instanceMethod yX10_renew ∈ zWL := zw_in (zw_4 (List.mem_of_getElem? (i := 184) (by decide +kernel))) rfl
theorem nwf_48 : Cond.selects RX10 yX10_renew yX10_renew ∈ zWL := zw_in (zw_4 (List.mem_of_getElem? (i := 185) (by decide +kernel))) rfl
theorem nwf_49 : Cond.methodLink RL 39 yX10_renew ∈ zWL := zw_in (zw_4 (List.mem_of_getElem? (i := 183) (by decide +kernel))) rfl
theorem nwf_50 : Cond.code yX9_lose cX9_lose 2 (some .int) ∈ zWL := zw_in (zw_2 (List.mem_of_getElem? (i := 148) (by decide +kernel))) rfl
theorem nwf_51 : Cond.instanceMethod yX9_lose ∈ zWL := zw_in (zw_2 (List.mem_of_getElem? (i := 146) (by decide +kernel))) rfl
theorem nwf_52 : Cond.selects RX9 yX9_lose yX9_lose ∈ zWL := zw_in (zw_2 (List.mem_of_getElem? (i := 147) (by decide +kernel))) rfl
theorem nwf_53 : Cond.methodLink RL 40 yX9_lose ∈ zWL := zw_in (zw_2 (List.mem_of_getElem? (i := 145) (by decide +kernel))) rfl
theorem nwf_54 : Cond.code yX10_lose cX10_lose 2 (some .int) ∈ zWL := zw_in (zw_4 (List.mem_of_getElem? (i := 194) (by decide +kernel))) rfl
theorem nwf_55 : Cond.instanceMethod yX10_lose ∈ zWL := zw_in (zw_4 (List.mem_of_getElem? (i := 192) (by decide +kernel))) rfl
theorem nwf_56 : Cond.selects RX10 yX10_lose yX10_lose ∈ zWL := zw_in (zw_4 (List.mem_of_getElem? (i := 193) (by decide +kernel))) rfl
theorem nwf_57 : Cond.methodLink RL 43 yX10_lose ∈ zWL := zw_in (zw_4 (List.mem_of_getElem? (i := 191) (by decide +kernel))) rfl
theorem nwf_58 : Cond.code yX9_wish cX9_wish 3 (some .int) ∈ zWL := zw_in (zw_2 (List.mem_of_getElem? (i := 160) (by decide +kernel))) rfl
theorem nwf_59 : Cond.instanceMethod yX9_wish ∈ zWL := zw_in (zw_2 (List.mem_of_getElem? (i := 158) (by decide +kernel))) rfl
theorem nwf_60 : Cond.selects RX9 yX9_wish yX9_wish ∈ zWL := zw_in (zw_2 (List.mem_of_getElem? (i := 159) (by decide +kernel))) rfl
theorem nwf_61 : Cond.methodLink RL 44 yX9_wish ∈ zWL := zw_in (zw_2 (List.mem_of_getElem? (i := 157) (by decide +kernel))) rfl
theorem nwf_62 : Cond.code yX10_wish cX10_wish 3 (some .int) ∈ zWL := zw_in (zw_4 (List.mem_of_getElem? (i := 210) (by decide +kernel))) rfl
theorem nwf_63 : Cond.instanceMethod yX10_wish ∈ zWL := zw_in (zw_4 (List.mem_of_getElem? (i := 208) (by decide +kernel))) rfl
theorem nwf_64 : Cond.selects RX10 yX10_wish yX10_wish ∈ zWL := zw_in (zw_4 (List.mem_of_getElem? (i := 209) (by decide +kernel))) rfl
theorem nwf_65 : Cond.methodLink RL 47 yX10_wish ∈ zWL := zw_in (zw_4 (List.mem_of_getElem? (i := 207) (by decide +kernel))) rfl
theorem nwf_66 : Cond.code yX9_noWish cX9_noWish 2 (some .int) ∈ zWL := zw_in (zw_2 (List.mem_of_getElem? (i := 168) (by decide +kernel))) rfl
theorem nwf_67 : Cond.instanceMethod yX9_noWish ∈ zWL := zw_in (zw_2 (List.mem_of_getElem? (i := 166) (by decide +kernel))) rfl
theorem nwf_68 : Cond.selects RX9 yX9_noWish yX9_noWish ∈ zWL := zw_in (zw_2 (List.mem_of_getElem? (i := 167) (by decide +kernel))) rfl
theorem nwf_69 : Cond.methodLink RL 48 yX9_noWish ∈ zWL := zw_in (zw_2 (List.mem_of_getElem? (i := 165) (by decide +kernel))) rfl
theorem nwf_70 : Cond.code yX10_noWish cX10_noWish 2 (some .int) ∈ zWL := zw_in (zw_4 (List.mem_of_getElem? (i := 218) (by decide +kernel))) rfl
theorem nwf_71 : Cond.instanceMethod yX10_noWish ∈ zWL := zw_in (zw_4 (List.mem_of_getElem? (i := 216) (by decide +kernel))) rfl
theorem nwf_72 : Cond.selects RX10 yX10_noWish yX10_noWish ∈ zWL := zw_in (zw_4 (List.mem_of_getElem? (i := 217) (by decide +kernel))) rfl
theorem nwf_73 : Cond.methodLink RL 51 yX10_noWish ∈ zWL := zw_in (zw_4 (List.mem_of_getElem? (i := 215) (by decide +kernel))) rfl
theorem nwf_74 : Cond.code yX9_swap cX9_swap 1 (some .int) ∈ zWL := zw_in (zw_2 (List.mem_of_getElem? (i := 180) (by decide +kernel))) rfl
theorem nwf_75 : Cond.instanceMethod yX9_swap ∈ zWL := zw_in (zw_2 (List.mem_of_getElem? (i := 178) (by decide +kernel))) rfl
theorem nwf_76 : Cond.selects RX9 yX9_swap yX9_swap ∈ zWL := zw_in (zw_2 (List.mem_of_getElem? (i := 179) (by decide +kernel))) rfl
theorem nwf_77 : Cond.methodLink RL 52 yX9_swap ∈ zWL := zw_in (zw_2 (List.mem_of_getElem? (i := 177) (by decide +kernel))) rfl
theorem nwf_78 : Cond.code yX10_swap cX10_swap 1 (some .int) ∈ zWL := zw_in (zw_4 (List.mem_of_getElem? (i := 226) (by decide +kernel))) rfl
theorem nwf_79 : Cond.instanceMethod yX10_swap ∈ zWL := zw_in (zw_4 (List.mem_of_getElem? (i := 224) (by decide +kernel))) rfl
theorem nwf_80 : Cond.selects RX10 yX10_swap yX10_swap ∈ zWL := zw_in (zw_4 (List.mem_of_getElem? (i := 225) (by decide +kernel))) rfl
theorem nwf_81 : Cond.methodLink RL 55 yX10_swap ∈ zWL := zw_in (zw_4 (List.mem_of_getElem? (i := 223) (by decide +kernel))) rfl
theorem nwf_82 : Cond.code yX9_pay cX9_pay 3 (some .int) ∈ zWL := zw_in (zw_2 (List.mem_of_getElem? (i := 220) (by decide +kernel))) rfl
theorem nwf_83 : Cond.instanceMethod yX9_pay ∈ zWL := zw_in (zw_2 (List.mem_of_getElem? (i := 218) (by decide +kernel))) rfl
theorem nwf_84 : Cond.selects RX9 yX9_pay yX9_pay ∈ zWL := zw_in (zw_2 (List.mem_of_getElem? (i := 219) (by decide +kernel))) rfl
theorem nwf_85 : Cond.methodLink RL 56 yX9_pay ∈ zWL := zw_in (zw_2 (List.mem_of_getElem? (i := 217) (by decide +kernel))) rfl
theorem nwf_86 : Cond.code yX10_pay cX10_pay 3 (some .int) ∈ zWL := zw_in (zw_5 (List.mem_of_getElem? (i := 18) (by decide +kernel))) rfl
theorem nwf_87 : Cond.instanceMethod yX10_pay ∈ zWL := zw_in (zw_5 (List.mem_of_getElem? (i := 16) (by decide +kernel))) rfl
theorem nwf_88 : Cond.selects RX10 yX10_pay yX10_pay ∈ zWL := zw_in (zw_5 (List.mem_of_getElem? (i := 17) (by decide +kernel))) rfl
theorem nwf_89 : Cond.methodLink RL 59 yX10_pay ∈ zWL := zw_in (zw_5 (List.mem_of_getElem? (i := 15) (by decide +kernel))) rfl
theorem nwf_90 : Cond.code yX9_pass cX9_pass 2 (some .int) ∈ zWL := zw_in (zw_2 (List.mem_of_getElem? (i := 228) (by decide +kernel))) rfl
theorem nwf_91 : Cond.instanceMethod yX9_pass ∈ zWL := zw_in (zw_2 (List.mem_of_getElem? (i := 226) (by decide +kernel))) rfl
theorem nwf_92 : Cond.selects RX9 yX9_pass yX9_pass ∈ zWL := zw_in (zw_2 (List.mem_of_getElem? (i := 227) (by decide +kernel))) rfl
theorem nwf_93 : Cond.methodLink RL 60 yX9_pass ∈ zWL := zw_in (zw_2 (List.mem_of_getElem? (i := 225) (by decide +kernel))) rfl
theorem nwf_94 : Cond.code yX10_pass cX10_pass 2 (some .int) ∈ zWL := zw_in (zw_5 (List.mem_of_getElem? (i := 26) (by decide +kernel))) rfl
theorem nwf_95 : Cond.instanceMethod yX10_pass ∈ zWL := zw_in (zw_5 (List.mem_of_getElem? (i := 24) (by decide +kernel))) rfl
theorem nwf_96 : Cond.selects RX10 yX10_pass yX10_pass ∈ zWL := zw_in (zw_5 (List.mem_of_getElem? (i := 25) (by decide +kernel))) rfl
theorem nwf_97 : Cond.methodLink RL 63 yX10_pass ∈ zWL := zw_in (zw_5 (List.mem_of_getElem? (i := 23) (by decide +kernel))) rfl
theorem nwf_98 : Cond.code yX9_set cX9_set 3 (some .int) ∈ zWL := zw_in (zw_3 (List.mem_of_getElem? (i := 7) (by decide +kernel))) rfl
theorem nwf_99 : Cond.instanceMethod yX9_set ∈ zWL := zw_in (zw_3 (List.mem_of_getElem? (i := 5) (by decide +kernel))) rfl
theorem nwf_100 : Cond.selects RX9 yX9_set yX9_set ∈ zWL := zw_in (zw_3 (List.mem_of_getElem? (i := 6) (by decide +kernel))) rfl
theorem nwf_101 : Cond.methodLink RL 64 yX9_set ∈ zWL := zw_in (zw_3 (List.mem_of_getElem? (i := 4) (by decide +kernel))) rfl
theorem nwf_102 : Cond.code yX10_set cX10_set 3 (some .int) ∈ zWL := zw_in (zw_5 (List.mem_of_getElem? (i := 45) (by decide +kernel))) rfl
theorem nwf_103 : Cond.instanceMethod yX10_set ∈ zWL := zw_in (zw_5 (List.mem_of_getElem? (i := 43) (by decide +kernel))) rfl
theorem nwf_104 : Cond.selects RX10 yX10_set yX10_set ∈ zWL := zw_in (zw_5 (List.mem_of_getElem? (i := 44) (by decide +kernel))) rfl
theorem nwf_105 : Cond.methodLink RL 67 yX10_set ∈ zWL := zw_in (zw_5 (List.mem_of_getElem? (i := 42) (by decide +kernel))) rfl
theorem nwf_106 : Cond.code yX9_personOf cX9_personOf 3 (some .int) ∈ zWL := zw_in (zw_3 (List.mem_of_getElem? (i := 21) (by decide +kernel))) rfl
theorem nwf_107 : Cond.instanceMethod yX9_personOf ∈ zWL := zw_in (zw_3 (List.mem_of_getElem? (i := 19) (by decide +kernel))) rfl
theorem nwf_108 : Cond.selects RX9 yX9_personOf yX9_personOf ∈ zWL := zw_in (zw_3 (List.mem_of_getElem? (i := 20) (by decide +kernel))) rfl
theorem nwf_109 : Cond.methodLink RL 68 yX9_personOf ∈ zWL := zw_in (zw_3 (List.mem_of_getElem? (i := 18) (by decide +kernel))) rfl
theorem nwf_110 : Cond.code yX10_personOf cX10_personOf 3 (some .int) ∈ zWL := zw_in (zw_5 (List.mem_of_getElem? (i := 59) (by decide +kernel))) rfl
theorem nwf_111 : Cond.instanceMethod yX10_personOf ∈ zWL := zw_in (zw_5 (List.mem_of_getElem? (i := 57) (by decide +kernel))) rfl
theorem nwf_112 : Cond.selects RX10 yX10_personOf yX10_personOf ∈ zWL := zw_in (zw_5 (List.mem_of_getElem? (i := 58) (by decide +kernel))) rfl
theorem nwf_113 : Cond.methodLink RL 71 yX10_personOf ∈ zWL := zw_in (zw_5 (List.mem_of_getElem? (i := 56) (by decide +kernel))) rfl
theorem nwf_114 : Cond.code yX9_lockerOf cX9_lockerOf 3 (some .int) ∈ zWL := zw_in (zw_3 (List.mem_of_getElem? (i := 32) (by decide +kernel))) rfl
theorem nwf_115 : Cond.instanceMethod yX9_lockerOf ∈ zWL := zw_in (zw_3 (List.mem_of_getElem? (i := 30) (by decide +kernel))) rfl
theorem nwf_116 : Cond.selects RX9 yX9_lockerOf yX9_lockerOf ∈ zWL := zw_in (zw_3 (List.mem_of_getElem? (i := 31) (by decide +kernel))) rfl
theorem nwf_117 : Cond.methodLink RL 72 yX9_lockerOf ∈ zWL := zw_in (zw_3 (List.mem_of_getElem? (i := 29) (by decide +kernel))) rfl
theorem nwf_118 : Cond.code yX10_lockerOf cX10_lockerOf 3 (some .int) ∈ zWL := zw_in (zw_5 (List.mem_of_getElem? (i := 66) (by decide +kernel))) rfl
theorem nwf_119 : Cond.instanceMethod yX10_lockerOf ∈ zWL := zw_in (zw_5 (List.mem_of_getElem? (i := 64) (by decide +kernel))) rfl
theorem nwf_120 : Cond.selects RX10 yX10_lockerOf yX10_lockerOf ∈ zWL := zw_in (zw_5 (List.mem_of_getElem? (i := 65) (by decide +kernel))) rfl
theorem nwf_121 : Cond.methodLink RL 75 yX10_lockerOf ∈ zWL := zw_in (zw_5 (List.mem_of_getElem? (i := 63) (by decide +kernel))) rfl
theorem nwf_122 : Cond.code yX9_waitingAt cX9_waitingAt 3 (some .int) ∈ zWL := zw_in (zw_3 (List.mem_of_getElem? (i := 40) (by decide +kernel))) rfl
theorem nwf_123 : Cond.instanceMethod yX9_waitingAt ∈ zWL := zw_in (zw_3 (List.mem_of_getElem? (i := 38) (by decide +kernel))) rfl
theorem nwf_124 : Cond.selects RX9 yX9_waitingAt yX9_waitingAt ∈ zWL := zw_in (zw_3 (List.mem_of_getElem? (i := 39) (by decide +kernel))) rfl
theorem nwf_125 : Cond.methodLink RL 76 yX9_waitingAt ∈ zWL := zw_in (zw_3 (List.mem_of_getElem? (i := 37) (by decide +kernel))) rfl
theorem nwf_126 : Cond.code yX10_waitingAt cX10_waitingAt 3 (some .int) ∈ zWL := zw_in (zw_5 (List.mem_of_getElem? (i := 70) (by decide +kernel))) rfl
theorem nwf_127 : Cond.instanceMethod yX10_waitingAt ∈ zWL := zw_in (zw_5 (List.mem_of_getElem? (i := 68) (by decide +kernel))) rfl
theorem nwf_128 : Cond.selects RX10 yX10_waitingAt yX10_waitingAt ∈ zWL := zw_in (zw_5 (List.mem_of_getElem? (i := 69) (by decide +kernel))) rfl
theorem nwf_129 : Cond.methodLink RL 79 yX10_waitingAt ∈ zWL := zw_in (zw_5 (List.mem_of_getElem? (i := 67) (by decide +kernel))) rfl
theorem nwf_130 : Cond.code yX9_count cX9_count 2 (some .int) ∈ zWL := zw_in (zw_3 (List.mem_of_getElem? (i := 46) (by decide +kernel))) rfl
theorem nwf_131 : Cond.instanceMethod yX9_count ∈ zWL := zw_in (zw_3 (List.mem_of_getElem? (i := 44) (by decide +kernel))) rfl
theorem nwf_132 : Cond.selects RX9 yX9_count yX9_count ∈ zWL := zw_in (zw_3 (List.mem_of_getElem? (i := 45) (by decide +kernel))) rfl
theorem nwf_133 : Cond.methodLink RL 80 yX9_count ∈ zWL := zw_in (zw_3 (List.mem_of_getElem? (i := 43) (by decide +kernel))) rfl
theorem nwf_134 : Cond.code yX10_count cX10_count 2 (some .int) ∈ zWL := zw_in (zw_5 (List.mem_of_getElem? (i := 74) (by decide +kernel))) rfl
theorem nwf_135 : Cond.instanceMethod yX10_count ∈ zWL := zw_in (zw_5 (List.mem_of_getElem? (i := 72) (by decide +kernel))) rfl
theorem nwf_136 : Cond.selects RX10 yX10_count yX10_count ∈ zWL := zw_in (zw_5 (List.mem_of_getElem? (i := 73) (by decide +kernel))) rfl
theorem nwf_137 : Cond.methodLink RL 83 yX10_count ∈ zWL := zw_in (zw_5 (List.mem_of_getElem? (i := 71) (by decide +kernel))) rfl
theorem nwf_138 : Cond.code yX9_feeIn cX9_feeIn 3 (some .int) ∈ zWL := zw_in (zw_3 (List.mem_of_getElem? (i := 78) (by decide +kernel))) rfl
theorem nwf_139 : Cond.instanceMethod yX9_feeIn ∈ zWL := zw_in (zw_3 (List.mem_of_getElem? (i := 76) (by decide +kernel))) rfl
theorem nwf_140 : Cond.selects RX9 yX9_feeIn yX9_feeIn ∈ zWL := zw_in (zw_3 (List.mem_of_getElem? (i := 77) (by decide +kernel))) rfl
theorem nwf_141 : Cond.methodLink RL 84 yX9_feeIn ∈ zWL := zw_in (zw_3 (List.mem_of_getElem? (i := 75) (by decide +kernel))) rfl
theorem nwf_142 : Cond.code yX10_feeIn cX10_feeIn 5 (some .int) ∈ zWL := zw_in (zw_5 (List.mem_of_getElem? (i := 86) (by decide +kernel))) rfl
theorem nwf_143 : Cond.instanceMethod yX10_feeIn ∈ zWL := zw_in (zw_5 (List.mem_of_getElem? (i := 84) (by decide +kernel))) rfl
theorem nwf_144 : Cond.selects RX10 yX10_feeIn yX10_feeIn ∈ zWL := zw_in (zw_5 (List.mem_of_getElem? (i := 85) (by decide +kernel))) rfl
theorem nwf_145 : Cond.methodLink RL 87 yX10_feeIn ∈ zWL := zw_in (zw_5 (List.mem_of_getElem? (i := 83) (by decide +kernel))) rfl
theorem nwf_146 : Cond.code yX9_wouldHave cX9_wouldHave 2 (some .int) ∈ zWL := zw_in (zw_3 (List.mem_of_getElem? (i := 89) (by decide +kernel))) rfl
theorem nwf_147 : Cond.instanceMethod yX9_wouldHave ∈ zWL := zw_in (zw_3 (List.mem_of_getElem? (i := 87) (by decide +kernel))) rfl
theorem nwf_148 : Cond.selects RX9 yX9_wouldHave yX9_wouldHave ∈ zWL := zw_in (zw_3 (List.mem_of_getElem? (i := 88) (by decide +kernel))) rfl
theorem nwf_149 : Cond.methodLink RL 88 yX9_wouldHave ∈ zWL := zw_in (zw_3 (List.mem_of_getElem? (i := 86) (by decide +kernel))) rfl
theorem nwf_150 : Cond.code yX10_wouldHave cX10_wouldHave 3 (some .int) ∈ zWL := zw_in (zw_5 (List.mem_of_getElem? (i := 98) (by decide +kernel))) rfl
theorem nwf_151 : Cond.instanceMethod yX10_wouldHave ∈ zWL := zw_in (zw_5 (List.mem_of_getElem? (i := 96) (by decide +kernel))) rfl
theorem nwf_152 : Cond.selects RX10 yX10_wouldHave yX10_wouldHave ∈ zWL := zw_in (zw_5 (List.mem_of_getElem? (i := 97) (by decide +kernel))) rfl
theorem nwf_153 : Cond.methodLink RL 91 yX10_wouldHave ∈ zWL := zw_in (zw_5 (List.mem_of_getElem? (i := 95) (by decide +kernel))) rfl
theorem nwf_154 : Cond.code yX9_lentBits cX9_lentBits 3 (some .long) ∈ zWL := zw_in (zw_3 (List.mem_of_getElem? (i := 99) (by decide +kernel))) rfl
theorem nwf_155 : Cond.instanceMethod yX9_lentBits ∈ zWL := zw_in (zw_3 (List.mem_of_getElem? (i := 97) (by decide +kernel))) rfl
theorem nwf_156 : Cond.selects RX9 yX9_lentBits yX9_lentBits ∈ zWL := zw_in (zw_3 (List.mem_of_getElem? (i := 98) (by decide +kernel))) rfl
theorem nwf_157 : Cond.methodLink RL 92 yX9_lentBits ∈ zWL := zw_in (zw_3 (List.mem_of_getElem? (i := 96) (by decide +kernel))) rfl
theorem nwf_158 : Cond.code yX10_lentBits cX10_lentBits 2 (some .long) ∈ zWL := zw_in (zw_5 (List.mem_of_getElem? (i := 102) (by decide +kernel))) rfl
theorem nwf_159 : Cond.instanceMethod yX10_lentBits ∈ zWL := zw_in (zw_5 (List.mem_of_getElem? (i := 100) (by decide +kernel))) rfl
theorem nwf_160 : Cond.selects RX10 yX10_lentBits yX10_lentBits ∈ zWL := zw_in (zw_5 (List.mem_of_getElem? (i := 101) (by decide +kernel))) rfl
theorem nwf_161 : Cond.methodLink RL 96 yX10_lentBits ∈ zWL := zw_in (zw_5 (List.mem_of_getElem? (i := 99) (by decide +kernel))) rfl
theorem nwf_162 : Cond.code yX9_overdueBits cX9_overdueBits 2 (some .int) ∈ zWL := zw_in (zw_3 (List.mem_of_getElem? (i := 111) (by decide +kernel))) rfl
theorem nwf_163 : Cond.instanceMethod yX9_overdueBits ∈ zWL := zw_in (zw_3 (List.mem_of_getElem? (i := 109) (by decide +kernel))) rfl
theorem nwf_164 : Cond.selects RX9 yX9_overdueBits yX9_overdueBits ∈ zWL := zw_in (zw_3 (List.mem_of_getElem? (i := 110) (by decide +kernel))) rfl
theorem nwf_165 : Cond.methodLink RL 97 yX9_overdueBits ∈ zWL := zw_in (zw_3 (List.mem_of_getElem? (i := 108) (by decide +kernel))) rfl
theorem nwf_166 : Cond.code yX10_overdueBits cX10_overdueBits 4 (some .int) ∈ zWL := zw_in (zw_5 (List.mem_of_getElem? (i := 117) (by decide +kernel))) rfl
theorem nwf_167 : Cond.instanceMethod yX10_overdueBits ∈ zWL := zw_in (zw_5 (List.mem_of_getElem? (i := 115) (by decide +kernel))) rfl
theorem nwf_168 : Cond.selects RX10 yX10_overdueBits yX10_overdueBits ∈ zWL := zw_in (zw_5 (List.mem_of_getElem? (i := 116) (by decide +kernel))) rfl
theorem nwf_169 : Cond.methodLink RL 100 yX10_overdueBits ∈ zWL := zw_in (zw_5 (List.mem_of_getElem? (i := 114) (by decide +kernel))) rfl
theorem nwf_170 : Cond.code yX9_undo cX9_undo 1 (some .int) ∈ zWL := zw_in (zw_3 (List.mem_of_getElem? (i := 123) (by decide +kernel))) rfl
theorem nwf_171 : Cond.instanceMethod yX9_undo ∈ zWL := zw_in (zw_3 (List.mem_of_getElem? (i := 121) (by decide +kernel))) rfl
theorem nwf_172 : Cond.selects RX9 yX9_undo yX9_undo ∈ zWL := zw_in (zw_3 (List.mem_of_getElem? (i := 122) (by decide +kernel))) rfl
theorem nwf_173 : Cond.methodLink RL 101 yX9_undo ∈ zWL := zw_in (zw_3 (List.mem_of_getElem? (i := 120) (by decide +kernel))) rfl
theorem nwf_174 : Cond.code yX10_undo cX10_undo 2 (some .int) ∈ zWL := zw_in (zw_5 (List.mem_of_getElem? (i := 131) (by decide +kernel))) rfl
theorem nwf_175 : Cond.instanceMethod yX10_undo ∈ zWL := zw_in (zw_5 (List.mem_of_getElem? (i := 129) (by decide +kernel))) rfl
theorem nwf_176 : Cond.selects RX10 yX10_undo yX10_undo ∈ zWL := zw_in (zw_5 (List.mem_of_getElem? (i := 130) (by decide +kernel))) rfl
theorem nwf_177 : Cond.methodLink RL 104 yX10_undo ∈ zWL := zw_in (zw_5 (List.mem_of_getElem? (i := 128) (by decide +kernel))) rfl
theorem nwf_178 : Cond.code yX9_type cX9_type 2 (some .int) ∈ zWL := zw_in (zw_3 (List.mem_of_getElem? (i := 131) (by decide +kernel))) rfl
theorem nwf_179 : Cond.instanceMethod yX9_type ∈ zWL := zw_in (zw_3 (List.mem_of_getElem? (i := 129) (by decide +kernel))) rfl
theorem nwf_180 : Cond.selects RX9 yX9_type yX9_type ∈ zWL := zw_in (zw_3 (List.mem_of_getElem? (i := 130) (by decide +kernel))) rfl
theorem nwf_181 : Cond.methodLink RL 105 yX9_type ∈ zWL := zw_in (zw_3 (List.mem_of_getElem? (i := 128) (by decide +kernel))) rfl
theorem nwf_182 : Cond.code yX10_type cX10_type 2 (some .int) ∈ zWL := zw_in (zw_5 (List.mem_of_getElem? (i := 135) (by decide +kernel))) rfl
theorem nwf_183 : Cond.instanceMethod yX10_type ∈ zWL := zw_in (zw_5 (List.mem_of_getElem? (i := 133) (by decide +kernel))) rfl
theorem nwf_184 : Cond.selects RX10 yX10_type yX10_type ∈ zWL := zw_in (zw_5 (List.mem_of_getElem? (i := 134) (by decide +kernel))) rfl
theorem nwf_185 : Cond.methodLink RL 108 yX10_type ∈ zWL := zw_in (zw_5 (List.mem_of_getElem? (i := 132) (by decide +kernel))) rfl
theorem nwf_186 : Cond.code yX9_clearText cX9_clearText 1 (some .int) ∈ zWL := zw_in (zw_3 (List.mem_of_getElem? (i := 139) (by decide +kernel))) rfl
theorem nwf_187 : Cond.instanceMethod yX9_clearText ∈ zWL := zw_in (zw_3 (List.mem_of_getElem? (i := 137) (by decide +kernel))) rfl
theorem nwf_188 : Cond.selects RX9 yX9_clearText yX9_clearText ∈ zWL := zw_in (zw_3 (List.mem_of_getElem? (i := 138) (by decide +kernel))) rfl
theorem nwf_189 : Cond.methodLink RL 109 yX9_clearText ∈ zWL := zw_in (zw_3 (List.mem_of_getElem? (i := 136) (by decide +kernel))) rfl
theorem nwf_190 : Cond.code yX10_clearText cX10_clearText 2 (some .int) ∈ zWL := zw_in (zw_5 (List.mem_of_getElem? (i := 139) (by decide +kernel))) rfl
theorem nwf_191 : Cond.instanceMethod yX10_clearText ∈ zWL := zw_in (zw_5 (List.mem_of_getElem? (i := 137) (by decide +kernel))) rfl
theorem nwf_192 : Cond.selects RX10 yX10_clearText yX10_clearText ∈ zWL := zw_in (zw_5 (List.mem_of_getElem? (i := 138) (by decide +kernel))) rfl
theorem nwf_193 : Cond.methodLink RL 112 yX10_clearText ∈ zWL := zw_in (zw_5 (List.mem_of_getElem? (i := 136) (by decide +kernel))) rfl
theorem nwf_194 : Cond.code yX9_fault cX9_fault 2 (some .int) ∈ zWL := zw_in (zw_3 (List.mem_of_getElem? (i := 147) (by decide +kernel))) rfl
theorem nwf_195 : Cond.instanceMethod yX9_fault ∈ zWL := zw_in (zw_3 (List.mem_of_getElem? (i := 145) (by decide +kernel))) rfl
theorem nwf_196 : Cond.selects RX9 yX9_fault yX9_fault ∈ zWL := zw_in (zw_3 (List.mem_of_getElem? (i := 146) (by decide +kernel))) rfl
theorem nwf_197 : Cond.methodLink RL 113 yX9_fault ∈ zWL := zw_in (zw_3 (List.mem_of_getElem? (i := 144) (by decide +kernel))) rfl
theorem nwf_198 : Cond.code yX10_fault cX10_fault 3 (some .int) ∈ zWL := zw_in (zw_5 (List.mem_of_getElem? (i := 143) (by decide +kernel))) rfl
theorem nwf_199 : Cond.instanceMethod yX10_fault ∈ zWL := zw_in (zw_5 (List.mem_of_getElem? (i := 141) (by decide +kernel))) rfl
theorem nwf_200 : Cond.selects RX10 yX10_fault yX10_fault ∈ zWL := zw_in (zw_5 (List.mem_of_getElem? (i := 142) (by decide +kernel))) rfl
theorem nwf_201 : Cond.methodLink RL 116 yX10_fault ∈ zWL := zw_in (zw_5 (List.mem_of_getElem? (i := 140) (by decide +kernel))) rfl
theorem nwf_202 : Cond.code yX9_play cX9_play 1 (some .int) ∈ zWL := zw_in (zw_4 (List.mem_of_getElem? (i := 11) (by decide +kernel))) rfl
theorem nwf_203 : Cond.instanceMethod yX9_play ∈ zWL := zw_in (zw_4 (List.mem_of_getElem? (i := 9) (by decide +kernel))) rfl
theorem nwf_204 : Cond.selects RX9 yX9_play yX9_play ∈ zWL := zw_in (zw_4 (List.mem_of_getElem? (i := 10) (by decide +kernel))) rfl
theorem nwf_205 : Cond.methodLink RL 117 yX9_play ∈ zWL := zw_in (zw_4 (List.mem_of_getElem? (i := 8) (by decide +kernel))) rfl
theorem nwf_206 : Cond.code yX10_play cX10_play 2 (some .int) ∈ zWL := zw_in (zw_5 (List.mem_of_getElem? (i := 182) (by decide +kernel))) rfl
theorem nwf_207 : Cond.instanceMethod yX10_play ∈ zWL := zw_in (zw_5 (List.mem_of_getElem? (i := 180) (by decide +kernel))) rfl
theorem nwf_208 : Cond.selects RX10 yX10_play yX10_play ∈ zWL := zw_in (zw_5 (List.mem_of_getElem? (i := 181) (by decide +kernel))) rfl
theorem nwf_209 : Cond.methodLink RL 120 yX10_play ∈ zWL := zw_in (zw_5 (List.mem_of_getElem? (i := 179) (by decide +kernel))) rfl
theorem lg_cmp_r (x : Int64) : lg_cmp x x = 0 := by simp [lg_cmp]
theorem and31 (x : Int32) : ∃ k, k < 32 ∧ x &&& 31 = nI k := by
  have h : (x &&& 31).toBitVec = x.toBitVec &&& 31#32 := rfl
  have hlt : (x &&& 31).toBitVec.toNat < 32 := by
    rw [h, BitVec.toNat_and]
    exact Nat.lt_of_le_of_lt Nat.and_le_right (by decide)
  refine ⟨(x &&& 31).toBitVec.toNat, hlt, ?_⟩
  have e : (nI (x &&& 31).toBitVec.toNat).toBitVec = (x &&& 31).toBitVec := by
    show BitVec.ofNat 32 _ = _
    exact BitVec.eq_of_toNat_eq (by rw [BitVec.toNat_ofNat]; exact Nat.mod_eq_of_lt (by omega))
  have t : (⟨⟨(nI (x &&& 31).toBitVec.toNat).toBitVec⟩⟩ : Int32) = ⟨⟨(x &&& 31).toBitVec⟩⟩ := by rw [e]
  exact t.symm
theorem sc_lt {i L : Nat} (hi : i ≤ 1539) (hL : L ≤ 1536) (h : ¬ Int32.ofNat L - 3 < nI i) : i + 2 < L := by
  by_cases e : L < 3
  · exfalso
    refine h ?_
    match L, e with
    | 0, _ => exact Int32.lt_of_lt_of_le (show (Int32.ofNat 0 - 3 : Int32) < 0 by decide) (nI_pos' (by omega))
    | 1, _ => exact Int32.lt_of_lt_of_le (show (Int32.ofNat 1 - 3 : Int32) < 0 by decide) (nI_pos' (by omega))
    | 2, _ => exact Int32.lt_of_lt_of_le (show (Int32.ofNat 2 - 3 : Int32) < 0 by decide) (nI_pos' (by omega))
  · have t : Int32.ofNat L - 3 = nI (L - 3) := by
      show nI L - 3 = _
      obtain ⟨q, rfl⟩ : ∃ q, L = q + 3 := ⟨L - 3, by omega⟩
      rw [← nI_3, Nat.add_sub_cancel]
      exact Int32.add_sub_cancel _ _
    rw [t] at h
    have := mt (fun z => (nI_ltI (a := L - 3) (b := i) (by omega) (by omega)).mpr z) h
    omega
theorem nzv_X9_locker : yX9_locker.cls = RX9 ∧ yX9_locker.cls ≠ "java/lang/invoke/MethodHandle" ∧ yX9_locker.cls ≠ "java/lang/invoke/VarHandle" ∧ (parseMethodDescriptor yX9_locker.desc).map (fun d => d.parameters.length) = some 1 := by decide +kernel
theorem nzv_X10_locker : yX10_locker.cls = RX10 ∧ yX10_locker.cls ≠ "java/lang/invoke/MethodHandle" ∧ yX10_locker.cls ≠ "java/lang/invoke/VarHandle" ∧ (parseMethodDescriptor yX10_locker.desc).map (fun d => d.parameters.length) = some 1 := by decide +kernel
theorem nzv_X9_person : yX9_person.cls = RX9 ∧ yX9_person.cls ≠ "java/lang/invoke/MethodHandle" ∧ yX9_person.cls ≠ "java/lang/invoke/VarHandle" ∧ (parseMethodDescriptor yX9_person.desc).map (fun d => d.parameters.length) = some 0 := by decide +kernel
theorem nzv_X10_person : yX10_person.cls = RX10 ∧ yX10_person.cls ≠ "java/lang/invoke/MethodHandle" ∧ yX10_person.cls ≠ "java/lang/invoke/VarHandle" ∧ (parseMethodDescriptor yX10_person.desc).map (fun d => d.parameters.length) = some 0 := by decide +kernel
theorem nzv_X9_stand : yX9_stand.cls = RX9 ∧ yX9_stand.cls ≠ "java/lang/invoke/MethodHandle" ∧ yX9_stand.cls ≠ "java/lang/invoke/VarHandle" ∧ (parseMethodDescriptor yX9_stand.desc).map (fun d => d.parameters.length) = some 2 := by decide +kernel
theorem nzv_X10_stand : yX10_stand.cls = RX10 ∧ yX10_stand.cls ≠ "java/lang/invoke/MethodHandle" ∧ yX10_stand.cls ≠ "java/lang/invoke/VarHandle" ∧ (parseMethodDescriptor yX10_stand.desc).map (fun d => d.parameters.length) = some 2 := by decide +kernel
theorem nzv_X9_lend : yX9_lend.cls = RX9 ∧ yX9_lend.cls ≠ "java/lang/invoke/MethodHandle" ∧ yX9_lend.cls ≠ "java/lang/invoke/VarHandle" ∧ (parseMethodDescriptor yX9_lend.desc).map (fun d => d.parameters.length) = some 2 := by decide +kernel
theorem nzv_X10_lend : yX10_lend.cls = RX10 ∧ yX10_lend.cls ≠ "java/lang/invoke/MethodHandle" ∧ yX10_lend.cls ≠ "java/lang/invoke/VarHandle" ∧ (parseMethodDescriptor yX10_lend.desc).map (fun d => d.parameters.length) = some 2 := by decide +kernel
theorem nzv_X9_giveBack : yX9_giveBack.cls = RX9 ∧ yX9_giveBack.cls ≠ "java/lang/invoke/MethodHandle" ∧ yX9_giveBack.cls ≠ "java/lang/invoke/VarHandle" ∧ (parseMethodDescriptor yX9_giveBack.desc).map (fun d => d.parameters.length) = some 1 := by decide +kernel
theorem nzv_X10_giveBack : yX10_giveBack.cls = RX10 ∧ yX10_giveBack.cls ≠ "java/lang/invoke/MethodHandle" ∧ yX10_giveBack.cls ≠ "java/lang/invoke/VarHandle" ∧ (parseMethodDescriptor yX10_giveBack.desc).map (fun d => d.parameters.length) = some 1 := by decide +kernel
theorem nzv_X9_renew : yX9_renew.cls = RX9 ∧ yX9_renew.cls ≠ "java/lang/invoke/MethodHandle" ∧ yX9_renew.cls ≠ "java/lang/invoke/VarHandle" ∧ (parseMethodDescriptor yX9_renew.desc).map (fun d => d.parameters.length) = some 1 := by decide +kernel
theorem nzv_X10_renew : yX10_renew.cls = RX10 ∧ yX10_renew.cls ≠ "java/lang/invoke/MethodHandle" ∧ yX10_renew.cls ≠ "java/lang/invoke/VarHandle" ∧ (parseMethodDescriptor yX10_renew.desc).map (fun d => d.parameters.length) = some 1 := by decide +kernel
theorem nzv_X9_lose : yX9_lose.cls = RX9 ∧ yX9_lose.cls ≠ "java/lang/invoke/MethodHandle" ∧ yX9_lose.cls ≠ "java/lang/invoke/VarHandle" ∧ (parseMethodDescriptor yX9_lose.desc).map (fun d => d.parameters.length) = some 1 := by decide +kernel
theorem nzv_X10_lose : yX10_lose.cls = RX10 ∧ yX10_lose.cls ≠ "java/lang/invoke/MethodHandle" ∧ yX10_lose.cls ≠ "java/lang/invoke/VarHandle" ∧ (parseMethodDescriptor yX10_lose.desc).map (fun d => d.parameters.length) = some 1 := by decide +kernel
theorem nzv_X9_wish : yX9_wish.cls = RX9 ∧ yX9_wish.cls ≠ "java/lang/invoke/MethodHandle" ∧ yX9_wish.cls ≠ "java/lang/invoke/VarHandle" ∧ (parseMethodDescriptor yX9_wish.desc).map (fun d => d.parameters.length) = some 2 := by decide +kernel
theorem nzv_X10_wish : yX10_wish.cls = RX10 ∧ yX10_wish.cls ≠ "java/lang/invoke/MethodHandle" ∧ yX10_wish.cls ≠ "java/lang/invoke/VarHandle" ∧ (parseMethodDescriptor yX10_wish.desc).map (fun d => d.parameters.length) = some 2 := by decide +kernel
theorem nzv_X9_noWish : yX9_noWish.cls = RX9 ∧ yX9_noWish.cls ≠ "java/lang/invoke/MethodHandle" ∧ yX9_noWish.cls ≠ "java/lang/invoke/VarHandle" ∧ (parseMethodDescriptor yX9_noWish.desc).map (fun d => d.parameters.length) = some 1 := by decide +kernel
theorem nzv_X10_noWish : yX10_noWish.cls = RX10 ∧ yX10_noWish.cls ≠ "java/lang/invoke/MethodHandle" ∧ yX10_noWish.cls ≠ "java/lang/invoke/VarHandle" ∧ (parseMethodDescriptor yX10_noWish.desc).map (fun d => d.parameters.length) = some 1 := by decide +kernel
theorem nzv_X9_swap : yX9_swap.cls = RX9 ∧ yX9_swap.cls ≠ "java/lang/invoke/MethodHandle" ∧ yX9_swap.cls ≠ "java/lang/invoke/VarHandle" ∧ (parseMethodDescriptor yX9_swap.desc).map (fun d => d.parameters.length) = some 0 := by decide +kernel
theorem nzv_X10_swap : yX10_swap.cls = RX10 ∧ yX10_swap.cls ≠ "java/lang/invoke/MethodHandle" ∧ yX10_swap.cls ≠ "java/lang/invoke/VarHandle" ∧ (parseMethodDescriptor yX10_swap.desc).map (fun d => d.parameters.length) = some 0 := by decide +kernel
theorem nzv_X9_pay : yX9_pay.cls = RX9 ∧ yX9_pay.cls ≠ "java/lang/invoke/MethodHandle" ∧ yX9_pay.cls ≠ "java/lang/invoke/VarHandle" ∧ (parseMethodDescriptor yX9_pay.desc).map (fun d => d.parameters.length) = some 2 := by decide +kernel
theorem nzv_X10_pay : yX10_pay.cls = RX10 ∧ yX10_pay.cls ≠ "java/lang/invoke/MethodHandle" ∧ yX10_pay.cls ≠ "java/lang/invoke/VarHandle" ∧ (parseMethodDescriptor yX10_pay.desc).map (fun d => d.parameters.length) = some 2 := by decide +kernel
theorem nzv_X9_pass : yX9_pass.cls = RX9 ∧ yX9_pass.cls ≠ "java/lang/invoke/MethodHandle" ∧ yX9_pass.cls ≠ "java/lang/invoke/VarHandle" ∧ (parseMethodDescriptor yX9_pass.desc).map (fun d => d.parameters.length) = some 1 := by decide +kernel
theorem nzv_X10_pass : yX10_pass.cls = RX10 ∧ yX10_pass.cls ≠ "java/lang/invoke/MethodHandle" ∧ yX10_pass.cls ≠ "java/lang/invoke/VarHandle" ∧ (parseMethodDescriptor yX10_pass.desc).map (fun d => d.parameters.length) = some 1 := by decide +kernel
theorem nzv_X9_set : yX9_set.cls = RX9 ∧ yX9_set.cls ≠ "java/lang/invoke/MethodHandle" ∧ yX9_set.cls ≠ "java/lang/invoke/VarHandle" ∧ (parseMethodDescriptor yX9_set.desc).map (fun d => d.parameters.length) = some 2 := by decide +kernel
theorem nzv_X10_set : yX10_set.cls = RX10 ∧ yX10_set.cls ≠ "java/lang/invoke/MethodHandle" ∧ yX10_set.cls ≠ "java/lang/invoke/VarHandle" ∧ (parseMethodDescriptor yX10_set.desc).map (fun d => d.parameters.length) = some 2 := by decide +kernel
theorem nzv_X9_personOf : yX9_personOf.cls = RX9 ∧ yX9_personOf.cls ≠ "java/lang/invoke/MethodHandle" ∧ yX9_personOf.cls ≠ "java/lang/invoke/VarHandle" ∧ (parseMethodDescriptor yX9_personOf.desc).map (fun d => d.parameters.length) = some 2 := by decide +kernel
theorem nzv_X10_personOf : yX10_personOf.cls = RX10 ∧ yX10_personOf.cls ≠ "java/lang/invoke/MethodHandle" ∧ yX10_personOf.cls ≠ "java/lang/invoke/VarHandle" ∧ (parseMethodDescriptor yX10_personOf.desc).map (fun d => d.parameters.length) = some 2 := by decide +kernel
theorem nzv_X9_lockerOf : yX9_lockerOf.cls = RX9 ∧ yX9_lockerOf.cls ≠ "java/lang/invoke/MethodHandle" ∧ yX9_lockerOf.cls ≠ "java/lang/invoke/VarHandle" ∧ (parseMethodDescriptor yX9_lockerOf.desc).map (fun d => d.parameters.length) = some 2 := by decide +kernel
theorem nzv_X10_lockerOf : yX10_lockerOf.cls = RX10 ∧ yX10_lockerOf.cls ≠ "java/lang/invoke/MethodHandle" ∧ yX10_lockerOf.cls ≠ "java/lang/invoke/VarHandle" ∧ (parseMethodDescriptor yX10_lockerOf.desc).map (fun d => d.parameters.length) = some 2 := by decide +kernel
theorem nzv_X9_waitingAt : yX9_waitingAt.cls = RX9 ∧ yX9_waitingAt.cls ≠ "java/lang/invoke/MethodHandle" ∧ yX9_waitingAt.cls ≠ "java/lang/invoke/VarHandle" ∧ (parseMethodDescriptor yX9_waitingAt.desc).map (fun d => d.parameters.length) = some 2 := by decide +kernel
theorem nzv_X10_waitingAt : yX10_waitingAt.cls = RX10 ∧ yX10_waitingAt.cls ≠ "java/lang/invoke/MethodHandle" ∧ yX10_waitingAt.cls ≠ "java/lang/invoke/VarHandle" ∧ (parseMethodDescriptor yX10_waitingAt.desc).map (fun d => d.parameters.length) = some 2 := by decide +kernel
theorem nzv_X9_count : yX9_count.cls = RX9 ∧ yX9_count.cls ≠ "java/lang/invoke/MethodHandle" ∧ yX9_count.cls ≠ "java/lang/invoke/VarHandle" ∧ (parseMethodDescriptor yX9_count.desc).map (fun d => d.parameters.length) = some 1 := by decide +kernel
theorem nzv_X10_count : yX10_count.cls = RX10 ∧ yX10_count.cls ≠ "java/lang/invoke/MethodHandle" ∧ yX10_count.cls ≠ "java/lang/invoke/VarHandle" ∧ (parseMethodDescriptor yX10_count.desc).map (fun d => d.parameters.length) = some 1 := by decide +kernel
theorem nzv_X9_feeIn : yX9_feeIn.cls = RX9 ∧ yX9_feeIn.cls ≠ "java/lang/invoke/MethodHandle" ∧ yX9_feeIn.cls ≠ "java/lang/invoke/VarHandle" ∧ (parseMethodDescriptor yX9_feeIn.desc).map (fun d => d.parameters.length) = some 2 := by decide +kernel
theorem nzv_X10_feeIn : yX10_feeIn.cls = RX10 ∧ yX10_feeIn.cls ≠ "java/lang/invoke/MethodHandle" ∧ yX10_feeIn.cls ≠ "java/lang/invoke/VarHandle" ∧ (parseMethodDescriptor yX10_feeIn.desc).map (fun d => d.parameters.length) = some 2 := by decide +kernel
theorem nzv_X9_wouldHave : yX9_wouldHave.cls = RX9 ∧ yX9_wouldHave.cls ≠ "java/lang/invoke/MethodHandle" ∧ yX9_wouldHave.cls ≠ "java/lang/invoke/VarHandle" ∧ (parseMethodDescriptor yX9_wouldHave.desc).map (fun d => d.parameters.length) = some 1 := by decide +kernel
theorem nzv_X10_wouldHave : yX10_wouldHave.cls = RX10 ∧ yX10_wouldHave.cls ≠ "java/lang/invoke/MethodHandle" ∧ yX10_wouldHave.cls ≠ "java/lang/invoke/VarHandle" ∧ (parseMethodDescriptor yX10_wouldHave.desc).map (fun d => d.parameters.length) = some 1 := by decide +kernel
theorem nzv_X9_lentBits : yX9_lentBits.cls = RX9 ∧ yX9_lentBits.cls ≠ "java/lang/invoke/MethodHandle" ∧ yX9_lentBits.cls ≠ "java/lang/invoke/VarHandle" ∧ (parseMethodDescriptor yX9_lentBits.desc).map (fun d => d.parameters.length) = some 0 := by decide +kernel
theorem nzv_X10_lentBits : yX10_lentBits.cls = RX10 ∧ yX10_lentBits.cls ≠ "java/lang/invoke/MethodHandle" ∧ yX10_lentBits.cls ≠ "java/lang/invoke/VarHandle" ∧ (parseMethodDescriptor yX10_lentBits.desc).map (fun d => d.parameters.length) = some 0 := by decide +kernel
theorem nzv_X9_overdueBits : yX9_overdueBits.cls = RX9 ∧ yX9_overdueBits.cls ≠ "java/lang/invoke/MethodHandle" ∧ yX9_overdueBits.cls ≠ "java/lang/invoke/VarHandle" ∧ (parseMethodDescriptor yX9_overdueBits.desc).map (fun d => d.parameters.length) = some 0 := by decide +kernel
theorem nzv_X10_overdueBits : yX10_overdueBits.cls = RX10 ∧ yX10_overdueBits.cls ≠ "java/lang/invoke/MethodHandle" ∧ yX10_overdueBits.cls ≠ "java/lang/invoke/VarHandle" ∧ (parseMethodDescriptor yX10_overdueBits.desc).map (fun d => d.parameters.length) = some 0 := by decide +kernel
theorem nzv_X9_undo : yX9_undo.cls = RX9 ∧ yX9_undo.cls ≠ "java/lang/invoke/MethodHandle" ∧ yX9_undo.cls ≠ "java/lang/invoke/VarHandle" ∧ (parseMethodDescriptor yX9_undo.desc).map (fun d => d.parameters.length) = some 0 := by decide +kernel
theorem nzv_X10_undo : yX10_undo.cls = RX10 ∧ yX10_undo.cls ≠ "java/lang/invoke/MethodHandle" ∧ yX10_undo.cls ≠ "java/lang/invoke/VarHandle" ∧ (parseMethodDescriptor yX10_undo.desc).map (fun d => d.parameters.length) = some 0 := by decide +kernel
theorem nzv_X9_type : yX9_type.cls = RX9 ∧ yX9_type.cls ≠ "java/lang/invoke/MethodHandle" ∧ yX9_type.cls ≠ "java/lang/invoke/VarHandle" ∧ (parseMethodDescriptor yX9_type.desc).map (fun d => d.parameters.length) = some 1 := by decide +kernel
theorem nzv_X10_type : yX10_type.cls = RX10 ∧ yX10_type.cls ≠ "java/lang/invoke/MethodHandle" ∧ yX10_type.cls ≠ "java/lang/invoke/VarHandle" ∧ (parseMethodDescriptor yX10_type.desc).map (fun d => d.parameters.length) = some 1 := by decide +kernel
theorem nzv_X9_clearText : yX9_clearText.cls = RX9 ∧ yX9_clearText.cls ≠ "java/lang/invoke/MethodHandle" ∧ yX9_clearText.cls ≠ "java/lang/invoke/VarHandle" ∧ (parseMethodDescriptor yX9_clearText.desc).map (fun d => d.parameters.length) = some 0 := by decide +kernel
theorem nzv_X10_clearText : yX10_clearText.cls = RX10 ∧ yX10_clearText.cls ≠ "java/lang/invoke/MethodHandle" ∧ yX10_clearText.cls ≠ "java/lang/invoke/VarHandle" ∧ (parseMethodDescriptor yX10_clearText.desc).map (fun d => d.parameters.length) = some 0 := by decide +kernel
theorem nzv_X9_fault : yX9_fault.cls = RX9 ∧ yX9_fault.cls ≠ "java/lang/invoke/MethodHandle" ∧ yX9_fault.cls ≠ "java/lang/invoke/VarHandle" ∧ (parseMethodDescriptor yX9_fault.desc).map (fun d => d.parameters.length) = some 1 := by decide +kernel
theorem nzv_X10_fault : yX10_fault.cls = RX10 ∧ yX10_fault.cls ≠ "java/lang/invoke/MethodHandle" ∧ yX10_fault.cls ≠ "java/lang/invoke/VarHandle" ∧ (parseMethodDescriptor yX10_fault.desc).map (fun d => d.parameters.length) = some 1 := by decide +kernel
theorem nzv_X9_play : yX9_play.cls = RX9 ∧ yX9_play.cls ≠ "java/lang/invoke/MethodHandle" ∧ yX9_play.cls ≠ "java/lang/invoke/VarHandle" ∧ (parseMethodDescriptor yX9_play.desc).map (fun d => d.parameters.length) = some 0 := by decide +kernel
theorem nzv_X10_play : yX10_play.cls = RX10 ∧ yX10_play.cls ≠ "java/lang/invoke/MethodHandle" ∧ yX10_play.cls ≠ "java/lang/invoke/VarHandle" ∧ (parseMethodDescriptor yX10_play.desc).map (fun d => d.parameters.length) = some 0 := by decide +kernel
section LCS
variable {p : Program} {l : Launch} {e : Env} {s : State} {m : MethodId} {args : Array Value} {below : List Frame} {meth : Method} {c : Code} {H : Heap} {locs : List Loc} {Q : State → Prop} {ls : Array Slot} {G : zG} {b L i : Nat} {xs : Nat → Int32}
set_option maxHeartbeats 4000000 in
set_option maxRecDepth 100000 in
theorem lc_0 (hx : p.tables.exec = Jvm.exec) (hb : c.code = cL_law) (hml : c.maxLocals = 4) (hown : s.vm.findClass RL = some m.cls) (hL : ∀ w ∈ zWL, w.before args s = true) (hK : zK G (nA s.heap.size) s) (hV : zVb G) (hX : va_X b L xs s s.heap) (hbl : b < s.heap.size) {V : zV3} (R : Rel V) (hM : zM G V H) (hS : va_S (nA s.heap.size) s.heap H locs) (hl : lv_has ls 4 [(3, .int (nI i)), (2, .ref (gA G 16 0 0)), (1, .ref (gA G 10 0 0)), (0, .ref b)]) (h1 : vp_in (nI i + 1) L) (h2 : vp_in (nI i + 2) L) (kk : ∀ (V' : zV3) (H' : Heap) (locs' : List Loc), Rel V' → zM G V' H' → va_S (nA s.heap.size) s.heap H' locs' → W p l e room_1 s m args below meth c H' locs' 244 3284 Q (F0 m 771 ls [])) : W p l e room_1 s m args below meth c H locs 244 3284 Q (F0 m 152 ls []) := by
  have hbA : ¬ nA s.heap.size b := Nat.not_le.mpr hbl
  obtain ⟨r, V1, h2', e1, e2, e8, R1⟩ := PUB_locker (xs (nI i + 1).toNatClampNeg) R
  refine lv_aload_n hx hb dL_law_152 rfl (lv_at hl 2 rfl) ?_
  refine lv_aload_n hx hb dL_law_153 rfl (lv_at hl 3 rfl) ?_
  refine lv_iload_n hx hb dL_law_154 rfl (lv_at hl 0 rfl) ?_
  refine lv_iconst (v := 1) hx hb dL_law_155 (by decide) ?_
  refine lv_iadd hx hb dL_law_156 ?_
  refine va_sld hx hb hX hbl hbA hS h1 dL_law_157 ?_
  refine z_callV (As := [.int (xs (nI i + 1).toNatClampNeg)]) (rest := []) (C := RX9) hx hb hml hown hL hK hM hS (kX9_locker l G (nA s.heap.size) V (xs (nI i + 1).toNatClampNeg) e1) (zw_gv nwf_4 nwf_1 nwf_2 nwf_3 nwf_0) nzv_X9_locker ⟨rfl, rfl⟩ ⟨Nat.le_of_ble_eq_true rfl, Nat.le_of_ble_eq_true rfl⟩ (hM.recv hK dm_10 (zd_10 G V) rfl) rfl hl.1 rfl (Nat.le_of_ble_eq_true rfl) dL_law_158 ⟨Nat.le_of_ble_eq_true rfl, Nat.le_of_ble_eq_true rfl⟩ (fun H locs hM hS => ?_)
  refine lv_aload_n hx hb dL_law_161 rfl (lv_at hl 1 rfl) ?_
  refine lv_aload_n hx hb dL_law_162 rfl (lv_at hl 3 rfl) ?_
  refine lv_iload_n hx hb dL_law_163 rfl (lv_at hl 0 rfl) ?_
  refine lv_iconst (v := 1) hx hb dL_law_164 (by decide) ?_
  refine lv_iadd hx hb dL_law_165 ?_
  refine va_sld hx hb hX hbl hbA hS h1 dL_law_166 ?_
  have hM : zM G (upG V1 8 (V 8)) H := by rw [← e8, upG_id]; exact hM
  refine z_callV (As := [.int (xs (nI i + 1).toNatClampNeg)]) (rest := [.int r]) (C := RX10) hx hb hml hown hL hK hM hS (kX10_locker l G (nA s.heap.size) V1 (V 8) (xs (nI i + 1).toNatClampNeg) e2) (zw_gv nwf_9 nwf_6 nwf_7 nwf_8 nwf_5) nzv_X10_locker ⟨rfl, rfl⟩ ⟨Nat.le_of_ble_eq_true rfl, Nat.le_of_ble_eq_true rfl⟩ (hM.recv hK dm_16 (zd_16 G (upG V1 8 (V 8)) 0 0) rfl) rfl hl.1 rfl (Nat.le_of_ble_eq_true rfl) dL_law_167 ⟨Nat.le_of_ble_eq_true rfl, Nat.le_of_ble_eq_true rfl⟩ (fun H locs hM hS => ?_)
  exact lv_icmp_eq (tgt := 771) hx hb dL_law_170 (by decide) (fun _ => kk _ H locs R1 hM hS) (fun c1 => absurd rfl c1)
set_option maxHeartbeats 4000000 in
set_option maxRecDepth 100000 in
theorem lc_1 (hx : p.tables.exec = Jvm.exec) (hb : c.code = cL_law) (hml : c.maxLocals = 4) (hown : s.vm.findClass RL = some m.cls) (hL : ∀ w ∈ zWL, w.before args s = true) (hK : zK G (nA s.heap.size) s) (hV : zVb G) (hX : va_X b L xs s s.heap) (hbl : b < s.heap.size) {V : zV3} (R : Rel V) (hM : zM G V H) (hS : va_S (nA s.heap.size) s.heap H locs) (hl : lv_has ls 4 [(3, .int (nI i)), (2, .ref (gA G 16 0 0)), (1, .ref (gA G 10 0 0)), (0, .ref b)]) (h1 : vp_in (nI i + 1) L) (h2 : vp_in (nI i + 2) L) (kk : ∀ (V' : zV3) (H' : Heap) (locs' : List Loc), Rel V' → zM G V' H' → va_S (nA s.heap.size) s.heap H' locs' → W p l e room_1 s m args below meth c H' locs' 244 3284 Q (F0 m 771 ls [])) : W p l e room_1 s m args below meth c H locs 244 3284 Q (F0 m 175 ls []) := by
  have hbA : ¬ nA s.heap.size b := Nat.not_le.mpr hbl
  obtain ⟨r, V1, h2', e1, e2, e8, R1⟩ := PUB_person R
  refine lv_aload_n hx hb dL_law_175 rfl (lv_at hl 2 rfl) ?_
  refine z_callV (As := []) (rest := []) (C := RX9) hx hb hml hown hL hK hM hS (kX9_person l G (nA s.heap.size) V e1) (zw_gv nwf_13 nwf_11 nwf_12 nwf_3 nwf_10) nzv_X9_person ⟨rfl, rfl⟩ ⟨Nat.le_of_ble_eq_true rfl, Nat.le_of_ble_eq_true rfl⟩ (hM.recv hK dm_10 (zd_10 G V) rfl) rfl hl.1 rfl (Nat.le_of_ble_eq_true rfl) dL_law_176 ⟨Nat.le_of_ble_eq_true rfl, Nat.le_of_ble_eq_true rfl⟩ (fun H locs hM hS => ?_)
  refine lv_aload_n hx hb dL_law_179 rfl (lv_at hl 1 rfl) ?_
  have hM : zM G (upG V1 8 (V 8)) H := by rw [← e8, upG_id]; exact hM
  refine z_callV (As := []) (rest := [.int r]) (C := RX10) hx hb hml hown hL hK hM hS (kX10_person l G (nA s.heap.size) V1 (V 8) e2) (zw_gv nwf_17 nwf_15 nwf_16 nwf_8 nwf_14) nzv_X10_person ⟨rfl, rfl⟩ ⟨Nat.le_of_ble_eq_true rfl, Nat.le_of_ble_eq_true rfl⟩ (hM.recv hK dm_16 (zd_16 G (upG V1 8 (V 8)) 0 0) rfl) rfl hl.1 rfl (Nat.le_of_ble_eq_true rfl) dL_law_180 ⟨Nat.le_of_ble_eq_true rfl, Nat.le_of_ble_eq_true rfl⟩ (fun H locs hM hS => ?_)
  exact lv_icmp_eq (tgt := 771) hx hb dL_law_183 (by decide) (fun _ => kk _ H locs R1 hM hS) (fun c1 => absurd rfl c1)
set_option maxHeartbeats 4000000 in
set_option maxRecDepth 100000 in
theorem lc_2 (hx : p.tables.exec = Jvm.exec) (hb : c.code = cL_law) (hml : c.maxLocals = 4) (hown : s.vm.findClass RL = some m.cls) (hL : ∀ w ∈ zWL, w.before args s = true) (hK : zK G (nA s.heap.size) s) (hV : zVb G) (hX : va_X b L xs s s.heap) (hbl : b < s.heap.size) {V : zV3} (R : Rel V) (hM : zM G V H) (hS : va_S (nA s.heap.size) s.heap H locs) (hl : lv_has ls 4 [(3, .int (nI i)), (2, .ref (gA G 16 0 0)), (1, .ref (gA G 10 0 0)), (0, .ref b)]) (h1 : vp_in (nI i + 1) L) (h2 : vp_in (nI i + 2) L) (kk : ∀ (V' : zV3) (H' : Heap) (locs' : List Loc), Rel V' → zM G V' H' → va_S (nA s.heap.size) s.heap H' locs' → W p l e room_1 s m args below meth c H' locs' 244 3284 Q (F0 m 771 ls [])) : W p l e room_1 s m args below meth c H locs 244 3284 Q (F0 m 188 ls []) := by
  have hbA : ¬ nA s.heap.size b := Nat.not_le.mpr hbl
  obtain ⟨r, V1, h2', e1, e2, e8, R1⟩ := PUB_stand (xs (nI i + 1).toNatClampNeg) (xs (nI i + 2).toNatClampNeg) R
  refine lv_aload_n hx hb dL_law_188 rfl (lv_at hl 2 rfl) ?_
  refine lv_aload_n hx hb dL_law_189 rfl (lv_at hl 3 rfl) ?_
  refine lv_iload_n hx hb dL_law_190 rfl (lv_at hl 0 rfl) ?_
  refine lv_iconst (v := 1) hx hb dL_law_191 (by decide) ?_
  refine lv_iadd hx hb dL_law_192 ?_
  refine va_sld hx hb hX hbl hbA hS h1 dL_law_193 ?_
  refine lv_aload_n hx hb dL_law_194 rfl (lv_at hl 3 rfl) ?_
  refine lv_iload_n hx hb dL_law_195 rfl (lv_at hl 0 rfl) ?_
  refine lv_iconst (v := 2) hx hb dL_law_196 (by decide) ?_
  refine lv_iadd hx hb dL_law_197 ?_
  refine va_sld hx hb hX hbl hbA hS h2 dL_law_198 ?_
  refine z_callV (As := [.int (xs (nI i + 1).toNatClampNeg), .int (xs (nI i + 2).toNatClampNeg)]) (rest := []) (C := RX9) hx hb hml hown hL hK hM hS (kX9_stand l G (nA s.heap.size) V (xs (nI i + 1).toNatClampNeg) (xs (nI i + 2).toNatClampNeg) e1) (zw_gv nwf_21 nwf_19 nwf_20 nwf_3 nwf_18) nzv_X9_stand ⟨rfl, rfl⟩ ⟨Nat.le_of_ble_eq_true rfl, Nat.le_of_ble_eq_true rfl⟩ (hM.recv hK dm_10 (zd_10 G V) rfl) rfl hl.1 rfl (Nat.le_of_ble_eq_true rfl) dL_law_199 ⟨Nat.le_of_ble_eq_true rfl, Nat.le_of_ble_eq_true rfl⟩ (fun H locs hM hS => ?_)
  refine lv_aload_n hx hb dL_law_202 rfl (lv_at hl 1 rfl) ?_
  refine lv_aload_n hx hb dL_law_203 rfl (lv_at hl 3 rfl) ?_
  refine lv_iload_n hx hb dL_law_204 rfl (lv_at hl 0 rfl) ?_
  refine lv_iconst (v := 1) hx hb dL_law_205 (by decide) ?_
  refine lv_iadd hx hb dL_law_206 ?_
  refine va_sld hx hb hX hbl hbA hS h1 dL_law_207 ?_
  refine lv_aload_n hx hb dL_law_208 rfl (lv_at hl 3 rfl) ?_
  refine lv_iload_n hx hb dL_law_209 rfl (lv_at hl 0 rfl) ?_
  refine lv_iconst (v := 2) hx hb dL_law_210 (by decide) ?_
  refine lv_iadd hx hb dL_law_211 ?_
  refine va_sld hx hb hX hbl hbA hS h2 dL_law_212 ?_
  have hM : zM G (upG V1 8 (V 8)) H := by rw [← e8, upG_id]; exact hM
  refine z_callV (As := [.int (xs (nI i + 1).toNatClampNeg), .int (xs (nI i + 2).toNatClampNeg)]) (rest := [.int r]) (C := RX10) hx hb hml hown hL hK hM hS (kX10_stand l G (nA s.heap.size) V1 (V 8) (xs (nI i + 1).toNatClampNeg) (xs (nI i + 2).toNatClampNeg) e2) (zw_gv nwf_25 nwf_23 nwf_24 nwf_8 nwf_22) nzv_X10_stand ⟨rfl, rfl⟩ ⟨Nat.le_of_ble_eq_true rfl, Nat.le_of_ble_eq_true rfl⟩ (hM.recv hK dm_16 (zd_16 G (upG V1 8 (V 8)) 0 0) rfl) rfl hl.1 rfl (Nat.le_of_ble_eq_true rfl) dL_law_213 ⟨Nat.le_of_ble_eq_true rfl, Nat.le_of_ble_eq_true rfl⟩ (fun H locs hM hS => ?_)
  exact lv_icmp_eq (tgt := 771) hx hb dL_law_216 (by decide) (fun _ => kk _ H locs R1 hM hS) (fun c1 => absurd rfl c1)
set_option maxHeartbeats 4000000 in
set_option maxRecDepth 100000 in
theorem lc_3 (hx : p.tables.exec = Jvm.exec) (hb : c.code = cL_law) (hml : c.maxLocals = 4) (hown : s.vm.findClass RL = some m.cls) (hL : ∀ w ∈ zWL, w.before args s = true) (hK : zK G (nA s.heap.size) s) (hV : zVb G) (hX : va_X b L xs s s.heap) (hbl : b < s.heap.size) {V : zV3} (R : Rel V) (hM : zM G V H) (hS : va_S (nA s.heap.size) s.heap H locs) (hl : lv_has ls 4 [(3, .int (nI i)), (2, .ref (gA G 16 0 0)), (1, .ref (gA G 10 0 0)), (0, .ref b)]) (h1 : vp_in (nI i + 1) L) (h2 : vp_in (nI i + 2) L) (kk : ∀ (V' : zV3) (H' : Heap) (locs' : List Loc), Rel V' → zM G V' H' → va_S (nA s.heap.size) s.heap H' locs' → W p l e room_1 s m args below meth c H' locs' 244 3284 Q (F0 m 771 ls [])) : W p l e room_1 s m args below meth c H locs 244 3284 Q (F0 m 221 ls []) := by
  have hbA : ¬ nA s.heap.size b := Nat.not_le.mpr hbl
  obtain ⟨r, V1, h2', e1, e2, e8, R1⟩ := PUB_lend (xs (nI i + 1).toNatClampNeg) (xs (nI i + 2).toNatClampNeg) R
  refine lv_aload_n hx hb dL_law_221 rfl (lv_at hl 2 rfl) ?_
  refine lv_aload_n hx hb dL_law_222 rfl (lv_at hl 3 rfl) ?_
  refine lv_iload_n hx hb dL_law_223 rfl (lv_at hl 0 rfl) ?_
  refine lv_iconst (v := 1) hx hb dL_law_224 (by decide) ?_
  refine lv_iadd hx hb dL_law_225 ?_
  refine va_sld hx hb hX hbl hbA hS h1 dL_law_226 ?_
  refine lv_aload_n hx hb dL_law_227 rfl (lv_at hl 3 rfl) ?_
  refine lv_iload_n hx hb dL_law_228 rfl (lv_at hl 0 rfl) ?_
  refine lv_iconst (v := 2) hx hb dL_law_229 (by decide) ?_
  refine lv_iadd hx hb dL_law_230 ?_
  refine va_sld hx hb hX hbl hbA hS h2 dL_law_231 ?_
  refine z_callV (As := [.int (xs (nI i + 1).toNatClampNeg), .int (xs (nI i + 2).toNatClampNeg)]) (rest := []) (C := RX9) hx hb hml hown hL hK hM hS (kX9_lend l G (nA s.heap.size) V (xs (nI i + 1).toNatClampNeg) (xs (nI i + 2).toNatClampNeg) e1) (zw_gv nwf_29 nwf_27 nwf_28 nwf_3 nwf_26) nzv_X9_lend ⟨rfl, rfl⟩ ⟨Nat.le_of_ble_eq_true rfl, Nat.le_of_ble_eq_true rfl⟩ (hM.recv hK dm_10 (zd_10 G V) rfl) rfl hl.1 rfl (Nat.le_of_ble_eq_true rfl) dL_law_232 ⟨Nat.le_of_ble_eq_true rfl, Nat.le_of_ble_eq_true rfl⟩ (fun H locs hM hS => ?_)
  refine lv_aload_n hx hb dL_law_235 rfl (lv_at hl 1 rfl) ?_
  refine lv_aload_n hx hb dL_law_236 rfl (lv_at hl 3 rfl) ?_
  refine lv_iload_n hx hb dL_law_237 rfl (lv_at hl 0 rfl) ?_
  refine lv_iconst (v := 1) hx hb dL_law_238 (by decide) ?_
  refine lv_iadd hx hb dL_law_239 ?_
  refine va_sld hx hb hX hbl hbA hS h1 dL_law_240 ?_
  refine lv_aload_n hx hb dL_law_241 rfl (lv_at hl 3 rfl) ?_
  refine lv_iload_n hx hb dL_law_242 rfl (lv_at hl 0 rfl) ?_
  refine lv_iconst (v := 2) hx hb dL_law_243 (by decide) ?_
  refine lv_iadd hx hb dL_law_244 ?_
  refine va_sld hx hb hX hbl hbA hS h2 dL_law_245 ?_
  have hM : zM G (upG V1 8 (V 8)) H := by rw [← e8, upG_id]; exact hM
  refine z_callV (As := [.int (xs (nI i + 1).toNatClampNeg), .int (xs (nI i + 2).toNatClampNeg)]) (rest := [.int r]) (C := RX10) hx hb hml hown hL hK hM hS (kX10_lend l G (nA s.heap.size) V1 (V 8) (xs (nI i + 1).toNatClampNeg) (xs (nI i + 2).toNatClampNeg) e2) (zw_gv nwf_33 nwf_31 nwf_32 nwf_8 nwf_30) nzv_X10_lend ⟨rfl, rfl⟩ ⟨Nat.le_of_ble_eq_true rfl, Nat.le_of_ble_eq_true rfl⟩ (hM.recv hK dm_16 (zd_16 G (upG V1 8 (V 8)) 0 0) rfl) rfl hl.1 rfl (Nat.le_of_ble_eq_true rfl) dL_law_246 ⟨Nat.le_of_ble_eq_true rfl, Nat.le_of_ble_eq_true rfl⟩ (fun H locs hM hS => ?_)
  exact lv_icmp_eq (tgt := 771) hx hb dL_law_249 (by decide) (fun _ => kk _ H locs R1 hM hS) (fun c1 => absurd rfl c1)
set_option maxHeartbeats 4000000 in
set_option maxRecDepth 100000 in
theorem lc_4 (hx : p.tables.exec = Jvm.exec) (hb : c.code = cL_law) (hml : c.maxLocals = 4) (hown : s.vm.findClass RL = some m.cls) (hL : ∀ w ∈ zWL, w.before args s = true) (hK : zK G (nA s.heap.size) s) (hV : zVb G) (hX : va_X b L xs s s.heap) (hbl : b < s.heap.size) {V : zV3} (R : Rel V) (hM : zM G V H) (hS : va_S (nA s.heap.size) s.heap H locs) (hl : lv_has ls 4 [(3, .int (nI i)), (2, .ref (gA G 16 0 0)), (1, .ref (gA G 10 0 0)), (0, .ref b)]) (h1 : vp_in (nI i + 1) L) (h2 : vp_in (nI i + 2) L) (kk : ∀ (V' : zV3) (H' : Heap) (locs' : List Loc), Rel V' → zM G V' H' → va_S (nA s.heap.size) s.heap H' locs' → W p l e room_1 s m args below meth c H' locs' 244 3284 Q (F0 m 771 ls [])) : W p l e room_1 s m args below meth c H locs 244 3284 Q (F0 m 254 ls []) := by
  have hbA : ¬ nA s.heap.size b := Nat.not_le.mpr hbl
  obtain ⟨r, V1, h2', e1, e2, e8, R1⟩ := PUB_giveBack (xs (nI i + 1).toNatClampNeg) R
  refine lv_aload_n hx hb dL_law_254 rfl (lv_at hl 2 rfl) ?_
  refine lv_aload_n hx hb dL_law_255 rfl (lv_at hl 3 rfl) ?_
  refine lv_iload_n hx hb dL_law_256 rfl (lv_at hl 0 rfl) ?_
  refine lv_iconst (v := 1) hx hb dL_law_257 (by decide) ?_
  refine lv_iadd hx hb dL_law_258 ?_
  refine va_sld hx hb hX hbl hbA hS h1 dL_law_259 ?_
  refine z_callV (As := [.int (xs (nI i + 1).toNatClampNeg)]) (rest := []) (C := RX9) hx hb hml hown hL hK hM hS (kX9_giveBack l G (nA s.heap.size) V (xs (nI i + 1).toNatClampNeg) e1) (zw_gv nwf_37 nwf_35 nwf_36 nwf_3 nwf_34) nzv_X9_giveBack ⟨rfl, rfl⟩ ⟨Nat.le_of_ble_eq_true rfl, Nat.le_of_ble_eq_true rfl⟩ (hM.recv hK dm_10 (zd_10 G V) rfl) rfl hl.1 rfl (Nat.le_of_ble_eq_true rfl) dL_law_260 ⟨Nat.le_of_ble_eq_true rfl, Nat.le_of_ble_eq_true rfl⟩ (fun H locs hM hS => ?_)
  refine lv_aload_n hx hb dL_law_263 rfl (lv_at hl 1 rfl) ?_
  refine lv_aload_n hx hb dL_law_264 rfl (lv_at hl 3 rfl) ?_
  refine lv_iload_n hx hb dL_law_265 rfl (lv_at hl 0 rfl) ?_
  refine lv_iconst (v := 1) hx hb dL_law_266 (by decide) ?_
  refine lv_iadd hx hb dL_law_267 ?_
  refine va_sld hx hb hX hbl hbA hS h1 dL_law_268 ?_
  have hM : zM G (upG V1 8 (V 8)) H := by rw [← e8, upG_id]; exact hM
  refine z_callV (As := [.int (xs (nI i + 1).toNatClampNeg)]) (rest := [.int r]) (C := RX10) hx hb hml hown hL hK hM hS (kX10_giveBack l G (nA s.heap.size) V1 (V 8) (xs (nI i + 1).toNatClampNeg) e2) (zw_gv nwf_41 nwf_39 nwf_40 nwf_8 nwf_38) nzv_X10_giveBack ⟨rfl, rfl⟩ ⟨Nat.le_of_ble_eq_true rfl, Nat.le_of_ble_eq_true rfl⟩ (hM.recv hK dm_16 (zd_16 G (upG V1 8 (V 8)) 0 0) rfl) rfl hl.1 rfl (Nat.le_of_ble_eq_true rfl) dL_law_269 ⟨Nat.le_of_ble_eq_true rfl, Nat.le_of_ble_eq_true rfl⟩ (fun H locs hM hS => ?_)
  exact lv_icmp_eq (tgt := 771) hx hb dL_law_272 (by decide) (fun _ => kk _ H locs R1 hM hS) (fun c1 => absurd rfl c1)
set_option maxHeartbeats 4000000 in
set_option maxRecDepth 100000 in
theorem lc_5 (hx : p.tables.exec = Jvm.exec) (hb : c.code = cL_law) (hml : c.maxLocals = 4) (hown : s.vm.findClass RL = some m.cls) (hL : ∀ w ∈ zWL, w.before args s = true) (hK : zK G (nA s.heap.size) s) (hV : zVb G) (hX : va_X b L xs s s.heap) (hbl : b < s.heap.size) {V : zV3} (R : Rel V) (hM : zM G V H) (hS : va_S (nA s.heap.size) s.heap H locs) (hl : lv_has ls 4 [(3, .int (nI i)), (2, .ref (gA G 16 0 0)), (1, .ref (gA G 10 0 0)), (0, .ref b)]) (h1 : vp_in (nI i + 1) L) (h2 : vp_in (nI i + 2) L) (kk : ∀ (V' : zV3) (H' : Heap) (locs' : List Loc), Rel V' → zM G V' H' → va_S (nA s.heap.size) s.heap H' locs' → W p l e room_1 s m args below meth c H' locs' 244 3284 Q (F0 m 771 ls [])) : W p l e room_1 s m args below meth c H locs 244 3284 Q (F0 m 277 ls []) := by
  have hbA : ¬ nA s.heap.size b := Nat.not_le.mpr hbl
  obtain ⟨r, V1, h2', e1, e2, e8, R1⟩ := PUB_renew (xs (nI i + 1).toNatClampNeg) R
  refine lv_aload_n hx hb dL_law_277 rfl (lv_at hl 2 rfl) ?_
  refine lv_aload_n hx hb dL_law_278 rfl (lv_at hl 3 rfl) ?_
  refine lv_iload_n hx hb dL_law_279 rfl (lv_at hl 0 rfl) ?_
  refine lv_iconst (v := 1) hx hb dL_law_280 (by decide) ?_
  refine lv_iadd hx hb dL_law_281 ?_
  refine va_sld hx hb hX hbl hbA hS h1 dL_law_282 ?_
  refine z_callV (As := [.int (xs (nI i + 1).toNatClampNeg)]) (rest := []) (C := RX9) hx hb hml hown hL hK hM hS (kX9_renew l G (nA s.heap.size) V (xs (nI i + 1).toNatClampNeg) e1) (zw_gv nwf_45 nwf_43 nwf_44 nwf_3 nwf_42) nzv_X9_renew ⟨rfl, rfl⟩ ⟨Nat.le_of_ble_eq_true rfl, Nat.le_of_ble_eq_true rfl⟩ (hM.recv hK dm_10 (zd_10 G V) rfl) rfl hl.1 rfl (Nat.le_of_ble_eq_true rfl) dL_law_283 ⟨Nat.le_of_ble_eq_true rfl, Nat.le_of_ble_eq_true rfl⟩ (fun H locs hM hS => ?_)
  refine lv_aload_n hx hb dL_law_286 rfl (lv_at hl 1 rfl) ?_
  refine lv_aload_n hx hb dL_law_287 rfl (lv_at hl 3 rfl) ?_
  refine lv_iload_n hx hb dL_law_288 rfl (lv_at hl 0 rfl) ?_
  refine lv_iconst (v := 1) hx hb dL_law_289 (by decide) ?_
  refine lv_iadd hx hb dL_law_290 ?_
  refine va_sld hx hb hX hbl hbA hS h1 dL_law_291 ?_
  have hM : zM G (upG V1 8 (V 8)) H := by rw [← e8, upG_id]; exact hM
  refine z_callV (As := [.int (xs (nI i + 1).toNatClampNeg)]) (rest := [.int r]) (C := RX10) hx hb hml hown hL hK hM hS (kX10_renew l G (nA s.heap.size) V1 (V 8) (xs (nI i + 1).toNatClampNeg) e2) (zw_gv nwf_49 nwf_47 nwf_48 nwf_8 nwf_46) nzv_X10_renew ⟨rfl, rfl⟩ ⟨Nat.le_of_ble_eq_true rfl, Nat.le_of_ble_eq_true rfl⟩ (hM.recv hK dm_16 (zd_16 G (upG V1 8 (V 8)) 0 0) rfl) rfl hl.1 rfl (Nat.le_of_ble_eq_true rfl) dL_law_292 ⟨Nat.le_of_ble_eq_true rfl, Nat.le_of_ble_eq_true rfl⟩ (fun H locs hM hS => ?_)
  exact lv_icmp_eq (tgt := 771) hx hb dL_law_295 (by decide) (fun _ => kk _ H locs R1 hM hS) (fun c1 => absurd rfl c1)
set_option maxHeartbeats 4000000 in
set_option maxRecDepth 100000 in
theorem lc_6 (hx : p.tables.exec = Jvm.exec) (hb : c.code = cL_law) (hml : c.maxLocals = 4) (hown : s.vm.findClass RL = some m.cls) (hL : ∀ w ∈ zWL, w.before args s = true) (hK : zK G (nA s.heap.size) s) (hV : zVb G) (hX : va_X b L xs s s.heap) (hbl : b < s.heap.size) {V : zV3} (R : Rel V) (hM : zM G V H) (hS : va_S (nA s.heap.size) s.heap H locs) (hl : lv_has ls 4 [(3, .int (nI i)), (2, .ref (gA G 16 0 0)), (1, .ref (gA G 10 0 0)), (0, .ref b)]) (h1 : vp_in (nI i + 1) L) (h2 : vp_in (nI i + 2) L) (kk : ∀ (V' : zV3) (H' : Heap) (locs' : List Loc), Rel V' → zM G V' H' → va_S (nA s.heap.size) s.heap H' locs' → W p l e room_1 s m args below meth c H' locs' 244 3284 Q (F0 m 771 ls [])) : W p l e room_1 s m args below meth c H locs 244 3284 Q (F0 m 300 ls []) := by
  have hbA : ¬ nA s.heap.size b := Nat.not_le.mpr hbl
  obtain ⟨r, V1, h2', e1, e2, e8, R1⟩ := PUB_lose (xs (nI i + 1).toNatClampNeg) R
  refine lv_aload_n hx hb dL_law_300 rfl (lv_at hl 2 rfl) ?_
  refine lv_aload_n hx hb dL_law_301 rfl (lv_at hl 3 rfl) ?_
  refine lv_iload_n hx hb dL_law_302 rfl (lv_at hl 0 rfl) ?_
  refine lv_iconst (v := 1) hx hb dL_law_303 (by decide) ?_
  refine lv_iadd hx hb dL_law_304 ?_
  refine va_sld hx hb hX hbl hbA hS h1 dL_law_305 ?_
  refine z_callV (As := [.int (xs (nI i + 1).toNatClampNeg)]) (rest := []) (C := RX9) hx hb hml hown hL hK hM hS (kX9_lose l G (nA s.heap.size) V (xs (nI i + 1).toNatClampNeg) e1) (zw_gv nwf_53 nwf_51 nwf_52 nwf_3 nwf_50) nzv_X9_lose ⟨rfl, rfl⟩ ⟨Nat.le_of_ble_eq_true rfl, Nat.le_of_ble_eq_true rfl⟩ (hM.recv hK dm_10 (zd_10 G V) rfl) rfl hl.1 rfl (Nat.le_of_ble_eq_true rfl) dL_law_306 ⟨Nat.le_of_ble_eq_true rfl, Nat.le_of_ble_eq_true rfl⟩ (fun H locs hM hS => ?_)
  refine lv_aload_n hx hb dL_law_309 rfl (lv_at hl 1 rfl) ?_
  refine lv_aload_n hx hb dL_law_310 rfl (lv_at hl 3 rfl) ?_
  refine lv_iload_n hx hb dL_law_311 rfl (lv_at hl 0 rfl) ?_
  refine lv_iconst (v := 1) hx hb dL_law_312 (by decide) ?_
  refine lv_iadd hx hb dL_law_313 ?_
  refine va_sld hx hb hX hbl hbA hS h1 dL_law_314 ?_
  have hM : zM G (upG V1 8 (V 8)) H := by rw [← e8, upG_id]; exact hM
  refine z_callV (As := [.int (xs (nI i + 1).toNatClampNeg)]) (rest := [.int r]) (C := RX10) hx hb hml hown hL hK hM hS (kX10_lose l G (nA s.heap.size) V1 (V 8) (xs (nI i + 1).toNatClampNeg) e2) (zw_gv nwf_57 nwf_55 nwf_56 nwf_8 nwf_54) nzv_X10_lose ⟨rfl, rfl⟩ ⟨Nat.le_of_ble_eq_true rfl, Nat.le_of_ble_eq_true rfl⟩ (hM.recv hK dm_16 (zd_16 G (upG V1 8 (V 8)) 0 0) rfl) rfl hl.1 rfl (Nat.le_of_ble_eq_true rfl) dL_law_315 ⟨Nat.le_of_ble_eq_true rfl, Nat.le_of_ble_eq_true rfl⟩ (fun H locs hM hS => ?_)
  exact lv_icmp_eq (tgt := 771) hx hb dL_law_318 (by decide) (fun _ => kk _ H locs R1 hM hS) (fun c1 => absurd rfl c1)
set_option maxHeartbeats 4000000 in
set_option maxRecDepth 100000 in
theorem lc_7 (hx : p.tables.exec = Jvm.exec) (hb : c.code = cL_law) (hml : c.maxLocals = 4) (hown : s.vm.findClass RL = some m.cls) (hL : ∀ w ∈ zWL, w.before args s = true) (hK : zK G (nA s.heap.size) s) (hV : zVb G) (hX : va_X b L xs s s.heap) (hbl : b < s.heap.size) {V : zV3} (R : Rel V) (hM : zM G V H) (hS : va_S (nA s.heap.size) s.heap H locs) (hl : lv_has ls 4 [(3, .int (nI i)), (2, .ref (gA G 16 0 0)), (1, .ref (gA G 10 0 0)), (0, .ref b)]) (h1 : vp_in (nI i + 1) L) (h2 : vp_in (nI i + 2) L) (kk : ∀ (V' : zV3) (H' : Heap) (locs' : List Loc), Rel V' → zM G V' H' → va_S (nA s.heap.size) s.heap H' locs' → W p l e room_1 s m args below meth c H' locs' 244 3284 Q (F0 m 771 ls [])) : W p l e room_1 s m args below meth c H locs 244 3284 Q (F0 m 323 ls []) := by
  have hbA : ¬ nA s.heap.size b := Nat.not_le.mpr hbl
  obtain ⟨r, V1, h2', e1, e2, e8, R1⟩ := PUB_wish (xs (nI i + 1).toNatClampNeg) (xs (nI i + 2).toNatClampNeg) R
  refine lv_aload_n hx hb dL_law_323 rfl (lv_at hl 2 rfl) ?_
  refine lv_aload_n hx hb dL_law_324 rfl (lv_at hl 3 rfl) ?_
  refine lv_iload_n hx hb dL_law_325 rfl (lv_at hl 0 rfl) ?_
  refine lv_iconst (v := 1) hx hb dL_law_326 (by decide) ?_
  refine lv_iadd hx hb dL_law_327 ?_
  refine va_sld hx hb hX hbl hbA hS h1 dL_law_328 ?_
  refine lv_aload_n hx hb dL_law_329 rfl (lv_at hl 3 rfl) ?_
  refine lv_iload_n hx hb dL_law_330 rfl (lv_at hl 0 rfl) ?_
  refine lv_iconst (v := 2) hx hb dL_law_331 (by decide) ?_
  refine lv_iadd hx hb dL_law_332 ?_
  refine va_sld hx hb hX hbl hbA hS h2 dL_law_333 ?_
  refine z_callV (As := [.int (xs (nI i + 1).toNatClampNeg), .int (xs (nI i + 2).toNatClampNeg)]) (rest := []) (C := RX9) hx hb hml hown hL hK hM hS (kX9_wish l G (nA s.heap.size) V (xs (nI i + 1).toNatClampNeg) (xs (nI i + 2).toNatClampNeg) e1) (zw_gv nwf_61 nwf_59 nwf_60 nwf_3 nwf_58) nzv_X9_wish ⟨rfl, rfl⟩ ⟨Nat.le_of_ble_eq_true rfl, Nat.le_of_ble_eq_true rfl⟩ (hM.recv hK dm_10 (zd_10 G V) rfl) rfl hl.1 rfl (Nat.le_of_ble_eq_true rfl) dL_law_334 ⟨Nat.le_of_ble_eq_true rfl, Nat.le_of_ble_eq_true rfl⟩ (fun H locs hM hS => ?_)
  refine lv_aload_n hx hb dL_law_337 rfl (lv_at hl 1 rfl) ?_
  refine lv_aload_n hx hb dL_law_338 rfl (lv_at hl 3 rfl) ?_
  refine lv_iload_n hx hb dL_law_339 rfl (lv_at hl 0 rfl) ?_
  refine lv_iconst (v := 1) hx hb dL_law_340 (by decide) ?_
  refine lv_iadd hx hb dL_law_341 ?_
  refine va_sld hx hb hX hbl hbA hS h1 dL_law_342 ?_
  refine lv_aload_n hx hb dL_law_343 rfl (lv_at hl 3 rfl) ?_
  refine lv_iload_n hx hb dL_law_344 rfl (lv_at hl 0 rfl) ?_
  refine lv_iconst (v := 2) hx hb dL_law_345 (by decide) ?_
  refine lv_iadd hx hb dL_law_346 ?_
  refine va_sld hx hb hX hbl hbA hS h2 dL_law_347 ?_
  have hM : zM G (upG V1 8 (V 8)) H := by rw [← e8, upG_id]; exact hM
  refine z_callV (As := [.int (xs (nI i + 1).toNatClampNeg), .int (xs (nI i + 2).toNatClampNeg)]) (rest := [.int r]) (C := RX10) hx hb hml hown hL hK hM hS (kX10_wish l G (nA s.heap.size) V1 (V 8) (xs (nI i + 1).toNatClampNeg) (xs (nI i + 2).toNatClampNeg) e2) (zw_gv nwf_65 nwf_63 nwf_64 nwf_8 nwf_62) nzv_X10_wish ⟨rfl, rfl⟩ ⟨Nat.le_of_ble_eq_true rfl, Nat.le_of_ble_eq_true rfl⟩ (hM.recv hK dm_16 (zd_16 G (upG V1 8 (V 8)) 0 0) rfl) rfl hl.1 rfl (Nat.le_of_ble_eq_true rfl) dL_law_348 ⟨Nat.le_of_ble_eq_true rfl, Nat.le_of_ble_eq_true rfl⟩ (fun H locs hM hS => ?_)
  exact lv_icmp_eq (tgt := 771) hx hb dL_law_351 (by decide) (fun _ => kk _ H locs R1 hM hS) (fun c1 => absurd rfl c1)
set_option maxHeartbeats 4000000 in
set_option maxRecDepth 100000 in
theorem lc_8 (hx : p.tables.exec = Jvm.exec) (hb : c.code = cL_law) (hml : c.maxLocals = 4) (hown : s.vm.findClass RL = some m.cls) (hL : ∀ w ∈ zWL, w.before args s = true) (hK : zK G (nA s.heap.size) s) (hV : zVb G) (hX : va_X b L xs s s.heap) (hbl : b < s.heap.size) {V : zV3} (R : Rel V) (hM : zM G V H) (hS : va_S (nA s.heap.size) s.heap H locs) (hl : lv_has ls 4 [(3, .int (nI i)), (2, .ref (gA G 16 0 0)), (1, .ref (gA G 10 0 0)), (0, .ref b)]) (h1 : vp_in (nI i + 1) L) (h2 : vp_in (nI i + 2) L) (kk : ∀ (V' : zV3) (H' : Heap) (locs' : List Loc), Rel V' → zM G V' H' → va_S (nA s.heap.size) s.heap H' locs' → W p l e room_1 s m args below meth c H' locs' 244 3284 Q (F0 m 771 ls [])) : W p l e room_1 s m args below meth c H locs 244 3284 Q (F0 m 356 ls []) := by
  have hbA : ¬ nA s.heap.size b := Nat.not_le.mpr hbl
  obtain ⟨r, V1, h2', e1, e2, e8, R1⟩ := PUB_noWish (xs (nI i + 1).toNatClampNeg) R
  refine lv_aload_n hx hb dL_law_356 rfl (lv_at hl 2 rfl) ?_
  refine lv_aload_n hx hb dL_law_357 rfl (lv_at hl 3 rfl) ?_
  refine lv_iload_n hx hb dL_law_358 rfl (lv_at hl 0 rfl) ?_
  refine lv_iconst (v := 1) hx hb dL_law_359 (by decide) ?_
  refine lv_iadd hx hb dL_law_360 ?_
  refine va_sld hx hb hX hbl hbA hS h1 dL_law_361 ?_
  refine z_callV (As := [.int (xs (nI i + 1).toNatClampNeg)]) (rest := []) (C := RX9) hx hb hml hown hL hK hM hS (kX9_noWish l G (nA s.heap.size) V (xs (nI i + 1).toNatClampNeg) e1) (zw_gv nwf_69 nwf_67 nwf_68 nwf_3 nwf_66) nzv_X9_noWish ⟨rfl, rfl⟩ ⟨Nat.le_of_ble_eq_true rfl, Nat.le_of_ble_eq_true rfl⟩ (hM.recv hK dm_10 (zd_10 G V) rfl) rfl hl.1 rfl (Nat.le_of_ble_eq_true rfl) dL_law_362 ⟨Nat.le_of_ble_eq_true rfl, Nat.le_of_ble_eq_true rfl⟩ (fun H locs hM hS => ?_)
  refine lv_aload_n hx hb dL_law_365 rfl (lv_at hl 1 rfl) ?_
  refine lv_aload_n hx hb dL_law_366 rfl (lv_at hl 3 rfl) ?_
  refine lv_iload_n hx hb dL_law_367 rfl (lv_at hl 0 rfl) ?_
  refine lv_iconst (v := 1) hx hb dL_law_368 (by decide) ?_
  refine lv_iadd hx hb dL_law_369 ?_
  refine va_sld hx hb hX hbl hbA hS h1 dL_law_370 ?_
  have hM : zM G (upG V1 8 (V 8)) H := by rw [← e8, upG_id]; exact hM
  refine z_callV (As := [.int (xs (nI i + 1).toNatClampNeg)]) (rest := [.int r]) (C := RX10) hx hb hml hown hL hK hM hS (kX10_noWish l G (nA s.heap.size) V1 (V 8) (xs (nI i + 1).toNatClampNeg) e2) (zw_gv nwf_73 nwf_71 nwf_72 nwf_8 nwf_70) nzv_X10_noWish ⟨rfl, rfl⟩ ⟨Nat.le_of_ble_eq_true rfl, Nat.le_of_ble_eq_true rfl⟩ (hM.recv hK dm_16 (zd_16 G (upG V1 8 (V 8)) 0 0) rfl) rfl hl.1 rfl (Nat.le_of_ble_eq_true rfl) dL_law_371 ⟨Nat.le_of_ble_eq_true rfl, Nat.le_of_ble_eq_true rfl⟩ (fun H locs hM hS => ?_)
  exact lv_icmp_eq (tgt := 771) hx hb dL_law_374 (by decide) (fun _ => kk _ H locs R1 hM hS) (fun c1 => absurd rfl c1)
set_option maxHeartbeats 4000000 in
set_option maxRecDepth 100000 in
theorem lc_9 (hx : p.tables.exec = Jvm.exec) (hb : c.code = cL_law) (hml : c.maxLocals = 4) (hown : s.vm.findClass RL = some m.cls) (hL : ∀ w ∈ zWL, w.before args s = true) (hK : zK G (nA s.heap.size) s) (hV : zVb G) (hX : va_X b L xs s s.heap) (hbl : b < s.heap.size) {V : zV3} (R : Rel V) (hM : zM G V H) (hS : va_S (nA s.heap.size) s.heap H locs) (hl : lv_has ls 4 [(3, .int (nI i)), (2, .ref (gA G 16 0 0)), (1, .ref (gA G 10 0 0)), (0, .ref b)]) (h1 : vp_in (nI i + 1) L) (h2 : vp_in (nI i + 2) L) (kk : ∀ (V' : zV3) (H' : Heap) (locs' : List Loc), Rel V' → zM G V' H' → va_S (nA s.heap.size) s.heap H' locs' → W p l e room_1 s m args below meth c H' locs' 244 3284 Q (F0 m 771 ls [])) : W p l e room_1 s m args below meth c H locs 244 3284 Q (F0 m 379 ls []) := by
  have hbA : ¬ nA s.heap.size b := Nat.not_le.mpr hbl
  obtain ⟨r, V1, h2', e1, e2, e8, R1⟩ := PUB_swap R
  refine lv_aload_n hx hb dL_law_379 rfl (lv_at hl 2 rfl) ?_
  refine z_callV (As := []) (rest := []) (C := RX9) hx hb hml hown hL hK hM hS (kX9_swap l G (nA s.heap.size) V e1) (zw_gv nwf_77 nwf_75 nwf_76 nwf_3 nwf_74) nzv_X9_swap ⟨rfl, rfl⟩ ⟨Nat.le_of_ble_eq_true rfl, Nat.le_of_ble_eq_true rfl⟩ (hM.recv hK dm_10 (zd_10 G V) rfl) rfl hl.1 rfl (Nat.le_of_ble_eq_true rfl) dL_law_380 ⟨Nat.le_of_ble_eq_true rfl, Nat.le_of_ble_eq_true rfl⟩ (fun H locs hM hS => ?_)
  refine lv_aload_n hx hb dL_law_383 rfl (lv_at hl 1 rfl) ?_
  have hM : zM G (upG V1 8 (V 8)) H := by rw [← e8, upG_id]; exact hM
  refine z_callV (As := []) (rest := [.int r]) (C := RX10) hx hb hml hown hL hK hM hS (kX10_swap l G (nA s.heap.size) V1 (V 8) e2) (zw_gv nwf_81 nwf_79 nwf_80 nwf_8 nwf_78) nzv_X10_swap ⟨rfl, rfl⟩ ⟨Nat.le_of_ble_eq_true rfl, Nat.le_of_ble_eq_true rfl⟩ (hM.recv hK dm_16 (zd_16 G (upG V1 8 (V 8)) 0 0) rfl) rfl hl.1 rfl (Nat.le_of_ble_eq_true rfl) dL_law_384 ⟨Nat.le_of_ble_eq_true rfl, Nat.le_of_ble_eq_true rfl⟩ (fun H locs hM hS => ?_)
  exact lv_icmp_eq (tgt := 771) hx hb dL_law_387 (by decide) (fun _ => kk _ H locs R1 hM hS) (fun c1 => absurd rfl c1)
set_option maxHeartbeats 4000000 in
set_option maxRecDepth 100000 in
theorem lc_10 (hx : p.tables.exec = Jvm.exec) (hb : c.code = cL_law) (hml : c.maxLocals = 4) (hown : s.vm.findClass RL = some m.cls) (hL : ∀ w ∈ zWL, w.before args s = true) (hK : zK G (nA s.heap.size) s) (hV : zVb G) (hX : va_X b L xs s s.heap) (hbl : b < s.heap.size) {V : zV3} (R : Rel V) (hM : zM G V H) (hS : va_S (nA s.heap.size) s.heap H locs) (hl : lv_has ls 4 [(3, .int (nI i)), (2, .ref (gA G 16 0 0)), (1, .ref (gA G 10 0 0)), (0, .ref b)]) (h1 : vp_in (nI i + 1) L) (h2 : vp_in (nI i + 2) L) (kk : ∀ (V' : zV3) (H' : Heap) (locs' : List Loc), Rel V' → zM G V' H' → va_S (nA s.heap.size) s.heap H' locs' → W p l e room_1 s m args below meth c H' locs' 244 3284 Q (F0 m 771 ls [])) : W p l e room_1 s m args below meth c H locs 244 3284 Q (F0 m 392 ls []) := by
  have hbA : ¬ nA s.heap.size b := Nat.not_le.mpr hbl
  obtain ⟨r, V1, h2', e1, e2, e8, R1⟩ := PUB_pay (xs (nI i + 1).toNatClampNeg) (xs (nI i + 2).toNatClampNeg) R
  refine lv_aload_n hx hb dL_law_392 rfl (lv_at hl 2 rfl) ?_
  refine lv_aload_n hx hb dL_law_393 rfl (lv_at hl 3 rfl) ?_
  refine lv_iload_n hx hb dL_law_394 rfl (lv_at hl 0 rfl) ?_
  refine lv_iconst (v := 1) hx hb dL_law_395 (by decide) ?_
  refine lv_iadd hx hb dL_law_396 ?_
  refine va_sld hx hb hX hbl hbA hS h1 dL_law_397 ?_
  refine lv_aload_n hx hb dL_law_398 rfl (lv_at hl 3 rfl) ?_
  refine lv_iload_n hx hb dL_law_399 rfl (lv_at hl 0 rfl) ?_
  refine lv_iconst (v := 2) hx hb dL_law_400 (by decide) ?_
  refine lv_iadd hx hb dL_law_401 ?_
  refine va_sld hx hb hX hbl hbA hS h2 dL_law_402 ?_
  refine z_callV (As := [.int (xs (nI i + 1).toNatClampNeg), .int (xs (nI i + 2).toNatClampNeg)]) (rest := []) (C := RX9) hx hb hml hown hL hK hM hS (kX9_pay l G (nA s.heap.size) V (xs (nI i + 1).toNatClampNeg) (xs (nI i + 2).toNatClampNeg) e1) (zw_gv nwf_85 nwf_83 nwf_84 nwf_3 nwf_82) nzv_X9_pay ⟨rfl, rfl⟩ ⟨Nat.le_of_ble_eq_true rfl, Nat.le_of_ble_eq_true rfl⟩ (hM.recv hK dm_10 (zd_10 G V) rfl) rfl hl.1 rfl (Nat.le_of_ble_eq_true rfl) dL_law_403 ⟨Nat.le_of_ble_eq_true rfl, Nat.le_of_ble_eq_true rfl⟩ (fun H locs hM hS => ?_)
  refine lv_aload_n hx hb dL_law_406 rfl (lv_at hl 1 rfl) ?_
  refine lv_aload_n hx hb dL_law_407 rfl (lv_at hl 3 rfl) ?_
  refine lv_iload_n hx hb dL_law_408 rfl (lv_at hl 0 rfl) ?_
  refine lv_iconst (v := 1) hx hb dL_law_409 (by decide) ?_
  refine lv_iadd hx hb dL_law_410 ?_
  refine va_sld hx hb hX hbl hbA hS h1 dL_law_411 ?_
  refine lv_aload_n hx hb dL_law_412 rfl (lv_at hl 3 rfl) ?_
  refine lv_iload_n hx hb dL_law_413 rfl (lv_at hl 0 rfl) ?_
  refine lv_iconst (v := 2) hx hb dL_law_414 (by decide) ?_
  refine lv_iadd hx hb dL_law_415 ?_
  refine va_sld hx hb hX hbl hbA hS h2 dL_law_416 ?_
  have hM : zM G (upG V1 8 (V 8)) H := by rw [← e8, upG_id]; exact hM
  refine z_callV (As := [.int (xs (nI i + 1).toNatClampNeg), .int (xs (nI i + 2).toNatClampNeg)]) (rest := [.int r]) (C := RX10) hx hb hml hown hL hK hM hS (kX10_pay l G (nA s.heap.size) V1 (V 8) (xs (nI i + 1).toNatClampNeg) (xs (nI i + 2).toNatClampNeg) e2) (zw_gv nwf_89 nwf_87 nwf_88 nwf_8 nwf_86) nzv_X10_pay ⟨rfl, rfl⟩ ⟨Nat.le_of_ble_eq_true rfl, Nat.le_of_ble_eq_true rfl⟩ (hM.recv hK dm_16 (zd_16 G (upG V1 8 (V 8)) 0 0) rfl) rfl hl.1 rfl (Nat.le_of_ble_eq_true rfl) dL_law_417 ⟨Nat.le_of_ble_eq_true rfl, Nat.le_of_ble_eq_true rfl⟩ (fun H locs hM hS => ?_)
  exact lv_icmp_eq (tgt := 771) hx hb dL_law_420 (by decide) (fun _ => kk _ H locs R1 hM hS) (fun c1 => absurd rfl c1)
set_option maxHeartbeats 4000000 in
set_option maxRecDepth 100000 in
theorem lc_11 (hx : p.tables.exec = Jvm.exec) (hb : c.code = cL_law) (hml : c.maxLocals = 4) (hown : s.vm.findClass RL = some m.cls) (hL : ∀ w ∈ zWL, w.before args s = true) (hK : zK G (nA s.heap.size) s) (hV : zVb G) (hX : va_X b L xs s s.heap) (hbl : b < s.heap.size) {V : zV3} (R : Rel V) (hM : zM G V H) (hS : va_S (nA s.heap.size) s.heap H locs) (hl : lv_has ls 4 [(3, .int (nI i)), (2, .ref (gA G 16 0 0)), (1, .ref (gA G 10 0 0)), (0, .ref b)]) (h1 : vp_in (nI i + 1) L) (h2 : vp_in (nI i + 2) L) (kk : ∀ (V' : zV3) (H' : Heap) (locs' : List Loc), Rel V' → zM G V' H' → va_S (nA s.heap.size) s.heap H' locs' → W p l e room_1 s m args below meth c H' locs' 244 3284 Q (F0 m 771 ls [])) : W p l e room_1 s m args below meth c H locs 244 3284 Q (F0 m 425 ls []) := by
  have hbA : ¬ nA s.heap.size b := Nat.not_le.mpr hbl
  obtain ⟨r, V1, h2', e1, e2, e8, R1⟩ := PUB_pass (xs (nI i + 1).toNatClampNeg) R
  refine lv_aload_n hx hb dL_law_425 rfl (lv_at hl 2 rfl) ?_
  refine lv_aload_n hx hb dL_law_426 rfl (lv_at hl 3 rfl) ?_
  refine lv_iload_n hx hb dL_law_427 rfl (lv_at hl 0 rfl) ?_
  refine lv_iconst (v := 1) hx hb dL_law_428 (by decide) ?_
  refine lv_iadd hx hb dL_law_429 ?_
  refine va_sld hx hb hX hbl hbA hS h1 dL_law_430 ?_
  refine z_callV (As := [.int (xs (nI i + 1).toNatClampNeg)]) (rest := []) (C := RX9) hx hb hml hown hL hK hM hS (kX9_pass l G (nA s.heap.size) V (xs (nI i + 1).toNatClampNeg) e1) (zw_gv nwf_93 nwf_91 nwf_92 nwf_3 nwf_90) nzv_X9_pass ⟨rfl, rfl⟩ ⟨Nat.le_of_ble_eq_true rfl, Nat.le_of_ble_eq_true rfl⟩ (hM.recv hK dm_10 (zd_10 G V) rfl) rfl hl.1 rfl (Nat.le_of_ble_eq_true rfl) dL_law_431 ⟨Nat.le_of_ble_eq_true rfl, Nat.le_of_ble_eq_true rfl⟩ (fun H locs hM hS => ?_)
  refine lv_aload_n hx hb dL_law_434 rfl (lv_at hl 1 rfl) ?_
  refine lv_aload_n hx hb dL_law_435 rfl (lv_at hl 3 rfl) ?_
  refine lv_iload_n hx hb dL_law_436 rfl (lv_at hl 0 rfl) ?_
  refine lv_iconst (v := 1) hx hb dL_law_437 (by decide) ?_
  refine lv_iadd hx hb dL_law_438 ?_
  refine va_sld hx hb hX hbl hbA hS h1 dL_law_439 ?_
  have hM : zM G (upG V1 8 (V 8)) H := by rw [← e8, upG_id]; exact hM
  refine z_callV (As := [.int (xs (nI i + 1).toNatClampNeg)]) (rest := [.int r]) (C := RX10) hx hb hml hown hL hK hM hS (kX10_pass l G (nA s.heap.size) V1 (V 8) (xs (nI i + 1).toNatClampNeg) e2) (zw_gv nwf_97 nwf_95 nwf_96 nwf_8 nwf_94) nzv_X10_pass ⟨rfl, rfl⟩ ⟨Nat.le_of_ble_eq_true rfl, Nat.le_of_ble_eq_true rfl⟩ (hM.recv hK dm_16 (zd_16 G (upG V1 8 (V 8)) 0 0) rfl) rfl hl.1 rfl (Nat.le_of_ble_eq_true rfl) dL_law_440 ⟨Nat.le_of_ble_eq_true rfl, Nat.le_of_ble_eq_true rfl⟩ (fun H locs hM hS => ?_)
  exact lv_icmp_eq (tgt := 771) hx hb dL_law_443 (by decide) (fun _ => kk _ H locs R1 hM hS) (fun c1 => absurd rfl c1)
set_option maxHeartbeats 4000000 in
set_option maxRecDepth 100000 in
theorem lc_12 (hx : p.tables.exec = Jvm.exec) (hb : c.code = cL_law) (hml : c.maxLocals = 4) (hown : s.vm.findClass RL = some m.cls) (hL : ∀ w ∈ zWL, w.before args s = true) (hK : zK G (nA s.heap.size) s) (hV : zVb G) (hX : va_X b L xs s s.heap) (hbl : b < s.heap.size) {V : zV3} (R : Rel V) (hM : zM G V H) (hS : va_S (nA s.heap.size) s.heap H locs) (hl : lv_has ls 4 [(3, .int (nI i)), (2, .ref (gA G 16 0 0)), (1, .ref (gA G 10 0 0)), (0, .ref b)]) (h1 : vp_in (nI i + 1) L) (h2 : vp_in (nI i + 2) L) (kk : ∀ (V' : zV3) (H' : Heap) (locs' : List Loc), Rel V' → zM G V' H' → va_S (nA s.heap.size) s.heap H' locs' → W p l e room_1 s m args below meth c H' locs' 244 3284 Q (F0 m 771 ls [])) : W p l e room_1 s m args below meth c H locs 244 3284 Q (F0 m 448 ls []) := by
  have hbA : ¬ nA s.heap.size b := Nat.not_le.mpr hbl
  obtain ⟨r, V1, h2', e1, e2, e8, R1⟩ := PUB_set (xs (nI i + 1).toNatClampNeg) (xs (nI i + 2).toNatClampNeg) R
  refine lv_aload_n hx hb dL_law_448 rfl (lv_at hl 2 rfl) ?_
  refine lv_aload_n hx hb dL_law_449 rfl (lv_at hl 3 rfl) ?_
  refine lv_iload_n hx hb dL_law_450 rfl (lv_at hl 0 rfl) ?_
  refine lv_iconst (v := 1) hx hb dL_law_451 (by decide) ?_
  refine lv_iadd hx hb dL_law_452 ?_
  refine va_sld hx hb hX hbl hbA hS h1 dL_law_453 ?_
  refine lv_aload_n hx hb dL_law_454 rfl (lv_at hl 3 rfl) ?_
  refine lv_iload_n hx hb dL_law_455 rfl (lv_at hl 0 rfl) ?_
  refine lv_iconst (v := 2) hx hb dL_law_456 (by decide) ?_
  refine lv_iadd hx hb dL_law_457 ?_
  refine va_sld hx hb hX hbl hbA hS h2 dL_law_458 ?_
  refine z_callV (As := [.int (xs (nI i + 1).toNatClampNeg), .int (xs (nI i + 2).toNatClampNeg)]) (rest := []) (C := RX9) hx hb hml hown hL hK hM hS (kX9_set l G (nA s.heap.size) V (xs (nI i + 1).toNatClampNeg) (xs (nI i + 2).toNatClampNeg) e1) (zw_gv nwf_101 nwf_99 nwf_100 nwf_3 nwf_98) nzv_X9_set ⟨rfl, rfl⟩ ⟨Nat.le_of_ble_eq_true rfl, Nat.le_of_ble_eq_true rfl⟩ (hM.recv hK dm_10 (zd_10 G V) rfl) rfl hl.1 rfl (Nat.le_of_ble_eq_true rfl) dL_law_459 ⟨Nat.le_of_ble_eq_true rfl, Nat.le_of_ble_eq_true rfl⟩ (fun H locs hM hS => ?_)
  refine lv_aload_n hx hb dL_law_462 rfl (lv_at hl 1 rfl) ?_
  refine lv_aload_n hx hb dL_law_463 rfl (lv_at hl 3 rfl) ?_
  refine lv_iload_n hx hb dL_law_464 rfl (lv_at hl 0 rfl) ?_
  refine lv_iconst (v := 1) hx hb dL_law_465 (by decide) ?_
  refine lv_iadd hx hb dL_law_466 ?_
  refine va_sld hx hb hX hbl hbA hS h1 dL_law_467 ?_
  refine lv_aload_n hx hb dL_law_468 rfl (lv_at hl 3 rfl) ?_
  refine lv_iload_n hx hb dL_law_469 rfl (lv_at hl 0 rfl) ?_
  refine lv_iconst (v := 2) hx hb dL_law_470 (by decide) ?_
  refine lv_iadd hx hb dL_law_471 ?_
  refine va_sld hx hb hX hbl hbA hS h2 dL_law_472 ?_
  have hM : zM G (upG V1 8 (V 8)) H := by rw [← e8, upG_id]; exact hM
  refine z_callV (As := [.int (xs (nI i + 1).toNatClampNeg), .int (xs (nI i + 2).toNatClampNeg)]) (rest := [.int r]) (C := RX10) hx hb hml hown hL hK hM hS (kX10_set l G (nA s.heap.size) V1 (V 8) (xs (nI i + 1).toNatClampNeg) (xs (nI i + 2).toNatClampNeg) e2) (zw_gv nwf_105 nwf_103 nwf_104 nwf_8 nwf_102) nzv_X10_set ⟨rfl, rfl⟩ ⟨Nat.le_of_ble_eq_true rfl, Nat.le_of_ble_eq_true rfl⟩ (hM.recv hK dm_16 (zd_16 G (upG V1 8 (V 8)) 0 0) rfl) rfl hl.1 rfl (Nat.le_of_ble_eq_true rfl) dL_law_473 ⟨Nat.le_of_ble_eq_true rfl, Nat.le_of_ble_eq_true rfl⟩ (fun H locs hM hS => ?_)
  exact lv_icmp_eq (tgt := 771) hx hb dL_law_476 (by decide) (fun _ => kk _ H locs R1 hM hS) (fun c1 => absurd rfl c1)
set_option maxHeartbeats 4000000 in
set_option maxRecDepth 100000 in
theorem lc_13 (hx : p.tables.exec = Jvm.exec) (hb : c.code = cL_law) (hml : c.maxLocals = 4) (hown : s.vm.findClass RL = some m.cls) (hL : ∀ w ∈ zWL, w.before args s = true) (hK : zK G (nA s.heap.size) s) (hV : zVb G) (hX : va_X b L xs s s.heap) (hbl : b < s.heap.size) {V : zV3} (R : Rel V) (hM : zM G V H) (hS : va_S (nA s.heap.size) s.heap H locs) (hl : lv_has ls 4 [(3, .int (nI i)), (2, .ref (gA G 16 0 0)), (1, .ref (gA G 10 0 0)), (0, .ref b)]) (h1 : vp_in (nI i + 1) L) (h2 : vp_in (nI i + 2) L) (kk : ∀ (V' : zV3) (H' : Heap) (locs' : List Loc), Rel V' → zM G V' H' → va_S (nA s.heap.size) s.heap H' locs' → W p l e room_1 s m args below meth c H' locs' 244 3284 Q (F0 m 771 ls [])) : W p l e room_1 s m args below meth c H locs 244 3284 Q (F0 m 481 ls []) := by
  have hbA : ¬ nA s.heap.size b := Nat.not_le.mpr hbl
  obtain ⟨r, V1, h2', e1, e2, e8, R1⟩ := PUB_personOf (xs (nI i + 1).toNatClampNeg) (xs (nI i + 2).toNatClampNeg) R
  refine lv_aload_n hx hb dL_law_481 rfl (lv_at hl 2 rfl) ?_
  refine lv_aload_n hx hb dL_law_482 rfl (lv_at hl 3 rfl) ?_
  refine lv_iload_n hx hb dL_law_483 rfl (lv_at hl 0 rfl) ?_
  refine lv_iconst (v := 1) hx hb dL_law_484 (by decide) ?_
  refine lv_iadd hx hb dL_law_485 ?_
  refine va_sld hx hb hX hbl hbA hS h1 dL_law_486 ?_
  refine lv_aload_n hx hb dL_law_487 rfl (lv_at hl 3 rfl) ?_
  refine lv_iload_n hx hb dL_law_488 rfl (lv_at hl 0 rfl) ?_
  refine lv_iconst (v := 2) hx hb dL_law_489 (by decide) ?_
  refine lv_iadd hx hb dL_law_490 ?_
  refine va_sld hx hb hX hbl hbA hS h2 dL_law_491 ?_
  refine z_callV (As := [.int (xs (nI i + 1).toNatClampNeg), .int (xs (nI i + 2).toNatClampNeg)]) (rest := []) (C := RX9) hx hb hml hown hL hK hM hS (kX9_personOf l G (nA s.heap.size) V (xs (nI i + 1).toNatClampNeg) (xs (nI i + 2).toNatClampNeg) e1) (zw_gv nwf_109 nwf_107 nwf_108 nwf_3 nwf_106) nzv_X9_personOf ⟨rfl, rfl⟩ ⟨Nat.le_of_ble_eq_true rfl, Nat.le_of_ble_eq_true rfl⟩ (hM.recv hK dm_10 (zd_10 G V) rfl) rfl hl.1 rfl (Nat.le_of_ble_eq_true rfl) dL_law_492 ⟨Nat.le_of_ble_eq_true rfl, Nat.le_of_ble_eq_true rfl⟩ (fun H locs hM hS => ?_)
  refine lv_aload_n hx hb dL_law_495 rfl (lv_at hl 1 rfl) ?_
  refine lv_aload_n hx hb dL_law_496 rfl (lv_at hl 3 rfl) ?_
  refine lv_iload_n hx hb dL_law_497 rfl (lv_at hl 0 rfl) ?_
  refine lv_iconst (v := 1) hx hb dL_law_498 (by decide) ?_
  refine lv_iadd hx hb dL_law_499 ?_
  refine va_sld hx hb hX hbl hbA hS h1 dL_law_500 ?_
  refine lv_aload_n hx hb dL_law_501 rfl (lv_at hl 3 rfl) ?_
  refine lv_iload_n hx hb dL_law_502 rfl (lv_at hl 0 rfl) ?_
  refine lv_iconst (v := 2) hx hb dL_law_503 (by decide) ?_
  refine lv_iadd hx hb dL_law_504 ?_
  refine va_sld hx hb hX hbl hbA hS h2 dL_law_505 ?_
  have hM : zM G (upG V1 8 (V 8)) H := by rw [← e8, upG_id]; exact hM
  refine z_callV (As := [.int (xs (nI i + 1).toNatClampNeg), .int (xs (nI i + 2).toNatClampNeg)]) (rest := [.int r]) (C := RX10) hx hb hml hown hL hK hM hS (kX10_personOf l G (nA s.heap.size) V1 (V 8) (xs (nI i + 1).toNatClampNeg) (xs (nI i + 2).toNatClampNeg) e2) (zw_gv nwf_113 nwf_111 nwf_112 nwf_8 nwf_110) nzv_X10_personOf ⟨rfl, rfl⟩ ⟨Nat.le_of_ble_eq_true rfl, Nat.le_of_ble_eq_true rfl⟩ (hM.recv hK dm_16 (zd_16 G (upG V1 8 (V 8)) 0 0) rfl) rfl hl.1 rfl (Nat.le_of_ble_eq_true rfl) dL_law_506 ⟨Nat.le_of_ble_eq_true rfl, Nat.le_of_ble_eq_true rfl⟩ (fun H locs hM hS => ?_)
  exact lv_icmp_eq (tgt := 771) hx hb dL_law_509 (by decide) (fun _ => kk _ H locs R1 hM hS) (fun c1 => absurd rfl c1)
set_option maxHeartbeats 4000000 in
set_option maxRecDepth 100000 in
theorem lc_14 (hx : p.tables.exec = Jvm.exec) (hb : c.code = cL_law) (hml : c.maxLocals = 4) (hown : s.vm.findClass RL = some m.cls) (hL : ∀ w ∈ zWL, w.before args s = true) (hK : zK G (nA s.heap.size) s) (hV : zVb G) (hX : va_X b L xs s s.heap) (hbl : b < s.heap.size) {V : zV3} (R : Rel V) (hM : zM G V H) (hS : va_S (nA s.heap.size) s.heap H locs) (hl : lv_has ls 4 [(3, .int (nI i)), (2, .ref (gA G 16 0 0)), (1, .ref (gA G 10 0 0)), (0, .ref b)]) (h1 : vp_in (nI i + 1) L) (h2 : vp_in (nI i + 2) L) (kk : ∀ (V' : zV3) (H' : Heap) (locs' : List Loc), Rel V' → zM G V' H' → va_S (nA s.heap.size) s.heap H' locs' → W p l e room_1 s m args below meth c H' locs' 244 3284 Q (F0 m 771 ls [])) : W p l e room_1 s m args below meth c H locs 244 3284 Q (F0 m 514 ls []) := by
  have hbA : ¬ nA s.heap.size b := Nat.not_le.mpr hbl
  obtain ⟨r, V1, h2', e1, e2, e8, R1⟩ := PUB_lockerOf (xs (nI i + 1).toNatClampNeg) (xs (nI i + 2).toNatClampNeg) R
  refine lv_aload_n hx hb dL_law_514 rfl (lv_at hl 2 rfl) ?_
  refine lv_aload_n hx hb dL_law_515 rfl (lv_at hl 3 rfl) ?_
  refine lv_iload_n hx hb dL_law_516 rfl (lv_at hl 0 rfl) ?_
  refine lv_iconst (v := 1) hx hb dL_law_517 (by decide) ?_
  refine lv_iadd hx hb dL_law_518 ?_
  refine va_sld hx hb hX hbl hbA hS h1 dL_law_519 ?_
  refine lv_aload_n hx hb dL_law_520 rfl (lv_at hl 3 rfl) ?_
  refine lv_iload_n hx hb dL_law_521 rfl (lv_at hl 0 rfl) ?_
  refine lv_iconst (v := 2) hx hb dL_law_522 (by decide) ?_
  refine lv_iadd hx hb dL_law_523 ?_
  refine va_sld hx hb hX hbl hbA hS h2 dL_law_524 ?_
  refine z_callV (As := [.int (xs (nI i + 1).toNatClampNeg), .int (xs (nI i + 2).toNatClampNeg)]) (rest := []) (C := RX9) hx hb hml hown hL hK hM hS (kX9_lockerOf l G (nA s.heap.size) V (xs (nI i + 1).toNatClampNeg) (xs (nI i + 2).toNatClampNeg) e1) (zw_gv nwf_117 nwf_115 nwf_116 nwf_3 nwf_114) nzv_X9_lockerOf ⟨rfl, rfl⟩ ⟨Nat.le_of_ble_eq_true rfl, Nat.le_of_ble_eq_true rfl⟩ (hM.recv hK dm_10 (zd_10 G V) rfl) rfl hl.1 rfl (Nat.le_of_ble_eq_true rfl) dL_law_525 ⟨Nat.le_of_ble_eq_true rfl, Nat.le_of_ble_eq_true rfl⟩ (fun H locs hM hS => ?_)
  refine lv_aload_n hx hb dL_law_528 rfl (lv_at hl 1 rfl) ?_
  refine lv_aload_n hx hb dL_law_529 rfl (lv_at hl 3 rfl) ?_
  refine lv_iload_n hx hb dL_law_530 rfl (lv_at hl 0 rfl) ?_
  refine lv_iconst (v := 1) hx hb dL_law_531 (by decide) ?_
  refine lv_iadd hx hb dL_law_532 ?_
  refine va_sld hx hb hX hbl hbA hS h1 dL_law_533 ?_
  refine lv_aload_n hx hb dL_law_534 rfl (lv_at hl 3 rfl) ?_
  refine lv_iload_n hx hb dL_law_535 rfl (lv_at hl 0 rfl) ?_
  refine lv_iconst (v := 2) hx hb dL_law_536 (by decide) ?_
  refine lv_iadd hx hb dL_law_537 ?_
  refine va_sld hx hb hX hbl hbA hS h2 dL_law_538 ?_
  have hM : zM G (upG V1 8 (V 8)) H := by rw [← e8, upG_id]; exact hM
  refine z_callV (As := [.int (xs (nI i + 1).toNatClampNeg), .int (xs (nI i + 2).toNatClampNeg)]) (rest := [.int r]) (C := RX10) hx hb hml hown hL hK hM hS (kX10_lockerOf l G (nA s.heap.size) V1 (V 8) (xs (nI i + 1).toNatClampNeg) (xs (nI i + 2).toNatClampNeg) e2) (zw_gv nwf_121 nwf_119 nwf_120 nwf_8 nwf_118) nzv_X10_lockerOf ⟨rfl, rfl⟩ ⟨Nat.le_of_ble_eq_true rfl, Nat.le_of_ble_eq_true rfl⟩ (hM.recv hK dm_16 (zd_16 G (upG V1 8 (V 8)) 0 0) rfl) rfl hl.1 rfl (Nat.le_of_ble_eq_true rfl) dL_law_539 ⟨Nat.le_of_ble_eq_true rfl, Nat.le_of_ble_eq_true rfl⟩ (fun H locs hM hS => ?_)
  exact lv_icmp_eq (tgt := 771) hx hb dL_law_542 (by decide) (fun _ => kk _ H locs R1 hM hS) (fun c1 => absurd rfl c1)
set_option maxHeartbeats 4000000 in
set_option maxRecDepth 100000 in
theorem lc_15 (hx : p.tables.exec = Jvm.exec) (hb : c.code = cL_law) (hml : c.maxLocals = 4) (hown : s.vm.findClass RL = some m.cls) (hL : ∀ w ∈ zWL, w.before args s = true) (hK : zK G (nA s.heap.size) s) (hV : zVb G) (hX : va_X b L xs s s.heap) (hbl : b < s.heap.size) {V : zV3} (R : Rel V) (hM : zM G V H) (hS : va_S (nA s.heap.size) s.heap H locs) (hl : lv_has ls 4 [(3, .int (nI i)), (2, .ref (gA G 16 0 0)), (1, .ref (gA G 10 0 0)), (0, .ref b)]) (h1 : vp_in (nI i + 1) L) (h2 : vp_in (nI i + 2) L) (kk : ∀ (V' : zV3) (H' : Heap) (locs' : List Loc), Rel V' → zM G V' H' → va_S (nA s.heap.size) s.heap H' locs' → W p l e room_1 s m args below meth c H' locs' 244 3284 Q (F0 m 771 ls [])) : W p l e room_1 s m args below meth c H locs 244 3284 Q (F0 m 547 ls []) := by
  have hbA : ¬ nA s.heap.size b := Nat.not_le.mpr hbl
  obtain ⟨r, V1, h2', e1, e2, e8, R1⟩ := PUB_waitingAt (xs (nI i + 1).toNatClampNeg) (xs (nI i + 2).toNatClampNeg) R
  refine lv_aload_n hx hb dL_law_547 rfl (lv_at hl 2 rfl) ?_
  refine lv_aload_n hx hb dL_law_548 rfl (lv_at hl 3 rfl) ?_
  refine lv_iload_n hx hb dL_law_549 rfl (lv_at hl 0 rfl) ?_
  refine lv_iconst (v := 1) hx hb dL_law_550 (by decide) ?_
  refine lv_iadd hx hb dL_law_551 ?_
  refine va_sld hx hb hX hbl hbA hS h1 dL_law_552 ?_
  refine lv_aload_n hx hb dL_law_553 rfl (lv_at hl 3 rfl) ?_
  refine lv_iload_n hx hb dL_law_554 rfl (lv_at hl 0 rfl) ?_
  refine lv_iconst (v := 2) hx hb dL_law_555 (by decide) ?_
  refine lv_iadd hx hb dL_law_556 ?_
  refine va_sld hx hb hX hbl hbA hS h2 dL_law_557 ?_
  refine z_callV (As := [.int (xs (nI i + 1).toNatClampNeg), .int (xs (nI i + 2).toNatClampNeg)]) (rest := []) (C := RX9) hx hb hml hown hL hK hM hS (kX9_waitingAt l G (nA s.heap.size) V (xs (nI i + 1).toNatClampNeg) (xs (nI i + 2).toNatClampNeg) e1) (zw_gv nwf_125 nwf_123 nwf_124 nwf_3 nwf_122) nzv_X9_waitingAt ⟨rfl, rfl⟩ ⟨Nat.le_of_ble_eq_true rfl, Nat.le_of_ble_eq_true rfl⟩ (hM.recv hK dm_10 (zd_10 G V) rfl) rfl hl.1 rfl (Nat.le_of_ble_eq_true rfl) dL_law_558 ⟨Nat.le_of_ble_eq_true rfl, Nat.le_of_ble_eq_true rfl⟩ (fun H locs hM hS => ?_)
  refine lv_aload_n hx hb dL_law_561 rfl (lv_at hl 1 rfl) ?_
  refine lv_aload_n hx hb dL_law_562 rfl (lv_at hl 3 rfl) ?_
  refine lv_iload_n hx hb dL_law_563 rfl (lv_at hl 0 rfl) ?_
  refine lv_iconst (v := 1) hx hb dL_law_564 (by decide) ?_
  refine lv_iadd hx hb dL_law_565 ?_
  refine va_sld hx hb hX hbl hbA hS h1 dL_law_566 ?_
  refine lv_aload_n hx hb dL_law_567 rfl (lv_at hl 3 rfl) ?_
  refine lv_iload_n hx hb dL_law_568 rfl (lv_at hl 0 rfl) ?_
  refine lv_iconst (v := 2) hx hb dL_law_569 (by decide) ?_
  refine lv_iadd hx hb dL_law_570 ?_
  refine va_sld hx hb hX hbl hbA hS h2 dL_law_571 ?_
  have hM : zM G (upG V1 8 (V 8)) H := by rw [← e8, upG_id]; exact hM
  refine z_callV (As := [.int (xs (nI i + 1).toNatClampNeg), .int (xs (nI i + 2).toNatClampNeg)]) (rest := [.int r]) (C := RX10) hx hb hml hown hL hK hM hS (kX10_waitingAt l G (nA s.heap.size) V1 (V 8) (xs (nI i + 1).toNatClampNeg) (xs (nI i + 2).toNatClampNeg) e2) (zw_gv nwf_129 nwf_127 nwf_128 nwf_8 nwf_126) nzv_X10_waitingAt ⟨rfl, rfl⟩ ⟨Nat.le_of_ble_eq_true rfl, Nat.le_of_ble_eq_true rfl⟩ (hM.recv hK dm_16 (zd_16 G (upG V1 8 (V 8)) 0 0) rfl) rfl hl.1 rfl (Nat.le_of_ble_eq_true rfl) dL_law_572 ⟨Nat.le_of_ble_eq_true rfl, Nat.le_of_ble_eq_true rfl⟩ (fun H locs hM hS => ?_)
  exact lv_icmp_eq (tgt := 771) hx hb dL_law_575 (by decide) (fun _ => kk _ H locs R1 hM hS) (fun c1 => absurd rfl c1)
set_option maxHeartbeats 4000000 in
set_option maxRecDepth 100000 in
theorem lc_16 (hx : p.tables.exec = Jvm.exec) (hb : c.code = cL_law) (hml : c.maxLocals = 4) (hown : s.vm.findClass RL = some m.cls) (hL : ∀ w ∈ zWL, w.before args s = true) (hK : zK G (nA s.heap.size) s) (hV : zVb G) (hX : va_X b L xs s s.heap) (hbl : b < s.heap.size) {V : zV3} (R : Rel V) (hM : zM G V H) (hS : va_S (nA s.heap.size) s.heap H locs) (hl : lv_has ls 4 [(3, .int (nI i)), (2, .ref (gA G 16 0 0)), (1, .ref (gA G 10 0 0)), (0, .ref b)]) (h1 : vp_in (nI i + 1) L) (h2 : vp_in (nI i + 2) L) (kk : ∀ (V' : zV3) (H' : Heap) (locs' : List Loc), Rel V' → zM G V' H' → va_S (nA s.heap.size) s.heap H' locs' → W p l e room_1 s m args below meth c H' locs' 244 3284 Q (F0 m 771 ls [])) : W p l e room_1 s m args below meth c H locs 244 3284 Q (F0 m 580 ls []) := by
  have hbA : ¬ nA s.heap.size b := Nat.not_le.mpr hbl
  obtain ⟨r, V1, h2', e1, e2, e8, R1⟩ := PUB_count (xs (nI i + 1).toNatClampNeg) R
  refine lv_aload_n hx hb dL_law_580 rfl (lv_at hl 2 rfl) ?_
  refine lv_aload_n hx hb dL_law_581 rfl (lv_at hl 3 rfl) ?_
  refine lv_iload_n hx hb dL_law_582 rfl (lv_at hl 0 rfl) ?_
  refine lv_iconst (v := 1) hx hb dL_law_583 (by decide) ?_
  refine lv_iadd hx hb dL_law_584 ?_
  refine va_sld hx hb hX hbl hbA hS h1 dL_law_585 ?_
  refine z_callV (As := [.int (xs (nI i + 1).toNatClampNeg)]) (rest := []) (C := RX9) hx hb hml hown hL hK hM hS (kX9_count l G (nA s.heap.size) V (xs (nI i + 1).toNatClampNeg) e1) (zw_gv nwf_133 nwf_131 nwf_132 nwf_3 nwf_130) nzv_X9_count ⟨rfl, rfl⟩ ⟨Nat.le_of_ble_eq_true rfl, Nat.le_of_ble_eq_true rfl⟩ (hM.recv hK dm_10 (zd_10 G V) rfl) rfl hl.1 rfl (Nat.le_of_ble_eq_true rfl) dL_law_586 ⟨Nat.le_of_ble_eq_true rfl, Nat.le_of_ble_eq_true rfl⟩ (fun H locs hM hS => ?_)
  refine lv_aload_n hx hb dL_law_589 rfl (lv_at hl 1 rfl) ?_
  refine lv_aload_n hx hb dL_law_590 rfl (lv_at hl 3 rfl) ?_
  refine lv_iload_n hx hb dL_law_591 rfl (lv_at hl 0 rfl) ?_
  refine lv_iconst (v := 1) hx hb dL_law_592 (by decide) ?_
  refine lv_iadd hx hb dL_law_593 ?_
  refine va_sld hx hb hX hbl hbA hS h1 dL_law_594 ?_
  have hM : zM G (upG V1 8 (V 8)) H := by rw [← e8, upG_id]; exact hM
  refine z_callV (As := [.int (xs (nI i + 1).toNatClampNeg)]) (rest := [.int r]) (C := RX10) hx hb hml hown hL hK hM hS (kX10_count l G (nA s.heap.size) V1 (V 8) (xs (nI i + 1).toNatClampNeg) e2) (zw_gv nwf_137 nwf_135 nwf_136 nwf_8 nwf_134) nzv_X10_count ⟨rfl, rfl⟩ ⟨Nat.le_of_ble_eq_true rfl, Nat.le_of_ble_eq_true rfl⟩ (hM.recv hK dm_16 (zd_16 G (upG V1 8 (V 8)) 0 0) rfl) rfl hl.1 rfl (Nat.le_of_ble_eq_true rfl) dL_law_595 ⟨Nat.le_of_ble_eq_true rfl, Nat.le_of_ble_eq_true rfl⟩ (fun H locs hM hS => ?_)
  exact lv_icmp_eq (tgt := 771) hx hb dL_law_598 (by decide) (fun _ => kk _ H locs R1 hM hS) (fun c1 => absurd rfl c1)
set_option maxHeartbeats 4000000 in
set_option maxRecDepth 100000 in
theorem lc_17 (hx : p.tables.exec = Jvm.exec) (hb : c.code = cL_law) (hml : c.maxLocals = 4) (hown : s.vm.findClass RL = some m.cls) (hL : ∀ w ∈ zWL, w.before args s = true) (hK : zK G (nA s.heap.size) s) (hV : zVb G) (hX : va_X b L xs s s.heap) (hbl : b < s.heap.size) {V : zV3} (R : Rel V) (hM : zM G V H) (hS : va_S (nA s.heap.size) s.heap H locs) (hl : lv_has ls 4 [(3, .int (nI i)), (2, .ref (gA G 16 0 0)), (1, .ref (gA G 10 0 0)), (0, .ref b)]) (h1 : vp_in (nI i + 1) L) (h2 : vp_in (nI i + 2) L) (kk : ∀ (V' : zV3) (H' : Heap) (locs' : List Loc), Rel V' → zM G V' H' → va_S (nA s.heap.size) s.heap H' locs' → W p l e room_1 s m args below meth c H' locs' 244 3284 Q (F0 m 771 ls [])) : W p l e room_1 s m args below meth c H locs 244 3284 Q (F0 m 603 ls []) := by
  have hbA : ¬ nA s.heap.size b := Nat.not_le.mpr hbl
  obtain ⟨r, V1, h2', e1, e2, e8, R1⟩ := PUB_feeIn (xs (nI i + 1).toNatClampNeg) (xs (nI i + 2).toNatClampNeg) R
  refine lv_aload_n hx hb dL_law_603 rfl (lv_at hl 2 rfl) ?_
  refine lv_aload_n hx hb dL_law_604 rfl (lv_at hl 3 rfl) ?_
  refine lv_iload_n hx hb dL_law_605 rfl (lv_at hl 0 rfl) ?_
  refine lv_iconst (v := 1) hx hb dL_law_606 (by decide) ?_
  refine lv_iadd hx hb dL_law_607 ?_
  refine va_sld hx hb hX hbl hbA hS h1 dL_law_608 ?_
  refine lv_aload_n hx hb dL_law_609 rfl (lv_at hl 3 rfl) ?_
  refine lv_iload_n hx hb dL_law_610 rfl (lv_at hl 0 rfl) ?_
  refine lv_iconst (v := 2) hx hb dL_law_611 (by decide) ?_
  refine lv_iadd hx hb dL_law_612 ?_
  refine va_sld hx hb hX hbl hbA hS h2 dL_law_613 ?_
  refine z_callV (As := [.int (xs (nI i + 1).toNatClampNeg), .int (xs (nI i + 2).toNatClampNeg)]) (rest := []) (C := RX9) hx hb hml hown hL hK hM hS (kX9_feeIn l G (nA s.heap.size) V (xs (nI i + 1).toNatClampNeg) (xs (nI i + 2).toNatClampNeg) e1) (zw_gv nwf_141 nwf_139 nwf_140 nwf_3 nwf_138) nzv_X9_feeIn ⟨rfl, rfl⟩ ⟨Nat.le_of_ble_eq_true rfl, Nat.le_of_ble_eq_true rfl⟩ (hM.recv hK dm_10 (zd_10 G V) rfl) rfl hl.1 rfl (Nat.le_of_ble_eq_true rfl) dL_law_614 ⟨Nat.le_of_ble_eq_true rfl, Nat.le_of_ble_eq_true rfl⟩ (fun H locs hM hS => ?_)
  refine lv_aload_n hx hb dL_law_617 rfl (lv_at hl 1 rfl) ?_
  refine lv_aload_n hx hb dL_law_618 rfl (lv_at hl 3 rfl) ?_
  refine lv_iload_n hx hb dL_law_619 rfl (lv_at hl 0 rfl) ?_
  refine lv_iconst (v := 1) hx hb dL_law_620 (by decide) ?_
  refine lv_iadd hx hb dL_law_621 ?_
  refine va_sld hx hb hX hbl hbA hS h1 dL_law_622 ?_
  refine lv_aload_n hx hb dL_law_623 rfl (lv_at hl 3 rfl) ?_
  refine lv_iload_n hx hb dL_law_624 rfl (lv_at hl 0 rfl) ?_
  refine lv_iconst (v := 2) hx hb dL_law_625 (by decide) ?_
  refine lv_iadd hx hb dL_law_626 ?_
  refine va_sld hx hb hX hbl hbA hS h2 dL_law_627 ?_
  have hM : zM G (upG V1 8 (V 8)) H := by rw [← e8, upG_id]; exact hM
  refine z_callV (As := [.int (xs (nI i + 1).toNatClampNeg), .int (xs (nI i + 2).toNatClampNeg)]) (rest := [.int r]) (C := RX10) hx hb hml hown hL hK hM hS (kX10_feeIn l G (nA s.heap.size) V1 (V 8) (xs (nI i + 1).toNatClampNeg) (xs (nI i + 2).toNatClampNeg) e2) (zw_gv nwf_145 nwf_143 nwf_144 nwf_8 nwf_142) nzv_X10_feeIn ⟨rfl, rfl⟩ ⟨Nat.le_of_ble_eq_true rfl, Nat.le_of_ble_eq_true rfl⟩ (hM.recv hK dm_16 (zd_16 G (upG V1 8 (V 8)) 0 0) rfl) rfl hl.1 rfl (Nat.le_of_ble_eq_true rfl) dL_law_628 ⟨Nat.le_of_ble_eq_true rfl, Nat.le_of_ble_eq_true rfl⟩ (fun H locs hM hS => ?_)
  exact lv_icmp_eq (tgt := 771) hx hb dL_law_631 (by decide) (fun _ => kk _ H locs R1 hM hS) (fun c1 => absurd rfl c1)
set_option maxHeartbeats 4000000 in
set_option maxRecDepth 100000 in
theorem lc_18 (hx : p.tables.exec = Jvm.exec) (hb : c.code = cL_law) (hml : c.maxLocals = 4) (hown : s.vm.findClass RL = some m.cls) (hL : ∀ w ∈ zWL, w.before args s = true) (hK : zK G (nA s.heap.size) s) (hV : zVb G) (hX : va_X b L xs s s.heap) (hbl : b < s.heap.size) {V : zV3} (R : Rel V) (hM : zM G V H) (hS : va_S (nA s.heap.size) s.heap H locs) (hl : lv_has ls 4 [(3, .int (nI i)), (2, .ref (gA G 16 0 0)), (1, .ref (gA G 10 0 0)), (0, .ref b)]) (h1 : vp_in (nI i + 1) L) (h2 : vp_in (nI i + 2) L) (kk : ∀ (V' : zV3) (H' : Heap) (locs' : List Loc), Rel V' → zM G V' H' → va_S (nA s.heap.size) s.heap H' locs' → W p l e room_1 s m args below meth c H' locs' 244 3284 Q (F0 m 771 ls [])) : W p l e room_1 s m args below meth c H locs 244 3284 Q (F0 m 636 ls []) := by
  have hbA : ¬ nA s.heap.size b := Nat.not_le.mpr hbl
  obtain ⟨r, V1, h2', e1, e2, e8, R1⟩ := PUB_wouldHave (xs (nI i + 1).toNatClampNeg) R
  refine lv_aload_n hx hb dL_law_636 rfl (lv_at hl 2 rfl) ?_
  refine lv_aload_n hx hb dL_law_637 rfl (lv_at hl 3 rfl) ?_
  refine lv_iload_n hx hb dL_law_638 rfl (lv_at hl 0 rfl) ?_
  refine lv_iconst (v := 1) hx hb dL_law_639 (by decide) ?_
  refine lv_iadd hx hb dL_law_640 ?_
  refine va_sld hx hb hX hbl hbA hS h1 dL_law_641 ?_
  refine z_callV (As := [.int (xs (nI i + 1).toNatClampNeg)]) (rest := []) (C := RX9) hx hb hml hown hL hK hM hS (kX9_wouldHave l G (nA s.heap.size) V (xs (nI i + 1).toNatClampNeg) e1) (zw_gv nwf_149 nwf_147 nwf_148 nwf_3 nwf_146) nzv_X9_wouldHave ⟨rfl, rfl⟩ ⟨Nat.le_of_ble_eq_true rfl, Nat.le_of_ble_eq_true rfl⟩ (hM.recv hK dm_10 (zd_10 G V) rfl) rfl hl.1 rfl (Nat.le_of_ble_eq_true rfl) dL_law_642 ⟨Nat.le_of_ble_eq_true rfl, Nat.le_of_ble_eq_true rfl⟩ (fun H locs hM hS => ?_)
  refine lv_aload_n hx hb dL_law_645 rfl (lv_at hl 1 rfl) ?_
  refine lv_aload_n hx hb dL_law_646 rfl (lv_at hl 3 rfl) ?_
  refine lv_iload_n hx hb dL_law_647 rfl (lv_at hl 0 rfl) ?_
  refine lv_iconst (v := 1) hx hb dL_law_648 (by decide) ?_
  refine lv_iadd hx hb dL_law_649 ?_
  refine va_sld hx hb hX hbl hbA hS h1 dL_law_650 ?_
  have hM : zM G (upG V1 8 (V 8)) H := by rw [← e8, upG_id]; exact hM
  refine z_callV (As := [.int (xs (nI i + 1).toNatClampNeg)]) (rest := [.int r]) (C := RX10) hx hb hml hown hL hK hM hS (kX10_wouldHave l G (nA s.heap.size) V1 (V 8) (xs (nI i + 1).toNatClampNeg) e2) (zw_gv nwf_153 nwf_151 nwf_152 nwf_8 nwf_150) nzv_X10_wouldHave ⟨rfl, rfl⟩ ⟨Nat.le_of_ble_eq_true rfl, Nat.le_of_ble_eq_true rfl⟩ (hM.recv hK dm_16 (zd_16 G (upG V1 8 (V 8)) 0 0) rfl) rfl hl.1 rfl (Nat.le_of_ble_eq_true rfl) dL_law_651 ⟨Nat.le_of_ble_eq_true rfl, Nat.le_of_ble_eq_true rfl⟩ (fun H locs hM hS => ?_)
  exact lv_icmp_eq (tgt := 771) hx hb dL_law_654 (by decide) (fun _ => kk _ H locs R1 hM hS) (fun c1 => absurd rfl c1)
set_option maxHeartbeats 4000000 in
set_option maxRecDepth 100000 in
theorem lc_19 (hx : p.tables.exec = Jvm.exec) (hb : c.code = cL_law) (hml : c.maxLocals = 4) (hown : s.vm.findClass RL = some m.cls) (hL : ∀ w ∈ zWL, w.before args s = true) (hK : zK G (nA s.heap.size) s) (hV : zVb G) (hX : va_X b L xs s s.heap) (hbl : b < s.heap.size) {V : zV3} (R : Rel V) (hM : zM G V H) (hS : va_S (nA s.heap.size) s.heap H locs) (hl : lv_has ls 4 [(3, .int (nI i)), (2, .ref (gA G 16 0 0)), (1, .ref (gA G 10 0 0)), (0, .ref b)]) (h1 : vp_in (nI i + 1) L) (h2 : vp_in (nI i + 2) L) (kk : ∀ (V' : zV3) (H' : Heap) (locs' : List Loc), Rel V' → zM G V' H' → va_S (nA s.heap.size) s.heap H' locs' → W p l e room_1 s m args below meth c H' locs' 244 3284 Q (F0 m 771 ls [])) : W p l e room_1 s m args below meth c H locs 244 3284 Q (F0 m 659 ls []) := by
  have hbA : ¬ nA s.heap.size b := Nat.not_le.mpr hbl
  obtain ⟨r, V1, h2', e1, e2, e8, R1⟩ := PUB_lentBits R
  refine lv_aload_n hx hb dL_law_659 rfl (lv_at hl 2 rfl) ?_
  refine z_callV (As := []) (rest := []) (C := RX9) hx hb hml hown hL hK hM hS (kX9_lentBits l G (nA s.heap.size) V e1) (zw_gv nwf_157 nwf_155 nwf_156 nwf_3 nwf_154) nzv_X9_lentBits ⟨rfl, rfl⟩ ⟨Nat.le_of_ble_eq_true rfl, Nat.le_of_ble_eq_true rfl⟩ (hM.recv hK dm_10 (zd_10 G V) rfl) rfl hl.1 rfl (Nat.le_of_ble_eq_true rfl) dL_law_660 ⟨Nat.le_of_ble_eq_true rfl, Nat.le_of_ble_eq_true rfl⟩ (fun H locs hM hS => ?_)
  refine lv_aload_n hx hb dL_law_663 rfl (lv_at hl 1 rfl) ?_
  have hM : zM G (upG V1 8 (V 8)) H := by rw [← e8, upG_id]; exact hM
  refine z_callV (As := []) (rest := [.long r]) (C := RX10) hx hb hml hown hL hK hM hS (kX10_lentBits l G (nA s.heap.size) V1 (V 8) e2) (zw_gv nwf_161 nwf_159 nwf_160 nwf_8 nwf_158) nzv_X10_lentBits ⟨rfl, rfl⟩ ⟨Nat.le_of_ble_eq_true rfl, Nat.le_of_ble_eq_true rfl⟩ (hM.recv hK dm_16 (zd_16 G (upG V1 8 (V 8)) 0 0) rfl) rfl hl.1 rfl (Nat.le_of_ble_eq_true rfl) dL_law_664 ⟨Nat.le_of_ble_eq_true rfl, Nat.le_of_ble_eq_true rfl⟩ (fun H locs hM hS => ?_)
  refine W.lcmp hx hb dL_law_667 ?_
  exact lv_if_eq (tgt := 771) hx hb dL_law_668 (by decide) (fun _ => kk _ H locs R1 hM hS) (fun c1 => absurd (lg_cmp_r r) c1)
set_option maxHeartbeats 4000000 in
set_option maxRecDepth 100000 in
theorem lc_20 (hx : p.tables.exec = Jvm.exec) (hb : c.code = cL_law) (hml : c.maxLocals = 4) (hown : s.vm.findClass RL = some m.cls) (hL : ∀ w ∈ zWL, w.before args s = true) (hK : zK G (nA s.heap.size) s) (hV : zVb G) (hX : va_X b L xs s s.heap) (hbl : b < s.heap.size) {V : zV3} (R : Rel V) (hM : zM G V H) (hS : va_S (nA s.heap.size) s.heap H locs) (hl : lv_has ls 4 [(3, .int (nI i)), (2, .ref (gA G 16 0 0)), (1, .ref (gA G 10 0 0)), (0, .ref b)]) (h1 : vp_in (nI i + 1) L) (h2 : vp_in (nI i + 2) L) (kk : ∀ (V' : zV3) (H' : Heap) (locs' : List Loc), Rel V' → zM G V' H' → va_S (nA s.heap.size) s.heap H' locs' → W p l e room_1 s m args below meth c H' locs' 244 3284 Q (F0 m 771 ls [])) : W p l e room_1 s m args below meth c H locs 244 3284 Q (F0 m 673 ls []) := by
  have hbA : ¬ nA s.heap.size b := Nat.not_le.mpr hbl
  obtain ⟨r, V1, h2', e1, e2, e8, R1⟩ := PUB_overdueBits R
  refine lv_aload_n hx hb dL_law_673 rfl (lv_at hl 2 rfl) ?_
  refine z_callV (As := []) (rest := []) (C := RX9) hx hb hml hown hL hK hM hS (kX9_overdueBits l G (nA s.heap.size) V e1) (zw_gv nwf_165 nwf_163 nwf_164 nwf_3 nwf_162) nzv_X9_overdueBits ⟨rfl, rfl⟩ ⟨Nat.le_of_ble_eq_true rfl, Nat.le_of_ble_eq_true rfl⟩ (hM.recv hK dm_10 (zd_10 G V) rfl) rfl hl.1 rfl (Nat.le_of_ble_eq_true rfl) dL_law_674 ⟨Nat.le_of_ble_eq_true rfl, Nat.le_of_ble_eq_true rfl⟩ (fun H locs hM hS => ?_)
  refine lv_aload_n hx hb dL_law_677 rfl (lv_at hl 1 rfl) ?_
  have hM : zM G (upG V1 8 (V 8)) H := by rw [← e8, upG_id]; exact hM
  refine z_callV (As := []) (rest := [.int r]) (C := RX10) hx hb hml hown hL hK hM hS (kX10_overdueBits l G (nA s.heap.size) V1 (V 8) e2) (zw_gv nwf_169 nwf_167 nwf_168 nwf_8 nwf_166) nzv_X10_overdueBits ⟨rfl, rfl⟩ ⟨Nat.le_of_ble_eq_true rfl, Nat.le_of_ble_eq_true rfl⟩ (hM.recv hK dm_16 (zd_16 G (upG V1 8 (V 8)) 0 0) rfl) rfl hl.1 rfl (Nat.le_of_ble_eq_true rfl) dL_law_678 ⟨Nat.le_of_ble_eq_true rfl, Nat.le_of_ble_eq_true rfl⟩ (fun H locs hM hS => ?_)
  exact lv_icmp_eq (tgt := 771) hx hb dL_law_681 (by decide) (fun _ => kk _ H locs R1 hM hS) (fun c1 => absurd rfl c1)
set_option maxHeartbeats 4000000 in
set_option maxRecDepth 100000 in
theorem lc_21 (hx : p.tables.exec = Jvm.exec) (hb : c.code = cL_law) (hml : c.maxLocals = 4) (hown : s.vm.findClass RL = some m.cls) (hL : ∀ w ∈ zWL, w.before args s = true) (hK : zK G (nA s.heap.size) s) (hV : zVb G) (hX : va_X b L xs s s.heap) (hbl : b < s.heap.size) {V : zV3} (R : Rel V) (hM : zM G V H) (hS : va_S (nA s.heap.size) s.heap H locs) (hl : lv_has ls 4 [(3, .int (nI i)), (2, .ref (gA G 16 0 0)), (1, .ref (gA G 10 0 0)), (0, .ref b)]) (h1 : vp_in (nI i + 1) L) (h2 : vp_in (nI i + 2) L) (kk : ∀ (V' : zV3) (H' : Heap) (locs' : List Loc), Rel V' → zM G V' H' → va_S (nA s.heap.size) s.heap H' locs' → W p l e room_1 s m args below meth c H' locs' 244 3284 Q (F0 m 771 ls [])) : W p l e room_1 s m args below meth c H locs 244 3284 Q (F0 m 686 ls []) := by
  have hbA : ¬ nA s.heap.size b := Nat.not_le.mpr hbl
  obtain ⟨r, V1, h2', e1, e2, e8, R1⟩ := PUB_undo R
  refine lv_aload_n hx hb dL_law_686 rfl (lv_at hl 2 rfl) ?_
  refine z_callV (As := []) (rest := []) (C := RX9) hx hb hml hown hL hK hM hS (kX9_undo l G (nA s.heap.size) V e1) (zw_gv nwf_173 nwf_171 nwf_172 nwf_3 nwf_170) nzv_X9_undo ⟨rfl, rfl⟩ ⟨Nat.le_of_ble_eq_true rfl, Nat.le_of_ble_eq_true rfl⟩ (hM.recv hK dm_10 (zd_10 G V) rfl) rfl hl.1 rfl (Nat.le_of_ble_eq_true rfl) dL_law_687 ⟨Nat.le_of_ble_eq_true rfl, Nat.le_of_ble_eq_true rfl⟩ (fun H locs hM hS => ?_)
  refine lv_aload_n hx hb dL_law_690 rfl (lv_at hl 1 rfl) ?_
  have hM : zM G (upG V1 8 (V 8)) H := by rw [← e8, upG_id]; exact hM
  refine z_callV (As := []) (rest := [.int r]) (C := RX10) hx hb hml hown hL hK hM hS (kX10_undo l G (nA s.heap.size) V1 (V 8) e2) (zw_gv nwf_177 nwf_175 nwf_176 nwf_8 nwf_174) nzv_X10_undo ⟨rfl, rfl⟩ ⟨Nat.le_of_ble_eq_true rfl, Nat.le_of_ble_eq_true rfl⟩ (hM.recv hK dm_16 (zd_16 G (upG V1 8 (V 8)) 0 0) rfl) rfl hl.1 rfl (Nat.le_of_ble_eq_true rfl) dL_law_691 ⟨Nat.le_of_ble_eq_true rfl, Nat.le_of_ble_eq_true rfl⟩ (fun H locs hM hS => ?_)
  exact lv_icmp_eq (tgt := 771) hx hb dL_law_694 (by decide) (fun _ => kk _ H locs R1 hM hS) (fun c1 => absurd rfl c1)
set_option maxHeartbeats 4000000 in
set_option maxRecDepth 100000 in
theorem lc_22 (hx : p.tables.exec = Jvm.exec) (hb : c.code = cL_law) (hml : c.maxLocals = 4) (hown : s.vm.findClass RL = some m.cls) (hL : ∀ w ∈ zWL, w.before args s = true) (hK : zK G (nA s.heap.size) s) (hV : zVb G) (hX : va_X b L xs s s.heap) (hbl : b < s.heap.size) {V : zV3} (R : Rel V) (hM : zM G V H) (hS : va_S (nA s.heap.size) s.heap H locs) (hl : lv_has ls 4 [(3, .int (nI i)), (2, .ref (gA G 16 0 0)), (1, .ref (gA G 10 0 0)), (0, .ref b)]) (h1 : vp_in (nI i + 1) L) (h2 : vp_in (nI i + 2) L) (kk : ∀ (V' : zV3) (H' : Heap) (locs' : List Loc), Rel V' → zM G V' H' → va_S (nA s.heap.size) s.heap H' locs' → W p l e room_1 s m args below meth c H' locs' 244 3284 Q (F0 m 771 ls [])) : W p l e room_1 s m args below meth c H locs 244 3284 Q (F0 m 699 ls []) := by
  have hbA : ¬ nA s.heap.size b := Nat.not_le.mpr hbl
  obtain ⟨r, V1, h2', e1, e2, e8, R1⟩ := PUB_type (xs (nI i + 1).toNatClampNeg) R
  refine lv_aload_n hx hb dL_law_699 rfl (lv_at hl 2 rfl) ?_
  refine lv_aload_n hx hb dL_law_700 rfl (lv_at hl 3 rfl) ?_
  refine lv_iload_n hx hb dL_law_701 rfl (lv_at hl 0 rfl) ?_
  refine lv_iconst (v := 1) hx hb dL_law_702 (by decide) ?_
  refine lv_iadd hx hb dL_law_703 ?_
  refine va_sld hx hb hX hbl hbA hS h1 dL_law_704 ?_
  refine z_callV (As := [.int (xs (nI i + 1).toNatClampNeg)]) (rest := []) (C := RX9) hx hb hml hown hL hK hM hS (kX9_type l G (nA s.heap.size) V (xs (nI i + 1).toNatClampNeg) e1) (zw_gv nwf_181 nwf_179 nwf_180 nwf_3 nwf_178) nzv_X9_type ⟨rfl, rfl⟩ ⟨Nat.le_of_ble_eq_true rfl, Nat.le_of_ble_eq_true rfl⟩ (hM.recv hK dm_10 (zd_10 G V) rfl) rfl hl.1 rfl (Nat.le_of_ble_eq_true rfl) dL_law_705 ⟨Nat.le_of_ble_eq_true rfl, Nat.le_of_ble_eq_true rfl⟩ (fun H locs hM hS => ?_)
  refine lv_aload_n hx hb dL_law_708 rfl (lv_at hl 1 rfl) ?_
  refine lv_aload_n hx hb dL_law_709 rfl (lv_at hl 3 rfl) ?_
  refine lv_iload_n hx hb dL_law_710 rfl (lv_at hl 0 rfl) ?_
  refine lv_iconst (v := 1) hx hb dL_law_711 (by decide) ?_
  refine lv_iadd hx hb dL_law_712 ?_
  refine va_sld hx hb hX hbl hbA hS h1 dL_law_713 ?_
  have hM : zM G (upG V1 8 (V 8)) H := by rw [← e8, upG_id]; exact hM
  refine z_callV (As := [.int (xs (nI i + 1).toNatClampNeg)]) (rest := [.int r]) (C := RX10) hx hb hml hown hL hK hM hS (kX10_type l G (nA s.heap.size) V1 (V 8) (xs (nI i + 1).toNatClampNeg) e2) (zw_gv nwf_185 nwf_183 nwf_184 nwf_8 nwf_182) nzv_X10_type ⟨rfl, rfl⟩ ⟨Nat.le_of_ble_eq_true rfl, Nat.le_of_ble_eq_true rfl⟩ (hM.recv hK dm_16 (zd_16 G (upG V1 8 (V 8)) 0 0) rfl) rfl hl.1 rfl (Nat.le_of_ble_eq_true rfl) dL_law_714 ⟨Nat.le_of_ble_eq_true rfl, Nat.le_of_ble_eq_true rfl⟩ (fun H locs hM hS => ?_)
  exact lv_icmp_eq (tgt := 771) hx hb dL_law_717 (by decide) (fun _ => kk _ H locs R1 hM hS) (fun c1 => absurd rfl c1)
set_option maxHeartbeats 4000000 in
set_option maxRecDepth 100000 in
theorem lc_23 (hx : p.tables.exec = Jvm.exec) (hb : c.code = cL_law) (hml : c.maxLocals = 4) (hown : s.vm.findClass RL = some m.cls) (hL : ∀ w ∈ zWL, w.before args s = true) (hK : zK G (nA s.heap.size) s) (hV : zVb G) (hX : va_X b L xs s s.heap) (hbl : b < s.heap.size) {V : zV3} (R : Rel V) (hM : zM G V H) (hS : va_S (nA s.heap.size) s.heap H locs) (hl : lv_has ls 4 [(3, .int (nI i)), (2, .ref (gA G 16 0 0)), (1, .ref (gA G 10 0 0)), (0, .ref b)]) (h1 : vp_in (nI i + 1) L) (h2 : vp_in (nI i + 2) L) (kk : ∀ (V' : zV3) (H' : Heap) (locs' : List Loc), Rel V' → zM G V' H' → va_S (nA s.heap.size) s.heap H' locs' → W p l e room_1 s m args below meth c H' locs' 244 3284 Q (F0 m 771 ls [])) : W p l e room_1 s m args below meth c H locs 244 3284 Q (F0 m 722 ls []) := by
  have hbA : ¬ nA s.heap.size b := Nat.not_le.mpr hbl
  obtain ⟨r, V1, h2', e1, e2, e8, R1⟩ := PUB_clearText R
  refine lv_aload_n hx hb dL_law_722 rfl (lv_at hl 2 rfl) ?_
  refine z_callV (As := []) (rest := []) (C := RX9) hx hb hml hown hL hK hM hS (kX9_clearText l G (nA s.heap.size) V e1) (zw_gv nwf_189 nwf_187 nwf_188 nwf_3 nwf_186) nzv_X9_clearText ⟨rfl, rfl⟩ ⟨Nat.le_of_ble_eq_true rfl, Nat.le_of_ble_eq_true rfl⟩ (hM.recv hK dm_10 (zd_10 G V) rfl) rfl hl.1 rfl (Nat.le_of_ble_eq_true rfl) dL_law_723 ⟨Nat.le_of_ble_eq_true rfl, Nat.le_of_ble_eq_true rfl⟩ (fun H locs hM hS => ?_)
  refine lv_aload_n hx hb dL_law_726 rfl (lv_at hl 1 rfl) ?_
  have hM : zM G (upG V1 8 (V 8)) H := by rw [← e8, upG_id]; exact hM
  refine z_callV (As := []) (rest := [.int r]) (C := RX10) hx hb hml hown hL hK hM hS (kX10_clearText l G (nA s.heap.size) V1 (V 8) e2) (zw_gv nwf_193 nwf_191 nwf_192 nwf_8 nwf_190) nzv_X10_clearText ⟨rfl, rfl⟩ ⟨Nat.le_of_ble_eq_true rfl, Nat.le_of_ble_eq_true rfl⟩ (hM.recv hK dm_16 (zd_16 G (upG V1 8 (V 8)) 0 0) rfl) rfl hl.1 rfl (Nat.le_of_ble_eq_true rfl) dL_law_727 ⟨Nat.le_of_ble_eq_true rfl, Nat.le_of_ble_eq_true rfl⟩ (fun H locs hM hS => ?_)
  exact lv_icmp_eq (tgt := 771) hx hb dL_law_730 (by decide) (fun _ => kk _ H locs R1 hM hS) (fun c1 => absurd rfl c1)
set_option maxHeartbeats 4000000 in
set_option maxRecDepth 100000 in
theorem lc_24 (hx : p.tables.exec = Jvm.exec) (hb : c.code = cL_law) (hml : c.maxLocals = 4) (hown : s.vm.findClass RL = some m.cls) (hL : ∀ w ∈ zWL, w.before args s = true) (hK : zK G (nA s.heap.size) s) (hV : zVb G) (hX : va_X b L xs s s.heap) (hbl : b < s.heap.size) {V : zV3} (R : Rel V) (hM : zM G V H) (hS : va_S (nA s.heap.size) s.heap H locs) (hl : lv_has ls 4 [(3, .int (nI i)), (2, .ref (gA G 16 0 0)), (1, .ref (gA G 10 0 0)), (0, .ref b)]) (h1 : vp_in (nI i + 1) L) (h2 : vp_in (nI i + 2) L) (kk : ∀ (V' : zV3) (H' : Heap) (locs' : List Loc), Rel V' → zM G V' H' → va_S (nA s.heap.size) s.heap H' locs' → W p l e room_1 s m args below meth c H' locs' 244 3284 Q (F0 m 771 ls [])) : W p l e room_1 s m args below meth c H locs 244 3284 Q (F0 m 735 ls []) := by
  have hbA : ¬ nA s.heap.size b := Nat.not_le.mpr hbl
  obtain ⟨r, V1, h2', e1, e2, e8, R1⟩ := PUB_fault (xs (nI i + 1).toNatClampNeg) R
  refine lv_aload_n hx hb dL_law_735 rfl (lv_at hl 2 rfl) ?_
  refine lv_aload_n hx hb dL_law_736 rfl (lv_at hl 3 rfl) ?_
  refine lv_iload_n hx hb dL_law_737 rfl (lv_at hl 0 rfl) ?_
  refine lv_iconst (v := 1) hx hb dL_law_738 (by decide) ?_
  refine lv_iadd hx hb dL_law_739 ?_
  refine va_sld hx hb hX hbl hbA hS h1 dL_law_740 ?_
  refine z_callV (As := [.int (xs (nI i + 1).toNatClampNeg)]) (rest := []) (C := RX9) hx hb hml hown hL hK hM hS (kX9_fault l G (nA s.heap.size) hV V (xs (nI i + 1).toNatClampNeg) e1) (zw_gv nwf_197 nwf_195 nwf_196 nwf_3 nwf_194) nzv_X9_fault ⟨rfl, rfl⟩ ⟨Nat.le_of_ble_eq_true rfl, Nat.le_of_ble_eq_true rfl⟩ (hM.recv hK dm_10 (zd_10 G V) rfl) rfl hl.1 rfl (Nat.le_of_ble_eq_true rfl) dL_law_741 ⟨Nat.le_of_ble_eq_true rfl, Nat.le_of_ble_eq_true rfl⟩ (fun H locs hM hS => ?_)
  refine lv_aload_n hx hb dL_law_744 rfl (lv_at hl 1 rfl) ?_
  refine lv_aload_n hx hb dL_law_745 rfl (lv_at hl 3 rfl) ?_
  refine lv_iload_n hx hb dL_law_746 rfl (lv_at hl 0 rfl) ?_
  refine lv_iconst (v := 1) hx hb dL_law_747 (by decide) ?_
  refine lv_iadd hx hb dL_law_748 ?_
  refine va_sld hx hb hX hbl hbA hS h1 dL_law_749 ?_
  have hM : zM G (upG V1 8 (V 8)) H := by rw [← e8, upG_id]; exact hM
  refine z_callV (As := [.int (xs (nI i + 1).toNatClampNeg)]) (rest := [.int r]) (C := RX10) hx hb hml hown hL hK hM hS (kX10_fault l G (nA s.heap.size) V1 (V 8) (xs (nI i + 1).toNatClampNeg) e2) (zw_gv nwf_201 nwf_199 nwf_200 nwf_8 nwf_198) nzv_X10_fault ⟨rfl, rfl⟩ ⟨Nat.le_of_ble_eq_true rfl, Nat.le_of_ble_eq_true rfl⟩ (hM.recv hK dm_16 (zd_16 G (upG V1 8 (V 8)) 0 0) rfl) rfl hl.1 rfl (Nat.le_of_ble_eq_true rfl) dL_law_750 ⟨Nat.le_of_ble_eq_true rfl, Nat.le_of_ble_eq_true rfl⟩ (fun H locs hM hS => ?_)
  exact lv_icmp_eq (tgt := 771) hx hb dL_law_753 (by decide) (fun _ => kk _ H locs R1 hM hS) (fun c1 => absurd rfl c1)
set_option maxHeartbeats 4000000 in
set_option maxRecDepth 100000 in
theorem lc_25 (hx : p.tables.exec = Jvm.exec) (hb : c.code = cL_law) (hml : c.maxLocals = 4) (hown : s.vm.findClass RL = some m.cls) (hL : ∀ w ∈ zWL, w.before args s = true) (hK : zK G (nA s.heap.size) s) (hV : zVb G) (hX : va_X b L xs s s.heap) (hbl : b < s.heap.size) {V : zV3} (R : Rel V) (hM : zM G V H) (hS : va_S (nA s.heap.size) s.heap H locs) (hl : lv_has ls 4 [(3, .int (nI i)), (2, .ref (gA G 16 0 0)), (1, .ref (gA G 10 0 0)), (0, .ref b)]) (h1 : vp_in (nI i + 1) L) (h2 : vp_in (nI i + 2) L) (kk : ∀ (V' : zV3) (H' : Heap) (locs' : List Loc), Rel V' → zM G V' H' → va_S (nA s.heap.size) s.heap H' locs' → W p l e room_1 s m args below meth c H' locs' 244 3284 Q (F0 m 771 ls [])) : W p l e room_1 s m args below meth c H locs 244 3284 Q (F0 m 758 ls []) := by
  have hbA : ¬ nA s.heap.size b := Nat.not_le.mpr hbl
  obtain ⟨r, V1, h2', e1, e2, e8, R1⟩ := PUB_play R
  refine lv_aload_n hx hb dL_law_758 rfl (lv_at hl 2 rfl) ?_
  refine z_callV (As := []) (rest := []) (C := RX9) hx hb hml hown hL hK hM hS (kX9_play l G (nA s.heap.size) hV V e1) (zw_gv nwf_205 nwf_203 nwf_204 nwf_3 nwf_202) nzv_X9_play ⟨rfl, rfl⟩ ⟨Nat.le_of_ble_eq_true rfl, Nat.le_of_ble_eq_true rfl⟩ (hM.recv hK dm_10 (zd_10 G V) rfl) rfl hl.1 rfl (Nat.le_of_ble_eq_true rfl) dL_law_759 ⟨Nat.le_of_ble_eq_true rfl, Nat.le_of_ble_eq_true rfl⟩ (fun H locs hM hS => ?_)
  refine lv_aload_n hx hb dL_law_762 rfl (lv_at hl 1 rfl) ?_
  have hM : zM G (upG V1 8 (V 8)) H := by rw [← e8, upG_id]; exact hM
  refine z_callV (As := []) (rest := [.int r]) (C := RX10) hx hb hml hown hL hK hM hS (kX10_play l G (nA s.heap.size) V1 (V 8) e2) (zw_gv nwf_209 nwf_207 nwf_208 nwf_8 nwf_206) nzv_X10_play ⟨rfl, rfl⟩ ⟨Nat.le_of_ble_eq_true rfl, Nat.le_of_ble_eq_true rfl⟩ (hM.recv hK dm_16 (zd_16 G (upG V1 8 (V 8)) 0 0) rfl) rfl hl.1 rfl (Nat.le_of_ble_eq_true rfl) dL_law_763 ⟨Nat.le_of_ble_eq_true rfl, Nat.le_of_ble_eq_true rfl⟩ (fun H locs hM hS => ?_)
  exact lv_icmp_eq (tgt := 771) hx hb dL_law_766 (by decide) (fun _ => kk _ H locs R1 hM hS) (fun c1 => absurd rfl c1)
end LCS
set_option maxHeartbeats 4000000 in
set_option maxRecDepth 100000 in
theorem law_loop {p : Program} {l : Launch} {e : Env} {s : State} {m : MethodId} {args : Array Value} {below : List Frame} {meth : Method} {c : Code} {Q : State → Prop} {G : zG} {b L : Nat} {xs : Nat → Int32} (hx : p.tables.exec = Jvm.exec) (hb : c.code = cL_law) (hml : c.maxLocals = 4) (hown : s.vm.findClass RL = some m.cls) (hL : ∀ w ∈ zWL, w.before args s = true) (hK : zK G (nA s.heap.size) s) (hV : zVb G) (hX : va_X b L xs s s.heap) (hbl : b < s.heap.size) (hLn : L ≤ 1536)
    (kend : ∀ (H : Heap) (locs : List Loc) (ls : Array Slot), va_S (nA s.heap.size) s.heap H locs → W p l e room_1 s m args below meth c H locs 244 3284 Q (F0 m 777 ls [])) :
    ∀ (n i : Nat) (V : zV3) (H : Heap) (locs : List Loc) (ls : Array Slot), i ≤ L + 3 → L + 4 ≤ i + n → Rel V → zM G V H → va_S (nA s.heap.size) s.heap H locs → lv_has ls 4 [(3, .int (nI i)), (2, .ref (gA G 16 0 0)), (1, .ref (gA G 10 0 0)), (0, .ref b)] → W p l e room_1 s m args below meth c H locs 244 3284 Q (F0 m 18 ls []) := by
  have hbA : ¬ nA s.heap.size b := Nat.not_le.mpr hbl
  intro n
  induction n with
  | zero =>
    intro i V H locs ls h1 h2
    exact absurd h2 (by omega)
  | succ n ih =>
    intro i V H locs ls hi hn R hM hS hl
    refine lv_iload_n hx hb dL_law_18 rfl (lv_at hl 0 rfl) ?_
    refine lv_aload_n hx hb dL_law_19 rfl (lv_at hl 3 rfl) ?_
    refine va_slen hx hb hX hbl hbA hS dL_law_20 ?_
    refine lv_iconst (v := 3) hx hb dL_law_21 (by decide) ?_
    refine lv_isub hx hb dL_law_22 ?_
    refine lv_icmp_gt (tgt := 777) hx hb dL_law_23 (by decide) (fun _ => kend H locs ls hS) (fun c1 => ?_)
    have hlt : i + 2 < L := sc_lt (by omega) (by omega) c1
    have h0 : vp_in (nI i) L := vp_in_nI (by omega) (by omega)
    have h1 : vp_in (nI i + 1) L := by rw [nI_1]; exact vp_in_nI (by omega) (by omega)
    have h2 : vp_in (nI i + 2) L := by rw [nI_2]; exact vp_in_nI (by omega) (by omega)
    refine lv_aload_n hx hb dL_law_26 rfl (lv_at hl 3 rfl) ?_
    refine lv_iload_n hx hb dL_law_27 rfl (lv_at hl 0 rfl) ?_
    refine va_sld hx hb hX hbl hbA hS h0 dL_law_28 ?_
    refine lv_bipush (v := 31) hx hb dL_law_29 (by decide) ?_
    refine lv_iand hx hb dL_law_31 ?_
    obtain ⟨k, hk, ek⟩ := and31 (xs (nI i).toNatClampNeg)
    rw [ek]
    have step : ∀ (V' : zV3) (H' : Heap) (locs' : List Loc), Rel V' → zM G V' H' → va_S (nA s.heap.size) s.heap H' locs' → W p l e room_1 s m args below meth c H' locs' 244 3284 Q (F0 m 771 ls []) := fun V' H' locs' R' hM' hS' => by
      refine lv_iinc (v := nI (i + 3)) (lv' := [(3, .int (nI (i + 3))), (2, .ref (gA G 16 0 0)), (1, .ref (gA G 10 0 0)), (0, .ref b)]) hx hb dL_law_771 hl (k := 0) rfl (nI_3 i) (by decide) rfl (fun ls hl => ?_)
      refine lv_goto (tgt := 18) hx hb dL_law_774 (by decide) ?_
      exact ih (i + 3) V' H' locs' ls (by omega) (by omega) R' hM' hS' hl
    match k, hk with
    | 0, _ =>
      refine lv_tableIn (off := 120) (tgt := 152) hx hb dL_law_32 (by decide) (by decide) (by decide) (by decide) ?_
      exact lc_0 hx hb hml hown hL hK hV hX hbl R hM hS hl h1 h2 step
    | 1, _ =>
      refine lv_tableIn (off := 143) (tgt := 175) hx hb dL_law_32 (by decide) (by decide) (by decide) (by decide) ?_
      exact lc_1 hx hb hml hown hL hK hV hX hbl R hM hS hl h1 h2 step
    | 2, _ =>
      refine lv_tableIn (off := 156) (tgt := 188) hx hb dL_law_32 (by decide) (by decide) (by decide) (by decide) ?_
      exact lc_2 hx hb hml hown hL hK hV hX hbl R hM hS hl h1 h2 step
    | 3, _ =>
      refine lv_tableIn (off := 189) (tgt := 221) hx hb dL_law_32 (by decide) (by decide) (by decide) (by decide) ?_
      exact lc_3 hx hb hml hown hL hK hV hX hbl R hM hS hl h1 h2 step
    | 4, _ =>
      refine lv_tableIn (off := 222) (tgt := 254) hx hb dL_law_32 (by decide) (by decide) (by decide) (by decide) ?_
      exact lc_4 hx hb hml hown hL hK hV hX hbl R hM hS hl h1 h2 step
    | 5, _ =>
      refine lv_tableIn (off := 245) (tgt := 277) hx hb dL_law_32 (by decide) (by decide) (by decide) (by decide) ?_
      exact lc_5 hx hb hml hown hL hK hV hX hbl R hM hS hl h1 h2 step
    | 6, _ =>
      refine lv_tableIn (off := 268) (tgt := 300) hx hb dL_law_32 (by decide) (by decide) (by decide) (by decide) ?_
      exact lc_6 hx hb hml hown hL hK hV hX hbl R hM hS hl h1 h2 step
    | 7, _ =>
      refine lv_tableIn (off := 291) (tgt := 323) hx hb dL_law_32 (by decide) (by decide) (by decide) (by decide) ?_
      exact lc_7 hx hb hml hown hL hK hV hX hbl R hM hS hl h1 h2 step
    | 8, _ =>
      refine lv_tableIn (off := 324) (tgt := 356) hx hb dL_law_32 (by decide) (by decide) (by decide) (by decide) ?_
      exact lc_8 hx hb hml hown hL hK hV hX hbl R hM hS hl h1 h2 step
    | 9, _ =>
      refine lv_tableIn (off := 347) (tgt := 379) hx hb dL_law_32 (by decide) (by decide) (by decide) (by decide) ?_
      exact lc_9 hx hb hml hown hL hK hV hX hbl R hM hS hl h1 h2 step
    | 10, _ =>
      refine lv_tableIn (off := 360) (tgt := 392) hx hb dL_law_32 (by decide) (by decide) (by decide) (by decide) ?_
      exact lc_10 hx hb hml hown hL hK hV hX hbl R hM hS hl h1 h2 step
    | 11, _ =>
      refine lv_tableIn (off := 393) (tgt := 425) hx hb dL_law_32 (by decide) (by decide) (by decide) (by decide) ?_
      exact lc_11 hx hb hml hown hL hK hV hX hbl R hM hS hl h1 h2 step
    | 12, _ =>
      refine lv_tableIn (off := 416) (tgt := 448) hx hb dL_law_32 (by decide) (by decide) (by decide) (by decide) ?_
      exact lc_12 hx hb hml hown hL hK hV hX hbl R hM hS hl h1 h2 step
    | 13, _ =>
      refine lv_tableIn (off := 449) (tgt := 481) hx hb dL_law_32 (by decide) (by decide) (by decide) (by decide) ?_
      exact lc_13 hx hb hml hown hL hK hV hX hbl R hM hS hl h1 h2 step
    | 14, _ =>
      refine lv_tableIn (off := 482) (tgt := 514) hx hb dL_law_32 (by decide) (by decide) (by decide) (by decide) ?_
      exact lc_14 hx hb hml hown hL hK hV hX hbl R hM hS hl h1 h2 step
    | 15, _ =>
      refine lv_tableIn (off := 515) (tgt := 547) hx hb dL_law_32 (by decide) (by decide) (by decide) (by decide) ?_
      exact lc_15 hx hb hml hown hL hK hV hX hbl R hM hS hl h1 h2 step
    | 16, _ =>
      refine lv_tableIn (off := 548) (tgt := 580) hx hb dL_law_32 (by decide) (by decide) (by decide) (by decide) ?_
      exact lc_16 hx hb hml hown hL hK hV hX hbl R hM hS hl h1 h2 step
    | 17, _ =>
      refine lv_tableIn (off := 571) (tgt := 603) hx hb dL_law_32 (by decide) (by decide) (by decide) (by decide) ?_
      exact lc_17 hx hb hml hown hL hK hV hX hbl R hM hS hl h1 h2 step
    | 18, _ =>
      refine lv_tableIn (off := 604) (tgt := 636) hx hb dL_law_32 (by decide) (by decide) (by decide) (by decide) ?_
      exact lc_18 hx hb hml hown hL hK hV hX hbl R hM hS hl h1 h2 step
    | 19, _ =>
      refine lv_tableIn (off := 627) (tgt := 659) hx hb dL_law_32 (by decide) (by decide) (by decide) (by decide) ?_
      exact lc_19 hx hb hml hown hL hK hV hX hbl R hM hS hl h1 h2 step
    | 20, _ =>
      refine lv_tableIn (off := 641) (tgt := 673) hx hb dL_law_32 (by decide) (by decide) (by decide) (by decide) ?_
      exact lc_20 hx hb hml hown hL hK hV hX hbl R hM hS hl h1 h2 step
    | 21, _ =>
      refine lv_tableIn (off := 654) (tgt := 686) hx hb dL_law_32 (by decide) (by decide) (by decide) (by decide) ?_
      exact lc_21 hx hb hml hown hL hK hV hX hbl R hM hS hl h1 h2 step
    | 22, _ =>
      refine lv_tableIn (off := 667) (tgt := 699) hx hb dL_law_32 (by decide) (by decide) (by decide) (by decide) ?_
      exact lc_22 hx hb hml hown hL hK hV hX hbl R hM hS hl h1 h2 step
    | 23, _ =>
      refine lv_tableIn (off := 690) (tgt := 722) hx hb dL_law_32 (by decide) (by decide) (by decide) (by decide) ?_
      exact lc_23 hx hb hml hown hL hK hV hX hbl R hM hS hl h1 h2 step
    | 24, _ =>
      refine lv_tableIn (off := 703) (tgt := 735) hx hb dL_law_32 (by decide) (by decide) (by decide) (by decide) ?_
      exact lc_24 hx hb hml hown hL hK hV hX hbl R hM hS hl h1 h2 step
    | 25, _ =>
      refine lv_tableIn (off := 726) (tgt := 758) hx hb dL_law_32 (by decide) (by decide) (by decide) (by decide) ?_
      exact lc_25 hx hb hml hown hL hK hV hX hbl R hM hS hl h1 h2 step
    | 26, _ => exact lv_tableOut (tgt := 771) hx hb dL_law_32 (Or.inr (by decide)) (by decide) (step V H locs R hM hS)
    | 27, _ => exact lv_tableOut (tgt := 771) hx hb dL_law_32 (Or.inr (by decide)) (by decide) (step V H locs R hM hS)
    | 28, _ => exact lv_tableOut (tgt := 771) hx hb dL_law_32 (Or.inr (by decide)) (by decide) (step V H locs R hM hS)
    | 29, _ => exact lv_tableOut (tgt := 771) hx hb dL_law_32 (Or.inr (by decide)) (by decide) (step V H locs R hM hS)
    | 30, _ => exact lv_tableOut (tgt := 771) hx hb dL_law_32 (Or.inr (by decide)) (by decide) (step V H locs R hM hS)
    | 31, _ => exact lv_tableOut (tgt := 771) hx hb dL_law_32 (Or.inr (by decide)) (by decide) (step V H locs R hM hS)
    | k + 32, hk => exact absurd hk (by omega)
