theorem dX9_renew_4 : decode cX9_renew 4 = .ok (.aload_n 0, 1) := by decide +kernel
theorem dX9_renew_5 : decode cX9_renew 5 = .ok (.getfield 10, 3) := by decide +kernel
theorem dX9_renew_8 : decode cX9_renew 8 = .ok (.invokevirtual 37, 3) := by decide +kernel
theorem dX9_renew_11 : decode cX9_renew 11 = .ok (.aload_n 0, 1) := by decide +kernel
theorem dX9_renew_12 : decode cX9_renew 12 = .ok (.getfield 19, 3) := by decide +kernel
theorem dX9_renew_15 : decode cX9_renew 15 = .ok (.aload_n 0, 1) := by decide +kernel
theorem dX9_renew_16 : decode cX9_renew 16 = .ok (.getfield 10, 3) := by decide +kernel
theorem dX9_renew_19 : decode cX9_renew 19 = .ok (.iload_n 1, 1) := by decide +kernel
theorem dX9_renew_20 : decode cX9_renew 20 = .ok (.invokevirtual 62, 3) := by decide +kernel
theorem dX9_renew_23 : decode cX9_renew 23 = .ok (.invokevirtual 45, 3) := by decide +kernel
theorem dX9_renew_26 : decode cX9_renew 26 = .ok (.ireturn, 1) := by decide +kernel
theorem dX9_lose_0 : decode cX9_lose 0 = .ok (.aload_n 0, 1) := by decide +kernel
theorem dX9_lose_1 : decode cX9_lose 1 = .ok (.getfield 19, 3) := by decide +kernel
theorem dX9_lose_4 : decode cX9_lose 4 = .ok (.aload_n 0, 1) := by decide +kernel
theorem dX9_lose_5 : decode cX9_lose 5 = .ok (.getfield 10, 3) := by decide +kernel
theorem dX9_lose_8 : decode cX9_lose 8 = .ok (.invokevirtual 37, 3) := by decide +kernel
theorem dX9_lose_11 : decode cX9_lose 11 = .ok (.aload_n 0, 1) := by decide +kernel
theorem dX9_lose_12 : decode cX9_lose 12 = .ok (.getfield 19, 3) := by decide +kernel
theorem dX9_lose_15 : decode cX9_lose 15 = .ok (.aload_n 0, 1) := by decide +kernel
theorem dX9_lose_16 : decode cX9_lose 16 = .ok (.getfield 10, 3) := by decide +kernel
theorem dX9_lose_19 : decode cX9_lose 19 = .ok (.iload_n 1, 1) := by decide +kernel
theorem dX9_lose_20 : decode cX9_lose 20 = .ok (.invokevirtual 65, 3) := by decide +kernel
theorem dX9_lose_23 : decode cX9_lose 23 = .ok (.invokevirtual 45, 3) := by decide +kernel
theorem dX9_lose_26 : decode cX9_lose 26 = .ok (.ireturn, 1) := by decide +kernel
theorem dX9_wish_0 : decode cX9_wish 0 = .ok (.aload_n 0, 1) := by decide +kernel
theorem dX9_wish_1 : decode cX9_wish 1 = .ok (.getfield 19, 3) := by decide +kernel
theorem dX9_wish_4 : decode cX9_wish 4 = .ok (.aload_n 0, 1) := by decide +kernel
theorem dX9_wish_5 : decode cX9_wish 5 = .ok (.getfield 10, 3) := by decide +kernel
theorem dX9_wish_8 : decode cX9_wish 8 = .ok (.invokevirtual 37, 3) := by decide +kernel
theorem dX9_wish_11 : decode cX9_wish 11 = .ok (.aload_n 0, 1) := by decide +kernel
theorem dX9_wish_12 : decode cX9_wish 12 = .ok (.getfield 19, 3) := by decide +kernel
theorem dX9_wish_15 : decode cX9_wish 15 = .ok (.aload_n 0, 1) := by decide +kernel
theorem dX9_wish_16 : decode cX9_wish 16 = .ok (.getfield 10, 3) := by decide +kernel
theorem dX9_wish_19 : decode cX9_wish 19 = .ok (.iload_n 1, 1) := by decide +kernel
theorem dX9_wish_20 : decode cX9_wish 20 = .ok (.iload_n 2, 1) := by decide +kernel
theorem dX9_wish_21 : decode cX9_wish 21 = .ok (.invokevirtual 68, 3) := by decide +kernel
theorem dX9_wish_24 : decode cX9_wish 24 = .ok (.invokevirtual 45, 3) := by decide +kernel
theorem dX9_wish_27 : decode cX9_wish 27 = .ok (.ireturn, 1) := by decide +kernel
theorem dX9_noWish_0 : decode cX9_noWish 0 = .ok (.aload_n 0, 1) := by decide +kernel
theorem dX9_noWish_1 : decode cX9_noWish 1 = .ok (.getfield 19, 3) := by decide +kernel
theorem dX9_noWish_4 : decode cX9_noWish 4 = .ok (.aload_n 0, 1) := by decide +kernel
theorem dX9_noWish_5 : decode cX9_noWish 5 = .ok (.getfield 10, 3) := by decide +kernel
theorem dX9_noWish_8 : decode cX9_noWish 8 = .ok (.invokevirtual 37, 3) := by decide +kernel
theorem dX9_noWish_11 : decode cX9_noWish 11 = .ok (.aload_n 0, 1) := by decide +kernel
theorem dX9_noWish_12 : decode cX9_noWish 12 = .ok (.getfield 19, 3) := by decide +kernel
theorem dX9_noWish_15 : decode cX9_noWish 15 = .ok (.aload_n 0, 1) := by decide +kernel
theorem dX9_noWish_16 : decode cX9_noWish 16 = .ok (.getfield 10, 3) := by decide +kernel
theorem dX9_noWish_19 : decode cX9_noWish 19 = .ok (.iload_n 1, 1) := by decide +kernel
theorem dX9_noWish_20 : decode cX9_noWish 20 = .ok (.invokevirtual 71, 3) := by decide +kernel
theorem dX9_noWish_23 : decode cX9_noWish 23 = .ok (.invokevirtual 45, 3) := by decide +kernel
theorem dX9_noWish_26 : decode cX9_noWish 26 = .ok (.ireturn, 1) := by decide +kernel
theorem dX9_swap_0 : decode cX9_swap 0 = .ok (.aload_n 0, 1) := by decide +kernel
theorem dX9_swap_1 : decode cX9_swap 1 = .ok (.getfield 19, 3) := by decide +kernel
theorem dX9_swap_4 : decode cX9_swap 4 = .ok (.aload_n 0, 1) := by decide +kernel
theorem dX9_swap_5 : decode cX9_swap 5 = .ok (.getfield 10, 3) := by decide +kernel
theorem dX9_swap_8 : decode cX9_swap 8 = .ok (.invokevirtual 37, 3) := by decide +kernel
theorem dX9_swap_11 : decode cX9_swap 11 = .ok (.aload_n 0, 1) := by decide +kernel
theorem dX9_swap_12 : decode cX9_swap 12 = .ok (.getfield 19, 3) := by decide +kernel
theorem dX9_swap_15 : decode cX9_swap 15 = .ok (.aload_n 0, 1) := by decide +kernel
theorem dX9_swap_16 : decode cX9_swap 16 = .ok (.getfield 10, 3) := by decide +kernel
theorem dX9_swap_19 : decode cX9_swap 19 = .ok (.invokevirtual 74, 3) := by decide +kernel
theorem dX9_swap_22 : decode cX9_swap 22 = .ok (.invokevirtual 45, 3) := by decide +kernel
theorem dX9_swap_25 : decode cX9_swap 25 = .ok (.ireturn, 1) := by decide +kernel
theorem dX9_pay_0 : decode cX9_pay 0 = .ok (.aload_n 0, 1) := by decide +kernel
theorem dX9_pay_1 : decode cX9_pay 1 = .ok (.getfield 19, 3) := by decide +kernel
theorem dX9_pay_4 : decode cX9_pay 4 = .ok (.aload_n 0, 1) := by decide +kernel
theorem dX9_pay_5 : decode cX9_pay 5 = .ok (.getfield 10, 3) := by decide +kernel
theorem dX9_pay_8 : decode cX9_pay 8 = .ok (.invokevirtual 37, 3) := by decide +kernel
theorem dX9_pay_11 : decode cX9_pay 11 = .ok (.aload_n 0, 1) := by decide +kernel
theorem dX9_pay_12 : decode cX9_pay 12 = .ok (.getfield 19, 3) := by decide +kernel
theorem dX9_pay_15 : decode cX9_pay 15 = .ok (.aload_n 0, 1) := by decide +kernel
theorem dX9_pay_16 : decode cX9_pay 16 = .ok (.getfield 10, 3) := by decide +kernel
theorem dX9_pay_19 : decode cX9_pay 19 = .ok (.iload_n 1, 1) := by decide +kernel
theorem dX9_pay_20 : decode cX9_pay 20 = .ok (.iload_n 2, 1) := by decide +kernel
theorem dX9_pay_21 : decode cX9_pay 21 = .ok (.invokevirtual 77, 3) := by decide +kernel
theorem dX9_pay_24 : decode cX9_pay 24 = .ok (.invokevirtual 45, 3) := by decide +kernel
theorem dX9_pay_27 : decode cX9_pay 27 = .ok (.ireturn, 1) := by decide +kernel
theorem dX9_pass_0 : decode cX9_pass 0 = .ok (.aload_n 0, 1) := by decide +kernel
theorem dX9_pass_1 : decode cX9_pass 1 = .ok (.getfield 19, 3) := by decide +kernel
theorem dX9_pass_4 : decode cX9_pass 4 = .ok (.aload_n 0, 1) := by decide +kernel
theorem dX9_pass_5 : decode cX9_pass 5 = .ok (.getfield 10, 3) := by decide +kernel
theorem dX9_pass_8 : decode cX9_pass 8 = .ok (.invokevirtual 37, 3) := by decide +kernel
theorem dX9_pass_11 : decode cX9_pass 11 = .ok (.aload_n 0, 1) := by decide +kernel
theorem dX9_pass_12 : decode cX9_pass 12 = .ok (.getfield 19, 3) := by decide +kernel
theorem dX9_pass_15 : decode cX9_pass 15 = .ok (.aload_n 0, 1) := by decide +kernel
theorem dX9_pass_16 : decode cX9_pass 16 = .ok (.getfield 10, 3) := by decide +kernel
theorem dX9_pass_19 : decode cX9_pass 19 = .ok (.iload_n 1, 1) := by decide +kernel
theorem dX9_pass_20 : decode cX9_pass 20 = .ok (.sipush 5000, 3) := by decide +kernel
theorem dX9_pass_23 : decode cX9_pass 23 = .ok (.invokevirtual 80, 3) := by decide +kernel
theorem dX9_pass_26 : decode cX9_pass 26 = .ok (.invokevirtual 45, 3) := by decide +kernel
theorem dX9_pass_29 : decode cX9_pass 29 = .ok (.ireturn, 1) := by decide +kernel
theorem dX9_set_0 : decode cX9_set 0 = .ok (.aload_n 0, 1) := by decide +kernel
theorem dX9_set_1 : decode cX9_set 1 = .ok (.getfield 19, 3) := by decide +kernel
theorem dX9_set_4 : decode cX9_set 4 = .ok (.aload_n 0, 1) := by decide +kernel
theorem dX9_set_5 : decode cX9_set 5 = .ok (.getfield 10, 3) := by decide +kernel
theorem dX9_set_8 : decode cX9_set 8 = .ok (.invokevirtual 37, 3) := by decide +kernel
theorem dX9_set_11 : decode cX9_set 11 = .ok (.aload_n 0, 1) := by decide +kernel
theorem dX9_set_12 : decode cX9_set 12 = .ok (.getfield 19, 3) := by decide +kernel
theorem dX9_set_15 : decode cX9_set 15 = .ok (.aload_n 0, 1) := by decide +kernel
theorem dX9_set_16 : decode cX9_set 16 = .ok (.getfield 10, 3) := by decide +kernel
theorem dX9_set_19 : decode cX9_set 19 = .ok (.iload_n 1, 1) := by decide +kernel
theorem dX9_set_20 : decode cX9_set 20 = .ok (.iload_n 2, 1) := by decide +kernel
theorem dX9_set_21 : decode cX9_set 21 = .ok (.invokevirtual 83, 3) := by decide +kernel
theorem dX9_set_24 : decode cX9_set 24 = .ok (.invokevirtual 45, 3) := by decide +kernel
theorem dX9_set_27 : decode cX9_set 27 = .ok (.ireturn, 1) := by decide +kernel
theorem dX9_personOf_0 : decode cX9_personOf 0 = .ok (.aload_n 0, 1) := by decide +kernel
theorem dX9_personOf_1 : decode cX9_personOf 1 = .ok (.getfield 10, 3) := by decide +kernel
theorem dX9_personOf_4 : decode cX9_personOf 4 = .ok (.iload_n 1, 1) := by decide +kernel
theorem dX9_personOf_5 : decode cX9_personOf 5 = .ok (.iload_n 2, 1) := by decide +kernel
theorem dX9_personOf_6 : decode cX9_personOf 6 = .ok (.invokevirtual 86, 3) := by decide +kernel
theorem dX9_personOf_9 : decode cX9_personOf 9 = .ok (.ireturn, 1) := by decide +kernel
theorem dX9_lockerOf_0 : decode cX9_lockerOf 0 = .ok (.aload_n 0, 1) := by decide +kernel
theorem dX9_lockerOf_1 : decode cX9_lockerOf 1 = .ok (.getfield 10, 3) := by decide +kernel
theorem dX9_lockerOf_4 : decode cX9_lockerOf 4 = .ok (.iload_n 1, 1) := by decide +kernel
theorem dX9_lockerOf_5 : decode cX9_lockerOf 5 = .ok (.iload_n 2, 1) := by decide +kernel
theorem dX9_lockerOf_6 : decode cX9_lockerOf 6 = .ok (.invokevirtual 89, 3) := by decide +kernel
theorem dX9_lockerOf_9 : decode cX9_lockerOf 9 = .ok (.ireturn, 1) := by decide +kernel
theorem dX9_waitingAt_0 : decode cX9_waitingAt 0 = .ok (.iload_n 1, 1) := by decide +kernel
theorem dX9_waitingAt_1 : decode cX9_waitingAt 1 = .ok (.ifCond .lt 12, 3) := by decide +kernel
theorem dX9_waitingAt_4 : decode cX9_waitingAt 4 = .ok (.iload_n 2, 1) := by decide +kernel
theorem dX9_waitingAt_5 : decode cX9_waitingAt 5 = .ok (.ifCond .lt 8, 3) := by decide +kernel
theorem dX9_waitingAt_8 : decode cX9_waitingAt 8 = .ok (.iload_n 2, 1) := by decide +kernel
theorem dX9_waitingAt_9 : decode cX9_waitingAt 9 = .ok (.iconst 1, 1) := by decide +kernel
theorem dX9_waitingAt_10 : decode cX9_waitingAt 10 = .ok (.if_icmp .le 5, 3) := by decide +kernel
theorem dX9_waitingAt_13 : decode cX9_waitingAt 13 = .ok (.iconst (-1), 1) := by decide +kernel
theorem dX9_waitingAt_14 : decode cX9_waitingAt 14 = .ok (.ireturn, 1) := by decide +kernel
theorem dX9_waitingAt_15 : decode cX9_waitingAt 15 = .ok (.iload_n 1, 1) := by decide +kernel
theorem dX9_waitingAt_16 : decode cX9_waitingAt 16 = .ok (.aload_n 0, 1) := by decide +kernel
theorem dX9_waitingAt_17 : decode cX9_waitingAt 17 = .ok (.getfield 10, 3) := by decide +kernel
theorem dX9_waitingAt_20 : decode cX9_waitingAt 20 = .ok (.getfield 92, 3) := by decide +kernel
theorem dX9_waitingAt_23 : decode cX9_waitingAt 23 = .ok (.getfield 96, 3) := by decide +kernel
theorem dX9_waitingAt_26 : decode cX9_waitingAt 26 = .ok (.if_icmp .lt 6, 3) := by decide +kernel
theorem dX9_waitingAt_29 : decode cX9_waitingAt 29 = .ok (.bipush (-4), 2) := by decide +kernel
theorem dX9_waitingAt_31 : decode cX9_waitingAt 31 = .ok (.ireturn, 1) := by decide +kernel
theorem dX9_waitingAt_32 : decode cX9_waitingAt 32 = .ok (.iload_n 2, 1) := by decide +kernel
theorem dX9_waitingAt_33 : decode cX9_waitingAt 33 = .ok (.ifCond .ne 17, 3) := by decide +kernel
theorem dX9_waitingAt_36 : decode cX9_waitingAt 36 = .ok (.aload_n 0, 1) := by decide +kernel
theorem dX9_waitingAt_37 : decode cX9_waitingAt 37 = .ok (.getfield 10, 3) := by decide +kernel
theorem dX9_waitingAt_40 : decode cX9_waitingAt 40 = .ok (.getfield 92, 3) := by decide +kernel
theorem dX9_waitingAt_43 : decode cX9_waitingAt 43 = .ok (.iload_n 1, 1) := by decide +kernel
theorem dX9_waitingAt_44 : decode cX9_waitingAt 44 = .ok (.invokevirtual 102, 3) := by decide +kernel
theorem dX9_waitingAt_47 : decode cX9_waitingAt 47 = .ok (.goto 14, 3) := by decide +kernel
theorem dX9_waitingAt_50 : decode cX9_waitingAt 50 = .ok (.aload_n 0, 1) := by decide +kernel
theorem dX9_waitingAt_51 : decode cX9_waitingAt 51 = .ok (.getfield 10, 3) := by decide +kernel
theorem dX9_waitingAt_54 : decode cX9_waitingAt 54 = .ok (.getfield 92, 3) := by decide +kernel
theorem dX9_waitingAt_57 : decode cX9_waitingAt 57 = .ok (.iload_n 1, 1) := by decide +kernel
theorem dX9_waitingAt_58 : decode cX9_waitingAt 58 = .ok (.invokevirtual 105, 3) := by decide +kernel
theorem dX9_waitingAt_61 : decode cX9_waitingAt 61 = .ok (.ireturn, 1) := by decide +kernel
theorem dX9_count_0 : decode cX9_count 0 = .ok (.iload_n 1, 1) := by decide +kernel
theorem dX9_count_1 : decode cX9_count 1 = .ok (.lookupswitch 43 #[(12, 27), (13, 35)], 27) := by decide +kernel
theorem dX9_count_28 : decode cX9_count 28 = .ok (.aload_n 0, 1) := by decide +kernel
theorem dX9_count_29 : decode cX9_count 29 = .ok (.getfield 19, 3) := by decide +kernel
theorem dX9_count_32 : decode cX9_count 32 = .ok (.getfield 108, 3) := by decide +kernel
theorem dX9_count_35 : decode cX9_count 35 = .ok (.ireturn, 1) := by decide +kernel
theorem dX9_count_36 : decode cX9_count 36 = .ok (.aload_n 0, 1) := by decide +kernel
theorem dX9_count_37 : decode cX9_count 37 = .ok (.getfield 26, 3) := by decide +kernel
theorem dX9_count_40 : decode cX9_count 40 = .ok (.getfield 111, 3) := by decide +kernel
theorem dX9_count_43 : decode cX9_count 43 = .ok (.ireturn, 1) := by decide +kernel
theorem dX9_count_44 : decode cX9_count 44 = .ok (.aload_n 0, 1) := by decide +kernel
theorem dX9_count_45 : decode cX9_count 45 = .ok (.getfield 10, 3) := by decide +kernel
theorem dX9_count_48 : decode cX9_count 48 = .ok (.iload_n 1, 1) := by decide +kernel
theorem dX9_count_49 : decode cX9_count 49 = .ok (.invokevirtual 112, 3) := by decide +kernel
theorem dX9_count_52 : decode cX9_count 52 = .ok (.ireturn, 1) := by decide +kernel
theorem dX9_feeIn_0 : decode cX9_feeIn 0 = .ok (.aload_n 0, 1) := by decide +kernel
theorem dX9_feeIn_1 : decode cX9_feeIn 1 = .ok (.getfield 33, 3) := by decide +kernel
theorem dX9_feeIn_4 : decode cX9_feeIn 4 = .ok (.aload_n 0, 1) := by decide +kernel
theorem dX9_feeIn_5 : decode cX9_feeIn 5 = .ok (.getfield 10, 3) := by decide +kernel
theorem dX9_feeIn_8 : decode cX9_feeIn 8 = .ok (.iload_n 1, 1) := by decide +kernel
theorem dX9_feeIn_9 : decode cX9_feeIn 9 = .ok (.iload_n 2, 1) := by decide +kernel
theorem dX9_feeIn_10 : decode cX9_feeIn 10 = .ok (.invokevirtual 115, 3) := by decide +kernel
theorem dX9_feeIn_13 : decode cX9_feeIn 13 = .ok (.ireturn, 1) := by decide +kernel
theorem dX9_wouldHave_0 : decode cX9_wouldHave 0 = .ok (.aload_n 0, 1) := by decide +kernel
theorem dX9_wouldHave_1 : decode cX9_wouldHave 1 = .ok (.getfield 33, 3) := by decide +kernel
theorem dX9_wouldHave_4 : decode cX9_wouldHave 4 = .ok (.aload_n 0, 1) := by decide +kernel
theorem dX9_wouldHave_5 : decode cX9_wouldHave 5 = .ok (.getfield 10, 3) := by decide +kernel
theorem dX9_wouldHave_8 : decode cX9_wouldHave 8 = .ok (.iload_n 1, 1) := by decide +kernel
theorem dX9_wouldHave_9 : decode cX9_wouldHave 9 = .ok (.invokevirtual 119, 3) := by decide +kernel
theorem dX9_wouldHave_12 : decode cX9_wouldHave 12 = .ok (.ireturn, 1) := by decide +kernel
theorem dX9_lentBits_0 : decode cX9_lentBits 0 = .ok (.iconst 0, 1) := by decide +kernel
theorem dX9_lentBits_1 : decode cX9_lentBits 1 = .ok (.istore_n 1, 1) := by decide +kernel
theorem dX9_lentBits_2 : decode cX9_lentBits 2 = .ok (.iconst 0, 1) := by decide +kernel
theorem dX9_lentBits_3 : decode cX9_lentBits 3 = .ok (.istore_n 2, 1) := by decide +kernel
theorem dX9_lentBits_4 : decode cX9_lentBits 4 = .ok (.iload_n 2, 1) := by decide +kernel
theorem dX9_lentBits_5 : decode cX9_lentBits 5 = .ok (.iconst 2, 1) := by decide +kernel
theorem dX9_lentBits_6 : decode cX9_lentBits 6 = .ok (.if_icmp .gt 20, 3) := by decide +kernel
theorem dX9_lentBits_9 : decode cX9_lentBits 9 = .ok (.iload_n 1, 1) := by decide +kernel
theorem dX9_lentBits_10 : decode cX9_lentBits 10 = .ok (.aload_n 0, 1) := by decide +kernel
theorem dX9_lentBits_11 : decode cX9_lentBits 11 = .ok (.getfield 10, 3) := by decide +kernel
theorem dX9_lentBits_14 : decode cX9_lentBits 14 = .ok (.iload_n 2, 1) := by decide +kernel
theorem dX9_lentBits_15 : decode cX9_lentBits 15 = .ok (.invokevirtual 123, 3) := by decide +kernel
theorem dX9_lentBits_18 : decode cX9_lentBits 18 = .ok (.iadd, 1) := by decide +kernel
theorem dX9_lentBits_19 : decode cX9_lentBits 19 = .ok (.istore_n 1, 1) := by decide +kernel
theorem dX9_lentBits_20 : decode cX9_lentBits 20 = .ok (.iinc 2 1, 3) := by decide +kernel
theorem dX9_lentBits_23 : decode cX9_lentBits 23 = .ok (.goto (-19), 3) := by decide +kernel
theorem dX9_lentBits_26 : decode cX9_lentBits 26 = .ok (.iload_n 1, 1) := by decide +kernel
theorem dX9_lentBits_27 : decode cX9_lentBits 27 = .ok (.ifCond .ne 7, 3) := by decide +kernel
theorem dX9_lentBits_30 : decode cX9_lentBits 30 = .ok (.ldc2_w 126, 3) := by decide +kernel
theorem dX9_lentBits_33 : decode cX9_lentBits 33 = .ok (.lreturn, 1) := by decide +kernel
theorem dX9_lentBits_34 : decode cX9_lentBits 34 = .ok (.aload_n 0, 1) := by decide +kernel
theorem dX9_lentBits_35 : decode cX9_lentBits 35 = .ok (.getfield 10, 3) := by decide +kernel
theorem dX9_lentBits_38 : decode cX9_lentBits 38 = .ok (.invokevirtual 128, 3) := by decide +kernel
theorem dX9_lentBits_41 : decode cX9_lentBits 41 = .ok (.i2d, 1) := by decide +kernel
theorem dX9_lentBits_42 : decode cX9_lentBits 42 = .ok (.iload_n 1, 1) := by decide +kernel
theorem dX9_lentBits_43 : decode cX9_lentBits 43 = .ok (.i2d, 1) := by decide +kernel
theorem dX9_lentBits_44 : decode cX9_lentBits 44 = .ok (.ddiv, 1) := by decide +kernel
theorem dX9_lentBits_45 : decode cX9_lentBits 45 = .ok (.invokestatic 131, 3) := by decide +kernel
theorem dX9_lentBits_48 : decode cX9_lentBits 48 = .ok (.lreturn, 1) := by decide +kernel
theorem dX9_overdueBits_0 : decode cX9_overdueBits 0 = .ok (.aload_n 0, 1) := by decide +kernel
theorem dX9_overdueBits_1 : decode cX9_overdueBits 1 = .ok (.getfield 10, 3) := by decide +kernel
theorem dX9_overdueBits_4 : decode cX9_overdueBits 4 = .ok (.invokevirtual 128, 3) := by decide +kernel
theorem dX9_overdueBits_7 : decode cX9_overdueBits 7 = .ok (.istore_n 1, 1) := by decide +kernel
theorem dX9_overdueBits_8 : decode cX9_overdueBits 8 = .ok (.iload_n 1, 1) := by decide +kernel
theorem dX9_overdueBits_9 : decode cX9_overdueBits 9 = .ok (.ifCond .ne 6, 3) := by decide +kernel
theorem dX9_overdueBits_12 : decode cX9_overdueBits 12 = .ok (.bipush (-4), 2) := by decide +kernel
theorem dX9_overdueBits_14 : decode cX9_overdueBits 14 = .ok (.ireturn, 1) := by decide +kernel
theorem dX9_overdueBits_15 : decode cX9_overdueBits 15 = .ok (.aload_n 0, 1) := by decide +kernel
theorem dX9_overdueBits_16 : decode cX9_overdueBits 16 = .ok (.getfield 10, 3) := by decide +kernel
theorem dX9_overdueBits_19 : decode cX9_overdueBits 19 = .ok (.invokevirtual 135, 3) := by decide +kernel
theorem dX9_overdueBits_22 : decode cX9_overdueBits 22 = .ok (.i2f, 1) := by decide +kernel
theorem dX9_overdueBits_23 : decode cX9_overdueBits 23 = .ok (.iload_n 1, 1) := by decide +kernel
theorem dX9_overdueBits_24 : decode cX9_overdueBits 24 = .ok (.i2f, 1) := by decide +kernel
theorem dX9_overdueBits_25 : decode cX9_overdueBits 25 = .ok (.fdiv, 1) := by decide +kernel
theorem dX9_overdueBits_26 : decode cX9_overdueBits 26 = .ok (.invokestatic 138, 3) := by decide +kernel
theorem dX9_overdueBits_29 : decode cX9_overdueBits 29 = .ok (.ireturn, 1) := by decide +kernel
theorem dX9_undo_0 : decode cX9_undo 0 = .ok (.aload_n 0, 1) := by decide +kernel
theorem dX9_undo_1 : decode cX9_undo 1 = .ok (.getfield 19, 3) := by decide +kernel
theorem dX9_undo_4 : decode cX9_undo 4 = .ok (.aload_n 0, 1) := by decide +kernel
theorem dX9_undo_5 : decode cX9_undo 5 = .ok (.getfield 10, 3) := by decide +kernel
theorem dX9_undo_8 : decode cX9_undo 8 = .ok (.invokevirtual 142, 3) := by decide +kernel
theorem dX9_undo_11 : decode cX9_undo 11 = .ok (.ireturn, 1) := by decide +kernel
theorem dX9_type_0 : decode cX9_type 0 = .ok (.aload_n 0, 1) := by decide +kernel
theorem dX9_type_1 : decode cX9_type 1 = .ok (.getfield 26, 3) := by decide +kernel
theorem dX9_type_4 : decode cX9_type 4 = .ok (.iload_n 1, 1) := by decide +kernel
theorem dX9_type_5 : decode cX9_type 5 = .ok (.invokevirtual 146, 3) := by decide +kernel
theorem dX9_type_8 : decode cX9_type 8 = .ok (.ireturn, 1) := by decide +kernel
theorem dX9_clearText_0 : decode cX9_clearText 0 = .ok (.aload_n 0, 1) := by decide +kernel
theorem dX9_clearText_1 : decode cX9_clearText 1 = .ok (.getfield 26, 3) := by decide +kernel
theorem dX9_clearText_4 : decode cX9_clearText 4 = .ok (.invokevirtual 149, 3) := by decide +kernel
theorem dX9_clearText_7 : decode cX9_clearText 7 = .ok (.ireturn, 1) := by decide +kernel
theorem dX9_fault_0 : decode cX9_fault 0 = .ok (.iload_n 1, 1) := by decide +kernel
theorem dX9_fault_1 : decode cX9_fault 1 = .ok (.ifCond .lt 8, 3) := by decide +kernel
theorem dX9_fault_4 : decode cX9_fault 4 = .ok (.iload_n 1, 1) := by decide +kernel
theorem dX9_fault_5 : decode cX9_fault 5 = .ok (.iconst 2, 1) := by decide +kernel
theorem dX9_fault_6 : decode cX9_fault 6 = .ok (.if_icmp .le 5, 3) := by decide +kernel
theorem dX9_fault_9 : decode cX9_fault 9 = .ok (.iconst (-1), 1) := by decide +kernel
theorem dX9_fault_10 : decode cX9_fault 10 = .ok (.ireturn, 1) := by decide +kernel
theorem dX9_fault_11 : decode cX9_fault 11 = .ok (.aload_n 0, 1) := by decide +kernel
theorem dX9_fault_12 : decode cX9_fault 12 = .ok (.getfield 33, 3) := by decide +kernel
theorem dX9_fault_15 : decode cX9_fault 15 = .ok (.aload_n 0, 1) := by decide +kernel
theorem dX9_fault_16 : decode cX9_fault 16 = .ok (.getfield 10, 3) := by decide +kernel
theorem dX9_fault_19 : decode cX9_fault 19 = .ok (.aload_n 0, 1) := by decide +kernel
theorem dX9_fault_20 : decode cX9_fault 20 = .ok (.getfield 26, 3) := by decide +kernel
theorem dX9_fault_23 : decode cX9_fault 23 = .ok (.invokevirtual 152, 3) := by decide +kernel
theorem dX9_fault_26 : decode cX9_fault 26 = .ok (.aload_n 0, 1) := by decide +kernel
theorem dX9_fault_27 : decode cX9_fault 27 = .ok (.getfield 33, 3) := by decide +kernel
theorem dX9_fault_30 : decode cX9_fault 30 = .ok (.invokevirtual 156, 3) := by decide +kernel
theorem dX9_fault_33 : decode cX9_fault 33 = .ok (.ifCond .eq 19, 3) := by decide +kernel
theorem dX9_fault_36 : decode cX9_fault 36 = .ok (.iload_n 1, 1) := by decide +kernel
theorem dX9_fault_37 : decode cX9_fault 37 = .ok (.iconst 2, 1) := by decide +kernel
theorem dX9_fault_38 : decode cX9_fault 38 = .ok (.if_icmp .ne 17, 3) := by decide +kernel
theorem dX9_fault_41 : decode cX9_fault 41 = .ok (.aload_n 0, 1) := by decide +kernel
theorem dX9_fault_42 : decode cX9_fault 42 = .ok (.getfield 33, 3) := by decide +kernel
theorem dX9_fault_45 : decode cX9_fault 45 = .ok (.getfield 160, 3) := by decide +kernel
theorem dX9_fault_48 : decode cX9_fault 48 = .ok (.iconst 1, 1) := by decide +kernel
theorem dX9_fault_49 : decode cX9_fault 49 = .ok (.if_icmp .ne 6, 3) := by decide +kernel
theorem dX9_fault_52 : decode cX9_fault 52 = .ok (.bipush (-4), 2) := by decide +kernel
theorem dX9_fault_54 : decode cX9_fault 54 = .ok (.ireturn, 1) := by decide +kernel
theorem dX9_fault_55 : decode cX9_fault 55 = .ok (.iload_n 1, 1) := by decide +kernel
theorem dX9_fault_56 : decode cX9_fault 56 = .ok (.lookupswitch 44 #[(0, 28), (1, 36)], 28) := by decide +kernel
theorem dX9_fault_84 : decode cX9_fault 84 = .ok (.aload_n 0, 1) := by decide +kernel
theorem dX9_fault_85 : decode cX9_fault 85 = .ok (.getfield 33, 3) := by decide +kernel
theorem dX9_fault_88 : decode cX9_fault 88 = .ok (.getfield 163, 3) := by decide +kernel
theorem dX9_fault_91 : decode cX9_fault 91 = .ok (.ireturn, 1) := by decide +kernel
theorem dX9_fault_92 : decode cX9_fault 92 = .ok (.aload_n 0, 1) := by decide +kernel
theorem dX9_fault_93 : decode cX9_fault 93 = .ok (.getfield 33, 3) := by decide +kernel
theorem dX9_fault_96 : decode cX9_fault 96 = .ok (.getfield 160, 3) := by decide +kernel
theorem dX9_fault_99 : decode cX9_fault 99 = .ok (.ireturn, 1) := by decide +kernel
theorem dX9_fault_100 : decode cX9_fault 100 = .ok (.aload_n 0, 1) := by decide +kernel
theorem dX9_fault_101 : decode cX9_fault 101 = .ok (.getfield 33, 3) := by decide +kernel
theorem dX9_fault_104 : decode cX9_fault 104 = .ok (.getfield 166, 3) := by decide +kernel
theorem dX9_fault_107 : decode cX9_fault 107 = .ok (.ireturn, 1) := by decide +kernel
theorem dX9_play_0 : decode cX9_play 0 = .ok (.aload_n 0, 1) := by decide +kernel
theorem dX9_play_1 : decode cX9_play 1 = .ok (.getfield 33, 3) := by decide +kernel
theorem dX9_play_4 : decode cX9_play 4 = .ok (.aload_n 0, 1) := by decide +kernel
theorem dX9_play_5 : decode cX9_play 5 = .ok (.getfield 10, 3) := by decide +kernel
theorem dX9_play_8 : decode cX9_play 8 = .ok (.aload_n 0, 1) := by decide +kernel
theorem dX9_play_9 : decode cX9_play 9 = .ok (.getfield 26, 3) := by decide +kernel
theorem dX9_play_12 : decode cX9_play 12 = .ok (.invokevirtual 152, 3) := by decide +kernel
theorem dX9_play_15 : decode cX9_play 15 = .ok (.aload_n 0, 1) := by decide +kernel
theorem dX9_play_16 : decode cX9_play 16 = .ok (.getfield 33, 3) := by decide +kernel
theorem dX9_play_19 : decode cX9_play 19 = .ok (.invokevirtual 156, 3) := by decide +kernel
theorem dX9_play_22 : decode cX9_play 22 = .ok (.ifCond .eq 6, 3) := by decide +kernel
theorem dX9_play_25 : decode cX9_play 25 = .ok (.bipush (-2), 2) := by decide +kernel
theorem dX9_play_27 : decode cX9_play 27 = .ok (.ireturn, 1) := by decide +kernel
theorem dX9_play_28 : decode cX9_play 28 = .ok (.aload_n 0, 1) := by decide +kernel
theorem dX9_play_29 : decode cX9_play 29 = .ok (.getfield 19, 3) := by decide +kernel
theorem dX9_play_32 : decode cX9_play 32 = .ok (.aload_n 0, 1) := by decide +kernel
theorem dX9_play_33 : decode cX9_play 33 = .ok (.getfield 10, 3) := by decide +kernel
theorem dX9_play_36 : decode cX9_play 36 = .ok (.invokevirtual 37, 3) := by decide +kernel
theorem dX9_play_39 : decode cX9_play 39 = .ok (.aload_n 0, 1) := by decide +kernel
theorem dX9_play_40 : decode cX9_play 40 = .ok (.getfield 10, 3) := by decide +kernel
theorem dX9_play_43 : decode cX9_play 43 = .ok (.aload_n 0, 1) := by decide +kernel
theorem dX9_play_44 : decode cX9_play 44 = .ok (.getfield 33, 3) := by decide +kernel
theorem dX9_play_47 : decode cX9_play 47 = .ok (.getfield 169, 3) := by decide +kernel
theorem dX9_play_50 : decode cX9_play 50 = .ok (.invokevirtual 172, 3) := by decide +kernel
theorem dX9_play_53 : decode cX9_play 53 = .ok (.aload_n 0, 1) := by decide +kernel
theorem dX9_play_54 : decode cX9_play 54 = .ok (.getfield 19, 3) := by decide +kernel
theorem dX9_play_57 : decode cX9_play 57 = .ok (.aload_n 0, 1) := by decide +kernel
theorem dX9_play_58 : decode cX9_play 58 = .ok (.getfield 33, 3) := by decide +kernel
theorem dX9_play_61 : decode cX9_play 61 = .ok (.getfield 175, 3) := by decide +kernel
theorem dX9_play_64 : decode cX9_play 64 = .ok (.invokevirtual 45, 3) := by decide +kernel
theorem dX9_play_67 : decode cX9_play 67 = .ok (.ireturn, 1) := by decide +kernel
theorem dX9_bitsOfDouble_0 : decode cX9_bitsOfDouble 0 = .ok (.dload_n 0, 1) := by decide +kernel
theorem dX9_bitsOfDouble_1 : decode cX9_bitsOfDouble 1 = .ok (.dconst 0, 1) := by decide +kernel
theorem dX9_bitsOfDouble_2 : decode cX9_bitsOfDouble 2 = .ok (.dcmp .l, 1) := by decide +kernel
theorem dX9_bitsOfDouble_3 : decode cX9_bitsOfDouble 3 = .ok (.ifCond .gt 5, 3) := by decide +kernel
theorem dX9_bitsOfDouble_6 : decode cX9_bitsOfDouble 6 = .ok (.lconst 0, 1) := by decide +kernel
theorem dX9_bitsOfDouble_7 : decode cX9_bitsOfDouble 7 = .ok (.lreturn, 1) := by decide +kernel
theorem dX9_bitsOfDouble_8 : decode cX9_bitsOfDouble 8 = .ok (.dload_n 0, 1) := by decide +kernel
theorem dX9_bitsOfDouble_9 : decode cX9_bitsOfDouble 9 = .ok (.dstore_n 2, 1) := by decide +kernel
theorem dX9_bitsOfDouble_10 : decode cX9_bitsOfDouble 10 = .ok (.sipush 1023, 3) := by decide +kernel
theorem dX9_bitsOfDouble_13 : decode cX9_bitsOfDouble 13 = .ok (.istore 4, 2) := by decide +kernel
theorem dX9_bitsOfDouble_15 : decode cX9_bitsOfDouble 15 = .ok (.iconst 0, 1) := by decide +kernel
theorem dX9_bitsOfDouble_16 : decode cX9_bitsOfDouble 16 = .ok (.istore 5, 2) := by decide +kernel
theorem dX9_bitsOfDouble_18 : decode cX9_bitsOfDouble 18 = .ok (.iload 5, 2) := by decide +kernel
theorem dX9_bitsOfDouble_20 : decode cX9_bitsOfDouble 20 = .ok (.sipush 1023, 3) := by decide +kernel
theorem dX9_bitsOfDouble_23 : decode cX9_bitsOfDouble 23 = .ok (.if_icmp .ge 24, 3) := by decide +kernel
theorem dX9_bitsOfDouble_26 : decode cX9_bitsOfDouble 26 = .ok (.dload_n 2, 1) := by decide +kernel
theorem dX9_bitsOfDouble_27 : decode cX9_bitsOfDouble 27 = .ok (.dconst 1, 1) := by decide +kernel
theorem dX9_bitsOfDouble_28 : decode cX9_bitsOfDouble 28 = .ok (.dcmp .g, 1) := by decide +kernel
theorem dX9_bitsOfDouble_29 : decode cX9_bitsOfDouble 29 = .ok (.ifCond .ge 18, 3) := by decide +kernel
theorem dX9_bitsOfDouble_32 : decode cX9_bitsOfDouble 32 = .ok (.dload_n 2, 1) := by decide +kernel
theorem dX9_bitsOfDouble_33 : decode cX9_bitsOfDouble 33 = .ok (.ldc2_w 178, 3) := by decide +kernel
theorem dX9_bitsOfDouble_36 : decode cX9_bitsOfDouble 36 = .ok (.dmul, 1) := by decide +kernel
theorem dX9_bitsOfDouble_37 : decode cX9_bitsOfDouble 37 = .ok (.dstore_n 2, 1) := by decide +kernel
theorem dX9_bitsOfDouble_38 : decode cX9_bitsOfDouble 38 = .ok (.iinc 4 (-1), 3) := by decide +kernel
theorem dX9_bitsOfDouble_41 : decode cX9_bitsOfDouble 41 = .ok (.iinc 5 1, 3) := by decide +kernel
theorem dX9_bitsOfDouble_44 : decode cX9_bitsOfDouble 44 = .ok (.goto (-26), 3) := by decide +kernel
theorem dX9_bitsOfDouble_47 : decode cX9_bitsOfDouble 47 = .ok (.iconst 0, 1) := by decide +kernel
theorem dX9_bitsOfDouble_48 : decode cX9_bitsOfDouble 48 = .ok (.istore 5, 2) := by decide +kernel
theorem dX9_bitsOfDouble_50 : decode cX9_bitsOfDouble 50 = .ok (.iload 5, 2) := by decide +kernel
theorem dX9_bitsOfDouble_52 : decode cX9_bitsOfDouble 52 = .ok (.sipush 1023, 3) := by decide +kernel
theorem dX9_bitsOfDouble_55 : decode cX9_bitsOfDouble 55 = .ok (.if_icmp .ge 26, 3) := by decide +kernel
theorem dX9_bitsOfDouble_58 : decode cX9_bitsOfDouble 58 = .ok (.dload_n 2, 1) := by decide +kernel
theorem dX9_bitsOfDouble_59 : decode cX9_bitsOfDouble 59 = .ok (.ldc2_w 178, 3) := by decide +kernel
theorem dX9_bitsOfDouble_62 : decode cX9_bitsOfDouble 62 = .ok (.dcmp .l, 1) := by decide +kernel
theorem dX9_bitsOfDouble_63 : decode cX9_bitsOfDouble 63 = .ok (.ifCond .lt 18, 3) := by decide +kernel
theorem dX9_bitsOfDouble_66 : decode cX9_bitsOfDouble 66 = .ok (.dload_n 2, 1) := by decide +kernel
theorem dX9_bitsOfDouble_67 : decode cX9_bitsOfDouble 67 = .ok (.ldc2_w 178, 3) := by decide +kernel
theorem dX9_bitsOfDouble_70 : decode cX9_bitsOfDouble 70 = .ok (.ddiv, 1) := by decide +kernel
theorem dX9_bitsOfDouble_71 : decode cX9_bitsOfDouble 71 = .ok (.dstore_n 2, 1) := by decide +kernel
theorem dX9_bitsOfDouble_72 : decode cX9_bitsOfDouble 72 = .ok (.iinc 4 1, 3) := by decide +kernel
theorem dX9_bitsOfDouble_75 : decode cX9_bitsOfDouble 75 = .ok (.iinc 5 1, 3) := by decide +kernel
theorem dX9_bitsOfDouble_78 : decode cX9_bitsOfDouble 78 = .ok (.goto (-28), 3) := by decide +kernel
theorem dX9_bitsOfDouble_81 : decode cX9_bitsOfDouble 81 = .ok (.iload 4, 2) := by decide +kernel
theorem dX9_bitsOfDouble_83 : decode cX9_bitsOfDouble 83 = .ok (.i2l, 1) := by decide +kernel
theorem dX9_bitsOfDouble_84 : decode cX9_bitsOfDouble 84 = .ok (.bipush 52, 2) := by decide +kernel
theorem dX9_bitsOfDouble_86 : decode cX9_bitsOfDouble 86 = .ok (.lshl, 1) := by decide +kernel
theorem dX9_bitsOfDouble_87 : decode cX9_bitsOfDouble 87 = .ok (.dload_n 2, 1) := by decide +kernel
theorem dX9_bitsOfDouble_88 : decode cX9_bitsOfDouble 88 = .ok (.dconst 1, 1) := by decide +kernel
theorem dX9_bitsOfDouble_89 : decode cX9_bitsOfDouble 89 = .ok (.dsub, 1) := by decide +kernel
theorem dX9_bitsOfDouble_90 : decode cX9_bitsOfDouble 90 = .ok (.ldc2_w 180, 3) := by decide +kernel
theorem dX9_bitsOfDouble_93 : decode cX9_bitsOfDouble 93 = .ok (.dmul, 1) := by decide +kernel
theorem dX9_bitsOfDouble_94 : decode cX9_bitsOfDouble 94 = .ok (.d2l, 1) := by decide +kernel
theorem dX9_bitsOfDouble_95 : decode cX9_bitsOfDouble 95 = .ok (.lor, 1) := by decide +kernel
theorem dX9_bitsOfDouble_96 : decode cX9_bitsOfDouble 96 = .ok (.lreturn, 1) := by decide +kernel
theorem dX9_bitsOfFloat_0 : decode cX9_bitsOfFloat 0 = .ok (.fload_n 0, 1) := by decide +kernel
theorem dX9_bitsOfFloat_1 : decode cX9_bitsOfFloat 1 = .ok (.fconst 0, 1) := by decide +kernel
theorem dX9_bitsOfFloat_2 : decode cX9_bitsOfFloat 2 = .ok (.fcmp .l, 1) := by decide +kernel
theorem dX9_bitsOfFloat_3 : decode cX9_bitsOfFloat 3 = .ok (.ifCond .gt 5, 3) := by decide +kernel
theorem dX9_bitsOfFloat_6 : decode cX9_bitsOfFloat 6 = .ok (.iconst 0, 1) := by decide +kernel
theorem dX9_bitsOfFloat_7 : decode cX9_bitsOfFloat 7 = .ok (.ireturn, 1) := by decide +kernel
theorem dX9_bitsOfFloat_8 : decode cX9_bitsOfFloat 8 = .ok (.fload_n 0, 1) := by decide +kernel
theorem dX9_bitsOfFloat_9 : decode cX9_bitsOfFloat 9 = .ok (.fstore_n 1, 1) := by decide +kernel
theorem dX9_bitsOfFloat_10 : decode cX9_bitsOfFloat 10 = .ok (.bipush 127, 2) := by decide +kernel
theorem dX9_bitsOfFloat_12 : decode cX9_bitsOfFloat 12 = .ok (.istore_n 2, 1) := by decide +kernel
theorem dX9_bitsOfFloat_13 : decode cX9_bitsOfFloat 13 = .ok (.iconst 0, 1) := by decide +kernel
theorem dX9_bitsOfFloat_14 : decode cX9_bitsOfFloat 14 = .ok (.istore_n 3, 1) := by decide +kernel
theorem dX9_bitsOfFloat_15 : decode cX9_bitsOfFloat 15 = .ok (.iload_n 3, 1) := by decide +kernel
theorem dX9_bitsOfFloat_16 : decode cX9_bitsOfFloat 16 = .ok (.bipush 127, 2) := by decide +kernel
theorem dX9_bitsOfFloat_18 : decode cX9_bitsOfFloat 18 = .ok (.if_icmp .ge 22, 3) := by decide +kernel
theorem dX9_bitsOfFloat_21 : decode cX9_bitsOfFloat 21 = .ok (.fload_n 1, 1) := by decide +kernel
theorem dX9_bitsOfFloat_22 : decode cX9_bitsOfFloat 22 = .ok (.fconst 1, 1) := by decide +kernel
theorem dX9_bitsOfFloat_23 : decode cX9_bitsOfFloat 23 = .ok (.fcmp .g, 1) := by decide +kernel
theorem dX9_bitsOfFloat_24 : decode cX9_bitsOfFloat 24 = .ok (.ifCond .ge 16, 3) := by decide +kernel
theorem dX9_bitsOfFloat_27 : decode cX9_bitsOfFloat 27 = .ok (.fload_n 1, 1) := by decide +kernel
theorem dX9_bitsOfFloat_28 : decode cX9_bitsOfFloat 28 = .ok (.fconst 2, 1) := by decide +kernel
theorem dX9_bitsOfFloat_29 : decode cX9_bitsOfFloat 29 = .ok (.fmul, 1) := by decide +kernel
theorem dX9_bitsOfFloat_30 : decode cX9_bitsOfFloat 30 = .ok (.fstore_n 1, 1) := by decide +kernel
theorem dX9_bitsOfFloat_31 : decode cX9_bitsOfFloat 31 = .ok (.iinc 2 (-1), 3) := by decide +kernel
theorem dX9_bitsOfFloat_34 : decode cX9_bitsOfFloat 34 = .ok (.iinc 3 1, 3) := by decide +kernel
theorem dX9_bitsOfFloat_37 : decode cX9_bitsOfFloat 37 = .ok (.goto (-22), 3) := by decide +kernel
theorem dX9_bitsOfFloat_40 : decode cX9_bitsOfFloat 40 = .ok (.iconst 0, 1) := by decide +kernel
theorem dX9_bitsOfFloat_41 : decode cX9_bitsOfFloat 41 = .ok (.istore_n 3, 1) := by decide +kernel
theorem dX9_bitsOfFloat_42 : decode cX9_bitsOfFloat 42 = .ok (.iload_n 3, 1) := by decide +kernel
theorem dX9_bitsOfFloat_43 : decode cX9_bitsOfFloat 43 = .ok (.bipush 127, 2) := by decide +kernel
theorem dX9_bitsOfFloat_45 : decode cX9_bitsOfFloat 45 = .ok (.if_icmp .ge 22, 3) := by decide +kernel
theorem dX9_bitsOfFloat_48 : decode cX9_bitsOfFloat 48 = .ok (.fload_n 1, 1) := by decide +kernel
theorem dX9_bitsOfFloat_49 : decode cX9_bitsOfFloat 49 = .ok (.fconst 2, 1) := by decide +kernel
theorem dX9_bitsOfFloat_50 : decode cX9_bitsOfFloat 50 = .ok (.fcmp .l, 1) := by decide +kernel
theorem dX9_bitsOfFloat_51 : decode cX9_bitsOfFloat 51 = .ok (.ifCond .lt 16, 3) := by decide +kernel
theorem dX9_bitsOfFloat_54 : decode cX9_bitsOfFloat 54 = .ok (.fload_n 1, 1) := by decide +kernel
theorem dX9_bitsOfFloat_55 : decode cX9_bitsOfFloat 55 = .ok (.fconst 2, 1) := by decide +kernel
theorem dX9_bitsOfFloat_56 : decode cX9_bitsOfFloat 56 = .ok (.fdiv, 1) := by decide +kernel
theorem dX9_bitsOfFloat_57 : decode cX9_bitsOfFloat 57 = .ok (.fstore_n 1, 1) := by decide +kernel
theorem dX9_bitsOfFloat_58 : decode cX9_bitsOfFloat 58 = .ok (.iinc 2 1, 3) := by decide +kernel
theorem dX9_bitsOfFloat_61 : decode cX9_bitsOfFloat 61 = .ok (.iinc 3 1, 3) := by decide +kernel
theorem dX9_bitsOfFloat_64 : decode cX9_bitsOfFloat 64 = .ok (.goto (-22), 3) := by decide +kernel
theorem dX9_bitsOfFloat_67 : decode cX9_bitsOfFloat 67 = .ok (.iload_n 2, 1) := by decide +kernel
theorem dX9_bitsOfFloat_68 : decode cX9_bitsOfFloat 68 = .ok (.bipush 23, 2) := by decide +kernel
theorem dX9_bitsOfFloat_70 : decode cX9_bitsOfFloat 70 = .ok (.ishl, 1) := by decide +kernel
theorem dX9_bitsOfFloat_71 : decode cX9_bitsOfFloat 71 = .ok (.fload_n 1, 1) := by decide +kernel
theorem dX9_bitsOfFloat_72 : decode cX9_bitsOfFloat 72 = .ok (.fconst 1, 1) := by decide +kernel
theorem dX9_bitsOfFloat_73 : decode cX9_bitsOfFloat 73 = .ok (.fsub, 1) := by decide +kernel
theorem dX9_bitsOfFloat_74 : decode cX9_bitsOfFloat 74 = .ok (.ldc 182, 2) := by decide +kernel
theorem dX9_bitsOfFloat_76 : decode cX9_bitsOfFloat 76 = .ok (.fmul, 1) := by decide +kernel
theorem dX9_bitsOfFloat_77 : decode cX9_bitsOfFloat 77 = .ok (.f2i, 1) := by decide +kernel
theorem dX9_bitsOfFloat_78 : decode cX9_bitsOfFloat 78 = .ok (.ior, 1) := by decide +kernel
theorem dX9_bitsOfFloat_79 : decode cX9_bitsOfFloat 79 = .ok (.ireturn, 1) := by decide +kernel
theorem dX10_init_0 : decode cX10_init 0 = .ok (.aload_n 0, 1) := by decide +kernel
theorem dX10_init_1 : decode cX10_init 1 = .ok (.invokespecial 1, 3) := by decide +kernel
theorem dX10_init_4 : decode cX10_init 4 = .ok (.aload_n 0, 1) := by decide +kernel
theorem dX10_init_5 : decode cX10_init 5 = .ok (.sipush 193, 3) := by decide +kernel
theorem dX10_init_8 : decode cX10_init 8 = .ok (.newarray .int, 2) := by decide +kernel
theorem dX10_init_10 : decode cX10_init 10 = .ok (.putfield 7, 3) := by decide +kernel
theorem dX10_init_13 : decode cX10_init 13 = .ok (.aload_n 0, 1) := by decide +kernel
theorem dX10_init_14 : decode cX10_init 14 = .ok (.sipush 193, 3) := by decide +kernel
theorem dX10_init_17 : decode cX10_init 17 = .ok (.newarray .int, 2) := by decide +kernel
theorem dX10_init_19 : decode cX10_init 19 = .ok (.putfield 13, 3) := by decide +kernel
theorem dX10_init_22 : decode cX10_init 22 = .ok (.aload_n 0, 1) := by decide +kernel
theorem dX10_init_23 : decode cX10_init 23 = .ok (.sipush 193, 3) := by decide +kernel
theorem dX10_init_26 : decode cX10_init 26 = .ok (.newarray .int, 2) := by decide +kernel
theorem dX10_init_28 : decode cX10_init 28 = .ok (.putfield 16, 3) := by decide +kernel
theorem dX10_init_31 : decode cX10_init 31 = .ok (.aload_n 0, 1) := by decide +kernel
theorem dX10_init_32 : decode cX10_init 32 = .ok (.sipush 772, 3) := by decide +kernel
theorem dX10_init_35 : decode cX10_init 35 = .ok (.newarray .int, 2) := by decide +kernel
theorem dX10_init_37 : decode cX10_init 37 = .ok (.putfield 19, 3) := by decide +kernel
theorem dX10_init_40 : decode cX10_init 40 = .ok (.aload_n 0, 1) := by decide +kernel
theorem dX10_init_41 : decode cX10_init 41 = .ok (.bipush 80, 2) := by decide +kernel
theorem dX10_init_43 : decode cX10_init 43 = .ok (.newarray .int, 2) := by decide +kernel
theorem dX10_init_45 : decode cX10_init 45 = .ok (.putfield 22, 3) := by decide +kernel
theorem dX10_init_48 : decode cX10_init 48 = .ok (.aload_n 0, 1) := by decide +kernel
theorem dX10_init_49 : decode cX10_init 49 = .ok (.iconst 2, 1) := by decide +kernel
theorem dX10_init_50 : decode cX10_init 50 = .ok (.newarray .int, 2) := by decide +kernel
theorem dX10_init_52 : decode cX10_init 52 = .ok (.putfield 25, 3) := by decide +kernel
theorem dX10_init_55 : decode cX10_init 55 = .ok (.aload_n 0, 1) := by decide +kernel
theorem dX10_init_56 : decode cX10_init 56 = .ok (.getfield 7, 3) := by decide +kernel
theorem dX10_init_59 : decode cX10_init 59 = .ok (.iconst 0, 1) := by decide +kernel
theorem dX10_init_60 : decode cX10_init 60 = .ok (.bipush 10, 2) := by decide +kernel
theorem dX10_init_62 : decode cX10_init 62 = .ok (.iastore, 1) := by decide +kernel
theorem dX10_init_63 : decode cX10_init 63 = .ok (.aload_n 0, 1) := by decide +kernel
theorem dX10_init_64 : decode cX10_init 64 = .ok (.getfield 7, 3) := by decide +kernel
theorem dX10_init_67 : decode cX10_init 67 = .ok (.iconst 1, 1) := by decide +kernel
theorem dX10_init_68 : decode cX10_init 68 = .ok (.iconst 2, 1) := by decide +kernel
theorem dX10_init_69 : decode cX10_init 69 = .ok (.iastore, 1) := by decide +kernel
theorem dX10_init_70 : decode cX10_init 70 = .ok (.aload_n 0, 1) := by decide +kernel
theorem dX10_init_71 : decode cX10_init 71 = .ok (.getfield 7, 3) := by decide +kernel
theorem dX10_init_74 : decode cX10_init 74 = .ok (.iconst 2, 1) := by decide +kernel
theorem dX10_init_75 : decode cX10_init 75 = .ok (.bipush 15, 2) := by decide +kernel
theorem dX10_init_77 : decode cX10_init 77 = .ok (.iastore, 1) := by decide +kernel
theorem dX10_init_78 : decode cX10_init 78 = .ok (.return_, 1) := by decide +kernel
theorem dX10_in_0 : decode cX10_in 0 = .ok (.iload_n 0, 1) := by decide +kernel
theorem dX10_in_1 : decode cX10_in 1 = .ok (.iload_n 1, 1) := by decide +kernel
theorem dX10_in_2 : decode cX10_in 2 = .ok (.if_icmp .lt 12, 3) := by decide +kernel
theorem dX10_in_5 : decode cX10_in 5 = .ok (.iload_n 0, 1) := by decide +kernel
theorem dX10_in_6 : decode cX10_in 6 = .ok (.iload_n 2, 1) := by decide +kernel
theorem dX10_in_7 : decode cX10_in 7 = .ok (.if_icmp .gt 7, 3) := by decide +kernel
theorem dX10_in_10 : decode cX10_in 10 = .ok (.iconst 1, 1) := by decide +kernel
theorem dX10_in_11 : decode cX10_in 11 = .ok (.goto 4, 3) := by decide +kernel
theorem dX10_in_14 : decode cX10_in 14 = .ok (.iconst 0, 1) := by decide +kernel
theorem dX10_in_15 : decode cX10_in 15 = .ok (.ireturn, 1) := by decide +kernel
theorem dX10_isLocker_0 : decode cX10_isLocker 0 = .ok (.iload_n 1, 1) := by decide +kernel
theorem dX10_isLocker_1 : decode cX10_isLocker 1 = .ok (.iconst 0, 1) := by decide +kernel
theorem dX10_isLocker_2 : decode cX10_isLocker 2 = .ok (.aload_n 0, 1) := by decide +kernel
theorem dX10_isLocker_3 : decode cX10_isLocker 3 = .ok (.getfield 7, 3) := by decide +kernel
theorem dX10_isLocker_6 : decode cX10_isLocker 6 = .ok (.iconst 4, 1) := by decide +kernel
theorem dX10_isLocker_7 : decode cX10_isLocker 7 = .ok (.iaload, 1) := by decide +kernel
theorem dX10_isLocker_8 : decode cX10_isLocker 8 = .ok (.iconst 1, 1) := by decide +kernel
theorem dX10_isLocker_9 : decode cX10_isLocker 9 = .ok (.isub, 1) := by decide +kernel
theorem dX10_isLocker_10 : decode cX10_isLocker 10 = .ok (.invokestatic 28, 3) := by decide +kernel
theorem dX10_isLocker_13 : decode cX10_isLocker 13 = .ok (.ireturn, 1) := by decide +kernel
theorem dX10_isPerson_0 : decode cX10_isPerson 0 = .ok (.iload_n 1, 1) := by decide +kernel
theorem dX10_isPerson_1 : decode cX10_isPerson 1 = .ok (.iconst 0, 1) := by decide +kernel
theorem dX10_isPerson_2 : decode cX10_isPerson 2 = .ok (.aload_n 0, 1) := by decide +kernel
theorem dX10_isPerson_3 : decode cX10_isPerson 3 = .ok (.getfield 7, 3) := by decide +kernel
theorem dX10_isPerson_6 : decode cX10_isPerson 6 = .ok (.iconst 5, 1) := by decide +kernel
theorem dX10_isPerson_7 : decode cX10_isPerson 7 = .ok (.iaload, 1) := by decide +kernel
theorem dX10_isPerson_8 : decode cX10_isPerson 8 = .ok (.iconst 1, 1) := by decide +kernel
theorem dX10_isPerson_9 : decode cX10_isPerson 9 = .ok (.isub, 1) := by decide +kernel
theorem dX10_isPerson_10 : decode cX10_isPerson 10 = .ok (.invokestatic 28, 3) := by decide +kernel
theorem dX10_isPerson_13 : decode cX10_isPerson 13 = .ok (.ireturn, 1) := by decide +kernel
theorem dX10_of_0 : decode cX10_of 0 = .ok (.aload_n 0, 1) := by decide +kernel
theorem dX10_of_1 : decode cX10_of 1 = .ok (.getfield 7, 3) := by decide +kernel
theorem dX10_of_4 : decode cX10_of 4 = .ok (.bipush 11, 2) := by decide +kernel
theorem dX10_of_6 : decode cX10_of 6 = .ok (.bipush 6, 2) := by decide +kernel
theorem dX10_of_8 : decode cX10_of 8 = .ok (.iload_n 1, 1) := by decide +kernel
theorem dX10_of_9 : decode cX10_of 9 = .ok (.imul, 1) := by decide +kernel
theorem dX10_of_10 : decode cX10_of 10 = .ok (.iadd, 1) := by decide +kernel
theorem dX10_of_11 : decode cX10_of 11 = .ok (.iload_n 2, 1) := by decide +kernel
theorem dX10_of_12 : decode cX10_of 12 = .ok (.iadd, 1) := by decide +kernel
theorem dX10_of_13 : decode cX10_of 13 = .ok (.iaload, 1) := by decide +kernel
theorem dX10_of_14 : decode cX10_of 14 = .ok (.ireturn, 1) := by decide +kernel
theorem dX10_lay_0 : decode cX10_lay 0 = .ok (.aload_n 0, 1) := by decide +kernel
theorem dX10_lay_1 : decode cX10_lay 1 = .ok (.getfield 7, 3) := by decide +kernel
theorem dX10_lay_4 : decode cX10_lay 4 = .ok (.bipush 11, 2) := by decide +kernel
theorem dX10_lay_6 : decode cX10_lay 6 = .ok (.bipush 6, 2) := by decide +kernel
theorem dX10_lay_8 : decode cX10_lay 8 = .ok (.iload_n 1, 1) := by decide +kernel
theorem dX10_lay_9 : decode cX10_lay 9 = .ok (.imul, 1) := by decide +kernel
theorem dX10_lay_10 : decode cX10_lay 10 = .ok (.iadd, 1) := by decide +kernel
theorem dX10_lay_11 : decode cX10_lay 11 = .ok (.iload_n 2, 1) := by decide +kernel
theorem dX10_lay_12 : decode cX10_lay 12 = .ok (.iadd, 1) := by decide +kernel
theorem dX10_lay_13 : decode cX10_lay 13 = .ok (.iload_n 3, 1) := by decide +kernel
theorem dX10_lay_14 : decode cX10_lay 14 = .ok (.iastore, 1) := by decide +kernel
theorem dX10_lay_15 : decode cX10_lay 15 = .ok (.return_, 1) := by decide +kernel
theorem dX10_ofP_0 : decode cX10_ofP 0 = .ok (.aload_n 0, 1) := by decide +kernel
theorem dX10_ofP_1 : decode cX10_ofP 1 = .ok (.getfield 7, 3) := by decide +kernel
theorem dX10_ofP_4 : decode cX10_ofP 4 = .ok (.bipush 83, 2) := by decide +kernel
theorem dX10_ofP_6 : decode cX10_ofP 6 = .ok (.bipush 8, 2) := by decide +kernel
theorem dX10_ofP_8 : decode cX10_ofP 8 = .ok (.iload_n 1, 1) := by decide +kernel
theorem dX10_ofP_9 : decode cX10_ofP 9 = .ok (.imul, 1) := by decide +kernel
theorem dX10_ofP_10 : decode cX10_ofP 10 = .ok (.iadd, 1) := by decide +kernel
theorem dX10_ofP_11 : decode cX10_ofP 11 = .ok (.iload_n 2, 1) := by decide +kernel
theorem dX10_ofP_12 : decode cX10_ofP 12 = .ok (.iadd, 1) := by decide +kernel
theorem dX10_ofP_13 : decode cX10_ofP 13 = .ok (.iaload, 1) := by decide +kernel
theorem dX10_ofP_14 : decode cX10_ofP 14 = .ok (.ireturn, 1) := by decide +kernel
theorem dX10_layP_0 : decode cX10_layP 0 = .ok (.aload_n 0, 1) := by decide +kernel
theorem dX10_layP_1 : decode cX10_layP 1 = .ok (.getfield 7, 3) := by decide +kernel
theorem dX10_layP_4 : decode cX10_layP 4 = .ok (.bipush 83, 2) := by decide +kernel
theorem dX10_layP_6 : decode cX10_layP 6 = .ok (.bipush 8, 2) := by decide +kernel
theorem dX10_layP_8 : decode cX10_layP 8 = .ok (.iload_n 1, 1) := by decide +kernel
theorem dX10_layP_9 : decode cX10_layP 9 = .ok (.imul, 1) := by decide +kernel
theorem dX10_layP_10 : decode cX10_layP 10 = .ok (.iadd, 1) := by decide +kernel
theorem dX10_layP_11 : decode cX10_layP 11 = .ok (.iload_n 2, 1) := by decide +kernel
theorem dX10_layP_12 : decode cX10_layP 12 = .ok (.iadd, 1) := by decide +kernel
theorem dX10_layP_13 : decode cX10_layP 13 = .ok (.iload_n 3, 1) := by decide +kernel
theorem dX10_layP_14 : decode cX10_layP 14 = .ok (.iastore, 1) := by decide +kernel
theorem dX10_layP_15 : decode cX10_layP 15 = .ok (.return_, 1) := by decide +kernel
theorem dX10_begins_0 : decode cX10_begins 0 = .ok (.iconst 0, 1) := by decide +kernel
theorem dX10_begins_1 : decode cX10_begins 1 = .ok (.istore_n 1, 1) := by decide +kernel
theorem dX10_begins_2 : decode cX10_begins 2 = .ok (.iload_n 1, 1) := by decide +kernel
theorem dX10_begins_3 : decode cX10_begins 3 = .ok (.sipush 193, 3) := by decide +kernel
theorem dX10_begins_6 : decode cX10_begins 6 = .ok (.if_icmp .ge 21, 3) := by decide +kernel
theorem dX10_begins_9 : decode cX10_begins 9 = .ok (.aload_n 0, 1) := by decide +kernel
theorem dX10_begins_10 : decode cX10_begins 10 = .ok (.getfield 13, 3) := by decide +kernel
theorem dX10_begins_13 : decode cX10_begins 13 = .ok (.iload_n 1, 1) := by decide +kernel
theorem dX10_begins_14 : decode cX10_begins 14 = .ok (.aload_n 0, 1) := by decide +kernel
theorem dX10_begins_15 : decode cX10_begins 15 = .ok (.getfield 7, 3) := by decide +kernel
theorem dX10_begins_18 : decode cX10_begins 18 = .ok (.iload_n 1, 1) := by decide +kernel
theorem dX10_begins_19 : decode cX10_begins 19 = .ok (.iaload, 1) := by decide +kernel
theorem dX10_begins_20 : decode cX10_begins 20 = .ok (.iastore, 1) := by decide +kernel
theorem dX10_begins_21 : decode cX10_begins 21 = .ok (.iinc 1 1, 3) := by decide +kernel
theorem dX10_begins_24 : decode cX10_begins 24 = .ok (.goto (-22), 3) := by decide +kernel
theorem dX10_begins_27 : decode cX10_begins 27 = .ok (.return_, 1) := by decide +kernel
theorem dX10_acted_0 : decode cX10_acted 0 = .ok (.iload_n 1, 1) := by decide +kernel
theorem dX10_acted_1 : decode cX10_acted 1 = .ok (.ifCond .ge 5, 3) := by decide +kernel
theorem dX10_acted_4 : decode cX10_acted 4 = .ok (.iload_n 1, 1) := by decide +kernel
theorem dX10_acted_5 : decode cX10_acted 5 = .ok (.ireturn, 1) := by decide +kernel
theorem dX10_acted_6 : decode cX10_acted 6 = .ok (.aload_n 0, 1) := by decide +kernel
theorem dX10_acted_7 : decode cX10_acted 7 = .ok (.getfield 32, 3) := by decide +kernel
theorem dX10_acted_10 : decode cX10_acted 10 = .ok (.iconst 4, 1) := by decide +kernel
theorem dX10_acted_11 : decode cX10_acted 11 = .ok (.if_icmp .ne 44, 3) := by decide +kernel
theorem dX10_acted_14 : decode cX10_acted 14 = .ok (.iconst 0, 1) := by decide +kernel
theorem dX10_acted_15 : decode cX10_acted 15 = .ok (.istore_n 2, 1) := by decide +kernel
theorem dX10_acted_16 : decode cX10_acted 16 = .ok (.iload_n 2, 1) := by decide +kernel
theorem dX10_acted_17 : decode cX10_acted 17 = .ok (.sipush 579, 3) := by decide +kernel
theorem dX10_acted_20 : decode cX10_acted 20 = .ok (.if_icmp .ge 25, 3) := by decide +kernel
theorem dX10_acted_23 : decode cX10_acted 23 = .ok (.aload_n 0, 1) := by decide +kernel
theorem dX10_acted_24 : decode cX10_acted 24 = .ok (.getfield 19, 3) := by decide +kernel
theorem dX10_acted_27 : decode cX10_acted 27 = .ok (.iload_n 2, 1) := by decide +kernel
theorem dX10_acted_28 : decode cX10_acted 28 = .ok (.aload_n 0, 1) := by decide +kernel
theorem dX10_acted_29 : decode cX10_acted 29 = .ok (.getfield 19, 3) := by decide +kernel
theorem dX10_acted_32 : decode cX10_acted 32 = .ok (.iload_n 2, 1) := by decide +kernel
theorem dX10_acted_33 : decode cX10_acted 33 = .ok (.sipush 193, 3) := by decide +kernel
theorem dX10_acted_36 : decode cX10_acted 36 = .ok (.iadd, 1) := by decide +kernel
theorem dX10_acted_37 : decode cX10_acted 37 = .ok (.iaload, 1) := by decide +kernel
theorem dX10_acted_38 : decode cX10_acted 38 = .ok (.iastore, 1) := by decide +kernel
theorem dX10_acted_39 : decode cX10_acted 39 = .ok (.iinc 2 1, 3) := by decide +kernel
theorem dX10_acted_42 : decode cX10_acted 42 = .ok (.goto (-26), 3) := by decide +kernel
theorem dX10_acted_45 : decode cX10_acted 45 = .ok (.aload_n 0, 1) := by decide +kernel
theorem dX10_acted_46 : decode cX10_acted 46 = .ok (.dup, 1) := by decide +kernel
theorem dX10_acted_47 : decode cX10_acted 47 = .ok (.getfield 32, 3) := by decide +kernel
theorem dX10_acted_50 : decode cX10_acted 50 = .ok (.iconst 1, 1) := by decide +kernel
theorem dX10_acted_51 : decode cX10_acted 51 = .ok (.isub, 1) := by decide +kernel
theorem dX10_acted_52 : decode cX10_acted 52 = .ok (.putfield 32, 3) := by decide +kernel
theorem dX10_acted_55 : decode cX10_acted 55 = .ok (.iconst 0, 1) := by decide +kernel
theorem dX10_acted_56 : decode cX10_acted 56 = .ok (.istore_n 2, 1) := by decide +kernel
theorem dX10_acted_57 : decode cX10_acted 57 = .ok (.iload_n 2, 1) := by decide +kernel
theorem dX10_acted_58 : decode cX10_acted 58 = .ok (.sipush 193, 3) := by decide +kernel
theorem dX10_acted_61 : decode cX10_acted 61 = .ok (.if_icmp .ge 30, 3) := by decide +kernel
theorem dX10_acted_64 : decode cX10_acted 64 = .ok (.aload_n 0, 1) := by decide +kernel
theorem dX10_acted_65 : decode cX10_acted 65 = .ok (.getfield 19, 3) := by decide +kernel
theorem dX10_acted_68 : decode cX10_acted 68 = .ok (.sipush 193, 3) := by decide +kernel
theorem dX10_acted_71 : decode cX10_acted 71 = .ok (.aload_n 0, 1) := by decide +kernel
theorem dX10_acted_72 : decode cX10_acted 72 = .ok (.getfield 32, 3) := by decide +kernel
theorem dX10_acted_75 : decode cX10_acted 75 = .ok (.imul, 1) := by decide +kernel
theorem dX10_acted_76 : decode cX10_acted 76 = .ok (.iload_n 2, 1) := by decide +kernel
theorem dX10_acted_77 : decode cX10_acted 77 = .ok (.iadd, 1) := by decide +kernel
theorem dX10_acted_78 : decode cX10_acted 78 = .ok (.aload_n 0, 1) := by decide +kernel
theorem dX10_acted_79 : decode cX10_acted 79 = .ok (.getfield 13, 3) := by decide +kernel
theorem dX10_acted_82 : decode cX10_acted 82 = .ok (.iload_n 2, 1) := by decide +kernel
theorem dX10_acted_83 : decode cX10_acted 83 = .ok (.iaload, 1) := by decide +kernel
theorem dX10_acted_84 : decode cX10_acted 84 = .ok (.iastore, 1) := by decide +kernel
theorem dX10_acted_85 : decode cX10_acted 85 = .ok (.iinc 2 1, 3) := by decide +kernel
theorem dX10_acted_88 : decode cX10_acted 88 = .ok (.goto (-31), 3) := by decide +kernel
theorem dX10_acted_91 : decode cX10_acted 91 = .ok (.aload_n 0, 1) := by decide +kernel
theorem dX10_acted_92 : decode cX10_acted 92 = .ok (.dup, 1) := by decide +kernel
theorem dX10_acted_93 : decode cX10_acted 93 = .ok (.getfield 32, 3) := by decide +kernel
theorem dX10_acted_96 : decode cX10_acted 96 = .ok (.iconst 1, 1) := by decide +kernel
theorem dX10_acted_97 : decode cX10_acted 97 = .ok (.iadd, 1) := by decide +kernel
theorem dX10_acted_98 : decode cX10_acted 98 = .ok (.putfield 32, 3) := by decide +kernel
theorem dX10_acted_101 : decode cX10_acted 101 = .ok (.iload_n 1, 1) := by decide +kernel
theorem dX10_acted_102 : decode cX10_acted 102 = .ok (.ireturn, 1) := by decide +kernel
theorem dX10_layAside_0 : decode cX10_layAside 0 = .ok (.iconst 0, 1) := by decide +kernel
theorem dX10_layAside_1 : decode cX10_layAside 1 = .ok (.istore_n 1, 1) := by decide +kernel
theorem dX10_layAside_2 : decode cX10_layAside 2 = .ok (.iload_n 1, 1) := by decide +kernel
theorem dX10_layAside_3 : decode cX10_layAside 3 = .ok (.sipush 193, 3) := by decide +kernel
theorem dX10_layAside_6 : decode cX10_layAside 6 = .ok (.if_icmp .ge 21, 3) := by decide +kernel
theorem dX10_layAside_9 : decode cX10_layAside 9 = .ok (.aload_n 0, 1) := by decide +kernel
theorem dX10_layAside_10 : decode cX10_layAside 10 = .ok (.getfield 16, 3) := by decide +kernel
theorem dX10_layAside_13 : decode cX10_layAside 13 = .ok (.iload_n 1, 1) := by decide +kernel
theorem dX10_layAside_14 : decode cX10_layAside 14 = .ok (.aload_n 0, 1) := by decide +kernel
theorem dX10_layAside_15 : decode cX10_layAside 15 = .ok (.getfield 7, 3) := by decide +kernel
theorem dX10_layAside_18 : decode cX10_layAside 18 = .ok (.iload_n 1, 1) := by decide +kernel
theorem dX10_layAside_19 : decode cX10_layAside 19 = .ok (.iaload, 1) := by decide +kernel
theorem dX10_layAside_20 : decode cX10_layAside 20 = .ok (.iastore, 1) := by decide +kernel
theorem dX10_layAside_21 : decode cX10_layAside 21 = .ok (.iinc 1 1, 3) := by decide +kernel
theorem dX10_layAside_24 : decode cX10_layAside 24 = .ok (.goto (-22), 3) := by decide +kernel
theorem dX10_layAside_27 : decode cX10_layAside 27 = .ok (.return_, 1) := by decide +kernel
theorem dX10_bringBack_0 : decode cX10_bringBack 0 = .ok (.iconst 0, 1) := by decide +kernel
theorem dX10_bringBack_1 : decode cX10_bringBack 1 = .ok (.istore_n 1, 1) := by decide +kernel
theorem dX10_bringBack_2 : decode cX10_bringBack 2 = .ok (.iload_n 1, 1) := by decide +kernel
theorem dX10_bringBack_3 : decode cX10_bringBack 3 = .ok (.sipush 193, 3) := by decide +kernel
theorem dX10_bringBack_6 : decode cX10_bringBack 6 = .ok (.if_icmp .ge 21, 3) := by decide +kernel
theorem dX10_bringBack_9 : decode cX10_bringBack 9 = .ok (.aload_n 0, 1) := by decide +kernel
theorem dX10_bringBack_10 : decode cX10_bringBack 10 = .ok (.getfield 7, 3) := by decide +kernel
theorem dX10_bringBack_13 : decode cX10_bringBack 13 = .ok (.iload_n 1, 1) := by decide +kernel
theorem dX10_bringBack_14 : decode cX10_bringBack 14 = .ok (.aload_n 0, 1) := by decide +kernel
theorem dX10_bringBack_15 : decode cX10_bringBack 15 = .ok (.getfield 16, 3) := by decide +kernel
theorem dX10_bringBack_18 : decode cX10_bringBack 18 = .ok (.iload_n 1, 1) := by decide +kernel
theorem dX10_bringBack_19 : decode cX10_bringBack 19 = .ok (.iaload, 1) := by decide +kernel
theorem dX10_bringBack_20 : decode cX10_bringBack 20 = .ok (.iastore, 1) := by decide +kernel
theorem dX10_bringBack_21 : decode cX10_bringBack 21 = .ok (.iinc 1 1, 3) := by decide +kernel
theorem dX10_bringBack_24 : decode cX10_bringBack 24 = .ok (.goto (-22), 3) := by decide +kernel
theorem dX10_bringBack_27 : decode cX10_bringBack 27 = .ok (.return_, 1) := by decide +kernel
theorem dX10_isFree_0 : decode cX10_isFree 0 = .ok (.aload_n 0, 1) := by decide +kernel
theorem dX10_isFree_1 : decode cX10_isFree 1 = .ok (.iload_n 1, 1) := by decide +kernel
theorem dX10_isFree_2 : decode cX10_isFree 2 = .ok (.iconst 1, 1) := by decide +kernel
theorem dX10_isFree_3 : decode cX10_isFree 3 = .ok (.invokevirtual 36, 3) := by decide +kernel
theorem dX10_isFree_6 : decode cX10_isFree 6 = .ok (.ifCond .lt 25, 3) := by decide +kernel
theorem dX10_isFree_9 : decode cX10_isFree 9 = .ok (.aload_n 0, 1) := by decide +kernel
theorem dX10_isFree_10 : decode cX10_isFree 10 = .ok (.iload_n 1, 1) := by decide +kernel
theorem dX10_isFree_11 : decode cX10_isFree 11 = .ok (.iconst 2, 1) := by decide +kernel
theorem dX10_isFree_12 : decode cX10_isFree 12 = .ok (.invokevirtual 36, 3) := by decide +kernel
theorem dX10_isFree_15 : decode cX10_isFree 15 = .ok (.ifCond .ge 16, 3) := by decide +kernel
theorem dX10_isFree_18 : decode cX10_isFree 18 = .ok (.aload_n 0, 1) := by decide +kernel
theorem dX10_isFree_19 : decode cX10_isFree 19 = .ok (.iload_n 1, 1) := by decide +kernel
theorem dX10_isFree_20 : decode cX10_isFree 20 = .ok (.iconst 4, 1) := by decide +kernel
theorem dX10_isFree_21 : decode cX10_isFree 21 = .ok (.invokevirtual 36, 3) := by decide +kernel
theorem dX10_isFree_24 : decode cX10_isFree 24 = .ok (.ifCond .ge 7, 3) := by decide +kernel
theorem dX10_isFree_27 : decode cX10_isFree 27 = .ok (.iconst 1, 1) := by decide +kernel
theorem dX10_isFree_28 : decode cX10_isFree 28 = .ok (.goto 4, 3) := by decide +kernel
theorem dX10_isFree_31 : decode cX10_isFree 31 = .ok (.iconst 0, 1) := by decide +kernel
theorem dX10_isFree_32 : decode cX10_isFree 32 = .ok (.ireturn, 1) := by decide +kernel
theorem dX10_lowestFree_0 : decode cX10_lowestFree 0 = .ok (.iconst 0, 1) := by decide +kernel
theorem dX10_lowestFree_1 : decode cX10_lowestFree 1 = .ok (.istore_n 2, 1) := by decide +kernel
theorem dX10_lowestFree_2 : decode cX10_lowestFree 2 = .ok (.iload_n 2, 1) := by decide +kernel
theorem dX10_lowestFree_3 : decode cX10_lowestFree 3 = .ok (.aload_n 0, 1) := by decide +kernel
theorem dX10_lowestFree_4 : decode cX10_lowestFree 4 = .ok (.getfield 7, 3) := by decide +kernel
theorem dX10_lowestFree_7 : decode cX10_lowestFree 7 = .ok (.iconst 4, 1) := by decide +kernel
theorem dX10_lowestFree_8 : decode cX10_lowestFree 8 = .ok (.iaload, 1) := by decide +kernel
theorem dX10_lowestFree_9 : decode cX10_lowestFree 9 = .ok (.if_icmp .ge 34, 3) := by decide +kernel
theorem dX10_lowestFree_12 : decode cX10_lowestFree 12 = .ok (.aload_n 0, 1) := by decide +kernel
theorem dX10_lowestFree_13 : decode cX10_lowestFree 13 = .ok (.iload_n 2, 1) := by decide +kernel
theorem dX10_lowestFree_14 : decode cX10_lowestFree 14 = .ok (.invokevirtual 40, 3) := by decide +kernel
theorem dX10_lowestFree_17 : decode cX10_lowestFree 17 = .ok (.ifCond .eq 20, 3) := by decide +kernel
theorem dX10_lowestFree_20 : decode cX10_lowestFree 20 = .ok (.iload_n 1, 1) := by decide +kernel
theorem dX10_lowestFree_21 : decode cX10_lowestFree 21 = .ok (.iconst 3, 1) := by decide +kernel
theorem dX10_lowestFree_22 : decode cX10_lowestFree 22 = .ok (.if_icmp .eq 13, 3) := by decide +kernel
theorem dX10_lowestFree_25 : decode cX10_lowestFree 25 = .ok (.aload_n 0, 1) := by decide +kernel
theorem dX10_lowestFree_26 : decode cX10_lowestFree 26 = .ok (.iload_n 2, 1) := by decide +kernel
theorem dX10_lowestFree_27 : decode cX10_lowestFree 27 = .ok (.iconst 0, 1) := by decide +kernel
theorem dX10_lowestFree_28 : decode cX10_lowestFree 28 = .ok (.invokevirtual 36, 3) := by decide +kernel
theorem dX10_lowestFree_31 : decode cX10_lowestFree 31 = .ok (.iload_n 1, 1) := by decide +kernel
theorem dX10_lowestFree_32 : decode cX10_lowestFree 32 = .ok (.if_icmp .ne 5, 3) := by decide +kernel
theorem dX10_lowestFree_35 : decode cX10_lowestFree 35 = .ok (.iload_n 2, 1) := by decide +kernel
theorem dX10_lowestFree_36 : decode cX10_lowestFree 36 = .ok (.ireturn, 1) := by decide +kernel
theorem dX10_lowestFree_37 : decode cX10_lowestFree 37 = .ok (.iinc 2 1, 3) := by decide +kernel
theorem dX10_lowestFree_40 : decode cX10_lowestFree 40 = .ok (.goto (-38), 3) := by decide +kernel
theorem dX10_lowestFree_43 : decode cX10_lowestFree 43 = .ok (.iconst (-1), 1) := by decide +kernel
theorem dX10_lowestFree_44 : decode cX10_lowestFree 44 = .ok (.ireturn, 1) := by decide +kernel
theorem dX10_placeOf_0 : decode cX10_placeOf 0 = .ok (.iconst 0, 1) := by decide +kernel
theorem dX10_placeOf_1 : decode cX10_placeOf 1 = .ok (.istore_n 2, 1) := by decide +kernel
theorem dX10_placeOf_2 : decode cX10_placeOf 2 = .ok (.iload_n 2, 1) := by decide +kernel
theorem dX10_placeOf_3 : decode cX10_placeOf 3 = .ok (.aload_n 0, 1) := by decide +kernel
theorem dX10_placeOf_4 : decode cX10_placeOf 4 = .ok (.getfield 7, 3) := by decide +kernel
theorem dX10_placeOf_7 : decode cX10_placeOf 7 = .ok (.bipush 6, 2) := by decide +kernel
theorem dX10_placeOf_9 : decode cX10_placeOf 9 = .ok (.iaload, 1) := by decide +kernel
theorem dX10_placeOf_10 : decode cX10_placeOf 10 = .ok (.if_icmp .ge 27, 3) := by decide +kernel
theorem dX10_placeOf_13 : decode cX10_placeOf 13 = .ok (.aload_n 0, 1) := by decide +kernel
theorem dX10_placeOf_14 : decode cX10_placeOf 14 = .ok (.getfield 7, 3) := by decide +kernel
theorem dX10_placeOf_17 : decode cX10_placeOf 17 = .ok (.sipush 163, 3) := by decide +kernel
theorem dX10_placeOf_20 : decode cX10_placeOf 20 = .ok (.iconst 2, 1) := by decide +kernel
theorem dX10_placeOf_21 : decode cX10_placeOf 21 = .ok (.iload_n 2, 1) := by decide +kernel
theorem dX10_placeOf_22 : decode cX10_placeOf 22 = .ok (.imul, 1) := by decide +kernel
theorem dX10_placeOf_23 : decode cX10_placeOf 23 = .ok (.iadd, 1) := by decide +kernel
theorem dX10_placeOf_24 : decode cX10_placeOf 24 = .ok (.iaload, 1) := by decide +kernel
theorem dX10_placeOf_25 : decode cX10_placeOf 25 = .ok (.iload_n 1, 1) := by decide +kernel
theorem dX10_placeOf_26 : decode cX10_placeOf 26 = .ok (.if_icmp .ne 5, 3) := by decide +kernel
theorem dX10_placeOf_29 : decode cX10_placeOf 29 = .ok (.iload_n 2, 1) := by decide +kernel
theorem dX10_placeOf_30 : decode cX10_placeOf 30 = .ok (.ireturn, 1) := by decide +kernel
theorem dX10_placeOf_31 : decode cX10_placeOf 31 = .ok (.iinc 2 1, 3) := by decide +kernel
theorem dX10_placeOf_34 : decode cX10_placeOf 34 = .ok (.goto (-32), 3) := by decide +kernel
theorem dX10_placeOf_37 : decode cX10_placeOf 37 = .ok (.iconst (-1), 1) := by decide +kernel
theorem dX10_placeOf_38 : decode cX10_placeOf 38 = .ok (.ireturn, 1) := by decide +kernel
theorem dX10_waitsNoMore_0 : decode cX10_waitsNoMore 0 = .ok (.aload_n 0, 1) := by decide +kernel
theorem dX10_waitsNoMore_1 : decode cX10_waitsNoMore 1 = .ok (.getfield 7, 3) := by decide +kernel
theorem dX10_waitsNoMore_4 : decode cX10_waitsNoMore 4 = .ok (.bipush 6, 2) := by decide +kernel
theorem dX10_waitsNoMore_6 : decode cX10_waitsNoMore 6 = .ok (.dup2, 1) := by decide +kernel
theorem dX10_waitsNoMore_7 : decode cX10_waitsNoMore 7 = .ok (.iaload, 1) := by decide +kernel
theorem dX10_waitsNoMore_8 : decode cX10_waitsNoMore 8 = .ok (.iconst 1, 1) := by decide +kernel
theorem dX10_waitsNoMore_9 : decode cX10_waitsNoMore 9 = .ok (.isub, 1) := by decide +kernel
theorem dX10_waitsNoMore_10 : decode cX10_waitsNoMore 10 = .ok (.iastore, 1) := by decide +kernel
theorem dX10_waitsNoMore_11 : decode cX10_waitsNoMore 11 = .ok (.iconst 2, 1) := by decide +kernel
theorem dX10_waitsNoMore_12 : decode cX10_waitsNoMore 12 = .ok (.iload_n 1, 1) := by decide +kernel
theorem dX10_waitsNoMore_13 : decode cX10_waitsNoMore 13 = .ok (.imul, 1) := by decide +kernel
theorem dX10_waitsNoMore_14 : decode cX10_waitsNoMore 14 = .ok (.istore_n 2, 1) := by decide +kernel
theorem dX10_waitsNoMore_15 : decode cX10_waitsNoMore 15 = .ok (.iload_n 2, 1) := by decide +kernel
theorem dX10_waitsNoMore_16 : decode cX10_waitsNoMore 16 = .ok (.iconst 2, 1) := by decide +kernel
theorem dX10_waitsNoMore_17 : decode cX10_waitsNoMore 17 = .ok (.aload_n 0, 1) := by decide +kernel
theorem dX10_waitsNoMore_18 : decode cX10_waitsNoMore 18 = .ok (.getfield 7, 3) := by decide +kernel
theorem dX10_waitsNoMore_21 : decode cX10_waitsNoMore 21 = .ok (.bipush 6, 2) := by decide +kernel
theorem dX10_waitsNoMore_23 : decode cX10_waitsNoMore 23 = .ok (.iaload, 1) := by decide +kernel
theorem dX10_waitsNoMore_24 : decode cX10_waitsNoMore 24 = .ok (.imul, 1) := by decide +kernel
theorem dX10_waitsNoMore_25 : decode cX10_waitsNoMore 25 = .ok (.if_icmp .ge 31, 3) := by decide +kernel
theorem dX10_waitsNoMore_28 : decode cX10_waitsNoMore 28 = .ok (.aload_n 0, 1) := by decide +kernel
theorem dX10_waitsNoMore_29 : decode cX10_waitsNoMore 29 = .ok (.getfield 7, 3) := by decide +kernel
theorem dX10_waitsNoMore_32 : decode cX10_waitsNoMore 32 = .ok (.sipush 163, 3) := by decide +kernel
theorem dX10_waitsNoMore_35 : decode cX10_waitsNoMore 35 = .ok (.iload_n 2, 1) := by decide +kernel
theorem dX10_waitsNoMore_36 : decode cX10_waitsNoMore 36 = .ok (.iadd, 1) := by decide +kernel
theorem dX10_waitsNoMore_37 : decode cX10_waitsNoMore 37 = .ok (.aload_n 0, 1) := by decide +kernel
theorem dX10_waitsNoMore_38 : decode cX10_waitsNoMore 38 = .ok (.getfield 7, 3) := by decide +kernel
theorem dX10_waitsNoMore_41 : decode cX10_waitsNoMore 41 = .ok (.sipush 163, 3) := by decide +kernel
theorem dX10_waitsNoMore_44 : decode cX10_waitsNoMore 44 = .ok (.iload_n 2, 1) := by decide +kernel
theorem dX10_waitsNoMore_45 : decode cX10_waitsNoMore 45 = .ok (.iadd, 1) := by decide +kernel
theorem dX10_waitsNoMore_46 : decode cX10_waitsNoMore 46 = .ok (.iconst 2, 1) := by decide +kernel
theorem dX10_waitsNoMore_47 : decode cX10_waitsNoMore 47 = .ok (.iadd, 1) := by decide +kernel
theorem dX10_waitsNoMore_48 : decode cX10_waitsNoMore 48 = .ok (.iaload, 1) := by decide +kernel
theorem dX10_waitsNoMore_49 : decode cX10_waitsNoMore 49 = .ok (.iastore, 1) := by decide +kernel
theorem dX10_waitsNoMore_50 : decode cX10_waitsNoMore 50 = .ok (.iinc 2 1, 3) := by decide +kernel
theorem dX10_waitsNoMore_53 : decode cX10_waitsNoMore 53 = .ok (.goto (-38), 3) := by decide +kernel
theorem dX10_waitsNoMore_56 : decode cX10_waitsNoMore 56 = .ok (.return_, 1) := by decide +kernel
theorem dX10_waitsFor_0 : decode cX10_waitsFor 0 = .ok (.aload_n 0, 1) := by decide +kernel
theorem dX10_waitsFor_1 : decode cX10_waitsFor 1 = .ok (.getfield 7, 3) := by decide +kernel
theorem dX10_waitsFor_4 : decode cX10_waitsFor 4 = .ok (.sipush 163, 3) := by decide +kernel
theorem dX10_waitsFor_7 : decode cX10_waitsFor 7 = .ok (.iconst 2, 1) := by decide +kernel
theorem dX10_waitsFor_8 : decode cX10_waitsFor 8 = .ok (.aload_n 0, 1) := by decide +kernel
theorem dX10_waitsFor_9 : decode cX10_waitsFor 9 = .ok (.getfield 7, 3) := by decide +kernel
theorem dX10_waitsFor_12 : decode cX10_waitsFor 12 = .ok (.bipush 6, 2) := by decide +kernel
theorem dX10_waitsFor_14 : decode cX10_waitsFor 14 = .ok (.iaload, 1) := by decide +kernel
theorem dX10_waitsFor_15 : decode cX10_waitsFor 15 = .ok (.imul, 1) := by decide +kernel
theorem dX10_waitsFor_16 : decode cX10_waitsFor 16 = .ok (.iadd, 1) := by decide +kernel
theorem dX10_waitsFor_17 : decode cX10_waitsFor 17 = .ok (.iload_n 1, 1) := by decide +kernel
theorem dX10_waitsFor_18 : decode cX10_waitsFor 18 = .ok (.iastore, 1) := by decide +kernel
theorem dX10_waitsFor_19 : decode cX10_waitsFor 19 = .ok (.aload_n 0, 1) := by decide +kernel
theorem dX10_waitsFor_20 : decode cX10_waitsFor 20 = .ok (.getfield 7, 3) := by decide +kernel
theorem dX10_waitsFor_23 : decode cX10_waitsFor 23 = .ok (.sipush 163, 3) := by decide +kernel
theorem dX10_waitsFor_26 : decode cX10_waitsFor 26 = .ok (.iconst 2, 1) := by decide +kernel
theorem dX10_waitsFor_27 : decode cX10_waitsFor 27 = .ok (.aload_n 0, 1) := by decide +kernel
theorem dX10_waitsFor_28 : decode cX10_waitsFor 28 = .ok (.getfield 7, 3) := by decide +kernel
theorem dX10_waitsFor_31 : decode cX10_waitsFor 31 = .ok (.bipush 6, 2) := by decide +kernel
theorem dX10_waitsFor_33 : decode cX10_waitsFor 33 = .ok (.iaload, 1) := by decide +kernel
theorem dX10_waitsFor_34 : decode cX10_waitsFor 34 = .ok (.imul, 1) := by decide +kernel
theorem dX10_waitsFor_35 : decode cX10_waitsFor 35 = .ok (.iadd, 1) := by decide +kernel
theorem dX10_waitsFor_36 : decode cX10_waitsFor 36 = .ok (.iconst 1, 1) := by decide +kernel
theorem dX10_waitsFor_37 : decode cX10_waitsFor 37 = .ok (.iadd, 1) := by decide +kernel
theorem dX10_waitsFor_38 : decode cX10_waitsFor 38 = .ok (.iload_n 2, 1) := by decide +kernel
theorem dX10_waitsFor_39 : decode cX10_waitsFor 39 = .ok (.iastore, 1) := by decide +kernel
theorem dX10_waitsFor_40 : decode cX10_waitsFor 40 = .ok (.aload_n 0, 1) := by decide +kernel
theorem dX10_waitsFor_41 : decode cX10_waitsFor 41 = .ok (.getfield 7, 3) := by decide +kernel
theorem dX10_waitsFor_44 : decode cX10_waitsFor 44 = .ok (.bipush 6, 2) := by decide +kernel
theorem dX10_waitsFor_46 : decode cX10_waitsFor 46 = .ok (.dup2, 1) := by decide +kernel
theorem dX10_waitsFor_47 : decode cX10_waitsFor 47 = .ok (.iaload, 1) := by decide +kernel
theorem dX10_waitsFor_48 : decode cX10_waitsFor 48 = .ok (.iconst 1, 1) := by decide +kernel
theorem dX10_waitsFor_49 : decode cX10_waitsFor 49 = .ok (.iadd, 1) := by decide +kernel
theorem dX10_waitsFor_50 : decode cX10_waitsFor 50 = .ok (.iastore, 1) := by decide +kernel
theorem dX10_waitsFor_51 : decode cX10_waitsFor 51 = .ok (.return_, 1) := by decide +kernel
theorem dX10_firstWaiting_0 : decode cX10_firstWaiting 0 = .ok (.iconst 0, 1) := by decide +kernel
theorem dX10_firstWaiting_1 : decode cX10_firstWaiting 1 = .ok (.istore_n 2, 1) := by decide +kernel
theorem dX10_firstWaiting_2 : decode cX10_firstWaiting 2 = .ok (.iload_n 2, 1) := by decide +kernel
theorem dX10_firstWaiting_3 : decode cX10_firstWaiting 3 = .ok (.aload_n 0, 1) := by decide +kernel
theorem dX10_firstWaiting_4 : decode cX10_firstWaiting 4 = .ok (.getfield 7, 3) := by decide +kernel
theorem dX10_firstWaiting_7 : decode cX10_firstWaiting 7 = .ok (.bipush 6, 2) := by decide +kernel
theorem dX10_firstWaiting_9 : decode cX10_firstWaiting 9 = .ok (.iaload, 1) := by decide +kernel
theorem dX10_firstWaiting_10 : decode cX10_firstWaiting 10 = .ok (.if_icmp .ge 36, 3) := by decide +kernel
theorem dX10_firstWaiting_13 : decode cX10_firstWaiting 13 = .ok (.aload_n 0, 1) := by decide +kernel
theorem dX10_firstWaiting_14 : decode cX10_firstWaiting 14 = .ok (.getfield 7, 3) := by decide +kernel
theorem dX10_firstWaiting_17 : decode cX10_firstWaiting 17 = .ok (.sipush 163, 3) := by decide +kernel
theorem dX10_firstWaiting_20 : decode cX10_firstWaiting 20 = .ok (.iconst 2, 1) := by decide +kernel
theorem dX10_firstWaiting_21 : decode cX10_firstWaiting 21 = .ok (.iload_n 2, 1) := by decide +kernel
theorem dX10_firstWaiting_22 : decode cX10_firstWaiting 22 = .ok (.imul, 1) := by decide +kernel
theorem dX10_firstWaiting_23 : decode cX10_firstWaiting 23 = .ok (.iadd, 1) := by decide +kernel
theorem dX10_firstWaiting_24 : decode cX10_firstWaiting 24 = .ok (.iconst 1, 1) := by decide +kernel
theorem dX10_firstWaiting_25 : decode cX10_firstWaiting 25 = .ok (.iadd, 1) := by decide +kernel
theorem dX10_firstWaiting_26 : decode cX10_firstWaiting 26 = .ok (.iaload, 1) := by decide +kernel
theorem dX10_firstWaiting_27 : decode cX10_firstWaiting 27 = .ok (.istore_n 3, 1) := by decide +kernel
theorem dX10_firstWaiting_28 : decode cX10_firstWaiting 28 = .ok (.iload_n 3, 1) := by decide +kernel
theorem dX10_firstWaiting_29 : decode cX10_firstWaiting 29 = .ok (.iload_n 1, 1) := by decide +kernel
theorem dX10_firstWaiting_30 : decode cX10_firstWaiting 30 = .ok (.if_icmp .eq 8, 3) := by decide +kernel
theorem dX10_firstWaiting_33 : decode cX10_firstWaiting 33 = .ok (.iload_n 3, 1) := by decide +kernel
theorem dX10_firstWaiting_34 : decode cX10_firstWaiting 34 = .ok (.iconst 3, 1) := by decide +kernel
theorem dX10_firstWaiting_35 : decode cX10_firstWaiting 35 = .ok (.if_icmp .ne 5, 3) := by decide +kernel
theorem dX10_firstWaiting_38 : decode cX10_firstWaiting 38 = .ok (.iload_n 2, 1) := by decide +kernel
theorem dX10_firstWaiting_39 : decode cX10_firstWaiting 39 = .ok (.ireturn, 1) := by decide +kernel
theorem dX10_firstWaiting_40 : decode cX10_firstWaiting 40 = .ok (.iinc 2 1, 3) := by decide +kernel
theorem dX10_firstWaiting_43 : decode cX10_firstWaiting 43 = .ok (.goto (-41), 3) := by decide +kernel
theorem dX10_firstWaiting_46 : decode cX10_firstWaiting 46 = .ok (.iconst (-1), 1) := by decide +kernel
theorem dX10_firstWaiting_47 : decode cX10_firstWaiting 47 = .ok (.ireturn, 1) := by decide +kernel
theorem dX10_has_0 : decode cX10_has 0 = .ok (.aload_n 0, 1) := by decide +kernel
theorem dX10_has_1 : decode cX10_has 1 = .ok (.iload_n 2, 1) := by decide +kernel
theorem dX10_has_2 : decode cX10_has 2 = .ok (.iconst 2, 1) := by decide +kernel
theorem dX10_has_3 : decode cX10_has 3 = .ok (.iload_n 1, 1) := by decide +kernel
theorem dX10_has_4 : decode cX10_has 4 = .ok (.invokevirtual 44, 3) := by decide +kernel
theorem dX10_has_7 : decode cX10_has 7 = .ok (.aload_n 0, 1) := by decide +kernel
theorem dX10_has_8 : decode cX10_has 8 = .ok (.iload_n 2, 1) := by decide +kernel
theorem dX10_has_9 : decode cX10_has 9 = .ok (.iconst 5, 1) := by decide +kernel
theorem dX10_has_10 : decode cX10_has 10 = .ok (.aload_n 0, 1) := by decide +kernel
theorem dX10_has_11 : decode cX10_has 11 = .ok (.iload_n 2, 1) := by decide +kernel
theorem dX10_has_12 : decode cX10_has 12 = .ok (.iconst 5, 1) := by decide +kernel
theorem dX10_has_13 : decode cX10_has 13 = .ok (.invokevirtual 36, 3) := by decide +kernel
theorem dX10_has_16 : decode cX10_has 16 = .ok (.iconst 1, 1) := by decide +kernel
theorem dX10_has_17 : decode cX10_has 17 = .ok (.iadd, 1) := by decide +kernel
theorem dX10_has_18 : decode cX10_has 18 = .ok (.invokevirtual 44, 3) := by decide +kernel
theorem dX10_has_21 : decode cX10_has 21 = .ok (.aload_n 0, 1) := by decide +kernel
theorem dX10_has_22 : decode cX10_has 22 = .ok (.iload_n 1, 1) := by decide +kernel
theorem dX10_has_23 : decode cX10_has 23 = .ok (.iconst 0, 1) := by decide +kernel
theorem dX10_has_24 : decode cX10_has 24 = .ok (.iload_n 2, 1) := by decide +kernel
theorem dX10_has_25 : decode cX10_has 25 = .ok (.invokevirtual 48, 3) := by decide +kernel
theorem dX10_has_28 : decode cX10_has 28 = .ok (.return_, 1) := by decide +kernel
theorem dX10_beginsLoan_0 : decode cX10_beginsLoan 0 = .ok (.aload_n 0, 1) := by decide +kernel
theorem dX10_beginsLoan_1 : decode cX10_beginsLoan 1 = .ok (.iload_n 1, 1) := by decide +kernel
theorem dX10_beginsLoan_2 : decode cX10_beginsLoan 2 = .ok (.iload_n 2, 1) := by decide +kernel
theorem dX10_beginsLoan_3 : decode cX10_beginsLoan 3 = .ok (.invokevirtual 51, 3) := by decide +kernel
theorem dX10_beginsLoan_6 : decode cX10_beginsLoan 6 = .ok (.aload_n 0, 1) := by decide +kernel
theorem dX10_beginsLoan_7 : decode cX10_beginsLoan 7 = .ok (.iload_n 1, 1) := by decide +kernel
theorem dX10_beginsLoan_8 : decode cX10_beginsLoan 8 = .ok (.iconst 1, 1) := by decide +kernel
theorem dX10_beginsLoan_9 : decode cX10_beginsLoan 9 = .ok (.aload_n 0, 1) := by decide +kernel
theorem dX10_beginsLoan_10 : decode cX10_beginsLoan 10 = .ok (.getfield 7, 3) := by decide +kernel
theorem dX10_beginsLoan_13 : decode cX10_beginsLoan 13 = .ok (.iconst 3, 1) := by decide +kernel
theorem dX10_beginsLoan_14 : decode cX10_beginsLoan 14 = .ok (.iaload, 1) := by decide +kernel
theorem dX10_beginsLoan_15 : decode cX10_beginsLoan 15 = .ok (.aload_n 0, 1) := by decide +kernel
theorem dX10_beginsLoan_16 : decode cX10_beginsLoan 16 = .ok (.getfield 7, 3) := by decide +kernel
theorem dX10_beginsLoan_19 : decode cX10_beginsLoan 19 = .ok (.iconst 0, 1) := by decide +kernel
theorem dX10_beginsLoan_20 : decode cX10_beginsLoan 20 = .ok (.iaload, 1) := by decide +kernel
theorem dX10_beginsLoan_21 : decode cX10_beginsLoan 21 = .ok (.iadd, 1) := by decide +kernel
theorem dX10_beginsLoan_22 : decode cX10_beginsLoan 22 = .ok (.invokevirtual 48, 3) := by decide +kernel
theorem dX10_beginsLoan_25 : decode cX10_beginsLoan 25 = .ok (.aload_n 0, 1) := by decide +kernel
theorem dX10_beginsLoan_26 : decode cX10_beginsLoan 26 = .ok (.iload_n 1, 1) := by decide +kernel
theorem dX10_beginsLoan_27 : decode cX10_beginsLoan 27 = .ok (.iconst 2, 1) := by decide +kernel
theorem dX10_beginsLoan_28 : decode cX10_beginsLoan 28 = .ok (.iconst 0, 1) := by decide +kernel
theorem dX10_beginsLoan_29 : decode cX10_beginsLoan 29 = .ok (.invokevirtual 48, 3) := by decide +kernel
theorem dX10_beginsLoan_32 : decode cX10_beginsLoan 32 = .ok (.return_, 1) := by decide +kernel
theorem dX10_frees_0 : decode cX10_frees 0 = .ok (.aload_n 0, 1) := by decide +kernel
theorem dX10_frees_1 : decode cX10_frees 1 = .ok (.iload_n 1, 1) := by decide +kernel
theorem dX10_frees_2 : decode cX10_frees 2 = .ok (.invokevirtual 40, 3) := by decide +kernel
theorem dX10_frees_5 : decode cX10_frees 5 = .ok (.ifCond .eq 16, 3) := by decide +kernel
theorem dX10_frees_8 : decode cX10_frees 8 = .ok (.aload_n 0, 1) := by decide +kernel
theorem dX10_frees_9 : decode cX10_frees 9 = .ok (.aload_n 0, 1) := by decide +kernel
theorem dX10_frees_10 : decode cX10_frees 10 = .ok (.iload_n 1, 1) := by decide +kernel
theorem dX10_frees_11 : decode cX10_frees 11 = .ok (.iconst 0, 1) := by decide +kernel
theorem dX10_frees_12 : decode cX10_frees 12 = .ok (.invokevirtual 36, 3) := by decide +kernel
theorem dX10_frees_15 : decode cX10_frees 15 = .ok (.invokevirtual 55, 3) := by decide +kernel
theorem dX10_frees_18 : decode cX10_frees 18 = .ok (.goto 4, 3) := by decide +kernel
theorem dX10_frees_21 : decode cX10_frees 21 = .ok (.iconst (-1), 1) := by decide +kernel
theorem dX10_frees_22 : decode cX10_frees 22 = .ok (.istore_n 2, 1) := by decide +kernel
theorem dX10_frees_23 : decode cX10_frees 23 = .ok (.iload_n 2, 1) := by decide +kernel
theorem dX10_frees_24 : decode cX10_frees 24 = .ok (.ifCond .lt 27, 3) := by decide +kernel
theorem dX10_frees_27 : decode cX10_frees 27 = .ok (.aload_n 0, 1) := by decide +kernel
theorem dX10_frees_28 : decode cX10_frees 28 = .ok (.getfield 7, 3) := by decide +kernel
theorem dX10_frees_31 : decode cX10_frees 31 = .ok (.sipush 163, 3) := by decide +kernel
theorem dX10_frees_34 : decode cX10_frees 34 = .ok (.iconst 2, 1) := by decide +kernel
theorem dX10_frees_35 : decode cX10_frees 35 = .ok (.iload_n 2, 1) := by decide +kernel
theorem dX10_frees_36 : decode cX10_frees 36 = .ok (.imul, 1) := by decide +kernel
theorem dX10_frees_37 : decode cX10_frees 37 = .ok (.iadd, 1) := by decide +kernel
theorem dX10_frees_38 : decode cX10_frees 38 = .ok (.iaload, 1) := by decide +kernel
theorem dX10_frees_39 : decode cX10_frees 39 = .ok (.istore_n 3, 1) := by decide +kernel
theorem dX10_frees_40 : decode cX10_frees 40 = .ok (.aload_n 0, 1) := by decide +kernel
theorem dX10_frees_41 : decode cX10_frees 41 = .ok (.iload_n 2, 1) := by decide +kernel
theorem dX10_frees_42 : decode cX10_frees 42 = .ok (.invokevirtual 59, 3) := by decide +kernel
theorem dX10_frees_45 : decode cX10_frees 45 = .ok (.aload_n 0, 1) := by decide +kernel
theorem dX10_frees_46 : decode cX10_frees 46 = .ok (.iload_n 3, 1) := by decide +kernel
theorem dX10_frees_47 : decode cX10_frees 47 = .ok (.iload_n 1, 1) := by decide +kernel
theorem dX10_frees_48 : decode cX10_frees 48 = .ok (.invokevirtual 63, 3) := by decide +kernel
theorem dX10_frees_51 : decode cX10_frees 51 = .ok (.return_, 1) := by decide +kernel
theorem dX10_endsWish_0 : decode cX10_endsWish 0 = .ok (.aload_n 0, 1) := by decide +kernel
theorem dX10_endsWish_1 : decode cX10_endsWish 1 = .ok (.iload_n 1, 1) := by decide +kernel
theorem dX10_endsWish_2 : decode cX10_endsWish 2 = .ok (.iconst 5, 1) := by decide +kernel
theorem dX10_endsWish_3 : decode cX10_endsWish 3 = .ok (.invokevirtual 66, 3) := by decide +kernel
theorem dX10_endsWish_6 : decode cX10_endsWish 6 = .ok (.ifCond .ge 4, 3) := by decide +kernel
theorem dX10_endsWish_9 : decode cX10_endsWish 9 = .ok (.return_, 1) := by decide +kernel
theorem dX10_endsWish_10 : decode cX10_endsWish 10 = .ok (.aload_n 0, 1) := by decide +kernel
theorem dX10_endsWish_11 : decode cX10_endsWish 11 = .ok (.iload_n 1, 1) := by decide +kernel
theorem dX10_endsWish_12 : decode cX10_endsWish 12 = .ok (.iconst 5, 1) := by decide +kernel
theorem dX10_endsWish_13 : decode cX10_endsWish 13 = .ok (.iconst (-1), 1) := by decide +kernel
theorem dX10_endsWish_14 : decode cX10_endsWish 14 = .ok (.invokevirtual 48, 3) := by decide +kernel
theorem dX10_endsWish_17 : decode cX10_endsWish 17 = .ok (.iconst 0, 1) := by decide +kernel
theorem dX10_endsWish_18 : decode cX10_endsWish 18 = .ok (.istore_n 2, 1) := by decide +kernel
theorem dX10_endsWish_19 : decode cX10_endsWish 19 = .ok (.aload_n 0, 1) := by decide +kernel
theorem dX10_endsWish_20 : decode cX10_endsWish 20 = .ok (.getfield 7, 3) := by decide +kernel
theorem dX10_endsWish_23 : decode cX10_endsWish 23 = .ok (.sipush 183, 3) := by decide +kernel
theorem dX10_endsWish_26 : decode cX10_endsWish 26 = .ok (.iload_n 2, 1) := by decide +kernel
theorem dX10_endsWish_27 : decode cX10_endsWish 27 = .ok (.iadd, 1) := by decide +kernel
theorem dX10_endsWish_28 : decode cX10_endsWish 28 = .ok (.iaload, 1) := by decide +kernel
theorem dX10_endsWish_29 : decode cX10_endsWish 29 = .ok (.iload_n 1, 1) := by decide +kernel
theorem dX10_endsWish_30 : decode cX10_endsWish 30 = .ok (.if_icmp .eq 9, 3) := by decide +kernel
theorem dX10_endsWish_33 : decode cX10_endsWish 33 = .ok (.iinc 2 1, 3) := by decide +kernel
theorem dX10_endsWish_36 : decode cX10_endsWish 36 = .ok (.goto (-17), 3) := by decide +kernel
theorem dX10_endsWish_39 : decode cX10_endsWish 39 = .ok (.aload_n 0, 1) := by decide +kernel
theorem dX10_endsWish_40 : decode cX10_endsWish 40 = .ok (.getfield 7, 3) := by decide +kernel
theorem dX10_endsWish_43 : decode cX10_endsWish 43 = .ok (.bipush 7, 2) := by decide +kernel
theorem dX10_endsWish_45 : decode cX10_endsWish 45 = .ok (.dup2, 1) := by decide +kernel
theorem dX10_endsWish_46 : decode cX10_endsWish 46 = .ok (.iaload, 1) := by decide +kernel
theorem dX10_endsWish_47 : decode cX10_endsWish 47 = .ok (.iconst 1, 1) := by decide +kernel
theorem dX10_endsWish_48 : decode cX10_endsWish 48 = .ok (.isub, 1) := by decide +kernel
theorem dX10_endsWish_49 : decode cX10_endsWish 49 = .ok (.iastore, 1) := by decide +kernel
theorem dX10_endsWish_50 : decode cX10_endsWish 50 = .ok (.iload_n 2, 1) := by decide +kernel
theorem dX10_endsWish_51 : decode cX10_endsWish 51 = .ok (.aload_n 0, 1) := by decide +kernel
theorem dX10_endsWish_52 : decode cX10_endsWish 52 = .ok (.getfield 7, 3) := by decide +kernel
theorem dX10_endsWish_55 : decode cX10_endsWish 55 = .ok (.bipush 7, 2) := by decide +kernel
theorem dX10_endsWish_57 : decode cX10_endsWish 57 = .ok (.iaload, 1) := by decide +kernel
theorem dX10_endsWish_58 : decode cX10_endsWish 58 = .ok (.if_icmp .ge 31, 3) := by decide +kernel
theorem dX10_endsWish_61 : decode cX10_endsWish 61 = .ok (.aload_n 0, 1) := by decide +kernel
theorem dX10_endsWish_62 : decode cX10_endsWish 62 = .ok (.getfield 7, 3) := by decide +kernel
theorem dX10_endsWish_65 : decode cX10_endsWish 65 = .ok (.sipush 183, 3) := by decide +kernel
theorem dX10_endsWish_68 : decode cX10_endsWish 68 = .ok (.iload_n 2, 1) := by decide +kernel
theorem dX10_endsWish_69 : decode cX10_endsWish 69 = .ok (.iadd, 1) := by decide +kernel
theorem dX10_endsWish_70 : decode cX10_endsWish 70 = .ok (.aload_n 0, 1) := by decide +kernel
theorem dX10_endsWish_71 : decode cX10_endsWish 71 = .ok (.getfield 7, 3) := by decide +kernel
theorem dX10_endsWish_74 : decode cX10_endsWish 74 = .ok (.sipush 183, 3) := by decide +kernel
theorem dX10_endsWish_77 : decode cX10_endsWish 77 = .ok (.iload_n 2, 1) := by decide +kernel
theorem dX10_endsWish_78 : decode cX10_endsWish 78 = .ok (.iadd, 1) := by decide +kernel
theorem dX10_endsWish_79 : decode cX10_endsWish 79 = .ok (.iconst 1, 1) := by decide +kernel
theorem dX10_endsWish_80 : decode cX10_endsWish 80 = .ok (.iadd, 1) := by decide +kernel
theorem dX10_endsWish_81 : decode cX10_endsWish 81 = .ok (.iaload, 1) := by decide +kernel
theorem dX10_endsWish_82 : decode cX10_endsWish 82 = .ok (.iastore, 1) := by decide +kernel
theorem dX10_endsWish_83 : decode cX10_endsWish 83 = .ok (.iinc 2 1, 3) := by decide +kernel
theorem dX10_endsWish_86 : decode cX10_endsWish 86 = .ok (.goto (-36), 3) := by decide +kernel
theorem dX10_endsWish_89 : decode cX10_endsWish 89 = .ok (.return_, 1) := by decide +kernel
theorem dX10_endsLoan_0 : decode cX10_endsLoan 0 = .ok (.aload_n 0, 1) := by decide +kernel
theorem dX10_endsLoan_1 : decode cX10_endsLoan 1 = .ok (.iload_n 1, 1) := by decide +kernel
theorem dX10_endsLoan_2 : decode cX10_endsLoan 2 = .ok (.iconst 0, 1) := by decide +kernel
theorem dX10_endsLoan_3 : decode cX10_endsLoan 3 = .ok (.invokevirtual 66, 3) := by decide +kernel
theorem dX10_endsLoan_6 : decode cX10_endsLoan 6 = .ok (.istore_n 2, 1) := by decide +kernel
theorem dX10_endsLoan_7 : decode cX10_endsLoan 7 = .ok (.aload_n 0, 1) := by decide +kernel
theorem dX10_endsLoan_8 : decode cX10_endsLoan 8 = .ok (.iload_n 2, 1) := by decide +kernel
theorem dX10_endsLoan_9 : decode cX10_endsLoan 9 = .ok (.iconst 2, 1) := by decide +kernel
theorem dX10_endsLoan_10 : decode cX10_endsLoan 10 = .ok (.iconst (-1), 1) := by decide +kernel
theorem dX10_endsLoan_11 : decode cX10_endsLoan 11 = .ok (.invokevirtual 44, 3) := by decide +kernel
theorem dX10_endsLoan_14 : decode cX10_endsLoan 14 = .ok (.aload_n 0, 1) := by decide +kernel
theorem dX10_endsLoan_15 : decode cX10_endsLoan 15 = .ok (.iload_n 1, 1) := by decide +kernel
theorem dX10_endsLoan_16 : decode cX10_endsLoan 16 = .ok (.iconst 0, 1) := by decide +kernel
theorem dX10_endsLoan_17 : decode cX10_endsLoan 17 = .ok (.iconst (-1), 1) := by decide +kernel
theorem dX10_endsLoan_18 : decode cX10_endsLoan 18 = .ok (.invokevirtual 48, 3) := by decide +kernel
theorem dX10_endsLoan_21 : decode cX10_endsLoan 21 = .ok (.aload_n 0, 1) := by decide +kernel
theorem dX10_endsLoan_22 : decode cX10_endsLoan 22 = .ok (.iload_n 1, 1) := by decide +kernel
theorem dX10_endsLoan_23 : decode cX10_endsLoan 23 = .ok (.invokevirtual 69, 3) := by decide +kernel
theorem dX10_endsLoan_26 : decode cX10_endsLoan 26 = .ok (.iload_n 2, 1) := by decide +kernel
theorem dX10_endsLoan_27 : decode cX10_endsLoan 27 = .ok (.ireturn, 1) := by decide +kernel
theorem dX10_owes_0 : decode cX10_owes 0 = .ok (.aload_n 0, 1) := by decide +kernel
theorem dX10_owes_1 : decode cX10_owes 1 = .ok (.iload_n 1, 1) := by decide +kernel
theorem dX10_owes_2 : decode cX10_owes 2 = .ok (.iconst 3, 1) := by decide +kernel
theorem dX10_owes_3 : decode cX10_owes 3 = .ok (.aload_n 0, 1) := by decide +kernel
theorem dX10_owes_4 : decode cX10_owes 4 = .ok (.iload_n 1, 1) := by decide +kernel
theorem dX10_owes_5 : decode cX10_owes 5 = .ok (.iconst 3, 1) := by decide +kernel
theorem dX10_owes_6 : decode cX10_owes 6 = .ok (.invokevirtual 66, 3) := by decide +kernel
theorem dX10_owes_9 : decode cX10_owes 9 = .ok (.iload_n 2, 1) := by decide +kernel
theorem dX10_owes_10 : decode cX10_owes 10 = .ok (.iadd, 1) := by decide +kernel
theorem dX10_owes_11 : decode cX10_owes 11 = .ok (.invokevirtual 48, 3) := by decide +kernel
theorem dX10_owes_14 : decode cX10_owes 14 = .ok (.aload_n 0, 1) := by decide +kernel
theorem dX10_owes_15 : decode cX10_owes 15 = .ok (.getfield 7, 3) := by decide +kernel
theorem dX10_owes_18 : decode cX10_owes 18 = .ok (.bipush 9, 2) := by decide +kernel
theorem dX10_owes_20 : decode cX10_owes 20 = .ok (.dup2, 1) := by decide +kernel
theorem dX10_owes_21 : decode cX10_owes 21 = .ok (.iaload, 1) := by decide +kernel
theorem dX10_owes_22 : decode cX10_owes 22 = .ok (.iload_n 2, 1) := by decide +kernel
theorem dX10_owes_23 : decode cX10_owes 23 = .ok (.iadd, 1) := by decide +kernel
theorem dX10_owes_24 : decode cX10_owes 24 = .ok (.iastore, 1) := by decide +kernel
theorem dX10_owes_25 : decode cX10_owes 25 = .ok (.return_, 1) := by decide +kernel
theorem dX10_overdue_0 : decode cX10_overdue 0 = .ok (.aload_n 0, 1) := by decide +kernel
theorem dX10_overdue_1 : decode cX10_overdue 1 = .ok (.getfield 7, 3) := by decide +kernel
theorem dX10_overdue_4 : decode cX10_overdue 4 = .ok (.iconst 3, 1) := by decide +kernel
theorem dX10_overdue_5 : decode cX10_overdue 5 = .ok (.iaload, 1) := by decide +kernel
theorem dX10_overdue_6 : decode cX10_overdue 6 = .ok (.aload_n 0, 1) := by decide +kernel
theorem dX10_overdue_7 : decode cX10_overdue 7 = .ok (.iload_n 1, 1) := by decide +kernel
theorem dX10_overdue_8 : decode cX10_overdue 8 = .ok (.iconst 1, 1) := by decide +kernel
theorem dX10_overdue_9 : decode cX10_overdue 9 = .ok (.invokevirtual 66, 3) := by decide +kernel
theorem dX10_overdue_12 : decode cX10_overdue 12 = .ok (.isub, 1) := by decide +kernel
theorem dX10_overdue_13 : decode cX10_overdue 13 = .ok (.istore_n 2, 1) := by decide +kernel
theorem dX10_overdue_14 : decode cX10_overdue 14 = .ok (.iload_n 2, 1) := by decide +kernel
theorem dX10_overdue_15 : decode cX10_overdue 15 = .ok (.ifCond .le 7, 3) := by decide +kernel
theorem dX10_overdue_18 : decode cX10_overdue 18 = .ok (.iload_n 2, 1) := by decide +kernel
theorem dX10_overdue_19 : decode cX10_overdue 19 = .ok (.goto 4, 3) := by decide +kernel
theorem dX10_overdue_22 : decode cX10_overdue 22 = .ok (.iconst 0, 1) := by decide +kernel
theorem dX10_overdue_23 : decode cX10_overdue 23 = .ok (.ireturn, 1) := by decide +kernel
theorem dX10_makesLocker_0 : decode cX10_makesLocker 0 = .ok (.iload_n 1, 1) := by decide +kernel
theorem dX10_makesLocker_1 : decode cX10_makesLocker 1 = .ok (.iconst 0, 1) := by decide +kernel
theorem dX10_makesLocker_2 : decode cX10_makesLocker 2 = .ok (.iconst 2, 1) := by decide +kernel
theorem dX10_makesLocker_3 : decode cX10_makesLocker 3 = .ok (.invokestatic 28, 3) := by decide +kernel
theorem dX10_makesLocker_6 : decode cX10_makesLocker 6 = .ok (.ifCond .ne 5, 3) := by decide +kernel
theorem dX10_makesLocker_9 : decode cX10_makesLocker 9 = .ok (.iconst (-1), 1) := by decide +kernel
theorem dX10_makesLocker_10 : decode cX10_makesLocker 10 = .ok (.ireturn, 1) := by decide +kernel
theorem dX10_makesLocker_11 : decode cX10_makesLocker 11 = .ok (.aload_n 0, 1) := by decide +kernel
theorem dX10_makesLocker_12 : decode cX10_makesLocker 12 = .ok (.getfield 7, 3) := by decide +kernel
theorem dX10_makesLocker_15 : decode cX10_makesLocker 15 = .ok (.iconst 4, 1) := by decide +kernel
theorem dX10_makesLocker_16 : decode cX10_makesLocker 16 = .ok (.iaload, 1) := by decide +kernel
theorem dX10_makesLocker_17 : decode cX10_makesLocker 17 = .ok (.bipush 12, 2) := by decide +kernel
theorem dX10_makesLocker_19 : decode cX10_makesLocker 19 = .ok (.if_icmp .ne 6, 3) := by decide +kernel
theorem dX10_makesLocker_22 : decode cX10_makesLocker 22 = .ok (.bipush (-3), 2) := by decide +kernel
theorem dX10_makesLocker_24 : decode cX10_makesLocker 24 = .ok (.ireturn, 1) := by decide +kernel
theorem dX10_makesLocker_25 : decode cX10_makesLocker 25 = .ok (.aload_n 0, 1) := by decide +kernel
theorem dX10_makesLocker_26 : decode cX10_makesLocker 26 = .ok (.getfield 7, 3) := by decide +kernel
theorem dX10_makesLocker_29 : decode cX10_makesLocker 29 = .ok (.iconst 4, 1) := by decide +kernel
theorem dX10_makesLocker_30 : decode cX10_makesLocker 30 = .ok (.iaload, 1) := by decide +kernel
theorem dX10_makesLocker_31 : decode cX10_makesLocker 31 = .ok (.istore_n 2, 1) := by decide +kernel
theorem dX10_makesLocker_32 : decode cX10_makesLocker 32 = .ok (.aload_n 0, 1) := by decide +kernel
theorem dX10_makesLocker_33 : decode cX10_makesLocker 33 = .ok (.iload_n 2, 1) := by decide +kernel
theorem dX10_makesLocker_34 : decode cX10_makesLocker 34 = .ok (.iconst 0, 1) := by decide +kernel
theorem dX10_makesLocker_35 : decode cX10_makesLocker 35 = .ok (.iload_n 1, 1) := by decide +kernel
theorem dX10_makesLocker_36 : decode cX10_makesLocker 36 = .ok (.invokevirtual 44, 3) := by decide +kernel
theorem dX10_makesLocker_39 : decode cX10_makesLocker 39 = .ok (.aload_n 0, 1) := by decide +kernel
theorem dX10_makesLocker_40 : decode cX10_makesLocker 40 = .ok (.iload_n 2, 1) := by decide +kernel
theorem dX10_makesLocker_41 : decode cX10_makesLocker 41 = .ok (.iconst 1, 1) := by decide +kernel
theorem dX10_makesLocker_42 : decode cX10_makesLocker 42 = .ok (.iconst (-1), 1) := by decide +kernel
theorem dX10_makesLocker_43 : decode cX10_makesLocker 43 = .ok (.invokevirtual 44, 3) := by decide +kernel
theorem dX10_makesLocker_46 : decode cX10_makesLocker 46 = .ok (.aload_n 0, 1) := by decide +kernel
theorem dX10_makesLocker_47 : decode cX10_makesLocker 47 = .ok (.iload_n 2, 1) := by decide +kernel
theorem dX10_makesLocker_48 : decode cX10_makesLocker 48 = .ok (.iconst 2, 1) := by decide +kernel
theorem dX10_makesLocker_49 : decode cX10_makesLocker 49 = .ok (.iconst (-1), 1) := by decide +kernel
theorem dX10_makesLocker_50 : decode cX10_makesLocker 50 = .ok (.invokevirtual 44, 3) := by decide +kernel
theorem dX10_makesLocker_53 : decode cX10_makesLocker 53 = .ok (.aload_n 0, 1) := by decide +kernel
theorem dX10_makesLocker_54 : decode cX10_makesLocker 54 = .ok (.iload_n 2, 1) := by decide +kernel
theorem dX10_makesLocker_55 : decode cX10_makesLocker 55 = .ok (.iconst 3, 1) := by decide +kernel
theorem dX10_makesLocker_56 : decode cX10_makesLocker 56 = .ok (.iconst 1, 1) := by decide +kernel
theorem dX10_makesLocker_57 : decode cX10_makesLocker 57 = .ok (.invokevirtual 44, 3) := by decide +kernel
theorem dX10_makesLocker_60 : decode cX10_makesLocker 60 = .ok (.aload_n 0, 1) := by decide +kernel
theorem dX10_makesLocker_61 : decode cX10_makesLocker 61 = .ok (.iload_n 2, 1) := by decide +kernel
theorem dX10_makesLocker_62 : decode cX10_makesLocker 62 = .ok (.iconst 4, 1) := by decide +kernel
theorem dX10_makesLocker_63 : decode cX10_makesLocker 63 = .ok (.iconst (-1), 1) := by decide +kernel
theorem dX10_makesLocker_64 : decode cX10_makesLocker 64 = .ok (.invokevirtual 44, 3) := by decide +kernel
theorem dX10_makesLocker_67 : decode cX10_makesLocker 67 = .ok (.aload_n 0, 1) := by decide +kernel
theorem dX10_makesLocker_68 : decode cX10_makesLocker 68 = .ok (.iload_n 2, 1) := by decide +kernel
theorem dX10_makesLocker_69 : decode cX10_makesLocker 69 = .ok (.iconst 5, 1) := by decide +kernel
theorem dX10_makesLocker_70 : decode cX10_makesLocker 70 = .ok (.iconst 0, 1) := by decide +kernel
theorem dX10_makesLocker_71 : decode cX10_makesLocker 71 = .ok (.invokevirtual 44, 3) := by decide +kernel
theorem dX10_makesLocker_74 : decode cX10_makesLocker 74 = .ok (.aload_n 0, 1) := by decide +kernel
theorem dX10_makesLocker_75 : decode cX10_makesLocker 75 = .ok (.getfield 7, 3) := by decide +kernel
theorem dX10_makesLocker_78 : decode cX10_makesLocker 78 = .ok (.iconst 4, 1) := by decide +kernel
theorem dX10_makesLocker_79 : decode cX10_makesLocker 79 = .ok (.dup2, 1) := by decide +kernel
theorem dX10_makesLocker_80 : decode cX10_makesLocker 80 = .ok (.iaload, 1) := by decide +kernel
theorem dX10_makesLocker_81 : decode cX10_makesLocker 81 = .ok (.iconst 1, 1) := by decide +kernel
theorem dX10_makesLocker_82 : decode cX10_makesLocker 82 = .ok (.iadd, 1) := by decide +kernel
theorem dX10_makesLocker_83 : decode cX10_makesLocker 83 = .ok (.iastore, 1) := by decide +kernel
theorem dX10_makesLocker_84 : decode cX10_makesLocker 84 = .ok (.iload_n 2, 1) := by decide +kernel
theorem dX10_makesLocker_85 : decode cX10_makesLocker 85 = .ok (.ireturn, 1) := by decide +kernel
theorem dX10_makesPerson_0 : decode cX10_makesPerson 0 = .ok (.aload_n 0, 1) := by decide +kernel
theorem dX10_makesPerson_1 : decode cX10_makesPerson 1 = .ok (.getfield 7, 3) := by decide +kernel
theorem dX10_makesPerson_4 : decode cX10_makesPerson 4 = .ok (.iconst 5, 1) := by decide +kernel
theorem dX10_makesPerson_5 : decode cX10_makesPerson 5 = .ok (.iaload, 1) := by decide +kernel
theorem dX10_makesPerson_6 : decode cX10_makesPerson 6 = .ok (.bipush 10, 2) := by decide +kernel
theorem dX10_makesPerson_8 : decode cX10_makesPerson 8 = .ok (.if_icmp .ne 6, 3) := by decide +kernel
theorem dX10_makesPerson_11 : decode cX10_makesPerson 11 = .ok (.bipush (-3), 2) := by decide +kernel
theorem dX10_makesPerson_13 : decode cX10_makesPerson 13 = .ok (.ireturn, 1) := by decide +kernel
theorem dX10_makesPerson_14 : decode cX10_makesPerson 14 = .ok (.aload_n 0, 1) := by decide +kernel
theorem dX10_makesPerson_15 : decode cX10_makesPerson 15 = .ok (.getfield 7, 3) := by decide +kernel
theorem dX10_makesPerson_18 : decode cX10_makesPerson 18 = .ok (.iconst 5, 1) := by decide +kernel
theorem dX10_makesPerson_19 : decode cX10_makesPerson 19 = .ok (.iaload, 1) := by decide +kernel
theorem dX10_makesPerson_20 : decode cX10_makesPerson 20 = .ok (.istore_n 1, 1) := by decide +kernel
theorem dX10_makesPerson_21 : decode cX10_makesPerson 21 = .ok (.iconst 0, 1) := by decide +kernel
theorem dX10_makesPerson_22 : decode cX10_makesPerson 22 = .ok (.istore_n 2, 1) := by decide +kernel
theorem dX10_makesPerson_23 : decode cX10_makesPerson 23 = .ok (.iload_n 2, 1) := by decide +kernel
theorem dX10_makesPerson_24 : decode cX10_makesPerson 24 = .ok (.bipush 8, 2) := by decide +kernel
theorem dX10_makesPerson_26 : decode cX10_makesPerson 26 = .ok (.if_icmp .ge 29, 3) := by decide +kernel
theorem dX10_makesPerson_29 : decode cX10_makesPerson 29 = .ok (.aload_n 0, 1) := by decide +kernel
theorem dX10_makesPerson_30 : decode cX10_makesPerson 30 = .ok (.iload_n 1, 1) := by decide +kernel
theorem dX10_makesPerson_31 : decode cX10_makesPerson 31 = .ok (.iload_n 2, 1) := by decide +kernel
theorem dX10_makesPerson_32 : decode cX10_makesPerson 32 = .ok (.iload_n 2, 1) := by decide +kernel
theorem dX10_makesPerson_33 : decode cX10_makesPerson 33 = .ok (.ifCond .eq 8, 3) := by decide +kernel
theorem dX10_makesPerson_36 : decode cX10_makesPerson 36 = .ok (.iload_n 2, 1) := by decide +kernel
theorem dX10_makesPerson_37 : decode cX10_makesPerson 37 = .ok (.iconst 5, 1) := by decide +kernel
theorem dX10_makesPerson_38 : decode cX10_makesPerson 38 = .ok (.if_icmp .ne 7, 3) := by decide +kernel
theorem dX10_makesPerson_41 : decode cX10_makesPerson 41 = .ok (.iconst (-1), 1) := by decide +kernel
theorem dX10_makesPerson_42 : decode cX10_makesPerson 42 = .ok (.goto 4, 3) := by decide +kernel
theorem dX10_makesPerson_45 : decode cX10_makesPerson 45 = .ok (.iconst 0, 1) := by decide +kernel
theorem dX10_makesPerson_46 : decode cX10_makesPerson 46 = .ok (.invokevirtual 48, 3) := by decide +kernel
theorem dX10_makesPerson_49 : decode cX10_makesPerson 49 = .ok (.iinc 2 1, 3) := by decide +kernel
theorem dX10_makesPerson_52 : decode cX10_makesPerson 52 = .ok (.goto (-29), 3) := by decide +kernel
theorem dX10_makesPerson_55 : decode cX10_makesPerson 55 = .ok (.aload_n 0, 1) := by decide +kernel
theorem dX10_makesPerson_56 : decode cX10_makesPerson 56 = .ok (.getfield 7, 3) := by decide +kernel
theorem dX10_makesPerson_59 : decode cX10_makesPerson 59 = .ok (.iconst 5, 1) := by decide +kernel
theorem dX10_makesPerson_60 : decode cX10_makesPerson 60 = .ok (.dup2, 1) := by decide +kernel
theorem dX10_makesPerson_61 : decode cX10_makesPerson 61 = .ok (.iaload, 1) := by decide +kernel
theorem dX10_makesPerson_62 : decode cX10_makesPerson 62 = .ok (.iconst 1, 1) := by decide +kernel
theorem dX10_makesPerson_63 : decode cX10_makesPerson 63 = .ok (.iadd, 1) := by decide +kernel
theorem dX10_makesPerson_64 : decode cX10_makesPerson 64 = .ok (.iastore, 1) := by decide +kernel
theorem dX10_makesPerson_65 : decode cX10_makesPerson 65 = .ok (.iload_n 1, 1) := by decide +kernel
theorem dX10_makesPerson_66 : decode cX10_makesPerson 66 = .ok (.ireturn, 1) := by decide +kernel
theorem dX10_inRow_0 : decode cX10_inRow 0 = .ok (.iconst 0, 1) := by decide +kernel
theorem dX10_inRow_1 : decode cX10_inRow 1 = .ok (.istore_n 2, 1) := by decide +kernel
theorem dX10_inRow_2 : decode cX10_inRow 2 = .ok (.iconst 0, 1) := by decide +kernel
theorem dX10_inRow_3 : decode cX10_inRow 3 = .ok (.istore_n 3, 1) := by decide +kernel
theorem dX10_inRow_4 : decode cX10_inRow 4 = .ok (.iload_n 3, 1) := by decide +kernel
theorem dX10_inRow_5 : decode cX10_inRow 5 = .ok (.aload_n 0, 1) := by decide +kernel
theorem dX10_inRow_6 : decode cX10_inRow 6 = .ok (.getfield 7, 3) := by decide +kernel
theorem dX10_inRow_9 : decode cX10_inRow 9 = .ok (.iconst 4, 1) := by decide +kernel
theorem dX10_inRow_10 : decode cX10_inRow 10 = .ok (.iaload, 1) := by decide +kernel
theorem dX10_inRow_11 : decode cX10_inRow 11 = .ok (.if_icmp .ge 27, 3) := by decide +kernel
theorem dX10_inRow_14 : decode cX10_inRow 14 = .ok (.iload_n 2, 1) := by decide +kernel
theorem dX10_inRow_15 : decode cX10_inRow 15 = .ok (.aload_n 0, 1) := by decide +kernel
theorem dX10_inRow_16 : decode cX10_inRow 16 = .ok (.iload_n 3, 1) := by decide +kernel
theorem dX10_inRow_17 : decode cX10_inRow 17 = .ok (.iconst 1, 1) := by decide +kernel
theorem dX10_inRow_18 : decode cX10_inRow 18 = .ok (.invokevirtual 36, 3) := by decide +kernel
theorem dX10_inRow_21 : decode cX10_inRow 21 = .ok (.iload_n 1, 1) := by decide +kernel
theorem dX10_inRow_22 : decode cX10_inRow 22 = .ok (.if_icmp .ne 7, 3) := by decide +kernel
theorem dX10_inRow_25 : decode cX10_inRow 25 = .ok (.iconst 1, 1) := by decide +kernel
theorem dX10_inRow_26 : decode cX10_inRow 26 = .ok (.goto 4, 3) := by decide +kernel
theorem dX10_inRow_29 : decode cX10_inRow 29 = .ok (.iconst 0, 1) := by decide +kernel
theorem dX10_inRow_30 : decode cX10_inRow 30 = .ok (.iadd, 1) := by decide +kernel
theorem dX10_inRow_31 : decode cX10_inRow 31 = .ok (.istore_n 2, 1) := by decide +kernel
theorem dX10_inRow_32 : decode cX10_inRow 32 = .ok (.iinc 3 1, 3) := by decide +kernel
theorem dX10_inRow_35 : decode cX10_inRow 35 = .ok (.goto (-31), 3) := by decide +kernel
theorem dX10_inRow_38 : decode cX10_inRow 38 = .ok (.iload_n 2, 1) := by decide +kernel
theorem dX10_inRow_39 : decode cX10_inRow 39 = .ok (.ireturn, 1) := by decide +kernel
theorem dX10_stands_0 : decode cX10_stands 0 = .ok (.aload_n 0, 1) := by decide +kernel
theorem dX10_stands_1 : decode cX10_stands 1 = .ok (.iload_n 1, 1) := by decide +kernel
theorem dX10_stands_2 : decode cX10_stands 2 = .ok (.invokevirtual 72, 3) := by decide +kernel
theorem dX10_stands_5 : decode cX10_stands 5 = .ok (.ifCond .eq 12, 3) := by decide +kernel
theorem dX10_stands_8 : decode cX10_stands 8 = .ok (.iload_n 2, 1) := by decide +kernel
theorem dX10_stands_9 : decode cX10_stands 9 = .ok (.iconst 0, 1) := by decide +kernel
theorem dX10_stands_10 : decode cX10_stands 10 = .ok (.iconst 2, 1) := by decide +kernel
theorem dX10_stands_11 : decode cX10_stands 11 = .ok (.invokestatic 28, 3) := by decide +kernel
theorem dX10_stands_14 : decode cX10_stands 14 = .ok (.ifCond .ne 5, 3) := by decide +kernel
theorem dX10_stands_17 : decode cX10_stands 17 = .ok (.iconst (-1), 1) := by decide +kernel
theorem dX10_stands_18 : decode cX10_stands 18 = .ok (.ireturn, 1) := by decide +kernel
theorem dX10_stands_19 : decode cX10_stands 19 = .ok (.aload_n 0, 1) := by decide +kernel
theorem dX10_stands_20 : decode cX10_stands 20 = .ok (.iload_n 1, 1) := by decide +kernel
theorem dX10_stands_21 : decode cX10_stands 21 = .ok (.iconst 1, 1) := by decide +kernel
theorem dX10_stands_22 : decode cX10_stands 22 = .ok (.invokevirtual 36, 3) := by decide +kernel
theorem dX10_stands_25 : decode cX10_stands 25 = .ok (.ifCond .ge 13, 3) := by decide +kernel
theorem dX10_stands_28 : decode cX10_stands 28 = .ok (.aload_n 0, 1) := by decide +kernel
theorem dX10_stands_29 : decode cX10_stands 29 = .ok (.iload_n 1, 1) := by decide +kernel
theorem dX10_stands_30 : decode cX10_stands 30 = .ok (.iconst 0, 1) := by decide +kernel
theorem dX10_stands_31 : decode cX10_stands 31 = .ok (.invokevirtual 36, 3) := by decide +kernel
theorem dX10_stands_34 : decode cX10_stands 34 = .ok (.iload_n 2, 1) := by decide +kernel
theorem dX10_stands_35 : decode cX10_stands 35 = .ok (.if_icmp .eq 6, 3) := by decide +kernel
theorem dX10_stands_38 : decode cX10_stands 38 = .ok (.bipush (-2), 2) := by decide +kernel
theorem dX10_stands_40 : decode cX10_stands 40 = .ok (.ireturn, 1) := by decide +kernel
theorem dX10_stands_41 : decode cX10_stands 41 = .ok (.aload_n 0, 1) := by decide +kernel
theorem dX10_stands_42 : decode cX10_stands 42 = .ok (.iload_n 2, 1) := by decide +kernel
theorem dX10_stands_43 : decode cX10_stands 43 = .ok (.invokevirtual 75, 3) := by decide +kernel
theorem dX10_stands_46 : decode cX10_stands 46 = .ok (.iconst 4, 1) := by decide +kernel
theorem dX10_stands_47 : decode cX10_stands 47 = .ok (.if_icmp .ne 6, 3) := by decide +kernel
theorem dX10_stands_50 : decode cX10_stands 50 = .ok (.bipush (-3), 2) := by decide +kernel
theorem dX10_stands_52 : decode cX10_stands 52 = .ok (.ireturn, 1) := by decide +kernel
theorem dX10_stands_53 : decode cX10_stands 53 = .ok (.aload_n 0, 1) := by decide +kernel
theorem dX10_stands_54 : decode cX10_stands 54 = .ok (.iload_n 1, 1) := by decide +kernel
theorem dX10_stands_55 : decode cX10_stands 55 = .ok (.iconst 1, 1) := by decide +kernel
theorem dX10_stands_56 : decode cX10_stands 56 = .ok (.iload_n 2, 1) := by decide +kernel
theorem dX10_stands_57 : decode cX10_stands 57 = .ok (.invokevirtual 44, 3) := by decide +kernel
theorem dX10_stands_60 : decode cX10_stands 60 = .ok (.aload_n 0, 1) := by decide +kernel
theorem dX10_stands_61 : decode cX10_stands 61 = .ok (.iload_n 1, 1) := by decide +kernel
theorem dX10_stands_62 : decode cX10_stands 62 = .ok (.invokevirtual 78, 3) := by decide +kernel
theorem dX10_stands_65 : decode cX10_stands 65 = .ok (.aload_n 0, 1) := by decide +kernel
theorem dX10_stands_66 : decode cX10_stands 66 = .ok (.iload_n 2, 1) := by decide +kernel
theorem dX10_stands_67 : decode cX10_stands 67 = .ok (.invokevirtual 75, 3) := by decide +kernel
theorem dX10_stands_70 : decode cX10_stands 70 = .ok (.ireturn, 1) := by decide +kernel
theorem dX10_lends_0 : decode cX10_lends 0 = .ok (.aload_n 0, 1) := by decide +kernel
theorem dX10_lends_1 : decode cX10_lends 1 = .ok (.iload_n 1, 1) := by decide +kernel
theorem dX10_lends_2 : decode cX10_lends 2 = .ok (.invokevirtual 81, 3) := by decide +kernel
theorem dX10_lends_5 : decode cX10_lends 5 = .ok (.ifCond .eq 12, 3) := by decide +kernel
theorem dX10_lends_8 : decode cX10_lends 8 = .ok (.iload_n 2, 1) := by decide +kernel
theorem dX10_lends_9 : decode cX10_lends 9 = .ok (.iconst 0, 1) := by decide +kernel
theorem dX10_lends_10 : decode cX10_lends 10 = .ok (.iconst 3, 1) := by decide +kernel
theorem dX10_lends_11 : decode cX10_lends 11 = .ok (.invokestatic 28, 3) := by decide +kernel
theorem dX10_lends_14 : decode cX10_lends 14 = .ok (.ifCond .ne 5, 3) := by decide +kernel
theorem dX10_lends_17 : decode cX10_lends 17 = .ok (.iconst (-1), 1) := by decide +kernel
theorem dX10_lends_18 : decode cX10_lends 18 = .ok (.ireturn, 1) := by decide +kernel
theorem dX10_lends_19 : decode cX10_lends 19 = .ok (.aload_n 0, 1) := by decide +kernel
theorem dX10_lends_20 : decode cX10_lends 20 = .ok (.iload_n 1, 1) := by decide +kernel
theorem dX10_lends_21 : decode cX10_lends 21 = .ok (.iconst 0, 1) := by decide +kernel
theorem dX10_lends_22 : decode cX10_lends 22 = .ok (.invokevirtual 66, 3) := by decide +kernel
theorem dX10_lends_25 : decode cX10_lends 25 = .ok (.ifCond .ge 22, 3) := by decide +kernel
theorem dX10_lends_28 : decode cX10_lends 28 = .ok (.aload_n 0, 1) := by decide +kernel
theorem dX10_lends_29 : decode cX10_lends 29 = .ok (.iload_n 1, 1) := by decide +kernel
theorem dX10_lends_30 : decode cX10_lends 30 = .ok (.invokevirtual 84, 3) := by decide +kernel
theorem dX10_lends_33 : decode cX10_lends 33 = .ok (.ifCond .ge 14, 3) := by decide +kernel
theorem dX10_lends_36 : decode cX10_lends 36 = .ok (.aload_n 0, 1) := by decide +kernel
theorem dX10_lends_37 : decode cX10_lends 37 = .ok (.iload_n 1, 1) := by decide +kernel
theorem dX10_lends_38 : decode cX10_lends 38 = .ok (.iconst 3, 1) := by decide +kernel
theorem dX10_lends_39 : decode cX10_lends 39 = .ok (.invokevirtual 66, 3) := by decide +kernel
theorem dX10_lends_42 : decode cX10_lends 42 = .ok (.bipush 30, 2) := by decide +kernel
theorem dX10_lends_44 : decode cX10_lends 44 = .ok (.if_icmp .le 6, 3) := by decide +kernel
theorem dX10_lends_47 : decode cX10_lends 47 = .ok (.bipush (-2), 2) := by decide +kernel
