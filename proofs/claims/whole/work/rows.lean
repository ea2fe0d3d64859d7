section
-- ===== PART A: goes FIRST, ahead of the names: the tables' words, and 'selects' of the private methods out of them =====
/-- a private method of a class that the tables say can be made, by its rows of tables_1 -/
def lw_okq (q : MethodName × Nat) : Prop := (q.1.cls ≠ "java/lang/invoke/MethodHandle" ∧ q.1.cls ≠ "java/lang/invoke/VarHandle") ∧ Cond.instantiable q.1.cls q.2 ∈ tables_1 ∧ Cond.privateMethod q.1 ∈ tables_1 ∧ Cond.instanceMethod q.1 ∈ tables_1
theorem lw_p0 : lw_okq (⟨"LockerChains$History", "slot", "(I)LLockerChains$Hall;"⟩, 3) := ⟨⟨by decide +kernel, by decide +kernel⟩, List.mem_of_getElem? (i := 161) (by decide +kernel), List.mem_of_getElem? (i := 263) (by decide +kernel), List.mem_of_getElem? (i := 264) (by decide +kernel)⟩
theorem lw_p1 : lw_okq (⟨"LockerChains$Hall", "lockerAt", "(I)LLockerChains$Locker;"⟩, 10) := ⟨⟨by decide +kernel, by decide +kernel⟩, List.mem_of_getElem? (i := 27) (by decide +kernel), List.mem_of_getElem? (i := 310) (by decide +kernel), List.mem_of_getElem? (i := 311) (by decide +kernel)⟩
theorem lw_p2 : lw_okq (⟨"LockerChains$Hall", "offer", "(LLockerChains$Locker;)V"⟩, 10) := ⟨⟨by decide +kernel, by decide +kernel⟩, List.mem_of_getElem? (i := 27) (by decide +kernel), List.mem_of_getElem? (i := 318) (by decide +kernel), List.mem_of_getElem? (i := 319) (by decide +kernel)⟩
theorem lw_p3 : lw_okq (⟨"LockerChains$Hall", "personAt", "(I)LLockerChains$Person;"⟩, 10) := ⟨⟨by decide +kernel, by decide +kernel⟩, List.mem_of_getElem? (i := 27) (by decide +kernel), List.mem_of_getElem? (i := 326) (by decide +kernel), List.mem_of_getElem? (i := 327) (by decide +kernel)⟩
theorem lw_p4 : lw_okq (⟨"LockerChains$Hall", "beginLoan", "(LLockerChains$Person;LLockerChains$Locker;)V"⟩, 10) := ⟨⟨by decide +kernel, by decide +kernel⟩, List.mem_of_getElem? (i := 27) (by decide +kernel), List.mem_of_getElem? (i := 338) (by decide +kernel), List.mem_of_getElem? (i := 339) (by decide +kernel)⟩
theorem lw_p5 : lw_okq (⟨"LockerChains$Hall", "lowestFree", "(I)LLockerChains$Locker;"⟩, 10) := ⟨⟨by decide +kernel, by decide +kernel⟩, List.mem_of_getElem? (i := 27) (by decide +kernel), List.mem_of_getElem? (i := 354) (by decide +kernel), List.mem_of_getElem? (i := 355) (by decide +kernel)⟩
theorem lw_p6 : lw_okq (⟨"LockerChains$Hall", "endLoan", "(LLockerChains$Person;LLockerChains$Locker;)V"⟩, 10) := ⟨⟨by decide +kernel, by decide +kernel⟩, List.mem_of_getElem? (i := 27) (by decide +kernel), List.mem_of_getElem? (i := 374) (by decide +kernel), List.mem_of_getElem? (i := 375) (by decide +kernel)⟩
theorem lw_p7 : lw_okq (⟨"LockerChains$Hall", "changeLock", "(LLockerChains$Person;LLockerChains$Locker;)V"⟩, 10) := ⟨⟨by decide +kernel, by decide +kernel⟩, List.mem_of_getElem? (i := 27) (by decide +kernel), List.mem_of_getElem? (i := 394) (by decide +kernel), List.mem_of_getElem? (i := 395) (by decide +kernel)⟩
theorem lw_p8 : lw_okq (⟨"LockerChains$Hall", "moveToFree", "()I"⟩, 10) := ⟨⟨by decide +kernel, by decide +kernel⟩, List.mem_of_getElem? (i := 27) (by decide +kernel), List.mem_of_getElem? (i := 426) (by decide +kernel), List.mem_of_getElem? (i := 427) (by decide +kernel)⟩
theorem lw_p9 : lw_okq (⟨"LockerChains$Hall", "lockerOfPerson", "(I)LLockerChains$Locker;"⟩, 10) := ⟨⟨by decide +kernel, by decide +kernel⟩, List.mem_of_getElem? (i := 27) (by decide +kernel), List.mem_of_getElem? (i := 438) (by decide +kernel), List.mem_of_getElem? (i := 439) (by decide +kernel)⟩
theorem lw_p10 : lw_okq (⟨"LockerChains$Hall", "move", "(ILLockerChains$Locker;)V"⟩, 10) := ⟨⟨by decide +kernel, by decide +kernel⟩, List.mem_of_getElem? (i := 27) (by decide +kernel), List.mem_of_getElem? (i := 442) (by decide +kernel), List.mem_of_getElem? (i := 443) (by decide +kernel)⟩
theorem lw_p11 : lw_okq (⟨"LockerChains$Hall", "findRing", "()I"⟩, 10) := ⟨⟨by decide +kernel, by decide +kernel⟩, List.mem_of_getElem? (i := 27) (by decide +kernel), List.mem_of_getElem? (i := 446) (by decide +kernel), List.mem_of_getElem? (i := 447) (by decide +kernel)⟩
theorem lw_p12 : lw_okq (⟨"LockerChains$Hall", "wants", "(LLockerChains$Person;LLockerChains$Person;)Z"⟩, 10) := ⟨⟨by decide +kernel, by decide +kernel⟩, List.mem_of_getElem? (i := 27) (by decide +kernel), List.mem_of_getElem? (i := 450) (by decide +kernel), List.mem_of_getElem? (i := 451) (by decide +kernel)⟩
theorem lw_p13 : lw_okq (⟨"LockerChains$Hall", "moveAround", "(I)V"⟩, 10) := ⟨⟨by decide +kernel, by decide +kernel⟩, List.mem_of_getElem? (i := 27) (by decide +kernel), List.mem_of_getElem? (i := 454) (by decide +kernel), List.mem_of_getElem? (i := 455) (by decide +kernel)⟩
theorem lw_p14 : lw_okq (⟨"LockerChains$Hall", "endClosing", "()V"⟩, 10) := ⟨⟨by decide +kernel, by decide +kernel⟩, List.mem_of_getElem? (i := 27) (by decide +kernel), List.mem_of_getElem? (i := 474) (by decide +kernel), List.mem_of_getElem? (i := 475) (by decide +kernel)⟩
theorem lw_p15 : lw_okq (⟨"LockerChains$Hall", "chargeOverdue", "()I"⟩, 10) := ⟨⟨by decide +kernel, by decide +kernel⟩, List.mem_of_getElem? (i := 27) (by decide +kernel), List.mem_of_getElem? (i := 478) (by decide +kernel), List.mem_of_getElem? (i := 479) (by decide +kernel)⟩
def lw_privs_1 : List (MethodName × Nat) := [(⟨"LockerChains$History", "slot", "(I)LLockerChains$Hall;"⟩, 3), (⟨"LockerChains$Hall", "lockerAt", "(I)LLockerChains$Locker;"⟩, 10), (⟨"LockerChains$Hall", "offer", "(LLockerChains$Locker;)V"⟩, 10), (⟨"LockerChains$Hall", "personAt", "(I)LLockerChains$Person;"⟩, 10), (⟨"LockerChains$Hall", "beginLoan", "(LLockerChains$Person;LLockerChains$Locker;)V"⟩, 10), (⟨"LockerChains$Hall", "lowestFree", "(I)LLockerChains$Locker;"⟩, 10), (⟨"LockerChains$Hall", "endLoan", "(LLockerChains$Person;LLockerChains$Locker;)V"⟩, 10), (⟨"LockerChains$Hall", "changeLock", "(LLockerChains$Person;LLockerChains$Locker;)V"⟩, 10), (⟨"LockerChains$Hall", "moveToFree", "()I"⟩, 10), (⟨"LockerChains$Hall", "lockerOfPerson", "(I)LLockerChains$Locker;"⟩, 10), (⟨"LockerChains$Hall", "move", "(ILLockerChains$Locker;)V"⟩, 10), (⟨"LockerChains$Hall", "findRing", "()I"⟩, 10), (⟨"LockerChains$Hall", "wants", "(LLockerChains$Person;LLockerChains$Person;)Z"⟩, 10), (⟨"LockerChains$Hall", "moveAround", "(I)V"⟩, 10), (⟨"LockerChains$Hall", "endClosing", "()V"⟩, 10), (⟨"LockerChains$Hall", "chargeOverdue", "()I"⟩, 10)]
theorem lw_r1 : ∀ q ∈ lw_privs_1, lw_okq q := List.forall_mem_cons.mpr ⟨lw_p0, List.forall_mem_cons.mpr ⟨lw_p1, List.forall_mem_cons.mpr ⟨lw_p2, List.forall_mem_cons.mpr ⟨lw_p3, List.forall_mem_cons.mpr ⟨lw_p4, List.forall_mem_cons.mpr ⟨lw_p5, List.forall_mem_cons.mpr ⟨lw_p6, List.forall_mem_cons.mpr ⟨lw_p7, List.forall_mem_cons.mpr ⟨lw_p8, List.forall_mem_cons.mpr ⟨lw_p9, List.forall_mem_cons.mpr ⟨lw_p10, List.forall_mem_cons.mpr ⟨lw_p11, List.forall_mem_cons.mpr ⟨lw_p12, List.forall_mem_cons.mpr ⟨lw_p13, List.forall_mem_cons.mpr ⟨lw_p14, List.forall_mem_cons.mpr ⟨lw_p15, fun _ h => absurd h List.not_mem_nil⟩⟩⟩⟩⟩⟩⟩⟩⟩⟩⟩⟩⟩⟩⟩⟩
theorem lw_p16 : lw_okq (⟨"LockerChains$Hall", "freeLockers", "()I"⟩, 10) := ⟨⟨by decide +kernel, by decide +kernel⟩, List.mem_of_getElem? (i := 27) (by decide +kernel), List.mem_of_getElem? (i := 532) (by decide +kernel), List.mem_of_getElem? (i := 533) (by decide +kernel)⟩
theorem lw_p17 : lw_okq (⟨"LockerChains$Hall", "closedLockers", "()I"⟩, 10) := ⟨⟨by decide +kernel, by decide +kernel⟩, List.mem_of_getElem? (i := 27) (by decide +kernel), List.mem_of_getElem? (i := 540) (by decide +kernel), List.mem_of_getElem? (i := 541) (by decide +kernel)⟩
theorem lw_p18 : lw_okq (⟨"LockerChains$Hall", "owedByAll", "()I"⟩, 10) := ⟨⟨by decide +kernel, by decide +kernel⟩, List.mem_of_getElem? (i := 27) (by decide +kernel), List.mem_of_getElem? (i := 544) (by decide +kernel), List.mem_of_getElem? (i := 545) (by decide +kernel)⟩
theorem lw_p19 : lw_okq (⟨"LockerChains$Hall", "paidByAll", "()I"⟩, 10) := ⟨⟨by decide +kernel, by decide +kernel⟩, List.mem_of_getElem? (i := 27) (by decide +kernel), List.mem_of_getElem? (i := 548) (by decide +kernel), List.mem_of_getElem? (i := 549) (by decide +kernel)⟩
theorem lw_p20 : lw_okq (⟨"LockerChains$Hall", "tellSetting", "(I)I"⟩, 10) := ⟨⟨by decide +kernel, by decide +kernel⟩, List.mem_of_getElem? (i := 27) (by decide +kernel), List.mem_of_getElem? (i := 552) (by decide +kernel), List.mem_of_getElem? (i := 553) (by decide +kernel)⟩
theorem lw_p21 : lw_okq (⟨"LockerChains$Text", "verbAt", "(I)LLockerChains$Verb;"⟩, 6) := ⟨⟨by decide +kernel, by decide +kernel⟩, List.mem_of_getElem? (i := 181) (by decide +kernel), List.mem_of_getElem? (i := 637) (by decide +kernel), List.mem_of_getElem? (i := 638) (by decide +kernel)⟩
theorem lw_p22 : lw_okq (⟨"LockerChains$Text", "hasWordAt", "(ILjava/lang/String;)Z"⟩, 6) := ⟨⟨by decide +kernel, by decide +kernel⟩, List.mem_of_getElem? (i := 181) (by decide +kernel), List.mem_of_getElem? (i := 643) (by decide +kernel), List.mem_of_getElem? (i := 644) (by decide +kernel)⟩
theorem lw_p23 : lw_okq (⟨"LockerChains$Text", "signAt", "(I)C"⟩, 6) := ⟨⟨by decide +kernel, by decide +kernel⟩, List.mem_of_getElem? (i := 181) (by decide +kernel), List.mem_of_getElem? (i := 657) (by decide +kernel), List.mem_of_getElem? (i := 658) (by decide +kernel)⟩
theorem lw_p24 : lw_okq (⟨"LockerChains$Text", "readNumber", "()I"⟩, 6) := ⟨⟨by decide +kernel, by decide +kernel⟩, List.mem_of_getElem? (i := 181) (by decide +kernel), List.mem_of_getElem? (i := 699) (by decide +kernel), List.mem_of_getElem? (i := 700) (by decide +kernel)⟩
theorem lw_p25 : lw_okq (⟨"LockerChains$Rehearsal", "noteFault", "(III)V"⟩, 5) := ⟨⟨by decide +kernel, by decide +kernel⟩, List.mem_of_getElem? (i := 213) (by decide +kernel), List.mem_of_getElem? (i := 703) (by decide +kernel), List.mem_of_getElem? (i := 704) (by decide +kernel)⟩
theorem lw_p26 : lw_okq (⟨"LockerChains$Rehearsal", "obey", "(LLockerChains$Verb;II)I"⟩, 5) := ⟨⟨by decide +kernel, by decide +kernel⟩, List.mem_of_getElem? (i := 213) (by decide +kernel), List.mem_of_getElem? (i := 707) (by decide +kernel), List.mem_of_getElem? (i := 708) (by decide +kernel)⟩
theorem lw_p27 : lw_okq (⟨"LockerChainsModel", "begins", "()V"⟩, 12) := ⟨⟨by decide +kernel, by decide +kernel⟩, List.mem_of_getElem? (i := 734) (by decide +kernel), List.mem_of_getElem? (i := 781) (by decide +kernel), List.mem_of_getElem? (i := 782) (by decide +kernel)⟩
theorem lw_p28 : lw_okq (⟨"LockerChainsModel", "makesLocker", "(I)I"⟩, 12) := ⟨⟨by decide +kernel, by decide +kernel⟩, List.mem_of_getElem? (i := 734) (by decide +kernel), List.mem_of_getElem? (i := 785) (by decide +kernel), List.mem_of_getElem? (i := 786) (by decide +kernel)⟩
theorem lw_p29 : lw_okq (⟨"LockerChainsModel", "lay", "(III)V"⟩, 12) := ⟨⟨by decide +kernel, by decide +kernel⟩, List.mem_of_getElem? (i := 734) (by decide +kernel), List.mem_of_getElem? (i := 792) (by decide +kernel), List.mem_of_getElem? (i := 793) (by decide +kernel)⟩
theorem lw_p30 : lw_okq (⟨"LockerChainsModel", "acted", "(I)I"⟩, 12) := ⟨⟨by decide +kernel, by decide +kernel⟩, List.mem_of_getElem? (i := 734) (by decide +kernel), List.mem_of_getElem? (i := 796) (by decide +kernel), List.mem_of_getElem? (i := 797) (by decide +kernel)⟩
theorem lw_p31 : lw_okq (⟨"LockerChainsModel", "makesPerson", "()I"⟩, 12) := ⟨⟨by decide +kernel, by decide +kernel⟩, List.mem_of_getElem? (i := 734) (by decide +kernel), List.mem_of_getElem? (i := 804) (by decide +kernel), List.mem_of_getElem? (i := 805) (by decide +kernel)⟩
def lw_privs_2 : List (MethodName × Nat) := [(⟨"LockerChains$Hall", "freeLockers", "()I"⟩, 10), (⟨"LockerChains$Hall", "closedLockers", "()I"⟩, 10), (⟨"LockerChains$Hall", "owedByAll", "()I"⟩, 10), (⟨"LockerChains$Hall", "paidByAll", "()I"⟩, 10), (⟨"LockerChains$Hall", "tellSetting", "(I)I"⟩, 10), (⟨"LockerChains$Text", "verbAt", "(I)LLockerChains$Verb;"⟩, 6), (⟨"LockerChains$Text", "hasWordAt", "(ILjava/lang/String;)Z"⟩, 6), (⟨"LockerChains$Text", "signAt", "(I)C"⟩, 6), (⟨"LockerChains$Text", "readNumber", "()I"⟩, 6), (⟨"LockerChains$Rehearsal", "noteFault", "(III)V"⟩, 5), (⟨"LockerChains$Rehearsal", "obey", "(LLockerChains$Verb;II)I"⟩, 5), (⟨"LockerChainsModel", "begins", "()V"⟩, 12), (⟨"LockerChainsModel", "makesLocker", "(I)I"⟩, 12), (⟨"LockerChainsModel", "lay", "(III)V"⟩, 12), (⟨"LockerChainsModel", "acted", "(I)I"⟩, 12), (⟨"LockerChainsModel", "makesPerson", "()I"⟩, 12)]
theorem lw_r2 : ∀ q ∈ lw_privs_2, lw_okq q := List.forall_mem_cons.mpr ⟨lw_p16, List.forall_mem_cons.mpr ⟨lw_p17, List.forall_mem_cons.mpr ⟨lw_p18, List.forall_mem_cons.mpr ⟨lw_p19, List.forall_mem_cons.mpr ⟨lw_p20, List.forall_mem_cons.mpr ⟨lw_p21, List.forall_mem_cons.mpr ⟨lw_p22, List.forall_mem_cons.mpr ⟨lw_p23, List.forall_mem_cons.mpr ⟨lw_p24, List.forall_mem_cons.mpr ⟨lw_p25, List.forall_mem_cons.mpr ⟨lw_p26, List.forall_mem_cons.mpr ⟨lw_p27, List.forall_mem_cons.mpr ⟨lw_p28, List.forall_mem_cons.mpr ⟨lw_p29, List.forall_mem_cons.mpr ⟨lw_p30, List.forall_mem_cons.mpr ⟨lw_p31, fun _ h => absurd h List.not_mem_nil⟩⟩⟩⟩⟩⟩⟩⟩⟩⟩⟩⟩⟩⟩⟩⟩
theorem lw_p32 : lw_okq (⟨"LockerChainsModel", "layP", "(III)V"⟩, 12) := ⟨⟨by decide +kernel, by decide +kernel⟩, List.mem_of_getElem? (i := 734) (by decide +kernel), List.mem_of_getElem? (i := 808) (by decide +kernel), List.mem_of_getElem? (i := 809) (by decide +kernel)⟩
theorem lw_p33 : lw_okq (⟨"LockerChainsModel", "stands", "(II)I"⟩, 12) := ⟨⟨by decide +kernel, by decide +kernel⟩, List.mem_of_getElem? (i := 734) (by decide +kernel), List.mem_of_getElem? (i := 816) (by decide +kernel), List.mem_of_getElem? (i := 817) (by decide +kernel)⟩
theorem lw_p34 : lw_okq (⟨"LockerChainsModel", "isLocker", "(I)Z"⟩, 12) := ⟨⟨by decide +kernel, by decide +kernel⟩, List.mem_of_getElem? (i := 734) (by decide +kernel), List.mem_of_getElem? (i := 820) (by decide +kernel), List.mem_of_getElem? (i := 821) (by decide +kernel)⟩
theorem lw_p35 : lw_okq (⟨"LockerChainsModel", "of", "(II)I"⟩, 12) := ⟨⟨by decide +kernel, by decide +kernel⟩, List.mem_of_getElem? (i := 734) (by decide +kernel), List.mem_of_getElem? (i := 824) (by decide +kernel), List.mem_of_getElem? (i := 825) (by decide +kernel)⟩
theorem lw_p36 : lw_okq (⟨"LockerChainsModel", "inRow", "(I)I"⟩, 12) := ⟨⟨by decide +kernel, by decide +kernel⟩, List.mem_of_getElem? (i := 734) (by decide +kernel), List.mem_of_getElem? (i := 828) (by decide +kernel), List.mem_of_getElem? (i := 829) (by decide +kernel)⟩
theorem lw_p37 : lw_okq (⟨"LockerChainsModel", "frees", "(I)V"⟩, 12) := ⟨⟨by decide +kernel, by decide +kernel⟩, List.mem_of_getElem? (i := 734) (by decide +kernel), List.mem_of_getElem? (i := 832) (by decide +kernel), List.mem_of_getElem? (i := 833) (by decide +kernel)⟩
theorem lw_p38 : lw_okq (⟨"LockerChainsModel", "isFree", "(I)Z"⟩, 12) := ⟨⟨by decide +kernel, by decide +kernel⟩, List.mem_of_getElem? (i := 734) (by decide +kernel), List.mem_of_getElem? (i := 836) (by decide +kernel), List.mem_of_getElem? (i := 837) (by decide +kernel)⟩
theorem lw_p39 : lw_okq (⟨"LockerChainsModel", "firstWaiting", "(I)I"⟩, 12) := ⟨⟨by decide +kernel, by decide +kernel⟩, List.mem_of_getElem? (i := 734) (by decide +kernel), List.mem_of_getElem? (i := 840) (by decide +kernel), List.mem_of_getElem? (i := 841) (by decide +kernel)⟩
theorem lw_p40 : lw_okq (⟨"LockerChainsModel", "waitsNoMore", "(I)V"⟩, 12) := ⟨⟨by decide +kernel, by decide +kernel⟩, List.mem_of_getElem? (i := 734) (by decide +kernel), List.mem_of_getElem? (i := 844) (by decide +kernel), List.mem_of_getElem? (i := 845) (by decide +kernel)⟩
theorem lw_p41 : lw_okq (⟨"LockerChainsModel", "beginsLoan", "(II)V"⟩, 12) := ⟨⟨by decide +kernel, by decide +kernel⟩, List.mem_of_getElem? (i := 734) (by decide +kernel), List.mem_of_getElem? (i := 848) (by decide +kernel), List.mem_of_getElem? (i := 849) (by decide +kernel)⟩
theorem lw_p42 : lw_okq (⟨"LockerChainsModel", "has", "(II)V"⟩, 12) := ⟨⟨by decide +kernel, by decide +kernel⟩, List.mem_of_getElem? (i := 734) (by decide +kernel), List.mem_of_getElem? (i := 852) (by decide +kernel), List.mem_of_getElem? (i := 853) (by decide +kernel)⟩
theorem lw_p43 : lw_okq (⟨"LockerChainsModel", "lends", "(II)I"⟩, 12) := ⟨⟨by decide +kernel, by decide +kernel⟩, List.mem_of_getElem? (i := 734) (by decide +kernel), List.mem_of_getElem? (i := 860) (by decide +kernel), List.mem_of_getElem? (i := 861) (by decide +kernel)⟩
theorem lw_p44 : lw_okq (⟨"LockerChainsModel", "isPerson", "(I)Z"⟩, 12) := ⟨⟨by decide +kernel, by decide +kernel⟩, List.mem_of_getElem? (i := 734) (by decide +kernel), List.mem_of_getElem? (i := 864) (by decide +kernel), List.mem_of_getElem? (i := 865) (by decide +kernel)⟩
theorem lw_p45 : lw_okq (⟨"LockerChainsModel", "ofP", "(II)I"⟩, 12) := ⟨⟨by decide +kernel, by decide +kernel⟩, List.mem_of_getElem? (i := 734) (by decide +kernel), List.mem_of_getElem? (i := 868) (by decide +kernel), List.mem_of_getElem? (i := 869) (by decide +kernel)⟩
theorem lw_p46 : lw_okq (⟨"LockerChainsModel", "placeOf", "(I)I"⟩, 12) := ⟨⟨by decide +kernel, by decide +kernel⟩, List.mem_of_getElem? (i := 734) (by decide +kernel), List.mem_of_getElem? (i := 872) (by decide +kernel), List.mem_of_getElem? (i := 873) (by decide +kernel)⟩
theorem lw_p47 : lw_okq (⟨"LockerChainsModel", "lowestFree", "(I)I"⟩, 12) := ⟨⟨by decide +kernel, by decide +kernel⟩, List.mem_of_getElem? (i := 734) (by decide +kernel), List.mem_of_getElem? (i := 876) (by decide +kernel), List.mem_of_getElem? (i := 877) (by decide +kernel)⟩
def lw_privs_3 : List (MethodName × Nat) := [(⟨"LockerChainsModel", "layP", "(III)V"⟩, 12), (⟨"LockerChainsModel", "stands", "(II)I"⟩, 12), (⟨"LockerChainsModel", "isLocker", "(I)Z"⟩, 12), (⟨"LockerChainsModel", "of", "(II)I"⟩, 12), (⟨"LockerChainsModel", "inRow", "(I)I"⟩, 12), (⟨"LockerChainsModel", "frees", "(I)V"⟩, 12), (⟨"LockerChainsModel", "isFree", "(I)Z"⟩, 12), (⟨"LockerChainsModel", "firstWaiting", "(I)I"⟩, 12), (⟨"LockerChainsModel", "waitsNoMore", "(I)V"⟩, 12), (⟨"LockerChainsModel", "beginsLoan", "(II)V"⟩, 12), (⟨"LockerChainsModel", "has", "(II)V"⟩, 12), (⟨"LockerChainsModel", "lends", "(II)I"⟩, 12), (⟨"LockerChainsModel", "isPerson", "(I)Z"⟩, 12), (⟨"LockerChainsModel", "ofP", "(II)I"⟩, 12), (⟨"LockerChainsModel", "placeOf", "(I)I"⟩, 12), (⟨"LockerChainsModel", "lowestFree", "(I)I"⟩, 12)]
theorem lw_r3 : ∀ q ∈ lw_privs_3, lw_okq q := List.forall_mem_cons.mpr ⟨lw_p32, List.forall_mem_cons.mpr ⟨lw_p33, List.forall_mem_cons.mpr ⟨lw_p34, List.forall_mem_cons.mpr ⟨lw_p35, List.forall_mem_cons.mpr ⟨lw_p36, List.forall_mem_cons.mpr ⟨lw_p37, List.forall_mem_cons.mpr ⟨lw_p38, List.forall_mem_cons.mpr ⟨lw_p39, List.forall_mem_cons.mpr ⟨lw_p40, List.forall_mem_cons.mpr ⟨lw_p41, List.forall_mem_cons.mpr ⟨lw_p42, List.forall_mem_cons.mpr ⟨lw_p43, List.forall_mem_cons.mpr ⟨lw_p44, List.forall_mem_cons.mpr ⟨lw_p45, List.forall_mem_cons.mpr ⟨lw_p46, List.forall_mem_cons.mpr ⟨lw_p47, fun _ h => absurd h List.not_mem_nil⟩⟩⟩⟩⟩⟩⟩⟩⟩⟩⟩⟩⟩⟩⟩⟩
theorem lw_p48 : lw_okq (⟨"LockerChainsModel", "waitsFor", "(II)V"⟩, 12) := ⟨⟨by decide +kernel, by decide +kernel⟩, List.mem_of_getElem? (i := 734) (by decide +kernel), List.mem_of_getElem? (i := 880) (by decide +kernel), List.mem_of_getElem? (i := 881) (by decide +kernel)⟩
theorem lw_p49 : lw_okq (⟨"LockerChainsModel", "givesBack", "(I)I"⟩, 12) := ⟨⟨by decide +kernel, by decide +kernel⟩, List.mem_of_getElem? (i := 734) (by decide +kernel), List.mem_of_getElem? (i := 888) (by decide +kernel), List.mem_of_getElem? (i := 889) (by decide +kernel)⟩
theorem lw_p50 : lw_okq (⟨"LockerChainsModel", "overdue", "(I)I"⟩, 12) := ⟨⟨by decide +kernel, by decide +kernel⟩, List.mem_of_getElem? (i := 734) (by decide +kernel), List.mem_of_getElem? (i := 892) (by decide +kernel), List.mem_of_getElem? (i := 893) (by decide +kernel)⟩
theorem lw_p51 : lw_okq (⟨"LockerChainsModel", "endsLoan", "(I)I"⟩, 12) := ⟨⟨by decide +kernel, by decide +kernel⟩, List.mem_of_getElem? (i := 734) (by decide +kernel), List.mem_of_getElem? (i := 896) (by decide +kernel), List.mem_of_getElem? (i := 897) (by decide +kernel)⟩
theorem lw_p52 : lw_okq (⟨"LockerChainsModel", "endsWish", "(I)V"⟩, 12) := ⟨⟨by decide +kernel, by decide +kernel⟩, List.mem_of_getElem? (i := 734) (by decide +kernel), List.mem_of_getElem? (i := 900) (by decide +kernel), List.mem_of_getElem? (i := 901) (by decide +kernel)⟩
theorem lw_p53 : lw_okq (⟨"LockerChainsModel", "renews", "(I)I"⟩, 12) := ⟨⟨by decide +kernel, by decide +kernel⟩, List.mem_of_getElem? (i := 734) (by decide +kernel), List.mem_of_getElem? (i := 908) (by decide +kernel), List.mem_of_getElem? (i := 909) (by decide +kernel)⟩
theorem lw_p54 : lw_okq (⟨"LockerChainsModel", "loses", "(I)I"⟩, 12) := ⟨⟨by decide +kernel, by decide +kernel⟩, List.mem_of_getElem? (i := 734) (by decide +kernel), List.mem_of_getElem? (i := 916) (by decide +kernel), List.mem_of_getElem? (i := 917) (by decide +kernel)⟩
theorem lw_p55 : lw_okq (⟨"LockerChainsModel", "owes", "(II)V"⟩, 12) := ⟨⟨by decide +kernel, by decide +kernel⟩, List.mem_of_getElem? (i := 734) (by decide +kernel), List.mem_of_getElem? (i := 920) (by decide +kernel), List.mem_of_getElem? (i := 921) (by decide +kernel)⟩
theorem lw_p56 : lw_okq (⟨"LockerChainsModel", "changesLock", "(I)V"⟩, 12) := ⟨⟨by decide +kernel, by decide +kernel⟩, List.mem_of_getElem? (i := 734) (by decide +kernel), List.mem_of_getElem? (i := 924) (by decide +kernel), List.mem_of_getElem? (i := 925) (by decide +kernel)⟩
theorem lw_p57 : lw_okq (⟨"LockerChainsModel", "wishes", "(II)I"⟩, 12) := ⟨⟨by decide +kernel, by decide +kernel⟩, List.mem_of_getElem? (i := 734) (by decide +kernel), List.mem_of_getElem? (i := 932) (by decide +kernel), List.mem_of_getElem? (i := 933) (by decide +kernel)⟩
theorem lw_p58 : lw_okq (⟨"LockerChainsModel", "wishesNoMore", "(I)I"⟩, 12) := ⟨⟨by decide +kernel, by decide +kernel⟩, List.mem_of_getElem? (i := 734) (by decide +kernel), List.mem_of_getElem? (i := 940) (by decide +kernel), List.mem_of_getElem? (i := 941) (by decide +kernel)⟩
theorem lw_p59 : lw_okq (⟨"LockerChainsModel", "swaps", "()I"⟩, 12) := ⟨⟨by decide +kernel, by decide +kernel⟩, List.mem_of_getElem? (i := 734) (by decide +kernel), List.mem_of_getElem? (i := 948) (by decide +kernel), List.mem_of_getElem? (i := 949) (by decide +kernel)⟩
theorem lw_p60 : lw_okq (⟨"LockerChainsModel", "takesFree", "()Z"⟩, 12) := ⟨⟨by decide +kernel, by decide +kernel⟩, List.mem_of_getElem? (i := 734) (by decide +kernel), List.mem_of_getElem? (i := 952) (by decide +kernel), List.mem_of_getElem? (i := 953) (by decide +kernel)⟩
theorem lw_p61 : lw_okq (⟨"LockerChainsModel", "moves", "(II)V"⟩, 12) := ⟨⟨by decide +kernel, by decide +kernel⟩, List.mem_of_getElem? (i := 734) (by decide +kernel), List.mem_of_getElem? (i := 956) (by decide +kernel), List.mem_of_getElem? (i := 957) (by decide +kernel)⟩
theorem lw_p62 : lw_okq (⟨"LockerChainsModel", "takesRing", "()I"⟩, 12) := ⟨⟨by decide +kernel, by decide +kernel⟩, List.mem_of_getElem? (i := 734) (by decide +kernel), List.mem_of_getElem? (i := 960) (by decide +kernel), List.mem_of_getElem? (i := 961) (by decide +kernel)⟩
theorem lw_p63 : lw_okq (⟨"LockerChainsModel", "thirdOf", "(II)I"⟩, 12) := ⟨⟨by decide +kernel, by decide +kernel⟩, List.mem_of_getElem? (i := 734) (by decide +kernel), List.mem_of_getElem? (i := 964) (by decide +kernel), List.mem_of_getElem? (i := 965) (by decide +kernel)⟩
def lw_privs_4 : List (MethodName × Nat) := [(⟨"LockerChainsModel", "waitsFor", "(II)V"⟩, 12), (⟨"LockerChainsModel", "givesBack", "(I)I"⟩, 12), (⟨"LockerChainsModel", "overdue", "(I)I"⟩, 12), (⟨"LockerChainsModel", "endsLoan", "(I)I"⟩, 12), (⟨"LockerChainsModel", "endsWish", "(I)V"⟩, 12), (⟨"LockerChainsModel", "renews", "(I)I"⟩, 12), (⟨"LockerChainsModel", "loses", "(I)I"⟩, 12), (⟨"LockerChainsModel", "owes", "(II)V"⟩, 12), (⟨"LockerChainsModel", "changesLock", "(I)V"⟩, 12), (⟨"LockerChainsModel", "wishes", "(II)I"⟩, 12), (⟨"LockerChainsModel", "wishesNoMore", "(I)I"⟩, 12), (⟨"LockerChainsModel", "swaps", "()I"⟩, 12), (⟨"LockerChainsModel", "takesFree", "()Z"⟩, 12), (⟨"LockerChainsModel", "moves", "(II)V"⟩, 12), (⟨"LockerChainsModel", "takesRing", "()I"⟩, 12), (⟨"LockerChainsModel", "thirdOf", "(II)I"⟩, 12)]
theorem lw_r4 : ∀ q ∈ lw_privs_4, lw_okq q := List.forall_mem_cons.mpr ⟨lw_p48, List.forall_mem_cons.mpr ⟨lw_p49, List.forall_mem_cons.mpr ⟨lw_p50, List.forall_mem_cons.mpr ⟨lw_p51, List.forall_mem_cons.mpr ⟨lw_p52, List.forall_mem_cons.mpr ⟨lw_p53, List.forall_mem_cons.mpr ⟨lw_p54, List.forall_mem_cons.mpr ⟨lw_p55, List.forall_mem_cons.mpr ⟨lw_p56, List.forall_mem_cons.mpr ⟨lw_p57, List.forall_mem_cons.mpr ⟨lw_p58, List.forall_mem_cons.mpr ⟨lw_p59, List.forall_mem_cons.mpr ⟨lw_p60, List.forall_mem_cons.mpr ⟨lw_p61, List.forall_mem_cons.mpr ⟨lw_p62, List.forall_mem_cons.mpr ⟨lw_p63, fun _ h => absurd h List.not_mem_nil⟩⟩⟩⟩⟩⟩⟩⟩⟩⟩⟩⟩⟩⟩⟩⟩
theorem lw_p64 : lw_okq (⟨"LockerChainsModel", "wants", "(II)Z"⟩, 12) := ⟨⟨by decide +kernel, by decide +kernel⟩, List.mem_of_getElem? (i := 734) (by decide +kernel), List.mem_of_getElem? (i := 968) (by decide +kernel), List.mem_of_getElem? (i := 969) (by decide +kernel)⟩
theorem lw_p65 : lw_okq (⟨"LockerChainsModel", "goesRound", "(III)I"⟩, 12) := ⟨⟨by decide +kernel, by decide +kernel⟩, List.mem_of_getElem? (i := 734) (by decide +kernel), List.mem_of_getElem? (i := 972) (by decide +kernel), List.mem_of_getElem? (i := 973) (by decide +kernel)⟩
theorem lw_p66 : lw_okq (⟨"LockerChainsModel", "pays", "(II)I"⟩, 12) := ⟨⟨by decide +kernel, by decide +kernel⟩, List.mem_of_getElem? (i := 734) (by decide +kernel), List.mem_of_getElem? (i := 980) (by decide +kernel), List.mem_of_getElem? (i := 981) (by decide +kernel)⟩
theorem lw_p67 : lw_okq (⟨"LockerChainsModel", "passes", "(I)I"⟩, 12) := ⟨⟨by decide +kernel, by decide +kernel⟩, List.mem_of_getElem? (i := 734) (by decide +kernel), List.mem_of_getElem? (i := 988) (by decide +kernel), List.mem_of_getElem? (i := 989) (by decide +kernel)⟩
theorem lw_p68 : lw_okq (⟨"LockerChainsModel", "passDays", "(I)I"⟩, 12) := ⟨⟨by decide +kernel, by decide +kernel⟩, List.mem_of_getElem? (i := 734) (by decide +kernel), List.mem_of_getElem? (i := 992) (by decide +kernel), List.mem_of_getElem? (i := 993) (by decide +kernel)⟩
theorem lw_p69 : lw_okq (⟨"LockerChainsModel", "dayPasses", "()I"⟩, 12) := ⟨⟨by decide +kernel, by decide +kernel⟩, List.mem_of_getElem? (i := 734) (by decide +kernel), List.mem_of_getElem? (i := 996) (by decide +kernel), List.mem_of_getElem? (i := 997) (by decide +kernel)⟩
theorem lw_p70 : lw_okq (⟨"LockerChainsModel", "sets", "(II)I"⟩, 12) := ⟨⟨by decide +kernel, by decide +kernel⟩, List.mem_of_getElem? (i := 734) (by decide +kernel), List.mem_of_getElem? (i := 1007) (by decide +kernel), List.mem_of_getElem? (i := 1008) (by decide +kernel)⟩
theorem lw_p71 : lw_okq (⟨"LockerChainsModel", "lockersThat", "(I)I"⟩, 12) := ⟨⟨by decide +kernel, by decide +kernel⟩, List.mem_of_getElem? (i := 734) (by decide +kernel), List.mem_of_getElem? (i := 1036) (by decide +kernel), List.mem_of_getElem? (i := 1037) (by decide +kernel)⟩
theorem lw_p72 : lw_okq (⟨"LockerChainsModel", "debts", "()I"⟩, 12) := ⟨⟨by decide +kernel, by decide +kernel⟩, List.mem_of_getElem? (i := 734) (by decide +kernel), List.mem_of_getElem? (i := 1040) (by decide +kernel), List.mem_of_getElem? (i := 1041) (by decide +kernel)⟩
theorem lw_p73 : lw_okq (⟨"LockerChainsModel", "layAside", "()V"⟩, 12) := ⟨⟨by decide +kernel, by decide +kernel⟩, List.mem_of_getElem? (i := 734) (by decide +kernel), List.mem_of_getElem? (i := 1048) (by decide +kernel), List.mem_of_getElem? (i := 1049) (by decide +kernel)⟩
theorem lw_p74 : lw_okq (⟨"LockerChainsModel", "bringBack", "()V"⟩, 12) := ⟨⟨by decide +kernel, by decide +kernel⟩, List.mem_of_getElem? (i := 734) (by decide +kernel), List.mem_of_getElem? (i := 1052) (by decide +kernel), List.mem_of_getElem? (i := 1053) (by decide +kernel)⟩
theorem lw_p75 : lw_okq (⟨"LockerChainsModel", "does", "()I"⟩, 12) := ⟨⟨by decide +kernel, by decide +kernel⟩, List.mem_of_getElem? (i := 734) (by decide +kernel), List.mem_of_getElem? (i := 1105) (by decide +kernel), List.mem_of_getElem? (i := 1106) (by decide +kernel)⟩
theorem lw_p76 : lw_okq (⟨"LockerChainsModel", "command", "()I"⟩, 12) := ⟨⟨by decide +kernel, by decide +kernel⟩, List.mem_of_getElem? (i := 734) (by decide +kernel), List.mem_of_getElem? (i := 1109) (by decide +kernel), List.mem_of_getElem? (i := 1110) (by decide +kernel)⟩
theorem lw_p77 : lw_okq (⟨"LockerChainsModel", "readWord", "()I"⟩, 12) := ⟨⟨by decide +kernel, by decide +kernel⟩, List.mem_of_getElem? (i := 734) (by decide +kernel), List.mem_of_getElem? (i := 1113) (by decide +kernel), List.mem_of_getElem? (i := 1114) (by decide +kernel)⟩
theorem lw_p78 : lw_okq (⟨"LockerChainsModel", "here", "()I"⟩, 12) := ⟨⟨by decide +kernel, by decide +kernel⟩, List.mem_of_getElem? (i := 734) (by decide +kernel), List.mem_of_getElem? (i := 1117) (by decide +kernel), List.mem_of_getElem? (i := 1118) (by decide +kernel)⟩
theorem lw_p79 : lw_okq (⟨"LockerChainsModel", "readNumber", "()I"⟩, 12) := ⟨⟨by decide +kernel, by decide +kernel⟩, List.mem_of_getElem? (i := 734) (by decide +kernel), List.mem_of_getElem? (i := 1132) (by decide +kernel), List.mem_of_getElem? (i := 1133) (by decide +kernel)⟩
def lw_privs_5 : List (MethodName × Nat) := [(⟨"LockerChainsModel", "wants", "(II)Z"⟩, 12), (⟨"LockerChainsModel", "goesRound", "(III)I"⟩, 12), (⟨"LockerChainsModel", "pays", "(II)I"⟩, 12), (⟨"LockerChainsModel", "passes", "(I)I"⟩, 12), (⟨"LockerChainsModel", "passDays", "(I)I"⟩, 12), (⟨"LockerChainsModel", "dayPasses", "()I"⟩, 12), (⟨"LockerChainsModel", "sets", "(II)I"⟩, 12), (⟨"LockerChainsModel", "lockersThat", "(I)I"⟩, 12), (⟨"LockerChainsModel", "debts", "()I"⟩, 12), (⟨"LockerChainsModel", "layAside", "()V"⟩, 12), (⟨"LockerChainsModel", "bringBack", "()V"⟩, 12), (⟨"LockerChainsModel", "does", "()I"⟩, 12), (⟨"LockerChainsModel", "command", "()I"⟩, 12), (⟨"LockerChainsModel", "readWord", "()I"⟩, 12), (⟨"LockerChainsModel", "here", "()I"⟩, 12), (⟨"LockerChainsModel", "readNumber", "()I"⟩, 12)]
theorem lw_r5 : ∀ q ∈ lw_privs_5, lw_okq q := List.forall_mem_cons.mpr ⟨lw_p64, List.forall_mem_cons.mpr ⟨lw_p65, List.forall_mem_cons.mpr ⟨lw_p66, List.forall_mem_cons.mpr ⟨lw_p67, List.forall_mem_cons.mpr ⟨lw_p68, List.forall_mem_cons.mpr ⟨lw_p69, List.forall_mem_cons.mpr ⟨lw_p70, List.forall_mem_cons.mpr ⟨lw_p71, List.forall_mem_cons.mpr ⟨lw_p72, List.forall_mem_cons.mpr ⟨lw_p73, List.forall_mem_cons.mpr ⟨lw_p74, List.forall_mem_cons.mpr ⟨lw_p75, List.forall_mem_cons.mpr ⟨lw_p76, List.forall_mem_cons.mpr ⟨lw_p77, List.forall_mem_cons.mpr ⟨lw_p78, List.forall_mem_cons.mpr ⟨lw_p79, fun _ h => absurd h List.not_mem_nil⟩⟩⟩⟩⟩⟩⟩⟩⟩⟩⟩⟩⟩⟩⟩⟩
theorem lw_p80 : lw_okq (⟨"LockerChainsModel", "must", "(I)V"⟩, 12) := ⟨⟨by decide +kernel, by decide +kernel⟩, List.mem_of_getElem? (i := 734) (by decide +kernel), List.mem_of_getElem? (i := 1136) (by decide +kernel), List.mem_of_getElem? (i := 1137) (by decide +kernel)⟩
def lw_privs_6 : List (MethodName × Nat) := [(⟨"LockerChainsModel", "must", "(I)V"⟩, 12)]
theorem lw_r6 : ∀ q ∈ lw_privs_6, lw_okq q := List.forall_mem_cons.mpr ⟨lw_p80, fun _ h => absurd h List.not_mem_nil⟩
def lw_privs : List (MethodName × Nat) := lw_privs_1 ++ (lw_privs_2 ++ (lw_privs_3 ++ (lw_privs_4 ++ (lw_privs_5 ++ (lw_privs_6)))))
def lw_tbl : List Cond := k2_sels lw_privs ++ tables_1
theorem lw_privs_ok : ∀ q ∈ lw_privs, lw_okq q := by
  show ∀ q ∈ lw_privs_1 ++ (lw_privs_2 ++ (lw_privs_3 ++ (lw_privs_4 ++ (lw_privs_5 ++ (lw_privs_6))))), lw_okq q
  exact List.forall_mem_append.mpr ⟨lw_r1, List.forall_mem_append.mpr ⟨lw_r2, List.forall_mem_append.mpr ⟨lw_r3, List.forall_mem_append.mpr ⟨lw_r4, List.forall_mem_append.mpr ⟨lw_r5, lw_r6⟩⟩⟩⟩⟩
/-- the streams that the claim lets the run draw from -/
abbrev lw_cs : List Choice := [Jvm.Choice.named "NaN.bits"]
theorem lw_bits : nanBits ∈ lw_cs := by first | decide | exact List.mem_cons_self | simp [lw_cs, nanBits]
-- ===== end of PART A; then your names; then what follows =====
end
section
/-! ===== BEGIN words of one list among another's, by their places ===== -/
theorem goodIn_r {big : List Cond} (ws : List Cond) (ps : List Nat) (hp : ws = ps.filterMap (fun i => big[i]?)) (h : ws.all goodWord = true) : GoodIn big ws := by
  intro w hw
  have h1 := List.all_eq_true.mp h w hw
  rw [hp] at hw
  obtain ⟨i, -, hi⟩ := List.mem_filterMap.mp hw
  have hm : w ∈ big := by first | exact List.mem_of_getElem? hi | exact List.getElem?_mem hi
  exact ⟨hm, good_of_word h1⟩
theorem goodIn_app {big a b : List Cond} (ha : GoodIn big a) (hb : GoodIn big b) : GoodIn big (a ++ b) := fun w h => (List.mem_append.mp h).elim (ha w) (hb w)
theorem goodIn_ca {big a b : List Cond} {c : Cond} (ha : GoodIn big (c :: a)) (hb : GoodIn big b) : GoodIn big (c :: (a ++ b)) := fun w h => (List.mem_cons.mp h).elim (fun e => ha w (List.mem_cons.mpr (Or.inl e))) (fun h => (List.mem_append.mp h).elim (fun h => ha w (List.mem_cons.mpr (Or.inr h))) (hb w))
theorem goodIn_sub {big ws : List Cond} (hm : ∀ w ∈ ws, w ∈ big) (h : ws.all goodWord = true) : GoodIn big ws := fun w hw => ⟨hm w hw, good_of_word (List.all_eq_true.mp h w hw)⟩
/-! ===== END ===== -/

/-! ===== BEGIN printed: names, fields, word lists, decode rows ===== -/
def RX0 : String := "LockerChains$1"
def TX0 : u_T := fun k => match k with
  | _ => ("", "", "", false)
def tyX0 : Nat → FieldType := fun k => match k with
  | _ => .int
theorem nmX0 : ∀ a, a < 0 → ∀ b, b < 0 → a ≠ b → (TX0 a).2.1 ≠ (TX0 b).2.1 := by decide +kernel
theorem tyX0_ok : ∀ k, k < 0 → parseFieldDescriptor (TX0 k).2.2.1 = some (tyX0 k) := by decide +kernel
def RX1 : String := "LockerChains$Hall"
def TX1 : u_T := fun k => match k with
  | 0 => ("LockerChains$Hall", "lockers", "[LLockerChains$Locker;", true)
  | 1 => ("LockerChains$Hall", "people", "[LLockerChains$Person;", true)
  | 2 => ("LockerChains$Hall", "waiting", "LLockerChains$Line;", true)
  | 3 => ("LockerChains$Hall", "wishes", "LLockerChains$Line;", true)
  | 4 => ("LockerChains$Hall", "settings", "[I", true)
  | 5 => ("LockerChains$Hall", "ring", "[I", true)
  | 6 => ("LockerChains$Hall", "lockerCount", "I", false)
  | 7 => ("LockerChains$Hall", "personCount", "I", false)
  | 8 => ("LockerChains$Hall", "day", "I", false)
  | _ => ("LockerChains$Hall", "moved", "I", false)
def tyX1 : Nat → FieldType := fun k => match k with
  | 0 => .array (.object "LockerChains$Locker")
  | 1 => .array (.object "LockerChains$Person")
  | 2 => .object "LockerChains$Line"
  | 3 => .object "LockerChains$Line"
  | 4 => .array .int
  | 5 => .array .int
  | 6 => .int
  | 7 => .int
  | 8 => .int
  | _ => .int
theorem nmX1 : ∀ a, a < 10 → ∀ b, b < 10 → a ≠ b → (TX1 a).2.1 ≠ (TX1 b).2.1 := by decide +kernel
theorem tyX1_ok : ∀ k, k < 10 → parseFieldDescriptor (TX1 k).2.2.1 = some (tyX1 k) := by decide +kernel
abbrev cX1_init : ByteArray := prog_3_method_1_code
def yX1_init : MethodName := ⟨RX1, "<init>", "()V"⟩
abbrev cX1_copyFrom : ByteArray := prog_3_method_2_code
def yX1_copyFrom : MethodName := ⟨RX1, "copyFrom", "(LLockerChains$Hall;)V"⟩
abbrev cX1_lockerAt : ByteArray := prog_3_method_3_code
def yX1_lockerAt : MethodName := ⟨RX1, "lockerAt", "(I)LLockerChains$Locker;"⟩
abbrev cX1_personAt : ByteArray := prog_3_method_4_code
def yX1_personAt : MethodName := ⟨RX1, "personAt", "(I)LLockerChains$Person;"⟩
abbrev cX1_lockerOfPerson : ByteArray := prog_3_method_5_code
def yX1_lockerOfPerson : MethodName := ⟨RX1, "lockerOfPerson", "(I)LLockerChains$Locker;"⟩
abbrev cX1_addLocker : ByteArray := prog_3_method_6_code
def yX1_addLocker : MethodName := ⟨RX1, "addLocker", "(I)I"⟩
abbrev cX1_addPerson : ByteArray := prog_3_method_7_code
def yX1_addPerson : MethodName := ⟨RX1, "addPerson", "()I"⟩
abbrev cX1_putIntoRow : ByteArray := prog_3_method_8_code
def yX1_putIntoRow : MethodName := ⟨RX1, "putIntoRow", "(II)I"⟩
abbrev cX1_lendTo : ByteArray := prog_3_method_9_code
def yX1_lendTo : MethodName := ⟨RX1, "lendTo", "(II)I"⟩
abbrev cX1_takeBack : ByteArray := prog_3_method_10_code
def yX1_takeBack : MethodName := ⟨RX1, "takeBack", "(I)I"⟩
abbrev cX1_prolong : ByteArray := prog_3_method_11_code
def yX1_prolong : MethodName := ⟨RX1, "prolong", "(I)I"⟩
abbrev cX1_loseKey : ByteArray := prog_3_method_12_code
def yX1_loseKey : MethodName := ⟨RX1, "loseKey", "(I)I"⟩
abbrev cX1_changeLock : ByteArray := prog_3_method_13_code
def yX1_changeLock : MethodName := ⟨RX1, "changeLock", "(LLockerChains$Person;LLockerChains$Locker;)V"⟩
abbrev cX1_wishFor : ByteArray := prog_3_method_14_code
def yX1_wishFor : MethodName := ⟨RX1, "wishFor", "(II)I"⟩
abbrev cX1_endWish : ByteArray := prog_3_method_15_code
def yX1_endWish : MethodName := ⟨RX1, "endWish", "(I)I"⟩
abbrev cX1_swapAll : ByteArray := prog_3_method_16_code
def yX1_swapAll : MethodName := ⟨RX1, "swapAll", "()I"⟩
abbrev cX1_moveToFree : ByteArray := prog_3_method_17_code
def yX1_moveToFree : MethodName := ⟨RX1, "moveToFree", "()I"⟩
abbrev cX1_findRing : ByteArray := prog_3_method_18_code
def yX1_findRing : MethodName := ⟨RX1, "findRing", "()I"⟩
abbrev cX1_wants : ByteArray := prog_3_method_19_code
def yX1_wants : MethodName := ⟨RX1, "wants", "(LLockerChains$Person;LLockerChains$Person;)Z"⟩
abbrev cX1_moveAround : ByteArray := prog_3_method_20_code
def yX1_moveAround : MethodName := ⟨RX1, "moveAround", "(I)V"⟩
abbrev cX1_payCoins : ByteArray := prog_3_method_21_code
def yX1_payCoins : MethodName := ⟨RX1, "payCoins", "(II)I"⟩
abbrev cX1_passDays : ByteArray := prog_3_method_22_code
def yX1_passDays : MethodName := ⟨RX1, "passDays", "(II)I"⟩
abbrev cX1_endClosing : ByteArray := prog_3_method_23_code
def yX1_endClosing : MethodName := ⟨RX1, "endClosing", "()V"⟩
abbrev cX1_chargeOverdue : ByteArray := prog_3_method_24_code
def yX1_chargeOverdue : MethodName := ⟨RX1, "chargeOverdue", "()I"⟩
abbrev cX1_feeOfDay : ByteArray := prog_3_method_25_code
def yX1_feeOfDay : MethodName := ⟨RX1, "feeOfDay", "(I)I"⟩
abbrev cX1_changeSetting : ByteArray := prog_3_method_26_code
def yX1_changeSetting : MethodName := ⟨RX1, "changeSetting", "(II)I"⟩
abbrev cX1_lowestSetting : ByteArray := prog_3_method_27_code
def yX1_lowestSetting : MethodName := ⟨RX1, "lowestSetting", "(I)I"⟩
abbrev cX1_highestSetting : ByteArray := prog_3_method_28_code
def yX1_highestSetting : MethodName := ⟨RX1, "highestSetting", "(I)I"⟩
abbrev cX1_lowestFree : ByteArray := prog_3_method_29_code
def yX1_lowestFree : MethodName := ⟨RX1, "lowestFree", "(I)LLockerChains$Locker;"⟩
abbrev cX1_offer : ByteArray := prog_3_method_30_code
def yX1_offer : MethodName := ⟨RX1, "offer", "(LLockerChains$Locker;)V"⟩
abbrev cX1_beginLoan : ByteArray := prog_3_method_31_code
def yX1_beginLoan : MethodName := ⟨RX1, "beginLoan", "(LLockerChains$Person;LLockerChains$Locker;)V"⟩
abbrev cX1_endLoan : ByteArray := prog_3_method_32_code
def yX1_endLoan : MethodName := ⟨RX1, "endLoan", "(LLockerChains$Person;LLockerChains$Locker;)V"⟩
abbrev cX1_move : ByteArray := prog_3_method_33_code
def yX1_move : MethodName := ⟨RX1, "move", "(ILLockerChains$Locker;)V"⟩
abbrev cX1_tellOfPerson : ByteArray := prog_3_method_34_code
def yX1_tellOfPerson : MethodName := ⟨RX1, "tellOfPerson", "(II)I"⟩
abbrev cX1_tellOfLocker : ByteArray := prog_3_method_35_code
def yX1_tellOfLocker : MethodName := ⟨RX1, "tellOfLocker", "(II)I"⟩
abbrev cX1_foundOr : ByteArray := prog_3_method_36_code
def yX1_foundOr : MethodName := ⟨RX1, "foundOr", "(I)I"⟩
abbrev cX1_tellNumber : ByteArray := prog_3_method_37_code
def yX1_tellNumber : MethodName := ⟨RX1, "tellNumber", "(I)I"⟩
abbrev cX1_tellSetting : ByteArray := prog_3_method_38_code
def yX1_tellSetting : MethodName := ⟨RX1, "tellSetting", "(I)I"⟩
abbrev cX1_standingOf : ByteArray := prog_3_method_39_code
def yX1_standingOf : MethodName := ⟨RX1, "standingOf", "(I)I"⟩
abbrev cX1_lentLockers : ByteArray := prog_3_method_40_code
def yX1_lentLockers : MethodName := ⟨RX1, "lentLockers", "()I"⟩
abbrev cX1_freeLockers : ByteArray := prog_3_method_41_code
def yX1_freeLockers : MethodName := ⟨RX1, "freeLockers", "()I"⟩
abbrev cX1_closedLockers : ByteArray := prog_3_method_42_code
def yX1_closedLockers : MethodName := ⟨RX1, "closedLockers", "()I"⟩
abbrev cX1_owedByAll : ByteArray := prog_3_method_43_code
def yX1_owedByAll : MethodName := ⟨RX1, "owedByAll", "()I"⟩
abbrev cX1_paidByAll : ByteArray := prog_3_method_44_code
def yX1_paidByAll : MethodName := ⟨RX1, "paidByAll", "()I"⟩
abbrev cX1_overdueDays : ByteArray := prog_3_method_45_code
def yX1_overdueDays : MethodName := ⟨RX1, "overdueDays", "()I"⟩
def RX2 : String := "LockerChains$History"
def TX2 : u_T := fun k => match k with
  | 0 => ("LockerChains$History", "slots", "[LLockerChains$Hall;", true)
  | 1 => ("LockerChains$History", "oldest", "I", false)
  | _ => ("LockerChains$History", "states", "I", false)
def tyX2 : Nat → FieldType := fun k => match k with
  | 0 => .array (.object "LockerChains$Hall")
  | 1 => .int
  | _ => .int
theorem nmX2 : ∀ a, a < 3 → ∀ b, b < 3 → a ≠ b → (TX2 a).2.1 ≠ (TX2 b).2.1 := by decide +kernel
theorem tyX2_ok : ∀ k, k < 3 → parseFieldDescriptor (TX2 k).2.2.1 = some (tyX2 k) := by decide +kernel
abbrev cX2_init : ByteArray := prog_4_method_1_code
def yX2_init : MethodName := ⟨RX2, "<init>", "()V"⟩
abbrev cX2_slot : ByteArray := prog_4_method_2_code
def yX2_slot : MethodName := ⟨RX2, "slot", "(I)LLockerChains$Hall;"⟩
abbrev cX2_prepare : ByteArray := prog_4_method_3_code
def yX2_prepare : MethodName := ⟨RX2, "prepare", "(LLockerChains$Hall;)V"⟩
abbrev cX2_settle : ByteArray := prog_4_method_4_code
def yX2_settle : MethodName := ⟨RX2, "settle", "(I)I"⟩
abbrev cX2_restore : ByteArray := prog_4_method_5_code
def yX2_restore : MethodName := ⟨RX2, "restore", "(LLockerChains$Hall;)I"⟩
def RX3 : String := "LockerChains$Line"
def TX3 : u_T := fun k => match k with
  | 0 => ("LockerChains$Line", "people", "[I", true)
  | 1 => ("LockerChains$Line", "sizes", "[I", true)
  | _ => ("LockerChains$Line", "length", "I", false)
def tyX3 : Nat → FieldType := fun k => match k with
  | 0 => .array .int
  | 1 => .array .int
  | _ => .int
theorem nmX3 : ∀ a, a < 3 → ∀ b, b < 3 → a ≠ b → (TX3 a).2.1 ≠ (TX3 b).2.1 := by decide +kernel
theorem tyX3_ok : ∀ k, k < 3 → parseFieldDescriptor (TX3 k).2.2.1 = some (tyX3 k) := by decide +kernel
abbrev cX3_init : ByteArray := prog_5_method_1_code
def yX3_init : MethodName := ⟨RX3, "<init>", "()V"⟩
abbrev cX3_personAt : ByteArray := prog_5_method_2_code
def yX3_personAt : MethodName := ⟨RX3, "personAt", "(I)I"⟩
abbrev cX3_sizeAt : ByteArray := prog_5_method_3_code
def yX3_sizeAt : MethodName := ⟨RX3, "sizeAt", "(I)I"⟩
abbrev cX3_placeOf : ByteArray := prog_5_method_4_code
def yX3_placeOf : MethodName := ⟨RX3, "placeOf", "(I)I"⟩
abbrev cX3_sizeOf : ByteArray := prog_5_method_5_code
def yX3_sizeOf : MethodName := ⟨RX3, "sizeOf", "(I)I"⟩
abbrev cX3_firstFor : ByteArray := prog_5_method_6_code
def yX3_firstFor : MethodName := ⟨RX3, "firstFor", "(I)I"⟩
abbrev cX3_add : ByteArray := prog_5_method_7_code
def yX3_add : MethodName := ⟨RX3, "add", "(II)V"⟩
abbrev cX3_remove : ByteArray := prog_5_method_8_code
def yX3_remove : MethodName := ⟨RX3, "remove", "(I)V"⟩
abbrev cX3_copyFrom : ByteArray := prog_5_method_9_code
def yX3_copyFrom : MethodName := ⟨RX3, "copyFrom", "(LLockerChains$Line;)V"⟩
def RX4 : String := "LockerChains$Locker"
def TX4 : u_T := fun k => match k with
  | 0 => ("LockerChains$Locker", "number", "I", true)
  | 1 => ("LockerChains$Locker", "size", "I", false)
  | 2 => ("LockerChains$Locker", "standing", "Z", false)
  | 3 => ("LockerChains$Locker", "holder", "I", false)
  | 4 => ("LockerChains$Locker", "spareKey", "Z", false)
  | 5 => ("LockerChains$Locker", "opensOn", "I", false)
  | _ => ("LockerChains$Locker", "timesLent", "I", false)
def tyX4 : Nat → FieldType := fun k => match k with
  | 0 => .int
  | 1 => .int
  | 2 => .boolean
  | 3 => .int
  | 4 => .boolean
  | 5 => .int
  | _ => .int
theorem nmX4 : ∀ a, a < 7 → ∀ b, b < 7 → a ≠ b → (TX4 a).2.1 ≠ (TX4 b).2.1 := by decide +kernel
theorem tyX4_ok : ∀ k, k < 7 → parseFieldDescriptor (TX4 k).2.2.1 = some (tyX4 k) := by decide +kernel
abbrev cX4_init : ByteArray := prog_6_method_1_code
def yX4_init : MethodName := ⟨RX4, "<init>", "(I)V"⟩
abbrev cX4_isFree : ByteArray := prog_6_method_2_code
def yX4_isFree : MethodName := ⟨RX4, "isFree", "()Z"⟩
abbrev cX4_copyFrom : ByteArray := prog_6_method_3_code
def yX4_copyFrom : MethodName := ⟨RX4, "copyFrom", "(LLockerChains$Locker;)V"⟩
def RX5 : String := "LockerChains$Person"
def TX5 : u_T := fun k => match k with
  | 0 => ("LockerChains$Person", "number", "I", true)
  | 1 => ("LockerChains$Person", "locker", "I", false)
  | 2 => ("LockerChains$Person", "due", "I", false)
  | 3 => ("LockerChains$Person", "renewals", "I", false)
  | 4 => ("LockerChains$Person", "owed", "I", false)
  | 5 => ("LockerChains$Person", "paid", "I", false)
  | 6 => ("LockerChains$Person", "keysLost", "I", false)
  | _ => ("LockerChains$Person", "lockersOpened", "I", false)
def tyX5 : Nat → FieldType := fun k => match k with
  | 0 => .int
  | 1 => .int
  | 2 => .int
  | 3 => .int
  | 4 => .int
  | 5 => .int
  | 6 => .int
  | _ => .int
theorem nmX5 : ∀ a, a < 8 → ∀ b, b < 8 → a ≠ b → (TX5 a).2.1 ≠ (TX5 b).2.1 := by decide +kernel
theorem tyX5_ok : ∀ k, k < 8 → parseFieldDescriptor (TX5 k).2.2.1 = some (tyX5 k) := by decide +kernel
abbrev cX5_init : ByteArray := prog_7_method_1_code
def yX5_init : MethodName := ⟨RX5, "<init>", "(I)V"⟩
abbrev cX5_overdueOn : ByteArray := prog_7_method_2_code
def yX5_overdueOn : MethodName := ⟨RX5, "overdueOn", "(I)I"⟩
abbrev cX5_copyFrom : ByteArray := prog_7_method_3_code
def yX5_copyFrom : MethodName := ⟨RX5, "copyFrom", "(LLockerChains$Person;)V"⟩
def RX6 : String := "LockerChains$Rehearsal"
def TX6 : u_T := fun k => match k with
  | 0 => ("LockerChains$Rehearsal", "trial", "LLockerChains$Hall;", true)
  | 1 => ("LockerChains$Rehearsal", "place", "I", false)
  | 2 => ("LockerChains$Rehearsal", "reason", "I", false)
  | 3 => ("LockerChains$Rehearsal", "cause", "I", false)
  | _ => ("LockerChains$Rehearsal", "commands", "I", false)
def tyX6 : Nat → FieldType := fun k => match k with
  | 0 => .object "LockerChains$Hall"
  | 1 => .int
  | 2 => .int
  | 3 => .int
  | _ => .int
theorem nmX6 : ∀ a, a < 5 → ∀ b, b < 5 → a ≠ b → (TX6 a).2.1 ≠ (TX6 b).2.1 := by decide +kernel
theorem tyX6_ok : ∀ k, k < 5 → parseFieldDescriptor (TX6 k).2.2.1 = some (tyX6 k) := by decide +kernel
abbrev cX6_init : ByteArray := prog_8_method_1_code
def yX6_init : MethodName := ⟨RX6, "<init>", "()V"⟩
abbrev cX6_feeOf : ByteArray := prog_8_method_2_code
def yX6_feeOf : MethodName := ⟨RX6, "feeOf", "(LLockerChains$Hall;II)I"⟩
abbrev cX6_lockerBehindSwapping : ByteArray := prog_8_method_3_code
def yX6_lockerBehindSwapping : MethodName := ⟨RX6, "lockerBehindSwapping", "(LLockerChains$Hall;I)I"⟩
abbrev cX6_playText : ByteArray := prog_8_method_4_code
def yX6_playText : MethodName := ⟨RX6, "playText", "(LLockerChains$Hall;LLockerChains$Text;)V"⟩
abbrev cX6_failed : ByteArray := prog_8_method_5_code
def yX6_failed : MethodName := ⟨RX6, "failed", "()Z"⟩
abbrev cX6_noteFault : ByteArray := prog_8_method_6_code
def yX6_noteFault : MethodName := ⟨RX6, "noteFault", "(III)V"⟩
abbrev cX6_obey : ByteArray := prog_8_method_7_code
def yX6_obey : MethodName := ⟨RX6, "obey", "(LLockerChains$Verb;II)I"⟩
def RX7 : String := "LockerChains$Text"
def TX7 : u_T := fun k => match k with
  | 0 => ("LockerChains$Text", "signs", "[C", true)
  | 1 => ("LockerChains$Text", "length", "I", false)
  | 2 => ("LockerChains$Text", "verb", "LLockerChains$Verb;", false)
  | 3 => ("LockerChains$Text", "first", "I", false)
  | 4 => ("LockerChains$Text", "second", "I", false)
  | _ => ("LockerChains$Text", "end", "I", false)
def tyX7 : Nat → FieldType := fun k => match k with
  | 0 => .array .char
  | 1 => .int
  | 2 => .object "LockerChains$Verb"
  | 3 => .int
  | 4 => .int
  | _ => .int
theorem nmX7 : ∀ a, a < 6 → ∀ b, b < 6 → a ≠ b → (TX7 a).2.1 ≠ (TX7 b).2.1 := by decide +kernel
theorem tyX7_ok : ∀ k, k < 6 → parseFieldDescriptor (TX7 k).2.2.1 = some (tyX7 k) := by decide +kernel
abbrev cX7_init : ByteArray := prog_9_method_1_code
def yX7_init : MethodName := ⟨RX7, "<init>", "()V"⟩
abbrev cX7_append : ByteArray := prog_9_method_2_code
def yX7_append : MethodName := ⟨RX7, "append", "(I)I"⟩
abbrev cX7_clear : ByteArray := prog_9_method_3_code
def yX7_clear : MethodName := ⟨RX7, "clear", "()I"⟩
abbrev cX7_readCommand : ByteArray := prog_9_method_4_code
def yX7_readCommand : MethodName := ⟨RX7, "readCommand", "(I)Z"⟩
abbrev cX7_verbAt : ByteArray := prog_9_method_5_code
def yX7_verbAt : MethodName := ⟨RX7, "verbAt", "(I)LLockerChains$Verb;"⟩
abbrev cX7_hasWordAt : ByteArray := prog_9_method_6_code
def yX7_hasWordAt : MethodName := ⟨RX7, "hasWordAt", "(ILjava/lang/String;)Z"⟩
abbrev cX7_readNumber : ByteArray := prog_9_method_7_code
def yX7_readNumber : MethodName := ⟨RX7, "readNumber", "()I"⟩
abbrev cX7_signAt : ByteArray := prog_9_method_8_code
def yX7_signAt : MethodName := ⟨RX7, "signAt", "(I)C"⟩
def RX8 : String := "LockerChains$Verb"
def TX8 : u_T := fun k => match k with
  | _ => ("", "", "", false)
def tyX8 : Nat → FieldType := fun k => match k with
  | _ => .int
theorem nmX8 : ∀ a, a < 0 → ∀ b, b < 0 → a ≠ b → (TX8 a).2.1 ≠ (TX8 b).2.1 := by decide +kernel
theorem tyX8_ok : ∀ k, k < 0 → parseFieldDescriptor (TX8 k).2.2.1 = some (tyX8 k) := by decide +kernel
def RX9 : String := "LockerChains"
def TX9 : u_T := fun k => match k with
  | 0 => ("LockerChains", "hall", "LLockerChains$Hall;", true)
  | 1 => ("LockerChains", "history", "LLockerChains$History;", true)
  | 2 => ("LockerChains", "text", "LLockerChains$Text;", true)
  | _ => ("LockerChains", "rehearsal", "LLockerChains$Rehearsal;", true)
def tyX9 : Nat → FieldType := fun k => match k with
  | 0 => .object "LockerChains$Hall"
  | 1 => .object "LockerChains$History"
  | 2 => .object "LockerChains$Text"
  | _ => .object "LockerChains$Rehearsal"
theorem nmX9 : ∀ a, a < 4 → ∀ b, b < 4 → a ≠ b → (TX9 a).2.1 ≠ (TX9 b).2.1 := by decide +kernel
theorem tyX9_ok : ∀ k, k < 4 → parseFieldDescriptor (TX9 k).2.2.1 = some (tyX9 k) := by decide +kernel
abbrev cX9_init : ByteArray := prog_1_method_1_code
def yX9_init : MethodName := ⟨RX9, "<init>", "()V"⟩
abbrev cX9_locker : ByteArray := prog_1_method_2_code
def yX9_locker : MethodName := ⟨RX9, "locker", "(I)I"⟩
abbrev cX9_person : ByteArray := prog_1_method_3_code
def yX9_person : MethodName := ⟨RX9, "person", "()I"⟩
abbrev cX9_stand : ByteArray := prog_1_method_4_code
def yX9_stand : MethodName := ⟨RX9, "stand", "(II)I"⟩
abbrev cX9_lend : ByteArray := prog_1_method_5_code
def yX9_lend : MethodName := ⟨RX9, "lend", "(II)I"⟩
abbrev cX9_giveBack : ByteArray := prog_1_method_6_code
def yX9_giveBack : MethodName := ⟨RX9, "giveBack", "(I)I"⟩
abbrev cX9_renew : ByteArray := prog_1_method_7_code
def yX9_renew : MethodName := ⟨RX9, "renew", "(I)I"⟩
abbrev cX9_lose : ByteArray := prog_1_method_8_code
def yX9_lose : MethodName := ⟨RX9, "lose", "(I)I"⟩
abbrev cX9_wish : ByteArray := prog_1_method_9_code
def yX9_wish : MethodName := ⟨RX9, "wish", "(II)I"⟩
abbrev cX9_noWish : ByteArray := prog_1_method_10_code
def yX9_noWish : MethodName := ⟨RX9, "noWish", "(I)I"⟩
abbrev cX9_swap : ByteArray := prog_1_method_11_code
def yX9_swap : MethodName := ⟨RX9, "swap", "()I"⟩
abbrev cX9_pay : ByteArray := prog_1_method_12_code
def yX9_pay : MethodName := ⟨RX9, "pay", "(II)I"⟩
abbrev cX9_pass : ByteArray := prog_1_method_13_code
def yX9_pass : MethodName := ⟨RX9, "pass", "(I)I"⟩
abbrev cX9_set : ByteArray := prog_1_method_14_code
def yX9_set : MethodName := ⟨RX9, "set", "(II)I"⟩
abbrev cX9_personOf : ByteArray := prog_1_method_15_code
def yX9_personOf : MethodName := ⟨RX9, "personOf", "(II)I"⟩
abbrev cX9_lockerOf : ByteArray := prog_1_method_16_code
def yX9_lockerOf : MethodName := ⟨RX9, "lockerOf", "(II)I"⟩
abbrev cX9_waitingAt : ByteArray := prog_1_method_17_code
def yX9_waitingAt : MethodName := ⟨RX9, "waitingAt", "(II)I"⟩
abbrev cX9_count : ByteArray := prog_1_method_18_code
def yX9_count : MethodName := ⟨RX9, "count", "(I)I"⟩
abbrev cX9_feeIn : ByteArray := prog_1_method_19_code
def yX9_feeIn : MethodName := ⟨RX9, "feeIn", "(II)I"⟩
abbrev cX9_wouldHave : ByteArray := prog_1_method_20_code
def yX9_wouldHave : MethodName := ⟨RX9, "wouldHave", "(I)I"⟩
abbrev cX9_lentBits : ByteArray := prog_1_method_21_code
def yX9_lentBits : MethodName := ⟨RX9, "lentBits", "()J"⟩
abbrev cX9_overdueBits : ByteArray := prog_1_method_22_code
def yX9_overdueBits : MethodName := ⟨RX9, "overdueBits", "()I"⟩
abbrev cX9_undo : ByteArray := prog_1_method_23_code
def yX9_undo : MethodName := ⟨RX9, "undo", "()I"⟩
abbrev cX9_type : ByteArray := prog_1_method_24_code
def yX9_type : MethodName := ⟨RX9, "type", "(I)I"⟩
abbrev cX9_clearText : ByteArray := prog_1_method_25_code
def yX9_clearText : MethodName := ⟨RX9, "clearText", "()I"⟩
abbrev cX9_fault : ByteArray := prog_1_method_26_code
def yX9_fault : MethodName := ⟨RX9, "fault", "(I)I"⟩
abbrev cX9_play : ByteArray := prog_1_method_27_code
def yX9_play : MethodName := ⟨RX9, "play", "()I"⟩
abbrev cX9_bitsOfDouble : ByteArray := prog_1_method_28_code
def yX9_bitsOfDouble : MethodName := ⟨RX9, "bitsOfDouble", "(D)J"⟩
abbrev cX9_bitsOfFloat : ByteArray := prog_1_method_29_code
def yX9_bitsOfFloat : MethodName := ⟨RX9, "bitsOfFloat", "(F)I"⟩
def RX10 : String := "LockerChainsModel"
def TX10 : u_T := fun k => match k with
  | 0 => ("LockerChainsModel", "s", "[I", true)
  | 1 => ("LockerChainsModel", "begun", "[I", true)
  | 2 => ("LockerChainsModel", "aside", "[I", true)
  | 3 => ("LockerChainsModel", "past", "[I", true)
  | 4 => ("LockerChainsModel", "states", "I", false)
  | 5 => ("LockerChainsModel", "text", "[I", true)
  | 6 => ("LockerChainsModel", "length", "I", false)
  | 7 => ("LockerChainsModel", "at", "I", false)
  | 8 => ("LockerChainsModel", "isForm", "Z", false)
  | 9 => ("LockerChainsModel", "reason", "I", false)
  | 10 => ("LockerChainsModel", "cause", "I", false)
  | _ => ("LockerChainsModel", "numbers", "[I", true)
def tyX10 : Nat → FieldType := fun k => match k with
  | 0 => .array .int
  | 1 => .array .int
  | 2 => .array .int
  | 3 => .array .int
  | 4 => .int
  | 5 => .array .int
  | 6 => .int
  | 7 => .int
  | 8 => .boolean
  | 9 => .int
  | 10 => .int
  | _ => .array .int
theorem nmX10 : ∀ a, a < 12 → ∀ b, b < 12 → a ≠ b → (TX10 a).2.1 ≠ (TX10 b).2.1 := by decide +kernel
theorem tyX10_ok : ∀ k, k < 12 → parseFieldDescriptor (TX10 k).2.2.1 = some (tyX10 k) := by decide +kernel
abbrev cX10_init : ByteArray := prog_12_method_1_code
def yX10_init : MethodName := ⟨RX10, "<init>", "()V"⟩
abbrev cX10_in : ByteArray := prog_12_method_3_code
def yX10_in : MethodName := ⟨RX10, "in", "(III)Z"⟩
abbrev cX10_isLocker : ByteArray := prog_12_method_4_code
def yX10_isLocker : MethodName := ⟨RX10, "isLocker", "(I)Z"⟩
abbrev cX10_isPerson : ByteArray := prog_12_method_5_code
def yX10_isPerson : MethodName := ⟨RX10, "isPerson", "(I)Z"⟩
abbrev cX10_of : ByteArray := prog_12_method_6_code
def yX10_of : MethodName := ⟨RX10, "of", "(II)I"⟩
abbrev cX10_lay : ByteArray := prog_12_method_7_code
def yX10_lay : MethodName := ⟨RX10, "lay", "(III)V"⟩
abbrev cX10_ofP : ByteArray := prog_12_method_8_code
def yX10_ofP : MethodName := ⟨RX10, "ofP", "(II)I"⟩
abbrev cX10_layP : ByteArray := prog_12_method_9_code
def yX10_layP : MethodName := ⟨RX10, "layP", "(III)V"⟩
abbrev cX10_begins : ByteArray := prog_12_method_10_code
def yX10_begins : MethodName := ⟨RX10, "begins", "()V"⟩
abbrev cX10_acted : ByteArray := prog_12_method_11_code
def yX10_acted : MethodName := ⟨RX10, "acted", "(I)I"⟩
abbrev cX10_layAside : ByteArray := prog_12_method_12_code
def yX10_layAside : MethodName := ⟨RX10, "layAside", "()V"⟩
abbrev cX10_bringBack : ByteArray := prog_12_method_13_code
def yX10_bringBack : MethodName := ⟨RX10, "bringBack", "()V"⟩
abbrev cX10_isFree : ByteArray := prog_12_method_14_code
def yX10_isFree : MethodName := ⟨RX10, "isFree", "(I)Z"⟩
abbrev cX10_lowestFree : ByteArray := prog_12_method_15_code
def yX10_lowestFree : MethodName := ⟨RX10, "lowestFree", "(I)I"⟩
abbrev cX10_placeOf : ByteArray := prog_12_method_16_code
def yX10_placeOf : MethodName := ⟨RX10, "placeOf", "(I)I"⟩
abbrev cX10_waitsNoMore : ByteArray := prog_12_method_17_code
def yX10_waitsNoMore : MethodName := ⟨RX10, "waitsNoMore", "(I)V"⟩
abbrev cX10_waitsFor : ByteArray := prog_12_method_18_code
def yX10_waitsFor : MethodName := ⟨RX10, "waitsFor", "(II)V"⟩
abbrev cX10_firstWaiting : ByteArray := prog_12_method_19_code
def yX10_firstWaiting : MethodName := ⟨RX10, "firstWaiting", "(I)I"⟩
abbrev cX10_has : ByteArray := prog_12_method_20_code
def yX10_has : MethodName := ⟨RX10, "has", "(II)V"⟩
abbrev cX10_beginsLoan : ByteArray := prog_12_method_21_code
def yX10_beginsLoan : MethodName := ⟨RX10, "beginsLoan", "(II)V"⟩
abbrev cX10_frees : ByteArray := prog_12_method_22_code
def yX10_frees : MethodName := ⟨RX10, "frees", "(I)V"⟩
abbrev cX10_endsWish : ByteArray := prog_12_method_23_code
def yX10_endsWish : MethodName := ⟨RX10, "endsWish", "(I)V"⟩
abbrev cX10_endsLoan : ByteArray := prog_12_method_24_code
def yX10_endsLoan : MethodName := ⟨RX10, "endsLoan", "(I)I"⟩
abbrev cX10_owes : ByteArray := prog_12_method_25_code
def yX10_owes : MethodName := ⟨RX10, "owes", "(II)V"⟩
abbrev cX10_overdue : ByteArray := prog_12_method_26_code
def yX10_overdue : MethodName := ⟨RX10, "overdue", "(I)I"⟩
abbrev cX10_makesLocker : ByteArray := prog_12_method_27_code
def yX10_makesLocker : MethodName := ⟨RX10, "makesLocker", "(I)I"⟩
abbrev cX10_makesPerson : ByteArray := prog_12_method_28_code
def yX10_makesPerson : MethodName := ⟨RX10, "makesPerson", "()I"⟩
abbrev cX10_inRow : ByteArray := prog_12_method_29_code
def yX10_inRow : MethodName := ⟨RX10, "inRow", "(I)I"⟩
abbrev cX10_stands : ByteArray := prog_12_method_30_code
def yX10_stands : MethodName := ⟨RX10, "stands", "(II)I"⟩
abbrev cX10_lends : ByteArray := prog_12_method_31_code
def yX10_lends : MethodName := ⟨RX10, "lends", "(II)I"⟩
abbrev cX10_givesBack : ByteArray := prog_12_method_32_code
def yX10_givesBack : MethodName := ⟨RX10, "givesBack", "(I)I"⟩
abbrev cX10_renews : ByteArray := prog_12_method_33_code
def yX10_renews : MethodName := ⟨RX10, "renews", "(I)I"⟩
abbrev cX10_changesLock : ByteArray := prog_12_method_34_code
def yX10_changesLock : MethodName := ⟨RX10, "changesLock", "(I)V"⟩
abbrev cX10_loses : ByteArray := prog_12_method_35_code
def yX10_loses : MethodName := ⟨RX10, "loses", "(I)I"⟩
abbrev cX10_wishes : ByteArray := prog_12_method_36_code
def yX10_wishes : MethodName := ⟨RX10, "wishes", "(II)I"⟩
abbrev cX10_wishesNoMore : ByteArray := prog_12_method_37_code
def yX10_wishesNoMore : MethodName := ⟨RX10, "wishesNoMore", "(I)I"⟩
abbrev cX10_pays : ByteArray := prog_12_method_38_code
def yX10_pays : MethodName := ⟨RX10, "pays", "(II)I"⟩
abbrev cX10_moves : ByteArray := prog_12_method_39_code
def yX10_moves : MethodName := ⟨RX10, "moves", "(II)V"⟩
abbrev cX10_takesFree : ByteArray := prog_12_method_40_code
def yX10_takesFree : MethodName := ⟨RX10, "takesFree", "()Z"⟩
abbrev cX10_wants : ByteArray := prog_12_method_41_code
def yX10_wants : MethodName := ⟨RX10, "wants", "(II)Z"⟩
abbrev cX10_thirdOf : ByteArray := prog_12_method_42_code
def yX10_thirdOf : MethodName := ⟨RX10, "thirdOf", "(II)I"⟩
abbrev cX10_goesRound : ByteArray := prog_12_method_43_code
def yX10_goesRound : MethodName := ⟨RX10, "goesRound", "(III)I"⟩
abbrev cX10_takesRing : ByteArray := prog_12_method_44_code
def yX10_takesRing : MethodName := ⟨RX10, "takesRing", "()I"⟩
abbrev cX10_swaps : ByteArray := prog_12_method_45_code
def yX10_swaps : MethodName := ⟨RX10, "swaps", "()I"⟩
abbrev cX10_feeOf : ByteArray := prog_12_method_46_code
def yX10_feeOf : MethodName := ⟨RX10, "feeOf", "(II)I"⟩
abbrev cX10_dayPasses : ByteArray := prog_12_method_47_code
def yX10_dayPasses : MethodName := ⟨RX10, "dayPasses", "()I"⟩
abbrev cX10_passDays : ByteArray := prog_12_method_48_code
def yX10_passDays : MethodName := ⟨RX10, "passDays", "(I)I"⟩
abbrev cX10_passes : ByteArray := prog_12_method_49_code
def yX10_passes : MethodName := ⟨RX10, "passes", "(I)I"⟩
abbrev cX10_least : ByteArray := prog_12_method_50_code
def yX10_least : MethodName := ⟨RX10, "least", "(I)I"⟩
abbrev cX10_most : ByteArray := prog_12_method_51_code
def yX10_most : MethodName := ⟨RX10, "most", "(I)I"⟩
abbrev cX10_sets : ByteArray := prog_12_method_52_code
def yX10_sets : MethodName := ⟨RX10, "sets", "(II)I"⟩
abbrev cX10_locker : ByteArray := prog_12_method_53_code
def yX10_locker : MethodName := ⟨RX10, "locker", "(I)I"⟩
abbrev cX10_person : ByteArray := prog_12_method_54_code
def yX10_person : MethodName := ⟨RX10, "person", "()I"⟩
abbrev cX10_stand : ByteArray := prog_12_method_55_code
def yX10_stand : MethodName := ⟨RX10, "stand", "(II)I"⟩
abbrev cX10_lend : ByteArray := prog_12_method_56_code
def yX10_lend : MethodName := ⟨RX10, "lend", "(II)I"⟩
abbrev cX10_giveBack : ByteArray := prog_12_method_57_code
def yX10_giveBack : MethodName := ⟨RX10, "giveBack", "(I)I"⟩
abbrev cX10_renew : ByteArray := prog_12_method_58_code
def yX10_renew : MethodName := ⟨RX10, "renew", "(I)I"⟩
abbrev cX10_lose : ByteArray := prog_12_method_59_code
def yX10_lose : MethodName := ⟨RX10, "lose", "(I)I"⟩
abbrev cX10_wish : ByteArray := prog_12_method_60_code
def yX10_wish : MethodName := ⟨RX10, "wish", "(II)I"⟩
abbrev cX10_noWish : ByteArray := prog_12_method_61_code
def yX10_noWish : MethodName := ⟨RX10, "noWish", "(I)I"⟩
abbrev cX10_swap : ByteArray := prog_12_method_62_code
def yX10_swap : MethodName := ⟨RX10, "swap", "()I"⟩
abbrev cX10_pay : ByteArray := prog_12_method_63_code
def yX10_pay : MethodName := ⟨RX10, "pay", "(II)I"⟩
abbrev cX10_pass : ByteArray := prog_12_method_64_code
def yX10_pass : MethodName := ⟨RX10, "pass", "(I)I"⟩
abbrev cX10_set : ByteArray := prog_12_method_65_code
def yX10_set : MethodName := ⟨RX10, "set", "(II)I"⟩
abbrev cX10_orNone : ByteArray := prog_12_method_66_code
def yX10_orNone : MethodName := ⟨RX10, "orNone", "(I)I"⟩
abbrev cX10_personOf : ByteArray := prog_12_method_67_code
def yX10_personOf : MethodName := ⟨RX10, "personOf", "(II)I"⟩
abbrev cX10_lockerOf : ByteArray := prog_12_method_68_code
def yX10_lockerOf : MethodName := ⟨RX10, "lockerOf", "(II)I"⟩
abbrev cX10_waitingAt : ByteArray := prog_12_method_69_code
def yX10_waitingAt : MethodName := ⟨RX10, "waitingAt", "(II)I"⟩
abbrev cX10_lockersThat : ByteArray := prog_12_method_70_code
def yX10_lockersThat : MethodName := ⟨RX10, "lockersThat", "(I)I"⟩
abbrev cX10_debts : ByteArray := prog_12_method_71_code
def yX10_debts : MethodName := ⟨RX10, "debts", "()I"⟩
abbrev cX10_count : ByteArray := prog_12_method_72_code
def yX10_count : MethodName := ⟨RX10, "count", "(I)I"⟩
abbrev cX10_feeIn : ByteArray := prog_12_method_73_code
def yX10_feeIn : MethodName := ⟨RX10, "feeIn", "(II)I"⟩
abbrev cX10_wouldHave : ByteArray := prog_12_method_74_code
def yX10_wouldHave : MethodName := ⟨RX10, "wouldHave", "(I)I"⟩
abbrev cX10_lentBits : ByteArray := prog_12_method_75_code
def yX10_lentBits : MethodName := ⟨RX10, "lentBits", "()J"⟩
abbrev cX10_overdueBits : ByteArray := prog_12_method_76_code
def yX10_overdueBits : MethodName := ⟨RX10, "overdueBits", "()I"⟩
abbrev cX10_undo : ByteArray := prog_12_method_77_code
def yX10_undo : MethodName := ⟨RX10, "undo", "()I"⟩
abbrev cX10_type : ByteArray := prog_12_method_78_code
def yX10_type : MethodName := ⟨RX10, "type", "(I)I"⟩
abbrev cX10_clearText : ByteArray := prog_12_method_79_code
def yX10_clearText : MethodName := ⟨RX10, "clearText", "()I"⟩
abbrev cX10_here : ByteArray := prog_12_method_80_code
def yX10_here : MethodName := ⟨RX10, "here", "()I"⟩
abbrev cX10_must : ByteArray := prog_12_method_81_code
def yX10_must : MethodName := ⟨RX10, "must", "(I)V"⟩
abbrev cX10_readNumber : ByteArray := prog_12_method_82_code
def yX10_readNumber : MethodName := ⟨RX10, "readNumber", "()I"⟩
abbrev cX10_wordOf : ByteArray := prog_12_method_83_code
def yX10_wordOf : MethodName := ⟨RX10, "wordOf", "(I)J"⟩
abbrev cX10_readWord : ByteArray := prog_12_method_84_code
def yX10_readWord : MethodName := ⟨RX10, "readWord", "()I"⟩
abbrev cX10_command : ByteArray := prog_12_method_85_code
def yX10_command : MethodName := ⟨RX10, "command", "()I"⟩
abbrev cX10_does : ByteArray := prog_12_method_86_code
def yX10_does : MethodName := ⟨RX10, "does", "()I"⟩
abbrev cX10_fault : ByteArray := prog_12_method_87_code
def yX10_fault : MethodName := ⟨RX10, "fault", "(I)I"⟩
abbrev cX10_play : ByteArray := prog_12_method_88_code
def yX10_play : MethodName := ⟨RX10, "play", "()I"⟩
def RJxe99ae : String := "java/lang/Double"
def TJxe99ae : u_T := fun k => match k with
  | _ => ("", "", "", false)
def tyJxe99ae : Nat → FieldType := fun k => match k with
  | _ => .int
theorem nmJxe99ae : ∀ a, a < 0 → ∀ b, b < 0 → a ≠ b → (TJxe99ae a).2.1 ≠ (TJxe99ae b).2.1 := by decide +kernel
theorem tyJxe99ae_ok : ∀ k, k < 0 → parseFieldDescriptor (TJxe99ae k).2.2.1 = some (tyJxe99ae k) := by decide +kernel
abbrev cJxe99ae_isNaN_b9ae7 : ByteArray := prog_13_method_6_code
def yJxe99ae_isNaN_b9ae7 : MethodName := ⟨RJxe99ae, "isNaN", "(D)Z"⟩
abbrev cJxe99ae_doubleToLongBits_ccdee : ByteArray := prog_13_method_23_code
def yJxe99ae_doubleToLongBits_ccdee : MethodName := ⟨RJxe99ae, "doubleToLongBits", "(D)J"⟩
def RJx29ce0 : String := "java/lang/Enum"
def TJx29ce0 : u_T := fun k => match k with
  | _ => ("", "", "", false)
def tyJx29ce0 : Nat → FieldType := fun k => match k with
  | _ => .int
theorem nmJx29ce0 : ∀ a, a < 0 → ∀ b, b < 0 → a ≠ b → (TJx29ce0 a).2.1 ≠ (TJx29ce0 b).2.1 := by decide +kernel
theorem tyJx29ce0_ok : ∀ k, k < 0 → parseFieldDescriptor (TJx29ce0 k).2.2.1 = some (tyJx29ce0 k) := by decide +kernel
abbrev cJx29ce0_ordinal_8abf5 : ByteArray := prog_14_method_2_code
def yJx29ce0_ordinal_8abf5 : MethodName := ⟨RJx29ce0, "ordinal", "()I"⟩
def RJxf58ca : String := "java/lang/Float"
def TJxf58ca : u_T := fun k => match k with
  | _ => ("", "", "", false)
def tyJxf58ca : Nat → FieldType := fun k => match k with
  | _ => .int
theorem nmJxf58ca : ∀ a, a < 0 → ∀ b, b < 0 → a ≠ b → (TJxf58ca a).2.1 ≠ (TJxf58ca b).2.1 := by decide +kernel
theorem tyJxf58ca_ok : ∀ k, k < 0 → parseFieldDescriptor (TJxf58ca k).2.2.1 = some (tyJxf58ca k) := by decide +kernel
abbrev cJxf58ca_isNaN_12338 : ByteArray := prog_15_method_6_code
def yJxf58ca_isNaN_12338 : MethodName := ⟨RJxf58ca, "isNaN", "(F)Z"⟩
abbrev cJxf58ca_floatToIntBits_5c35a : ByteArray := prog_15_method_24_code
def yJxf58ca_floatToIntBits_5c35a : MethodName := ⟨RJxf58ca, "floatToIntBits", "(F)I"⟩
def RJ9 : String := "java/lang/Math"
def TJ9 : u_T := fun k => match k with
  | _ => ("", "", "", false)
def tyJ9 : Nat → FieldType := fun k => match k with
  | _ => .int
theorem nmJ9 : ∀ a, a < 0 → ∀ b, b < 0 → a ≠ b → (TJ9 a).2.1 ≠ (TJ9 b).2.1 := by decide +kernel
theorem tyJ9_ok : ∀ k, k < 0 → parseFieldDescriptor (TJ9 k).2.2.1 = some (tyJ9 k) := by decide +kernel
abbrev cJ9_floorMod_7cf53 : ByteArray := prog_16_method_50_code
def yJ9_floorMod_7cf53 : MethodName := ⟨RJ9, "floorMod", "(II)I"⟩
def RJ0 : String := "java/lang/String"
def TJ0 : u_T := fun k => match k with
  | _ => ("", "", "", false)
def tyJ0 : Nat → FieldType := fun k => match k with
  | _ => .int
theorem nmJ0 : ∀ a, a < 0 → ∀ b, b < 0 → a ≠ b → (TJ0 a).2.1 ≠ (TJ0 b).2.1 := by decide +kernel
theorem tyJ0_ok : ∀ k, k < 0 → parseFieldDescriptor (TJ0 k).2.2.1 = some (tyJ0 k) := by decide +kernel
abbrev cJ0_length_8abf5 : ByteArray := prog_17_method_54_code
def yJ0_length_8abf5 : MethodName := ⟨RJ0, "length", "()I"⟩
abbrev cJ0_charAt_5068e : ByteArray := prog_17_method_56_code
def yJ0_charAt_5068e : MethodName := ⟨RJ0, "charAt", "(I)C"⟩
abbrev cJ0_coder_7d493 : ByteArray := prog_17_method_152_code
def yJ0_coder_7d493 : MethodName := ⟨RJ0, "coder", "()B"⟩
abbrev cJ0_isLatin1_aae02 : ByteArray := prog_17_method_154_code
def yJ0_isLatin1_aae02 : MethodName := ⟨RJ0, "isLatin1", "()Z"⟩
abbrev cJ0_checkIndex_df160 : ByteArray := prog_17_method_155_code
def yJ0_checkIndex_df160 : MethodName := ⟨RJ0, "checkIndex", "(II)V"⟩
def RJ1 : String := "java/lang/StringLatin1"
def TJ1 : u_T := fun k => match k with
  | _ => ("", "", "", false)
def tyJ1 : Nat → FieldType := fun k => match k with
  | _ => .int
theorem nmJ1 : ∀ a, a < 0 → ∀ b, b < 0 → a ≠ b → (TJ1 a).2.1 ≠ (TJ1 b).2.1 := by decide +kernel
theorem tyJ1_ok : ∀ k, k < 0 → parseFieldDescriptor (TJ1 k).2.2.1 = some (tyJ1 k) := by decide +kernel
abbrev cJ1_charAt_3b067 : ByteArray := prog_18_method_2_code
def yJ1_charAt_3b067 : MethodName := ⟨RJ1, "charAt", "([BI)C"⟩
def RJ2 : String := "java/lang/StringUTF16"
def TJ2 : u_T := fun k => match k with
  | _ => ("", "", "", false)
def tyJ2 : Nat → FieldType := fun k => match k with
  | _ => .int
theorem nmJ2 : ∀ a, a < 0 → ∀ b, b < 0 → a ≠ b → (TJ2 a).2.1 ≠ (TJ2 b).2.1 := by decide +kernel
theorem tyJ2_ok : ∀ k, k < 0 → parseFieldDescriptor (TJ2 k).2.2.1 = some (tyJ2 k) := by decide +kernel
abbrev cJ2_getChar_3b067 : ByteArray := prog_19_method_5_code
def yJ2_getChar_3b067 : MethodName := ⟨RJ2, "getChar", "([BI)C"⟩
abbrev cJ2_length_9d52b : ByteArray := prog_19_method_6_code
def yJ2_length_9d52b : MethodName := ⟨RJ2, "length", "([B)I"⟩
abbrev cJ2_charAt_3b067 : ByteArray := prog_19_method_83_code
def yJ2_charAt_3b067 : MethodName := ⟨RJ2, "charAt", "([BI)C"⟩
abbrev cJ2_checkIndex_2214a : ByteArray := prog_19_method_91_code
def yJ2_checkIndex_2214a : MethodName := ⟨RJ2, "checkIndex", "(I[B)V"⟩
def RJ3 : String := "jdk/internal/util/Preconditions"
def TJ3 : u_T := fun k => match k with
  | _ => ("", "", "", false)
def tyJ3 : Nat → FieldType := fun k => match k with
  | _ => .int
theorem nmJ3 : ∀ a, a < 0 → ∀ b, b < 0 → a ≠ b → (TJ3 a).2.1 ≠ (TJ3 b).2.1 := by decide +kernel
theorem tyJ3_ok : ∀ k, k < 0 → parseFieldDescriptor (TJ3 k).2.2.1 = some (tyJ3 k) := by decide +kernel
abbrev cJ3_checkIndex_8e157 : ByteArray := prog_20_method_11_code
def yJ3_checkIndex_8e157 : MethodName := ⟨RJ3, "checkIndex", "(IILjava/util/function/BiFunction;)I"⟩
def RL : String := "LockerChainsLaw"
abbrev cL_law : ByteArray := code
def yL_law : MethodName := ⟨RL, "law", "([I)Z"⟩
abbrev vwCl : List vw_C := [(RX1, TX1, 10), (RX2, TX2, 3), (RX3, TX3, 3), (RX4, TX4, 7), (RX5, TX5, 8), (RX6, TX6, 5), (RX7, TX7, 6), (RX9, TX9, 4), (RX10, TX10, 12)]
end
section
/-! the world of the class and of its check: cells told by kind, group and place; their numbers as a table -/
abbrev zV2 : Type := Nat → Nat → Int32
abbrev zV3 : Type := Nat → Nat → Nat → Int32
abbrev zG : Type := va_G × (Nat → Nat → Nat → Nat) × (Nat → ClassId) × (Nat → Nat) × List (String × String × String × Value) × List (String × Nat) × List (String × String × String × Value × Nat) × List (FieldType × Nat × Nat × (Nat → Value))
def gD (G : zG) : va_G := G.1
def gA (G : zG) : Nat → Nat → Nat → Nat := G.2.1
def gC (G : zG) : Nat → ClassId := G.2.2.1
def gE (G : zG) : Nat → Nat := G.2.2.2.1
def gZ (G : zG) : List (String × String × String × Value) := G.2.2.2.2.1
def gO (G : zG) : List (String × Nat) := G.2.2.2.2.2.1
def gF (G : zG) : List (String × String × String × Value × Nat) := G.2.2.2.2.2.2.1
def gT (G : zG) : List (FieldType × Nat × Nat × (Nat → Value)) := G.2.2.2.2.2.2.2
def up2 (h : zV2) (c i : Nat) (x : Int32) : zV2 := fun c' i' => if c' = c ∧ i' = i then x else h c' i'
def upG (V : zV3) (g : Nat) (h : zV2) : zV3 := fun g' => if g' = g then h else V g'
theorem upG_self (V : zV3) (g : Nat) (h : zV2) : upG V g h g = h := by simp [upG]
theorem upG_ne (V : zV3) {g g' : Nat} (h : zV2) (hne : g' ≠ g) : upG V g h g' = V g' := by simp [upG, hne]
theorem upG_upG (V : zV3) (g : Nat) (h h' : zV2) : upG (upG V g h) g h' = upG V g h' := by funext g'; by_cases e : g' = g <;> simp [upG, e]
theorem upG_id (V : zV3) (g : Nat) : upG V g (V g) = V := by funext g'; by_cases e : g' = g <;> simp [upG, e]
theorem up2_self (h : zV2) (c i : Nat) (x : Int32) : up2 h c i x c i = x := by simp [up2]
theorem up2_col (h : zV2) {c c' : Nat} (i : Nat) (x : Int32) (hc : c' ≠ c) : up2 h c i x c' = h c' := by funext j; simp [up2, hc]
theorem up2_c (h : zV2) {c c' : Nat} (i j : Nat) (x : Int32) (hc : c' ≠ c) : up2 h c i x c' j = h c' j := by simp [up2, hc]
theorem up2_i (h : zV2) (c c' : Nat) {i j : Nat} (x : Int32) (hi : j ≠ i) : up2 h c i x c' j = h c' j := by simp [up2, hi]
theorem up2_upd (h : zV2) (c i : Nat) (x : Int32) : up2 h c i x c = upd (h c) i x := by funext j; simp [up2, upd]
def zq (f : Nat → Option Nat) : (Nat → Int32) ⊕ (Nat → Int64) ⊕ (Nat → UInt32) ⊕ (Nat → UInt64) ⊕ (Nat → Option Nat) := .inr (.inr (.inr (.inr f)))
def zverb (G : zG) (x : Int32) : Value := if x = 0 then .null else .ref (gE G (x.toNatClampNeg - 1))
def zlen (i : Nat) : Nat := match i with
  | 0 => 193
  | 1 => 193
  | 2 => 193
  | 3 => 772
  | 4 => 80
  | _ => 2
def zcell (G : zG) (V : zV3) (k g i : Nat) : va_E := match k with
  | 0 => .inr (0, [.ref (gA G 1 g 0), .ref (gA G 2 g 0), .ref (gA G 3 g 0), .ref (gA G 3 g 1), .ref (gA G 4 g 0), .ref (gA G 5 g 0), .int (V g 13 0), .int (V g 14 0), .int (V g 15 0), .int (V g 16 0)])
  | 1 => .inl (gC G 2, 12, zq (fun j => some (gA G 8 g j)))
  | 2 => .inl (gC G 3, 10, zq (fun j => some (gA G 9 g j)))
  | 3 => .inr (2, [.ref (gA G 6 g i), .ref (gA G 7 g i), .int (V g (23 + i) 0)])
  | 4 => .inl (gC G 0, 3, .inl (V g 17))
  | 5 => .inl (gC G 0, 3, .inl (V g 18))
  | 6 => .inl (gC G 0, 10, .inl (V g (19 + i)))
  | 7 => .inl (gC G 0, 10, .inl (V g (21 + i)))
  | 8 => .inr (3, [.int (nI i), .int (V g 0 i), .int (V g 1 i), .int (V g 2 i), .int (V g 3 i), .int (V g 4 i), .int (V g 5 i)])
  | 9 => .inr (4, [.int (nI i), .int (V g 6 i), .int (V g 7 i), .int (V g 8 i), .int (V g 9 i), .int (V g 10 i), .int (V g 11 i), .int (V g 12 i)])
  | 10 => .inr (7, [.ref (gA G 0 0 0), .ref (gA G 11 0 0), .ref (gA G 13 0 0), .ref (gA G 15 0 0)])
  | 11 => .inr (1, [.ref (gA G 12 0 0), .int (V 7 0 0), .int (V 7 1 0)])
  | 12 => .inl (gC G 4, 5, zq (fun j => some (gA G 0 (j + 1) 0)))
  | 13 => .inr (6, [.ref (gA G 14 0 0), .int (V 7 3 0), zverb G (V 7 4 0), .int (V 7 5 0), .int (V 7 6 0), .int (V 7 7 0)])
  | 14 => .inl (gC G 1, 80, .inl (V 7 2))
  | 15 => .inr (5, [.ref (gA G 0 6 0), .int (V 7 8 0), .int (V 7 9 0), .int (V 7 10 0), .int (V 7 11 0)])
  | 16 => .inr (8, [.ref (gA G 17 0 0), .ref (gA G 17 0 1), .ref (gA G 17 0 2), .ref (gA G 17 0 3), .int (V 8 6 0), .ref (gA G 17 0 4), .int (V 8 7 0), .int (V 8 8 0), .int (V 8 9 0), .int (V 8 10 0), .int (V 8 11 0), .ref (gA G 17 0 5)])
  | _ => .inl (gC G 0, zlen i, .inl (V 8 i))
def zdom (k g i : Nat) : Prop := match k with
  | 0 => g < 7 ∧ i = 0
  | 1 => g < 7 ∧ i = 0
  | 2 => g < 7 ∧ i = 0
  | 3 => g < 7 ∧ i < 2
  | 4 => g < 7 ∧ i = 0
  | 5 => g < 7 ∧ i = 0
  | 6 => g < 7 ∧ i < 2
  | 7 => g < 7 ∧ i < 2
  | 8 => g < 7 ∧ i < 12
  | 9 => g < 7 ∧ i < 10
  | 17 => g = 0 ∧ i < 6
  | k => k < 17 ∧ g = 0 ∧ i = 0
abbrev ztys (G : zG) : List (ClassId × FieldType) := [(gC G 0, .int), (gC G 1, .char), (gC G 2, .object "LockerChains$Locker"), (gC G 3, .object "LockerChains$Person"), (gC G 4, .object "LockerChains$Hall")]
/-- the cells are as the numbers say -/
def zM (G : zG) (V : zV3) (H : Heap) : Prop := ∀ k g i, zdom k g i → va_at (gD G) vwCl (gA G k g i, zcell G V k g i) H
/-- their addresses are apart, and of a kind -/
def zI (G : zG) (A : Nat → Prop) : Prop := (∀ k g i, zdom k g i → A (gA G k g i)) ∧ ∀ k g i k' g' i', zdom k g i → zdom k' g' i' → gA G k g i = gA G k' g' i' → k = k' ∧ g = g' ∧ i = i'

def zNF : List (String × Nat × String × String × String × String) := [("LockerChains", 108, "LockerChains$History", "states", "I", "LockerChains"), ("LockerChains", 111, "LockerChains$Text", "length", "I", "LockerChains"), ("LockerChains", 160, "LockerChains$Rehearsal", "reason", "I", "LockerChains"), ("LockerChains", 163, "LockerChains$Rehearsal", "place", "I", "LockerChains"), ("LockerChains", 166, "LockerChains$Rehearsal", "cause", "I", "LockerChains"), ("LockerChains", 169, "LockerChains$Rehearsal", "trial", "LLockerChains$Hall;", "LockerChains"), ("LockerChains", 175, "LockerChains$Rehearsal", "commands", "I", "LockerChains"), ("LockerChains", 92, "LockerChains$Hall", "waiting", "LLockerChains$Line;", "LockerChains"), ("LockerChains", 96, "LockerChains$Line", "length", "I", "LockerChains"), ("LockerChains$Hall", 105, "LockerChains$Line", "length", "I", "LockerChains"), ("LockerChains$Hall", 112, "LockerChains$Locker", "number", "I", "LockerChains"), ("LockerChains$Hall", 127, "LockerChains$Person", "renewals", "I", "LockerChains"), ("LockerChains$Hall", 130, "LockerChains$Person", "due", "I", "LockerChains"), ("LockerChains$Hall", 133, "LockerChains$Person", "keysLost", "I", "LockerChains"), ("LockerChains$Hall", 136, "LockerChains$Locker", "spareKey", "Z", "LockerChains"), ("LockerChains$Hall", 142, "LockerChains$Locker", "opensOn", "I", "LockerChains"), ("LockerChains$Hall", 145, "LockerChains$Person", "number", "I", "LockerChains"), ("LockerChains$Hall", 167, "LockerChains$Locker", "holder", "I", "LockerChains"), ("LockerChains$Hall", 178, "LockerChains$Person", "paid", "I", "LockerChains"), ("LockerChains$Hall", 190, "LockerChains$Person", "lockersOpened", "I", "LockerChains"), ("LockerChains$Hall", 203, "LockerChains$Locker", "timesLent", "I", "LockerChains"), ("LockerChains$Hall", 71, "LockerChains$Person", "locker", "I", "LockerChains"), ("LockerChains$Hall", 78, "LockerChains$Locker", "size", "I", "LockerChains"), ("LockerChains$Hall", 81, "LockerChains$Locker", "standing", "Z", "LockerChains"), ("LockerChains$Hall", 95, "LockerChains$Person", "owed", "I", "LockerChains"), ("LockerChains$Rehearsal", 30, "LockerChains$Person", "owed", "I", "LockerChains"), ("LockerChains$Rehearsal", 49, "LockerChains$Text", "length", "I", "LockerChains"), ("LockerChains$Rehearsal", 62, "LockerChains$Text", "verb", "LLockerChains$Verb;", "LockerChains"), ("LockerChains$Rehearsal", 66, "LockerChains$Text", "first", "I", "LockerChains"), ("LockerChains$Rehearsal", 69, "LockerChains$Text", "second", "I", "LockerChains"), ("LockerChains$Rehearsal", 76, "LockerChains$Text", "end", "I", "LockerChains"), ("LockerChains$Text", 27, "LockerChains$Verb", "word", "Ljava/lang/String;", "LockerChains"), ("LockerChains$Text", 41, "LockerChains$Verb", "numbers", "I", "LockerChains")]
def zNM : List (String × Nat × MethodName × String) := [("LockerChains", 25, ⟨"LockerChains$Text", "<init>", "()V"⟩, "LockerChains"), ("LockerChains", 32, ⟨"LockerChains$Rehearsal", "<init>", "()V"⟩, "LockerChains"), ("LockerChains$Hall", 25, ⟨"LockerChains$Line", "<init>", "()V"⟩, "LockerChains"), ("LockerChains$Rehearsal", 18, ⟨"LockerChains$Hall", "personAt", "(I)LLockerChains$Person;"⟩, "LockerChains")]
/-- links to private members of nest mates -/
def zN (U : State) : Prop := (∀ q ∈ zNF, va_Nw (.fieldLinkNest q.1 q.2.1 q.2.2.1 q.2.2.2.1 q.2.2.2.2.1 q.2.2.2.2.2) U) ∧ ∀ q ∈ zNM, va_Nw (.methodLinkNest q.1 q.2.1 q.2.2.1 q.2.2.2) U
/-- what nobody writes: statics, constant objects, their fields, constant arrays -/
def zE (G : zG) (A : Nat → Prop) (U : State) (H : Heap) : Prop := (∀ q ∈ gZ G, va_Z q.1 q.2.1 q.2.2.1 q.2.2.2 A U H) ∧ (∀ q ∈ gO G, va_O q.1 q.2 A U H) ∧ (∀ q ∈ gF G, va_OF q.1 q.2.1 q.2.2.1 q.2.2.2.1 q.2.2.2.2 A U H) ∧ ∀ q ∈ gT G, va_T q.1 q.2.1 q.2.2.1 q.2.2.2 A U H
def zK (G : zG) (A : Nat → Prop) (U : State) : Prop := va_K (gD G) vwCl (ztys G) U ∧ zI G A ∧ zN U ∧ zE G A U U.heap
theorem zE.moved {G : zG} {A : Nat → Prop} {u U : State} {H H1 : Heap} (hvm : u.vm.Alike U.vm) (hq : ∀ a : Nat, a < H.size → ¬ A a → H1[a]? = H[a]?) (h : zE G A u H) : zE G A U H1 :=
  ⟨fun q m => (va_Z.moved hvm (h.1 q m)).kept hq, fun q m => (va_O.moved hvm (h.2.1 q m)).kept hq, fun q m => (va_OF.moved hvm (h.2.2.1 q m)).kept hq, fun q m => (va_T.moved hvm (h.2.2.2 q m)).kept hq⟩
theorem zK.warm {G : zG} {A : Nat → Prop} {s U : State} {H : Heap} {locs : List Loc} (h : zK G A s) (hS : va_S A s.heap H locs) (hU : U.heap = H) (hW : s.WarmedH U.vm) : zK G A U := by
  obtain ⟨h1, h2, h3, h4⟩ := h
  exact ⟨va_K.moved hW.alike h1, h2, ⟨fun q m => va_Nw.warmF hW (h3.1 q m), fun q m => va_Nw.warmM hW (h3.2 q m)⟩, zE.moved hW.alike (fun a ha hn => by rw [hU]; exact hS.2.1 a ha hn) h4⟩
theorem zK.blind {G : zG} {A : Nat → Prop} {U : State} {g : JFrame} {mk : MethodId} {a : Array Value} (h : zK G A U) : zK G A (U.calling g mk a) := by
  obtain ⟨h1, h2, h3, h4⟩ := h
  exact ⟨va_K.moved (u := U) (U := U.calling g mk a) (Vm.Alike.refl U.vm) h1, h2, ⟨fun q m => va_Nw.same rfl (rfl : U.vm = (U.calling g mk a).vm) (h3.1 q m), fun q m => va_Nw.same rfl (rfl : U.vm = (U.calling g mk a).vm) (h3.2 q m)⟩, zE.moved (u := U) (U := U.calling g mk a) (Vm.Alike.refl U.vm) (fun _ _ _ => rfl) h4⟩
theorem zM.one {G : zG} {V : zV3} {H : Heap} (hM : zM G V H) {k g i : Nat} (hd : zdom k g i) {e : va_E} (he : zcell G V k g i = e) : va_P (gD G) vwCl [(gA G k g i, e)] H := by
  intro n q hq
  match n, hq with
  | 0, hq => cases hq; rw [← he]; exact hM k g i hd
  | n + 1, hq => simp at hq
theorem zM.set {G : zG} {V V' : zV3} {A : Nat → Prop} {H H1 : Heap} (hM : zM G V H) (hI : zI G A) {k g i : Nat} (hd : zdom k g i) {e : va_E} (h1 : va_at (gD G) vwCl (gA G k g i, e) H1) (oq : ∀ q : Nat, q ≠ gA G k g i → H1[q]? = H[q]?)
    (hnew : ∀ k' g' i', zdom k' g' i' → zcell G V' k' g' i' = if k' = k ∧ g' = g ∧ i' = i then e else zcell G V k' g' i') : zM G V' H1 := by
  intro k' g' i' hd'
  rw [hnew k' g' i' hd']
  by_cases hq : k' = k ∧ g' = g ∧ i' = i
  · rw [if_pos hq]
    obtain ⟨rfl, rfl, rfl⟩ := hq
    exact h1
  · rw [if_neg hq]
    exact (hM k' g' i' hd').kept (oq _ (fun h => hq (hI.2 _ _ _ _ _ _ hd' hd h)))
theorem zM.recv {G : zG} {V : zV3} {A : Nat → Prop} {s : State} {H : Heap} (hM : zM G V H) (hK : zK G A s) {k g i ci : Nat} (hd : zdom k g i) {fs : List Value} (he : zcell G V k g i = .inr (ci, fs)) {q : vw_C} (hc : vwCl[ci]? = some q) : ∃ cell : Cell, H[gA G k g i]? = some cell ∧ cell.vm.isStatics = false ∧ s.vm.findClass q.1 = some cell.cls :=
  va_recv (ws := [(gA G k g i, .inr (ci, fs))]) hK.1 (hM.one hd he) hc (q0 := 0) rfl
section ZR
variable {p : Program} {l : Launch} {e : Env} {R : Room} {s : State} {m : MethodId} {args : Array Value} {below : List Frame} {meth : Method} {c : Code} {H : Heap} {locs : List Loc} {cells slots : Nat} {Q : State → Prop}
variable {cc : ByteArray} {pc : Nat} {ls : Array Slot} {rest : List Value} {G : zG} {V V' : zV3} {A : Nat → Prop} {k g i : Nat}
theorem z_get (hx : p.tables.exec = Jvm.exec) (hb : c.code = cc) {own ref C : String} {T : u_T} {N ci index : Nat} {Ts : List Cond} (hts : ∀ w ∈ Ts, w.before args s = true) (hin : ∀ w ∈ u_ws C T N, w ∈ Ts) (hown : s.vm.findClass own = some m.cls) (hK : zK G A s) (hM : zM G V H) (hd : zdom k g i) {fs : List Value} (he : zcell G V k g i = .inr (ci, fs)) (hc : vwCl[ci]? = some (C, T, N)) (j : Nat) (hj : j < N)
    (hlink : (Cond.fieldLink own index ref (T j).2.1 (T j).2.2.1).before args s = true) (hsame : (T j).1 = ref) {v : Value} (hv : fs[j]? = some v) (hdg : decode cc pc = .ok (.getfield index, 3))
    (kk : W p l e R s m args below meth c H locs cells slots Q (F0 m (pc + 3) ls (v :: rest))) : W p l e R s m args below meth c H locs cells slots Q (F0 m pc ls (.ref (gA G k g i) :: rest)) :=
  va_get hx hb hts hin hown hK.1 (hM.one hd he) 0 rfl hc j hj hlink (fun _ h9 => by rw [← hsame]; exact h9) hv hdg kk
theorem z_getN (hx : p.tables.exec = Jvm.exec) (hb : c.code = cc) {own ref C host : String} {T : u_T} {N ci index : Nat} {Ts : List Cond} (hts : ∀ w ∈ Ts, w.before args s = true) (hin : ∀ w ∈ u_ws C T N, w ∈ Ts) (hown : s.vm.findClass own = some m.cls) (hK : zK G A s) (hM : zM G V H) (hd : zdom k g i) {fs : List Value} (he : zcell G V k g i = .inr (ci, fs)) (hc : vwCl[ci]? = some (C, T, N)) (j : Nat) (hj : j < N)
    (q : Nat) (hlink : zNF[q]? = some (own, index, ref, (T j).2.1, (T j).2.2.1, host)) (hsame : (T j).1 = ref) {v : Value} (hv : fs[j]? = some v) (hdg : decode cc pc = .ok (.getfield index, 3))
    (kk : W p l e R s m args below meth c H locs cells slots Q (F0 m (pc + 3) ls (v :: rest))) : W p l e R s m args below meth c H locs cells slots Q (F0 m pc ls (.ref (gA G k g i) :: rest)) :=
  va_getN hx hb hts hin hown hK.1 (hM.one hd he) 0 rfl hc j hj (va_Nw.use rfl (hK.2.2.1.1 _ (List.mem_of_getElem? hlink))) (fun _ h9 => by rw [← hsame]; exact h9) hv hdg kk
theorem z_put (hx : p.tables.exec = Jvm.exec) (hb : c.code = cc) {own ref C : String} {T : u_T} {N ci index : Nat} {Ts : List Cond} (hts : ∀ w ∈ Ts, w.before args s = true) (hin : ∀ w ∈ u_ws C T N, w ∈ Ts) (ty0 : Nat → FieldType) (hty : ∀ k, k < N → parseFieldDescriptor (T k).2.2.1 = some (ty0 k)) (hnm : ∀ a, a < N → ∀ b, b < N → a ≠ b → (T a).2.1 ≠ (T b).2.1) (hown : s.vm.findClass own = some m.cls) (hK : zK G A s) (hM : zM G V H) (hS0 : va_S A s.heap H locs) (hd : zdom k g i) {fs : List Value} (he : zcell G V k g i = .inr (ci, fs)) (hc : vwCl[ci]? = some (C, T, N)) (j : Nat) (hj : j < N)
    (hlink : (Cond.fieldLink own index ref (T j).2.1 (T j).2.2.1).before args s = true) (hsame : (T j).1 = ref) (hfin : (T j).2.2.2 = false) {v : Value} (hn : narrow (ty0 j) v = v) (hfit : fits (ty0 j) v = true) (hl : j < fs.length)
    (hnew : ∀ k' g' i', zdom k' g' i' → zcell G V' k' g' i' = if k' = k ∧ g' = g ∧ i' = i then .inr (ci, fs.set j v) else zcell G V k' g' i')
    (hdg : decode cc pc = .ok (.putfield index, 3)) (kk : ∀ (H1 : Heap) (locs1 : List Loc), zM G V' H1 → va_S A s.heap H1 locs1 → W p l e R s m args below meth c H1 locs1 cells slots Q (F0 m (pc + 3) ls rest)) : W p l e R s m args below meth c H locs cells slots Q (F0 m pc ls (v :: .ref (gA G k g i) :: rest)) := by
  have hap := va_apart (own := own) hts hin ty0 hty hnm hK.1 hc
  obtain ⟨r, h1, cell, q1, q2, q3, q4⟩ := hM.one hd he 0 _ rfl
  have hr : r = (C, T, N) := Option.some.inj (h1.symm.trans hc)
  subst hr
  obtain ⟨hS, hfc, kC, hkC, hkind⟩ := hK.1.1 ci _ hc
  obtain ⟨cf, kf, fi, f, hi, hsl⟩ := hS j hj
  have hlay := hts _ (hin _ (u_in_lay hj))
  unfold u_lay at hlay
  rw [if_neg (by rw [hfin]; decide)] at hlay
  have hst := (u_facts hfc hkC (u_lays hts hin hj) hi).1
  have h6 := u_store hfc hkC hkind hlay hi (hty j hj) hn hfit
  refine W.putK hx hb (f := f) ⟨hown, hlink, ⟨_, _, _, (by rw [← hsame]; exact hi)⟩, hst⟩ (by rw [q2]; exact h6) q1 q3 (by rw [hsl]; exact k2_hasslot (q4 j hj)) rfl rfl hdg fun H' e1 e2 e3 => ?_
  rw [hsl] at e1 ⊢
  exact kk H' _ (hM.set (e := .inr (ci, fs.set j v)) hK.2.1 hd ⟨_, hc, t_OB.to (V := updV (vp_V fs) j v) ⟨_, e1, q2, q3, t_set q4 hap hj v⟩ (fun n _ => vp_updV_set hl v n)⟩ e3 hnew) (hS0.put e2 e3 (hK.2.1.1 _ _ _ hd))
theorem z_putN (hx : p.tables.exec = Jvm.exec) (hb : c.code = cc) {own ref C host : String} {T : u_T} {N ci index : Nat} {Ts : List Cond} (hts : ∀ w ∈ Ts, w.before args s = true) (hin : ∀ w ∈ u_ws C T N, w ∈ Ts) (ty0 : Nat → FieldType) (hty : ∀ k, k < N → parseFieldDescriptor (T k).2.2.1 = some (ty0 k)) (hnm : ∀ a, a < N → ∀ b, b < N → a ≠ b → (T a).2.1 ≠ (T b).2.1) (hown : s.vm.findClass own = some m.cls) (hK : zK G A s) (hM : zM G V H) (hS0 : va_S A s.heap H locs) (hd : zdom k g i) {fs : List Value} (he : zcell G V k g i = .inr (ci, fs)) (hc : vwCl[ci]? = some (C, T, N)) (j : Nat) (hj : j < N)
    (q : Nat) (hlink : zNF[q]? = some (own, index, ref, (T j).2.1, (T j).2.2.1, host)) (hsame : (T j).1 = ref) (hfin : (T j).2.2.2 = false) {v : Value} (hn : narrow (ty0 j) v = v) (hfit : fits (ty0 j) v = true) (hl : j < fs.length)
    (hnew : ∀ k' g' i', zdom k' g' i' → zcell G V' k' g' i' = if k' = k ∧ g' = g ∧ i' = i then .inr (ci, fs.set j v) else zcell G V k' g' i')
    (hdg : decode cc pc = .ok (.putfield index, 3)) (kk : ∀ (H1 : Heap) (locs1 : List Loc), zM G V' H1 → va_S A s.heap H1 locs1 → W p l e R s m args below meth c H1 locs1 cells slots Q (F0 m (pc + 3) ls rest)) : W p l e R s m args below meth c H locs cells slots Q (F0 m pc ls (v :: .ref (gA G k g i) :: rest)) := by
  have hap := va_apart (own := own) hts hin ty0 hty hnm hK.1 hc
  obtain ⟨r, h1, cell, q1, q2, q3, q4⟩ := hM.one hd he 0 _ rfl
  have hr : r = (C, T, N) := Option.some.inj (h1.symm.trans hc)
  subst hr
  obtain ⟨hS, hfc, kC, hkC, hkind⟩ := hK.1.1 ci _ hc
  obtain ⟨cf, kf, fi, f, hi, hsl⟩ := hS j hj
  have hlay := hts _ (hin _ (u_in_lay hj))
  unfold u_lay at hlay
  rw [if_neg (by rw [hfin]; decide)] at hlay
  have hst := (u_facts hfc hkC (u_lays hts hin hj) hi).1
  have h6 := u_store hfc hkC hkind hlay hi (hty j hj) hn hfit
  refine va_WputK hx hb (f := f) hown (va_Nw.use rfl (hK.2.2.1.1 _ (List.mem_of_getElem? hlink))) (by rw [← hsame]; exact hi) hst (by rw [q2]; exact h6) q1 q3 (by rw [hsl]; exact k2_hasslot (q4 j hj)) rfl rfl hdg fun H' e1 e2 e3 => ?_
  rw [hsl] at e1 ⊢
  exact kk H' _ (hM.set (e := .inr (ci, fs.set j v)) hK.2.1 hd ⟨_, hc, t_OB.to (V := updV (vp_V fs) j v) ⟨_, e1, q2, q3, t_set q4 hap hj v⟩ (fun n _ => vp_updV_set hl v n)⟩ e3 hnew) (hS0.put e2 e3 (hK.2.1.1 _ _ _ hd))
theorem z_iald (hx : p.tables.exec = Jvm.exec) (hb : c.code = cc) (hK : zK G A s) (hM : zM G V H) (hd : zdom k g i) {n : Nat} {f : Nat → Int32} (he : zcell G V k g i = .inl (gC G 0, n, .inl f)) {j : Int32} (hin : vp_in j n) (hdg : decode cc pc = .ok (.iaload, 1))
    (kk : W p l e R s m args below meth c H locs cells slots Q (F0 m (pc + 1) ls (.int (f j.toNatClampNeg) :: rest))) : W p l e R s m args below meth c H locs cells slots Q (F0 m pc ls (.int j :: .ref (gA G k g i) :: rest)) :=
  va_iald hx hb hK.1 (hM.one hd he) 0 0 rfl rfl hin hdg kk
theorem z_cald (hx : p.tables.exec = Jvm.exec) (hb : c.code = cc) (hK : zK G A s) (hM : zM G V H) (hd : zdom k g i) {n : Nat} {f : Nat → Int32} (he : zcell G V k g i = .inl (gC G 1, n, .inl f)) {j : Int32} (hin : vp_in j n) (hdg : decode cc pc = .ok (.caload, 1))
    (kk : W p l e R s m args below meth c H locs cells slots Q (F0 m (pc + 1) ls (.int (f j.toNatClampNeg) :: rest))) : W p l e R s m args below meth c H locs cells slots Q (F0 m pc ls (.int j :: .ref (gA G k g i) :: rest)) :=
  va_cald hx hb hK.1 (hM.one hd he) 0 1 rfl rfl hin hdg kk
theorem z_aald (hx : p.tables.exec = Jvm.exec) (hb : c.code = cc) (hK : zK G A s) (hM : zM G V H) (hd : zdom k g i) (t0 : Nat) {cA : ClassId} {C : String} {n : Nat} {f : Nat → Nat} (he : zcell G V k g i = .inl (cA, n, zq (fun j => some (f j)))) (ht : (ztys G)[t0]? = some (cA, .object C)) {j : Int32} (hin : vp_in j n) (hdg : decode cc pc = .ok (.aaload, 1))
    (kk : W p l e R s m args below meth c H locs cells slots Q (F0 m (pc + 1) ls (.ref (f j.toNatClampNeg) :: rest))) : W p l e R s m args below meth c H locs cells slots Q (F0 m pc ls (.int j :: .ref (gA G k g i) :: rest)) :=
  va_aldq hx hb hK.1 (hM.one hd he) 0 t0 rfl ht hin hdg kk
theorem z_iast (hx : p.tables.exec = Jvm.exec) (hb : c.code = cc) (hK : zK G A s) (hM : zM G V H) (hS0 : va_S A s.heap H locs) (hd : zdom k g i) {n : Nat} {f : Nat → Int32} (he : zcell G V k g i = .inl (gC G 0, n, .inl f)) {j x : Int32} (hin : vp_in j n)
    (hnew : ∀ k' g' i', zdom k' g' i' → zcell G V' k' g' i' = if k' = k ∧ g' = g ∧ i' = i then .inl (gC G 0, n, .inl (upd f j.toNatClampNeg x)) else zcell G V k' g' i') (hdg : decode cc pc = .ok (.iastore, 1))
    (kk : ∀ (H1 : Heap) (locs1 : List Loc), zM G V' H1 → va_S A s.heap H1 locs1 → W p l e R s m args below meth c H1 locs1 cells slots Q (F0 m (pc + 1) ls rest)) : W p l e R s m args below meth c H locs cells slots Q (F0 m pc ls (.int x :: .int j :: .ref (gA G k g i) :: rest)) := by
  refine W.iast hx hb (hM.one hd he 0 _ rfl) ((hK.1.2 0 _ rfl).1 n (fun j => .int (f j))) (fun q => by cases q) (by show ¬ (j < 0 ∨ (arrV _ _ _).slots.size ≤ _); rw [arrV_size]; exact hin) rfl rfl hdg fun H1 e z oq => ?_
  refine kk H1 _ (hM.set hK.2.1 hd ?_ oq hnew) (hS0.put z oq (hK.2.1.1 _ _ _ hd))
  show H1[gA G k g i]? = some (vp_cell _ _)
  rw [e]
  rw [vp_cell_i, vp_cell_i, arrV_store]
  congr 2
  funext q
  by_cases hq : q = j.toNatClampNeg
  · subst hq
    simp [updV, upd]
  · simp [updV, upd, hq]
theorem z_cast (hx : p.tables.exec = Jvm.exec) (hb : c.code = cc) (hK : zK G A s) (hM : zM G V H) (hS0 : va_S A s.heap H locs) (hd : zdom k g i) {n : Nat} {f : Nat → Int32} (he : zcell G V k g i = .inl (gC G 1, n, .inl f)) {j x : Int32} (hin : vp_in j n)
    (hnew : ∀ k' g' i', zdom k' g' i' → zcell G V' k' g' i' = if k' = k ∧ g' = g ∧ i' = i then .inl (gC G 1, n, .inl (upd f j.toNatClampNeg (vp_nar .char x))) else zcell G V k' g' i') (hdg : decode cc pc = .ok (.castore, 1))
    (kk : ∀ (H1 : Heap) (locs1 : List Loc), zM G V' H1 → va_S A s.heap H1 locs1 → W p l e R s m args below meth c H1 locs1 cells slots Q (F0 m (pc + 1) ls rest)) : W p l e R s m args below meth c H locs cells slots Q (F0 m pc ls (.int x :: .int j :: .ref (gA G k g i) :: rest)) := by
  refine W.cast hx hb (hM.one hd he 0 _ rfl) ((hK.1.2 1 _ rfl).1 n (fun j => .int (f j))) (fun q => by cases q) (by show ¬ (j < 0 ∨ (arrV _ _ _).slots.size ≤ _); rw [arrV_size]; exact hin) rfl rfl hdg fun H1 e z oq => ?_
  refine kk H1 _ (hM.set hK.2.1 hd ?_ oq hnew) (hS0.put z oq (hK.2.1.1 _ _ _ hd))
  show H1[gA G k g i]? = some (vp_cell _ _)
  rw [e]
  rw [vp_cell_i, vp_cell_i, arrV_store]
  congr 2
  funext q
  by_cases hq : q = j.toNatClampNeg
  · subst hq
    simp [updV, upd, vp_nar]
    try rfl
  · simp [updV, upd, hq]
end ZR
end
section
/-! the words at hand: those of the tables that travel; shallow programs: what a walk follows -/
def zWL : List Cond := lw_tbl.filter goodWord
theorem zw_in {w : Cond} (h : w ∈ lw_tbl) (hg : goodWord w = true) : w ∈ zWL := List.mem_filter.mpr ⟨h, hg⟩
theorem zw_tbl {w : Cond} (h : w ∈ zWL) : w ∈ lw_tbl := (List.mem_filter.mp h).1
theorem zw_good : GoodIn zWL zWL := fun w h => ⟨h, good_of_word (List.mem_filter.mp h).2⟩
theorem zw_gi {ws : List Cond} (h : ∀ w ∈ ws, w ∈ zWL) : GoodIn zWL ws := fun w m => zw_good w (h w m)
theorem zw_1 {w : Cond} (h : w ∈ tables_1_1) : w ∈ lw_tbl := List.mem_append_right _ (List.mem_append_left _ h)
theorem zw_2 {w : Cond} (h : w ∈ tables_1_2) : w ∈ lw_tbl := List.mem_append_right _ (List.mem_append_right _ (List.mem_append_left _ h))
theorem zw_3 {w : Cond} (h : w ∈ tables_1_3) : w ∈ lw_tbl := List.mem_append_right _ (List.mem_append_right _ (List.mem_append_right _ (List.mem_append_left _ h)))
theorem zw_4 {w : Cond} (h : w ∈ tables_1_4) : w ∈ lw_tbl := List.mem_append_right _ (List.mem_append_right _ (List.mem_append_right _ (List.mem_append_right _ (List.mem_append_left _ h))))
theorem zw_5 {w : Cond} (h : w ∈ tables_1_5) : w ∈ lw_tbl := List.mem_append_right _ (List.mem_append_right _ (List.mem_append_right _ (List.mem_append_right _ (List.mem_append_right _ h))))
theorem zw_p {y : MethodName} {n : Nat} (h : (y, n) ∈ lw_privs) : Cond.selects y.cls y y ∈ lw_tbl := List.mem_append_left _ (List.mem_map.mpr ⟨_, h, rfl⟩)
theorem zw_gv {own C : String} {idx maxL : Nat} {y : MethodName} {b : ByteArray} {ret : Option FieldType} (h1 : Cond.methodLink own idx y ∈ zWL) (h2 : Cond.instanceMethod y ∈ zWL) (h3 : Cond.selects C y y ∈ zWL) (h4 : Cond.initialized C ∈ zWL) (h5 : Cond.code y b maxL ret ∈ zWL) : GoodIn zWL (wsV own idx C y (.code y b maxL ret :: zWL)) := by
  refine zw_gi fun w h => ?_
  simp only [wsV, List.cons_append, List.nil_append, List.mem_cons] at h
  rcases h with rfl | rfl | rfl | rfl | rfl | h <;> assumption
theorem zw_gs {own : String} {idx maxL : Nat} {y : MethodName} {b : ByteArray} {ret : Option FieldType} (h1 : Cond.methodLink own idx y ∈ zWL) (h2 : Cond.static y ∈ zWL) (h4 : Cond.initialized y.cls ∈ zWL) (h5 : Cond.code y b maxL ret ∈ zWL) : GoodIn zWL (va_wsS own idx y (.code y b maxL ret :: zWL)) := by
  refine zw_gi fun w h => ?_
  simp only [va_wsS, List.cons_append, List.nil_append, List.mem_cons] at h
  rcases h with rfl | rfl | rfl | rfl | h <;> assumption
theorem zw_gc {maxL : Nat} {y : MethodName} {b : ByteArray} {ret : Option FieldType} (h5 : Cond.code y b maxL ret ∈ zWL) : GoodIn zWL (.code y b maxL ret :: zWL) := by
  refine zw_gi fun w h => ?_
  rcases List.mem_cons.mp h with rfl | h <;> assumption
def bnd {α σ β : Type} (x : Option (α × σ)) (k : α → σ → Option β) : Option β := match x with
  | none => none
  | some q => k q.1 q.2
theorem bnd_some {α σ β : Type} {x : Option (α × σ)} {k : α → σ → Option β} {o : β} (h : bnd x k = some o) : ∃ (a : α) (s : σ), x = some (a, s) ∧ k a s = some o := by
  cases x with
  | none => cases h
  | some q => exact ⟨q.1, q.2, rfl, h⟩
theorem bnd_eq {α σ β : Type} {x : Option (α × σ)} {k : α → σ → Option β} {a : α} {s : σ} (h : x = some (a, s)) : bnd x k = k a s := by rw [h]; rfl
def grd {β : Type} (b : Bool) (k : Option β) : Option β := if b = true then k else none
theorem grd_some {β : Type} {b : Bool} {k : Option β} {o : β} (h : grd b k = some o) : b = true ∧ k = some o := by
  cases b with
  | false => cases h
  | true => exact ⟨rfl, h⟩
theorem grd_eq {β : Type} {b : Bool} {k : Option β} (h : b = true) : grd b k = k := if_pos h
def put2 {β : Type} (h : zV2) (c i : Nat) (x : Int32) (k : zV2 → β) : β := k (up2 h c i x)
theorem put2_some {β : Type} {h h1 : zV2} {c i : Nat} {x : Int32} {k : zV2 → Option β} {o : β} (hf : put2 h c i x k = some o) (e : h1 = up2 h c i x) : k h1 = some o := by subst e; exact hf
def put3 {β : Type} (V : zV3) (g c i : Nat) (x : Int32) (k : zV3 → β) : β := k (upG V g (up2 (V g) c i x))
theorem put3_some {β : Type} {V V1 : zV3} {g c i : Nat} {x : Int32} {k : zV3 → Option β} {o : β} (hf : put3 V g c i x k = some o) (e : V1 = upG V g (up2 (V g) c i x)) : k V1 = some o := by subst e; exact hf
def ltI {α β : Type} (x : α) (k : α → β) : β := k x
theorem ltI_some {α β : Type} {x y : α} {k : α → Option β} {o : β} (hf : ltI x k = some o) (e : y = x) : k y = some o := by subst e; exact hf
def optm {β : Type} (o : Option Nat) (a : β) (f : Nat → β) : β := match o with
  | none => a
  | some i => f i
theorem optm_none {β : Type} {a : β} {f : Nat → β} {o : β} (h : optm none a f = o) : a = o := h
theorem optm_s {β : Type} {a : β} {f : Nat → β} {o : β} {i : Nat} (h : optm (some i) a f = o) : f i = o := h
theorem ift {β : Type} {c : Prop} {d : Decidable c} {x y : β} {o : β} (h : @ite β c d x y = o) (hc : c) : x = o := by rw [if_pos hc] at h; exact h
theorem iff_ {β : Type} {c : Prop} {d : Decidable c} {x y : β} {o : β} (h : @ite β c d x y = o) (hc : ¬ c) : y = o := by rw [if_neg hc] at h; exact h
def inb (i : Int32) (n : Nat) : Bool := decide (0 ≤ i) && decide (i.toNatClampNeg < n)
theorem inb_in {i : Int32} {n : Nat} (h : inb i n = true) : vp_in i n := by
  simp only [inb, Bool.and_eq_true, decide_eq_true_eq] at h
  intro q
  rcases q with q | q
  · exact absurd h.1 (Int32.not_le.mpr q)
  · omega
theorem inb_lt {i : Int32} {n : Nat} (h : inb i n = true) : i.toNatClampNeg < n := by
  simp only [inb, Bool.and_eq_true, decide_eq_true_eq] at h
  exact h.2
def isb (x : Int32) : Bool := decide (x = 0) || decide (x = 1)
theorem isb_z {x : Int32} (h : isb x = true) : narrow .boolean (.int x) = .int x := by
  simp only [isb, Bool.or_eq_true, decide_eq_true_eq] at h
  rcases h with rfl | rfl <;> rfl
theorem isb_f {x : Int32} (h : isb x = true) : fits .boolean (.int x) = true := by
  simp only [isb, Bool.or_eq_true, decide_eq_true_eq] at h
  rcases h with rfl | rfl <;> rfl
/-- a contract: from the numbers V the answer is rv, and the numbers are V' -/
def zCt (l : Launch) (G : zG) (A : Nat → Prop) (y : MethodName) (b : ByteArray) (n : Nat) (ret : Option FieldType) (rm : Room) (av : List Value) (V : zV3) (rv : Option Value) (V' : zV3) : Prop :=
  Met l y (.code y b n ret :: zWL) rm (va_Pc av (fun U => zK G A U ∧ zM G V U.heap)) (fun _ st oc t => oc = .returned rv ∧ zM G V' t.heap ∧ va_F A st t) 0 0 A
theorem z_CtI {l : Launch} {G : zG} {A : Nat → Prop} {y : MethodName} {cc : ByteArray} {n : Nat} {rm : Room} {av : List Value} {V V' : zV3} {r : Int32} (hy : plainName y.cls = true) (hn : (lg_sl av).length ≤ n)
    (body : ∀ (p : Program) (e : Env) (s : State) (m : MethodId) (args : Array Value) (below : List Frame) (meth : Method) (c : Code) (Q : State → Prop), p.tables.exec = Jvm.exec → c.code = cc → c.maxLocals = n → s.vm.findClass y.cls = some m.cls → (∀ w ∈ zWL, w.before args s = true) → zK G A s → zM G V s.heap → va_S A s.heap s.heap [] →
      (∀ (H : Heap) (locs : List Loc) (pc : Nat) (ls : Array Slot), zM G V' H → va_S A s.heap H locs → decode cc pc = .ok (.ireturn, 1) → W p l e rm s m args below meth c H locs 0 0 Q (F0 m pc ls (some (.int r)).toList)) →
      ∀ ls : Array Slot, lv_has ls n (lv_args 0 av) → W p l e rm s m args below meth c s.heap [] 0 0 Q (F0 m 0 ls [])) : zCt l G A y cc n (some .int) rm av V (some (.int r)) V' := by
  refine Met.ofW (cc := cc) (maxL := n) (ret := (some .int)) hy rfl ?_
  intro p e s m args below meth c s₁ B hml hv
  obtain ⟨rfl, hK, hM⟩ := hv
  have hts := atoms_spec (ws := Cond.code y cc n ((some .int)) :: zWL) B.pre
  have hlocks := B.notSynchronized
  have hl := lv_entry av (n := n) hn
  rw [lg_entry_eq]
  exact body p e s m _ below meth c _ B.exec B.bytes hml (findClass_of_methodNamed B.named) (fun w h => hts w (List.mem_cons_of_mem _ h)) hK hM va_S.rf (fun H locs pc ls hM hS hd => W.iret (v := r) B.exec B.bytes B.returns (fun t ht hW => ⟨rfl, by rw [ht]; exact hM, hS.F ht⟩) hS.2.2 hd) _ hl
theorem z_CtZ {l : Launch} {G : zG} {A : Nat → Prop} {y : MethodName} {cc : ByteArray} {n : Nat} {rm : Room} {av : List Value} {V V' : zV3} {r : Int32} {ty : FieldType} (hy : plainName y.cls = true) (hn : (lg_sl av).length ≤ n) (hnr : narrow ty (.int r) = .int r)
    (body : ∀ (p : Program) (e : Env) (s : State) (m : MethodId) (args : Array Value) (below : List Frame) (meth : Method) (c : Code) (Q : State → Prop), p.tables.exec = Jvm.exec → c.code = cc → c.maxLocals = n → s.vm.findClass y.cls = some m.cls → (∀ w ∈ zWL, w.before args s = true) → zK G A s → zM G V s.heap → va_S A s.heap s.heap [] →
      (∀ (H : Heap) (locs : List Loc) (pc : Nat) (ls : Array Slot), zM G V' H → va_S A s.heap H locs → decode cc pc = .ok (.ireturn, 1) → W p l e rm s m args below meth c H locs 0 0 Q (F0 m pc ls (some (.int r)).toList)) →
      ∀ ls : Array Slot, lv_has ls n (lv_args 0 av) → W p l e rm s m args below meth c s.heap [] 0 0 Q (F0 m 0 ls [])) : zCt l G A y cc n (some ty) rm av V (some (.int r)) V' := by
  refine Met.ofW (cc := cc) (maxL := n) (ret := (some ty)) hy rfl ?_
  intro p e s m args below meth c s₁ B hml hv
  obtain ⟨rfl, hK, hM⟩ := hv
  have hts := atoms_spec (ws := Cond.code y cc n ((some ty)) :: zWL) B.pre
  have hlocks := B.notSynchronized
  have hl := lv_entry av (n := n) hn
  rw [lg_entry_eq]
  exact body p e s m _ below meth c _ B.exec B.bytes hml (findClass_of_methodNamed B.named) (fun w h => hts w (List.mem_cons_of_mem _ h)) hK hM va_S.rf (fun H locs pc ls hM hS hd => W.zret (v := r) B.exec B.bytes B.returns hnr (fun t ht hW => ⟨rfl, by rw [ht]; exact hM, hS.F ht⟩) hS.2.2 hd) _ hl
theorem z_CtV {l : Launch} {G : zG} {A : Nat → Prop} {y : MethodName} {cc : ByteArray} {n : Nat} {rm : Room} {av : List Value} {V V' : zV3}  (hy : plainName y.cls = true) (hn : (lg_sl av).length ≤ n)
    (body : ∀ (p : Program) (e : Env) (s : State) (m : MethodId) (args : Array Value) (below : List Frame) (meth : Method) (c : Code) (Q : State → Prop), p.tables.exec = Jvm.exec → c.code = cc → c.maxLocals = n → s.vm.findClass y.cls = some m.cls → (∀ w ∈ zWL, w.before args s = true) → zK G A s → zM G V s.heap → va_S A s.heap s.heap [] →
      (∀ (H : Heap) (locs : List Loc) (pc : Nat) (ls : Array Slot), zM G V' H → va_S A s.heap H locs → decode cc pc = .ok (.return_, 1) → W p l e rm s m args below meth c H locs 0 0 Q (F0 m pc ls (none : Option Value).toList)) →
      ∀ ls : Array Slot, lv_has ls n (lv_args 0 av) → W p l e rm s m args below meth c s.heap [] 0 0 Q (F0 m 0 ls [])) : zCt l G A y cc n none rm av V (none : Option Value) V' := by
  refine Met.ofW (cc := cc) (maxL := n) (ret := none) hy rfl ?_
  intro p e s m args below meth c s₁ B hml hv
  obtain ⟨rfl, hK, hM⟩ := hv
  have hts := atoms_spec (ws := Cond.code y cc n (none) :: zWL) B.pre
  have hlocks := B.notSynchronized
  have hl := lv_entry av (n := n) hn
  rw [lg_entry_eq]
  exact body p e s m _ below meth c _ B.exec B.bytes hml (findClass_of_methodNamed B.named) (fun w h => hts w (List.mem_cons_of_mem _ h)) hK hM va_S.rf (fun H locs pc ls hM hS hd => W.vret B.exec B.bytes B.returns (fun t ht hW => ⟨rfl, by rw [ht]; exact hM, hS.F ht⟩) hS.2.2 hd) _ hl
theorem z_CtL {l : Launch} {G : zG} {A : Nat → Prop} {y : MethodName} {cc : ByteArray} {n : Nat} {rm : Room} {av : List Value} {V V' : zV3} {r : Int64} (hy : plainName y.cls = true) (hn : (lg_sl av).length ≤ n)
    (body : ∀ (p : Program) (e : Env) (s : State) (m : MethodId) (args : Array Value) (below : List Frame) (meth : Method) (c : Code) (Q : State → Prop), p.tables.exec = Jvm.exec → c.code = cc → c.maxLocals = n → s.vm.findClass y.cls = some m.cls → (∀ w ∈ zWL, w.before args s = true) → zK G A s → zM G V s.heap → va_S A s.heap s.heap [] →
      (∀ (H : Heap) (locs : List Loc) (pc : Nat) (ls : Array Slot), zM G V' H → va_S A s.heap H locs → decode cc pc = .ok (.lreturn, 1) → W p l e rm s m args below meth c H locs 0 0 Q (F0 m pc ls (some (.long r)).toList)) →
      ∀ ls : Array Slot, lv_has ls n (lv_args 0 av) → W p l e rm s m args below meth c s.heap [] 0 0 Q (F0 m 0 ls [])) : zCt l G A y cc n (some .long) rm av V (some (.long r)) V' := by
  refine Met.ofW (cc := cc) (maxL := n) (ret := (some .long)) hy rfl ?_
  intro p e s m args below meth c s₁ B hml hv
  obtain ⟨rfl, hK, hM⟩ := hv
  have hts := atoms_spec (ws := Cond.code y cc n ((some .long)) :: zWL) B.pre
  have hlocks := B.notSynchronized
  have hl := lv_entry av (n := n) hn
  rw [lg_entry_eq]
  exact body p e s m _ below meth c _ B.exec B.bytes hml (findClass_of_methodNamed B.named) (fun w h => hts w (List.mem_cons_of_mem _ h)) hK hM va_S.rf (fun H locs pc ls hM hS hd => W.lret (v := r) B.exec B.bytes B.returns (fun t ht hW => ⟨rfl, by rw [ht]; exact hM, hS.F ht⟩) hS.2.2 hd) _ hl
theorem z_CtQ {l : Launch} {G : zG} {A : Nat → Prop} {y : MethodName} {cc : ByteArray} {n : Nat} {rm : Room} {av : List Value} {V V' : zV3} {r : Option Nat} {C : String} (hy : plainName y.cls = true) (hn : (lg_sl av).length ≤ n)
    (body : ∀ (p : Program) (e : Env) (s : State) (m : MethodId) (args : Array Value) (below : List Frame) (meth : Method) (c : Code) (Q : State → Prop), p.tables.exec = Jvm.exec → c.code = cc → c.maxLocals = n → s.vm.findClass y.cls = some m.cls → (∀ w ∈ zWL, w.before args s = true) → zK G A s → zM G V s.heap → va_S A s.heap s.heap [] →
      (∀ (H : Heap) (locs : List Loc) (pc : Nat) (ls : Array Slot), zM G V' H → va_S A s.heap H locs → decode cc pc = .ok (.areturn, 1) → W p l e rm s m args below meth c H locs 0 0 Q (F0 m pc ls (some (va_rf r)).toList)) →
      ∀ ls : Array Slot, lv_has ls n (lv_args 0 av) → W p l e rm s m args below meth c s.heap [] 0 0 Q (F0 m 0 ls [])) : zCt l G A y cc n (some (.object C)) rm av V (some (va_rf r)) V' := by
  refine Met.ofW (cc := cc) (maxL := n) (ret := (some (.object C))) hy rfl ?_
  intro p e s m args below meth c s₁ B hml hv
  obtain ⟨rfl, hK, hM⟩ := hv
  have hts := atoms_spec (ws := Cond.code y cc n ((some (.object C))) :: zWL) B.pre
  have hlocks := B.notSynchronized
  have hl := lv_entry av (n := n) hn
  rw [lg_entry_eq]
  exact body p e s m _ below meth c _ B.exec B.bytes hml (findClass_of_methodNamed B.named) (fun w h => hts w (List.mem_cons_of_mem _ h)) hK hM va_S.rf (fun H locs pc ls hM hS hd => W.aret (v := va_rf r) B.exec B.bytes B.returns (Or.inl ⟨_, rfl⟩) (va_rf_or r) (fun t ht hW => ⟨rfl, by rw [ht]; exact hM, hS.F ht⟩) hS.2.2 hd) _ hl
section ZCALL
variable {p : Program} {l : Launch} {e : Env} {R : Room} {s : State} {m : MethodId} {args : Array Value} {below : List Frame} {meth : Method} {c : Code} {H : Heap} {locs : List Loc} {cells slots : Nat} {Q : State → Prop}
variable {cc : ByteArray} {pc : Nat} {ls : Array Slot} {rest st0 : List Value} {G : zG} {V V' : zV3} {A : Nat → Prop}
theorem z_run {rv : Option Value} (hr : va_Run p l e R s m args below meth c H locs cells slots 0 0 (F0 m pc ls st0) rest (fun st oc t => oc = .returned rv ∧ zM G V' t.heap ∧ va_F A st t) A) (hS : va_S A s.heap H locs)
    (kk : ∀ (H1 : Heap) (locs1 : List Loc), zM G V' H1 → va_S A s.heap H1 locs1 → W p l e R s m args below meth c H1 locs1 cells slots Q (F0 m (pc + 3) ls (rv.toList ++ rest))) : W p l e R s m args below meth c H locs cells slots Q (F0 m pc ls st0) := by
  intro T hT X
  obtain ⟨v, st₀, t, T', L, h0, X', hL, e1, e2, ⟨hv, hM, hz, hk⟩, st⟩ := hr T hT X
  cases hv
  rw [h0] at hz hk
  obtain ⟨t2, a1, b1⟩ := kk T'.heap (locs ++ L) (by rw [e1]; exact hM)
    ⟨Nat.le_trans hS.1 (by rw [e1]; exact hz), fun q h1 h2 => by rw [e1, hk q (Nat.lt_of_lt_of_le h1 hS.1) h2]; exact hS.2.1 q h1 h2, fun q hq => by
      rcases List.mem_append.mp hq with h | h
      · exact hS.2.2 q h
      · exact hL q h⟩ T' rfl X'
  exact ⟨t2, st t2 a1, b1⟩
theorem z_callV {y : MethodName} {bytes : ByteArray} {maxL n index nL : Nat} {ret : Option FieldType} {rm : Room} {own C : String} {b : Addr} {As : List Value} {rv : Option Value} (hx : p.tables.exec = Jvm.exec) (hb : c.code = cc) (hml : c.maxLocals = nL) (hown : s.vm.findClass own = some m.cls) (hL : ∀ w ∈ zWL, w.before args s = true) (hK : zK G A s) (hM : zM G V H) (hS : va_S A s.heap H locs)
    (hc : zCt l G A y bytes maxL ret rm (.ref b :: As) V rv V') (hG : GoodIn zWL (wsV own index C y (.code y bytes maxL ret :: zWL))) (hd : y.cls = C ∧ y.cls ≠ "java/lang/invoke/MethodHandle" ∧ y.cls ≠ "java/lang/invoke/VarHandle" ∧ (parseMethodDescriptor y.desc).map (fun d => d.parameters.length) = some n) (hrm : rm.cells = 0 ∧ rm.slots = 0) (hR : rm.frames + 1 ≤ R.frames ∧ 8 + (maxL + 11) + rm.locals ≤ R.locals)
    (hrc : ∃ cell : Cell, H[b]? = some cell ∧ cell.vm.isStatics = false ∧ s.vm.findClass C = some cell.cls) (hn : As.length = n) (hls : ls.size = nL) (hst : st0 = As.reverse ++ .ref b :: rest) (hW : (rest.map fun v => v.category).sum ≤ 8) (hdg : decode cc pc = .ok (.invokevirtual index, 3)) (hf : cells ≤ R.cells ∧ slots ≤ R.slots)
    (kk : ∀ (H1 : Heap) (locs1 : List Loc), zM G V' H1 → va_S A s.heap H1 locs1 → W p l e R s m args below meth c H1 locs1 cells slots Q (F0 m (pc + 3) ls (rv.toList ++ rest))) : W p l e R s m args below meth c H locs cells slots Q (F0 m pc ls st0) :=
  z_run (va_runV (As := As) (rest := rest) ⟨hx, hb, hml, hown, hL⟩ hc (cwV n hL hG rfl hrm.1 hrm.2 hd hR) ⟨fun a U g mk q => ⟨q.1, q.2.1.blind, q.2.2⟩, hrc, fun U hU hW => ⟨rfl, hK.warm hS hU hW, by rw [hU]; exact hM⟩⟩ rfl hn hls hst (lv_room hW) hdg hf) hS kk
theorem z_callS {y : MethodName} {bytes : ByteArray} {maxL n index nL : Nat} {ret : Option FieldType} {rm : Room} {own : String} {As : List Value} {rv : Option Value} (hx : p.tables.exec = Jvm.exec) (hb : c.code = cc) (hml : c.maxLocals = nL) (hown : s.vm.findClass own = some m.cls) (hL : ∀ w ∈ zWL, w.before args s = true) (hK : zK G A s) (hM : zM G V H) (hS : va_S A s.heap H locs)
    (hc : zCt l G A y bytes maxL ret rm As V rv V') (hG : GoodIn zWL (va_wsS own index y (.code y bytes maxL ret :: zWL))) (hd : y.cls ≠ "java/lang/invoke/MethodHandle" ∧ y.cls ≠ "java/lang/invoke/VarHandle" ∧ (parseMethodDescriptor y.desc).map (fun d => d.parameters.length) = some n) (hrm : rm.cells = 0 ∧ rm.slots = 0) (hR : rm.frames + 1 ≤ R.frames ∧ 8 + (maxL + 11) + rm.locals ≤ R.locals)
    (hn : As.length = n) (hls : ls.size = nL) (hst : st0 = As.reverse ++ rest) (hW : (rest.map fun v => v.category).sum ≤ 8) (hdg : decode cc pc = .ok (.invokestatic index, 3)) (hf : cells ≤ R.cells ∧ slots ≤ R.slots)
    (kk : ∀ (H1 : Heap) (locs1 : List Loc), zM G V' H1 → va_S A s.heap H1 locs1 → W p l e R s m args below meth c H1 locs1 cells slots Q (F0 m (pc + 3) ls (rv.toList ++ rest))) : W p l e R s m args below meth c H locs cells slots Q (F0 m pc ls st0) :=
  z_run (va_runS (As := As) (rest := rest) ⟨hx, hb, hml, hown, hL⟩ hc (va_cwS n hL hG rfl hrm.1 hrm.2 hd hR) ⟨fun a U g mk q => ⟨q.1, q.2.1.blind, q.2.2⟩, fun U hU hW => ⟨rfl, hK.warm hS hU hW, by rw [hU]; exact hM⟩⟩ rfl hn hls hst (lv_room hW) hdg hf) hS kk
theorem z_callN {y : MethodName} {bytes : ByteArray} {maxL n index nL : Nat} {ret : Option FieldType} {rm : Room} {own C host : String} {b : Addr} {As : List Value} {rv : Option Value} (hx : p.tables.exec = Jvm.exec) (hb : c.code = cc) (hml : c.maxLocals = nL) (hown : s.vm.findClass own = some m.cls) (hL : ∀ w ∈ zWL, w.before args s = true) (hK : zK G A s) (hM : zM G V H) (hS : va_S A s.heap H locs)
    (hc : zCt l G A y bytes maxL ret rm (.ref b :: As) V rv V') (hcw : Cond.code y bytes maxL ret ∈ zWL) (h2 : Cond.instanceMethod y ∈ zWL) (h3 : Cond.selects C y y ∈ zWL) (h4 : Cond.initialized y.cls ∈ zWL) (q : Nat) (hlink : zNM[q]? = some (own, index, y, host)) (hd : y.cls ≠ "java/lang/invoke/MethodHandle" ∧ y.cls ≠ "java/lang/invoke/VarHandle" ∧ (parseMethodDescriptor y.desc).map (fun d => d.parameters.length) = some n) (hrm : rm.cells = 0 ∧ rm.slots = 0) (hR : rm.frames + 1 ≤ R.frames ∧ 8 + (maxL + 11) + rm.locals ≤ R.locals)
    (hrc : ∃ cell : Cell, H[b]? = some cell ∧ cell.vm.isStatics = false ∧ s.vm.findClass C = some cell.cls) (hn : As.length = n) (hls : ls.size = nL) (hst : st0 = As.reverse ++ .ref b :: rest) (hW : (rest.map fun v => v.category).sum ≤ 8) (hdg : decode cc pc = .ok (.invokevirtual index, 3)) (hf : cells ≤ R.cells ∧ slots ≤ R.slots)
    (kk : ∀ (H1 : Heap) (locs1 : List Loc), zM G V' H1 → va_S A s.heap H1 locs1 → W p l e R s m args below meth c H1 locs1 cells slots Q (F0 m (pc + 3) ls (rv.toList ++ rest))) : W p l e R s m args below meth c H locs cells slots Q (F0 m pc ls st0) :=
  z_run (va_runVN (As := As) (rest := rest) (host := host) ⟨hx, hb, hml, hown, hL⟩ hc ⟨va_cnB n hL (zw_gc hcw) rfl hrm.1 hrm.2 (hK.2.2.1.2 _ (List.mem_of_getElem? hlink)) (hL _ h4) hd hR, hL _ h2, hL _ h3⟩ ⟨fun a U g mk q => ⟨q.1, q.2.1.blind, q.2.2⟩, hrc, fun U hU hW => ⟨rfl, hK.warm hS hU hW, by rw [hU]; exact hM⟩⟩ rfl hn hls hst (lv_room hW) hdg hf) hS kk
end ZCALL
end
section
theorem ze_0 (G : zG) (V : zV3) (g i : Nat) (h : zV2) : zcell G (upG V g h) 0 g 0 = .inr (0, [.ref (gA G 1 g 0), .ref (gA G 2 g 0), .ref (gA G 3 g 0), .ref (gA G 3 g 1), .ref (gA G 4 g 0), .ref (gA G 5 g 0), .int (h 13 0), .int (h 14 0), .int (h 15 0), .int (h 16 0)]) := by simp only [zcell, upG_self]
theorem zd_0 (G : zG) (V : zV3) (g i : Nat) : zcell G V 0 g 0 = .inr (0, [.ref (gA G 1 g 0), .ref (gA G 2 g 0), .ref (gA G 3 g 0), .ref (gA G 3 g 1), .ref (gA G 4 g 0), .ref (gA G 5 g 0), .int (V g 13 0), .int (V g 14 0), .int (V g 15 0), .int (V g 16 0)]) := rfl
theorem ze_3 (G : zG) (V : zV3) (g i : Nat) (h : zV2) : zcell G (upG V g h) 3 g i = .inr (2, [.ref (gA G 6 g i), .ref (gA G 7 g i), .int (h (23 + i) 0)]) := by simp only [zcell, upG_self]
theorem zd_3 (G : zG) (V : zV3) (g i : Nat) : zcell G V 3 g i = .inr (2, [.ref (gA G 6 g i), .ref (gA G 7 g i), .int (V g (23 + i) 0)]) := rfl
theorem ze_8 (G : zG) (V : zV3) (g i : Nat) (h : zV2) : zcell G (upG V g h) 8 g i = .inr (3, [.int (nI i), .int (h 0 i), .int (h 1 i), .int (h 2 i), .int (h 3 i), .int (h 4 i), .int (h 5 i)]) := by simp only [zcell, upG_self]
theorem zd_8 (G : zG) (V : zV3) (g i : Nat) : zcell G V 8 g i = .inr (3, [.int (nI i), .int (V g 0 i), .int (V g 1 i), .int (V g 2 i), .int (V g 3 i), .int (V g 4 i), .int (V g 5 i)]) := rfl
theorem ze_9 (G : zG) (V : zV3) (g i : Nat) (h : zV2) : zcell G (upG V g h) 9 g i = .inr (4, [.int (nI i), .int (h 6 i), .int (h 7 i), .int (h 8 i), .int (h 9 i), .int (h 10 i), .int (h 11 i), .int (h 12 i)]) := by simp only [zcell, upG_self]
theorem zd_9 (G : zG) (V : zV3) (g i : Nat) : zcell G V 9 g i = .inr (4, [.int (nI i), .int (V g 6 i), .int (V g 7 i), .int (V g 8 i), .int (V g 9 i), .int (V g 10 i), .int (V g 11 i), .int (V g 12 i)]) := rfl
theorem ze_11 (G : zG) (V : zV3) (g i : Nat) (h : zV2) : zcell G (upG V 7 h) 11 0 0 = .inr (1, [.ref (gA G 12 0 0), .int (h 0 0), .int (h 1 0)]) := by simp only [zcell, upG_self]
theorem zd_11 (G : zG) (V : zV3) (g i : Nat) : zcell G V 11 0 0 = .inr (1, [.ref (gA G 12 0 0), .int (V 7 0 0), .int (V 7 1 0)]) := rfl
theorem ze_13 (G : zG) (V : zV3) (g i : Nat) (h : zV2) : zcell G (upG V 7 h) 13 0 0 = .inr (6, [.ref (gA G 14 0 0), .int (h 3 0), zverb G (h 4 0), .int (h 5 0), .int (h 6 0), .int (h 7 0)]) := by simp only [zcell, upG_self]
theorem zd_13 (G : zG) (V : zV3) (g i : Nat) : zcell G V 13 0 0 = .inr (6, [.ref (gA G 14 0 0), .int (V 7 3 0), zverb G (V 7 4 0), .int (V 7 5 0), .int (V 7 6 0), .int (V 7 7 0)]) := rfl
theorem ze_15 (G : zG) (V : zV3) (g i : Nat) (h : zV2) : zcell G (upG V 7 h) 15 0 0 = .inr (5, [.ref (gA G 0 6 0), .int (h 8 0), .int (h 9 0), .int (h 10 0), .int (h 11 0)]) := by simp only [zcell, upG_self]
theorem zd_15 (G : zG) (V : zV3) (g i : Nat) : zcell G V 15 0 0 = .inr (5, [.ref (gA G 0 6 0), .int (V 7 8 0), .int (V 7 9 0), .int (V 7 10 0), .int (V 7 11 0)]) := rfl
theorem ze_16 (G : zG) (V : zV3) (g i : Nat) (h : zV2) : zcell G (upG V 8 h) 16 0 0 = .inr (8, [.ref (gA G 17 0 0), .ref (gA G 17 0 1), .ref (gA G 17 0 2), .ref (gA G 17 0 3), .int (h 6 0), .ref (gA G 17 0 4), .int (h 7 0), .int (h 8 0), .int (h 9 0), .int (h 10 0), .int (h 11 0), .ref (gA G 17 0 5)]) := by simp only [zcell, upG_self]
theorem zd_16 (G : zG) (V : zV3) (g i : Nat) : zcell G V 16 0 0 = .inr (8, [.ref (gA G 17 0 0), .ref (gA G 17 0 1), .ref (gA G 17 0 2), .ref (gA G 17 0 3), .int (V 8 6 0), .ref (gA G 17 0 4), .int (V 8 7 0), .int (V 8 8 0), .int (V 8 9 0), .int (V 8 10 0), .int (V 8 11 0), .ref (gA G 17 0 5)]) := rfl
theorem ze_4 (G : zG) (V : zV3) (g i : Nat) (h : zV2) : zcell G (upG V g h) 4 g 0 = .inl (gC G 0, 3, .inl (h 17)) := by simp only [zcell, upG_self]
theorem zd_4 (G : zG) (V : zV3) (g i : Nat) : zcell G V 4 g 0 = .inl (gC G 0, 3, .inl (V g 17)) := rfl
theorem ze_5 (G : zG) (V : zV3) (g i : Nat) (h : zV2) : zcell G (upG V g h) 5 g 0 = .inl (gC G 0, 3, .inl (h 18)) := by simp only [zcell, upG_self]
theorem zd_5 (G : zG) (V : zV3) (g i : Nat) : zcell G V 5 g 0 = .inl (gC G 0, 3, .inl (V g 18)) := rfl
theorem ze_6 (G : zG) (V : zV3) (g i : Nat) (h : zV2) : zcell G (upG V g h) 6 g i = .inl (gC G 0, 10, .inl (h (19 + i))) := by simp only [zcell, upG_self]
theorem zd_6 (G : zG) (V : zV3) (g i : Nat) : zcell G V 6 g i = .inl (gC G 0, 10, .inl (V g (19 + i))) := rfl
theorem ze_7 (G : zG) (V : zV3) (g i : Nat) (h : zV2) : zcell G (upG V g h) 7 g i = .inl (gC G 0, 10, .inl (h (21 + i))) := by simp only [zcell, upG_self]
theorem zd_7 (G : zG) (V : zV3) (g i : Nat) : zcell G V 7 g i = .inl (gC G 0, 10, .inl (V g (21 + i))) := rfl
theorem ze_14 (G : zG) (V : zV3) (g i : Nat) (h : zV2) : zcell G (upG V 7 h) 14 0 0 = .inl (gC G 1, 80, .inl (h 2)) := by simp only [zcell, upG_self]
theorem zd_14 (G : zG) (V : zV3) (g i : Nat) : zcell G V 14 0 0 = .inl (gC G 1, 80, .inl (V 7 2)) := rfl
theorem zd_1 (G : zG) (V : zV3) (g i : Nat) : zcell G V 1 g 0 = .inl (gC G 2, 12, zq (fun j => some (gA G 8 g j))) := rfl
theorem zd_2 (G : zG) (V : zV3) (g i : Nat) : zcell G V 2 g 0 = .inl (gC G 3, 10, zq (fun j => some (gA G 9 g j))) := rfl
theorem zd_12 (G : zG) (V : zV3) : zcell G V 12 0 0 = .inl (gC G 4, 5, zq (fun j => some (gA G 0 (j + 1) 0))) := rfl
theorem zd_10 (G : zG) (V : zV3) : zcell G V 10 0 0 = .inr (7, [.ref (gA G 0 0 0), .ref (gA G 11 0 0), .ref (gA G 13 0 0), .ref (gA G 15 0 0)]) := rfl
theorem ze_17_0 (G : zG) (V : zV3) (h : zV2) : zcell G (upG V 8 h) 17 0 0 = .inl (gC G 0, 193, .inl (h 0)) := by simp only [zcell, upG_self, zlen]
theorem zd_17_0 (G : zG) (V : zV3) : zcell G V 17 0 0 = .inl (gC G 0, 193, .inl (V 8 0)) := rfl
theorem ze_17_1 (G : zG) (V : zV3) (h : zV2) : zcell G (upG V 8 h) 17 0 1 = .inl (gC G 0, 193, .inl (h 1)) := by simp only [zcell, upG_self, zlen]
theorem zd_17_1 (G : zG) (V : zV3) : zcell G V 17 0 1 = .inl (gC G 0, 193, .inl (V 8 1)) := rfl
theorem ze_17_2 (G : zG) (V : zV3) (h : zV2) : zcell G (upG V 8 h) 17 0 2 = .inl (gC G 0, 193, .inl (h 2)) := by simp only [zcell, upG_self, zlen]
theorem zd_17_2 (G : zG) (V : zV3) : zcell G V 17 0 2 = .inl (gC G 0, 193, .inl (V 8 2)) := rfl
theorem ze_17_3 (G : zG) (V : zV3) (h : zV2) : zcell G (upG V 8 h) 17 0 3 = .inl (gC G 0, 772, .inl (h 3)) := by simp only [zcell, upG_self, zlen]
theorem zd_17_3 (G : zG) (V : zV3) : zcell G V 17 0 3 = .inl (gC G 0, 772, .inl (V 8 3)) := rfl
theorem ze_17_4 (G : zG) (V : zV3) (h : zV2) : zcell G (upG V 8 h) 17 0 4 = .inl (gC G 0, 80, .inl (h 4)) := by simp only [zcell, upG_self, zlen]
theorem zd_17_4 (G : zG) (V : zV3) : zcell G V 17 0 4 = .inl (gC G 0, 80, .inl (V 8 4)) := rfl
theorem ze_17_5 (G : zG) (V : zV3) (h : zV2) : zcell G (upG V 8 h) 17 0 5 = .inl (gC G 0, 2, .inl (h 5)) := by simp only [zcell, upG_self, zlen]
theorem zd_17_5 (G : zG) (V : zV3) : zcell G V 17 0 5 = .inl (gC G 0, 2, .inl (V 8 5)) := rfl
theorem zn_8_0 (G : zG) (V : zV3) (g : Nat) (hg : g < 7) (h : zV2) (i : Nat) (x : Int32) : ∀ k' g' i', zdom k' g' i' → zcell G (upG V g (up2 h 0 i x)) k' g' i' = if k' = 8 ∧ g' = g ∧ i' = i then .inr (3, [.int (nI i), .int x, .int (h 1 i), .int (h 2 i), .int (h 3 i), .int (h 4 i), .int (h 5 i)]) else zcell G (upG V g h) k' g' i' := by
  intro k' g' i' hd
  match k', hd with
  | 0, hd => 
    by_cases e : g' = g
    · subst e
      simp [zcell, upG_self, up2, funext_iff]
    · simp [zcell, upG_ne _ _ e, e]
  | 1, hd => 
    by_cases e : g' = g
    · subst e
      simp [zcell, upG_self, up2, funext_iff]
    · simp [zcell, upG_ne _ _ e, e]
  | 2, hd => 
    by_cases e : g' = g
    · subst e
      simp [zcell, upG_self, up2, funext_iff]
    · simp [zcell, upG_ne _ _ e, e]
  | 3, hd => 
    by_cases e : g' = g
    · subst e
      have hw2 := hd.2; simp [zcell, upG_self, up2, funext_iff] <;> omega
    · simp [zcell, upG_ne _ _ e, e]
  | 4, hd => 
    by_cases e : g' = g
    · subst e
      simp [zcell, upG_self, up2, funext_iff]
    · simp [zcell, upG_ne _ _ e, e]
  | 5, hd => 
    by_cases e : g' = g
    · subst e
      simp [zcell, upG_self, up2, funext_iff]
    · simp [zcell, upG_ne _ _ e, e]
  | 6, hd => 
    by_cases e : g' = g
    · subst e
      have hw2 := hd.2; simp [zcell, upG_self, up2, funext_iff] <;> omega
    · simp [zcell, upG_ne _ _ e, e]
  | 7, hd => 
    by_cases e : g' = g
    · subst e
      have hw2 := hd.2; simp [zcell, upG_self, up2, funext_iff] <;> omega
    · simp [zcell, upG_ne _ _ e, e]
  | 8, hd => 
    by_cases e : g' = g
    · subst e
      by_cases e2 : i' = i
      · subst e2; simp [zcell, upG_self, up2, upd, funext_iff]
      · simp [zcell, upG_self, up2, e2, funext_iff]
    · simp [zcell, upG_ne _ _ e, e]
  | 9, hd => 
    by_cases e : g' = g
    · subst e
      simp [zcell, upG_self, up2, funext_iff]
    · simp [zcell, upG_ne _ _ e, e]
  | 10, hd => 
    have e : 7 ≠ g := by omega
    simp [zcell, upG_ne _ _ e]
  | 11, hd => 
    have e : 7 ≠ g := by omega
    simp [zcell, upG_ne _ _ e]
  | 12, hd => 
    have e : 7 ≠ g := by omega
    simp [zcell, upG_ne _ _ e]
  | 13, hd => 
    have e : 7 ≠ g := by omega
    simp [zcell, upG_ne _ _ e]
  | 14, hd => 
    have e : 7 ≠ g := by omega
    simp [zcell, upG_ne _ _ e]
  | 15, hd => 
    have e : 7 ≠ g := by omega
    simp [zcell, upG_ne _ _ e]
  | 16, hd => 
    have e : 8 ≠ g := by omega
    simp [zcell, upG_ne _ _ e]
  | 17, hd => 
    have e : 8 ≠ g := by omega
    simp [zcell, upG_ne _ _ e]
  | n + 18, hd => exact absurd (show n + 18 < 17 ∧ g' = 0 ∧ i' = 0 from hd).1 (by omega)
theorem zm_8_0 (G : zG) (V : zV3) (g : Nat) (hg : g < 7) (i : Nat) (x : Int32) : ∀ k' g' i', zdom k' g' i' → zcell G (upG V g (up2 (V g) 0 i x)) k' g' i' = if k' = 8 ∧ g' = g ∧ i' = i then .inr (3, [.int (nI i), .int x, .int (V g 1 i), .int (V g 2 i), .int (V g 3 i), .int (V g 4 i), .int (V g 5 i)]) else zcell G V k' g' i' := by
  have h9 := zn_8_0 G V g hg (V g) i x
  rwa [upG_id] at h9
theorem zn_8_1 (G : zG) (V : zV3) (g : Nat) (hg : g < 7) (h : zV2) (i : Nat) (x : Int32) : ∀ k' g' i', zdom k' g' i' → zcell G (upG V g (up2 h 1 i x)) k' g' i' = if k' = 8 ∧ g' = g ∧ i' = i then .inr (3, [.int (nI i), .int (h 0 i), .int x, .int (h 2 i), .int (h 3 i), .int (h 4 i), .int (h 5 i)]) else zcell G (upG V g h) k' g' i' := by
  intro k' g' i' hd
  match k', hd with
  | 0, hd => 
    by_cases e : g' = g
    · subst e
      simp [zcell, upG_self, up2, funext_iff]
    · simp [zcell, upG_ne _ _ e, e]
  | 1, hd => 
    by_cases e : g' = g
    · subst e
      simp [zcell, upG_self, up2, funext_iff]
    · simp [zcell, upG_ne _ _ e, e]
  | 2, hd => 
    by_cases e : g' = g
    · subst e
      simp [zcell, upG_self, up2, funext_iff]
    · simp [zcell, upG_ne _ _ e, e]
  | 3, hd => 
    by_cases e : g' = g
    · subst e
      have hw2 := hd.2; simp [zcell, upG_self, up2, funext_iff] <;> omega
    · simp [zcell, upG_ne _ _ e, e]
  | 4, hd => 
    by_cases e : g' = g
    · subst e
      simp [zcell, upG_self, up2, funext_iff]
    · simp [zcell, upG_ne _ _ e, e]
  | 5, hd => 
    by_cases e : g' = g
    · subst e
      simp [zcell, upG_self, up2, funext_iff]
    · simp [zcell, upG_ne _ _ e, e]
  | 6, hd => 
    by_cases e : g' = g
    · subst e
      have hw2 := hd.2; simp [zcell, upG_self, up2, funext_iff] <;> omega
    · simp [zcell, upG_ne _ _ e, e]
  | 7, hd => 
    by_cases e : g' = g
    · subst e
      have hw2 := hd.2; simp [zcell, upG_self, up2, funext_iff] <;> omega
    · simp [zcell, upG_ne _ _ e, e]
  | 8, hd => 
    by_cases e : g' = g
    · subst e
      by_cases e2 : i' = i
      · subst e2; simp [zcell, upG_self, up2, upd, funext_iff]
      · simp [zcell, upG_self, up2, e2, funext_iff]
    · simp [zcell, upG_ne _ _ e, e]
  | 9, hd => 
    by_cases e : g' = g
    · subst e
      simp [zcell, upG_self, up2, funext_iff]
    · simp [zcell, upG_ne _ _ e, e]
  | 10, hd => 
    have e : 7 ≠ g := by omega
    simp [zcell, upG_ne _ _ e]
  | 11, hd => 
    have e : 7 ≠ g := by omega
    simp [zcell, upG_ne _ _ e]
  | 12, hd => 
    have e : 7 ≠ g := by omega
    simp [zcell, upG_ne _ _ e]
  | 13, hd => 
    have e : 7 ≠ g := by omega
    simp [zcell, upG_ne _ _ e]
  | 14, hd => 
    have e : 7 ≠ g := by omega
    simp [zcell, upG_ne _ _ e]
  | 15, hd => 
    have e : 7 ≠ g := by omega
    simp [zcell, upG_ne _ _ e]
  | 16, hd => 
    have e : 8 ≠ g := by omega
    simp [zcell, upG_ne _ _ e]
  | 17, hd => 
    have e : 8 ≠ g := by omega
    simp [zcell, upG_ne _ _ e]
  | n + 18, hd => exact absurd (show n + 18 < 17 ∧ g' = 0 ∧ i' = 0 from hd).1 (by omega)
theorem zm_8_1 (G : zG) (V : zV3) (g : Nat) (hg : g < 7) (i : Nat) (x : Int32) : ∀ k' g' i', zdom k' g' i' → zcell G (upG V g (up2 (V g) 1 i x)) k' g' i' = if k' = 8 ∧ g' = g ∧ i' = i then .inr (3, [.int (nI i), .int (V g 0 i), .int x, .int (V g 2 i), .int (V g 3 i), .int (V g 4 i), .int (V g 5 i)]) else zcell G V k' g' i' := by
  have h9 := zn_8_1 G V g hg (V g) i x
  rwa [upG_id] at h9
theorem zn_8_2 (G : zG) (V : zV3) (g : Nat) (hg : g < 7) (h : zV2) (i : Nat) (x : Int32) : ∀ k' g' i', zdom k' g' i' → zcell G (upG V g (up2 h 2 i x)) k' g' i' = if k' = 8 ∧ g' = g ∧ i' = i then .inr (3, [.int (nI i), .int (h 0 i), .int (h 1 i), .int x, .int (h 3 i), .int (h 4 i), .int (h 5 i)]) else zcell G (upG V g h) k' g' i' := by
  intro k' g' i' hd
  match k', hd with
  | 0, hd => 
    by_cases e : g' = g
    · subst e
      simp [zcell, upG_self, up2, funext_iff]
    · simp [zcell, upG_ne _ _ e, e]
  | 1, hd => 
    by_cases e : g' = g
    · subst e
      simp [zcell, upG_self, up2, funext_iff]
    · simp [zcell, upG_ne _ _ e, e]
  | 2, hd => 
    by_cases e : g' = g
    · subst e
      simp [zcell, upG_self, up2, funext_iff]
    · simp [zcell, upG_ne _ _ e, e]
  | 3, hd => 
    by_cases e : g' = g
    · subst e
      have hw2 := hd.2; simp [zcell, upG_self, up2, funext_iff] <;> omega
    · simp [zcell, upG_ne _ _ e, e]
  | 4, hd => 
    by_cases e : g' = g
    · subst e
      simp [zcell, upG_self, up2, funext_iff]
    · simp [zcell, upG_ne _ _ e, e]
  | 5, hd => 
    by_cases e : g' = g
    · subst e
      simp [zcell, upG_self, up2, funext_iff]
    · simp [zcell, upG_ne _ _ e, e]
  | 6, hd => 
    by_cases e : g' = g
    · subst e
      have hw2 := hd.2; simp [zcell, upG_self, up2, funext_iff] <;> omega
    · simp [zcell, upG_ne _ _ e, e]
  | 7, hd => 
    by_cases e : g' = g
    · subst e
      have hw2 := hd.2; simp [zcell, upG_self, up2, funext_iff] <;> omega
    · simp [zcell, upG_ne _ _ e, e]
  | 8, hd => 
    by_cases e : g' = g
    · subst e
      by_cases e2 : i' = i
      · subst e2; simp [zcell, upG_self, up2, upd, funext_iff]
      · simp [zcell, upG_self, up2, e2, funext_iff]
    · simp [zcell, upG_ne _ _ e, e]
  | 9, hd => 
    by_cases e : g' = g
    · subst e
      simp [zcell, upG_self, up2, funext_iff]
    · simp [zcell, upG_ne _ _ e, e]
  | 10, hd => 
    have e : 7 ≠ g := by omega
    simp [zcell, upG_ne _ _ e]
  | 11, hd => 
    have e : 7 ≠ g := by omega
    simp [zcell, upG_ne _ _ e]
  | 12, hd => 
    have e : 7 ≠ g := by omega
    simp [zcell, upG_ne _ _ e]
  | 13, hd => 
    have e : 7 ≠ g := by omega
    simp [zcell, upG_ne _ _ e]
  | 14, hd => 
    have e : 7 ≠ g := by omega
    simp [zcell, upG_ne _ _ e]
  | 15, hd => 
    have e : 7 ≠ g := by omega
    simp [zcell, upG_ne _ _ e]
  | 16, hd => 
    have e : 8 ≠ g := by omega
    simp [zcell, upG_ne _ _ e]
  | 17, hd => 
    have e : 8 ≠ g := by omega
    simp [zcell, upG_ne _ _ e]
  | n + 18, hd => exact absurd (show n + 18 < 17 ∧ g' = 0 ∧ i' = 0 from hd).1 (by omega)
theorem zm_8_2 (G : zG) (V : zV3) (g : Nat) (hg : g < 7) (i : Nat) (x : Int32) : ∀ k' g' i', zdom k' g' i' → zcell G (upG V g (up2 (V g) 2 i x)) k' g' i' = if k' = 8 ∧ g' = g ∧ i' = i then .inr (3, [.int (nI i), .int (V g 0 i), .int (V g 1 i), .int x, .int (V g 3 i), .int (V g 4 i), .int (V g 5 i)]) else zcell G V k' g' i' := by
  have h9 := zn_8_2 G V g hg (V g) i x
  rwa [upG_id] at h9
theorem zn_8_3 (G : zG) (V : zV3) (g : Nat) (hg : g < 7) (h : zV2) (i : Nat) (x : Int32) : ∀ k' g' i', zdom k' g' i' → zcell G (upG V g (up2 h 3 i x)) k' g' i' = if k' = 8 ∧ g' = g ∧ i' = i then .inr (3, [.int (nI i), .int (h 0 i), .int (h 1 i), .int (h 2 i), .int x, .int (h 4 i), .int (h 5 i)]) else zcell G (upG V g h) k' g' i' := by
  intro k' g' i' hd
  match k', hd with
  | 0, hd => 
    by_cases e : g' = g
    · subst e
      simp [zcell, upG_self, up2, funext_iff]
    · simp [zcell, upG_ne _ _ e, e]
  | 1, hd => 
    by_cases e : g' = g
    · subst e
      simp [zcell, upG_self, up2, funext_iff]
    · simp [zcell, upG_ne _ _ e, e]
  | 2, hd => 
    by_cases e : g' = g
    · subst e
      simp [zcell, upG_self, up2, funext_iff]
    · simp [zcell, upG_ne _ _ e, e]
  | 3, hd => 
    by_cases e : g' = g
    · subst e
      have hw2 := hd.2; simp [zcell, upG_self, up2, funext_iff] <;> omega
    · simp [zcell, upG_ne _ _ e, e]
  | 4, hd => 
    by_cases e : g' = g
    · subst e
      simp [zcell, upG_self, up2, funext_iff]
    · simp [zcell, upG_ne _ _ e, e]
  | 5, hd => 
    by_cases e : g' = g
    · subst e
      simp [zcell, upG_self, up2, funext_iff]
    · simp [zcell, upG_ne _ _ e, e]
  | 6, hd => 
    by_cases e : g' = g
    · subst e
      have hw2 := hd.2; simp [zcell, upG_self, up2, funext_iff] <;> omega
    · simp [zcell, upG_ne _ _ e, e]
  | 7, hd => 
    by_cases e : g' = g
    · subst e
      have hw2 := hd.2; simp [zcell, upG_self, up2, funext_iff] <;> omega
    · simp [zcell, upG_ne _ _ e, e]
  | 8, hd => 
    by_cases e : g' = g
    · subst e
      by_cases e2 : i' = i
      · subst e2; simp [zcell, upG_self, up2, upd, funext_iff]
      · simp [zcell, upG_self, up2, e2, funext_iff]
    · simp [zcell, upG_ne _ _ e, e]
  | 9, hd => 
    by_cases e : g' = g
    · subst e
      simp [zcell, upG_self, up2, funext_iff]
    · simp [zcell, upG_ne _ _ e, e]
  | 10, hd => 
    have e : 7 ≠ g := by omega
    simp [zcell, upG_ne _ _ e]
  | 11, hd => 
    have e : 7 ≠ g := by omega
    simp [zcell, upG_ne _ _ e]
  | 12, hd => 
    have e : 7 ≠ g := by omega
    simp [zcell, upG_ne _ _ e]
  | 13, hd => 
    have e : 7 ≠ g := by omega
    simp [zcell, upG_ne _ _ e]
  | 14, hd => 
    have e : 7 ≠ g := by omega
    simp [zcell, upG_ne _ _ e]
  | 15, hd => 
    have e : 7 ≠ g := by omega
    simp [zcell, upG_ne _ _ e]
  | 16, hd => 
    have e : 8 ≠ g := by omega
    simp [zcell, upG_ne _ _ e]
  | 17, hd => 
    have e : 8 ≠ g := by omega
    simp [zcell, upG_ne _ _ e]
  | n + 18, hd => exact absurd (show n + 18 < 17 ∧ g' = 0 ∧ i' = 0 from hd).1 (by omega)
theorem zm_8_3 (G : zG) (V : zV3) (g : Nat) (hg : g < 7) (i : Nat) (x : Int32) : ∀ k' g' i', zdom k' g' i' → zcell G (upG V g (up2 (V g) 3 i x)) k' g' i' = if k' = 8 ∧ g' = g ∧ i' = i then .inr (3, [.int (nI i), .int (V g 0 i), .int (V g 1 i), .int (V g 2 i), .int x, .int (V g 4 i), .int (V g 5 i)]) else zcell G V k' g' i' := by
  have h9 := zn_8_3 G V g hg (V g) i x
  rwa [upG_id] at h9
theorem zn_8_4 (G : zG) (V : zV3) (g : Nat) (hg : g < 7) (h : zV2) (i : Nat) (x : Int32) : ∀ k' g' i', zdom k' g' i' → zcell G (upG V g (up2 h 4 i x)) k' g' i' = if k' = 8 ∧ g' = g ∧ i' = i then .inr (3, [.int (nI i), .int (h 0 i), .int (h 1 i), .int (h 2 i), .int (h 3 i), .int x, .int (h 5 i)]) else zcell G (upG V g h) k' g' i' := by
  intro k' g' i' hd
  match k', hd with
  | 0, hd => 
    by_cases e : g' = g
    · subst e
      simp [zcell, upG_self, up2, funext_iff]
    · simp [zcell, upG_ne _ _ e, e]
  | 1, hd => 
    by_cases e : g' = g
    · subst e
      simp [zcell, upG_self, up2, funext_iff]
    · simp [zcell, upG_ne _ _ e, e]
  | 2, hd => 
    by_cases e : g' = g
    · subst e
      simp [zcell, upG_self, up2, funext_iff]
    · simp [zcell, upG_ne _ _ e, e]
  | 3, hd => 
    by_cases e : g' = g
    · subst e
      have hw2 := hd.2; simp [zcell, upG_self, up2, funext_iff] <;> omega
    · simp [zcell, upG_ne _ _ e, e]
  | 4, hd => 
    by_cases e : g' = g
    · subst e
      simp [zcell, upG_self, up2, funext_iff]
    · simp [zcell, upG_ne _ _ e, e]
  | 5, hd => 
    by_cases e : g' = g
    · subst e
      simp [zcell, upG_self, up2, funext_iff]
    · simp [zcell, upG_ne _ _ e, e]
  | 6, hd => 
    by_cases e : g' = g
    · subst e
      have hw2 := hd.2; simp [zcell, upG_self, up2, funext_iff] <;> omega
    · simp [zcell, upG_ne _ _ e, e]
  | 7, hd => 
    by_cases e : g' = g
    · subst e
      have hw2 := hd.2; simp [zcell, upG_self, up2, funext_iff] <;> omega
    · simp [zcell, upG_ne _ _ e, e]
  | 8, hd => 
    by_cases e : g' = g
    · subst e
      by_cases e2 : i' = i
      · subst e2; simp [zcell, upG_self, up2, upd, funext_iff]
      · simp [zcell, upG_self, up2, e2, funext_iff]
    · simp [zcell, upG_ne _ _ e, e]
  | 9, hd => 
    by_cases e : g' = g
    · subst e
      simp [zcell, upG_self, up2, funext_iff]
    · simp [zcell, upG_ne _ _ e, e]
  | 10, hd => 
    have e : 7 ≠ g := by omega
    simp [zcell, upG_ne _ _ e]
  | 11, hd => 
    have e : 7 ≠ g := by omega
    simp [zcell, upG_ne _ _ e]
  | 12, hd => 
    have e : 7 ≠ g := by omega
    simp [zcell, upG_ne _ _ e]
  | 13, hd => 
    have e : 7 ≠ g := by omega
    simp [zcell, upG_ne _ _ e]
  | 14, hd => 
    have e : 7 ≠ g := by omega
    simp [zcell, upG_ne _ _ e]
  | 15, hd => 
    have e : 7 ≠ g := by omega
    simp [zcell, upG_ne _ _ e]
  | 16, hd => 
    have e : 8 ≠ g := by omega
    simp [zcell, upG_ne _ _ e]
  | 17, hd => 
    have e : 8 ≠ g := by omega
    simp [zcell, upG_ne _ _ e]
  | n + 18, hd => exact absurd (show n + 18 < 17 ∧ g' = 0 ∧ i' = 0 from hd).1 (by omega)
theorem zm_8_4 (G : zG) (V : zV3) (g : Nat) (hg : g < 7) (i : Nat) (x : Int32) : ∀ k' g' i', zdom k' g' i' → zcell G (upG V g (up2 (V g) 4 i x)) k' g' i' = if k' = 8 ∧ g' = g ∧ i' = i then .inr (3, [.int (nI i), .int (V g 0 i), .int (V g 1 i), .int (V g 2 i), .int (V g 3 i), .int x, .int (V g 5 i)]) else zcell G V k' g' i' := by
  have h9 := zn_8_4 G V g hg (V g) i x
  rwa [upG_id] at h9
theorem zn_8_5 (G : zG) (V : zV3) (g : Nat) (hg : g < 7) (h : zV2) (i : Nat) (x : Int32) : ∀ k' g' i', zdom k' g' i' → zcell G (upG V g (up2 h 5 i x)) k' g' i' = if k' = 8 ∧ g' = g ∧ i' = i then .inr (3, [.int (nI i), .int (h 0 i), .int (h 1 i), .int (h 2 i), .int (h 3 i), .int (h 4 i), .int x]) else zcell G (upG V g h) k' g' i' := by
  intro k' g' i' hd
  match k', hd with
  | 0, hd => 
    by_cases e : g' = g
    · subst e
      simp [zcell, upG_self, up2, funext_iff]
    · simp [zcell, upG_ne _ _ e, e]
  | 1, hd => 
    by_cases e : g' = g
    · subst e
      simp [zcell, upG_self, up2, funext_iff]
    · simp [zcell, upG_ne _ _ e, e]
  | 2, hd => 
    by_cases e : g' = g
    · subst e
      simp [zcell, upG_self, up2, funext_iff]
    · simp [zcell, upG_ne _ _ e, e]
  | 3, hd => 
    by_cases e : g' = g
    · subst e
      have hw2 := hd.2; simp [zcell, upG_self, up2, funext_iff] <;> omega
    · simp [zcell, upG_ne _ _ e, e]
  | 4, hd => 
    by_cases e : g' = g
    · subst e
      simp [zcell, upG_self, up2, funext_iff]
    · simp [zcell, upG_ne _ _ e, e]
  | 5, hd => 
    by_cases e : g' = g
    · subst e
      simp [zcell, upG_self, up2, funext_iff]
    · simp [zcell, upG_ne _ _ e, e]
  | 6, hd => 
    by_cases e : g' = g
    · subst e
      have hw2 := hd.2; simp [zcell, upG_self, up2, funext_iff] <;> omega
    · simp [zcell, upG_ne _ _ e, e]
  | 7, hd => 
    by_cases e : g' = g
    · subst e
      have hw2 := hd.2; simp [zcell, upG_self, up2, funext_iff] <;> omega
    · simp [zcell, upG_ne _ _ e, e]
  | 8, hd => 
    by_cases e : g' = g
    · subst e
      by_cases e2 : i' = i
      · subst e2; simp [zcell, upG_self, up2, upd, funext_iff]
      · simp [zcell, upG_self, up2, e2, funext_iff]
    · simp [zcell, upG_ne _ _ e, e]
  | 9, hd => 
    by_cases e : g' = g
    · subst e
      simp [zcell, upG_self, up2, funext_iff]
    · simp [zcell, upG_ne _ _ e, e]
  | 10, hd => 
    have e : 7 ≠ g := by omega
    simp [zcell, upG_ne _ _ e]
  | 11, hd => 
    have e : 7 ≠ g := by omega
    simp [zcell, upG_ne _ _ e]
  | 12, hd => 
    have e : 7 ≠ g := by omega
    simp [zcell, upG_ne _ _ e]
  | 13, hd => 
    have e : 7 ≠ g := by omega
    simp [zcell, upG_ne _ _ e]
  | 14, hd => 
    have e : 7 ≠ g := by omega
    simp [zcell, upG_ne _ _ e]
  | 15, hd => 
    have e : 7 ≠ g := by omega
    simp [zcell, upG_ne _ _ e]
  | 16, hd => 
    have e : 8 ≠ g := by omega
    simp [zcell, upG_ne _ _ e]
  | 17, hd => 
    have e : 8 ≠ g := by omega
    simp [zcell, upG_ne _ _ e]
  | n + 18, hd => exact absurd (show n + 18 < 17 ∧ g' = 0 ∧ i' = 0 from hd).1 (by omega)
theorem zm_8_5 (G : zG) (V : zV3) (g : Nat) (hg : g < 7) (i : Nat) (x : Int32) : ∀ k' g' i', zdom k' g' i' → zcell G (upG V g (up2 (V g) 5 i x)) k' g' i' = if k' = 8 ∧ g' = g ∧ i' = i then .inr (3, [.int (nI i), .int (V g 0 i), .int (V g 1 i), .int (V g 2 i), .int (V g 3 i), .int (V g 4 i), .int x]) else zcell G V k' g' i' := by
  have h9 := zn_8_5 G V g hg (V g) i x
  rwa [upG_id] at h9
theorem zn_9_6 (G : zG) (V : zV3) (g : Nat) (hg : g < 7) (h : zV2) (i : Nat) (x : Int32) : ∀ k' g' i', zdom k' g' i' → zcell G (upG V g (up2 h 6 i x)) k' g' i' = if k' = 9 ∧ g' = g ∧ i' = i then .inr (4, [.int (nI i), .int x, .int (h 7 i), .int (h 8 i), .int (h 9 i), .int (h 10 i), .int (h 11 i), .int (h 12 i)]) else zcell G (upG V g h) k' g' i' := by
  intro k' g' i' hd
  match k', hd with
  | 0, hd => 
    by_cases e : g' = g
    · subst e
      simp [zcell, upG_self, up2, funext_iff]
    · simp [zcell, upG_ne _ _ e, e]
  | 1, hd => 
    by_cases e : g' = g
    · subst e
      simp [zcell, upG_self, up2, funext_iff]
    · simp [zcell, upG_ne _ _ e, e]
  | 2, hd => 
    by_cases e : g' = g
    · subst e
      simp [zcell, upG_self, up2, funext_iff]
    · simp [zcell, upG_ne _ _ e, e]
  | 3, hd => 
    by_cases e : g' = g
    · subst e
      have hw2 := hd.2; simp [zcell, upG_self, up2, funext_iff] <;> omega
    · simp [zcell, upG_ne _ _ e, e]
  | 4, hd => 
    by_cases e : g' = g
    · subst e
      simp [zcell, upG_self, up2, funext_iff]
    · simp [zcell, upG_ne _ _ e, e]
  | 5, hd => 
    by_cases e : g' = g
    · subst e
      simp [zcell, upG_self, up2, funext_iff]
    · simp [zcell, upG_ne _ _ e, e]
  | 6, hd => 
    by_cases e : g' = g
    · subst e
      have hw2 := hd.2; simp [zcell, upG_self, up2, funext_iff] <;> omega
    · simp [zcell, upG_ne _ _ e, e]
  | 7, hd => 
    by_cases e : g' = g
    · subst e
      have hw2 := hd.2; simp [zcell, upG_self, up2, funext_iff] <;> omega
    · simp [zcell, upG_ne _ _ e, e]
  | 8, hd => 
    by_cases e : g' = g
    · subst e
      simp [zcell, upG_self, up2, funext_iff]
    · simp [zcell, upG_ne _ _ e, e]
  | 9, hd => 
    by_cases e : g' = g
    · subst e
      by_cases e2 : i' = i
      · subst e2; simp [zcell, upG_self, up2, upd, funext_iff]
      · simp [zcell, upG_self, up2, e2, funext_iff]
    · simp [zcell, upG_ne _ _ e, e]
  | 10, hd => 
    have e : 7 ≠ g := by omega
    simp [zcell, upG_ne _ _ e]
  | 11, hd => 
    have e : 7 ≠ g := by omega
    simp [zcell, upG_ne _ _ e]
  | 12, hd => 
    have e : 7 ≠ g := by omega
    simp [zcell, upG_ne _ _ e]
  | 13, hd => 
    have e : 7 ≠ g := by omega
    simp [zcell, upG_ne _ _ e]
  | 14, hd => 
    have e : 7 ≠ g := by omega
    simp [zcell, upG_ne _ _ e]
  | 15, hd => 
    have e : 7 ≠ g := by omega
    simp [zcell, upG_ne _ _ e]
  | 16, hd => 
    have e : 8 ≠ g := by omega
    simp [zcell, upG_ne _ _ e]
  | 17, hd => 
    have e : 8 ≠ g := by omega
    simp [zcell, upG_ne _ _ e]
  | n + 18, hd => exact absurd (show n + 18 < 17 ∧ g' = 0 ∧ i' = 0 from hd).1 (by omega)
theorem zm_9_6 (G : zG) (V : zV3) (g : Nat) (hg : g < 7) (i : Nat) (x : Int32) : ∀ k' g' i', zdom k' g' i' → zcell G (upG V g (up2 (V g) 6 i x)) k' g' i' = if k' = 9 ∧ g' = g ∧ i' = i then .inr (4, [.int (nI i), .int x, .int (V g 7 i), .int (V g 8 i), .int (V g 9 i), .int (V g 10 i), .int (V g 11 i), .int (V g 12 i)]) else zcell G V k' g' i' := by
  have h9 := zn_9_6 G V g hg (V g) i x
  rwa [upG_id] at h9
theorem zn_9_7 (G : zG) (V : zV3) (g : Nat) (hg : g < 7) (h : zV2) (i : Nat) (x : Int32) : ∀ k' g' i', zdom k' g' i' → zcell G (upG V g (up2 h 7 i x)) k' g' i' = if k' = 9 ∧ g' = g ∧ i' = i then .inr (4, [.int (nI i), .int (h 6 i), .int x, .int (h 8 i), .int (h 9 i), .int (h 10 i), .int (h 11 i), .int (h 12 i)]) else zcell G (upG V g h) k' g' i' := by
  intro k' g' i' hd
  match k', hd with
  | 0, hd => 
    by_cases e : g' = g
    · subst e
      simp [zcell, upG_self, up2, funext_iff]
    · simp [zcell, upG_ne _ _ e, e]
  | 1, hd => 
    by_cases e : g' = g
    · subst e
      simp [zcell, upG_self, up2, funext_iff]
    · simp [zcell, upG_ne _ _ e, e]
  | 2, hd => 
    by_cases e : g' = g
    · subst e
      simp [zcell, upG_self, up2, funext_iff]
    · simp [zcell, upG_ne _ _ e, e]
  | 3, hd => 
    by_cases e : g' = g
    · subst e
      have hw2 := hd.2; simp [zcell, upG_self, up2, funext_iff] <;> omega
    · simp [zcell, upG_ne _ _ e, e]
  | 4, hd => 
    by_cases e : g' = g
    · subst e
      simp [zcell, upG_self, up2, funext_iff]
    · simp [zcell, upG_ne _ _ e, e]
  | 5, hd => 
    by_cases e : g' = g
    · subst e
      simp [zcell, upG_self, up2, funext_iff]
    · simp [zcell, upG_ne _ _ e, e]
  | 6, hd => 
    by_cases e : g' = g
    · subst e
      have hw2 := hd.2; simp [zcell, upG_self, up2, funext_iff] <;> omega
    · simp [zcell, upG_ne _ _ e, e]
  | 7, hd => 
    by_cases e : g' = g
    · subst e
      have hw2 := hd.2; simp [zcell, upG_self, up2, funext_iff] <;> omega
    · simp [zcell, upG_ne _ _ e, e]
  | 8, hd => 
    by_cases e : g' = g
    · subst e
      simp [zcell, upG_self, up2, funext_iff]
    · simp [zcell, upG_ne _ _ e, e]
  | 9, hd => 
    by_cases e : g' = g
    · subst e
      by_cases e2 : i' = i
      · subst e2; simp [zcell, upG_self, up2, upd, funext_iff]
      · simp [zcell, upG_self, up2, e2, funext_iff]
    · simp [zcell, upG_ne _ _ e, e]
  | 10, hd => 
    have e : 7 ≠ g := by omega
    simp [zcell, upG_ne _ _ e]
  | 11, hd => 
    have e : 7 ≠ g := by omega
    simp [zcell, upG_ne _ _ e]
  | 12, hd => 
    have e : 7 ≠ g := by omega
    simp [zcell, upG_ne _ _ e]
  | 13, hd => 
    have e : 7 ≠ g := by omega
    simp [zcell, upG_ne _ _ e]
  | 14, hd => 
    have e : 7 ≠ g := by omega
    simp [zcell, upG_ne _ _ e]
  | 15, hd => 
    have e : 7 ≠ g := by omega
    simp [zcell, upG_ne _ _ e]
  | 16, hd => 
    have e : 8 ≠ g := by omega
    simp [zcell, upG_ne _ _ e]
  | 17, hd => 
    have e : 8 ≠ g := by omega
    simp [zcell, upG_ne _ _ e]
  | n + 18, hd => exact absurd (show n + 18 < 17 ∧ g' = 0 ∧ i' = 0 from hd).1 (by omega)
theorem zm_9_7 (G : zG) (V : zV3) (g : Nat) (hg : g < 7) (i : Nat) (x : Int32) : ∀ k' g' i', zdom k' g' i' → zcell G (upG V g (up2 (V g) 7 i x)) k' g' i' = if k' = 9 ∧ g' = g ∧ i' = i then .inr (4, [.int (nI i), .int (V g 6 i), .int x, .int (V g 8 i), .int (V g 9 i), .int (V g 10 i), .int (V g 11 i), .int (V g 12 i)]) else zcell G V k' g' i' := by
  have h9 := zn_9_7 G V g hg (V g) i x
  rwa [upG_id] at h9
theorem zn_9_8 (G : zG) (V : zV3) (g : Nat) (hg : g < 7) (h : zV2) (i : Nat) (x : Int32) : ∀ k' g' i', zdom k' g' i' → zcell G (upG V g (up2 h 8 i x)) k' g' i' = if k' = 9 ∧ g' = g ∧ i' = i then .inr (4, [.int (nI i), .int (h 6 i), .int (h 7 i), .int x, .int (h 9 i), .int (h 10 i), .int (h 11 i), .int (h 12 i)]) else zcell G (upG V g h) k' g' i' := by
  intro k' g' i' hd
  match k', hd with
  | 0, hd => 
    by_cases e : g' = g
    · subst e
      simp [zcell, upG_self, up2, funext_iff]
    · simp [zcell, upG_ne _ _ e, e]
  | 1, hd => 
    by_cases e : g' = g
    · subst e
      simp [zcell, upG_self, up2, funext_iff]
    · simp [zcell, upG_ne _ _ e, e]
  | 2, hd => 
    by_cases e : g' = g
    · subst e
      simp [zcell, upG_self, up2, funext_iff]
    · simp [zcell, upG_ne _ _ e, e]
  | 3, hd => 
    by_cases e : g' = g
    · subst e
      have hw2 := hd.2; simp [zcell, upG_self, up2, funext_iff] <;> omega
    · simp [zcell, upG_ne _ _ e, e]
  | 4, hd => 
    by_cases e : g' = g
    · subst e
      simp [zcell, upG_self, up2, funext_iff]
    · simp [zcell, upG_ne _ _ e, e]
  | 5, hd => 
    by_cases e : g' = g
    · subst e
      simp [zcell, upG_self, up2, funext_iff]
    · simp [zcell, upG_ne _ _ e, e]
  | 6, hd => 
    by_cases e : g' = g
    · subst e
      have hw2 := hd.2; simp [zcell, upG_self, up2, funext_iff] <;> omega
    · simp [zcell, upG_ne _ _ e, e]
  | 7, hd => 
    by_cases e : g' = g
    · subst e
      have hw2 := hd.2; simp [zcell, upG_self, up2, funext_iff] <;> omega
    · simp [zcell, upG_ne _ _ e, e]
  | 8, hd => 
    by_cases e : g' = g
    · subst e
      simp [zcell, upG_self, up2, funext_iff]
    · simp [zcell, upG_ne _ _ e, e]
  | 9, hd => 
    by_cases e : g' = g
    · subst e
      by_cases e2 : i' = i
      · subst e2; simp [zcell, upG_self, up2, upd, funext_iff]
      · simp [zcell, upG_self, up2, e2, funext_iff]
    · simp [zcell, upG_ne _ _ e, e]
  | 10, hd => 
    have e : 7 ≠ g := by omega
    simp [zcell, upG_ne _ _ e]
  | 11, hd => 
    have e : 7 ≠ g := by omega
    simp [zcell, upG_ne _ _ e]
  | 12, hd => 
    have e : 7 ≠ g := by omega
    simp [zcell, upG_ne _ _ e]
  | 13, hd => 
    have e : 7 ≠ g := by omega
    simp [zcell, upG_ne _ _ e]
  | 14, hd => 
    have e : 7 ≠ g := by omega
    simp [zcell, upG_ne _ _ e]
  | 15, hd => 
    have e : 7 ≠ g := by omega
    simp [zcell, upG_ne _ _ e]
  | 16, hd => 
    have e : 8 ≠ g := by omega
    simp [zcell, upG_ne _ _ e]
  | 17, hd => 
    have e : 8 ≠ g := by omega
    simp [zcell, upG_ne _ _ e]
  | n + 18, hd => exact absurd (show n + 18 < 17 ∧ g' = 0 ∧ i' = 0 from hd).1 (by omega)
theorem zm_9_8 (G : zG) (V : zV3) (g : Nat) (hg : g < 7) (i : Nat) (x : Int32) : ∀ k' g' i', zdom k' g' i' → zcell G (upG V g (up2 (V g) 8 i x)) k' g' i' = if k' = 9 ∧ g' = g ∧ i' = i then .inr (4, [.int (nI i), .int (V g 6 i), .int (V g 7 i), .int x, .int (V g 9 i), .int (V g 10 i), .int (V g 11 i), .int (V g 12 i)]) else zcell G V k' g' i' := by
  have h9 := zn_9_8 G V g hg (V g) i x
  rwa [upG_id] at h9
theorem zn_9_9 (G : zG) (V : zV3) (g : Nat) (hg : g < 7) (h : zV2) (i : Nat) (x : Int32) : ∀ k' g' i', zdom k' g' i' → zcell G (upG V g (up2 h 9 i x)) k' g' i' = if k' = 9 ∧ g' = g ∧ i' = i then .inr (4, [.int (nI i), .int (h 6 i), .int (h 7 i), .int (h 8 i), .int x, .int (h 10 i), .int (h 11 i), .int (h 12 i)]) else zcell G (upG V g h) k' g' i' := by
  intro k' g' i' hd
  match k', hd with
  | 0, hd => 
    by_cases e : g' = g
    · subst e
      simp [zcell, upG_self, up2, funext_iff]
    · simp [zcell, upG_ne _ _ e, e]
  | 1, hd => 
    by_cases e : g' = g
    · subst e
      simp [zcell, upG_self, up2, funext_iff]
    · simp [zcell, upG_ne _ _ e, e]
  | 2, hd => 
    by_cases e : g' = g
    · subst e
      simp [zcell, upG_self, up2, funext_iff]
    · simp [zcell, upG_ne _ _ e, e]
  | 3, hd => 
    by_cases e : g' = g
    · subst e
      have hw2 := hd.2; simp [zcell, upG_self, up2, funext_iff] <;> omega
    · simp [zcell, upG_ne _ _ e, e]
  | 4, hd => 
    by_cases e : g' = g
    · subst e
      simp [zcell, upG_self, up2, funext_iff]
    · simp [zcell, upG_ne _ _ e, e]
  | 5, hd => 
    by_cases e : g' = g
    · subst e
      simp [zcell, upG_self, up2, funext_iff]
    · simp [zcell, upG_ne _ _ e, e]
  | 6, hd => 
    by_cases e : g' = g
    · subst e
      have hw2 := hd.2; simp [zcell, upG_self, up2, funext_iff] <;> omega
    · simp [zcell, upG_ne _ _ e, e]
  | 7, hd => 
    by_cases e : g' = g
    · subst e
      have hw2 := hd.2; simp [zcell, upG_self, up2, funext_iff] <;> omega
    · simp [zcell, upG_ne _ _ e, e]
  | 8, hd => 
    by_cases e : g' = g
    · subst e
      simp [zcell, upG_self, up2, funext_iff]
    · simp [zcell, upG_ne _ _ e, e]
  | 9, hd => 
    by_cases e : g' = g
    · subst e
      by_cases e2 : i' = i
      · subst e2; simp [zcell, upG_self, up2, upd, funext_iff]
      · simp [zcell, upG_self, up2, e2, funext_iff]
    · simp [zcell, upG_ne _ _ e, e]
  | 10, hd => 
    have e : 7 ≠ g := by omega
    simp [zcell, upG_ne _ _ e]
  | 11, hd => 
    have e : 7 ≠ g := by omega
    simp [zcell, upG_ne _ _ e]
  | 12, hd => 
    have e : 7 ≠ g := by omega
    simp [zcell, upG_ne _ _ e]
  | 13, hd => 
    have e : 7 ≠ g := by omega
    simp [zcell, upG_ne _ _ e]
  | 14, hd => 
    have e : 7 ≠ g := by omega
    simp [zcell, upG_ne _ _ e]
  | 15, hd => 
    have e : 7 ≠ g := by omega
    simp [zcell, upG_ne _ _ e]
  | 16, hd => 
    have e : 8 ≠ g := by omega
    simp [zcell, upG_ne _ _ e]
  | 17, hd => 
    have e : 8 ≠ g := by omega
    simp [zcell, upG_ne _ _ e]
  | n + 18, hd => exact absurd (show n + 18 < 17 ∧ g' = 0 ∧ i' = 0 from hd).1 (by omega)
theorem zm_9_9 (G : zG) (V : zV3) (g : Nat) (hg : g < 7) (i : Nat) (x : Int32) : ∀ k' g' i', zdom k' g' i' → zcell G (upG V g (up2 (V g) 9 i x)) k' g' i' = if k' = 9 ∧ g' = g ∧ i' = i then .inr (4, [.int (nI i), .int (V g 6 i), .int (V g 7 i), .int (V g 8 i), .int x, .int (V g 10 i), .int (V g 11 i), .int (V g 12 i)]) else zcell G V k' g' i' := by
  have h9 := zn_9_9 G V g hg (V g) i x
  rwa [upG_id] at h9
theorem zn_9_10 (G : zG) (V : zV3) (g : Nat) (hg : g < 7) (h : zV2) (i : Nat) (x : Int32) : ∀ k' g' i', zdom k' g' i' → zcell G (upG V g (up2 h 10 i x)) k' g' i' = if k' = 9 ∧ g' = g ∧ i' = i then .inr (4, [.int (nI i), .int (h 6 i), .int (h 7 i), .int (h 8 i), .int (h 9 i), .int x, .int (h 11 i), .int (h 12 i)]) else zcell G (upG V g h) k' g' i' := by
  intro k' g' i' hd
  match k', hd with
  | 0, hd => 
    by_cases e : g' = g
    · subst e
      simp [zcell, upG_self, up2, funext_iff]
    · simp [zcell, upG_ne _ _ e, e]
  | 1, hd => 
    by_cases e : g' = g
    · subst e
      simp [zcell, upG_self, up2, funext_iff]
    · simp [zcell, upG_ne _ _ e, e]
  | 2, hd => 
    by_cases e : g' = g
    · subst e
      simp [zcell, upG_self, up2, funext_iff]
    · simp [zcell, upG_ne _ _ e, e]
  | 3, hd => 
    by_cases e : g' = g
    · subst e
      have hw2 := hd.2; simp [zcell, upG_self, up2, funext_iff] <;> omega
    · simp [zcell, upG_ne _ _ e, e]
  | 4, hd => 
    by_cases e : g' = g
    · subst e
      simp [zcell, upG_self, up2, funext_iff]
    · simp [zcell, upG_ne _ _ e, e]
  | 5, hd => 
    by_cases e : g' = g
    · subst e
      simp [zcell, upG_self, up2, funext_iff]
    · simp [zcell, upG_ne _ _ e, e]
  | 6, hd => 
    by_cases e : g' = g
    · subst e
      have hw2 := hd.2; simp [zcell, upG_self, up2, funext_iff] <;> omega
    · simp [zcell, upG_ne _ _ e, e]
  | 7, hd => 
    by_cases e : g' = g
    · subst e
      have hw2 := hd.2; simp [zcell, upG_self, up2, funext_iff] <;> omega
    · simp [zcell, upG_ne _ _ e, e]
  | 8, hd => 
    by_cases e : g' = g
    · subst e
      simp [zcell, upG_self, up2, funext_iff]
    · simp [zcell, upG_ne _ _ e, e]
  | 9, hd => 
    by_cases e : g' = g
    · subst e
      by_cases e2 : i' = i
      · subst e2; simp [zcell, upG_self, up2, upd, funext_iff]
      · simp [zcell, upG_self, up2, e2, funext_iff]
    · simp [zcell, upG_ne _ _ e, e]
  | 10, hd => 
    have e : 7 ≠ g := by omega
    simp [zcell, upG_ne _ _ e]
  | 11, hd => 
    have e : 7 ≠ g := by omega
    simp [zcell, upG_ne _ _ e]
  | 12, hd => 
    have e : 7 ≠ g := by omega
    simp [zcell, upG_ne _ _ e]
  | 13, hd => 
    have e : 7 ≠ g := by omega
    simp [zcell, upG_ne _ _ e]
  | 14, hd => 
    have e : 7 ≠ g := by omega
    simp [zcell, upG_ne _ _ e]
  | 15, hd => 
    have e : 7 ≠ g := by omega
    simp [zcell, upG_ne _ _ e]
  | 16, hd => 
    have e : 8 ≠ g := by omega
    simp [zcell, upG_ne _ _ e]
  | 17, hd => 
    have e : 8 ≠ g := by omega
    simp [zcell, upG_ne _ _ e]
  | n + 18, hd => exact absurd (show n + 18 < 17 ∧ g' = 0 ∧ i' = 0 from hd).1 (by omega)
theorem zm_9_10 (G : zG) (V : zV3) (g : Nat) (hg : g < 7) (i : Nat) (x : Int32) : ∀ k' g' i', zdom k' g' i' → zcell G (upG V g (up2 (V g) 10 i x)) k' g' i' = if k' = 9 ∧ g' = g ∧ i' = i then .inr (4, [.int (nI i), .int (V g 6 i), .int (V g 7 i), .int (V g 8 i), .int (V g 9 i), .int x, .int (V g 11 i), .int (V g 12 i)]) else zcell G V k' g' i' := by
  have h9 := zn_9_10 G V g hg (V g) i x
  rwa [upG_id] at h9
theorem zn_9_11 (G : zG) (V : zV3) (g : Nat) (hg : g < 7) (h : zV2) (i : Nat) (x : Int32) : ∀ k' g' i', zdom k' g' i' → zcell G (upG V g (up2 h 11 i x)) k' g' i' = if k' = 9 ∧ g' = g ∧ i' = i then .inr (4, [.int (nI i), .int (h 6 i), .int (h 7 i), .int (h 8 i), .int (h 9 i), .int (h 10 i), .int x, .int (h 12 i)]) else zcell G (upG V g h) k' g' i' := by
  intro k' g' i' hd
  match k', hd with
  | 0, hd => 
    by_cases e : g' = g
    · subst e
      simp [zcell, upG_self, up2, funext_iff]
    · simp [zcell, upG_ne _ _ e, e]
  | 1, hd => 
    by_cases e : g' = g
    · subst e
      simp [zcell, upG_self, up2, funext_iff]
    · simp [zcell, upG_ne _ _ e, e]
  | 2, hd => 
    by_cases e : g' = g
    · subst e
      simp [zcell, upG_self, up2, funext_iff]
    · simp [zcell, upG_ne _ _ e, e]
  | 3, hd => 
    by_cases e : g' = g
    · subst e
      have hw2 := hd.2; simp [zcell, upG_self, up2, funext_iff] <;> omega
    · simp [zcell, upG_ne _ _ e, e]
  | 4, hd => 
    by_cases e : g' = g
    · subst e
      simp [zcell, upG_self, up2, funext_iff]
    · simp [zcell, upG_ne _ _ e, e]
  | 5, hd => 
    by_cases e : g' = g
    · subst e
      simp [zcell, upG_self, up2, funext_iff]
    · simp [zcell, upG_ne _ _ e, e]
  | 6, hd => 
    by_cases e : g' = g
    · subst e
      have hw2 := hd.2; simp [zcell, upG_self, up2, funext_iff] <;> omega
    · simp [zcell, upG_ne _ _ e, e]
  | 7, hd => 
    by_cases e : g' = g
    · subst e
      have hw2 := hd.2; simp [zcell, upG_self, up2, funext_iff] <;> omega
    · simp [zcell, upG_ne _ _ e, e]
  | 8, hd => 
    by_cases e : g' = g
    · subst e
      simp [zcell, upG_self, up2, funext_iff]
    · simp [zcell, upG_ne _ _ e, e]
  | 9, hd => 
    by_cases e : g' = g
    · subst e
      by_cases e2 : i' = i
      · subst e2; simp [zcell, upG_self, up2, upd, funext_iff]
      · simp [zcell, upG_self, up2, e2, funext_iff]
    · simp [zcell, upG_ne _ _ e, e]
  | 10, hd => 
    have e : 7 ≠ g := by omega
    simp [zcell, upG_ne _ _ e]
  | 11, hd => 
    have e : 7 ≠ g := by omega
    simp [zcell, upG_ne _ _ e]
  | 12, hd => 
    have e : 7 ≠ g := by omega
    simp [zcell, upG_ne _ _ e]
  | 13, hd => 
    have e : 7 ≠ g := by omega
    simp [zcell, upG_ne _ _ e]
  | 14, hd => 
    have e : 7 ≠ g := by omega
    simp [zcell, upG_ne _ _ e]
  | 15, hd => 
    have e : 7 ≠ g := by omega
    simp [zcell, upG_ne _ _ e]
  | 16, hd => 
    have e : 8 ≠ g := by omega
    simp [zcell, upG_ne _ _ e]
  | 17, hd => 
    have e : 8 ≠ g := by omega
    simp [zcell, upG_ne _ _ e]
  | n + 18, hd => exact absurd (show n + 18 < 17 ∧ g' = 0 ∧ i' = 0 from hd).1 (by omega)
theorem zm_9_11 (G : zG) (V : zV3) (g : Nat) (hg : g < 7) (i : Nat) (x : Int32) : ∀ k' g' i', zdom k' g' i' → zcell G (upG V g (up2 (V g) 11 i x)) k' g' i' = if k' = 9 ∧ g' = g ∧ i' = i then .inr (4, [.int (nI i), .int (V g 6 i), .int (V g 7 i), .int (V g 8 i), .int (V g 9 i), .int (V g 10 i), .int x, .int (V g 12 i)]) else zcell G V k' g' i' := by
  have h9 := zn_9_11 G V g hg (V g) i x
  rwa [upG_id] at h9
theorem zn_9_12 (G : zG) (V : zV3) (g : Nat) (hg : g < 7) (h : zV2) (i : Nat) (x : Int32) : ∀ k' g' i', zdom k' g' i' → zcell G (upG V g (up2 h 12 i x)) k' g' i' = if k' = 9 ∧ g' = g ∧ i' = i then .inr (4, [.int (nI i), .int (h 6 i), .int (h 7 i), .int (h 8 i), .int (h 9 i), .int (h 10 i), .int (h 11 i), .int x]) else zcell G (upG V g h) k' g' i' := by
  intro k' g' i' hd
  match k', hd with
  | 0, hd => 
    by_cases e : g' = g
    · subst e
      simp [zcell, upG_self, up2, funext_iff]
    · simp [zcell, upG_ne _ _ e, e]
  | 1, hd => 
    by_cases e : g' = g
    · subst e
      simp [zcell, upG_self, up2, funext_iff]
    · simp [zcell, upG_ne _ _ e, e]
  | 2, hd => 
    by_cases e : g' = g
    · subst e
      simp [zcell, upG_self, up2, funext_iff]
    · simp [zcell, upG_ne _ _ e, e]
  | 3, hd => 
    by_cases e : g' = g
    · subst e
      have hw2 := hd.2; simp [zcell, upG_self, up2, funext_iff] <;> omega
    · simp [zcell, upG_ne _ _ e, e]
  | 4, hd => 
    by_cases e : g' = g
    · subst e
      simp [zcell, upG_self, up2, funext_iff]
    · simp [zcell, upG_ne _ _ e, e]
  | 5, hd => 
    by_cases e : g' = g
    · subst e
      simp [zcell, upG_self, up2, funext_iff]
    · simp [zcell, upG_ne _ _ e, e]
  | 6, hd => 
    by_cases e : g' = g
    · subst e
      have hw2 := hd.2; simp [zcell, upG_self, up2, funext_iff] <;> omega
    · simp [zcell, upG_ne _ _ e, e]
  | 7, hd => 
    by_cases e : g' = g
    · subst e
      have hw2 := hd.2; simp [zcell, upG_self, up2, funext_iff] <;> omega
    · simp [zcell, upG_ne _ _ e, e]
  | 8, hd => 
    by_cases e : g' = g
    · subst e
      simp [zcell, upG_self, up2, funext_iff]
    · simp [zcell, upG_ne _ _ e, e]
  | 9, hd => 
    by_cases e : g' = g
    · subst e
      by_cases e2 : i' = i
      · subst e2; simp [zcell, upG_self, up2, upd, funext_iff]
      · simp [zcell, upG_self, up2, e2, funext_iff]
    · simp [zcell, upG_ne _ _ e, e]
  | 10, hd => 
    have e : 7 ≠ g := by omega
    simp [zcell, upG_ne _ _ e]
  | 11, hd => 
    have e : 7 ≠ g := by omega
    simp [zcell, upG_ne _ _ e]
  | 12, hd => 
    have e : 7 ≠ g := by omega
    simp [zcell, upG_ne _ _ e]
  | 13, hd => 
    have e : 7 ≠ g := by omega
    simp [zcell, upG_ne _ _ e]
  | 14, hd => 
    have e : 7 ≠ g := by omega
    simp [zcell, upG_ne _ _ e]
  | 15, hd => 
    have e : 7 ≠ g := by omega
    simp [zcell, upG_ne _ _ e]
  | 16, hd => 
    have e : 8 ≠ g := by omega
    simp [zcell, upG_ne _ _ e]
  | 17, hd => 
    have e : 8 ≠ g := by omega
    simp [zcell, upG_ne _ _ e]
  | n + 18, hd => exact absurd (show n + 18 < 17 ∧ g' = 0 ∧ i' = 0 from hd).1 (by omega)
theorem zm_9_12 (G : zG) (V : zV3) (g : Nat) (hg : g < 7) (i : Nat) (x : Int32) : ∀ k' g' i', zdom k' g' i' → zcell G (upG V g (up2 (V g) 12 i x)) k' g' i' = if k' = 9 ∧ g' = g ∧ i' = i then .inr (4, [.int (nI i), .int (V g 6 i), .int (V g 7 i), .int (V g 8 i), .int (V g 9 i), .int (V g 10 i), .int (V g 11 i), .int x]) else zcell G V k' g' i' := by
  have h9 := zn_9_12 G V g hg (V g) i x
  rwa [upG_id] at h9
theorem zn_0_13 (G : zG) (V : zV3) (g : Nat) (hg : g < 7) (h : zV2) (x : Int32) : ∀ k' g' i', zdom k' g' i' → zcell G (upG V g (up2 h 13 0 x)) k' g' i' = if k' = 0 ∧ g' = g ∧ i' = 0 then .inr (0, [.ref (gA G 1 g 0), .ref (gA G 2 g 0), .ref (gA G 3 g 0), .ref (gA G 3 g 1), .ref (gA G 4 g 0), .ref (gA G 5 g 0), .int x, .int (h 14 0), .int (h 15 0), .int (h 16 0)]) else zcell G (upG V g h) k' g' i' := by
  intro k' g' i' hd
  match k', hd with
  | 0, hd => 
    by_cases e : g' = g
    · subst e
      have h2 := hd.2; subst h2; simp [zcell, upG_self, up2, upd, funext_iff]
    · simp [zcell, upG_ne _ _ e, e]
  | 1, hd => 
    by_cases e : g' = g
    · subst e
      simp [zcell, upG_self, up2, funext_iff]
    · simp [zcell, upG_ne _ _ e, e]
  | 2, hd => 
    by_cases e : g' = g
    · subst e
      simp [zcell, upG_self, up2, funext_iff]
    · simp [zcell, upG_ne _ _ e, e]
  | 3, hd => 
    by_cases e : g' = g
    · subst e
      have hw2 := hd.2; simp [zcell, upG_self, up2, funext_iff] <;> omega
    · simp [zcell, upG_ne _ _ e, e]
  | 4, hd => 
    by_cases e : g' = g
    · subst e
      simp [zcell, upG_self, up2, funext_iff]
    · simp [zcell, upG_ne _ _ e, e]
  | 5, hd => 
    by_cases e : g' = g
    · subst e
      simp [zcell, upG_self, up2, funext_iff]
    · simp [zcell, upG_ne _ _ e, e]
  | 6, hd => 
    by_cases e : g' = g
    · subst e
      have hw2 := hd.2; simp [zcell, upG_self, up2, funext_iff] <;> omega
    · simp [zcell, upG_ne _ _ e, e]
  | 7, hd => 
    by_cases e : g' = g
    · subst e
      have hw2 := hd.2; simp [zcell, upG_self, up2, funext_iff] <;> omega
    · simp [zcell, upG_ne _ _ e, e]
  | 8, hd => 
    by_cases e : g' = g
    · subst e
      simp [zcell, upG_self, up2, funext_iff]
    · simp [zcell, upG_ne _ _ e, e]
  | 9, hd => 
    by_cases e : g' = g
    · subst e
      simp [zcell, upG_self, up2, funext_iff]
    · simp [zcell, upG_ne _ _ e, e]
  | 10, hd => 
    have e : 7 ≠ g := by omega
    simp [zcell, upG_ne _ _ e]
  | 11, hd => 
    have e : 7 ≠ g := by omega
    simp [zcell, upG_ne _ _ e]
  | 12, hd => 
    have e : 7 ≠ g := by omega
    simp [zcell, upG_ne _ _ e]
  | 13, hd => 
    have e : 7 ≠ g := by omega
    simp [zcell, upG_ne _ _ e]
  | 14, hd => 
    have e : 7 ≠ g := by omega
    simp [zcell, upG_ne _ _ e]
  | 15, hd => 
    have e : 7 ≠ g := by omega
    simp [zcell, upG_ne _ _ e]
  | 16, hd => 
    have e : 8 ≠ g := by omega
    simp [zcell, upG_ne _ _ e]
  | 17, hd => 
    have e : 8 ≠ g := by omega
    simp [zcell, upG_ne _ _ e]
  | n + 18, hd => exact absurd (show n + 18 < 17 ∧ g' = 0 ∧ i' = 0 from hd).1 (by omega)
theorem zm_0_13 (G : zG) (V : zV3) (g : Nat) (hg : g < 7) (x : Int32) : ∀ k' g' i', zdom k' g' i' → zcell G (upG V g (up2 (V g) 13 0 x)) k' g' i' = if k' = 0 ∧ g' = g ∧ i' = 0 then .inr (0, [.ref (gA G 1 g 0), .ref (gA G 2 g 0), .ref (gA G 3 g 0), .ref (gA G 3 g 1), .ref (gA G 4 g 0), .ref (gA G 5 g 0), .int x, .int (V g 14 0), .int (V g 15 0), .int (V g 16 0)]) else zcell G V k' g' i' := by
  have h9 := zn_0_13 G V g hg (V g)  x
  rwa [upG_id] at h9
theorem zn_0_14 (G : zG) (V : zV3) (g : Nat) (hg : g < 7) (h : zV2) (x : Int32) : ∀ k' g' i', zdom k' g' i' → zcell G (upG V g (up2 h 14 0 x)) k' g' i' = if k' = 0 ∧ g' = g ∧ i' = 0 then .inr (0, [.ref (gA G 1 g 0), .ref (gA G 2 g 0), .ref (gA G 3 g 0), .ref (gA G 3 g 1), .ref (gA G 4 g 0), .ref (gA G 5 g 0), .int (h 13 0), .int x, .int (h 15 0), .int (h 16 0)]) else zcell G (upG V g h) k' g' i' := by
  intro k' g' i' hd
  match k', hd with
  | 0, hd => 
    by_cases e : g' = g
    · subst e
      have h2 := hd.2; subst h2; simp [zcell, upG_self, up2, upd, funext_iff]
    · simp [zcell, upG_ne _ _ e, e]
  | 1, hd => 
    by_cases e : g' = g
    · subst e
      simp [zcell, upG_self, up2, funext_iff]
    · simp [zcell, upG_ne _ _ e, e]
  | 2, hd => 
    by_cases e : g' = g
    · subst e
      simp [zcell, upG_self, up2, funext_iff]
    · simp [zcell, upG_ne _ _ e, e]
  | 3, hd => 
    by_cases e : g' = g
    · subst e
      have hw2 := hd.2; simp [zcell, upG_self, up2, funext_iff] <;> omega
    · simp [zcell, upG_ne _ _ e, e]
  | 4, hd => 
    by_cases e : g' = g
    · subst e
      simp [zcell, upG_self, up2, funext_iff]
    · simp [zcell, upG_ne _ _ e, e]
  | 5, hd => 
    by_cases e : g' = g
    · subst e
      simp [zcell, upG_self, up2, funext_iff]
    · simp [zcell, upG_ne _ _ e, e]
  | 6, hd => 
    by_cases e : g' = g
    · subst e
      have hw2 := hd.2; simp [zcell, upG_self, up2, funext_iff] <;> omega
    · simp [zcell, upG_ne _ _ e, e]
  | 7, hd => 
    by_cases e : g' = g
    · subst e
      have hw2 := hd.2; simp [zcell, upG_self, up2, funext_iff] <;> omega
    · simp [zcell, upG_ne _ _ e, e]
  | 8, hd => 
    by_cases e : g' = g
    · subst e
      simp [zcell, upG_self, up2, funext_iff]
    · simp [zcell, upG_ne _ _ e, e]
  | 9, hd => 
    by_cases e : g' = g
    · subst e
      simp [zcell, upG_self, up2, funext_iff]
    · simp [zcell, upG_ne _ _ e, e]
  | 10, hd => 
    have e : 7 ≠ g := by omega
    simp [zcell, upG_ne _ _ e]
  | 11, hd => 
    have e : 7 ≠ g := by omega
    simp [zcell, upG_ne _ _ e]
  | 12, hd => 
    have e : 7 ≠ g := by omega
    simp [zcell, upG_ne _ _ e]
  | 13, hd => 
    have e : 7 ≠ g := by omega
    simp [zcell, upG_ne _ _ e]
  | 14, hd => 
    have e : 7 ≠ g := by omega
    simp [zcell, upG_ne _ _ e]
  | 15, hd => 
    have e : 7 ≠ g := by omega
    simp [zcell, upG_ne _ _ e]
  | 16, hd => 
    have e : 8 ≠ g := by omega
    simp [zcell, upG_ne _ _ e]
  | 17, hd => 
    have e : 8 ≠ g := by omega
    simp [zcell, upG_ne _ _ e]
  | n + 18, hd => exact absurd (show n + 18 < 17 ∧ g' = 0 ∧ i' = 0 from hd).1 (by omega)
theorem zm_0_14 (G : zG) (V : zV3) (g : Nat) (hg : g < 7) (x : Int32) : ∀ k' g' i', zdom k' g' i' → zcell G (upG V g (up2 (V g) 14 0 x)) k' g' i' = if k' = 0 ∧ g' = g ∧ i' = 0 then .inr (0, [.ref (gA G 1 g 0), .ref (gA G 2 g 0), .ref (gA G 3 g 0), .ref (gA G 3 g 1), .ref (gA G 4 g 0), .ref (gA G 5 g 0), .int (V g 13 0), .int x, .int (V g 15 0), .int (V g 16 0)]) else zcell G V k' g' i' := by
  have h9 := zn_0_14 G V g hg (V g)  x
  rwa [upG_id] at h9
theorem zn_0_15 (G : zG) (V : zV3) (g : Nat) (hg : g < 7) (h : zV2) (x : Int32) : ∀ k' g' i', zdom k' g' i' → zcell G (upG V g (up2 h 15 0 x)) k' g' i' = if k' = 0 ∧ g' = g ∧ i' = 0 then .inr (0, [.ref (gA G 1 g 0), .ref (gA G 2 g 0), .ref (gA G 3 g 0), .ref (gA G 3 g 1), .ref (gA G 4 g 0), .ref (gA G 5 g 0), .int (h 13 0), .int (h 14 0), .int x, .int (h 16 0)]) else zcell G (upG V g h) k' g' i' := by
  intro k' g' i' hd
  match k', hd with
  | 0, hd => 
    by_cases e : g' = g
    · subst e
      have h2 := hd.2; subst h2; simp [zcell, upG_self, up2, upd, funext_iff]
    · simp [zcell, upG_ne _ _ e, e]
  | 1, hd => 
    by_cases e : g' = g
    · subst e
      simp [zcell, upG_self, up2, funext_iff]
    · simp [zcell, upG_ne _ _ e, e]
  | 2, hd => 
    by_cases e : g' = g
    · subst e
      simp [zcell, upG_self, up2, funext_iff]
    · simp [zcell, upG_ne _ _ e, e]
  | 3, hd => 
    by_cases e : g' = g
    · subst e
      have hw2 := hd.2; simp [zcell, upG_self, up2, funext_iff] <;> omega
    · simp [zcell, upG_ne _ _ e, e]
  | 4, hd => 
    by_cases e : g' = g
    · subst e
      simp [zcell, upG_self, up2, funext_iff]
    · simp [zcell, upG_ne _ _ e, e]
  | 5, hd => 
    by_cases e : g' = g
    · subst e
      simp [zcell, upG_self, up2, funext_iff]
    · simp [zcell, upG_ne _ _ e, e]
  | 6, hd => 
    by_cases e : g' = g
    · subst e
      have hw2 := hd.2; simp [zcell, upG_self, up2, funext_iff] <;> omega
    · simp [zcell, upG_ne _ _ e, e]
  | 7, hd => 
    by_cases e : g' = g
    · subst e
      have hw2 := hd.2; simp [zcell, upG_self, up2, funext_iff] <;> omega
    · simp [zcell, upG_ne _ _ e, e]
  | 8, hd => 
    by_cases e : g' = g
    · subst e
      simp [zcell, upG_self, up2, funext_iff]
    · simp [zcell, upG_ne _ _ e, e]
  | 9, hd => 
    by_cases e : g' = g
    · subst e
      simp [zcell, upG_self, up2, funext_iff]
    · simp [zcell, upG_ne _ _ e, e]
  | 10, hd => 
    have e : 7 ≠ g := by omega
    simp [zcell, upG_ne _ _ e]
  | 11, hd => 
    have e : 7 ≠ g := by omega
    simp [zcell, upG_ne _ _ e]
  | 12, hd => 
    have e : 7 ≠ g := by omega
    simp [zcell, upG_ne _ _ e]
  | 13, hd => 
    have e : 7 ≠ g := by omega
    simp [zcell, upG_ne _ _ e]
  | 14, hd => 
    have e : 7 ≠ g := by omega
    simp [zcell, upG_ne _ _ e]
  | 15, hd => 
    have e : 7 ≠ g := by omega
    simp [zcell, upG_ne _ _ e]
  | 16, hd => 
    have e : 8 ≠ g := by omega
    simp [zcell, upG_ne _ _ e]
  | 17, hd => 
    have e : 8 ≠ g := by omega
    simp [zcell, upG_ne _ _ e]
  | n + 18, hd => exact absurd (show n + 18 < 17 ∧ g' = 0 ∧ i' = 0 from hd).1 (by omega)
theorem zm_0_15 (G : zG) (V : zV3) (g : Nat) (hg : g < 7) (x : Int32) : ∀ k' g' i', zdom k' g' i' → zcell G (upG V g (up2 (V g) 15 0 x)) k' g' i' = if k' = 0 ∧ g' = g ∧ i' = 0 then .inr (0, [.ref (gA G 1 g 0), .ref (gA G 2 g 0), .ref (gA G 3 g 0), .ref (gA G 3 g 1), .ref (gA G 4 g 0), .ref (gA G 5 g 0), .int (V g 13 0), .int (V g 14 0), .int x, .int (V g 16 0)]) else zcell G V k' g' i' := by
  have h9 := zn_0_15 G V g hg (V g)  x
  rwa [upG_id] at h9
theorem zn_0_16 (G : zG) (V : zV3) (g : Nat) (hg : g < 7) (h : zV2) (x : Int32) : ∀ k' g' i', zdom k' g' i' → zcell G (upG V g (up2 h 16 0 x)) k' g' i' = if k' = 0 ∧ g' = g ∧ i' = 0 then .inr (0, [.ref (gA G 1 g 0), .ref (gA G 2 g 0), .ref (gA G 3 g 0), .ref (gA G 3 g 1), .ref (gA G 4 g 0), .ref (gA G 5 g 0), .int (h 13 0), .int (h 14 0), .int (h 15 0), .int x]) else zcell G (upG V g h) k' g' i' := by
  intro k' g' i' hd
  match k', hd with
  | 0, hd => 
    by_cases e : g' = g
    · subst e
      have h2 := hd.2; subst h2; simp [zcell, upG_self, up2, upd, funext_iff]
    · simp [zcell, upG_ne _ _ e, e]
  | 1, hd => 
    by_cases e : g' = g
    · subst e
      simp [zcell, upG_self, up2, funext_iff]
    · simp [zcell, upG_ne _ _ e, e]
  | 2, hd => 
    by_cases e : g' = g
    · subst e
      simp [zcell, upG_self, up2, funext_iff]
    · simp [zcell, upG_ne _ _ e, e]
  | 3, hd => 
    by_cases e : g' = g
    · subst e
      have hw2 := hd.2; simp [zcell, upG_self, up2, funext_iff] <;> omega
    · simp [zcell, upG_ne _ _ e, e]
  | 4, hd => 
    by_cases e : g' = g
    · subst e
      simp [zcell, upG_self, up2, funext_iff]
    · simp [zcell, upG_ne _ _ e, e]
  | 5, hd => 
    by_cases e : g' = g
    · subst e
      simp [zcell, upG_self, up2, funext_iff]
    · simp [zcell, upG_ne _ _ e, e]
  | 6, hd => 
    by_cases e : g' = g
    · subst e
      have hw2 := hd.2; simp [zcell, upG_self, up2, funext_iff] <;> omega
    · simp [zcell, upG_ne _ _ e, e]
  | 7, hd => 
    by_cases e : g' = g
    · subst e
      have hw2 := hd.2; simp [zcell, upG_self, up2, funext_iff] <;> omega
    · simp [zcell, upG_ne _ _ e, e]
  | 8, hd => 
    by_cases e : g' = g
    · subst e
      simp [zcell, upG_self, up2, funext_iff]
    · simp [zcell, upG_ne _ _ e, e]
  | 9, hd => 
    by_cases e : g' = g
    · subst e
      simp [zcell, upG_self, up2, funext_iff]
    · simp [zcell, upG_ne _ _ e, e]
  | 10, hd => 
    have e : 7 ≠ g := by omega
    simp [zcell, upG_ne _ _ e]
  | 11, hd => 
    have e : 7 ≠ g := by omega
    simp [zcell, upG_ne _ _ e]
  | 12, hd => 
    have e : 7 ≠ g := by omega
    simp [zcell, upG_ne _ _ e]
  | 13, hd => 
    have e : 7 ≠ g := by omega
    simp [zcell, upG_ne _ _ e]
  | 14, hd => 
    have e : 7 ≠ g := by omega
    simp [zcell, upG_ne _ _ e]
  | 15, hd => 
    have e : 7 ≠ g := by omega
    simp [zcell, upG_ne _ _ e]
  | 16, hd => 
    have e : 8 ≠ g := by omega
    simp [zcell, upG_ne _ _ e]
  | 17, hd => 
    have e : 8 ≠ g := by omega
    simp [zcell, upG_ne _ _ e]
  | n + 18, hd => exact absurd (show n + 18 < 17 ∧ g' = 0 ∧ i' = 0 from hd).1 (by omega)
theorem zm_0_16 (G : zG) (V : zV3) (g : Nat) (hg : g < 7) (x : Int32) : ∀ k' g' i', zdom k' g' i' → zcell G (upG V g (up2 (V g) 16 0 x)) k' g' i' = if k' = 0 ∧ g' = g ∧ i' = 0 then .inr (0, [.ref (gA G 1 g 0), .ref (gA G 2 g 0), .ref (gA G 3 g 0), .ref (gA G 3 g 1), .ref (gA G 4 g 0), .ref (gA G 5 g 0), .int (V g 13 0), .int (V g 14 0), .int (V g 15 0), .int x]) else zcell G V k' g' i' := by
  have h9 := zn_0_16 G V g hg (V g)  x
  rwa [upG_id] at h9
theorem zn_4_17 (G : zG) (V : zV3) (g : Nat) (hg : g < 7) (h : zV2) (j : Nat) (x : Int32) : ∀ k' g' i', zdom k' g' i' → zcell G (upG V g (up2 h 17 j x)) k' g' i' = if k' = 4 ∧ g' = g ∧ i' = 0 then .inl (gC G 0, 3, .inl (upd (h 17) j x)) else zcell G (upG V g h) k' g' i' := by
  intro k' g' i' hd
  match k', hd with
  | 0, hd => 
    by_cases e : g' = g
    · subst e
      simp [zcell, upG_self, up2, funext_iff]
    · simp [zcell, upG_ne _ _ e, e]
  | 1, hd => 
    by_cases e : g' = g
    · subst e
      simp [zcell, upG_self, up2, funext_iff]
    · simp [zcell, upG_ne _ _ e, e]
  | 2, hd => 
    by_cases e : g' = g
    · subst e
      simp [zcell, upG_self, up2, funext_iff]
    · simp [zcell, upG_ne _ _ e, e]
  | 3, hd => 
    by_cases e : g' = g
    · subst e
      have hw2 := hd.2; simp [zcell, upG_self, up2, funext_iff] <;> omega
    · simp [zcell, upG_ne _ _ e, e]
  | 4, hd => 
    by_cases e : g' = g
    · subst e
      have h2 := hd.2; subst h2; simp [zcell, upG_self, up2, upd, funext_iff]
    · simp [zcell, upG_ne _ _ e, e]
  | 5, hd => 
    by_cases e : g' = g
    · subst e
      simp [zcell, upG_self, up2, funext_iff]
    · simp [zcell, upG_ne _ _ e, e]
  | 6, hd => 
    by_cases e : g' = g
    · subst e
      have hw2 := hd.2; simp [zcell, upG_self, up2, funext_iff] <;> omega
    · simp [zcell, upG_ne _ _ e, e]
  | 7, hd => 
    by_cases e : g' = g
    · subst e
      have hw2 := hd.2; simp [zcell, upG_self, up2, funext_iff] <;> omega
    · simp [zcell, upG_ne _ _ e, e]
  | 8, hd => 
    by_cases e : g' = g
    · subst e
      simp [zcell, upG_self, up2, funext_iff]
    · simp [zcell, upG_ne _ _ e, e]
  | 9, hd => 
    by_cases e : g' = g
    · subst e
      simp [zcell, upG_self, up2, funext_iff]
    · simp [zcell, upG_ne _ _ e, e]
  | 10, hd => 
    have e : 7 ≠ g := by omega
    simp [zcell, upG_ne _ _ e]
  | 11, hd => 
    have e : 7 ≠ g := by omega
    simp [zcell, upG_ne _ _ e]
  | 12, hd => 
    have e : 7 ≠ g := by omega
    simp [zcell, upG_ne _ _ e]
  | 13, hd => 
    have e : 7 ≠ g := by omega
    simp [zcell, upG_ne _ _ e]
  | 14, hd => 
    have e : 7 ≠ g := by omega
    simp [zcell, upG_ne _ _ e]
  | 15, hd => 
    have e : 7 ≠ g := by omega
    simp [zcell, upG_ne _ _ e]
  | 16, hd => 
    have e : 8 ≠ g := by omega
    simp [zcell, upG_ne _ _ e]
  | 17, hd => 
    have e : 8 ≠ g := by omega
    simp [zcell, upG_ne _ _ e]
  | n + 18, hd => exact absurd (show n + 18 < 17 ∧ g' = 0 ∧ i' = 0 from hd).1 (by omega)
theorem zm_4_17 (G : zG) (V : zV3) (g : Nat) (hg : g < 7) (j : Nat) (x : Int32) : ∀ k' g' i', zdom k' g' i' → zcell G (upG V g (up2 (V g) 17 j x)) k' g' i' = if k' = 4 ∧ g' = g ∧ i' = 0 then .inl (gC G 0, 3, .inl (upd (V g 17) j x)) else zcell G V k' g' i' := by
  have h9 := zn_4_17 G V g hg (V g) j x
  rwa [upG_id] at h9
theorem zn_5_18 (G : zG) (V : zV3) (g : Nat) (hg : g < 7) (h : zV2) (j : Nat) (x : Int32) : ∀ k' g' i', zdom k' g' i' → zcell G (upG V g (up2 h 18 j x)) k' g' i' = if k' = 5 ∧ g' = g ∧ i' = 0 then .inl (gC G 0, 3, .inl (upd (h 18) j x)) else zcell G (upG V g h) k' g' i' := by
  intro k' g' i' hd
  match k', hd with
  | 0, hd => 
    by_cases e : g' = g
    · subst e
      simp [zcell, upG_self, up2, funext_iff]
    · simp [zcell, upG_ne _ _ e, e]
  | 1, hd => 
    by_cases e : g' = g
    · subst e
      simp [zcell, upG_self, up2, funext_iff]
    · simp [zcell, upG_ne _ _ e, e]
  | 2, hd => 
    by_cases e : g' = g
    · subst e
      simp [zcell, upG_self, up2, funext_iff]
    · simp [zcell, upG_ne _ _ e, e]
  | 3, hd => 
    by_cases e : g' = g
    · subst e
      have hw2 := hd.2; simp [zcell, upG_self, up2, funext_iff] <;> omega
    · simp [zcell, upG_ne _ _ e, e]
  | 4, hd => 
    by_cases e : g' = g
    · subst e
      simp [zcell, upG_self, up2, funext_iff]
    · simp [zcell, upG_ne _ _ e, e]
  | 5, hd => 
    by_cases e : g' = g
    · subst e
      have h2 := hd.2; subst h2; simp [zcell, upG_self, up2, upd, funext_iff]
    · simp [zcell, upG_ne _ _ e, e]
  | 6, hd => 
    by_cases e : g' = g
    · subst e
      have hw2 := hd.2; simp [zcell, upG_self, up2, funext_iff] <;> omega
    · simp [zcell, upG_ne _ _ e, e]
  | 7, hd => 
    by_cases e : g' = g
    · subst e
      have hw2 := hd.2; simp [zcell, upG_self, up2, funext_iff] <;> omega
    · simp [zcell, upG_ne _ _ e, e]
  | 8, hd => 
    by_cases e : g' = g
    · subst e
      simp [zcell, upG_self, up2, funext_iff]
    · simp [zcell, upG_ne _ _ e, e]
  | 9, hd => 
    by_cases e : g' = g
    · subst e
      simp [zcell, upG_self, up2, funext_iff]
    · simp [zcell, upG_ne _ _ e, e]
  | 10, hd => 
    have e : 7 ≠ g := by omega
    simp [zcell, upG_ne _ _ e]
  | 11, hd => 
    have e : 7 ≠ g := by omega
    simp [zcell, upG_ne _ _ e]
  | 12, hd => 
    have e : 7 ≠ g := by omega
    simp [zcell, upG_ne _ _ e]
  | 13, hd => 
    have e : 7 ≠ g := by omega
    simp [zcell, upG_ne _ _ e]
  | 14, hd => 
    have e : 7 ≠ g := by omega
    simp [zcell, upG_ne _ _ e]
  | 15, hd => 
    have e : 7 ≠ g := by omega
    simp [zcell, upG_ne _ _ e]
  | 16, hd => 
    have e : 8 ≠ g := by omega
    simp [zcell, upG_ne _ _ e]
  | 17, hd => 
    have e : 8 ≠ g := by omega
    simp [zcell, upG_ne _ _ e]
  | n + 18, hd => exact absurd (show n + 18 < 17 ∧ g' = 0 ∧ i' = 0 from hd).1 (by omega)
theorem zm_5_18 (G : zG) (V : zV3) (g : Nat) (hg : g < 7) (j : Nat) (x : Int32) : ∀ k' g' i', zdom k' g' i' → zcell G (upG V g (up2 (V g) 18 j x)) k' g' i' = if k' = 5 ∧ g' = g ∧ i' = 0 then .inl (gC G 0, 3, .inl (upd (V g 18) j x)) else zcell G V k' g' i' := by
  have h9 := zn_5_18 G V g hg (V g) j x
  rwa [upG_id] at h9
theorem zn_3_23 (G : zG) (V : zV3) (g : Nat) (hg : g < 7) (h : zV2) (w : Nat) (hw : w < 2) (x : Int32) : ∀ k' g' i', zdom k' g' i' → zcell G (upG V g (up2 h (23 + w) 0 x)) k' g' i' = if k' = 3 ∧ g' = g ∧ i' = w then .inr (2, [.ref (gA G 6 g w), .ref (gA G 7 g w), .int x]) else zcell G (upG V g h) k' g' i' := by
  intro k' g' i' hd
  match k', hd with
  | 0, hd => 
    by_cases e : g' = g
    · subst e
      simp [zcell, upG_self, up2, funext_iff] <;> omega
    · simp [zcell, upG_ne _ _ e, e]
  | 1, hd => 
    by_cases e : g' = g
    · subst e
      simp [zcell, upG_self, up2, funext_iff] <;> omega
    · simp [zcell, upG_ne _ _ e, e]
  | 2, hd => 
    by_cases e : g' = g
    · subst e
      simp [zcell, upG_self, up2, funext_iff] <;> omega
    · simp [zcell, upG_ne _ _ e, e]
  | 3, hd => 
    by_cases e : g' = g
    · subst e
      by_cases e2 : i' = w
      · subst e2; simp [zcell, upG_self, up2, upd, funext_iff]
      · simp [zcell, upG_self, up2, e2, funext_iff]
    · simp [zcell, upG_ne _ _ e, e]
  | 4, hd => 
    by_cases e : g' = g
    · subst e
      simp [zcell, upG_self, up2, funext_iff] <;> omega
    · simp [zcell, upG_ne _ _ e, e]
  | 5, hd => 
    by_cases e : g' = g
    · subst e
      simp [zcell, upG_self, up2, funext_iff] <;> omega
    · simp [zcell, upG_ne _ _ e, e]
  | 6, hd => 
    by_cases e : g' = g
    · subst e
      have hw2 := hd.2; simp [zcell, upG_self, up2, funext_iff] <;> omega
    · simp [zcell, upG_ne _ _ e, e]
  | 7, hd => 
    by_cases e : g' = g
    · subst e
      have hw2 := hd.2; simp [zcell, upG_self, up2, funext_iff] <;> omega
    · simp [zcell, upG_ne _ _ e, e]
  | 8, hd => 
    by_cases e : g' = g
    · subst e
      simp [zcell, upG_self, up2, funext_iff] <;> omega
    · simp [zcell, upG_ne _ _ e, e]
  | 9, hd => 
    by_cases e : g' = g
    · subst e
      simp [zcell, upG_self, up2, funext_iff] <;> omega
    · simp [zcell, upG_ne _ _ e, e]
  | 10, hd => 
    have e : 7 ≠ g := by omega
    simp [zcell, upG_ne _ _ e]
  | 11, hd => 
    have e : 7 ≠ g := by omega
    simp [zcell, upG_ne _ _ e]
  | 12, hd => 
    have e : 7 ≠ g := by omega
    simp [zcell, upG_ne _ _ e]
  | 13, hd => 
    have e : 7 ≠ g := by omega
    simp [zcell, upG_ne _ _ e]
  | 14, hd => 
    have e : 7 ≠ g := by omega
    simp [zcell, upG_ne _ _ e]
  | 15, hd => 
    have e : 7 ≠ g := by omega
    simp [zcell, upG_ne _ _ e]
  | 16, hd => 
    have e : 8 ≠ g := by omega
    simp [zcell, upG_ne _ _ e]
  | 17, hd => 
    have e : 8 ≠ g := by omega
    simp [zcell, upG_ne _ _ e]
  | n + 18, hd => exact absurd (show n + 18 < 17 ∧ g' = 0 ∧ i' = 0 from hd).1 (by omega)
theorem zm_3_23 (G : zG) (V : zV3) (g : Nat) (hg : g < 7) (w : Nat) (hw : w < 2) (x : Int32) : ∀ k' g' i', zdom k' g' i' → zcell G (upG V g (up2 (V g) (23 + w) 0 x)) k' g' i' = if k' = 3 ∧ g' = g ∧ i' = w then .inr (2, [.ref (gA G 6 g w), .ref (gA G 7 g w), .int x]) else zcell G V k' g' i' := by
  have h9 := zn_3_23 G V g hg (V g) w hw x
  rwa [upG_id] at h9
theorem zn_6_19 (G : zG) (V : zV3) (g : Nat) (hg : g < 7) (h : zV2) (w : Nat) (hw : w < 2) (j : Nat) (x : Int32) : ∀ k' g' i', zdom k' g' i' → zcell G (upG V g (up2 h (19 + w) j x)) k' g' i' = if k' = 6 ∧ g' = g ∧ i' = w then .inl (gC G 0, 10, .inl (upd (h (19 + w)) j x)) else zcell G (upG V g h) k' g' i' := by
  intro k' g' i' hd
  match k', hd with
  | 0, hd => 
    by_cases e : g' = g
    · subst e
      simp [zcell, upG_self, up2, funext_iff] <;> omega
    · simp [zcell, upG_ne _ _ e, e]
  | 1, hd => 
    by_cases e : g' = g
    · subst e
      simp [zcell, upG_self, up2, funext_iff] <;> omega
    · simp [zcell, upG_ne _ _ e, e]
  | 2, hd => 
    by_cases e : g' = g
    · subst e
      simp [zcell, upG_self, up2, funext_iff] <;> omega
    · simp [zcell, upG_ne _ _ e, e]
  | 3, hd => 
    by_cases e : g' = g
    · subst e
      have hw2 := hd.2; simp [zcell, upG_self, up2, funext_iff] <;> omega
    · simp [zcell, upG_ne _ _ e, e]
  | 4, hd => 
    by_cases e : g' = g
    · subst e
      simp [zcell, upG_self, up2, funext_iff] <;> omega
    · simp [zcell, upG_ne _ _ e, e]
  | 5, hd => 
    by_cases e : g' = g
    · subst e
      simp [zcell, upG_self, up2, funext_iff] <;> omega
    · simp [zcell, upG_ne _ _ e, e]
  | 6, hd => 
    by_cases e : g' = g
    · subst e
      by_cases e2 : i' = w
      · subst e2; simp [zcell, upG_self, up2, upd, funext_iff]
      · simp [zcell, upG_self, up2, e2, funext_iff]
    · simp [zcell, upG_ne _ _ e, e]
  | 7, hd => 
    by_cases e : g' = g
    · subst e
      have hw2 := hd.2; simp [zcell, upG_self, up2, funext_iff] <;> omega
    · simp [zcell, upG_ne _ _ e, e]
  | 8, hd => 
    by_cases e : g' = g
    · subst e
      simp [zcell, upG_self, up2, funext_iff] <;> omega
    · simp [zcell, upG_ne _ _ e, e]
  | 9, hd => 
    by_cases e : g' = g
    · subst e
      simp [zcell, upG_self, up2, funext_iff] <;> omega
    · simp [zcell, upG_ne _ _ e, e]
  | 10, hd => 
    have e : 7 ≠ g := by omega
    simp [zcell, upG_ne _ _ e]
  | 11, hd => 
    have e : 7 ≠ g := by omega
    simp [zcell, upG_ne _ _ e]
  | 12, hd => 
    have e : 7 ≠ g := by omega
    simp [zcell, upG_ne _ _ e]
  | 13, hd => 
    have e : 7 ≠ g := by omega
    simp [zcell, upG_ne _ _ e]
  | 14, hd => 
    have e : 7 ≠ g := by omega
    simp [zcell, upG_ne _ _ e]
  | 15, hd => 
    have e : 7 ≠ g := by omega
    simp [zcell, upG_ne _ _ e]
  | 16, hd => 
    have e : 8 ≠ g := by omega
    simp [zcell, upG_ne _ _ e]
  | 17, hd => 
    have e : 8 ≠ g := by omega
    simp [zcell, upG_ne _ _ e]
  | n + 18, hd => exact absurd (show n + 18 < 17 ∧ g' = 0 ∧ i' = 0 from hd).1 (by omega)
theorem zm_6_19 (G : zG) (V : zV3) (g : Nat) (hg : g < 7) (w : Nat) (hw : w < 2) (j : Nat) (x : Int32) : ∀ k' g' i', zdom k' g' i' → zcell G (upG V g (up2 (V g) (19 + w) j x)) k' g' i' = if k' = 6 ∧ g' = g ∧ i' = w then .inl (gC G 0, 10, .inl (upd (V g (19 + w)) j x)) else zcell G V k' g' i' := by
  have h9 := zn_6_19 G V g hg (V g) w hw j x
  rwa [upG_id] at h9
theorem zn_7_21 (G : zG) (V : zV3) (g : Nat) (hg : g < 7) (h : zV2) (w : Nat) (hw : w < 2) (j : Nat) (x : Int32) : ∀ k' g' i', zdom k' g' i' → zcell G (upG V g (up2 h (21 + w) j x)) k' g' i' = if k' = 7 ∧ g' = g ∧ i' = w then .inl (gC G 0, 10, .inl (upd (h (21 + w)) j x)) else zcell G (upG V g h) k' g' i' := by
  intro k' g' i' hd
  match k', hd with
  | 0, hd => 
    by_cases e : g' = g
    · subst e
      simp [zcell, upG_self, up2, funext_iff] <;> omega
    · simp [zcell, upG_ne _ _ e, e]
  | 1, hd => 
    by_cases e : g' = g
    · subst e
      simp [zcell, upG_self, up2, funext_iff] <;> omega
    · simp [zcell, upG_ne _ _ e, e]
  | 2, hd => 
    by_cases e : g' = g
    · subst e
      simp [zcell, upG_self, up2, funext_iff] <;> omega
    · simp [zcell, upG_ne _ _ e, e]
  | 3, hd => 
    by_cases e : g' = g
    · subst e
      have hw2 := hd.2; simp [zcell, upG_self, up2, funext_iff] <;> omega
    · simp [zcell, upG_ne _ _ e, e]
  | 4, hd => 
    by_cases e : g' = g
    · subst e
      simp [zcell, upG_self, up2, funext_iff] <;> omega
    · simp [zcell, upG_ne _ _ e, e]
  | 5, hd => 
    by_cases e : g' = g
    · subst e
      simp [zcell, upG_self, up2, funext_iff] <;> omega
    · simp [zcell, upG_ne _ _ e, e]
  | 6, hd => 
    by_cases e : g' = g
    · subst e
      have hw2 := hd.2; simp [zcell, upG_self, up2, funext_iff] <;> omega
    · simp [zcell, upG_ne _ _ e, e]
  | 7, hd => 
    by_cases e : g' = g
    · subst e
      by_cases e2 : i' = w
      · subst e2; simp [zcell, upG_self, up2, upd, funext_iff]
      · simp [zcell, upG_self, up2, e2, funext_iff]
    · simp [zcell, upG_ne _ _ e, e]
  | 8, hd => 
    by_cases e : g' = g
    · subst e
      simp [zcell, upG_self, up2, funext_iff] <;> omega
    · simp [zcell, upG_ne _ _ e, e]
  | 9, hd => 
    by_cases e : g' = g
    · subst e
      simp [zcell, upG_self, up2, funext_iff] <;> omega
    · simp [zcell, upG_ne _ _ e, e]
  | 10, hd => 
    have e : 7 ≠ g := by omega
    simp [zcell, upG_ne _ _ e]
  | 11, hd => 
    have e : 7 ≠ g := by omega
    simp [zcell, upG_ne _ _ e]
  | 12, hd => 
    have e : 7 ≠ g := by omega
    simp [zcell, upG_ne _ _ e]
  | 13, hd => 
    have e : 7 ≠ g := by omega
    simp [zcell, upG_ne _ _ e]
  | 14, hd => 
    have e : 7 ≠ g := by omega
    simp [zcell, upG_ne _ _ e]
  | 15, hd => 
    have e : 7 ≠ g := by omega
    simp [zcell, upG_ne _ _ e]
  | 16, hd => 
    have e : 8 ≠ g := by omega
    simp [zcell, upG_ne _ _ e]
  | 17, hd => 
    have e : 8 ≠ g := by omega
    simp [zcell, upG_ne _ _ e]
  | n + 18, hd => exact absurd (show n + 18 < 17 ∧ g' = 0 ∧ i' = 0 from hd).1 (by omega)
theorem zm_7_21 (G : zG) (V : zV3) (g : Nat) (hg : g < 7) (w : Nat) (hw : w < 2) (j : Nat) (x : Int32) : ∀ k' g' i', zdom k' g' i' → zcell G (upG V g (up2 (V g) (21 + w) j x)) k' g' i' = if k' = 7 ∧ g' = g ∧ i' = w then .inl (gC G 0, 10, .inl (upd (V g (21 + w)) j x)) else zcell G V k' g' i' := by
  have h9 := zn_7_21 G V g hg (V g) w hw j x
  rwa [upG_id] at h9
theorem zn_11_0 (G : zG) (V : zV3) (h : zV2) (x : Int32) : ∀ k' g' i', zdom k' g' i' → zcell G (upG V 7 (up2 h 0 0 x)) k' g' i' = if k' = 11 ∧ g' = 0 ∧ i' = 0 then .inr (1, [.ref (gA G 12 0 0), .int x, .int (h 1 0)]) else zcell G (upG V 7 h) k' g' i' := by
  intro k' g' i' hd
  match k', hd with
  | 0, hd => 
    have e : g' ≠ 7 := by have := hd.1; omega
    simp [zcell, upG_ne _ _ e]
  | 1, hd => 
    have e : g' ≠ 7 := by have := hd.1; omega
    simp [zcell, upG_ne _ _ e]
  | 2, hd => 
    have e : g' ≠ 7 := by have := hd.1; omega
    simp [zcell, upG_ne _ _ e]
  | 3, hd => 
    have e : g' ≠ 7 := by have := hd.1; omega
    simp [zcell, upG_ne _ _ e]
  | 4, hd => 
    have e : g' ≠ 7 := by have := hd.1; omega
    simp [zcell, upG_ne _ _ e]
  | 5, hd => 
    have e : g' ≠ 7 := by have := hd.1; omega
    simp [zcell, upG_ne _ _ e]
  | 6, hd => 
    have e : g' ≠ 7 := by have := hd.1; omega
    simp [zcell, upG_ne _ _ e]
  | 7, hd => 
    have e : g' ≠ 7 := by have := hd.1; omega
    simp [zcell, upG_ne _ _ e]
  | 8, hd => 
    have e : g' ≠ 7 := by have := hd.1; omega
    simp [zcell, upG_ne _ _ e]
  | 9, hd => 
    have e : g' ≠ 7 := by have := hd.1; omega
    simp [zcell, upG_ne _ _ e]
  | 10, hd => 
    simp [zcell, upG_self, up2, funext_iff]
  | 11, hd => 
    obtain ⟨-, h1, h2⟩ : 11 < 17 ∧ g' = 0 ∧ i' = 0 := hd; subst h1; subst h2
    simp [zcell, upG_self, up2, upd, funext_iff]
  | 12, hd => 
    simp [zcell, upG_self, up2, funext_iff]
  | 13, hd => 
    simp [zcell, upG_self, up2, funext_iff]
  | 14, hd => 
    simp [zcell, upG_self, up2, funext_iff]
  | 15, hd => 
    simp [zcell, upG_self, up2, funext_iff]
  | 16, hd => 
    simp [zcell, upG]
  | 17, hd => 
    simp [zcell, upG]
  | n + 18, hd => exact absurd (show n + 18 < 17 ∧ g' = 0 ∧ i' = 0 from hd).1 (by omega)
theorem zm_11_0 (G : zG) (V : zV3) (x : Int32) : ∀ k' g' i', zdom k' g' i' → zcell G (upG V 7 (up2 (V 7) 0 0 x)) k' g' i' = if k' = 11 ∧ g' = 0 ∧ i' = 0 then .inr (1, [.ref (gA G 12 0 0), .int x, .int (V 7 1 0)]) else zcell G V k' g' i' := by
  have h9 := zn_11_0 G V (V 7)  x
  rwa [upG_id] at h9
theorem zn_11_1 (G : zG) (V : zV3) (h : zV2) (x : Int32) : ∀ k' g' i', zdom k' g' i' → zcell G (upG V 7 (up2 h 1 0 x)) k' g' i' = if k' = 11 ∧ g' = 0 ∧ i' = 0 then .inr (1, [.ref (gA G 12 0 0), .int (h 0 0), .int x]) else zcell G (upG V 7 h) k' g' i' := by
  intro k' g' i' hd
  match k', hd with
  | 0, hd => 
    have e : g' ≠ 7 := by have := hd.1; omega
    simp [zcell, upG_ne _ _ e]
  | 1, hd => 
    have e : g' ≠ 7 := by have := hd.1; omega
    simp [zcell, upG_ne _ _ e]
  | 2, hd => 
    have e : g' ≠ 7 := by have := hd.1; omega
    simp [zcell, upG_ne _ _ e]
  | 3, hd => 
    have e : g' ≠ 7 := by have := hd.1; omega
    simp [zcell, upG_ne _ _ e]
  | 4, hd => 
    have e : g' ≠ 7 := by have := hd.1; omega
    simp [zcell, upG_ne _ _ e]
  | 5, hd => 
    have e : g' ≠ 7 := by have := hd.1; omega
    simp [zcell, upG_ne _ _ e]
  | 6, hd => 
    have e : g' ≠ 7 := by have := hd.1; omega
    simp [zcell, upG_ne _ _ e]
  | 7, hd => 
    have e : g' ≠ 7 := by have := hd.1; omega
    simp [zcell, upG_ne _ _ e]
  | 8, hd => 
    have e : g' ≠ 7 := by have := hd.1; omega
    simp [zcell, upG_ne _ _ e]
  | 9, hd => 
    have e : g' ≠ 7 := by have := hd.1; omega
    simp [zcell, upG_ne _ _ e]
  | 10, hd => 
    simp [zcell, upG_self, up2, funext_iff]
  | 11, hd => 
    obtain ⟨-, h1, h2⟩ : 11 < 17 ∧ g' = 0 ∧ i' = 0 := hd; subst h1; subst h2
    simp [zcell, upG_self, up2, upd, funext_iff]
  | 12, hd => 
    simp [zcell, upG_self, up2, funext_iff]
  | 13, hd => 
    simp [zcell, upG_self, up2, funext_iff]
  | 14, hd => 
    simp [zcell, upG_self, up2, funext_iff]
  | 15, hd => 
    simp [zcell, upG_self, up2, funext_iff]
  | 16, hd => 
    simp [zcell, upG]
  | 17, hd => 
    simp [zcell, upG]
  | n + 18, hd => exact absurd (show n + 18 < 17 ∧ g' = 0 ∧ i' = 0 from hd).1 (by omega)
theorem zm_11_1 (G : zG) (V : zV3) (x : Int32) : ∀ k' g' i', zdom k' g' i' → zcell G (upG V 7 (up2 (V 7) 1 0 x)) k' g' i' = if k' = 11 ∧ g' = 0 ∧ i' = 0 then .inr (1, [.ref (gA G 12 0 0), .int (V 7 0 0), .int x]) else zcell G V k' g' i' := by
  have h9 := zn_11_1 G V (V 7)  x
  rwa [upG_id] at h9
theorem zn_13_3 (G : zG) (V : zV3) (h : zV2) (x : Int32) : ∀ k' g' i', zdom k' g' i' → zcell G (upG V 7 (up2 h 3 0 x)) k' g' i' = if k' = 13 ∧ g' = 0 ∧ i' = 0 then .inr (6, [.ref (gA G 14 0 0), .int x, zverb G (h 4 0), .int (h 5 0), .int (h 6 0), .int (h 7 0)]) else zcell G (upG V 7 h) k' g' i' := by
  intro k' g' i' hd
  match k', hd with
  | 0, hd => 
    have e : g' ≠ 7 := by have := hd.1; omega
    simp [zcell, upG_ne _ _ e]
  | 1, hd => 
    have e : g' ≠ 7 := by have := hd.1; omega
    simp [zcell, upG_ne _ _ e]
  | 2, hd => 
    have e : g' ≠ 7 := by have := hd.1; omega
    simp [zcell, upG_ne _ _ e]
  | 3, hd => 
    have e : g' ≠ 7 := by have := hd.1; omega
    simp [zcell, upG_ne _ _ e]
  | 4, hd => 
    have e : g' ≠ 7 := by have := hd.1; omega
    simp [zcell, upG_ne _ _ e]
  | 5, hd => 
    have e : g' ≠ 7 := by have := hd.1; omega
    simp [zcell, upG_ne _ _ e]
  | 6, hd => 
    have e : g' ≠ 7 := by have := hd.1; omega
    simp [zcell, upG_ne _ _ e]
  | 7, hd => 
    have e : g' ≠ 7 := by have := hd.1; omega
    simp [zcell, upG_ne _ _ e]
  | 8, hd => 
    have e : g' ≠ 7 := by have := hd.1; omega
    simp [zcell, upG_ne _ _ e]
  | 9, hd => 
    have e : g' ≠ 7 := by have := hd.1; omega
    simp [zcell, upG_ne _ _ e]
  | 10, hd => 
    simp [zcell, upG_self, up2, funext_iff]
  | 11, hd => 
    simp [zcell, upG_self, up2, funext_iff]
  | 12, hd => 
    simp [zcell, upG_self, up2, funext_iff]
  | 13, hd => 
    obtain ⟨-, h1, h2⟩ : 13 < 17 ∧ g' = 0 ∧ i' = 0 := hd; subst h1; subst h2
    simp [zcell, upG_self, up2, upd, funext_iff]
  | 14, hd => 
    simp [zcell, upG_self, up2, funext_iff]
  | 15, hd => 
    simp [zcell, upG_self, up2, funext_iff]
  | 16, hd => 
    simp [zcell, upG]
  | 17, hd => 
    simp [zcell, upG]
  | n + 18, hd => exact absurd (show n + 18 < 17 ∧ g' = 0 ∧ i' = 0 from hd).1 (by omega)
theorem zm_13_3 (G : zG) (V : zV3) (x : Int32) : ∀ k' g' i', zdom k' g' i' → zcell G (upG V 7 (up2 (V 7) 3 0 x)) k' g' i' = if k' = 13 ∧ g' = 0 ∧ i' = 0 then .inr (6, [.ref (gA G 14 0 0), .int x, zverb G (V 7 4 0), .int (V 7 5 0), .int (V 7 6 0), .int (V 7 7 0)]) else zcell G V k' g' i' := by
  have h9 := zn_13_3 G V (V 7)  x
  rwa [upG_id] at h9
theorem zn_13_5 (G : zG) (V : zV3) (h : zV2) (x : Int32) : ∀ k' g' i', zdom k' g' i' → zcell G (upG V 7 (up2 h 5 0 x)) k' g' i' = if k' = 13 ∧ g' = 0 ∧ i' = 0 then .inr (6, [.ref (gA G 14 0 0), .int (h 3 0), zverb G (h 4 0), .int x, .int (h 6 0), .int (h 7 0)]) else zcell G (upG V 7 h) k' g' i' := by
  intro k' g' i' hd
  match k', hd with
  | 0, hd => 
    have e : g' ≠ 7 := by have := hd.1; omega
    simp [zcell, upG_ne _ _ e]
  | 1, hd => 
    have e : g' ≠ 7 := by have := hd.1; omega
    simp [zcell, upG_ne _ _ e]
  | 2, hd => 
    have e : g' ≠ 7 := by have := hd.1; omega
    simp [zcell, upG_ne _ _ e]
  | 3, hd => 
    have e : g' ≠ 7 := by have := hd.1; omega
    simp [zcell, upG_ne _ _ e]
  | 4, hd => 
    have e : g' ≠ 7 := by have := hd.1; omega
    simp [zcell, upG_ne _ _ e]
  | 5, hd => 
    have e : g' ≠ 7 := by have := hd.1; omega
    simp [zcell, upG_ne _ _ e]
  | 6, hd => 
    have e : g' ≠ 7 := by have := hd.1; omega
    simp [zcell, upG_ne _ _ e]
  | 7, hd => 
    have e : g' ≠ 7 := by have := hd.1; omega
    simp [zcell, upG_ne _ _ e]
  | 8, hd => 
    have e : g' ≠ 7 := by have := hd.1; omega
    simp [zcell, upG_ne _ _ e]
  | 9, hd => 
    have e : g' ≠ 7 := by have := hd.1; omega
    simp [zcell, upG_ne _ _ e]
  | 10, hd => 
    simp [zcell, upG_self, up2, funext_iff]
  | 11, hd => 
    simp [zcell, upG_self, up2, funext_iff]
  | 12, hd => 
    simp [zcell, upG_self, up2, funext_iff]
  | 13, hd => 
    obtain ⟨-, h1, h2⟩ : 13 < 17 ∧ g' = 0 ∧ i' = 0 := hd; subst h1; subst h2
    simp [zcell, upG_self, up2, upd, funext_iff]
  | 14, hd => 
    simp [zcell, upG_self, up2, funext_iff]
  | 15, hd => 
    simp [zcell, upG_self, up2, funext_iff]
  | 16, hd => 
    simp [zcell, upG]
  | 17, hd => 
    simp [zcell, upG]
  | n + 18, hd => exact absurd (show n + 18 < 17 ∧ g' = 0 ∧ i' = 0 from hd).1 (by omega)
theorem zm_13_5 (G : zG) (V : zV3) (x : Int32) : ∀ k' g' i', zdom k' g' i' → zcell G (upG V 7 (up2 (V 7) 5 0 x)) k' g' i' = if k' = 13 ∧ g' = 0 ∧ i' = 0 then .inr (6, [.ref (gA G 14 0 0), .int (V 7 3 0), zverb G (V 7 4 0), .int x, .int (V 7 6 0), .int (V 7 7 0)]) else zcell G V k' g' i' := by
  have h9 := zn_13_5 G V (V 7)  x
  rwa [upG_id] at h9
theorem zn_13_6 (G : zG) (V : zV3) (h : zV2) (x : Int32) : ∀ k' g' i', zdom k' g' i' → zcell G (upG V 7 (up2 h 6 0 x)) k' g' i' = if k' = 13 ∧ g' = 0 ∧ i' = 0 then .inr (6, [.ref (gA G 14 0 0), .int (h 3 0), zverb G (h 4 0), .int (h 5 0), .int x, .int (h 7 0)]) else zcell G (upG V 7 h) k' g' i' := by
  intro k' g' i' hd
  match k', hd with
  | 0, hd => 
    have e : g' ≠ 7 := by have := hd.1; omega
    simp [zcell, upG_ne _ _ e]
  | 1, hd => 
    have e : g' ≠ 7 := by have := hd.1; omega
    simp [zcell, upG_ne _ _ e]
  | 2, hd => 
    have e : g' ≠ 7 := by have := hd.1; omega
    simp [zcell, upG_ne _ _ e]
  | 3, hd => 
    have e : g' ≠ 7 := by have := hd.1; omega
    simp [zcell, upG_ne _ _ e]
  | 4, hd => 
    have e : g' ≠ 7 := by have := hd.1; omega
    simp [zcell, upG_ne _ _ e]
  | 5, hd => 
    have e : g' ≠ 7 := by have := hd.1; omega
    simp [zcell, upG_ne _ _ e]
  | 6, hd => 
    have e : g' ≠ 7 := by have := hd.1; omega
    simp [zcell, upG_ne _ _ e]
  | 7, hd => 
    have e : g' ≠ 7 := by have := hd.1; omega
    simp [zcell, upG_ne _ _ e]
  | 8, hd => 
    have e : g' ≠ 7 := by have := hd.1; omega
    simp [zcell, upG_ne _ _ e]
  | 9, hd => 
    have e : g' ≠ 7 := by have := hd.1; omega
    simp [zcell, upG_ne _ _ e]
  | 10, hd => 
    simp [zcell, upG_self, up2, funext_iff]
  | 11, hd => 
    simp [zcell, upG_self, up2, funext_iff]
  | 12, hd => 
    simp [zcell, upG_self, up2, funext_iff]
  | 13, hd => 
    obtain ⟨-, h1, h2⟩ : 13 < 17 ∧ g' = 0 ∧ i' = 0 := hd; subst h1; subst h2
    simp [zcell, upG_self, up2, upd, funext_iff]
  | 14, hd => 
    simp [zcell, upG_self, up2, funext_iff]
  | 15, hd => 
    simp [zcell, upG_self, up2, funext_iff]
  | 16, hd => 
    simp [zcell, upG]
  | 17, hd => 
    simp [zcell, upG]
  | n + 18, hd => exact absurd (show n + 18 < 17 ∧ g' = 0 ∧ i' = 0 from hd).1 (by omega)
theorem zm_13_6 (G : zG) (V : zV3) (x : Int32) : ∀ k' g' i', zdom k' g' i' → zcell G (upG V 7 (up2 (V 7) 6 0 x)) k' g' i' = if k' = 13 ∧ g' = 0 ∧ i' = 0 then .inr (6, [.ref (gA G 14 0 0), .int (V 7 3 0), zverb G (V 7 4 0), .int (V 7 5 0), .int x, .int (V 7 7 0)]) else zcell G V k' g' i' := by
  have h9 := zn_13_6 G V (V 7)  x
  rwa [upG_id] at h9
theorem zn_13_7 (G : zG) (V : zV3) (h : zV2) (x : Int32) : ∀ k' g' i', zdom k' g' i' → zcell G (upG V 7 (up2 h 7 0 x)) k' g' i' = if k' = 13 ∧ g' = 0 ∧ i' = 0 then .inr (6, [.ref (gA G 14 0 0), .int (h 3 0), zverb G (h 4 0), .int (h 5 0), .int (h 6 0), .int x]) else zcell G (upG V 7 h) k' g' i' := by
  intro k' g' i' hd
  match k', hd with
  | 0, hd => 
    have e : g' ≠ 7 := by have := hd.1; omega
    simp [zcell, upG_ne _ _ e]
  | 1, hd => 
    have e : g' ≠ 7 := by have := hd.1; omega
    simp [zcell, upG_ne _ _ e]
  | 2, hd => 
    have e : g' ≠ 7 := by have := hd.1; omega
    simp [zcell, upG_ne _ _ e]
  | 3, hd => 
    have e : g' ≠ 7 := by have := hd.1; omega
    simp [zcell, upG_ne _ _ e]
  | 4, hd => 
    have e : g' ≠ 7 := by have := hd.1; omega
    simp [zcell, upG_ne _ _ e]
  | 5, hd => 
    have e : g' ≠ 7 := by have := hd.1; omega
    simp [zcell, upG_ne _ _ e]
  | 6, hd => 
    have e : g' ≠ 7 := by have := hd.1; omega
    simp [zcell, upG_ne _ _ e]
  | 7, hd => 
    have e : g' ≠ 7 := by have := hd.1; omega
    simp [zcell, upG_ne _ _ e]
  | 8, hd => 
    have e : g' ≠ 7 := by have := hd.1; omega
    simp [zcell, upG_ne _ _ e]
  | 9, hd => 
    have e : g' ≠ 7 := by have := hd.1; omega
    simp [zcell, upG_ne _ _ e]
  | 10, hd => 
    simp [zcell, upG_self, up2, funext_iff]
  | 11, hd => 
    simp [zcell, upG_self, up2, funext_iff]
  | 12, hd => 
    simp [zcell, upG_self, up2, funext_iff]
  | 13, hd => 
    obtain ⟨-, h1, h2⟩ : 13 < 17 ∧ g' = 0 ∧ i' = 0 := hd; subst h1; subst h2
    simp [zcell, upG_self, up2, upd, funext_iff]
  | 14, hd => 
    simp [zcell, upG_self, up2, funext_iff]
  | 15, hd => 
    simp [zcell, upG_self, up2, funext_iff]
  | 16, hd => 
    simp [zcell, upG]
  | 17, hd => 
    simp [zcell, upG]
  | n + 18, hd => exact absurd (show n + 18 < 17 ∧ g' = 0 ∧ i' = 0 from hd).1 (by omega)
theorem zm_13_7 (G : zG) (V : zV3) (x : Int32) : ∀ k' g' i', zdom k' g' i' → zcell G (upG V 7 (up2 (V 7) 7 0 x)) k' g' i' = if k' = 13 ∧ g' = 0 ∧ i' = 0 then .inr (6, [.ref (gA G 14 0 0), .int (V 7 3 0), zverb G (V 7 4 0), .int (V 7 5 0), .int (V 7 6 0), .int x]) else zcell G V k' g' i' := by
  have h9 := zn_13_7 G V (V 7)  x
  rwa [upG_id] at h9
theorem zn_13_4 (G : zG) (V : zV3) (h : zV2) (x : Int32) : ∀ k' g' i', zdom k' g' i' → zcell G (upG V 7 (up2 h 4 0 x)) k' g' i' = if k' = 13 ∧ g' = 0 ∧ i' = 0 then .inr (6, [.ref (gA G 14 0 0), .int (h 3 0), zverb G x, .int (h 5 0), .int (h 6 0), .int (h 7 0)]) else zcell G (upG V 7 h) k' g' i' := by
  intro k' g' i' hd
  match k', hd with
  | 0, hd => 
    have e : g' ≠ 7 := by have := hd.1; omega
    simp [zcell, upG_ne _ _ e]
  | 1, hd => 
    have e : g' ≠ 7 := by have := hd.1; omega
    simp [zcell, upG_ne _ _ e]
  | 2, hd => 
    have e : g' ≠ 7 := by have := hd.1; omega
    simp [zcell, upG_ne _ _ e]
  | 3, hd => 
    have e : g' ≠ 7 := by have := hd.1; omega
    simp [zcell, upG_ne _ _ e]
  | 4, hd => 
    have e : g' ≠ 7 := by have := hd.1; omega
    simp [zcell, upG_ne _ _ e]
  | 5, hd => 
    have e : g' ≠ 7 := by have := hd.1; omega
    simp [zcell, upG_ne _ _ e]
  | 6, hd => 
    have e : g' ≠ 7 := by have := hd.1; omega
    simp [zcell, upG_ne _ _ e]
  | 7, hd => 
    have e : g' ≠ 7 := by have := hd.1; omega
    simp [zcell, upG_ne _ _ e]
  | 8, hd => 
    have e : g' ≠ 7 := by have := hd.1; omega
    simp [zcell, upG_ne _ _ e]
  | 9, hd => 
    have e : g' ≠ 7 := by have := hd.1; omega
    simp [zcell, upG_ne _ _ e]
  | 10, hd => 
    simp [zcell, upG_self, up2, funext_iff]
  | 11, hd => 
    simp [zcell, upG_self, up2, funext_iff]
  | 12, hd => 
    simp [zcell, upG_self, up2, funext_iff]
  | 13, hd => 
    obtain ⟨-, h1, h2⟩ : 13 < 17 ∧ g' = 0 ∧ i' = 0 := hd; subst h1; subst h2
    simp [zcell, upG_self, up2, upd, funext_iff]
  | 14, hd => 
    simp [zcell, upG_self, up2, funext_iff]
  | 15, hd => 
    simp [zcell, upG_self, up2, funext_iff]
  | 16, hd => 
    simp [zcell, upG]
  | 17, hd => 
    simp [zcell, upG]
  | n + 18, hd => exact absurd (show n + 18 < 17 ∧ g' = 0 ∧ i' = 0 from hd).1 (by omega)
theorem zm_13_4 (G : zG) (V : zV3) (x : Int32) : ∀ k' g' i', zdom k' g' i' → zcell G (upG V 7 (up2 (V 7) 4 0 x)) k' g' i' = if k' = 13 ∧ g' = 0 ∧ i' = 0 then .inr (6, [.ref (gA G 14 0 0), .int (V 7 3 0), zverb G x, .int (V 7 5 0), .int (V 7 6 0), .int (V 7 7 0)]) else zcell G V k' g' i' := by
  have h9 := zn_13_4 G V (V 7)  x
  rwa [upG_id] at h9
theorem zn_14_2 (G : zG) (V : zV3) (h : zV2) (j : Nat) (x : Int32) : ∀ k' g' i', zdom k' g' i' → zcell G (upG V 7 (up2 h 2 j x)) k' g' i' = if k' = 14 ∧ g' = 0 ∧ i' = 0 then .inl (gC G 1, 80, .inl (upd (h 2) j x)) else zcell G (upG V 7 h) k' g' i' := by
  intro k' g' i' hd
  match k', hd with
  | 0, hd => 
    have e : g' ≠ 7 := by have := hd.1; omega
    simp [zcell, upG_ne _ _ e]
  | 1, hd => 
    have e : g' ≠ 7 := by have := hd.1; omega
    simp [zcell, upG_ne _ _ e]
  | 2, hd => 
    have e : g' ≠ 7 := by have := hd.1; omega
    simp [zcell, upG_ne _ _ e]
  | 3, hd => 
    have e : g' ≠ 7 := by have := hd.1; omega
    simp [zcell, upG_ne _ _ e]
  | 4, hd => 
    have e : g' ≠ 7 := by have := hd.1; omega
    simp [zcell, upG_ne _ _ e]
  | 5, hd => 
    have e : g' ≠ 7 := by have := hd.1; omega
    simp [zcell, upG_ne _ _ e]
  | 6, hd => 
    have e : g' ≠ 7 := by have := hd.1; omega
    simp [zcell, upG_ne _ _ e]
  | 7, hd => 
    have e : g' ≠ 7 := by have := hd.1; omega
    simp [zcell, upG_ne _ _ e]
  | 8, hd => 
    have e : g' ≠ 7 := by have := hd.1; omega
    simp [zcell, upG_ne _ _ e]
  | 9, hd => 
    have e : g' ≠ 7 := by have := hd.1; omega
    simp [zcell, upG_ne _ _ e]
  | 10, hd => 
    simp [zcell, upG_self, up2, funext_iff]
  | 11, hd => 
    simp [zcell, upG_self, up2, funext_iff]
  | 12, hd => 
    simp [zcell, upG_self, up2, funext_iff]
  | 13, hd => 
    simp [zcell, upG_self, up2, funext_iff]
  | 14, hd => 
    obtain ⟨-, h1, h2⟩ : 14 < 17 ∧ g' = 0 ∧ i' = 0 := hd; subst h1; subst h2
    simp [zcell, upG_self, up2, upd, funext_iff]
  | 15, hd => 
    simp [zcell, upG_self, up2, funext_iff]
  | 16, hd => 
    simp [zcell, upG]
  | 17, hd => 
    simp [zcell, upG]
  | n + 18, hd => exact absurd (show n + 18 < 17 ∧ g' = 0 ∧ i' = 0 from hd).1 (by omega)
theorem zm_14_2 (G : zG) (V : zV3) (j : Nat) (x : Int32) : ∀ k' g' i', zdom k' g' i' → zcell G (upG V 7 (up2 (V 7) 2 j x)) k' g' i' = if k' = 14 ∧ g' = 0 ∧ i' = 0 then .inl (gC G 1, 80, .inl (upd (V 7 2) j x)) else zcell G V k' g' i' := by
  have h9 := zn_14_2 G V (V 7) j x
  rwa [upG_id] at h9
theorem zn_15_8 (G : zG) (V : zV3) (h : zV2) (x : Int32) : ∀ k' g' i', zdom k' g' i' → zcell G (upG V 7 (up2 h 8 0 x)) k' g' i' = if k' = 15 ∧ g' = 0 ∧ i' = 0 then .inr (5, [.ref (gA G 0 6 0), .int x, .int (h 9 0), .int (h 10 0), .int (h 11 0)]) else zcell G (upG V 7 h) k' g' i' := by
  intro k' g' i' hd
  match k', hd with
  | 0, hd => 
    have e : g' ≠ 7 := by have := hd.1; omega
    simp [zcell, upG_ne _ _ e]
  | 1, hd => 
    have e : g' ≠ 7 := by have := hd.1; omega
    simp [zcell, upG_ne _ _ e]
  | 2, hd => 
    have e : g' ≠ 7 := by have := hd.1; omega
    simp [zcell, upG_ne _ _ e]
  | 3, hd => 
    have e : g' ≠ 7 := by have := hd.1; omega
    simp [zcell, upG_ne _ _ e]
  | 4, hd => 
    have e : g' ≠ 7 := by have := hd.1; omega
    simp [zcell, upG_ne _ _ e]
  | 5, hd => 
    have e : g' ≠ 7 := by have := hd.1; omega
    simp [zcell, upG_ne _ _ e]
  | 6, hd => 
    have e : g' ≠ 7 := by have := hd.1; omega
    simp [zcell, upG_ne _ _ e]
  | 7, hd => 
    have e : g' ≠ 7 := by have := hd.1; omega
    simp [zcell, upG_ne _ _ e]
  | 8, hd => 
    have e : g' ≠ 7 := by have := hd.1; omega
    simp [zcell, upG_ne _ _ e]
  | 9, hd => 
    have e : g' ≠ 7 := by have := hd.1; omega
    simp [zcell, upG_ne _ _ e]
  | 10, hd => 
    simp [zcell, upG_self, up2, funext_iff]
  | 11, hd => 
    simp [zcell, upG_self, up2, funext_iff]
  | 12, hd => 
    simp [zcell, upG_self, up2, funext_iff]
  | 13, hd => 
    simp [zcell, upG_self, up2, funext_iff]
  | 14, hd => 
    simp [zcell, upG_self, up2, funext_iff]
  | 15, hd => 
    obtain ⟨-, h1, h2⟩ : 15 < 17 ∧ g' = 0 ∧ i' = 0 := hd; subst h1; subst h2
    simp [zcell, upG_self, up2, upd, funext_iff]
  | 16, hd => 
    simp [zcell, upG]
  | 17, hd => 
    simp [zcell, upG]
  | n + 18, hd => exact absurd (show n + 18 < 17 ∧ g' = 0 ∧ i' = 0 from hd).1 (by omega)
theorem zm_15_8 (G : zG) (V : zV3) (x : Int32) : ∀ k' g' i', zdom k' g' i' → zcell G (upG V 7 (up2 (V 7) 8 0 x)) k' g' i' = if k' = 15 ∧ g' = 0 ∧ i' = 0 then .inr (5, [.ref (gA G 0 6 0), .int x, .int (V 7 9 0), .int (V 7 10 0), .int (V 7 11 0)]) else zcell G V k' g' i' := by
  have h9 := zn_15_8 G V (V 7)  x
  rwa [upG_id] at h9
theorem zn_15_9 (G : zG) (V : zV3) (h : zV2) (x : Int32) : ∀ k' g' i', zdom k' g' i' → zcell G (upG V 7 (up2 h 9 0 x)) k' g' i' = if k' = 15 ∧ g' = 0 ∧ i' = 0 then .inr (5, [.ref (gA G 0 6 0), .int (h 8 0), .int x, .int (h 10 0), .int (h 11 0)]) else zcell G (upG V 7 h) k' g' i' := by
  intro k' g' i' hd
  match k', hd with
  | 0, hd => 
    have e : g' ≠ 7 := by have := hd.1; omega
    simp [zcell, upG_ne _ _ e]
  | 1, hd => 
    have e : g' ≠ 7 := by have := hd.1; omega
    simp [zcell, upG_ne _ _ e]
  | 2, hd => 
    have e : g' ≠ 7 := by have := hd.1; omega
    simp [zcell, upG_ne _ _ e]
  | 3, hd => 
    have e : g' ≠ 7 := by have := hd.1; omega
    simp [zcell, upG_ne _ _ e]
  | 4, hd => 
    have e : g' ≠ 7 := by have := hd.1; omega
    simp [zcell, upG_ne _ _ e]
  | 5, hd => 
    have e : g' ≠ 7 := by have := hd.1; omega
    simp [zcell, upG_ne _ _ e]
  | 6, hd => 
    have e : g' ≠ 7 := by have := hd.1; omega
    simp [zcell, upG_ne _ _ e]
  | 7, hd => 
    have e : g' ≠ 7 := by have := hd.1; omega
    simp [zcell, upG_ne _ _ e]
  | 8, hd => 
    have e : g' ≠ 7 := by have := hd.1; omega
    simp [zcell, upG_ne _ _ e]
  | 9, hd => 
    have e : g' ≠ 7 := by have := hd.1; omega
    simp [zcell, upG_ne _ _ e]
  | 10, hd => 
    simp [zcell, upG_self, up2, funext_iff]
  | 11, hd => 
    simp [zcell, upG_self, up2, funext_iff]
  | 12, hd => 
    simp [zcell, upG_self, up2, funext_iff]
  | 13, hd => 
    simp [zcell, upG_self, up2, funext_iff]
  | 14, hd => 
    simp [zcell, upG_self, up2, funext_iff]
  | 15, hd => 
    obtain ⟨-, h1, h2⟩ : 15 < 17 ∧ g' = 0 ∧ i' = 0 := hd; subst h1; subst h2
    simp [zcell, upG_self, up2, upd, funext_iff]
  | 16, hd => 
    simp [zcell, upG]
  | 17, hd => 
    simp [zcell, upG]
  | n + 18, hd => exact absurd (show n + 18 < 17 ∧ g' = 0 ∧ i' = 0 from hd).1 (by omega)
theorem zm_15_9 (G : zG) (V : zV3) (x : Int32) : ∀ k' g' i', zdom k' g' i' → zcell G (upG V 7 (up2 (V 7) 9 0 x)) k' g' i' = if k' = 15 ∧ g' = 0 ∧ i' = 0 then .inr (5, [.ref (gA G 0 6 0), .int (V 7 8 0), .int x, .int (V 7 10 0), .int (V 7 11 0)]) else zcell G V k' g' i' := by
  have h9 := zn_15_9 G V (V 7)  x
  rwa [upG_id] at h9
theorem zn_15_10 (G : zG) (V : zV3) (h : zV2) (x : Int32) : ∀ k' g' i', zdom k' g' i' → zcell G (upG V 7 (up2 h 10 0 x)) k' g' i' = if k' = 15 ∧ g' = 0 ∧ i' = 0 then .inr (5, [.ref (gA G 0 6 0), .int (h 8 0), .int (h 9 0), .int x, .int (h 11 0)]) else zcell G (upG V 7 h) k' g' i' := by
  intro k' g' i' hd
  match k', hd with
  | 0, hd => 
    have e : g' ≠ 7 := by have := hd.1; omega
    simp [zcell, upG_ne _ _ e]
  | 1, hd => 
    have e : g' ≠ 7 := by have := hd.1; omega
    simp [zcell, upG_ne _ _ e]
  | 2, hd => 
    have e : g' ≠ 7 := by have := hd.1; omega
    simp [zcell, upG_ne _ _ e]
  | 3, hd => 
    have e : g' ≠ 7 := by have := hd.1; omega
    simp [zcell, upG_ne _ _ e]
  | 4, hd => 
    have e : g' ≠ 7 := by have := hd.1; omega
    simp [zcell, upG_ne _ _ e]
  | 5, hd => 
    have e : g' ≠ 7 := by have := hd.1; omega
    simp [zcell, upG_ne _ _ e]
  | 6, hd => 
    have e : g' ≠ 7 := by have := hd.1; omega
    simp [zcell, upG_ne _ _ e]
  | 7, hd => 
    have e : g' ≠ 7 := by have := hd.1; omega
    simp [zcell, upG_ne _ _ e]
  | 8, hd => 
    have e : g' ≠ 7 := by have := hd.1; omega
    simp [zcell, upG_ne _ _ e]
  | 9, hd => 
    have e : g' ≠ 7 := by have := hd.1; omega
    simp [zcell, upG_ne _ _ e]
  | 10, hd => 
    simp [zcell, upG_self, up2, funext_iff]
  | 11, hd => 
    simp [zcell, upG_self, up2, funext_iff]
  | 12, hd => 
    simp [zcell, upG_self, up2, funext_iff]
  | 13, hd => 
    simp [zcell, upG_self, up2, funext_iff]
  | 14, hd => 
    simp [zcell, upG_self, up2, funext_iff]
  | 15, hd => 
    obtain ⟨-, h1, h2⟩ : 15 < 17 ∧ g' = 0 ∧ i' = 0 := hd; subst h1; subst h2
    simp [zcell, upG_self, up2, upd, funext_iff]
  | 16, hd => 
    simp [zcell, upG]
  | 17, hd => 
    simp [zcell, upG]
  | n + 18, hd => exact absurd (show n + 18 < 17 ∧ g' = 0 ∧ i' = 0 from hd).1 (by omega)
theorem zm_15_10 (G : zG) (V : zV3) (x : Int32) : ∀ k' g' i', zdom k' g' i' → zcell G (upG V 7 (up2 (V 7) 10 0 x)) k' g' i' = if k' = 15 ∧ g' = 0 ∧ i' = 0 then .inr (5, [.ref (gA G 0 6 0), .int (V 7 8 0), .int (V 7 9 0), .int x, .int (V 7 11 0)]) else zcell G V k' g' i' := by
  have h9 := zn_15_10 G V (V 7)  x
  rwa [upG_id] at h9
theorem zn_15_11 (G : zG) (V : zV3) (h : zV2) (x : Int32) : ∀ k' g' i', zdom k' g' i' → zcell G (upG V 7 (up2 h 11 0 x)) k' g' i' = if k' = 15 ∧ g' = 0 ∧ i' = 0 then .inr (5, [.ref (gA G 0 6 0), .int (h 8 0), .int (h 9 0), .int (h 10 0), .int x]) else zcell G (upG V 7 h) k' g' i' := by
  intro k' g' i' hd
  match k', hd with
  | 0, hd => 
    have e : g' ≠ 7 := by have := hd.1; omega
    simp [zcell, upG_ne _ _ e]
  | 1, hd => 
    have e : g' ≠ 7 := by have := hd.1; omega
    simp [zcell, upG_ne _ _ e]
  | 2, hd => 
    have e : g' ≠ 7 := by have := hd.1; omega
    simp [zcell, upG_ne _ _ e]
  | 3, hd => 
    have e : g' ≠ 7 := by have := hd.1; omega
    simp [zcell, upG_ne _ _ e]
  | 4, hd => 
    have e : g' ≠ 7 := by have := hd.1; omega
    simp [zcell, upG_ne _ _ e]
  | 5, hd => 
    have e : g' ≠ 7 := by have := hd.1; omega
    simp [zcell, upG_ne _ _ e]
  | 6, hd => 
    have e : g' ≠ 7 := by have := hd.1; omega
    simp [zcell, upG_ne _ _ e]
  | 7, hd => 
    have e : g' ≠ 7 := by have := hd.1; omega
    simp [zcell, upG_ne _ _ e]
  | 8, hd => 
    have e : g' ≠ 7 := by have := hd.1; omega
    simp [zcell, upG_ne _ _ e]
  | 9, hd => 
    have e : g' ≠ 7 := by have := hd.1; omega
    simp [zcell, upG_ne _ _ e]
  | 10, hd => 
    simp [zcell, upG_self, up2, funext_iff]
  | 11, hd => 
    simp [zcell, upG_self, up2, funext_iff]
  | 12, hd => 
    simp [zcell, upG_self, up2, funext_iff]
  | 13, hd => 
    simp [zcell, upG_self, up2, funext_iff]
  | 14, hd => 
    simp [zcell, upG_self, up2, funext_iff]
  | 15, hd => 
    obtain ⟨-, h1, h2⟩ : 15 < 17 ∧ g' = 0 ∧ i' = 0 := hd; subst h1; subst h2
    simp [zcell, upG_self, up2, upd, funext_iff]
  | 16, hd => 
    simp [zcell, upG]
  | 17, hd => 
    simp [zcell, upG]
  | n + 18, hd => exact absurd (show n + 18 < 17 ∧ g' = 0 ∧ i' = 0 from hd).1 (by omega)
theorem zm_15_11 (G : zG) (V : zV3) (x : Int32) : ∀ k' g' i', zdom k' g' i' → zcell G (upG V 7 (up2 (V 7) 11 0 x)) k' g' i' = if k' = 15 ∧ g' = 0 ∧ i' = 0 then .inr (5, [.ref (gA G 0 6 0), .int (V 7 8 0), .int (V 7 9 0), .int (V 7 10 0), .int x]) else zcell G V k' g' i' := by
  have h9 := zn_15_11 G V (V 7)  x
  rwa [upG_id] at h9
theorem zn_16_6 (G : zG) (V : zV3) (h : zV2) (x : Int32) : ∀ k' g' i', zdom k' g' i' → zcell G (upG V 8 (up2 h 6 0 x)) k' g' i' = if k' = 16 ∧ g' = 0 ∧ i' = 0 then .inr (8, [.ref (gA G 17 0 0), .ref (gA G 17 0 1), .ref (gA G 17 0 2), .ref (gA G 17 0 3), .int x, .ref (gA G 17 0 4), .int (h 7 0), .int (h 8 0), .int (h 9 0), .int (h 10 0), .int (h 11 0), .ref (gA G 17 0 5)]) else zcell G (upG V 8 h) k' g' i' := by
  intro k' g' i' hd
  match k', hd with
  | 0, hd => 
    have e : g' ≠ 8 := by have := hd.1; omega
    simp [zcell, upG_ne _ _ e]
  | 1, hd => 
    have e : g' ≠ 8 := by have := hd.1; omega
    simp [zcell, upG_ne _ _ e]
  | 2, hd => 
    have e : g' ≠ 8 := by have := hd.1; omega
    simp [zcell, upG_ne _ _ e]
  | 3, hd => 
    have e : g' ≠ 8 := by have := hd.1; omega
    simp [zcell, upG_ne _ _ e]
  | 4, hd => 
    have e : g' ≠ 8 := by have := hd.1; omega
    simp [zcell, upG_ne _ _ e]
  | 5, hd => 
    have e : g' ≠ 8 := by have := hd.1; omega
    simp [zcell, upG_ne _ _ e]
  | 6, hd => 
    have e : g' ≠ 8 := by have := hd.1; omega
    simp [zcell, upG_ne _ _ e]
  | 7, hd => 
    have e : g' ≠ 8 := by have := hd.1; omega
    simp [zcell, upG_ne _ _ e]
  | 8, hd => 
    have e : g' ≠ 8 := by have := hd.1; omega
    simp [zcell, upG_ne _ _ e]
  | 9, hd => 
    have e : g' ≠ 8 := by have := hd.1; omega
    simp [zcell, upG_ne _ _ e]
  | 10, hd => 
    simp [zcell, upG]
  | 11, hd => 
    simp [zcell, upG]
  | 12, hd => 
    simp [zcell, upG]
  | 13, hd => 
    simp [zcell, upG]
  | 14, hd => 
    simp [zcell, upG]
  | 15, hd => 
    simp [zcell, upG]
  | 16, hd => 
    obtain ⟨-, h1, h2⟩ : 16 < 17 ∧ g' = 0 ∧ i' = 0 := hd; subst h1; subst h2
    simp [zcell, upG_self, up2, upd, funext_iff]
  | 17, hd => 
    obtain ⟨h1, h2⟩ : g' = 0 ∧ i' < 6 := hd; subst h1
    have h3 : i' ≠ 6 := by omega
    simp [zcell, upG_self, up2, h3, funext_iff]
  | n + 18, hd => exact absurd (show n + 18 < 17 ∧ g' = 0 ∧ i' = 0 from hd).1 (by omega)
theorem zm_16_6 (G : zG) (V : zV3) (x : Int32) : ∀ k' g' i', zdom k' g' i' → zcell G (upG V 8 (up2 (V 8) 6 0 x)) k' g' i' = if k' = 16 ∧ g' = 0 ∧ i' = 0 then .inr (8, [.ref (gA G 17 0 0), .ref (gA G 17 0 1), .ref (gA G 17 0 2), .ref (gA G 17 0 3), .int x, .ref (gA G 17 0 4), .int (V 8 7 0), .int (V 8 8 0), .int (V 8 9 0), .int (V 8 10 0), .int (V 8 11 0), .ref (gA G 17 0 5)]) else zcell G V k' g' i' := by
  have h9 := zn_16_6 G V (V 8)  x
  rwa [upG_id] at h9
theorem zn_16_7 (G : zG) (V : zV3) (h : zV2) (x : Int32) : ∀ k' g' i', zdom k' g' i' → zcell G (upG V 8 (up2 h 7 0 x)) k' g' i' = if k' = 16 ∧ g' = 0 ∧ i' = 0 then .inr (8, [.ref (gA G 17 0 0), .ref (gA G 17 0 1), .ref (gA G 17 0 2), .ref (gA G 17 0 3), .int (h 6 0), .ref (gA G 17 0 4), .int x, .int (h 8 0), .int (h 9 0), .int (h 10 0), .int (h 11 0), .ref (gA G 17 0 5)]) else zcell G (upG V 8 h) k' g' i' := by
  intro k' g' i' hd
  match k', hd with
  | 0, hd => 
    have e : g' ≠ 8 := by have := hd.1; omega
    simp [zcell, upG_ne _ _ e]
  | 1, hd => 
    have e : g' ≠ 8 := by have := hd.1; omega
    simp [zcell, upG_ne _ _ e]
  | 2, hd => 
    have e : g' ≠ 8 := by have := hd.1; omega
    simp [zcell, upG_ne _ _ e]
  | 3, hd => 
    have e : g' ≠ 8 := by have := hd.1; omega
    simp [zcell, upG_ne _ _ e]
  | 4, hd => 
    have e : g' ≠ 8 := by have := hd.1; omega
    simp [zcell, upG_ne _ _ e]
  | 5, hd => 
    have e : g' ≠ 8 := by have := hd.1; omega
    simp [zcell, upG_ne _ _ e]
  | 6, hd => 
    have e : g' ≠ 8 := by have := hd.1; omega
    simp [zcell, upG_ne _ _ e]
  | 7, hd => 
    have e : g' ≠ 8 := by have := hd.1; omega
    simp [zcell, upG_ne _ _ e]
  | 8, hd => 
    have e : g' ≠ 8 := by have := hd.1; omega
    simp [zcell, upG_ne _ _ e]
  | 9, hd => 
    have e : g' ≠ 8 := by have := hd.1; omega
    simp [zcell, upG_ne _ _ e]
  | 10, hd => 
    simp [zcell, upG]
  | 11, hd => 
    simp [zcell, upG]
  | 12, hd => 
    simp [zcell, upG]
  | 13, hd => 
    simp [zcell, upG]
  | 14, hd => 
    simp [zcell, upG]
  | 15, hd => 
    simp [zcell, upG]
  | 16, hd => 
    obtain ⟨-, h1, h2⟩ : 16 < 17 ∧ g' = 0 ∧ i' = 0 := hd; subst h1; subst h2
    simp [zcell, upG_self, up2, upd, funext_iff]
  | 17, hd => 
    obtain ⟨h1, h2⟩ : g' = 0 ∧ i' < 6 := hd; subst h1
    have h3 : i' ≠ 7 := by omega
    simp [zcell, upG_self, up2, h3, funext_iff]
  | n + 18, hd => exact absurd (show n + 18 < 17 ∧ g' = 0 ∧ i' = 0 from hd).1 (by omega)
theorem zm_16_7 (G : zG) (V : zV3) (x : Int32) : ∀ k' g' i', zdom k' g' i' → zcell G (upG V 8 (up2 (V 8) 7 0 x)) k' g' i' = if k' = 16 ∧ g' = 0 ∧ i' = 0 then .inr (8, [.ref (gA G 17 0 0), .ref (gA G 17 0 1), .ref (gA G 17 0 2), .ref (gA G 17 0 3), .int (V 8 6 0), .ref (gA G 17 0 4), .int x, .int (V 8 8 0), .int (V 8 9 0), .int (V 8 10 0), .int (V 8 11 0), .ref (gA G 17 0 5)]) else zcell G V k' g' i' := by
  have h9 := zn_16_7 G V (V 8)  x
  rwa [upG_id] at h9
theorem zn_16_8 (G : zG) (V : zV3) (h : zV2) (x : Int32) : ∀ k' g' i', zdom k' g' i' → zcell G (upG V 8 (up2 h 8 0 x)) k' g' i' = if k' = 16 ∧ g' = 0 ∧ i' = 0 then .inr (8, [.ref (gA G 17 0 0), .ref (gA G 17 0 1), .ref (gA G 17 0 2), .ref (gA G 17 0 3), .int (h 6 0), .ref (gA G 17 0 4), .int (h 7 0), .int x, .int (h 9 0), .int (h 10 0), .int (h 11 0), .ref (gA G 17 0 5)]) else zcell G (upG V 8 h) k' g' i' := by
  intro k' g' i' hd
  match k', hd with
  | 0, hd => 
    have e : g' ≠ 8 := by have := hd.1; omega
    simp [zcell, upG_ne _ _ e]
  | 1, hd => 
    have e : g' ≠ 8 := by have := hd.1; omega
    simp [zcell, upG_ne _ _ e]
  | 2, hd => 
    have e : g' ≠ 8 := by have := hd.1; omega
    simp [zcell, upG_ne _ _ e]
  | 3, hd => 
    have e : g' ≠ 8 := by have := hd.1; omega
    simp [zcell, upG_ne _ _ e]
  | 4, hd => 
    have e : g' ≠ 8 := by have := hd.1; omega
    simp [zcell, upG_ne _ _ e]
  | 5, hd => 
    have e : g' ≠ 8 := by have := hd.1; omega
    simp [zcell, upG_ne _ _ e]
  | 6, hd => 
    have e : g' ≠ 8 := by have := hd.1; omega
    simp [zcell, upG_ne _ _ e]
  | 7, hd => 
    have e : g' ≠ 8 := by have := hd.1; omega
    simp [zcell, upG_ne _ _ e]
  | 8, hd => 
    have e : g' ≠ 8 := by have := hd.1; omega
    simp [zcell, upG_ne _ _ e]
  | 9, hd => 
    have e : g' ≠ 8 := by have := hd.1; omega
    simp [zcell, upG_ne _ _ e]
  | 10, hd => 
    simp [zcell, upG]
  | 11, hd => 
    simp [zcell, upG]
  | 12, hd => 
    simp [zcell, upG]
  | 13, hd => 
    simp [zcell, upG]
  | 14, hd => 
    simp [zcell, upG]
  | 15, hd => 
    simp [zcell, upG]
  | 16, hd => 
    obtain ⟨-, h1, h2⟩ : 16 < 17 ∧ g' = 0 ∧ i' = 0 := hd; subst h1; subst h2
    simp [zcell, upG_self, up2, upd, funext_iff]
  | 17, hd => 
    obtain ⟨h1, h2⟩ : g' = 0 ∧ i' < 6 := hd; subst h1
    have h3 : i' ≠ 8 := by omega
    simp [zcell, upG_self, up2, h3, funext_iff]
  | n + 18, hd => exact absurd (show n + 18 < 17 ∧ g' = 0 ∧ i' = 0 from hd).1 (by omega)
theorem zm_16_8 (G : zG) (V : zV3) (x : Int32) : ∀ k' g' i', zdom k' g' i' → zcell G (upG V 8 (up2 (V 8) 8 0 x)) k' g' i' = if k' = 16 ∧ g' = 0 ∧ i' = 0 then .inr (8, [.ref (gA G 17 0 0), .ref (gA G 17 0 1), .ref (gA G 17 0 2), .ref (gA G 17 0 3), .int (V 8 6 0), .ref (gA G 17 0 4), .int (V 8 7 0), .int x, .int (V 8 9 0), .int (V 8 10 0), .int (V 8 11 0), .ref (gA G 17 0 5)]) else zcell G V k' g' i' := by
  have h9 := zn_16_8 G V (V 8)  x
  rwa [upG_id] at h9
theorem zn_16_9 (G : zG) (V : zV3) (h : zV2) (x : Int32) : ∀ k' g' i', zdom k' g' i' → zcell G (upG V 8 (up2 h 9 0 x)) k' g' i' = if k' = 16 ∧ g' = 0 ∧ i' = 0 then .inr (8, [.ref (gA G 17 0 0), .ref (gA G 17 0 1), .ref (gA G 17 0 2), .ref (gA G 17 0 3), .int (h 6 0), .ref (gA G 17 0 4), .int (h 7 0), .int (h 8 0), .int x, .int (h 10 0), .int (h 11 0), .ref (gA G 17 0 5)]) else zcell G (upG V 8 h) k' g' i' := by
  intro k' g' i' hd
  match k', hd with
  | 0, hd => 
    have e : g' ≠ 8 := by have := hd.1; omega
    simp [zcell, upG_ne _ _ e]
  | 1, hd => 
    have e : g' ≠ 8 := by have := hd.1; omega
    simp [zcell, upG_ne _ _ e]
  | 2, hd => 
    have e : g' ≠ 8 := by have := hd.1; omega
    simp [zcell, upG_ne _ _ e]
  | 3, hd => 
    have e : g' ≠ 8 := by have := hd.1; omega
    simp [zcell, upG_ne _ _ e]
  | 4, hd => 
    have e : g' ≠ 8 := by have := hd.1; omega
    simp [zcell, upG_ne _ _ e]
  | 5, hd => 
    have e : g' ≠ 8 := by have := hd.1; omega
    simp [zcell, upG_ne _ _ e]
  | 6, hd => 
    have e : g' ≠ 8 := by have := hd.1; omega
    simp [zcell, upG_ne _ _ e]
  | 7, hd => 
    have e : g' ≠ 8 := by have := hd.1; omega
    simp [zcell, upG_ne _ _ e]
  | 8, hd => 
    have e : g' ≠ 8 := by have := hd.1; omega
    simp [zcell, upG_ne _ _ e]
  | 9, hd => 
    have e : g' ≠ 8 := by have := hd.1; omega
    simp [zcell, upG_ne _ _ e]
  | 10, hd => 
    simp [zcell, upG]
  | 11, hd => 
    simp [zcell, upG]
  | 12, hd => 
    simp [zcell, upG]
  | 13, hd => 
    simp [zcell, upG]
  | 14, hd => 
    simp [zcell, upG]
  | 15, hd => 
    simp [zcell, upG]
  | 16, hd => 
    obtain ⟨-, h1, h2⟩ : 16 < 17 ∧ g' = 0 ∧ i' = 0 := hd; subst h1; subst h2
    simp [zcell, upG_self, up2, upd, funext_iff]
  | 17, hd => 
    obtain ⟨h1, h2⟩ : g' = 0 ∧ i' < 6 := hd; subst h1
    have h3 : i' ≠ 9 := by omega
    simp [zcell, upG_self, up2, h3, funext_iff]
  | n + 18, hd => exact absurd (show n + 18 < 17 ∧ g' = 0 ∧ i' = 0 from hd).1 (by omega)
theorem zm_16_9 (G : zG) (V : zV3) (x : Int32) : ∀ k' g' i', zdom k' g' i' → zcell G (upG V 8 (up2 (V 8) 9 0 x)) k' g' i' = if k' = 16 ∧ g' = 0 ∧ i' = 0 then .inr (8, [.ref (gA G 17 0 0), .ref (gA G 17 0 1), .ref (gA G 17 0 2), .ref (gA G 17 0 3), .int (V 8 6 0), .ref (gA G 17 0 4), .int (V 8 7 0), .int (V 8 8 0), .int x, .int (V 8 10 0), .int (V 8 11 0), .ref (gA G 17 0 5)]) else zcell G V k' g' i' := by
  have h9 := zn_16_9 G V (V 8)  x
  rwa [upG_id] at h9
theorem zn_16_10 (G : zG) (V : zV3) (h : zV2) (x : Int32) : ∀ k' g' i', zdom k' g' i' → zcell G (upG V 8 (up2 h 10 0 x)) k' g' i' = if k' = 16 ∧ g' = 0 ∧ i' = 0 then .inr (8, [.ref (gA G 17 0 0), .ref (gA G 17 0 1), .ref (gA G 17 0 2), .ref (gA G 17 0 3), .int (h 6 0), .ref (gA G 17 0 4), .int (h 7 0), .int (h 8 0), .int (h 9 0), .int x, .int (h 11 0), .ref (gA G 17 0 5)]) else zcell G (upG V 8 h) k' g' i' := by
  intro k' g' i' hd
  match k', hd with
  | 0, hd => 
    have e : g' ≠ 8 := by have := hd.1; omega
    simp [zcell, upG_ne _ _ e]
  | 1, hd => 
    have e : g' ≠ 8 := by have := hd.1; omega
    simp [zcell, upG_ne _ _ e]
  | 2, hd => 
    have e : g' ≠ 8 := by have := hd.1; omega
    simp [zcell, upG_ne _ _ e]
  | 3, hd => 
    have e : g' ≠ 8 := by have := hd.1; omega
    simp [zcell, upG_ne _ _ e]
  | 4, hd => 
    have e : g' ≠ 8 := by have := hd.1; omega
    simp [zcell, upG_ne _ _ e]
  | 5, hd => 
    have e : g' ≠ 8 := by have := hd.1; omega
    simp [zcell, upG_ne _ _ e]
  | 6, hd => 
    have e : g' ≠ 8 := by have := hd.1; omega
    simp [zcell, upG_ne _ _ e]
  | 7, hd => 
    have e : g' ≠ 8 := by have := hd.1; omega
    simp [zcell, upG_ne _ _ e]
  | 8, hd => 
    have e : g' ≠ 8 := by have := hd.1; omega
    simp [zcell, upG_ne _ _ e]
  | 9, hd => 
    have e : g' ≠ 8 := by have := hd.1; omega
    simp [zcell, upG_ne _ _ e]
  | 10, hd => 
    simp [zcell, upG]
  | 11, hd => 
    simp [zcell, upG]
  | 12, hd => 
    simp [zcell, upG]
  | 13, hd => 
    simp [zcell, upG]
  | 14, hd => 
    simp [zcell, upG]
  | 15, hd => 
    simp [zcell, upG]
  | 16, hd => 
    obtain ⟨-, h1, h2⟩ : 16 < 17 ∧ g' = 0 ∧ i' = 0 := hd; subst h1; subst h2
    simp [zcell, upG_self, up2, upd, funext_iff]
  | 17, hd => 
    obtain ⟨h1, h2⟩ : g' = 0 ∧ i' < 6 := hd; subst h1
    have h3 : i' ≠ 10 := by omega
    simp [zcell, upG_self, up2, h3, funext_iff]
  | n + 18, hd => exact absurd (show n + 18 < 17 ∧ g' = 0 ∧ i' = 0 from hd).1 (by omega)
theorem zm_16_10 (G : zG) (V : zV3) (x : Int32) : ∀ k' g' i', zdom k' g' i' → zcell G (upG V 8 (up2 (V 8) 10 0 x)) k' g' i' = if k' = 16 ∧ g' = 0 ∧ i' = 0 then .inr (8, [.ref (gA G 17 0 0), .ref (gA G 17 0 1), .ref (gA G 17 0 2), .ref (gA G 17 0 3), .int (V 8 6 0), .ref (gA G 17 0 4), .int (V 8 7 0), .int (V 8 8 0), .int (V 8 9 0), .int x, .int (V 8 11 0), .ref (gA G 17 0 5)]) else zcell G V k' g' i' := by
  have h9 := zn_16_10 G V (V 8)  x
  rwa [upG_id] at h9
theorem zn_16_11 (G : zG) (V : zV3) (h : zV2) (x : Int32) : ∀ k' g' i', zdom k' g' i' → zcell G (upG V 8 (up2 h 11 0 x)) k' g' i' = if k' = 16 ∧ g' = 0 ∧ i' = 0 then .inr (8, [.ref (gA G 17 0 0), .ref (gA G 17 0 1), .ref (gA G 17 0 2), .ref (gA G 17 0 3), .int (h 6 0), .ref (gA G 17 0 4), .int (h 7 0), .int (h 8 0), .int (h 9 0), .int (h 10 0), .int x, .ref (gA G 17 0 5)]) else zcell G (upG V 8 h) k' g' i' := by
  intro k' g' i' hd
  match k', hd with
  | 0, hd => 
    have e : g' ≠ 8 := by have := hd.1; omega
    simp [zcell, upG_ne _ _ e]
  | 1, hd => 
    have e : g' ≠ 8 := by have := hd.1; omega
    simp [zcell, upG_ne _ _ e]
  | 2, hd => 
    have e : g' ≠ 8 := by have := hd.1; omega
    simp [zcell, upG_ne _ _ e]
  | 3, hd => 
    have e : g' ≠ 8 := by have := hd.1; omega
    simp [zcell, upG_ne _ _ e]
  | 4, hd => 
    have e : g' ≠ 8 := by have := hd.1; omega
    simp [zcell, upG_ne _ _ e]
  | 5, hd => 
    have e : g' ≠ 8 := by have := hd.1; omega
    simp [zcell, upG_ne _ _ e]
  | 6, hd => 
    have e : g' ≠ 8 := by have := hd.1; omega
    simp [zcell, upG_ne _ _ e]
  | 7, hd => 
    have e : g' ≠ 8 := by have := hd.1; omega
    simp [zcell, upG_ne _ _ e]
  | 8, hd => 
    have e : g' ≠ 8 := by have := hd.1; omega
    simp [zcell, upG_ne _ _ e]
  | 9, hd => 
    have e : g' ≠ 8 := by have := hd.1; omega
    simp [zcell, upG_ne _ _ e]
  | 10, hd => 
    simp [zcell, upG]
  | 11, hd => 
    simp [zcell, upG]
  | 12, hd => 
    simp [zcell, upG]
  | 13, hd => 
    simp [zcell, upG]
  | 14, hd => 
    simp [zcell, upG]
  | 15, hd => 
    simp [zcell, upG]
  | 16, hd => 
    obtain ⟨-, h1, h2⟩ : 16 < 17 ∧ g' = 0 ∧ i' = 0 := hd; subst h1; subst h2
    simp [zcell, upG_self, up2, upd, funext_iff]
  | 17, hd => 
    obtain ⟨h1, h2⟩ : g' = 0 ∧ i' < 6 := hd; subst h1
    have h3 : i' ≠ 11 := by omega
    simp [zcell, upG_self, up2, h3, funext_iff]
  | n + 18, hd => exact absurd (show n + 18 < 17 ∧ g' = 0 ∧ i' = 0 from hd).1 (by omega)
theorem zm_16_11 (G : zG) (V : zV3) (x : Int32) : ∀ k' g' i', zdom k' g' i' → zcell G (upG V 8 (up2 (V 8) 11 0 x)) k' g' i' = if k' = 16 ∧ g' = 0 ∧ i' = 0 then .inr (8, [.ref (gA G 17 0 0), .ref (gA G 17 0 1), .ref (gA G 17 0 2), .ref (gA G 17 0 3), .int (V 8 6 0), .ref (gA G 17 0 4), .int (V 8 7 0), .int (V 8 8 0), .int (V 8 9 0), .int (V 8 10 0), .int x, .ref (gA G 17 0 5)]) else zcell G V k' g' i' := by
  have h9 := zn_16_11 G V (V 8)  x
  rwa [upG_id] at h9
theorem zn_17_0 (G : zG) (V : zV3) (h : zV2) (j : Nat) (x : Int32) : ∀ k' g' i', zdom k' g' i' → zcell G (upG V 8 (up2 h 0 j x)) k' g' i' = if k' = 17 ∧ g' = 0 ∧ i' = 0 then .inl (gC G 0, 193, .inl (upd (h 0) j x)) else zcell G (upG V 8 h) k' g' i' := by
  intro k' g' i' hd
  match k', hd with
  | 0, hd => 
    have e : g' ≠ 8 := by have := hd.1; omega
    simp [zcell, upG_ne _ _ e]
  | 1, hd => 
    have e : g' ≠ 8 := by have := hd.1; omega
    simp [zcell, upG_ne _ _ e]
  | 2, hd => 
    have e : g' ≠ 8 := by have := hd.1; omega
    simp [zcell, upG_ne _ _ e]
  | 3, hd => 
    have e : g' ≠ 8 := by have := hd.1; omega
    simp [zcell, upG_ne _ _ e]
  | 4, hd => 
    have e : g' ≠ 8 := by have := hd.1; omega
    simp [zcell, upG_ne _ _ e]
  | 5, hd => 
    have e : g' ≠ 8 := by have := hd.1; omega
    simp [zcell, upG_ne _ _ e]
  | 6, hd => 
    have e : g' ≠ 8 := by have := hd.1; omega
    simp [zcell, upG_ne _ _ e]
  | 7, hd => 
    have e : g' ≠ 8 := by have := hd.1; omega
    simp [zcell, upG_ne _ _ e]
  | 8, hd => 
    have e : g' ≠ 8 := by have := hd.1; omega
    simp [zcell, upG_ne _ _ e]
  | 9, hd => 
    have e : g' ≠ 8 := by have := hd.1; omega
    simp [zcell, upG_ne _ _ e]
  | 10, hd => 
    simp [zcell, upG]
  | 11, hd => 
    simp [zcell, upG]
  | 12, hd => 
    simp [zcell, upG]
  | 13, hd => 
    simp [zcell, upG]
  | 14, hd => 
    simp [zcell, upG]
  | 15, hd => 
    simp [zcell, upG]
  | 16, hd => 
    simp [zcell, upG_self, up2, funext_iff]
  | 17, hd => 
    obtain ⟨h1, h2⟩ : g' = 0 ∧ i' < 6 := hd; subst h1
    by_cases e2 : i' = 0
    · subst e2; simp [zcell, upG_self, up2, upd, zlen, funext_iff]
    · simp [zcell, upG_self, up2, e2, funext_iff]
  | n + 18, hd => exact absurd (show n + 18 < 17 ∧ g' = 0 ∧ i' = 0 from hd).1 (by omega)
theorem zm_17_0 (G : zG) (V : zV3) (j : Nat) (x : Int32) : ∀ k' g' i', zdom k' g' i' → zcell G (upG V 8 (up2 (V 8) 0 j x)) k' g' i' = if k' = 17 ∧ g' = 0 ∧ i' = 0 then .inl (gC G 0, 193, .inl (upd (V 8 0) j x)) else zcell G V k' g' i' := by
  have h9 := zn_17_0 G V (V 8) j x
  rwa [upG_id] at h9
theorem zn_17_1 (G : zG) (V : zV3) (h : zV2) (j : Nat) (x : Int32) : ∀ k' g' i', zdom k' g' i' → zcell G (upG V 8 (up2 h 1 j x)) k' g' i' = if k' = 17 ∧ g' = 0 ∧ i' = 1 then .inl (gC G 0, 193, .inl (upd (h 1) j x)) else zcell G (upG V 8 h) k' g' i' := by
  intro k' g' i' hd
  match k', hd with
  | 0, hd => 
    have e : g' ≠ 8 := by have := hd.1; omega
    simp [zcell, upG_ne _ _ e]
  | 1, hd => 
    have e : g' ≠ 8 := by have := hd.1; omega
    simp [zcell, upG_ne _ _ e]
  | 2, hd => 
    have e : g' ≠ 8 := by have := hd.1; omega
    simp [zcell, upG_ne _ _ e]
  | 3, hd => 
    have e : g' ≠ 8 := by have := hd.1; omega
    simp [zcell, upG_ne _ _ e]
  | 4, hd => 
    have e : g' ≠ 8 := by have := hd.1; omega
    simp [zcell, upG_ne _ _ e]
  | 5, hd => 
    have e : g' ≠ 8 := by have := hd.1; omega
    simp [zcell, upG_ne _ _ e]
  | 6, hd => 
    have e : g' ≠ 8 := by have := hd.1; omega
    simp [zcell, upG_ne _ _ e]
  | 7, hd => 
    have e : g' ≠ 8 := by have := hd.1; omega
    simp [zcell, upG_ne _ _ e]
  | 8, hd => 
    have e : g' ≠ 8 := by have := hd.1; omega
    simp [zcell, upG_ne _ _ e]
  | 9, hd => 
    have e : g' ≠ 8 := by have := hd.1; omega
    simp [zcell, upG_ne _ _ e]
  | 10, hd => 
    simp [zcell, upG]
  | 11, hd => 
    simp [zcell, upG]
  | 12, hd => 
    simp [zcell, upG]
  | 13, hd => 
    simp [zcell, upG]
  | 14, hd => 
    simp [zcell, upG]
  | 15, hd => 
    simp [zcell, upG]
  | 16, hd => 
    simp [zcell, upG_self, up2, funext_iff]
  | 17, hd => 
    obtain ⟨h1, h2⟩ : g' = 0 ∧ i' < 6 := hd; subst h1
    by_cases e2 : i' = 1
    · subst e2; simp [zcell, upG_self, up2, upd, zlen, funext_iff]
    · simp [zcell, upG_self, up2, e2, funext_iff]
  | n + 18, hd => exact absurd (show n + 18 < 17 ∧ g' = 0 ∧ i' = 0 from hd).1 (by omega)
theorem zm_17_1 (G : zG) (V : zV3) (j : Nat) (x : Int32) : ∀ k' g' i', zdom k' g' i' → zcell G (upG V 8 (up2 (V 8) 1 j x)) k' g' i' = if k' = 17 ∧ g' = 0 ∧ i' = 1 then .inl (gC G 0, 193, .inl (upd (V 8 1) j x)) else zcell G V k' g' i' := by
  have h9 := zn_17_1 G V (V 8) j x
  rwa [upG_id] at h9
theorem zn_17_2 (G : zG) (V : zV3) (h : zV2) (j : Nat) (x : Int32) : ∀ k' g' i', zdom k' g' i' → zcell G (upG V 8 (up2 h 2 j x)) k' g' i' = if k' = 17 ∧ g' = 0 ∧ i' = 2 then .inl (gC G 0, 193, .inl (upd (h 2) j x)) else zcell G (upG V 8 h) k' g' i' := by
  intro k' g' i' hd
  match k', hd with
  | 0, hd => 
    have e : g' ≠ 8 := by have := hd.1; omega
    simp [zcell, upG_ne _ _ e]
  | 1, hd => 
    have e : g' ≠ 8 := by have := hd.1; omega
    simp [zcell, upG_ne _ _ e]
  | 2, hd => 
    have e : g' ≠ 8 := by have := hd.1; omega
    simp [zcell, upG_ne _ _ e]
  | 3, hd => 
    have e : g' ≠ 8 := by have := hd.1; omega
    simp [zcell, upG_ne _ _ e]
  | 4, hd => 
    have e : g' ≠ 8 := by have := hd.1; omega
    simp [zcell, upG_ne _ _ e]
  | 5, hd => 
    have e : g' ≠ 8 := by have := hd.1; omega
    simp [zcell, upG_ne _ _ e]
  | 6, hd => 
    have e : g' ≠ 8 := by have := hd.1; omega
    simp [zcell, upG_ne _ _ e]
  | 7, hd => 
    have e : g' ≠ 8 := by have := hd.1; omega
    simp [zcell, upG_ne _ _ e]
  | 8, hd => 
    have e : g' ≠ 8 := by have := hd.1; omega
    simp [zcell, upG_ne _ _ e]
  | 9, hd => 
    have e : g' ≠ 8 := by have := hd.1; omega
    simp [zcell, upG_ne _ _ e]
  | 10, hd => 
    simp [zcell, upG]
  | 11, hd => 
    simp [zcell, upG]
  | 12, hd => 
    simp [zcell, upG]
  | 13, hd => 
    simp [zcell, upG]
  | 14, hd => 
    simp [zcell, upG]
  | 15, hd => 
    simp [zcell, upG]
  | 16, hd => 
    simp [zcell, upG_self, up2, funext_iff]
  | 17, hd => 
    obtain ⟨h1, h2⟩ : g' = 0 ∧ i' < 6 := hd; subst h1
    by_cases e2 : i' = 2
    · subst e2; simp [zcell, upG_self, up2, upd, zlen, funext_iff]
    · simp [zcell, upG_self, up2, e2, funext_iff]
  | n + 18, hd => exact absurd (show n + 18 < 17 ∧ g' = 0 ∧ i' = 0 from hd).1 (by omega)
theorem zm_17_2 (G : zG) (V : zV3) (j : Nat) (x : Int32) : ∀ k' g' i', zdom k' g' i' → zcell G (upG V 8 (up2 (V 8) 2 j x)) k' g' i' = if k' = 17 ∧ g' = 0 ∧ i' = 2 then .inl (gC G 0, 193, .inl (upd (V 8 2) j x)) else zcell G V k' g' i' := by
  have h9 := zn_17_2 G V (V 8) j x
  rwa [upG_id] at h9
theorem zn_17_3 (G : zG) (V : zV3) (h : zV2) (j : Nat) (x : Int32) : ∀ k' g' i', zdom k' g' i' → zcell G (upG V 8 (up2 h 3 j x)) k' g' i' = if k' = 17 ∧ g' = 0 ∧ i' = 3 then .inl (gC G 0, 772, .inl (upd (h 3) j x)) else zcell G (upG V 8 h) k' g' i' := by
  intro k' g' i' hd
  match k', hd with
  | 0, hd => 
    have e : g' ≠ 8 := by have := hd.1; omega
    simp [zcell, upG_ne _ _ e]
  | 1, hd => 
    have e : g' ≠ 8 := by have := hd.1; omega
    simp [zcell, upG_ne _ _ e]
  | 2, hd => 
    have e : g' ≠ 8 := by have := hd.1; omega
    simp [zcell, upG_ne _ _ e]
  | 3, hd => 
    have e : g' ≠ 8 := by have := hd.1; omega
    simp [zcell, upG_ne _ _ e]
  | 4, hd => 
    have e : g' ≠ 8 := by have := hd.1; omega
    simp [zcell, upG_ne _ _ e]
  | 5, hd => 
    have e : g' ≠ 8 := by have := hd.1; omega
    simp [zcell, upG_ne _ _ e]
  | 6, hd => 
    have e : g' ≠ 8 := by have := hd.1; omega
    simp [zcell, upG_ne _ _ e]
  | 7, hd => 
    have e : g' ≠ 8 := by have := hd.1; omega
    simp [zcell, upG_ne _ _ e]
  | 8, hd => 
    have e : g' ≠ 8 := by have := hd.1; omega
    simp [zcell, upG_ne _ _ e]
  | 9, hd => 
    have e : g' ≠ 8 := by have := hd.1; omega
    simp [zcell, upG_ne _ _ e]
  | 10, hd => 
    simp [zcell, upG]
  | 11, hd => 
    simp [zcell, upG]
  | 12, hd => 
    simp [zcell, upG]
  | 13, hd => 
    simp [zcell, upG]
  | 14, hd => 
    simp [zcell, upG]
  | 15, hd => 
    simp [zcell, upG]
  | 16, hd => 
    simp [zcell, upG_self, up2, funext_iff]
  | 17, hd => 
    obtain ⟨h1, h2⟩ : g' = 0 ∧ i' < 6 := hd; subst h1
    by_cases e2 : i' = 3
    · subst e2; simp [zcell, upG_self, up2, upd, zlen, funext_iff]
    · simp [zcell, upG_self, up2, e2, funext_iff]
  | n + 18, hd => exact absurd (show n + 18 < 17 ∧ g' = 0 ∧ i' = 0 from hd).1 (by omega)
theorem zm_17_3 (G : zG) (V : zV3) (j : Nat) (x : Int32) : ∀ k' g' i', zdom k' g' i' → zcell G (upG V 8 (up2 (V 8) 3 j x)) k' g' i' = if k' = 17 ∧ g' = 0 ∧ i' = 3 then .inl (gC G 0, 772, .inl (upd (V 8 3) j x)) else zcell G V k' g' i' := by
  have h9 := zn_17_3 G V (V 8) j x
  rwa [upG_id] at h9
theorem zn_17_4 (G : zG) (V : zV3) (h : zV2) (j : Nat) (x : Int32) : ∀ k' g' i', zdom k' g' i' → zcell G (upG V 8 (up2 h 4 j x)) k' g' i' = if k' = 17 ∧ g' = 0 ∧ i' = 4 then .inl (gC G 0, 80, .inl (upd (h 4) j x)) else zcell G (upG V 8 h) k' g' i' := by
  intro k' g' i' hd
  match k', hd with
  | 0, hd => 
    have e : g' ≠ 8 := by have := hd.1; omega
    simp [zcell, upG_ne _ _ e]
  | 1, hd => 
    have e : g' ≠ 8 := by have := hd.1; omega
    simp [zcell, upG_ne _ _ e]
  | 2, hd => 
    have e : g' ≠ 8 := by have := hd.1; omega
    simp [zcell, upG_ne _ _ e]
  | 3, hd => 
    have e : g' ≠ 8 := by have := hd.1; omega
    simp [zcell, upG_ne _ _ e]
  | 4, hd => 
    have e : g' ≠ 8 := by have := hd.1; omega
    simp [zcell, upG_ne _ _ e]
  | 5, hd => 
    have e : g' ≠ 8 := by have := hd.1; omega
    simp [zcell, upG_ne _ _ e]
  | 6, hd => 
    have e : g' ≠ 8 := by have := hd.1; omega
    simp [zcell, upG_ne _ _ e]
  | 7, hd => 
    have e : g' ≠ 8 := by have := hd.1; omega
    simp [zcell, upG_ne _ _ e]
  | 8, hd => 
    have e : g' ≠ 8 := by have := hd.1; omega
    simp [zcell, upG_ne _ _ e]
  | 9, hd => 
    have e : g' ≠ 8 := by have := hd.1; omega
    simp [zcell, upG_ne _ _ e]
  | 10, hd => 
    simp [zcell, upG]
  | 11, hd => 
    simp [zcell, upG]
  | 12, hd => 
    simp [zcell, upG]
  | 13, hd => 
    simp [zcell, upG]
  | 14, hd => 
    simp [zcell, upG]
  | 15, hd => 
    simp [zcell, upG]
  | 16, hd => 
    simp [zcell, upG_self, up2, funext_iff]
  | 17, hd => 
    obtain ⟨h1, h2⟩ : g' = 0 ∧ i' < 6 := hd; subst h1
    by_cases e2 : i' = 4
    · subst e2; simp [zcell, upG_self, up2, upd, zlen, funext_iff]
    · simp [zcell, upG_self, up2, e2, funext_iff]
  | n + 18, hd => exact absurd (show n + 18 < 17 ∧ g' = 0 ∧ i' = 0 from hd).1 (by omega)
theorem zm_17_4 (G : zG) (V : zV3) (j : Nat) (x : Int32) : ∀ k' g' i', zdom k' g' i' → zcell G (upG V 8 (up2 (V 8) 4 j x)) k' g' i' = if k' = 17 ∧ g' = 0 ∧ i' = 4 then .inl (gC G 0, 80, .inl (upd (V 8 4) j x)) else zcell G V k' g' i' := by
  have h9 := zn_17_4 G V (V 8) j x
  rwa [upG_id] at h9
theorem zn_17_5 (G : zG) (V : zV3) (h : zV2) (j : Nat) (x : Int32) : ∀ k' g' i', zdom k' g' i' → zcell G (upG V 8 (up2 h 5 j x)) k' g' i' = if k' = 17 ∧ g' = 0 ∧ i' = 5 then .inl (gC G 0, 2, .inl (upd (h 5) j x)) else zcell G (upG V 8 h) k' g' i' := by
  intro k' g' i' hd
  match k', hd with
  | 0, hd => 
    have e : g' ≠ 8 := by have := hd.1; omega
    simp [zcell, upG_ne _ _ e]
  | 1, hd => 
    have e : g' ≠ 8 := by have := hd.1; omega
    simp [zcell, upG_ne _ _ e]
  | 2, hd => 
    have e : g' ≠ 8 := by have := hd.1; omega
    simp [zcell, upG_ne _ _ e]
  | 3, hd => 
    have e : g' ≠ 8 := by have := hd.1; omega
    simp [zcell, upG_ne _ _ e]
  | 4, hd => 
    have e : g' ≠ 8 := by have := hd.1; omega
    simp [zcell, upG_ne _ _ e]
  | 5, hd => 
    have e : g' ≠ 8 := by have := hd.1; omega
    simp [zcell, upG_ne _ _ e]
  | 6, hd => 
    have e : g' ≠ 8 := by have := hd.1; omega
    simp [zcell, upG_ne _ _ e]
  | 7, hd => 
    have e : g' ≠ 8 := by have := hd.1; omega
    simp [zcell, upG_ne _ _ e]
  | 8, hd => 
    have e : g' ≠ 8 := by have := hd.1; omega
    simp [zcell, upG_ne _ _ e]
  | 9, hd => 
    have e : g' ≠ 8 := by have := hd.1; omega
    simp [zcell, upG_ne _ _ e]
  | 10, hd => 
    simp [zcell, upG]
  | 11, hd => 
    simp [zcell, upG]
  | 12, hd => 
    simp [zcell, upG]
  | 13, hd => 
    simp [zcell, upG]
  | 14, hd => 
    simp [zcell, upG]
  | 15, hd => 
    simp [zcell, upG]
  | 16, hd => 
    simp [zcell, upG_self, up2, funext_iff]
  | 17, hd => 
    obtain ⟨h1, h2⟩ : g' = 0 ∧ i' < 6 := hd; subst h1
    by_cases e2 : i' = 5
    · subst e2; simp [zcell, upG_self, up2, upd, zlen, funext_iff]
    · simp [zcell, upG_self, up2, e2, funext_iff]
  | n + 18, hd => exact absurd (show n + 18 < 17 ∧ g' = 0 ∧ i' = 0 from hd).1 (by omega)
theorem zm_17_5 (G : zG) (V : zV3) (j : Nat) (x : Int32) : ∀ k' g' i', zdom k' g' i' → zcell G (upG V 8 (up2 (V 8) 5 j x)) k' g' i' = if k' = 17 ∧ g' = 0 ∧ i' = 5 then .inl (gC G 0, 2, .inl (upd (V 8 5) j x)) else zcell G V k' g' i' := by
  have h9 := zn_17_5 G V (V 8) j x
  rwa [upG_id] at h9
end
section
theorem dX1_init_0 : decode cX1_init 0 = .ok (.aload_n 0, 1) := by decide +kernel
theorem dX1_init_1 : decode cX1_init 1 = .ok (.invokespecial 3, 3) := by decide +kernel
theorem dX1_init_4 : decode cX1_init 4 = .ok (.aload_n 0, 1) := by decide +kernel
theorem dX1_init_5 : decode cX1_init 5 = .ok (.bipush 12, 2) := by decide +kernel
theorem dX1_init_7 : decode cX1_init 7 = .ok (.anewarray 9, 3) := by decide +kernel
theorem dX1_init_10 : decode cX1_init 10 = .ok (.putfield 11, 3) := by decide +kernel
theorem dX1_init_13 : decode cX1_init 13 = .ok (.aload_n 0, 1) := by decide +kernel
theorem dX1_init_14 : decode cX1_init 14 = .ok (.bipush 10, 2) := by decide +kernel
theorem dX1_init_16 : decode cX1_init 16 = .ok (.anewarray 17, 3) := by decide +kernel
theorem dX1_init_19 : decode cX1_init 19 = .ok (.putfield 19, 3) := by decide +kernel
theorem dX1_init_22 : decode cX1_init 22 = .ok (.aload_n 0, 1) := by decide +kernel
theorem dX1_init_23 : decode cX1_init 23 = .ok (.new 23, 3) := by decide +kernel
theorem dX1_init_26 : decode cX1_init 26 = .ok (.dup, 1) := by decide +kernel
theorem dX1_init_27 : decode cX1_init 27 = .ok (.invokespecial 25, 3) := by decide +kernel
theorem dX1_init_30 : decode cX1_init 30 = .ok (.putfield 26, 3) := by decide +kernel
theorem dX1_init_33 : decode cX1_init 33 = .ok (.aload_n 0, 1) := by decide +kernel
theorem dX1_init_34 : decode cX1_init 34 = .ok (.new 23, 3) := by decide +kernel
theorem dX1_init_37 : decode cX1_init 37 = .ok (.dup, 1) := by decide +kernel
theorem dX1_init_38 : decode cX1_init 38 = .ok (.invokespecial 25, 3) := by decide +kernel
theorem dX1_init_41 : decode cX1_init 41 = .ok (.putfield 30, 3) := by decide +kernel
theorem dX1_init_44 : decode cX1_init 44 = .ok (.aload_n 0, 1) := by decide +kernel
theorem dX1_init_45 : decode cX1_init 45 = .ok (.iconst 3, 1) := by decide +kernel
theorem dX1_init_46 : decode cX1_init 46 = .ok (.newarray .int, 2) := by decide +kernel
theorem dX1_init_48 : decode cX1_init 48 = .ok (.putfield 33, 3) := by decide +kernel
theorem dX1_init_51 : decode cX1_init 51 = .ok (.aload_n 0, 1) := by decide +kernel
theorem dX1_init_52 : decode cX1_init 52 = .ok (.iconst 3, 1) := by decide +kernel
theorem dX1_init_53 : decode cX1_init 53 = .ok (.newarray .int, 2) := by decide +kernel
theorem dX1_init_55 : decode cX1_init 55 = .ok (.putfield 37, 3) := by decide +kernel
theorem dX1_init_58 : decode cX1_init 58 = .ok (.iconst 0, 1) := by decide +kernel
theorem dX1_init_59 : decode cX1_init 59 = .ok (.istore_n 1, 1) := by decide +kernel
theorem dX1_init_60 : decode cX1_init 60 = .ok (.iload_n 1, 1) := by decide +kernel
theorem dX1_init_61 : decode cX1_init 61 = .ok (.bipush 12, 2) := by decide +kernel
theorem dX1_init_63 : decode cX1_init 63 = .ok (.if_icmp .ge 23, 3) := by decide +kernel
theorem dX1_init_66 : decode cX1_init 66 = .ok (.aload_n 0, 1) := by decide +kernel
theorem dX1_init_67 : decode cX1_init 67 = .ok (.getfield 11, 3) := by decide +kernel
theorem dX1_init_70 : decode cX1_init 70 = .ok (.iload_n 1, 1) := by decide +kernel
theorem dX1_init_71 : decode cX1_init 71 = .ok (.new 9, 3) := by decide +kernel
theorem dX1_init_74 : decode cX1_init 74 = .ok (.dup, 1) := by decide +kernel
theorem dX1_init_75 : decode cX1_init 75 = .ok (.iload_n 1, 1) := by decide +kernel
theorem dX1_init_76 : decode cX1_init 76 = .ok (.invokespecial 40, 3) := by decide +kernel
theorem dX1_init_79 : decode cX1_init 79 = .ok (.aastore, 1) := by decide +kernel
theorem dX1_init_80 : decode cX1_init 80 = .ok (.iinc 1 1, 3) := by decide +kernel
theorem dX1_init_83 : decode cX1_init 83 = .ok (.goto (-23), 3) := by decide +kernel
theorem dX1_init_86 : decode cX1_init 86 = .ok (.iconst 0, 1) := by decide +kernel
theorem dX1_init_87 : decode cX1_init 87 = .ok (.istore_n 1, 1) := by decide +kernel
theorem dX1_init_88 : decode cX1_init 88 = .ok (.iload_n 1, 1) := by decide +kernel
theorem dX1_init_89 : decode cX1_init 89 = .ok (.bipush 10, 2) := by decide +kernel
theorem dX1_init_91 : decode cX1_init 91 = .ok (.if_icmp .ge 23, 3) := by decide +kernel
theorem dX1_init_94 : decode cX1_init 94 = .ok (.aload_n 0, 1) := by decide +kernel
theorem dX1_init_95 : decode cX1_init 95 = .ok (.getfield 19, 3) := by decide +kernel
theorem dX1_init_98 : decode cX1_init 98 = .ok (.iload_n 1, 1) := by decide +kernel
theorem dX1_init_99 : decode cX1_init 99 = .ok (.new 17, 3) := by decide +kernel
theorem dX1_init_102 : decode cX1_init 102 = .ok (.dup, 1) := by decide +kernel
theorem dX1_init_103 : decode cX1_init 103 = .ok (.iload_n 1, 1) := by decide +kernel
theorem dX1_init_104 : decode cX1_init 104 = .ok (.invokespecial 43, 3) := by decide +kernel
theorem dX1_init_107 : decode cX1_init 107 = .ok (.aastore, 1) := by decide +kernel
theorem dX1_init_108 : decode cX1_init 108 = .ok (.iinc 1 1, 3) := by decide +kernel
theorem dX1_init_111 : decode cX1_init 111 = .ok (.goto (-23), 3) := by decide +kernel
theorem dX1_init_114 : decode cX1_init 114 = .ok (.aload_n 0, 1) := by decide +kernel
theorem dX1_init_115 : decode cX1_init 115 = .ok (.getfield 33, 3) := by decide +kernel
theorem dX1_init_118 : decode cX1_init 118 = .ok (.iconst 0, 1) := by decide +kernel
theorem dX1_init_119 : decode cX1_init 119 = .ok (.bipush 10, 2) := by decide +kernel
theorem dX1_init_121 : decode cX1_init 121 = .ok (.iastore, 1) := by decide +kernel
theorem dX1_init_122 : decode cX1_init 122 = .ok (.aload_n 0, 1) := by decide +kernel
theorem dX1_init_123 : decode cX1_init 123 = .ok (.getfield 33, 3) := by decide +kernel
theorem dX1_init_126 : decode cX1_init 126 = .ok (.iconst 1, 1) := by decide +kernel
theorem dX1_init_127 : decode cX1_init 127 = .ok (.iconst 2, 1) := by decide +kernel
theorem dX1_init_128 : decode cX1_init 128 = .ok (.iastore, 1) := by decide +kernel
theorem dX1_init_129 : decode cX1_init 129 = .ok (.aload_n 0, 1) := by decide +kernel
theorem dX1_init_130 : decode cX1_init 130 = .ok (.getfield 33, 3) := by decide +kernel
theorem dX1_init_133 : decode cX1_init 133 = .ok (.iconst 2, 1) := by decide +kernel
theorem dX1_init_134 : decode cX1_init 134 = .ok (.bipush 15, 2) := by decide +kernel
theorem dX1_init_136 : decode cX1_init 136 = .ok (.iastore, 1) := by decide +kernel
theorem dX1_init_137 : decode cX1_init 137 = .ok (.return_, 1) := by decide +kernel
theorem dX1_copyFrom_0 : decode cX1_copyFrom 0 = .ok (.iconst 0, 1) := by decide +kernel
theorem dX1_copyFrom_1 : decode cX1_copyFrom 1 = .ok (.istore_n 2, 1) := by decide +kernel
theorem dX1_copyFrom_2 : decode cX1_copyFrom 2 = .ok (.iload_n 2, 1) := by decide +kernel
theorem dX1_copyFrom_3 : decode cX1_copyFrom 3 = .ok (.bipush 12, 2) := by decide +kernel
theorem dX1_copyFrom_5 : decode cX1_copyFrom 5 = .ok (.if_icmp .ge 24, 3) := by decide +kernel
theorem dX1_copyFrom_8 : decode cX1_copyFrom 8 = .ok (.aload_n 0, 1) := by decide +kernel
theorem dX1_copyFrom_9 : decode cX1_copyFrom 9 = .ok (.getfield 11, 3) := by decide +kernel
theorem dX1_copyFrom_12 : decode cX1_copyFrom 12 = .ok (.iload_n 2, 1) := by decide +kernel
theorem dX1_copyFrom_13 : decode cX1_copyFrom 13 = .ok (.aaload, 1) := by decide +kernel
theorem dX1_copyFrom_14 : decode cX1_copyFrom 14 = .ok (.aload_n 1, 1) := by decide +kernel
theorem dX1_copyFrom_15 : decode cX1_copyFrom 15 = .ok (.getfield 11, 3) := by decide +kernel
theorem dX1_copyFrom_18 : decode cX1_copyFrom 18 = .ok (.iload_n 2, 1) := by decide +kernel
theorem dX1_copyFrom_19 : decode cX1_copyFrom 19 = .ok (.aaload, 1) := by decide +kernel
theorem dX1_copyFrom_20 : decode cX1_copyFrom 20 = .ok (.invokevirtual 44, 3) := by decide +kernel
theorem dX1_copyFrom_23 : decode cX1_copyFrom 23 = .ok (.iinc 2 1, 3) := by decide +kernel
theorem dX1_copyFrom_26 : decode cX1_copyFrom 26 = .ok (.goto (-24), 3) := by decide +kernel
theorem dX1_copyFrom_29 : decode cX1_copyFrom 29 = .ok (.iconst 0, 1) := by decide +kernel
theorem dX1_copyFrom_30 : decode cX1_copyFrom 30 = .ok (.istore_n 2, 1) := by decide +kernel
theorem dX1_copyFrom_31 : decode cX1_copyFrom 31 = .ok (.iload_n 2, 1) := by decide +kernel
theorem dX1_copyFrom_32 : decode cX1_copyFrom 32 = .ok (.bipush 10, 2) := by decide +kernel
theorem dX1_copyFrom_34 : decode cX1_copyFrom 34 = .ok (.if_icmp .ge 24, 3) := by decide +kernel
theorem dX1_copyFrom_37 : decode cX1_copyFrom 37 = .ok (.aload_n 0, 1) := by decide +kernel
theorem dX1_copyFrom_38 : decode cX1_copyFrom 38 = .ok (.getfield 19, 3) := by decide +kernel
theorem dX1_copyFrom_41 : decode cX1_copyFrom 41 = .ok (.iload_n 2, 1) := by decide +kernel
theorem dX1_copyFrom_42 : decode cX1_copyFrom 42 = .ok (.aaload, 1) := by decide +kernel
theorem dX1_copyFrom_43 : decode cX1_copyFrom 43 = .ok (.aload_n 1, 1) := by decide +kernel
theorem dX1_copyFrom_44 : decode cX1_copyFrom 44 = .ok (.getfield 19, 3) := by decide +kernel
theorem dX1_copyFrom_47 : decode cX1_copyFrom 47 = .ok (.iload_n 2, 1) := by decide +kernel
theorem dX1_copyFrom_48 : decode cX1_copyFrom 48 = .ok (.aaload, 1) := by decide +kernel
theorem dX1_copyFrom_49 : decode cX1_copyFrom 49 = .ok (.invokevirtual 48, 3) := by decide +kernel
theorem dX1_copyFrom_52 : decode cX1_copyFrom 52 = .ok (.iinc 2 1, 3) := by decide +kernel
theorem dX1_copyFrom_55 : decode cX1_copyFrom 55 = .ok (.goto (-24), 3) := by decide +kernel
theorem dX1_copyFrom_58 : decode cX1_copyFrom 58 = .ok (.iconst 0, 1) := by decide +kernel
theorem dX1_copyFrom_59 : decode cX1_copyFrom 59 = .ok (.istore_n 2, 1) := by decide +kernel
theorem dX1_copyFrom_60 : decode cX1_copyFrom 60 = .ok (.iload_n 2, 1) := by decide +kernel
theorem dX1_copyFrom_61 : decode cX1_copyFrom 61 = .ok (.iconst 3, 1) := by decide +kernel
theorem dX1_copyFrom_62 : decode cX1_copyFrom 62 = .ok (.if_icmp .ge 21, 3) := by decide +kernel
theorem dX1_copyFrom_65 : decode cX1_copyFrom 65 = .ok (.aload_n 0, 1) := by decide +kernel
theorem dX1_copyFrom_66 : decode cX1_copyFrom 66 = .ok (.getfield 33, 3) := by decide +kernel
theorem dX1_copyFrom_69 : decode cX1_copyFrom 69 = .ok (.iload_n 2, 1) := by decide +kernel
theorem dX1_copyFrom_70 : decode cX1_copyFrom 70 = .ok (.aload_n 1, 1) := by decide +kernel
theorem dX1_copyFrom_71 : decode cX1_copyFrom 71 = .ok (.getfield 33, 3) := by decide +kernel
theorem dX1_copyFrom_74 : decode cX1_copyFrom 74 = .ok (.iload_n 2, 1) := by decide +kernel
theorem dX1_copyFrom_75 : decode cX1_copyFrom 75 = .ok (.iaload, 1) := by decide +kernel
theorem dX1_copyFrom_76 : decode cX1_copyFrom 76 = .ok (.iastore, 1) := by decide +kernel
theorem dX1_copyFrom_77 : decode cX1_copyFrom 77 = .ok (.iinc 2 1, 3) := by decide +kernel
theorem dX1_copyFrom_80 : decode cX1_copyFrom 80 = .ok (.goto (-20), 3) := by decide +kernel
theorem dX1_copyFrom_83 : decode cX1_copyFrom 83 = .ok (.aload_n 0, 1) := by decide +kernel
theorem dX1_copyFrom_84 : decode cX1_copyFrom 84 = .ok (.getfield 26, 3) := by decide +kernel
theorem dX1_copyFrom_87 : decode cX1_copyFrom 87 = .ok (.aload_n 1, 1) := by decide +kernel
theorem dX1_copyFrom_88 : decode cX1_copyFrom 88 = .ok (.getfield 26, 3) := by decide +kernel
theorem dX1_copyFrom_91 : decode cX1_copyFrom 91 = .ok (.invokevirtual 51, 3) := by decide +kernel
theorem dX1_copyFrom_94 : decode cX1_copyFrom 94 = .ok (.aload_n 0, 1) := by decide +kernel
theorem dX1_copyFrom_95 : decode cX1_copyFrom 95 = .ok (.getfield 30, 3) := by decide +kernel
theorem dX1_copyFrom_98 : decode cX1_copyFrom 98 = .ok (.aload_n 1, 1) := by decide +kernel
theorem dX1_copyFrom_99 : decode cX1_copyFrom 99 = .ok (.getfield 30, 3) := by decide +kernel
theorem dX1_copyFrom_102 : decode cX1_copyFrom 102 = .ok (.invokevirtual 51, 3) := by decide +kernel
theorem dX1_copyFrom_105 : decode cX1_copyFrom 105 = .ok (.aload_n 0, 1) := by decide +kernel
theorem dX1_copyFrom_106 : decode cX1_copyFrom 106 = .ok (.aload_n 1, 1) := by decide +kernel
theorem dX1_copyFrom_107 : decode cX1_copyFrom 107 = .ok (.getfield 54, 3) := by decide +kernel
theorem dX1_copyFrom_110 : decode cX1_copyFrom 110 = .ok (.putfield 54, 3) := by decide +kernel
theorem dX1_copyFrom_113 : decode cX1_copyFrom 113 = .ok (.aload_n 0, 1) := by decide +kernel
theorem dX1_copyFrom_114 : decode cX1_copyFrom 114 = .ok (.aload_n 1, 1) := by decide +kernel
theorem dX1_copyFrom_115 : decode cX1_copyFrom 115 = .ok (.getfield 58, 3) := by decide +kernel
theorem dX1_copyFrom_118 : decode cX1_copyFrom 118 = .ok (.putfield 58, 3) := by decide +kernel
theorem dX1_copyFrom_121 : decode cX1_copyFrom 121 = .ok (.aload_n 0, 1) := by decide +kernel
theorem dX1_copyFrom_122 : decode cX1_copyFrom 122 = .ok (.aload_n 1, 1) := by decide +kernel
theorem dX1_copyFrom_123 : decode cX1_copyFrom 123 = .ok (.getfield 61, 3) := by decide +kernel
theorem dX1_copyFrom_126 : decode cX1_copyFrom 126 = .ok (.putfield 61, 3) := by decide +kernel
theorem dX1_copyFrom_129 : decode cX1_copyFrom 129 = .ok (.aload_n 0, 1) := by decide +kernel
theorem dX1_copyFrom_130 : decode cX1_copyFrom 130 = .ok (.aload_n 1, 1) := by decide +kernel
theorem dX1_copyFrom_131 : decode cX1_copyFrom 131 = .ok (.getfield 64, 3) := by decide +kernel
theorem dX1_copyFrom_134 : decode cX1_copyFrom 134 = .ok (.putfield 64, 3) := by decide +kernel
theorem dX1_copyFrom_137 : decode cX1_copyFrom 137 = .ok (.return_, 1) := by decide +kernel
theorem dX1_lockerAt_0 : decode cX1_lockerAt 0 = .ok (.iload_n 1, 1) := by decide +kernel
theorem dX1_lockerAt_1 : decode cX1_lockerAt 1 = .ok (.ifCond .lt 26, 3) := by decide +kernel
theorem dX1_lockerAt_4 : decode cX1_lockerAt 4 = .ok (.iload_n 1, 1) := by decide +kernel
theorem dX1_lockerAt_5 : decode cX1_lockerAt 5 = .ok (.aload_n 0, 1) := by decide +kernel
theorem dX1_lockerAt_6 : decode cX1_lockerAt 6 = .ok (.getfield 54, 3) := by decide +kernel
theorem dX1_lockerAt_9 : decode cX1_lockerAt 9 = .ok (.if_icmp .ge 18, 3) := by decide +kernel
theorem dX1_lockerAt_12 : decode cX1_lockerAt 12 = .ok (.iload_n 1, 1) := by decide +kernel
theorem dX1_lockerAt_13 : decode cX1_lockerAt 13 = .ok (.bipush 12, 2) := by decide +kernel
theorem dX1_lockerAt_15 : decode cX1_lockerAt 15 = .ok (.if_icmp .ge 12, 3) := by decide +kernel
theorem dX1_lockerAt_18 : decode cX1_lockerAt 18 = .ok (.aload_n 0, 1) := by decide +kernel
theorem dX1_lockerAt_19 : decode cX1_lockerAt 19 = .ok (.getfield 11, 3) := by decide +kernel
theorem dX1_lockerAt_22 : decode cX1_lockerAt 22 = .ok (.iload_n 1, 1) := by decide +kernel
theorem dX1_lockerAt_23 : decode cX1_lockerAt 23 = .ok (.aaload, 1) := by decide +kernel
theorem dX1_lockerAt_24 : decode cX1_lockerAt 24 = .ok (.goto 4, 3) := by decide +kernel
theorem dX1_lockerAt_27 : decode cX1_lockerAt 27 = .ok (.aconst_null, 1) := by decide +kernel
theorem dX1_lockerAt_28 : decode cX1_lockerAt 28 = .ok (.areturn, 1) := by decide +kernel
theorem dX1_personAt_0 : decode cX1_personAt 0 = .ok (.iload_n 1, 1) := by decide +kernel
theorem dX1_personAt_1 : decode cX1_personAt 1 = .ok (.ifCond .lt 26, 3) := by decide +kernel
theorem dX1_personAt_4 : decode cX1_personAt 4 = .ok (.iload_n 1, 1) := by decide +kernel
theorem dX1_personAt_5 : decode cX1_personAt 5 = .ok (.aload_n 0, 1) := by decide +kernel
theorem dX1_personAt_6 : decode cX1_personAt 6 = .ok (.getfield 58, 3) := by decide +kernel
theorem dX1_personAt_9 : decode cX1_personAt 9 = .ok (.if_icmp .ge 18, 3) := by decide +kernel
theorem dX1_personAt_12 : decode cX1_personAt 12 = .ok (.iload_n 1, 1) := by decide +kernel
theorem dX1_personAt_13 : decode cX1_personAt 13 = .ok (.bipush 10, 2) := by decide +kernel
theorem dX1_personAt_15 : decode cX1_personAt 15 = .ok (.if_icmp .ge 12, 3) := by decide +kernel
theorem dX1_personAt_18 : decode cX1_personAt 18 = .ok (.aload_n 0, 1) := by decide +kernel
theorem dX1_personAt_19 : decode cX1_personAt 19 = .ok (.getfield 19, 3) := by decide +kernel
theorem dX1_personAt_22 : decode cX1_personAt 22 = .ok (.iload_n 1, 1) := by decide +kernel
theorem dX1_personAt_23 : decode cX1_personAt 23 = .ok (.aaload, 1) := by decide +kernel
theorem dX1_personAt_24 : decode cX1_personAt 24 = .ok (.goto 4, 3) := by decide +kernel
theorem dX1_personAt_27 : decode cX1_personAt 27 = .ok (.aconst_null, 1) := by decide +kernel
theorem dX1_personAt_28 : decode cX1_personAt 28 = .ok (.areturn, 1) := by decide +kernel
theorem dX1_lockerOfPerson_0 : decode cX1_lockerOfPerson 0 = .ok (.aload_n 0, 1) := by decide +kernel
theorem dX1_lockerOfPerson_1 : decode cX1_lockerOfPerson 1 = .ok (.iload_n 1, 1) := by decide +kernel
theorem dX1_lockerOfPerson_2 : decode cX1_lockerOfPerson 2 = .ok (.invokevirtual 67, 3) := by decide +kernel
theorem dX1_lockerOfPerson_5 : decode cX1_lockerOfPerson 5 = .ok (.astore_n 2, 1) := by decide +kernel
theorem dX1_lockerOfPerson_6 : decode cX1_lockerOfPerson 6 = .ok (.aload_n 2, 1) := by decide +kernel
theorem dX1_lockerOfPerson_7 : decode cX1_lockerOfPerson 7 = .ok (.ifnonnull 7, 3) := by decide +kernel
theorem dX1_lockerOfPerson_10 : decode cX1_lockerOfPerson 10 = .ok (.aconst_null, 1) := by decide +kernel
theorem dX1_lockerOfPerson_11 : decode cX1_lockerOfPerson 11 = .ok (.goto 11, 3) := by decide +kernel
theorem dX1_lockerOfPerson_14 : decode cX1_lockerOfPerson 14 = .ok (.aload_n 0, 1) := by decide +kernel
theorem dX1_lockerOfPerson_15 : decode cX1_lockerOfPerson 15 = .ok (.aload_n 2, 1) := by decide +kernel
theorem dX1_lockerOfPerson_16 : decode cX1_lockerOfPerson 16 = .ok (.getfield 71, 3) := by decide +kernel
theorem dX1_lockerOfPerson_19 : decode cX1_lockerOfPerson 19 = .ok (.invokevirtual 74, 3) := by decide +kernel
theorem dX1_lockerOfPerson_22 : decode cX1_lockerOfPerson 22 = .ok (.areturn, 1) := by decide +kernel
theorem dX1_addLocker_0 : decode cX1_addLocker 0 = .ok (.iload_n 1, 1) := by decide +kernel
theorem dX1_addLocker_1 : decode cX1_addLocker 1 = .ok (.ifCond .lt 8, 3) := by decide +kernel
theorem dX1_addLocker_4 : decode cX1_addLocker 4 = .ok (.iload_n 1, 1) := by decide +kernel
theorem dX1_addLocker_5 : decode cX1_addLocker 5 = .ok (.iconst 2, 1) := by decide +kernel
theorem dX1_addLocker_6 : decode cX1_addLocker 6 = .ok (.if_icmp .le 5, 3) := by decide +kernel
theorem dX1_addLocker_9 : decode cX1_addLocker 9 = .ok (.iconst (-1), 1) := by decide +kernel
theorem dX1_addLocker_10 : decode cX1_addLocker 10 = .ok (.ireturn, 1) := by decide +kernel
theorem dX1_addLocker_11 : decode cX1_addLocker 11 = .ok (.aload_n 0, 1) := by decide +kernel
theorem dX1_addLocker_12 : decode cX1_addLocker 12 = .ok (.getfield 54, 3) := by decide +kernel
theorem dX1_addLocker_15 : decode cX1_addLocker 15 = .ok (.bipush 12, 2) := by decide +kernel
theorem dX1_addLocker_17 : decode cX1_addLocker 17 = .ok (.if_icmp .lt 6, 3) := by decide +kernel
theorem dX1_addLocker_20 : decode cX1_addLocker 20 = .ok (.bipush (-3), 2) := by decide +kernel
theorem dX1_addLocker_22 : decode cX1_addLocker 22 = .ok (.ireturn, 1) := by decide +kernel
theorem dX1_addLocker_23 : decode cX1_addLocker 23 = .ok (.aload_n 0, 1) := by decide +kernel
theorem dX1_addLocker_24 : decode cX1_addLocker 24 = .ok (.getfield 11, 3) := by decide +kernel
theorem dX1_addLocker_27 : decode cX1_addLocker 27 = .ok (.aload_n 0, 1) := by decide +kernel
theorem dX1_addLocker_28 : decode cX1_addLocker 28 = .ok (.getfield 54, 3) := by decide +kernel
theorem dX1_addLocker_31 : decode cX1_addLocker 31 = .ok (.aaload, 1) := by decide +kernel
theorem dX1_addLocker_32 : decode cX1_addLocker 32 = .ok (.iload_n 1, 1) := by decide +kernel
theorem dX1_addLocker_33 : decode cX1_addLocker 33 = .ok (.putfield 78, 3) := by decide +kernel
theorem dX1_addLocker_36 : decode cX1_addLocker 36 = .ok (.aload_n 0, 1) := by decide +kernel
theorem dX1_addLocker_37 : decode cX1_addLocker 37 = .ok (.dup, 1) := by decide +kernel
theorem dX1_addLocker_38 : decode cX1_addLocker 38 = .ok (.getfield 54, 3) := by decide +kernel
theorem dX1_addLocker_41 : decode cX1_addLocker 41 = .ok (.iconst 1, 1) := by decide +kernel
theorem dX1_addLocker_42 : decode cX1_addLocker 42 = .ok (.iadd, 1) := by decide +kernel
theorem dX1_addLocker_43 : decode cX1_addLocker 43 = .ok (.putfield 54, 3) := by decide +kernel
theorem dX1_addLocker_46 : decode cX1_addLocker 46 = .ok (.aload_n 0, 1) := by decide +kernel
theorem dX1_addLocker_47 : decode cX1_addLocker 47 = .ok (.getfield 54, 3) := by decide +kernel
theorem dX1_addLocker_50 : decode cX1_addLocker 50 = .ok (.iconst 1, 1) := by decide +kernel
theorem dX1_addLocker_51 : decode cX1_addLocker 51 = .ok (.isub, 1) := by decide +kernel
theorem dX1_addLocker_52 : decode cX1_addLocker 52 = .ok (.ireturn, 1) := by decide +kernel
theorem dX1_addPerson_0 : decode cX1_addPerson 0 = .ok (.aload_n 0, 1) := by decide +kernel
theorem dX1_addPerson_1 : decode cX1_addPerson 1 = .ok (.getfield 58, 3) := by decide +kernel
theorem dX1_addPerson_4 : decode cX1_addPerson 4 = .ok (.bipush 10, 2) := by decide +kernel
theorem dX1_addPerson_6 : decode cX1_addPerson 6 = .ok (.if_icmp .lt 6, 3) := by decide +kernel
theorem dX1_addPerson_9 : decode cX1_addPerson 9 = .ok (.bipush (-3), 2) := by decide +kernel
theorem dX1_addPerson_11 : decode cX1_addPerson 11 = .ok (.ireturn, 1) := by decide +kernel
theorem dX1_addPerson_12 : decode cX1_addPerson 12 = .ok (.aload_n 0, 1) := by decide +kernel
theorem dX1_addPerson_13 : decode cX1_addPerson 13 = .ok (.dup, 1) := by decide +kernel
theorem dX1_addPerson_14 : decode cX1_addPerson 14 = .ok (.getfield 58, 3) := by decide +kernel
theorem dX1_addPerson_17 : decode cX1_addPerson 17 = .ok (.iconst 1, 1) := by decide +kernel
theorem dX1_addPerson_18 : decode cX1_addPerson 18 = .ok (.iadd, 1) := by decide +kernel
theorem dX1_addPerson_19 : decode cX1_addPerson 19 = .ok (.putfield 58, 3) := by decide +kernel
theorem dX1_addPerson_22 : decode cX1_addPerson 22 = .ok (.aload_n 0, 1) := by decide +kernel
theorem dX1_addPerson_23 : decode cX1_addPerson 23 = .ok (.getfield 58, 3) := by decide +kernel
theorem dX1_addPerson_26 : decode cX1_addPerson 26 = .ok (.iconst 1, 1) := by decide +kernel
theorem dX1_addPerson_27 : decode cX1_addPerson 27 = .ok (.isub, 1) := by decide +kernel
theorem dX1_addPerson_28 : decode cX1_addPerson 28 = .ok (.ireturn, 1) := by decide +kernel
theorem dX1_putIntoRow_0 : decode cX1_putIntoRow 0 = .ok (.aload_n 0, 1) := by decide +kernel
theorem dX1_putIntoRow_1 : decode cX1_putIntoRow 1 = .ok (.iload_n 1, 1) := by decide +kernel
theorem dX1_putIntoRow_2 : decode cX1_putIntoRow 2 = .ok (.invokevirtual 74, 3) := by decide +kernel
theorem dX1_putIntoRow_5 : decode cX1_putIntoRow 5 = .ok (.astore_n 3, 1) := by decide +kernel
theorem dX1_putIntoRow_6 : decode cX1_putIntoRow 6 = .ok (.aload_n 3, 1) := by decide +kernel
theorem dX1_putIntoRow_7 : decode cX1_putIntoRow 7 = .ok (.ifnull 12, 3) := by decide +kernel
theorem dX1_putIntoRow_10 : decode cX1_putIntoRow 10 = .ok (.iload_n 2, 1) := by decide +kernel
theorem dX1_putIntoRow_11 : decode cX1_putIntoRow 11 = .ok (.ifCond .lt 8, 3) := by decide +kernel
theorem dX1_putIntoRow_14 : decode cX1_putIntoRow 14 = .ok (.iload_n 2, 1) := by decide +kernel
theorem dX1_putIntoRow_15 : decode cX1_putIntoRow 15 = .ok (.iconst 2, 1) := by decide +kernel
theorem dX1_putIntoRow_16 : decode cX1_putIntoRow 16 = .ok (.if_icmp .le 5, 3) := by decide +kernel
theorem dX1_putIntoRow_19 : decode cX1_putIntoRow 19 = .ok (.iconst (-1), 1) := by decide +kernel
theorem dX1_putIntoRow_20 : decode cX1_putIntoRow 20 = .ok (.ireturn, 1) := by decide +kernel
theorem dX1_putIntoRow_21 : decode cX1_putIntoRow 21 = .ok (.aload_n 3, 1) := by decide +kernel
theorem dX1_putIntoRow_22 : decode cX1_putIntoRow 22 = .ok (.getfield 81, 3) := by decide +kernel
theorem dX1_putIntoRow_25 : decode cX1_putIntoRow 25 = .ok (.ifCond .ne 11, 3) := by decide +kernel
theorem dX1_putIntoRow_28 : decode cX1_putIntoRow 28 = .ok (.aload_n 3, 1) := by decide +kernel
theorem dX1_putIntoRow_29 : decode cX1_putIntoRow 29 = .ok (.getfield 78, 3) := by decide +kernel
theorem dX1_putIntoRow_32 : decode cX1_putIntoRow 32 = .ok (.iload_n 2, 1) := by decide +kernel
theorem dX1_putIntoRow_33 : decode cX1_putIntoRow 33 = .ok (.if_icmp .eq 6, 3) := by decide +kernel
theorem dX1_putIntoRow_36 : decode cX1_putIntoRow 36 = .ok (.bipush (-2), 2) := by decide +kernel
theorem dX1_putIntoRow_38 : decode cX1_putIntoRow 38 = .ok (.ireturn, 1) := by decide +kernel
theorem dX1_putIntoRow_39 : decode cX1_putIntoRow 39 = .ok (.aload_n 0, 1) := by decide +kernel
theorem dX1_putIntoRow_40 : decode cX1_putIntoRow 40 = .ok (.iload_n 2, 1) := by decide +kernel
theorem dX1_putIntoRow_41 : decode cX1_putIntoRow 41 = .ok (.invokevirtual 85, 3) := by decide +kernel
theorem dX1_putIntoRow_44 : decode cX1_putIntoRow 44 = .ok (.istore 4, 2) := by decide +kernel
theorem dX1_putIntoRow_46 : decode cX1_putIntoRow 46 = .ok (.iload 4, 2) := by decide +kernel
theorem dX1_putIntoRow_48 : decode cX1_putIntoRow 48 = .ok (.iconst 4, 1) := by decide +kernel
theorem dX1_putIntoRow_49 : decode cX1_putIntoRow 49 = .ok (.if_icmp .lt 6, 3) := by decide +kernel
theorem dX1_putIntoRow_52 : decode cX1_putIntoRow 52 = .ok (.bipush (-3), 2) := by decide +kernel
theorem dX1_putIntoRow_54 : decode cX1_putIntoRow 54 = .ok (.ireturn, 1) := by decide +kernel
theorem dX1_putIntoRow_55 : decode cX1_putIntoRow 55 = .ok (.aload_n 3, 1) := by decide +kernel
theorem dX1_putIntoRow_56 : decode cX1_putIntoRow 56 = .ok (.iconst 1, 1) := by decide +kernel
theorem dX1_putIntoRow_57 : decode cX1_putIntoRow 57 = .ok (.putfield 81, 3) := by decide +kernel
theorem dX1_putIntoRow_60 : decode cX1_putIntoRow 60 = .ok (.aload_n 0, 1) := by decide +kernel
theorem dX1_putIntoRow_61 : decode cX1_putIntoRow 61 = .ok (.aload_n 3, 1) := by decide +kernel
theorem dX1_putIntoRow_62 : decode cX1_putIntoRow 62 = .ok (.invokevirtual 89, 3) := by decide +kernel
theorem dX1_putIntoRow_65 : decode cX1_putIntoRow 65 = .ok (.iload 4, 2) := by decide +kernel
theorem dX1_putIntoRow_67 : decode cX1_putIntoRow 67 = .ok (.iconst 1, 1) := by decide +kernel
theorem dX1_putIntoRow_68 : decode cX1_putIntoRow 68 = .ok (.iadd, 1) := by decide +kernel
theorem dX1_putIntoRow_69 : decode cX1_putIntoRow 69 = .ok (.ireturn, 1) := by decide +kernel
theorem dX1_lendTo_0 : decode cX1_lendTo 0 = .ok (.aload_n 0, 1) := by decide +kernel
theorem dX1_lendTo_1 : decode cX1_lendTo 1 = .ok (.iload_n 1, 1) := by decide +kernel
theorem dX1_lendTo_2 : decode cX1_lendTo 2 = .ok (.invokevirtual 67, 3) := by decide +kernel
theorem dX1_lendTo_5 : decode cX1_lendTo 5 = .ok (.astore_n 3, 1) := by decide +kernel
theorem dX1_lendTo_6 : decode cX1_lendTo 6 = .ok (.aload_n 3, 1) := by decide +kernel
theorem dX1_lendTo_7 : decode cX1_lendTo 7 = .ok (.ifnull 12, 3) := by decide +kernel
theorem dX1_lendTo_10 : decode cX1_lendTo 10 = .ok (.iload_n 2, 1) := by decide +kernel
theorem dX1_lendTo_11 : decode cX1_lendTo 11 = .ok (.ifCond .lt 8, 3) := by decide +kernel
theorem dX1_lendTo_14 : decode cX1_lendTo 14 = .ok (.iload_n 2, 1) := by decide +kernel
theorem dX1_lendTo_15 : decode cX1_lendTo 15 = .ok (.iconst 3, 1) := by decide +kernel
theorem dX1_lendTo_16 : decode cX1_lendTo 16 = .ok (.if_icmp .le 5, 3) := by decide +kernel
theorem dX1_lendTo_19 : decode cX1_lendTo 19 = .ok (.iconst (-1), 1) := by decide +kernel
theorem dX1_lendTo_20 : decode cX1_lendTo 20 = .ok (.ireturn, 1) := by decide +kernel
theorem dX1_lendTo_21 : decode cX1_lendTo 21 = .ok (.aload_n 3, 1) := by decide +kernel
theorem dX1_lendTo_22 : decode cX1_lendTo 22 = .ok (.getfield 71, 3) := by decide +kernel
theorem dX1_lendTo_25 : decode cX1_lendTo 25 = .ok (.iconst (-1), 1) := by decide +kernel
theorem dX1_lendTo_26 : decode cX1_lendTo 26 = .ok (.if_icmp .ne 24, 3) := by decide +kernel
theorem dX1_lendTo_29 : decode cX1_lendTo 29 = .ok (.aload_n 0, 1) := by decide +kernel
theorem dX1_lendTo_30 : decode cX1_lendTo 30 = .ok (.getfield 26, 3) := by decide +kernel
theorem dX1_lendTo_33 : decode cX1_lendTo 33 = .ok (.iload_n 1, 1) := by decide +kernel
theorem dX1_lendTo_34 : decode cX1_lendTo 34 = .ok (.invokevirtual 92, 3) := by decide +kernel
theorem dX1_lendTo_37 : decode cX1_lendTo 37 = .ok (.iconst (-1), 1) := by decide +kernel
theorem dX1_lendTo_38 : decode cX1_lendTo 38 = .ok (.if_icmp .ne 12, 3) := by decide +kernel
theorem dX1_lendTo_41 : decode cX1_lendTo 41 = .ok (.aload_n 3, 1) := by decide +kernel
theorem dX1_lendTo_42 : decode cX1_lendTo 42 = .ok (.getfield 95, 3) := by decide +kernel
theorem dX1_lendTo_45 : decode cX1_lendTo 45 = .ok (.bipush 30, 2) := by decide +kernel
theorem dX1_lendTo_47 : decode cX1_lendTo 47 = .ok (.if_icmp .le 6, 3) := by decide +kernel
theorem dX1_lendTo_50 : decode cX1_lendTo 50 = .ok (.bipush (-2), 2) := by decide +kernel
theorem dX1_lendTo_52 : decode cX1_lendTo 52 = .ok (.ireturn, 1) := by decide +kernel
theorem dX1_lendTo_53 : decode cX1_lendTo 53 = .ok (.aload_n 0, 1) := by decide +kernel
theorem dX1_lendTo_54 : decode cX1_lendTo 54 = .ok (.iload_n 2, 1) := by decide +kernel
theorem dX1_lendTo_55 : decode cX1_lendTo 55 = .ok (.invokevirtual 98, 3) := by decide +kernel
theorem dX1_lendTo_58 : decode cX1_lendTo 58 = .ok (.astore 4, 2) := by decide +kernel
theorem dX1_lendTo_60 : decode cX1_lendTo 60 = .ok (.aload 4, 2) := by decide +kernel
theorem dX1_lendTo_62 : decode cX1_lendTo 62 = .ok (.ifnonnull 23, 3) := by decide +kernel
theorem dX1_lendTo_65 : decode cX1_lendTo 65 = .ok (.aload_n 0, 1) := by decide +kernel
theorem dX1_lendTo_66 : decode cX1_lendTo 66 = .ok (.getfield 26, 3) := by decide +kernel
theorem dX1_lendTo_69 : decode cX1_lendTo 69 = .ok (.iload_n 1, 1) := by decide +kernel
theorem dX1_lendTo_70 : decode cX1_lendTo 70 = .ok (.iload_n 2, 1) := by decide +kernel
theorem dX1_lendTo_71 : decode cX1_lendTo 71 = .ok (.invokevirtual 101, 3) := by decide +kernel
theorem dX1_lendTo_74 : decode cX1_lendTo 74 = .ok (.bipush 100, 2) := by decide +kernel
theorem dX1_lendTo_76 : decode cX1_lendTo 76 = .ok (.aload_n 0, 1) := by decide +kernel
theorem dX1_lendTo_77 : decode cX1_lendTo 77 = .ok (.getfield 26, 3) := by decide +kernel
theorem dX1_lendTo_80 : decode cX1_lendTo 80 = .ok (.getfield 105, 3) := by decide +kernel
theorem dX1_lendTo_83 : decode cX1_lendTo 83 = .ok (.iadd, 1) := by decide +kernel
theorem dX1_lendTo_84 : decode cX1_lendTo 84 = .ok (.ireturn, 1) := by decide +kernel
theorem dX1_lendTo_85 : decode cX1_lendTo 85 = .ok (.aload_n 0, 1) := by decide +kernel
theorem dX1_lendTo_86 : decode cX1_lendTo 86 = .ok (.aload_n 3, 1) := by decide +kernel
theorem dX1_lendTo_87 : decode cX1_lendTo 87 = .ok (.aload 4, 2) := by decide +kernel
theorem dX1_lendTo_89 : decode cX1_lendTo 89 = .ok (.invokevirtual 108, 3) := by decide +kernel
theorem dX1_lendTo_92 : decode cX1_lendTo 92 = .ok (.aload 4, 2) := by decide +kernel
theorem dX1_lendTo_94 : decode cX1_lendTo 94 = .ok (.getfield 112, 3) := by decide +kernel
theorem dX1_lendTo_97 : decode cX1_lendTo 97 = .ok (.ireturn, 1) := by decide +kernel
theorem dX1_takeBack_0 : decode cX1_takeBack 0 = .ok (.aload_n 0, 1) := by decide +kernel
theorem dX1_takeBack_1 : decode cX1_takeBack 1 = .ok (.iload_n 1, 1) := by decide +kernel
theorem dX1_takeBack_2 : decode cX1_takeBack 2 = .ok (.invokevirtual 67, 3) := by decide +kernel
theorem dX1_takeBack_5 : decode cX1_takeBack 5 = .ok (.astore_n 2, 1) := by decide +kernel
theorem dX1_takeBack_6 : decode cX1_takeBack 6 = .ok (.aload_n 2, 1) := by decide +kernel
theorem dX1_takeBack_7 : decode cX1_takeBack 7 = .ok (.ifnonnull 5, 3) := by decide +kernel
theorem dX1_takeBack_10 : decode cX1_takeBack 10 = .ok (.iconst (-1), 1) := by decide +kernel
theorem dX1_takeBack_11 : decode cX1_takeBack 11 = .ok (.ireturn, 1) := by decide +kernel
theorem dX1_takeBack_12 : decode cX1_takeBack 12 = .ok (.aload_n 0, 1) := by decide +kernel
theorem dX1_takeBack_13 : decode cX1_takeBack 13 = .ok (.getfield 26, 3) := by decide +kernel
theorem dX1_takeBack_16 : decode cX1_takeBack 16 = .ok (.iload_n 1, 1) := by decide +kernel
theorem dX1_takeBack_17 : decode cX1_takeBack 17 = .ok (.invokevirtual 92, 3) := by decide +kernel
theorem dX1_takeBack_20 : decode cX1_takeBack 20 = .ok (.iconst (-1), 1) := by decide +kernel
theorem dX1_takeBack_21 : decode cX1_takeBack 21 = .ok (.if_icmp .eq 13, 3) := by decide +kernel
theorem dX1_takeBack_24 : decode cX1_takeBack 24 = .ok (.aload_n 0, 1) := by decide +kernel
theorem dX1_takeBack_25 : decode cX1_takeBack 25 = .ok (.getfield 26, 3) := by decide +kernel
theorem dX1_takeBack_28 : decode cX1_takeBack 28 = .ok (.iload_n 1, 1) := by decide +kernel
theorem dX1_takeBack_29 : decode cX1_takeBack 29 = .ok (.invokevirtual 115, 3) := by decide +kernel
theorem dX1_takeBack_32 : decode cX1_takeBack 32 = .ok (.iconst 0, 1) := by decide +kernel
theorem dX1_takeBack_33 : decode cX1_takeBack 33 = .ok (.ireturn, 1) := by decide +kernel
theorem dX1_takeBack_34 : decode cX1_takeBack 34 = .ok (.aload_n 0, 1) := by decide +kernel
theorem dX1_takeBack_35 : decode cX1_takeBack 35 = .ok (.aload_n 2, 1) := by decide +kernel
theorem dX1_takeBack_36 : decode cX1_takeBack 36 = .ok (.getfield 71, 3) := by decide +kernel
theorem dX1_takeBack_39 : decode cX1_takeBack 39 = .ok (.invokevirtual 74, 3) := by decide +kernel
theorem dX1_takeBack_42 : decode cX1_takeBack 42 = .ok (.astore_n 3, 1) := by decide +kernel
theorem dX1_takeBack_43 : decode cX1_takeBack 43 = .ok (.aload_n 3, 1) := by decide +kernel
theorem dX1_takeBack_44 : decode cX1_takeBack 44 = .ok (.ifnonnull 6, 3) := by decide +kernel
theorem dX1_takeBack_47 : decode cX1_takeBack 47 = .ok (.bipush (-2), 2) := by decide +kernel
theorem dX1_takeBack_49 : decode cX1_takeBack 49 = .ok (.ireturn, 1) := by decide +kernel
theorem dX1_takeBack_50 : decode cX1_takeBack 50 = .ok (.aload_n 2, 1) := by decide +kernel
theorem dX1_takeBack_51 : decode cX1_takeBack 51 = .ok (.aload_n 0, 1) := by decide +kernel
theorem dX1_takeBack_52 : decode cX1_takeBack 52 = .ok (.getfield 61, 3) := by decide +kernel
theorem dX1_takeBack_55 : decode cX1_takeBack 55 = .ok (.invokevirtual 118, 3) := by decide +kernel
theorem dX1_takeBack_58 : decode cX1_takeBack 58 = .ok (.istore 4, 2) := by decide +kernel
theorem dX1_takeBack_60 : decode cX1_takeBack 60 = .ok (.aload_n 0, 1) := by decide +kernel
theorem dX1_takeBack_61 : decode cX1_takeBack 61 = .ok (.aload_n 2, 1) := by decide +kernel
theorem dX1_takeBack_62 : decode cX1_takeBack 62 = .ok (.aload_n 3, 1) := by decide +kernel
theorem dX1_takeBack_63 : decode cX1_takeBack 63 = .ok (.invokevirtual 121, 3) := by decide +kernel
theorem dX1_takeBack_66 : decode cX1_takeBack 66 = .ok (.aload_n 0, 1) := by decide +kernel
theorem dX1_takeBack_67 : decode cX1_takeBack 67 = .ok (.aload_n 3, 1) := by decide +kernel
theorem dX1_takeBack_68 : decode cX1_takeBack 68 = .ok (.invokevirtual 89, 3) := by decide +kernel
theorem dX1_takeBack_71 : decode cX1_takeBack 71 = .ok (.iload 4, 2) := by decide +kernel
theorem dX1_takeBack_73 : decode cX1_takeBack 73 = .ok (.ireturn, 1) := by decide +kernel
theorem dX1_prolong_0 : decode cX1_prolong 0 = .ok (.aload_n 0, 1) := by decide +kernel
theorem dX1_prolong_1 : decode cX1_prolong 1 = .ok (.iload_n 1, 1) := by decide +kernel
theorem dX1_prolong_2 : decode cX1_prolong 2 = .ok (.invokevirtual 67, 3) := by decide +kernel
theorem dX1_prolong_5 : decode cX1_prolong 5 = .ok (.astore_n 2, 1) := by decide +kernel
theorem dX1_prolong_6 : decode cX1_prolong 6 = .ok (.aload_n 2, 1) := by decide +kernel
theorem dX1_prolong_7 : decode cX1_prolong 7 = .ok (.ifnonnull 5, 3) := by decide +kernel
theorem dX1_prolong_10 : decode cX1_prolong 10 = .ok (.iconst (-1), 1) := by decide +kernel
theorem dX1_prolong_11 : decode cX1_prolong 11 = .ok (.ireturn, 1) := by decide +kernel
theorem dX1_prolong_12 : decode cX1_prolong 12 = .ok (.aload_n 0, 1) := by decide +kernel
theorem dX1_prolong_13 : decode cX1_prolong 13 = .ok (.aload_n 2, 1) := by decide +kernel
theorem dX1_prolong_14 : decode cX1_prolong 14 = .ok (.getfield 71, 3) := by decide +kernel
theorem dX1_prolong_17 : decode cX1_prolong 17 = .ok (.invokevirtual 74, 3) := by decide +kernel
theorem dX1_prolong_20 : decode cX1_prolong 20 = .ok (.astore_n 3, 1) := by decide +kernel
theorem dX1_prolong_21 : decode cX1_prolong 21 = .ok (.aload_n 3, 1) := by decide +kernel
theorem dX1_prolong_22 : decode cX1_prolong 22 = .ok (.ifnull 29, 3) := by decide +kernel
theorem dX1_prolong_25 : decode cX1_prolong 25 = .ok (.aload_n 2, 1) := by decide +kernel
theorem dX1_prolong_26 : decode cX1_prolong 26 = .ok (.aload_n 0, 1) := by decide +kernel
theorem dX1_prolong_27 : decode cX1_prolong 27 = .ok (.getfield 61, 3) := by decide +kernel
theorem dX1_prolong_30 : decode cX1_prolong 30 = .ok (.invokevirtual 118, 3) := by decide +kernel
theorem dX1_prolong_33 : decode cX1_prolong 33 = .ok (.ifCond .gt 18, 3) := by decide +kernel
theorem dX1_prolong_36 : decode cX1_prolong 36 = .ok (.aload_n 0, 1) := by decide +kernel
theorem dX1_prolong_37 : decode cX1_prolong 37 = .ok (.getfield 26, 3) := by decide +kernel
theorem dX1_prolong_40 : decode cX1_prolong 40 = .ok (.aload_n 3, 1) := by decide +kernel
theorem dX1_prolong_41 : decode cX1_prolong 41 = .ok (.getfield 78, 3) := by decide +kernel
theorem dX1_prolong_44 : decode cX1_prolong 44 = .ok (.invokevirtual 124, 3) := by decide +kernel
theorem dX1_prolong_47 : decode cX1_prolong 47 = .ok (.iconst (-1), 1) := by decide +kernel
theorem dX1_prolong_48 : decode cX1_prolong 48 = .ok (.if_icmp .eq 6, 3) := by decide +kernel
theorem dX1_prolong_51 : decode cX1_prolong 51 = .ok (.bipush (-2), 2) := by decide +kernel
theorem dX1_prolong_53 : decode cX1_prolong 53 = .ok (.ireturn, 1) := by decide +kernel
theorem dX1_prolong_54 : decode cX1_prolong 54 = .ok (.aload_n 2, 1) := by decide +kernel
theorem dX1_prolong_55 : decode cX1_prolong 55 = .ok (.getfield 127, 3) := by decide +kernel
theorem dX1_prolong_58 : decode cX1_prolong 58 = .ok (.aload_n 0, 1) := by decide +kernel
theorem dX1_prolong_59 : decode cX1_prolong 59 = .ok (.getfield 33, 3) := by decide +kernel
theorem dX1_prolong_62 : decode cX1_prolong 62 = .ok (.iconst 1, 1) := by decide +kernel
theorem dX1_prolong_63 : decode cX1_prolong 63 = .ok (.iaload, 1) := by decide +kernel
theorem dX1_prolong_64 : decode cX1_prolong 64 = .ok (.if_icmp .lt 6, 3) := by decide +kernel
theorem dX1_prolong_67 : decode cX1_prolong 67 = .ok (.bipush (-3), 2) := by decide +kernel
theorem dX1_prolong_69 : decode cX1_prolong 69 = .ok (.ireturn, 1) := by decide +kernel
theorem dX1_prolong_70 : decode cX1_prolong 70 = .ok (.aload_n 2, 1) := by decide +kernel
theorem dX1_prolong_71 : decode cX1_prolong 71 = .ok (.dup, 1) := by decide +kernel
theorem dX1_prolong_72 : decode cX1_prolong 72 = .ok (.getfield 127, 3) := by decide +kernel
theorem dX1_prolong_75 : decode cX1_prolong 75 = .ok (.iconst 1, 1) := by decide +kernel
theorem dX1_prolong_76 : decode cX1_prolong 76 = .ok (.iadd, 1) := by decide +kernel
theorem dX1_prolong_77 : decode cX1_prolong 77 = .ok (.putfield 127, 3) := by decide +kernel
theorem dX1_prolong_80 : decode cX1_prolong 80 = .ok (.aload_n 2, 1) := by decide +kernel
theorem dX1_prolong_81 : decode cX1_prolong 81 = .ok (.dup, 1) := by decide +kernel
theorem dX1_prolong_82 : decode cX1_prolong 82 = .ok (.getfield 130, 3) := by decide +kernel
theorem dX1_prolong_85 : decode cX1_prolong 85 = .ok (.aload_n 0, 1) := by decide +kernel
theorem dX1_prolong_86 : decode cX1_prolong 86 = .ok (.getfield 33, 3) := by decide +kernel
theorem dX1_prolong_89 : decode cX1_prolong 89 = .ok (.iconst 0, 1) := by decide +kernel
theorem dX1_prolong_90 : decode cX1_prolong 90 = .ok (.iaload, 1) := by decide +kernel
theorem dX1_prolong_91 : decode cX1_prolong 91 = .ok (.iadd, 1) := by decide +kernel
theorem dX1_prolong_92 : decode cX1_prolong 92 = .ok (.putfield 130, 3) := by decide +kernel
theorem dX1_prolong_95 : decode cX1_prolong 95 = .ok (.aload_n 2, 1) := by decide +kernel
theorem dX1_prolong_96 : decode cX1_prolong 96 = .ok (.getfield 130, 3) := by decide +kernel
theorem dX1_prolong_99 : decode cX1_prolong 99 = .ok (.ireturn, 1) := by decide +kernel
theorem dX1_loseKey_0 : decode cX1_loseKey 0 = .ok (.aload_n 0, 1) := by decide +kernel
theorem dX1_loseKey_1 : decode cX1_loseKey 1 = .ok (.iload_n 1, 1) := by decide +kernel
theorem dX1_loseKey_2 : decode cX1_loseKey 2 = .ok (.invokevirtual 67, 3) := by decide +kernel
theorem dX1_loseKey_5 : decode cX1_loseKey 5 = .ok (.astore_n 2, 1) := by decide +kernel
theorem dX1_loseKey_6 : decode cX1_loseKey 6 = .ok (.aload_n 2, 1) := by decide +kernel
theorem dX1_loseKey_7 : decode cX1_loseKey 7 = .ok (.ifnonnull 5, 3) := by decide +kernel
theorem dX1_loseKey_10 : decode cX1_loseKey 10 = .ok (.iconst (-1), 1) := by decide +kernel
theorem dX1_loseKey_11 : decode cX1_loseKey 11 = .ok (.ireturn, 1) := by decide +kernel
theorem dX1_loseKey_12 : decode cX1_loseKey 12 = .ok (.aload_n 0, 1) := by decide +kernel
theorem dX1_loseKey_13 : decode cX1_loseKey 13 = .ok (.aload_n 2, 1) := by decide +kernel
theorem dX1_loseKey_14 : decode cX1_loseKey 14 = .ok (.getfield 71, 3) := by decide +kernel
theorem dX1_loseKey_17 : decode cX1_loseKey 17 = .ok (.invokevirtual 74, 3) := by decide +kernel
theorem dX1_loseKey_20 : decode cX1_loseKey 20 = .ok (.astore_n 3, 1) := by decide +kernel
theorem dX1_loseKey_21 : decode cX1_loseKey 21 = .ok (.aload_n 3, 1) := by decide +kernel
theorem dX1_loseKey_22 : decode cX1_loseKey 22 = .ok (.ifnonnull 6, 3) := by decide +kernel
theorem dX1_loseKey_25 : decode cX1_loseKey 25 = .ok (.bipush (-2), 2) := by decide +kernel
theorem dX1_loseKey_27 : decode cX1_loseKey 27 = .ok (.ireturn, 1) := by decide +kernel
theorem dX1_loseKey_28 : decode cX1_loseKey 28 = .ok (.aload_n 2, 1) := by decide +kernel
theorem dX1_loseKey_29 : decode cX1_loseKey 29 = .ok (.dup, 1) := by decide +kernel
theorem dX1_loseKey_30 : decode cX1_loseKey 30 = .ok (.getfield 133, 3) := by decide +kernel
theorem dX1_loseKey_33 : decode cX1_loseKey 33 = .ok (.iconst 1, 1) := by decide +kernel
theorem dX1_loseKey_34 : decode cX1_loseKey 34 = .ok (.iadd, 1) := by decide +kernel
theorem dX1_loseKey_35 : decode cX1_loseKey 35 = .ok (.putfield 133, 3) := by decide +kernel
theorem dX1_loseKey_38 : decode cX1_loseKey 38 = .ok (.aload_n 2, 1) := by decide +kernel
theorem dX1_loseKey_39 : decode cX1_loseKey 39 = .ok (.dup, 1) := by decide +kernel
theorem dX1_loseKey_40 : decode cX1_loseKey 40 = .ok (.getfield 95, 3) := by decide +kernel
theorem dX1_loseKey_43 : decode cX1_loseKey 43 = .ok (.iconst 5, 1) := by decide +kernel
theorem dX1_loseKey_44 : decode cX1_loseKey 44 = .ok (.iadd, 1) := by decide +kernel
theorem dX1_loseKey_45 : decode cX1_loseKey 45 = .ok (.putfield 95, 3) := by decide +kernel
theorem dX1_loseKey_48 : decode cX1_loseKey 48 = .ok (.aload_n 3, 1) := by decide +kernel
theorem dX1_loseKey_49 : decode cX1_loseKey 49 = .ok (.getfield 136, 3) := by decide +kernel
theorem dX1_loseKey_52 : decode cX1_loseKey 52 = .ok (.ifCond .eq 11, 3) := by decide +kernel
theorem dX1_loseKey_55 : decode cX1_loseKey 55 = .ok (.aload_n 3, 1) := by decide +kernel
theorem dX1_loseKey_56 : decode cX1_loseKey 56 = .ok (.iconst 0, 1) := by decide +kernel
theorem dX1_loseKey_57 : decode cX1_loseKey 57 = .ok (.putfield 136, 3) := by decide +kernel
theorem dX1_loseKey_60 : decode cX1_loseKey 60 = .ok (.goto 9, 3) := by decide +kernel
theorem dX1_loseKey_63 : decode cX1_loseKey 63 = .ok (.aload_n 0, 1) := by decide +kernel
theorem dX1_loseKey_64 : decode cX1_loseKey 64 = .ok (.aload_n 2, 1) := by decide +kernel
theorem dX1_loseKey_65 : decode cX1_loseKey 65 = .ok (.aload_n 3, 1) := by decide +kernel
theorem dX1_loseKey_66 : decode cX1_loseKey 66 = .ok (.invokevirtual 139, 3) := by decide +kernel
theorem dX1_loseKey_69 : decode cX1_loseKey 69 = .ok (.aload_n 2, 1) := by decide +kernel
theorem dX1_loseKey_70 : decode cX1_loseKey 70 = .ok (.getfield 95, 3) := by decide +kernel
theorem dX1_loseKey_73 : decode cX1_loseKey 73 = .ok (.ireturn, 1) := by decide +kernel
theorem dX1_changeLock_0 : decode cX1_changeLock 0 = .ok (.aload_n 1, 1) := by decide +kernel
theorem dX1_changeLock_1 : decode cX1_changeLock 1 = .ok (.dup, 1) := by decide +kernel
theorem dX1_changeLock_2 : decode cX1_changeLock 2 = .ok (.getfield 95, 3) := by decide +kernel
theorem dX1_changeLock_5 : decode cX1_changeLock 5 = .ok (.bipush 20, 2) := by decide +kernel
theorem dX1_changeLock_7 : decode cX1_changeLock 7 = .ok (.iadd, 1) := by decide +kernel
theorem dX1_changeLock_8 : decode cX1_changeLock 8 = .ok (.putfield 95, 3) := by decide +kernel
theorem dX1_changeLock_11 : decode cX1_changeLock 11 = .ok (.aload_n 0, 1) := by decide +kernel
theorem dX1_changeLock_12 : decode cX1_changeLock 12 = .ok (.aload_n 1, 1) := by decide +kernel
theorem dX1_changeLock_13 : decode cX1_changeLock 13 = .ok (.aload_n 2, 1) := by decide +kernel
theorem dX1_changeLock_14 : decode cX1_changeLock 14 = .ok (.invokevirtual 121, 3) := by decide +kernel
theorem dX1_changeLock_17 : decode cX1_changeLock 17 = .ok (.aload_n 2, 1) := by decide +kernel
theorem dX1_changeLock_18 : decode cX1_changeLock 18 = .ok (.iconst 1, 1) := by decide +kernel
theorem dX1_changeLock_19 : decode cX1_changeLock 19 = .ok (.putfield 136, 3) := by decide +kernel
theorem dX1_changeLock_22 : decode cX1_changeLock 22 = .ok (.aload_n 2, 1) := by decide +kernel
theorem dX1_changeLock_23 : decode cX1_changeLock 23 = .ok (.aload_n 0, 1) := by decide +kernel
theorem dX1_changeLock_24 : decode cX1_changeLock 24 = .ok (.getfield 61, 3) := by decide +kernel
theorem dX1_changeLock_27 : decode cX1_changeLock 27 = .ok (.iconst 3, 1) := by decide +kernel
theorem dX1_changeLock_28 : decode cX1_changeLock 28 = .ok (.iadd, 1) := by decide +kernel
theorem dX1_changeLock_29 : decode cX1_changeLock 29 = .ok (.putfield 142, 3) := by decide +kernel
theorem dX1_changeLock_32 : decode cX1_changeLock 32 = .ok (.aload_n 0, 1) := by decide +kernel
theorem dX1_changeLock_33 : decode cX1_changeLock 33 = .ok (.aload_n 2, 1) := by decide +kernel
theorem dX1_changeLock_34 : decode cX1_changeLock 34 = .ok (.getfield 78, 3) := by decide +kernel
theorem dX1_changeLock_37 : decode cX1_changeLock 37 = .ok (.invokevirtual 98, 3) := by decide +kernel
theorem dX1_changeLock_40 : decode cX1_changeLock 40 = .ok (.astore_n 3, 1) := by decide +kernel
theorem dX1_changeLock_41 : decode cX1_changeLock 41 = .ok (.aload_n 3, 1) := by decide +kernel
theorem dX1_changeLock_42 : decode cX1_changeLock 42 = .ok (.ifnonnull 21, 3) := by decide +kernel
theorem dX1_changeLock_45 : decode cX1_changeLock 45 = .ok (.aload_n 0, 1) := by decide +kernel
theorem dX1_changeLock_46 : decode cX1_changeLock 46 = .ok (.getfield 26, 3) := by decide +kernel
theorem dX1_changeLock_49 : decode cX1_changeLock 49 = .ok (.aload_n 1, 1) := by decide +kernel
theorem dX1_changeLock_50 : decode cX1_changeLock 50 = .ok (.getfield 145, 3) := by decide +kernel
theorem dX1_changeLock_53 : decode cX1_changeLock 53 = .ok (.aload_n 2, 1) := by decide +kernel
theorem dX1_changeLock_54 : decode cX1_changeLock 54 = .ok (.getfield 78, 3) := by decide +kernel
theorem dX1_changeLock_57 : decode cX1_changeLock 57 = .ok (.invokevirtual 101, 3) := by decide +kernel
theorem dX1_changeLock_60 : decode cX1_changeLock 60 = .ok (.goto 9, 3) := by decide +kernel
theorem dX1_changeLock_63 : decode cX1_changeLock 63 = .ok (.aload_n 0, 1) := by decide +kernel
theorem dX1_changeLock_64 : decode cX1_changeLock 64 = .ok (.aload_n 1, 1) := by decide +kernel
theorem dX1_changeLock_65 : decode cX1_changeLock 65 = .ok (.aload_n 3, 1) := by decide +kernel
theorem dX1_changeLock_66 : decode cX1_changeLock 66 = .ok (.invokevirtual 108, 3) := by decide +kernel
theorem dX1_changeLock_69 : decode cX1_changeLock 69 = .ok (.return_, 1) := by decide +kernel
theorem dX1_wishFor_0 : decode cX1_wishFor 0 = .ok (.aload_n 0, 1) := by decide +kernel
theorem dX1_wishFor_1 : decode cX1_wishFor 1 = .ok (.iload_n 1, 1) := by decide +kernel
theorem dX1_wishFor_2 : decode cX1_wishFor 2 = .ok (.invokevirtual 67, 3) := by decide +kernel
theorem dX1_wishFor_5 : decode cX1_wishFor 5 = .ok (.astore_n 3, 1) := by decide +kernel
theorem dX1_wishFor_6 : decode cX1_wishFor 6 = .ok (.aload_n 3, 1) := by decide +kernel
theorem dX1_wishFor_7 : decode cX1_wishFor 7 = .ok (.ifnull 12, 3) := by decide +kernel
theorem dX1_wishFor_10 : decode cX1_wishFor 10 = .ok (.iload_n 2, 1) := by decide +kernel
theorem dX1_wishFor_11 : decode cX1_wishFor 11 = .ok (.ifCond .lt 8, 3) := by decide +kernel
theorem dX1_wishFor_14 : decode cX1_wishFor 14 = .ok (.iload_n 2, 1) := by decide +kernel
theorem dX1_wishFor_15 : decode cX1_wishFor 15 = .ok (.iconst 2, 1) := by decide +kernel
theorem dX1_wishFor_16 : decode cX1_wishFor 16 = .ok (.if_icmp .le 5, 3) := by decide +kernel
theorem dX1_wishFor_19 : decode cX1_wishFor 19 = .ok (.iconst (-1), 1) := by decide +kernel
theorem dX1_wishFor_20 : decode cX1_wishFor 20 = .ok (.ireturn, 1) := by decide +kernel
theorem dX1_wishFor_21 : decode cX1_wishFor 21 = .ok (.aload_n 0, 1) := by decide +kernel
theorem dX1_wishFor_22 : decode cX1_wishFor 22 = .ok (.aload_n 3, 1) := by decide +kernel
theorem dX1_wishFor_23 : decode cX1_wishFor 23 = .ok (.getfield 71, 3) := by decide +kernel
theorem dX1_wishFor_26 : decode cX1_wishFor 26 = .ok (.invokevirtual 74, 3) := by decide +kernel
theorem dX1_wishFor_29 : decode cX1_wishFor 29 = .ok (.astore 4, 2) := by decide +kernel
theorem dX1_wishFor_31 : decode cX1_wishFor 31 = .ok (.aload 4, 2) := by decide +kernel
theorem dX1_wishFor_33 : decode cX1_wishFor 33 = .ok (.ifnull 12, 3) := by decide +kernel
theorem dX1_wishFor_36 : decode cX1_wishFor 36 = .ok (.aload 4, 2) := by decide +kernel
theorem dX1_wishFor_38 : decode cX1_wishFor 38 = .ok (.getfield 78, 3) := by decide +kernel
theorem dX1_wishFor_41 : decode cX1_wishFor 41 = .ok (.iload_n 2, 1) := by decide +kernel
theorem dX1_wishFor_42 : decode cX1_wishFor 42 = .ok (.if_icmp .ne 6, 3) := by decide +kernel
theorem dX1_wishFor_45 : decode cX1_wishFor 45 = .ok (.bipush (-2), 2) := by decide +kernel
theorem dX1_wishFor_47 : decode cX1_wishFor 47 = .ok (.ireturn, 1) := by decide +kernel
theorem dX1_wishFor_48 : decode cX1_wishFor 48 = .ok (.aload_n 0, 1) := by decide +kernel
theorem dX1_wishFor_49 : decode cX1_wishFor 49 = .ok (.getfield 30, 3) := by decide +kernel
theorem dX1_wishFor_52 : decode cX1_wishFor 52 = .ok (.iload_n 1, 1) := by decide +kernel
theorem dX1_wishFor_53 : decode cX1_wishFor 53 = .ok (.invokevirtual 115, 3) := by decide +kernel
theorem dX1_wishFor_56 : decode cX1_wishFor 56 = .ok (.aload_n 0, 1) := by decide +kernel
theorem dX1_wishFor_57 : decode cX1_wishFor 57 = .ok (.getfield 30, 3) := by decide +kernel
theorem dX1_wishFor_60 : decode cX1_wishFor 60 = .ok (.iload_n 1, 1) := by decide +kernel
theorem dX1_wishFor_61 : decode cX1_wishFor 61 = .ok (.iload_n 2, 1) := by decide +kernel
theorem dX1_wishFor_62 : decode cX1_wishFor 62 = .ok (.invokevirtual 101, 3) := by decide +kernel
theorem dX1_wishFor_65 : decode cX1_wishFor 65 = .ok (.aload_n 0, 1) := by decide +kernel
theorem dX1_wishFor_66 : decode cX1_wishFor 66 = .ok (.getfield 30, 3) := by decide +kernel
theorem dX1_wishFor_69 : decode cX1_wishFor 69 = .ok (.getfield 105, 3) := by decide +kernel
theorem dX1_wishFor_72 : decode cX1_wishFor 72 = .ok (.ireturn, 1) := by decide +kernel
theorem dX1_endWish_0 : decode cX1_endWish 0 = .ok (.aload_n 0, 1) := by decide +kernel
theorem dX1_endWish_1 : decode cX1_endWish 1 = .ok (.iload_n 1, 1) := by decide +kernel
theorem dX1_endWish_2 : decode cX1_endWish 2 = .ok (.invokevirtual 67, 3) := by decide +kernel
theorem dX1_endWish_5 : decode cX1_endWish 5 = .ok (.ifnonnull 5, 3) := by decide +kernel
theorem dX1_endWish_8 : decode cX1_endWish 8 = .ok (.iconst (-1), 1) := by decide +kernel
theorem dX1_endWish_9 : decode cX1_endWish 9 = .ok (.ireturn, 1) := by decide +kernel
theorem dX1_endWish_10 : decode cX1_endWish 10 = .ok (.aload_n 0, 1) := by decide +kernel
theorem dX1_endWish_11 : decode cX1_endWish 11 = .ok (.getfield 30, 3) := by decide +kernel
theorem dX1_endWish_14 : decode cX1_endWish 14 = .ok (.iload_n 1, 1) := by decide +kernel
theorem dX1_endWish_15 : decode cX1_endWish 15 = .ok (.invokevirtual 146, 3) := by decide +kernel
theorem dX1_endWish_18 : decode cX1_endWish 18 = .ok (.istore_n 2, 1) := by decide +kernel
theorem dX1_endWish_19 : decode cX1_endWish 19 = .ok (.iload_n 2, 1) := by decide +kernel
theorem dX1_endWish_20 : decode cX1_endWish 20 = .ok (.iconst (-1), 1) := by decide +kernel
theorem dX1_endWish_21 : decode cX1_endWish 21 = .ok (.if_icmp .ne 6, 3) := by decide +kernel
theorem dX1_endWish_24 : decode cX1_endWish 24 = .ok (.bipush (-2), 2) := by decide +kernel
theorem dX1_endWish_26 : decode cX1_endWish 26 = .ok (.ireturn, 1) := by decide +kernel
theorem dX1_endWish_27 : decode cX1_endWish 27 = .ok (.aload_n 0, 1) := by decide +kernel
theorem dX1_endWish_28 : decode cX1_endWish 28 = .ok (.getfield 30, 3) := by decide +kernel
theorem dX1_endWish_31 : decode cX1_endWish 31 = .ok (.iload_n 1, 1) := by decide +kernel
theorem dX1_endWish_32 : decode cX1_endWish 32 = .ok (.invokevirtual 115, 3) := by decide +kernel
theorem dX1_endWish_35 : decode cX1_endWish 35 = .ok (.iload_n 2, 1) := by decide +kernel
theorem dX1_endWish_36 : decode cX1_endWish 36 = .ok (.ireturn, 1) := by decide +kernel
theorem dX1_swapAll_0 : decode cX1_swapAll 0 = .ok (.iconst 0, 1) := by decide +kernel
theorem dX1_swapAll_1 : decode cX1_swapAll 1 = .ok (.istore_n 1, 1) := by decide +kernel
theorem dX1_swapAll_2 : decode cX1_swapAll 2 = .ok (.iconst 0, 1) := by decide +kernel
theorem dX1_swapAll_3 : decode cX1_swapAll 3 = .ok (.istore_n 2, 1) := by decide +kernel
theorem dX1_swapAll_4 : decode cX1_swapAll 4 = .ok (.iload_n 2, 1) := by decide +kernel
theorem dX1_swapAll_5 : decode cX1_swapAll 5 = .ok (.bipush 10, 2) := by decide +kernel
theorem dX1_swapAll_7 : decode cX1_swapAll 7 = .ok (.if_icmp .gt 39, 3) := by decide +kernel
theorem dX1_swapAll_10 : decode cX1_swapAll 10 = .ok (.aload_n 0, 1) := by decide +kernel
theorem dX1_swapAll_11 : decode cX1_swapAll 11 = .ok (.invokevirtual 149, 3) := by decide +kernel
theorem dX1_swapAll_14 : decode cX1_swapAll 14 = .ok (.istore_n 3, 1) := by decide +kernel
theorem dX1_swapAll_15 : decode cX1_swapAll 15 = .ok (.iload_n 3, 1) := by decide +kernel
theorem dX1_swapAll_16 : decode cX1_swapAll 16 = .ok (.ifCond .ne 13, 3) := by decide +kernel
theorem dX1_swapAll_19 : decode cX1_swapAll 19 = .ok (.aload_n 0, 1) := by decide +kernel
theorem dX1_swapAll_20 : decode cX1_swapAll 20 = .ok (.invokevirtual 153, 3) := by decide +kernel
theorem dX1_swapAll_23 : decode cX1_swapAll 23 = .ok (.istore_n 3, 1) := by decide +kernel
theorem dX1_swapAll_24 : decode cX1_swapAll 24 = .ok (.aload_n 0, 1) := by decide +kernel
theorem dX1_swapAll_25 : decode cX1_swapAll 25 = .ok (.iload_n 3, 1) := by decide +kernel
theorem dX1_swapAll_26 : decode cX1_swapAll 26 = .ok (.invokevirtual 156, 3) := by decide +kernel
theorem dX1_swapAll_29 : decode cX1_swapAll 29 = .ok (.iload_n 3, 1) := by decide +kernel
theorem dX1_swapAll_30 : decode cX1_swapAll 30 = .ok (.ifCond .ne 6, 3) := by decide +kernel
theorem dX1_swapAll_33 : decode cX1_swapAll 33 = .ok (.goto 13, 3) := by decide +kernel
theorem dX1_swapAll_36 : decode cX1_swapAll 36 = .ok (.iload_n 1, 1) := by decide +kernel
theorem dX1_swapAll_37 : decode cX1_swapAll 37 = .ok (.iload_n 3, 1) := by decide +kernel
theorem dX1_swapAll_38 : decode cX1_swapAll 38 = .ok (.iadd, 1) := by decide +kernel
theorem dX1_swapAll_39 : decode cX1_swapAll 39 = .ok (.istore_n 1, 1) := by decide +kernel
theorem dX1_swapAll_40 : decode cX1_swapAll 40 = .ok (.iinc 2 1, 3) := by decide +kernel
theorem dX1_swapAll_43 : decode cX1_swapAll 43 = .ok (.goto (-39), 3) := by decide +kernel
theorem dX1_swapAll_46 : decode cX1_swapAll 46 = .ok (.aload_n 0, 1) := by decide +kernel
theorem dX1_swapAll_47 : decode cX1_swapAll 47 = .ok (.dup, 1) := by decide +kernel
theorem dX1_swapAll_48 : decode cX1_swapAll 48 = .ok (.getfield 64, 3) := by decide +kernel
theorem dX1_swapAll_51 : decode cX1_swapAll 51 = .ok (.iload_n 1, 1) := by decide +kernel
theorem dX1_swapAll_52 : decode cX1_swapAll 52 = .ok (.iadd, 1) := by decide +kernel
theorem dX1_swapAll_53 : decode cX1_swapAll 53 = .ok (.putfield 64, 3) := by decide +kernel
theorem dX1_swapAll_56 : decode cX1_swapAll 56 = .ok (.iload_n 1, 1) := by decide +kernel
theorem dX1_swapAll_57 : decode cX1_swapAll 57 = .ok (.ireturn, 1) := by decide +kernel
theorem dX1_moveToFree_0 : decode cX1_moveToFree 0 = .ok (.iconst 0, 1) := by decide +kernel
theorem dX1_moveToFree_1 : decode cX1_moveToFree 1 = .ok (.istore_n 1, 1) := by decide +kernel
theorem dX1_moveToFree_2 : decode cX1_moveToFree 2 = .ok (.iload_n 1, 1) := by decide +kernel
theorem dX1_moveToFree_3 : decode cX1_moveToFree 3 = .ok (.aload_n 0, 1) := by decide +kernel
theorem dX1_moveToFree_4 : decode cX1_moveToFree 4 = .ok (.getfield 30, 3) := by decide +kernel
theorem dX1_moveToFree_7 : decode cX1_moveToFree 7 = .ok (.getfield 105, 3) := by decide +kernel
theorem dX1_moveToFree_10 : decode cX1_moveToFree 10 = .ok (.if_icmp .ge 67, 3) := by decide +kernel
theorem dX1_moveToFree_13 : decode cX1_moveToFree 13 = .ok (.aload_n 0, 1) := by decide +kernel
theorem dX1_moveToFree_14 : decode cX1_moveToFree 14 = .ok (.getfield 30, 3) := by decide +kernel
theorem dX1_moveToFree_17 : decode cX1_moveToFree 17 = .ok (.iload_n 1, 1) := by decide +kernel
theorem dX1_moveToFree_18 : decode cX1_moveToFree 18 = .ok (.invokevirtual 159, 3) := by decide +kernel
theorem dX1_moveToFree_21 : decode cX1_moveToFree 21 = .ok (.istore_n 2, 1) := by decide +kernel
theorem dX1_moveToFree_22 : decode cX1_moveToFree 22 = .ok (.aload_n 0, 1) := by decide +kernel
theorem dX1_moveToFree_23 : decode cX1_moveToFree 23 = .ok (.aload_n 0, 1) := by decide +kernel
theorem dX1_moveToFree_24 : decode cX1_moveToFree 24 = .ok (.getfield 30, 3) := by decide +kernel
theorem dX1_moveToFree_27 : decode cX1_moveToFree 27 = .ok (.iload_n 1, 1) := by decide +kernel
theorem dX1_moveToFree_28 : decode cX1_moveToFree 28 = .ok (.invokevirtual 161, 3) := by decide +kernel
theorem dX1_moveToFree_31 : decode cX1_moveToFree 31 = .ok (.invokevirtual 98, 3) := by decide +kernel
theorem dX1_moveToFree_34 : decode cX1_moveToFree 34 = .ok (.astore_n 3, 1) := by decide +kernel
theorem dX1_moveToFree_35 : decode cX1_moveToFree 35 = .ok (.aload_n 0, 1) := by decide +kernel
theorem dX1_moveToFree_36 : decode cX1_moveToFree 36 = .ok (.iload_n 2, 1) := by decide +kernel
theorem dX1_moveToFree_37 : decode cX1_moveToFree 37 = .ok (.invokevirtual 164, 3) := by decide +kernel
theorem dX1_moveToFree_40 : decode cX1_moveToFree 40 = .ok (.astore 4, 2) := by decide +kernel
theorem dX1_moveToFree_42 : decode cX1_moveToFree 42 = .ok (.aload_n 3, 1) := by decide +kernel
theorem dX1_moveToFree_43 : decode cX1_moveToFree 43 = .ok (.ifnull 28, 3) := by decide +kernel
theorem dX1_moveToFree_46 : decode cX1_moveToFree 46 = .ok (.aload 4, 2) := by decide +kernel
theorem dX1_moveToFree_48 : decode cX1_moveToFree 48 = .ok (.ifnull 23, 3) := by decide +kernel
theorem dX1_moveToFree_51 : decode cX1_moveToFree 51 = .ok (.aload 4, 2) := by decide +kernel
theorem dX1_moveToFree_53 : decode cX1_moveToFree 53 = .ok (.iconst (-1), 1) := by decide +kernel
theorem dX1_moveToFree_54 : decode cX1_moveToFree 54 = .ok (.putfield 167, 3) := by decide +kernel
theorem dX1_moveToFree_57 : decode cX1_moveToFree 57 = .ok (.aload_n 0, 1) := by decide +kernel
theorem dX1_moveToFree_58 : decode cX1_moveToFree 58 = .ok (.iload_n 2, 1) := by decide +kernel
theorem dX1_moveToFree_59 : decode cX1_moveToFree 59 = .ok (.aload_n 3, 1) := by decide +kernel
theorem dX1_moveToFree_60 : decode cX1_moveToFree 60 = .ok (.invokevirtual 170, 3) := by decide +kernel
theorem dX1_moveToFree_63 : decode cX1_moveToFree 63 = .ok (.aload_n 0, 1) := by decide +kernel
theorem dX1_moveToFree_64 : decode cX1_moveToFree 64 = .ok (.aload 4, 2) := by decide +kernel
theorem dX1_moveToFree_66 : decode cX1_moveToFree 66 = .ok (.invokevirtual 89, 3) := by decide +kernel
theorem dX1_moveToFree_69 : decode cX1_moveToFree 69 = .ok (.iconst 1, 1) := by decide +kernel
theorem dX1_moveToFree_70 : decode cX1_moveToFree 70 = .ok (.ireturn, 1) := by decide +kernel
theorem dX1_moveToFree_71 : decode cX1_moveToFree 71 = .ok (.iinc 1 1, 3) := by decide +kernel
theorem dX1_moveToFree_74 : decode cX1_moveToFree 74 = .ok (.goto (-72), 3) := by decide +kernel
theorem dX1_moveToFree_77 : decode cX1_moveToFree 77 = .ok (.iconst 0, 1) := by decide +kernel
theorem dX1_moveToFree_78 : decode cX1_moveToFree 78 = .ok (.ireturn, 1) := by decide +kernel
theorem dX1_findRing_0 : decode cX1_findRing 0 = .ok (.iconst 0, 1) := by decide +kernel
theorem dX1_findRing_1 : decode cX1_findRing 1 = .ok (.istore_n 1, 1) := by decide +kernel
theorem dX1_findRing_2 : decode cX1_findRing 2 = .ok (.iload_n 1, 1) := by decide +kernel
theorem dX1_findRing_3 : decode cX1_findRing 3 = .ok (.bipush 10, 2) := by decide +kernel
theorem dX1_findRing_5 : decode cX1_findRing 5 = .ok (.if_icmp .ge 150, 3) := by decide +kernel
theorem dX1_findRing_8 : decode cX1_findRing 8 = .ok (.iload_n 1, 1) := by decide +kernel
theorem dX1_findRing_9 : decode cX1_findRing 9 = .ok (.iconst 1, 1) := by decide +kernel
theorem dX1_findRing_10 : decode cX1_findRing 10 = .ok (.iadd, 1) := by decide +kernel
theorem dX1_findRing_11 : decode cX1_findRing 11 = .ok (.istore_n 2, 1) := by decide +kernel
theorem dX1_findRing_12 : decode cX1_findRing 12 = .ok (.iload_n 2, 1) := by decide +kernel
theorem dX1_findRing_13 : decode cX1_findRing 13 = .ok (.bipush 10, 2) := by decide +kernel
theorem dX1_findRing_15 : decode cX1_findRing 15 = .ok (.if_icmp .ge 134, 3) := by decide +kernel
theorem dX1_findRing_18 : decode cX1_findRing 18 = .ok (.aload_n 0, 1) := by decide +kernel
theorem dX1_findRing_19 : decode cX1_findRing 19 = .ok (.aload_n 0, 1) := by decide +kernel
theorem dX1_findRing_20 : decode cX1_findRing 20 = .ok (.getfield 19, 3) := by decide +kernel
theorem dX1_findRing_23 : decode cX1_findRing 23 = .ok (.iload_n 1, 1) := by decide +kernel
theorem dX1_findRing_24 : decode cX1_findRing 24 = .ok (.aaload, 1) := by decide +kernel
theorem dX1_findRing_25 : decode cX1_findRing 25 = .ok (.aload_n 0, 1) := by decide +kernel
theorem dX1_findRing_26 : decode cX1_findRing 26 = .ok (.getfield 19, 3) := by decide +kernel
theorem dX1_findRing_29 : decode cX1_findRing 29 = .ok (.iload_n 2, 1) := by decide +kernel
theorem dX1_findRing_30 : decode cX1_findRing 30 = .ok (.aaload, 1) := by decide +kernel
theorem dX1_findRing_31 : decode cX1_findRing 31 = .ok (.invokevirtual 174, 3) := by decide +kernel
theorem dX1_findRing_34 : decode cX1_findRing 34 = .ok (.ifCond .ne 6, 3) := by decide +kernel
theorem dX1_findRing_37 : decode cX1_findRing 37 = .ok (.goto 106, 3) := by decide +kernel
theorem dX1_findRing_40 : decode cX1_findRing 40 = .ok (.aload_n 0, 1) := by decide +kernel
theorem dX1_findRing_41 : decode cX1_findRing 41 = .ok (.getfield 37, 3) := by decide +kernel
theorem dX1_findRing_44 : decode cX1_findRing 44 = .ok (.iconst 0, 1) := by decide +kernel
theorem dX1_findRing_45 : decode cX1_findRing 45 = .ok (.iload_n 1, 1) := by decide +kernel
theorem dX1_findRing_46 : decode cX1_findRing 46 = .ok (.iastore, 1) := by decide +kernel
theorem dX1_findRing_47 : decode cX1_findRing 47 = .ok (.aload_n 0, 1) := by decide +kernel
theorem dX1_findRing_48 : decode cX1_findRing 48 = .ok (.getfield 37, 3) := by decide +kernel
theorem dX1_findRing_51 : decode cX1_findRing 51 = .ok (.iconst 1, 1) := by decide +kernel
theorem dX1_findRing_52 : decode cX1_findRing 52 = .ok (.iload_n 2, 1) := by decide +kernel
theorem dX1_findRing_53 : decode cX1_findRing 53 = .ok (.iastore, 1) := by decide +kernel
theorem dX1_findRing_54 : decode cX1_findRing 54 = .ok (.aload_n 0, 1) := by decide +kernel
theorem dX1_findRing_55 : decode cX1_findRing 55 = .ok (.aload_n 0, 1) := by decide +kernel
theorem dX1_findRing_56 : decode cX1_findRing 56 = .ok (.getfield 19, 3) := by decide +kernel
theorem dX1_findRing_59 : decode cX1_findRing 59 = .ok (.iload_n 2, 1) := by decide +kernel
theorem dX1_findRing_60 : decode cX1_findRing 60 = .ok (.aaload, 1) := by decide +kernel
theorem dX1_findRing_61 : decode cX1_findRing 61 = .ok (.aload_n 0, 1) := by decide +kernel
theorem dX1_findRing_62 : decode cX1_findRing 62 = .ok (.getfield 19, 3) := by decide +kernel
theorem dX1_findRing_65 : decode cX1_findRing 65 = .ok (.iload_n 1, 1) := by decide +kernel
theorem dX1_findRing_66 : decode cX1_findRing 66 = .ok (.aaload, 1) := by decide +kernel
theorem dX1_findRing_67 : decode cX1_findRing 67 = .ok (.invokevirtual 174, 3) := by decide +kernel
theorem dX1_findRing_70 : decode cX1_findRing 70 = .ok (.ifCond .eq 5, 3) := by decide +kernel
theorem dX1_findRing_73 : decode cX1_findRing 73 = .ok (.iconst 2, 1) := by decide +kernel
theorem dX1_findRing_74 : decode cX1_findRing 74 = .ok (.ireturn, 1) := by decide +kernel
theorem dX1_findRing_75 : decode cX1_findRing 75 = .ok (.iload_n 1, 1) := by decide +kernel
theorem dX1_findRing_76 : decode cX1_findRing 76 = .ok (.iconst 1, 1) := by decide +kernel
theorem dX1_findRing_77 : decode cX1_findRing 77 = .ok (.iadd, 1) := by decide +kernel
theorem dX1_findRing_78 : decode cX1_findRing 78 = .ok (.istore_n 3, 1) := by decide +kernel
theorem dX1_findRing_79 : decode cX1_findRing 79 = .ok (.iload_n 3, 1) := by decide +kernel
theorem dX1_findRing_80 : decode cX1_findRing 80 = .ok (.bipush 10, 2) := by decide +kernel
theorem dX1_findRing_82 : decode cX1_findRing 82 = .ok (.if_icmp .ge 61, 3) := by decide +kernel
theorem dX1_findRing_85 : decode cX1_findRing 85 = .ok (.iload_n 3, 1) := by decide +kernel
theorem dX1_findRing_86 : decode cX1_findRing 86 = .ok (.iload_n 2, 1) := by decide +kernel
theorem dX1_findRing_87 : decode cX1_findRing 87 = .ok (.if_icmp .eq 50, 3) := by decide +kernel
theorem dX1_findRing_90 : decode cX1_findRing 90 = .ok (.aload_n 0, 1) := by decide +kernel
theorem dX1_findRing_91 : decode cX1_findRing 91 = .ok (.aload_n 0, 1) := by decide +kernel
theorem dX1_findRing_92 : decode cX1_findRing 92 = .ok (.getfield 19, 3) := by decide +kernel
theorem dX1_findRing_95 : decode cX1_findRing 95 = .ok (.iload_n 2, 1) := by decide +kernel
theorem dX1_findRing_96 : decode cX1_findRing 96 = .ok (.aaload, 1) := by decide +kernel
theorem dX1_findRing_97 : decode cX1_findRing 97 = .ok (.aload_n 0, 1) := by decide +kernel
theorem dX1_findRing_98 : decode cX1_findRing 98 = .ok (.getfield 19, 3) := by decide +kernel
theorem dX1_findRing_101 : decode cX1_findRing 101 = .ok (.iload_n 3, 1) := by decide +kernel
theorem dX1_findRing_102 : decode cX1_findRing 102 = .ok (.aaload, 1) := by decide +kernel
theorem dX1_findRing_103 : decode cX1_findRing 103 = .ok (.invokevirtual 174, 3) := by decide +kernel
theorem dX1_findRing_106 : decode cX1_findRing 106 = .ok (.ifCond .eq 31, 3) := by decide +kernel
theorem dX1_findRing_109 : decode cX1_findRing 109 = .ok (.aload_n 0, 1) := by decide +kernel
theorem dX1_findRing_110 : decode cX1_findRing 110 = .ok (.aload_n 0, 1) := by decide +kernel
theorem dX1_findRing_111 : decode cX1_findRing 111 = .ok (.getfield 19, 3) := by decide +kernel
theorem dX1_findRing_114 : decode cX1_findRing 114 = .ok (.iload_n 3, 1) := by decide +kernel
theorem dX1_findRing_115 : decode cX1_findRing 115 = .ok (.aaload, 1) := by decide +kernel
theorem dX1_findRing_116 : decode cX1_findRing 116 = .ok (.aload_n 0, 1) := by decide +kernel
theorem dX1_findRing_117 : decode cX1_findRing 117 = .ok (.getfield 19, 3) := by decide +kernel
theorem dX1_findRing_120 : decode cX1_findRing 120 = .ok (.iload_n 1, 1) := by decide +kernel
theorem dX1_findRing_121 : decode cX1_findRing 121 = .ok (.aaload, 1) := by decide +kernel
theorem dX1_findRing_122 : decode cX1_findRing 122 = .ok (.invokevirtual 174, 3) := by decide +kernel
theorem dX1_findRing_125 : decode cX1_findRing 125 = .ok (.ifCond .eq 12, 3) := by decide +kernel
theorem dX1_findRing_128 : decode cX1_findRing 128 = .ok (.aload_n 0, 1) := by decide +kernel
theorem dX1_findRing_129 : decode cX1_findRing 129 = .ok (.getfield 37, 3) := by decide +kernel
theorem dX1_findRing_132 : decode cX1_findRing 132 = .ok (.iconst 2, 1) := by decide +kernel
theorem dX1_findRing_133 : decode cX1_findRing 133 = .ok (.iload_n 3, 1) := by decide +kernel
theorem dX1_findRing_134 : decode cX1_findRing 134 = .ok (.iastore, 1) := by decide +kernel
theorem dX1_findRing_135 : decode cX1_findRing 135 = .ok (.iconst 3, 1) := by decide +kernel
theorem dX1_findRing_136 : decode cX1_findRing 136 = .ok (.ireturn, 1) := by decide +kernel
theorem dX1_findRing_137 : decode cX1_findRing 137 = .ok (.iinc 3 1, 3) := by decide +kernel
theorem dX1_findRing_140 : decode cX1_findRing 140 = .ok (.goto (-61), 3) := by decide +kernel
theorem dX1_findRing_143 : decode cX1_findRing 143 = .ok (.iinc 2 1, 3) := by decide +kernel
theorem dX1_findRing_146 : decode cX1_findRing 146 = .ok (.goto (-134), 3) := by decide +kernel
theorem dX1_findRing_149 : decode cX1_findRing 149 = .ok (.iinc 1 1, 3) := by decide +kernel
theorem dX1_findRing_152 : decode cX1_findRing 152 = .ok (.goto (-150), 3) := by decide +kernel
theorem dX1_findRing_155 : decode cX1_findRing 155 = .ok (.iconst 0, 1) := by decide +kernel
theorem dX1_findRing_156 : decode cX1_findRing 156 = .ok (.ireturn, 1) := by decide +kernel
theorem dX1_wants_0 : decode cX1_wants 0 = .ok (.aload_n 0, 1) := by decide +kernel
theorem dX1_wants_1 : decode cX1_wants 1 = .ok (.aload_n 2, 1) := by decide +kernel
theorem dX1_wants_2 : decode cX1_wants 2 = .ok (.getfield 71, 3) := by decide +kernel
theorem dX1_wants_5 : decode cX1_wants 5 = .ok (.invokevirtual 74, 3) := by decide +kernel
theorem dX1_wants_8 : decode cX1_wants 8 = .ok (.astore_n 3, 1) := by decide +kernel
theorem dX1_wants_9 : decode cX1_wants 9 = .ok (.aload_n 3, 1) := by decide +kernel
theorem dX1_wants_10 : decode cX1_wants 10 = .ok (.ifnull 25, 3) := by decide +kernel
theorem dX1_wants_13 : decode cX1_wants 13 = .ok (.aload_n 0, 1) := by decide +kernel
theorem dX1_wants_14 : decode cX1_wants 14 = .ok (.getfield 30, 3) := by decide +kernel
theorem dX1_wants_17 : decode cX1_wants 17 = .ok (.aload_n 1, 1) := by decide +kernel
theorem dX1_wants_18 : decode cX1_wants 18 = .ok (.getfield 145, 3) := by decide +kernel
theorem dX1_wants_21 : decode cX1_wants 21 = .ok (.invokevirtual 146, 3) := by decide +kernel
theorem dX1_wants_24 : decode cX1_wants 24 = .ok (.aload_n 3, 1) := by decide +kernel
theorem dX1_wants_25 : decode cX1_wants 25 = .ok (.getfield 78, 3) := by decide +kernel
theorem dX1_wants_28 : decode cX1_wants 28 = .ok (.if_icmp .ne 7, 3) := by decide +kernel
theorem dX1_wants_31 : decode cX1_wants 31 = .ok (.iconst 1, 1) := by decide +kernel
theorem dX1_wants_32 : decode cX1_wants 32 = .ok (.goto 4, 3) := by decide +kernel
theorem dX1_wants_35 : decode cX1_wants 35 = .ok (.iconst 0, 1) := by decide +kernel
theorem dX1_wants_36 : decode cX1_wants 36 = .ok (.ireturn, 1) := by decide +kernel
theorem dX1_moveAround_0 : decode cX1_moveAround 0 = .ok (.aload_n 0, 1) := by decide +kernel
theorem dX1_moveAround_1 : decode cX1_moveAround 1 = .ok (.aload_n 0, 1) := by decide +kernel
theorem dX1_moveAround_2 : decode cX1_moveAround 2 = .ok (.getfield 37, 3) := by decide +kernel
theorem dX1_moveAround_5 : decode cX1_moveAround 5 = .ok (.iconst 0, 1) := by decide +kernel
theorem dX1_moveAround_6 : decode cX1_moveAround 6 = .ok (.iaload, 1) := by decide +kernel
theorem dX1_moveAround_7 : decode cX1_moveAround 7 = .ok (.invokevirtual 164, 3) := by decide +kernel
theorem dX1_moveAround_10 : decode cX1_moveAround 10 = .ok (.astore_n 2, 1) := by decide +kernel
theorem dX1_moveAround_11 : decode cX1_moveAround 11 = .ok (.iconst 0, 1) := by decide +kernel
theorem dX1_moveAround_12 : decode cX1_moveAround 12 = .ok (.istore_n 3, 1) := by decide +kernel
theorem dX1_moveAround_13 : decode cX1_moveAround 13 = .ok (.iload_n 3, 1) := by decide +kernel
theorem dX1_moveAround_14 : decode cX1_moveAround 14 = .ok (.iload_n 1, 1) := by decide +kernel
theorem dX1_moveAround_15 : decode cX1_moveAround 15 = .ok (.if_icmp .ge 66, 3) := by decide +kernel
theorem dX1_moveAround_18 : decode cX1_moveAround 18 = .ok (.iload_n 3, 1) := by decide +kernel
theorem dX1_moveAround_19 : decode cX1_moveAround 19 = .ok (.iconst 3, 1) := by decide +kernel
theorem dX1_moveAround_20 : decode cX1_moveAround 20 = .ok (.if_icmp .ge 61, 3) := by decide +kernel
theorem dX1_moveAround_23 : decode cX1_moveAround 23 = .ok (.iload_n 3, 1) := by decide +kernel
theorem dX1_moveAround_24 : decode cX1_moveAround 24 = .ok (.iconst 1, 1) := by decide +kernel
theorem dX1_moveAround_25 : decode cX1_moveAround 25 = .ok (.iadd, 1) := by decide +kernel
theorem dX1_moveAround_26 : decode cX1_moveAround 26 = .ok (.iload_n 1, 1) := by decide +kernel
theorem dX1_moveAround_27 : decode cX1_moveAround 27 = .ok (.if_icmp .ge 14, 3) := by decide +kernel
theorem dX1_moveAround_30 : decode cX1_moveAround 30 = .ok (.iload_n 3, 1) := by decide +kernel
theorem dX1_moveAround_31 : decode cX1_moveAround 31 = .ok (.iconst 1, 1) := by decide +kernel
theorem dX1_moveAround_32 : decode cX1_moveAround 32 = .ok (.iadd, 1) := by decide +kernel
theorem dX1_moveAround_33 : decode cX1_moveAround 33 = .ok (.iconst 3, 1) := by decide +kernel
theorem dX1_moveAround_34 : decode cX1_moveAround 34 = .ok (.if_icmp .ge 7, 3) := by decide +kernel
theorem dX1_moveAround_37 : decode cX1_moveAround 37 = .ok (.iconst 1, 1) := by decide +kernel
theorem dX1_moveAround_38 : decode cX1_moveAround 38 = .ok (.goto 4, 3) := by decide +kernel
theorem dX1_moveAround_41 : decode cX1_moveAround 41 = .ok (.iconst 0, 1) := by decide +kernel
theorem dX1_moveAround_42 : decode cX1_moveAround 42 = .ok (.istore 4, 2) := by decide +kernel
theorem dX1_moveAround_44 : decode cX1_moveAround 44 = .ok (.aload_n 0, 1) := by decide +kernel
theorem dX1_moveAround_45 : decode cX1_moveAround 45 = .ok (.aload_n 0, 1) := by decide +kernel
theorem dX1_moveAround_46 : decode cX1_moveAround 46 = .ok (.getfield 37, 3) := by decide +kernel
theorem dX1_moveAround_49 : decode cX1_moveAround 49 = .ok (.iload_n 3, 1) := by decide +kernel
theorem dX1_moveAround_50 : decode cX1_moveAround 50 = .ok (.iaload, 1) := by decide +kernel
theorem dX1_moveAround_51 : decode cX1_moveAround 51 = .ok (.iload 4, 2) := by decide +kernel
theorem dX1_moveAround_53 : decode cX1_moveAround 53 = .ok (.ifCond .eq 18, 3) := by decide +kernel
theorem dX1_moveAround_56 : decode cX1_moveAround 56 = .ok (.aload_n 0, 1) := by decide +kernel
theorem dX1_moveAround_57 : decode cX1_moveAround 57 = .ok (.aload_n 0, 1) := by decide +kernel
theorem dX1_moveAround_58 : decode cX1_moveAround 58 = .ok (.getfield 37, 3) := by decide +kernel
theorem dX1_moveAround_61 : decode cX1_moveAround 61 = .ok (.iload_n 3, 1) := by decide +kernel
theorem dX1_moveAround_62 : decode cX1_moveAround 62 = .ok (.iconst 1, 1) := by decide +kernel
theorem dX1_moveAround_63 : decode cX1_moveAround 63 = .ok (.iadd, 1) := by decide +kernel
theorem dX1_moveAround_64 : decode cX1_moveAround 64 = .ok (.iaload, 1) := by decide +kernel
theorem dX1_moveAround_65 : decode cX1_moveAround 65 = .ok (.invokevirtual 164, 3) := by decide +kernel
theorem dX1_moveAround_68 : decode cX1_moveAround 68 = .ok (.goto 4, 3) := by decide +kernel
theorem dX1_moveAround_71 : decode cX1_moveAround 71 = .ok (.aload_n 2, 1) := by decide +kernel
theorem dX1_moveAround_72 : decode cX1_moveAround 72 = .ok (.invokevirtual 170, 3) := by decide +kernel
theorem dX1_moveAround_75 : decode cX1_moveAround 75 = .ok (.iinc 3 1, 3) := by decide +kernel
theorem dX1_moveAround_78 : decode cX1_moveAround 78 = .ok (.goto (-65), 3) := by decide +kernel
theorem dX1_moveAround_81 : decode cX1_moveAround 81 = .ok (.return_, 1) := by decide +kernel
theorem dX1_payCoins_0 : decode cX1_payCoins 0 = .ok (.aload_n 0, 1) := by decide +kernel
theorem dX1_payCoins_1 : decode cX1_payCoins 1 = .ok (.iload_n 1, 1) := by decide +kernel
theorem dX1_payCoins_2 : decode cX1_payCoins 2 = .ok (.invokevirtual 67, 3) := by decide +kernel
theorem dX1_payCoins_5 : decode cX1_payCoins 5 = .ok (.astore_n 3, 1) := by decide +kernel
theorem dX1_payCoins_6 : decode cX1_payCoins 6 = .ok (.aload_n 3, 1) := by decide +kernel
theorem dX1_payCoins_7 : decode cX1_payCoins 7 = .ok (.ifnull 15, 3) := by decide +kernel
theorem dX1_payCoins_10 : decode cX1_payCoins 10 = .ok (.iload_n 2, 1) := by decide +kernel
theorem dX1_payCoins_11 : decode cX1_payCoins 11 = .ok (.iconst 1, 1) := by decide +kernel
theorem dX1_payCoins_12 : decode cX1_payCoins 12 = .ok (.if_icmp .lt 10, 3) := by decide +kernel
theorem dX1_payCoins_15 : decode cX1_payCoins 15 = .ok (.iload_n 2, 1) := by decide +kernel
theorem dX1_payCoins_16 : decode cX1_payCoins 16 = .ok (.sipush 999, 3) := by decide +kernel
theorem dX1_payCoins_19 : decode cX1_payCoins 19 = .ok (.if_icmp .le 5, 3) := by decide +kernel
theorem dX1_payCoins_22 : decode cX1_payCoins 22 = .ok (.iconst (-1), 1) := by decide +kernel
theorem dX1_payCoins_23 : decode cX1_payCoins 23 = .ok (.ireturn, 1) := by decide +kernel
theorem dX1_payCoins_24 : decode cX1_payCoins 24 = .ok (.aload_n 3, 1) := by decide +kernel
theorem dX1_payCoins_25 : decode cX1_payCoins 25 = .ok (.getfield 95, 3) := by decide +kernel
theorem dX1_payCoins_28 : decode cX1_payCoins 28 = .ok (.iload_n 2, 1) := by decide +kernel
theorem dX1_payCoins_29 : decode cX1_payCoins 29 = .ok (.if_icmp .ge 6, 3) := by decide +kernel
theorem dX1_payCoins_32 : decode cX1_payCoins 32 = .ok (.bipush (-2), 2) := by decide +kernel
theorem dX1_payCoins_34 : decode cX1_payCoins 34 = .ok (.ireturn, 1) := by decide +kernel
theorem dX1_payCoins_35 : decode cX1_payCoins 35 = .ok (.aload_n 3, 1) := by decide +kernel
theorem dX1_payCoins_36 : decode cX1_payCoins 36 = .ok (.dup, 1) := by decide +kernel
theorem dX1_payCoins_37 : decode cX1_payCoins 37 = .ok (.getfield 95, 3) := by decide +kernel
theorem dX1_payCoins_40 : decode cX1_payCoins 40 = .ok (.iload_n 2, 1) := by decide +kernel
theorem dX1_payCoins_41 : decode cX1_payCoins 41 = .ok (.isub, 1) := by decide +kernel
theorem dX1_payCoins_42 : decode cX1_payCoins 42 = .ok (.putfield 95, 3) := by decide +kernel
theorem dX1_payCoins_45 : decode cX1_payCoins 45 = .ok (.aload_n 3, 1) := by decide +kernel
theorem dX1_payCoins_46 : decode cX1_payCoins 46 = .ok (.dup, 1) := by decide +kernel
theorem dX1_payCoins_47 : decode cX1_payCoins 47 = .ok (.getfield 178, 3) := by decide +kernel
theorem dX1_payCoins_50 : decode cX1_payCoins 50 = .ok (.iload_n 2, 1) := by decide +kernel
theorem dX1_payCoins_51 : decode cX1_payCoins 51 = .ok (.iadd, 1) := by decide +kernel
theorem dX1_payCoins_52 : decode cX1_payCoins 52 = .ok (.putfield 178, 3) := by decide +kernel
theorem dX1_payCoins_55 : decode cX1_payCoins 55 = .ok (.aload_n 3, 1) := by decide +kernel
theorem dX1_payCoins_56 : decode cX1_payCoins 56 = .ok (.getfield 95, 3) := by decide +kernel
theorem dX1_payCoins_59 : decode cX1_payCoins 59 = .ok (.ireturn, 1) := by decide +kernel
theorem dX1_passDays_0 : decode cX1_passDays 0 = .ok (.iload_n 1, 1) := by decide +kernel
theorem dX1_passDays_1 : decode cX1_passDays 1 = .ok (.iconst 1, 1) := by decide +kernel
theorem dX1_passDays_2 : decode cX1_passDays 2 = .ok (.if_icmp .lt 9, 3) := by decide +kernel
theorem dX1_passDays_5 : decode cX1_passDays 5 = .ok (.iload_n 1, 1) := by decide +kernel
theorem dX1_passDays_6 : decode cX1_passDays 6 = .ok (.bipush 99, 2) := by decide +kernel
theorem dX1_passDays_8 : decode cX1_passDays 8 = .ok (.if_icmp .le 5, 3) := by decide +kernel
theorem dX1_passDays_11 : decode cX1_passDays 11 = .ok (.iconst (-1), 1) := by decide +kernel
theorem dX1_passDays_12 : decode cX1_passDays 12 = .ok (.ireturn, 1) := by decide +kernel
theorem dX1_passDays_13 : decode cX1_passDays 13 = .ok (.aload_n 0, 1) := by decide +kernel
theorem dX1_passDays_14 : decode cX1_passDays 14 = .ok (.getfield 61, 3) := by decide +kernel
theorem dX1_passDays_17 : decode cX1_passDays 17 = .ok (.iload_n 1, 1) := by decide +kernel
theorem dX1_passDays_18 : decode cX1_passDays 18 = .ok (.iadd, 1) := by decide +kernel
theorem dX1_passDays_19 : decode cX1_passDays 19 = .ok (.iload_n 2, 1) := by decide +kernel
theorem dX1_passDays_20 : decode cX1_passDays 20 = .ok (.if_icmp .le 6, 3) := by decide +kernel
theorem dX1_passDays_23 : decode cX1_passDays 23 = .ok (.bipush (-3), 2) := by decide +kernel
theorem dX1_passDays_25 : decode cX1_passDays 25 = .ok (.ireturn, 1) := by decide +kernel
theorem dX1_passDays_26 : decode cX1_passDays 26 = .ok (.iconst 0, 1) := by decide +kernel
theorem dX1_passDays_27 : decode cX1_passDays 27 = .ok (.istore_n 3, 1) := by decide +kernel
theorem dX1_passDays_28 : decode cX1_passDays 28 = .ok (.iconst 0, 1) := by decide +kernel
theorem dX1_passDays_29 : decode cX1_passDays 29 = .ok (.istore 4, 2) := by decide +kernel
theorem dX1_passDays_31 : decode cX1_passDays 31 = .ok (.iload 4, 2) := by decide +kernel
theorem dX1_passDays_33 : decode cX1_passDays 33 = .ok (.iload_n 1, 1) := by decide +kernel
theorem dX1_passDays_34 : decode cX1_passDays 34 = .ok (.if_icmp .ge 30, 3) := by decide +kernel
theorem dX1_passDays_37 : decode cX1_passDays 37 = .ok (.aload_n 0, 1) := by decide +kernel
theorem dX1_passDays_38 : decode cX1_passDays 38 = .ok (.dup, 1) := by decide +kernel
theorem dX1_passDays_39 : decode cX1_passDays 39 = .ok (.getfield 61, 3) := by decide +kernel
theorem dX1_passDays_42 : decode cX1_passDays 42 = .ok (.iconst 1, 1) := by decide +kernel
theorem dX1_passDays_43 : decode cX1_passDays 43 = .ok (.iadd, 1) := by decide +kernel
theorem dX1_passDays_44 : decode cX1_passDays 44 = .ok (.putfield 61, 3) := by decide +kernel
theorem dX1_passDays_47 : decode cX1_passDays 47 = .ok (.aload_n 0, 1) := by decide +kernel
theorem dX1_passDays_48 : decode cX1_passDays 48 = .ok (.invokevirtual 181, 3) := by decide +kernel
theorem dX1_passDays_51 : decode cX1_passDays 51 = .ok (.iload_n 3, 1) := by decide +kernel
theorem dX1_passDays_52 : decode cX1_passDays 52 = .ok (.aload_n 0, 1) := by decide +kernel
theorem dX1_passDays_53 : decode cX1_passDays 53 = .ok (.invokevirtual 184, 3) := by decide +kernel
theorem dX1_passDays_56 : decode cX1_passDays 56 = .ok (.iadd, 1) := by decide +kernel
theorem dX1_passDays_57 : decode cX1_passDays 57 = .ok (.istore_n 3, 1) := by decide +kernel
theorem dX1_passDays_58 : decode cX1_passDays 58 = .ok (.iinc 4 1, 3) := by decide +kernel
theorem dX1_passDays_61 : decode cX1_passDays 61 = .ok (.goto (-30), 3) := by decide +kernel
theorem dX1_passDays_64 : decode cX1_passDays 64 = .ok (.iload_n 3, 1) := by decide +kernel
theorem dX1_passDays_65 : decode cX1_passDays 65 = .ok (.ireturn, 1) := by decide +kernel
theorem dX1_endClosing_0 : decode cX1_endClosing 0 = .ok (.iconst 0, 1) := by decide +kernel
theorem dX1_endClosing_1 : decode cX1_endClosing 1 = .ok (.istore_n 1, 1) := by decide +kernel
theorem dX1_endClosing_2 : decode cX1_endClosing 2 = .ok (.iload_n 1, 1) := by decide +kernel
theorem dX1_endClosing_3 : decode cX1_endClosing 3 = .ok (.bipush 12, 2) := by decide +kernel
theorem dX1_endClosing_5 : decode cX1_endClosing 5 = .ok (.if_icmp .ge 45, 3) := by decide +kernel
theorem dX1_endClosing_8 : decode cX1_endClosing 8 = .ok (.aload_n 0, 1) := by decide +kernel
theorem dX1_endClosing_9 : decode cX1_endClosing 9 = .ok (.getfield 11, 3) := by decide +kernel
theorem dX1_endClosing_12 : decode cX1_endClosing 12 = .ok (.iload_n 1, 1) := by decide +kernel
theorem dX1_endClosing_13 : decode cX1_endClosing 13 = .ok (.aaload, 1) := by decide +kernel
theorem dX1_endClosing_14 : decode cX1_endClosing 14 = .ok (.astore_n 2, 1) := by decide +kernel
theorem dX1_endClosing_15 : decode cX1_endClosing 15 = .ok (.aload_n 2, 1) := by decide +kernel
theorem dX1_endClosing_16 : decode cX1_endClosing 16 = .ok (.getfield 142, 3) := by decide +kernel
theorem dX1_endClosing_19 : decode cX1_endClosing 19 = .ok (.iconst (-1), 1) := by decide +kernel
theorem dX1_endClosing_20 : decode cX1_endClosing 20 = .ok (.if_icmp .eq 24, 3) := by decide +kernel
theorem dX1_endClosing_23 : decode cX1_endClosing 23 = .ok (.aload_n 2, 1) := by decide +kernel
theorem dX1_endClosing_24 : decode cX1_endClosing 24 = .ok (.getfield 142, 3) := by decide +kernel
theorem dX1_endClosing_27 : decode cX1_endClosing 27 = .ok (.aload_n 0, 1) := by decide +kernel
theorem dX1_endClosing_28 : decode cX1_endClosing 28 = .ok (.getfield 61, 3) := by decide +kernel
theorem dX1_endClosing_31 : decode cX1_endClosing 31 = .ok (.if_icmp .gt 13, 3) := by decide +kernel
theorem dX1_endClosing_34 : decode cX1_endClosing 34 = .ok (.aload_n 2, 1) := by decide +kernel
theorem dX1_endClosing_35 : decode cX1_endClosing 35 = .ok (.iconst (-1), 1) := by decide +kernel
theorem dX1_endClosing_36 : decode cX1_endClosing 36 = .ok (.putfield 142, 3) := by decide +kernel
theorem dX1_endClosing_39 : decode cX1_endClosing 39 = .ok (.aload_n 0, 1) := by decide +kernel
theorem dX1_endClosing_40 : decode cX1_endClosing 40 = .ok (.aload_n 2, 1) := by decide +kernel
theorem dX1_endClosing_41 : decode cX1_endClosing 41 = .ok (.invokevirtual 89, 3) := by decide +kernel
theorem dX1_endClosing_44 : decode cX1_endClosing 44 = .ok (.iinc 1 1, 3) := by decide +kernel
theorem dX1_endClosing_47 : decode cX1_endClosing 47 = .ok (.goto (-45), 3) := by decide +kernel
theorem dX1_endClosing_50 : decode cX1_endClosing 50 = .ok (.return_, 1) := by decide +kernel
theorem dX1_chargeOverdue_0 : decode cX1_chargeOverdue 0 = .ok (.iconst 0, 1) := by decide +kernel
theorem dX1_chargeOverdue_1 : decode cX1_chargeOverdue 1 = .ok (.istore_n 1, 1) := by decide +kernel
theorem dX1_chargeOverdue_2 : decode cX1_chargeOverdue 2 = .ok (.iconst 0, 1) := by decide +kernel
theorem dX1_chargeOverdue_3 : decode cX1_chargeOverdue 3 = .ok (.istore_n 2, 1) := by decide +kernel
theorem dX1_chargeOverdue_4 : decode cX1_chargeOverdue 4 = .ok (.iload_n 2, 1) := by decide +kernel
theorem dX1_chargeOverdue_5 : decode cX1_chargeOverdue 5 = .ok (.bipush 10, 2) := by decide +kernel
theorem dX1_chargeOverdue_7 : decode cX1_chargeOverdue 7 = .ok (.if_icmp .ge 120, 3) := by decide +kernel
theorem dX1_chargeOverdue_10 : decode cX1_chargeOverdue 10 = .ok (.aload_n 0, 1) := by decide +kernel
theorem dX1_chargeOverdue_11 : decode cX1_chargeOverdue 11 = .ok (.getfield 19, 3) := by decide +kernel
theorem dX1_chargeOverdue_14 : decode cX1_chargeOverdue 14 = .ok (.iload_n 2, 1) := by decide +kernel
theorem dX1_chargeOverdue_15 : decode cX1_chargeOverdue 15 = .ok (.aaload, 1) := by decide +kernel
theorem dX1_chargeOverdue_16 : decode cX1_chargeOverdue 16 = .ok (.astore_n 3, 1) := by decide +kernel
theorem dX1_chargeOverdue_17 : decode cX1_chargeOverdue 17 = .ok (.aload_n 3, 1) := by decide +kernel
theorem dX1_chargeOverdue_18 : decode cX1_chargeOverdue 18 = .ok (.aload_n 0, 1) := by decide +kernel
theorem dX1_chargeOverdue_19 : decode cX1_chargeOverdue 19 = .ok (.getfield 61, 3) := by decide +kernel
theorem dX1_chargeOverdue_22 : decode cX1_chargeOverdue 22 = .ok (.invokevirtual 118, 3) := by decide +kernel
theorem dX1_chargeOverdue_25 : decode cX1_chargeOverdue 25 = .ok (.istore 4, 2) := by decide +kernel
theorem dX1_chargeOverdue_27 : decode cX1_chargeOverdue 27 = .ok (.iload 4, 2) := by decide +kernel
theorem dX1_chargeOverdue_29 : decode cX1_chargeOverdue 29 = .ok (.ifCond .le 14, 3) := by decide +kernel
theorem dX1_chargeOverdue_32 : decode cX1_chargeOverdue 32 = .ok (.aload_n 0, 1) := by decide +kernel
theorem dX1_chargeOverdue_33 : decode cX1_chargeOverdue 33 = .ok (.aload_n 3, 1) := by decide +kernel
theorem dX1_chargeOverdue_34 : decode cX1_chargeOverdue 34 = .ok (.getfield 71, 3) := by decide +kernel
theorem dX1_chargeOverdue_37 : decode cX1_chargeOverdue 37 = .ok (.invokevirtual 74, 3) := by decide +kernel
theorem dX1_chargeOverdue_40 : decode cX1_chargeOverdue 40 = .ok (.goto 4, 3) := by decide +kernel
theorem dX1_chargeOverdue_43 : decode cX1_chargeOverdue 43 = .ok (.aconst_null, 1) := by decide +kernel
theorem dX1_chargeOverdue_44 : decode cX1_chargeOverdue 44 = .ok (.astore 5, 2) := by decide +kernel
theorem dX1_chargeOverdue_46 : decode cX1_chargeOverdue 46 = .ok (.aload 5, 2) := by decide +kernel
theorem dX1_chargeOverdue_48 : decode cX1_chargeOverdue 48 = .ok (.ifnull 73, 3) := by decide +kernel
theorem dX1_chargeOverdue_51 : decode cX1_chargeOverdue 51 = .ok (.aload_n 3, 1) := by decide +kernel
theorem dX1_chargeOverdue_52 : decode cX1_chargeOverdue 52 = .ok (.dup, 1) := by decide +kernel
theorem dX1_chargeOverdue_53 : decode cX1_chargeOverdue 53 = .ok (.getfield 95, 3) := by decide +kernel
theorem dX1_chargeOverdue_56 : decode cX1_chargeOverdue 56 = .ok (.iload 4, 2) := by decide +kernel
theorem dX1_chargeOverdue_58 : decode cX1_chargeOverdue 58 = .ok (.invokestatic 187, 3) := by decide +kernel
theorem dX1_chargeOverdue_61 : decode cX1_chargeOverdue 61 = .ok (.aload 5, 2) := by decide +kernel
theorem dX1_chargeOverdue_63 : decode cX1_chargeOverdue 63 = .ok (.getfield 78, 3) := by decide +kernel
theorem dX1_chargeOverdue_66 : decode cX1_chargeOverdue 66 = .ok (.iconst 1, 1) := by decide +kernel
theorem dX1_chargeOverdue_67 : decode cX1_chargeOverdue 67 = .ok (.iadd, 1) := by decide +kernel
theorem dX1_chargeOverdue_68 : decode cX1_chargeOverdue 68 = .ok (.imul, 1) := by decide +kernel
theorem dX1_chargeOverdue_69 : decode cX1_chargeOverdue 69 = .ok (.iadd, 1) := by decide +kernel
theorem dX1_chargeOverdue_70 : decode cX1_chargeOverdue 70 = .ok (.putfield 95, 3) := by decide +kernel
theorem dX1_chargeOverdue_73 : decode cX1_chargeOverdue 73 = .ok (.iload 4, 2) := by decide +kernel
theorem dX1_chargeOverdue_75 : decode cX1_chargeOverdue 75 = .ok (.bipush 21, 2) := by decide +kernel
theorem dX1_chargeOverdue_77 : decode cX1_chargeOverdue 77 = .ok (.if_icmp .lt 44, 3) := by decide +kernel
theorem dX1_chargeOverdue_80 : decode cX1_chargeOverdue 80 = .ok (.aload_n 3, 1) := by decide +kernel
theorem dX1_chargeOverdue_81 : decode cX1_chargeOverdue 81 = .ok (.dup, 1) := by decide +kernel
theorem dX1_chargeOverdue_82 : decode cX1_chargeOverdue 82 = .ok (.getfield 95, 3) := by decide +kernel
theorem dX1_chargeOverdue_85 : decode cX1_chargeOverdue 85 = .ok (.aload_n 0, 1) := by decide +kernel
theorem dX1_chargeOverdue_86 : decode cX1_chargeOverdue 86 = .ok (.getfield 33, 3) := by decide +kernel
theorem dX1_chargeOverdue_89 : decode cX1_chargeOverdue 89 = .ok (.iconst 2, 1) := by decide +kernel
theorem dX1_chargeOverdue_90 : decode cX1_chargeOverdue 90 = .ok (.iaload, 1) := by decide +kernel
theorem dX1_chargeOverdue_91 : decode cX1_chargeOverdue 91 = .ok (.iadd, 1) := by decide +kernel
theorem dX1_chargeOverdue_92 : decode cX1_chargeOverdue 92 = .ok (.putfield 95, 3) := by decide +kernel
theorem dX1_chargeOverdue_95 : decode cX1_chargeOverdue 95 = .ok (.aload_n 3, 1) := by decide +kernel
theorem dX1_chargeOverdue_96 : decode cX1_chargeOverdue 96 = .ok (.dup, 1) := by decide +kernel
theorem dX1_chargeOverdue_97 : decode cX1_chargeOverdue 97 = .ok (.getfield 190, 3) := by decide +kernel
theorem dX1_chargeOverdue_100 : decode cX1_chargeOverdue 100 = .ok (.iconst 1, 1) := by decide +kernel
theorem dX1_chargeOverdue_101 : decode cX1_chargeOverdue 101 = .ok (.iadd, 1) := by decide +kernel
theorem dX1_chargeOverdue_102 : decode cX1_chargeOverdue 102 = .ok (.putfield 190, 3) := by decide +kernel
theorem dX1_chargeOverdue_105 : decode cX1_chargeOverdue 105 = .ok (.aload_n 0, 1) := by decide +kernel
theorem dX1_chargeOverdue_106 : decode cX1_chargeOverdue 106 = .ok (.aload_n 3, 1) := by decide +kernel
theorem dX1_chargeOverdue_107 : decode cX1_chargeOverdue 107 = .ok (.aload 5, 2) := by decide +kernel
theorem dX1_chargeOverdue_109 : decode cX1_chargeOverdue 109 = .ok (.invokevirtual 121, 3) := by decide +kernel
theorem dX1_chargeOverdue_112 : decode cX1_chargeOverdue 112 = .ok (.aload_n 0, 1) := by decide +kernel
theorem dX1_chargeOverdue_113 : decode cX1_chargeOverdue 113 = .ok (.aload 5, 2) := by decide +kernel
theorem dX1_chargeOverdue_115 : decode cX1_chargeOverdue 115 = .ok (.invokevirtual 89, 3) := by decide +kernel
theorem dX1_chargeOverdue_118 : decode cX1_chargeOverdue 118 = .ok (.iinc 1 1, 3) := by decide +kernel
theorem dX1_chargeOverdue_121 : decode cX1_chargeOverdue 121 = .ok (.iinc 2 1, 3) := by decide +kernel
theorem dX1_chargeOverdue_124 : decode cX1_chargeOverdue 124 = .ok (.goto (-120), 3) := by decide +kernel
theorem dX1_chargeOverdue_127 : decode cX1_chargeOverdue 127 = .ok (.iload_n 1, 1) := by decide +kernel
theorem dX1_chargeOverdue_128 : decode cX1_chargeOverdue 128 = .ok (.ireturn, 1) := by decide +kernel
theorem dX1_feeOfDay_0 : decode cX1_feeOfDay 0 = .ok (.iload_n 0, 1) := by decide +kernel
theorem dX1_feeOfDay_1 : decode cX1_feeOfDay 1 = .ok (.bipush 7, 2) := by decide +kernel
theorem dX1_feeOfDay_3 : decode cX1_feeOfDay 3 = .ok (.if_icmp .gt 5, 3) := by decide +kernel
theorem dX1_feeOfDay_6 : decode cX1_feeOfDay 6 = .ok (.iconst 1, 1) := by decide +kernel
theorem dX1_feeOfDay_7 : decode cX1_feeOfDay 7 = .ok (.ireturn, 1) := by decide +kernel
theorem dX1_feeOfDay_8 : decode cX1_feeOfDay 8 = .ok (.iload_n 0, 1) := by decide +kernel
theorem dX1_feeOfDay_9 : decode cX1_feeOfDay 9 = .ok (.bipush 14, 2) := by decide +kernel
theorem dX1_feeOfDay_11 : decode cX1_feeOfDay 11 = .ok (.if_icmp .gt 7, 3) := by decide +kernel
theorem dX1_feeOfDay_14 : decode cX1_feeOfDay 14 = .ok (.iconst 2, 1) := by decide +kernel
theorem dX1_feeOfDay_15 : decode cX1_feeOfDay 15 = .ok (.goto 4, 3) := by decide +kernel
theorem dX1_feeOfDay_18 : decode cX1_feeOfDay 18 = .ok (.iconst 4, 1) := by decide +kernel
theorem dX1_feeOfDay_19 : decode cX1_feeOfDay 19 = .ok (.ireturn, 1) := by decide +kernel
theorem dX1_changeSetting_0 : decode cX1_changeSetting 0 = .ok (.iload_n 1, 1) := by decide +kernel
theorem dX1_changeSetting_1 : decode cX1_changeSetting 1 = .ok (.ifCond .lt 24, 3) := by decide +kernel
theorem dX1_changeSetting_4 : decode cX1_changeSetting 4 = .ok (.iload_n 1, 1) := by decide +kernel
theorem dX1_changeSetting_5 : decode cX1_changeSetting 5 = .ok (.iconst 3, 1) := by decide +kernel
theorem dX1_changeSetting_6 : decode cX1_changeSetting 6 = .ok (.if_icmp .ge 19, 3) := by decide +kernel
theorem dX1_changeSetting_9 : decode cX1_changeSetting 9 = .ok (.iload_n 2, 1) := by decide +kernel
theorem dX1_changeSetting_10 : decode cX1_changeSetting 10 = .ok (.iload_n 1, 1) := by decide +kernel
theorem dX1_changeSetting_11 : decode cX1_changeSetting 11 = .ok (.invokestatic 193, 3) := by decide +kernel
theorem dX1_changeSetting_14 : decode cX1_changeSetting 14 = .ok (.if_icmp .lt 11, 3) := by decide +kernel
theorem dX1_changeSetting_17 : decode cX1_changeSetting 17 = .ok (.iload_n 2, 1) := by decide +kernel
theorem dX1_changeSetting_18 : decode cX1_changeSetting 18 = .ok (.iload_n 1, 1) := by decide +kernel
theorem dX1_changeSetting_19 : decode cX1_changeSetting 19 = .ok (.invokestatic 196, 3) := by decide +kernel
theorem dX1_changeSetting_22 : decode cX1_changeSetting 22 = .ok (.if_icmp .le 5, 3) := by decide +kernel
theorem dX1_changeSetting_25 : decode cX1_changeSetting 25 = .ok (.iconst (-1), 1) := by decide +kernel
theorem dX1_changeSetting_26 : decode cX1_changeSetting 26 = .ok (.ireturn, 1) := by decide +kernel
theorem dX1_changeSetting_27 : decode cX1_changeSetting 27 = .ok (.aload_n 0, 1) := by decide +kernel
theorem dX1_changeSetting_28 : decode cX1_changeSetting 28 = .ok (.getfield 33, 3) := by decide +kernel
theorem dX1_changeSetting_31 : decode cX1_changeSetting 31 = .ok (.iload_n 1, 1) := by decide +kernel
theorem dX1_changeSetting_32 : decode cX1_changeSetting 32 = .ok (.iaload, 1) := by decide +kernel
theorem dX1_changeSetting_33 : decode cX1_changeSetting 33 = .ok (.istore_n 3, 1) := by decide +kernel
theorem dX1_changeSetting_34 : decode cX1_changeSetting 34 = .ok (.aload_n 0, 1) := by decide +kernel
theorem dX1_changeSetting_35 : decode cX1_changeSetting 35 = .ok (.getfield 33, 3) := by decide +kernel
theorem dX1_changeSetting_38 : decode cX1_changeSetting 38 = .ok (.iload_n 1, 1) := by decide +kernel
theorem dX1_changeSetting_39 : decode cX1_changeSetting 39 = .ok (.iload_n 2, 1) := by decide +kernel
theorem dX1_changeSetting_40 : decode cX1_changeSetting 40 = .ok (.iastore, 1) := by decide +kernel
theorem dX1_changeSetting_41 : decode cX1_changeSetting 41 = .ok (.iload_n 3, 1) := by decide +kernel
theorem dX1_changeSetting_42 : decode cX1_changeSetting 42 = .ok (.ireturn, 1) := by decide +kernel
theorem dX1_lowestSetting_0 : decode cX1_lowestSetting 0 = .ok (.iload_n 0, 1) := by decide +kernel
theorem dX1_lowestSetting_1 : decode cX1_lowestSetting 1 = .ok (.ifCond .ne 7, 3) := by decide +kernel
theorem dX1_lowestSetting_4 : decode cX1_lowestSetting 4 = .ok (.iconst 1, 1) := by decide +kernel
theorem dX1_lowestSetting_5 : decode cX1_lowestSetting 5 = .ok (.goto 4, 3) := by decide +kernel
theorem dX1_lowestSetting_8 : decode cX1_lowestSetting 8 = .ok (.iconst 0, 1) := by decide +kernel
theorem dX1_lowestSetting_9 : decode cX1_lowestSetting 9 = .ok (.ireturn, 1) := by decide +kernel
theorem dX1_highestSetting_0 : decode cX1_highestSetting 0 = .ok (.iload_n 0, 1) := by decide +kernel
theorem dX1_highestSetting_1 : decode cX1_highestSetting 1 = .ok (.lookupswitch 32 #[(0, 27), (1, 30)], 27) := by decide +kernel
theorem dX1_highestSetting_28 : decode cX1_highestSetting 28 = .ok (.bipush 60, 2) := by decide +kernel
theorem dX1_highestSetting_30 : decode cX1_highestSetting 30 = .ok (.ireturn, 1) := by decide +kernel
theorem dX1_highestSetting_31 : decode cX1_highestSetting 31 = .ok (.iconst 5, 1) := by decide +kernel
theorem dX1_highestSetting_32 : decode cX1_highestSetting 32 = .ok (.ireturn, 1) := by decide +kernel
theorem dX1_highestSetting_33 : decode cX1_highestSetting 33 = .ok (.bipush 99, 2) := by decide +kernel
theorem dX1_highestSetting_35 : decode cX1_highestSetting 35 = .ok (.ireturn, 1) := by decide +kernel
theorem dX1_lowestFree_0 : decode cX1_lowestFree 0 = .ok (.iconst 0, 1) := by decide +kernel
theorem dX1_lowestFree_1 : decode cX1_lowestFree 1 = .ok (.istore_n 2, 1) := by decide +kernel
theorem dX1_lowestFree_2 : decode cX1_lowestFree 2 = .ok (.iload_n 2, 1) := by decide +kernel
theorem dX1_lowestFree_3 : decode cX1_lowestFree 3 = .ok (.bipush 12, 2) := by decide +kernel
theorem dX1_lowestFree_5 : decode cX1_lowestFree 5 = .ok (.if_icmp .ge 38, 3) := by decide +kernel
theorem dX1_lowestFree_8 : decode cX1_lowestFree 8 = .ok (.aload_n 0, 1) := by decide +kernel
theorem dX1_lowestFree_9 : decode cX1_lowestFree 9 = .ok (.getfield 11, 3) := by decide +kernel
theorem dX1_lowestFree_12 : decode cX1_lowestFree 12 = .ok (.iload_n 2, 1) := by decide +kernel
theorem dX1_lowestFree_13 : decode cX1_lowestFree 13 = .ok (.aaload, 1) := by decide +kernel
theorem dX1_lowestFree_14 : decode cX1_lowestFree 14 = .ok (.astore_n 3, 1) := by decide +kernel
theorem dX1_lowestFree_15 : decode cX1_lowestFree 15 = .ok (.aload_n 3, 1) := by decide +kernel
theorem dX1_lowestFree_16 : decode cX1_lowestFree 16 = .ok (.invokevirtual 199, 3) := by decide +kernel
theorem dX1_lowestFree_19 : decode cX1_lowestFree 19 = .ok (.ifCond .eq 18, 3) := by decide +kernel
theorem dX1_lowestFree_22 : decode cX1_lowestFree 22 = .ok (.iload_n 1, 1) := by decide +kernel
theorem dX1_lowestFree_23 : decode cX1_lowestFree 23 = .ok (.iconst 3, 1) := by decide +kernel
theorem dX1_lowestFree_24 : decode cX1_lowestFree 24 = .ok (.if_icmp .eq 11, 3) := by decide +kernel
theorem dX1_lowestFree_27 : decode cX1_lowestFree 27 = .ok (.iload_n 1, 1) := by decide +kernel
theorem dX1_lowestFree_28 : decode cX1_lowestFree 28 = .ok (.aload_n 3, 1) := by decide +kernel
theorem dX1_lowestFree_29 : decode cX1_lowestFree 29 = .ok (.getfield 78, 3) := by decide +kernel
theorem dX1_lowestFree_32 : decode cX1_lowestFree 32 = .ok (.if_icmp .ne 5, 3) := by decide +kernel
theorem dX1_lowestFree_35 : decode cX1_lowestFree 35 = .ok (.aload_n 3, 1) := by decide +kernel
theorem dX1_lowestFree_36 : decode cX1_lowestFree 36 = .ok (.areturn, 1) := by decide +kernel
theorem dX1_lowestFree_37 : decode cX1_lowestFree 37 = .ok (.iinc 2 1, 3) := by decide +kernel
theorem dX1_lowestFree_40 : decode cX1_lowestFree 40 = .ok (.goto (-38), 3) := by decide +kernel
theorem dX1_lowestFree_43 : decode cX1_lowestFree 43 = .ok (.aconst_null, 1) := by decide +kernel
theorem dX1_lowestFree_44 : decode cX1_lowestFree 44 = .ok (.areturn, 1) := by decide +kernel
theorem dX1_offer_0 : decode cX1_offer 0 = .ok (.aload_n 0, 1) := by decide +kernel
theorem dX1_offer_1 : decode cX1_offer 1 = .ok (.aload_n 0, 1) := by decide +kernel
theorem dX1_offer_2 : decode cX1_offer 2 = .ok (.getfield 26, 3) := by decide +kernel
theorem dX1_offer_5 : decode cX1_offer 5 = .ok (.aload_n 1, 1) := by decide +kernel
theorem dX1_offer_6 : decode cX1_offer 6 = .ok (.getfield 78, 3) := by decide +kernel
theorem dX1_offer_9 : decode cX1_offer 9 = .ok (.invokevirtual 124, 3) := by decide +kernel
theorem dX1_offer_12 : decode cX1_offer 12 = .ok (.invokevirtual 67, 3) := by decide +kernel
theorem dX1_offer_15 : decode cX1_offer 15 = .ok (.astore_n 2, 1) := by decide +kernel
theorem dX1_offer_16 : decode cX1_offer 16 = .ok (.aload_n 2, 1) := by decide +kernel
theorem dX1_offer_17 : decode cX1_offer 17 = .ok (.ifnull 27, 3) := by decide +kernel
theorem dX1_offer_20 : decode cX1_offer 20 = .ok (.aload_n 1, 1) := by decide +kernel
theorem dX1_offer_21 : decode cX1_offer 21 = .ok (.invokevirtual 199, 3) := by decide +kernel
theorem dX1_offer_24 : decode cX1_offer 24 = .ok (.ifCond .eq 20, 3) := by decide +kernel
theorem dX1_offer_27 : decode cX1_offer 27 = .ok (.aload_n 0, 1) := by decide +kernel
theorem dX1_offer_28 : decode cX1_offer 28 = .ok (.getfield 26, 3) := by decide +kernel
theorem dX1_offer_31 : decode cX1_offer 31 = .ok (.aload_n 2, 1) := by decide +kernel
theorem dX1_offer_32 : decode cX1_offer 32 = .ok (.getfield 145, 3) := by decide +kernel
theorem dX1_offer_35 : decode cX1_offer 35 = .ok (.invokevirtual 115, 3) := by decide +kernel
theorem dX1_offer_38 : decode cX1_offer 38 = .ok (.aload_n 0, 1) := by decide +kernel
theorem dX1_offer_39 : decode cX1_offer 39 = .ok (.aload_n 2, 1) := by decide +kernel
theorem dX1_offer_40 : decode cX1_offer 40 = .ok (.aload_n 1, 1) := by decide +kernel
theorem dX1_offer_41 : decode cX1_offer 41 = .ok (.invokevirtual 108, 3) := by decide +kernel
theorem dX1_offer_44 : decode cX1_offer 44 = .ok (.return_, 1) := by decide +kernel
theorem dX1_beginLoan_0 : decode cX1_beginLoan 0 = .ok (.aload_n 1, 1) := by decide +kernel
theorem dX1_beginLoan_1 : decode cX1_beginLoan 1 = .ok (.aload_n 2, 1) := by decide +kernel
theorem dX1_beginLoan_2 : decode cX1_beginLoan 2 = .ok (.getfield 112, 3) := by decide +kernel
theorem dX1_beginLoan_5 : decode cX1_beginLoan 5 = .ok (.putfield 71, 3) := by decide +kernel
theorem dX1_beginLoan_8 : decode cX1_beginLoan 8 = .ok (.aload_n 1, 1) := by decide +kernel
theorem dX1_beginLoan_9 : decode cX1_beginLoan 9 = .ok (.aload_n 0, 1) := by decide +kernel
theorem dX1_beginLoan_10 : decode cX1_beginLoan 10 = .ok (.getfield 61, 3) := by decide +kernel
theorem dX1_beginLoan_13 : decode cX1_beginLoan 13 = .ok (.aload_n 0, 1) := by decide +kernel
theorem dX1_beginLoan_14 : decode cX1_beginLoan 14 = .ok (.getfield 33, 3) := by decide +kernel
theorem dX1_beginLoan_17 : decode cX1_beginLoan 17 = .ok (.iconst 0, 1) := by decide +kernel
theorem dX1_beginLoan_18 : decode cX1_beginLoan 18 = .ok (.iaload, 1) := by decide +kernel
theorem dX1_beginLoan_19 : decode cX1_beginLoan 19 = .ok (.iadd, 1) := by decide +kernel
theorem dX1_beginLoan_20 : decode cX1_beginLoan 20 = .ok (.putfield 130, 3) := by decide +kernel
theorem dX1_beginLoan_23 : decode cX1_beginLoan 23 = .ok (.aload_n 1, 1) := by decide +kernel
theorem dX1_beginLoan_24 : decode cX1_beginLoan 24 = .ok (.iconst 0, 1) := by decide +kernel
theorem dX1_beginLoan_25 : decode cX1_beginLoan 25 = .ok (.putfield 127, 3) := by decide +kernel
theorem dX1_beginLoan_28 : decode cX1_beginLoan 28 = .ok (.aload_n 2, 1) := by decide +kernel
theorem dX1_beginLoan_29 : decode cX1_beginLoan 29 = .ok (.aload_n 1, 1) := by decide +kernel
theorem dX1_beginLoan_30 : decode cX1_beginLoan 30 = .ok (.getfield 145, 3) := by decide +kernel
theorem dX1_beginLoan_33 : decode cX1_beginLoan 33 = .ok (.putfield 167, 3) := by decide +kernel
theorem dX1_beginLoan_36 : decode cX1_beginLoan 36 = .ok (.aload_n 2, 1) := by decide +kernel
theorem dX1_beginLoan_37 : decode cX1_beginLoan 37 = .ok (.dup, 1) := by decide +kernel
theorem dX1_beginLoan_38 : decode cX1_beginLoan 38 = .ok (.getfield 203, 3) := by decide +kernel
theorem dX1_beginLoan_41 : decode cX1_beginLoan 41 = .ok (.iconst 1, 1) := by decide +kernel
theorem dX1_beginLoan_42 : decode cX1_beginLoan 42 = .ok (.iadd, 1) := by decide +kernel
theorem dX1_beginLoan_43 : decode cX1_beginLoan 43 = .ok (.putfield 203, 3) := by decide +kernel
theorem dX1_beginLoan_46 : decode cX1_beginLoan 46 = .ok (.return_, 1) := by decide +kernel
theorem dX1_endLoan_0 : decode cX1_endLoan 0 = .ok (.aload_n 1, 1) := by decide +kernel
theorem dX1_endLoan_1 : decode cX1_endLoan 1 = .ok (.iconst (-1), 1) := by decide +kernel
theorem dX1_endLoan_2 : decode cX1_endLoan 2 = .ok (.putfield 71, 3) := by decide +kernel
theorem dX1_endLoan_5 : decode cX1_endLoan 5 = .ok (.aload_n 2, 1) := by decide +kernel
theorem dX1_endLoan_6 : decode cX1_endLoan 6 = .ok (.iconst (-1), 1) := by decide +kernel
theorem dX1_endLoan_7 : decode cX1_endLoan 7 = .ok (.putfield 167, 3) := by decide +kernel
theorem dX1_endLoan_10 : decode cX1_endLoan 10 = .ok (.aload_n 0, 1) := by decide +kernel
theorem dX1_endLoan_11 : decode cX1_endLoan 11 = .ok (.getfield 30, 3) := by decide +kernel
theorem dX1_endLoan_14 : decode cX1_endLoan 14 = .ok (.aload_n 1, 1) := by decide +kernel
theorem dX1_endLoan_15 : decode cX1_endLoan 15 = .ok (.getfield 145, 3) := by decide +kernel
theorem dX1_endLoan_18 : decode cX1_endLoan 18 = .ok (.invokevirtual 115, 3) := by decide +kernel
theorem dX1_endLoan_21 : decode cX1_endLoan 21 = .ok (.return_, 1) := by decide +kernel
theorem dX1_move_0 : decode cX1_move 0 = .ok (.aload_n 0, 1) := by decide +kernel
theorem dX1_move_1 : decode cX1_move 1 = .ok (.iload_n 1, 1) := by decide +kernel
theorem dX1_move_2 : decode cX1_move 2 = .ok (.invokevirtual 67, 3) := by decide +kernel
theorem dX1_move_5 : decode cX1_move 5 = .ok (.astore_n 3, 1) := by decide +kernel
theorem dX1_move_6 : decode cX1_move 6 = .ok (.aload_n 3, 1) := by decide +kernel
theorem dX1_move_7 : decode cX1_move 7 = .ok (.ifnull 7, 3) := by decide +kernel
theorem dX1_move_10 : decode cX1_move 10 = .ok (.aload_n 2, 1) := by decide +kernel
theorem dX1_move_11 : decode cX1_move 11 = .ok (.ifnonnull 4, 3) := by decide +kernel
theorem dX1_move_14 : decode cX1_move 14 = .ok (.return_, 1) := by decide +kernel
theorem dX1_move_15 : decode cX1_move 15 = .ok (.aload_n 3, 1) := by decide +kernel
theorem dX1_move_16 : decode cX1_move 16 = .ok (.aload_n 2, 1) := by decide +kernel
theorem dX1_move_17 : decode cX1_move 17 = .ok (.getfield 112, 3) := by decide +kernel
theorem dX1_move_20 : decode cX1_move 20 = .ok (.putfield 71, 3) := by decide +kernel
theorem dX1_move_23 : decode cX1_move 23 = .ok (.aload_n 2, 1) := by decide +kernel
theorem dX1_move_24 : decode cX1_move 24 = .ok (.iload_n 1, 1) := by decide +kernel
theorem dX1_move_25 : decode cX1_move 25 = .ok (.putfield 167, 3) := by decide +kernel
theorem dX1_move_28 : decode cX1_move 28 = .ok (.aload_n 2, 1) := by decide +kernel
theorem dX1_move_29 : decode cX1_move 29 = .ok (.dup, 1) := by decide +kernel
theorem dX1_move_30 : decode cX1_move 30 = .ok (.getfield 203, 3) := by decide +kernel
theorem dX1_move_33 : decode cX1_move 33 = .ok (.iconst 1, 1) := by decide +kernel
theorem dX1_move_34 : decode cX1_move 34 = .ok (.iadd, 1) := by decide +kernel
theorem dX1_move_35 : decode cX1_move 35 = .ok (.putfield 203, 3) := by decide +kernel
theorem dX1_move_38 : decode cX1_move 38 = .ok (.aload_n 0, 1) := by decide +kernel
theorem dX1_move_39 : decode cX1_move 39 = .ok (.getfield 30, 3) := by decide +kernel
theorem dX1_move_42 : decode cX1_move 42 = .ok (.iload_n 1, 1) := by decide +kernel
theorem dX1_move_43 : decode cX1_move 43 = .ok (.invokevirtual 115, 3) := by decide +kernel
theorem dX1_move_46 : decode cX1_move 46 = .ok (.return_, 1) := by decide +kernel
theorem dX1_tellOfPerson_0 : decode cX1_tellOfPerson 0 = .ok (.aload_n 0, 1) := by decide +kernel
theorem dX1_tellOfPerson_1 : decode cX1_tellOfPerson 1 = .ok (.iload_n 1, 1) := by decide +kernel
theorem dX1_tellOfPerson_2 : decode cX1_tellOfPerson 2 = .ok (.invokevirtual 67, 3) := by decide +kernel
theorem dX1_tellOfPerson_5 : decode cX1_tellOfPerson 5 = .ok (.astore_n 3, 1) := by decide +kernel
theorem dX1_tellOfPerson_6 : decode cX1_tellOfPerson 6 = .ok (.aload_n 3, 1) := by decide +kernel
theorem dX1_tellOfPerson_7 : decode cX1_tellOfPerson 7 = .ok (.ifnull 13, 3) := by decide +kernel
theorem dX1_tellOfPerson_10 : decode cX1_tellOfPerson 10 = .ok (.iload_n 2, 1) := by decide +kernel
theorem dX1_tellOfPerson_11 : decode cX1_tellOfPerson 11 = .ok (.ifCond .lt 9, 3) := by decide +kernel
theorem dX1_tellOfPerson_14 : decode cX1_tellOfPerson 14 = .ok (.iload_n 2, 1) := by decide +kernel
theorem dX1_tellOfPerson_15 : decode cX1_tellOfPerson 15 = .ok (.bipush 9, 2) := by decide +kernel
theorem dX1_tellOfPerson_17 : decode cX1_tellOfPerson 17 = .ok (.if_icmp .le 5, 3) := by decide +kernel
theorem dX1_tellOfPerson_20 : decode cX1_tellOfPerson 20 = .ok (.iconst (-1), 1) := by decide +kernel
theorem dX1_tellOfPerson_21 : decode cX1_tellOfPerson 21 = .ok (.ireturn, 1) := by decide +kernel
theorem dX1_tellOfPerson_22 : decode cX1_tellOfPerson 22 = .ok (.iload_n 2, 1) := by decide +kernel
theorem dX1_tellOfPerson_23 : decode cX1_tellOfPerson 23 = .ok (.iconst 3, 1) := by decide +kernel
theorem dX1_tellOfPerson_24 : decode cX1_tellOfPerson 24 = .ok (.if_icmp .gt 14, 3) := by decide +kernel
theorem dX1_tellOfPerson_27 : decode cX1_tellOfPerson 27 = .ok (.aload_n 3, 1) := by decide +kernel
theorem dX1_tellOfPerson_28 : decode cX1_tellOfPerson 28 = .ok (.getfield 71, 3) := by decide +kernel
theorem dX1_tellOfPerson_31 : decode cX1_tellOfPerson 31 = .ok (.iconst (-1), 1) := by decide +kernel
theorem dX1_tellOfPerson_32 : decode cX1_tellOfPerson 32 = .ok (.if_icmp .ne 6, 3) := by decide +kernel
theorem dX1_tellOfPerson_35 : decode cX1_tellOfPerson 35 = .ok (.bipush (-4), 2) := by decide +kernel
theorem dX1_tellOfPerson_37 : decode cX1_tellOfPerson 37 = .ok (.ireturn, 1) := by decide +kernel
theorem dX1_tellOfPerson_38 : decode cX1_tellOfPerson 38 = .ok (.iload_n 2, 1) := by decide +kernel
theorem dX1_tellOfPerson_39 : decode cX1_tellOfPerson 39 = .ok (.tableswitch 112 0 8 #[49, 54, 59, 64, 73, 78, 83, 95, 107], 49) := by decide +kernel
theorem dX1_tellOfPerson_88 : decode cX1_tellOfPerson 88 = .ok (.aload_n 3, 1) := by decide +kernel
theorem dX1_tellOfPerson_89 : decode cX1_tellOfPerson 89 = .ok (.getfield 71, 3) := by decide +kernel
theorem dX1_tellOfPerson_92 : decode cX1_tellOfPerson 92 = .ok (.ireturn, 1) := by decide +kernel
theorem dX1_tellOfPerson_93 : decode cX1_tellOfPerson 93 = .ok (.aload_n 3, 1) := by decide +kernel
theorem dX1_tellOfPerson_94 : decode cX1_tellOfPerson 94 = .ok (.getfield 130, 3) := by decide +kernel
theorem dX1_tellOfPerson_97 : decode cX1_tellOfPerson 97 = .ok (.ireturn, 1) := by decide +kernel
theorem dX1_tellOfPerson_98 : decode cX1_tellOfPerson 98 = .ok (.aload_n 3, 1) := by decide +kernel
theorem dX1_tellOfPerson_99 : decode cX1_tellOfPerson 99 = .ok (.getfield 127, 3) := by decide +kernel
theorem dX1_tellOfPerson_102 : decode cX1_tellOfPerson 102 = .ok (.ireturn, 1) := by decide +kernel
theorem dX1_tellOfPerson_103 : decode cX1_tellOfPerson 103 = .ok (.aload_n 3, 1) := by decide +kernel
theorem dX1_tellOfPerson_104 : decode cX1_tellOfPerson 104 = .ok (.aload_n 0, 1) := by decide +kernel
theorem dX1_tellOfPerson_105 : decode cX1_tellOfPerson 105 = .ok (.getfield 61, 3) := by decide +kernel
theorem dX1_tellOfPerson_108 : decode cX1_tellOfPerson 108 = .ok (.invokevirtual 118, 3) := by decide +kernel
theorem dX1_tellOfPerson_111 : decode cX1_tellOfPerson 111 = .ok (.ireturn, 1) := by decide +kernel
theorem dX1_tellOfPerson_112 : decode cX1_tellOfPerson 112 = .ok (.aload_n 3, 1) := by decide +kernel
theorem dX1_tellOfPerson_113 : decode cX1_tellOfPerson 113 = .ok (.getfield 95, 3) := by decide +kernel
theorem dX1_tellOfPerson_116 : decode cX1_tellOfPerson 116 = .ok (.ireturn, 1) := by decide +kernel
end
section
theorem dX1_tellOfPerson_117 : decode cX1_tellOfPerson 117 = .ok (.aload_n 3, 1) := by decide +kernel
theorem dX1_tellOfPerson_118 : decode cX1_tellOfPerson 118 = .ok (.getfield 178, 3) := by decide +kernel
theorem dX1_tellOfPerson_121 : decode cX1_tellOfPerson 121 = .ok (.ireturn, 1) := by decide +kernel
theorem dX1_tellOfPerson_122 : decode cX1_tellOfPerson 122 = .ok (.aload_n 0, 1) := by decide +kernel
theorem dX1_tellOfPerson_123 : decode cX1_tellOfPerson 123 = .ok (.getfield 30, 3) := by decide +kernel
theorem dX1_tellOfPerson_126 : decode cX1_tellOfPerson 126 = .ok (.iload_n 1, 1) := by decide +kernel
theorem dX1_tellOfPerson_127 : decode cX1_tellOfPerson 127 = .ok (.invokevirtual 146, 3) := by decide +kernel
theorem dX1_tellOfPerson_130 : decode cX1_tellOfPerson 130 = .ok (.invokestatic 206, 3) := by decide +kernel
theorem dX1_tellOfPerson_133 : decode cX1_tellOfPerson 133 = .ok (.ireturn, 1) := by decide +kernel
theorem dX1_tellOfPerson_134 : decode cX1_tellOfPerson 134 = .ok (.aload_n 0, 1) := by decide +kernel
theorem dX1_tellOfPerson_135 : decode cX1_tellOfPerson 135 = .ok (.getfield 26, 3) := by decide +kernel
theorem dX1_tellOfPerson_138 : decode cX1_tellOfPerson 138 = .ok (.iload_n 1, 1) := by decide +kernel
theorem dX1_tellOfPerson_139 : decode cX1_tellOfPerson 139 = .ok (.invokevirtual 92, 3) := by decide +kernel
theorem dX1_tellOfPerson_142 : decode cX1_tellOfPerson 142 = .ok (.invokestatic 206, 3) := by decide +kernel
theorem dX1_tellOfPerson_145 : decode cX1_tellOfPerson 145 = .ok (.ireturn, 1) := by decide +kernel
theorem dX1_tellOfPerson_146 : decode cX1_tellOfPerson 146 = .ok (.aload_n 3, 1) := by decide +kernel
theorem dX1_tellOfPerson_147 : decode cX1_tellOfPerson 147 = .ok (.getfield 133, 3) := by decide +kernel
theorem dX1_tellOfPerson_150 : decode cX1_tellOfPerson 150 = .ok (.ireturn, 1) := by decide +kernel
theorem dX1_tellOfPerson_151 : decode cX1_tellOfPerson 151 = .ok (.aload_n 3, 1) := by decide +kernel
theorem dX1_tellOfPerson_152 : decode cX1_tellOfPerson 152 = .ok (.getfield 190, 3) := by decide +kernel
theorem dX1_tellOfPerson_155 : decode cX1_tellOfPerson 155 = .ok (.ireturn, 1) := by decide +kernel
theorem dX1_tellOfLocker_0 : decode cX1_tellOfLocker 0 = .ok (.aload_n 0, 1) := by decide +kernel
theorem dX1_tellOfLocker_1 : decode cX1_tellOfLocker 1 = .ok (.iload_n 1, 1) := by decide +kernel
theorem dX1_tellOfLocker_2 : decode cX1_tellOfLocker 2 = .ok (.invokevirtual 74, 3) := by decide +kernel
theorem dX1_tellOfLocker_5 : decode cX1_tellOfLocker 5 = .ok (.astore_n 3, 1) := by decide +kernel
theorem dX1_tellOfLocker_6 : decode cX1_tellOfLocker 6 = .ok (.aload_n 3, 1) := by decide +kernel
theorem dX1_tellOfLocker_7 : decode cX1_tellOfLocker 7 = .ok (.ifnonnull 5, 3) := by decide +kernel
theorem dX1_tellOfLocker_10 : decode cX1_tellOfLocker 10 = .ok (.iconst (-1), 1) := by decide +kernel
theorem dX1_tellOfLocker_11 : decode cX1_tellOfLocker 11 = .ok (.ireturn, 1) := by decide +kernel
theorem dX1_tellOfLocker_12 : decode cX1_tellOfLocker 12 = .ok (.iload_n 2, 1) := by decide +kernel
theorem dX1_tellOfLocker_13 : decode cX1_tellOfLocker 13 = .ok (.tableswitch 108 0 6 #[43, 48, 61, 69, 82, 95, 103], 43) := by decide +kernel
theorem dX1_tellOfLocker_56 : decode cX1_tellOfLocker 56 = .ok (.aload_n 3, 1) := by decide +kernel
theorem dX1_tellOfLocker_57 : decode cX1_tellOfLocker 57 = .ok (.getfield 78, 3) := by decide +kernel
theorem dX1_tellOfLocker_60 : decode cX1_tellOfLocker 60 = .ok (.ireturn, 1) := by decide +kernel
theorem dX1_tellOfLocker_61 : decode cX1_tellOfLocker 61 = .ok (.aload_n 3, 1) := by decide +kernel
theorem dX1_tellOfLocker_62 : decode cX1_tellOfLocker 62 = .ok (.getfield 81, 3) := by decide +kernel
theorem dX1_tellOfLocker_65 : decode cX1_tellOfLocker 65 = .ok (.ifCond .eq 7, 3) := by decide +kernel
theorem dX1_tellOfLocker_68 : decode cX1_tellOfLocker 68 = .ok (.iconst 1, 1) := by decide +kernel
theorem dX1_tellOfLocker_69 : decode cX1_tellOfLocker 69 = .ok (.goto 4, 3) := by decide +kernel
theorem dX1_tellOfLocker_72 : decode cX1_tellOfLocker 72 = .ok (.iconst 0, 1) := by decide +kernel
theorem dX1_tellOfLocker_73 : decode cX1_tellOfLocker 73 = .ok (.ireturn, 1) := by decide +kernel
theorem dX1_tellOfLocker_74 : decode cX1_tellOfLocker 74 = .ok (.aload_n 3, 1) := by decide +kernel
theorem dX1_tellOfLocker_75 : decode cX1_tellOfLocker 75 = .ok (.getfield 167, 3) := by decide +kernel
theorem dX1_tellOfLocker_78 : decode cX1_tellOfLocker 78 = .ok (.invokestatic 206, 3) := by decide +kernel
theorem dX1_tellOfLocker_81 : decode cX1_tellOfLocker 81 = .ok (.ireturn, 1) := by decide +kernel
theorem dX1_tellOfLocker_82 : decode cX1_tellOfLocker 82 = .ok (.aload_n 3, 1) := by decide +kernel
theorem dX1_tellOfLocker_83 : decode cX1_tellOfLocker 83 = .ok (.invokevirtual 199, 3) := by decide +kernel
theorem dX1_tellOfLocker_86 : decode cX1_tellOfLocker 86 = .ok (.ifCond .eq 7, 3) := by decide +kernel
theorem dX1_tellOfLocker_89 : decode cX1_tellOfLocker 89 = .ok (.iconst 1, 1) := by decide +kernel
theorem dX1_tellOfLocker_90 : decode cX1_tellOfLocker 90 = .ok (.goto 4, 3) := by decide +kernel
theorem dX1_tellOfLocker_93 : decode cX1_tellOfLocker 93 = .ok (.iconst 0, 1) := by decide +kernel
theorem dX1_tellOfLocker_94 : decode cX1_tellOfLocker 94 = .ok (.ireturn, 1) := by decide +kernel
theorem dX1_tellOfLocker_95 : decode cX1_tellOfLocker 95 = .ok (.aload_n 3, 1) := by decide +kernel
theorem dX1_tellOfLocker_96 : decode cX1_tellOfLocker 96 = .ok (.getfield 136, 3) := by decide +kernel
theorem dX1_tellOfLocker_99 : decode cX1_tellOfLocker 99 = .ok (.ifCond .eq 7, 3) := by decide +kernel
theorem dX1_tellOfLocker_102 : decode cX1_tellOfLocker 102 = .ok (.iconst 1, 1) := by decide +kernel
theorem dX1_tellOfLocker_103 : decode cX1_tellOfLocker 103 = .ok (.goto 4, 3) := by decide +kernel
theorem dX1_tellOfLocker_106 : decode cX1_tellOfLocker 106 = .ok (.iconst 0, 1) := by decide +kernel
theorem dX1_tellOfLocker_107 : decode cX1_tellOfLocker 107 = .ok (.ireturn, 1) := by decide +kernel
theorem dX1_tellOfLocker_108 : decode cX1_tellOfLocker 108 = .ok (.aload_n 3, 1) := by decide +kernel
theorem dX1_tellOfLocker_109 : decode cX1_tellOfLocker 109 = .ok (.getfield 142, 3) := by decide +kernel
theorem dX1_tellOfLocker_112 : decode cX1_tellOfLocker 112 = .ok (.invokestatic 206, 3) := by decide +kernel
theorem dX1_tellOfLocker_115 : decode cX1_tellOfLocker 115 = .ok (.ireturn, 1) := by decide +kernel
theorem dX1_tellOfLocker_116 : decode cX1_tellOfLocker 116 = .ok (.aload_n 3, 1) := by decide +kernel
theorem dX1_tellOfLocker_117 : decode cX1_tellOfLocker 117 = .ok (.getfield 203, 3) := by decide +kernel
theorem dX1_tellOfLocker_120 : decode cX1_tellOfLocker 120 = .ok (.ireturn, 1) := by decide +kernel
theorem dX1_tellOfLocker_121 : decode cX1_tellOfLocker 121 = .ok (.iconst (-1), 1) := by decide +kernel
theorem dX1_tellOfLocker_122 : decode cX1_tellOfLocker 122 = .ok (.ireturn, 1) := by decide +kernel
theorem dX1_foundOr_0 : decode cX1_foundOr 0 = .ok (.iload_n 0, 1) := by decide +kernel
theorem dX1_foundOr_1 : decode cX1_foundOr 1 = .ok (.iconst (-1), 1) := by decide +kernel
theorem dX1_foundOr_2 : decode cX1_foundOr 2 = .ok (.if_icmp .ne 8, 3) := by decide +kernel
theorem dX1_foundOr_5 : decode cX1_foundOr 5 = .ok (.bipush (-4), 2) := by decide +kernel
theorem dX1_foundOr_7 : decode cX1_foundOr 7 = .ok (.goto 4, 3) := by decide +kernel
theorem dX1_foundOr_10 : decode cX1_foundOr 10 = .ok (.iload_n 0, 1) := by decide +kernel
theorem dX1_foundOr_11 : decode cX1_foundOr 11 = .ok (.ireturn, 1) := by decide +kernel
theorem dX1_tellNumber_0 : decode cX1_tellNumber 0 = .ok (.iload_n 1, 1) := by decide +kernel
theorem dX1_tellNumber_1 : decode cX1_tellNumber 1 = .ok (.tableswitch 134 0 11 #[63, 68, 73, 78, 83, 88, 93, 101, 109, 114, 119, 129], 63) := by decide +kernel
theorem dX1_tellNumber_64 : decode cX1_tellNumber 64 = .ok (.aload_n 0, 1) := by decide +kernel
theorem dX1_tellNumber_65 : decode cX1_tellNumber 65 = .ok (.getfield 54, 3) := by decide +kernel
theorem dX1_tellNumber_68 : decode cX1_tellNumber 68 = .ok (.ireturn, 1) := by decide +kernel
theorem dX1_tellNumber_69 : decode cX1_tellNumber 69 = .ok (.aload_n 0, 1) := by decide +kernel
theorem dX1_tellNumber_70 : decode cX1_tellNumber 70 = .ok (.getfield 58, 3) := by decide +kernel
theorem dX1_tellNumber_73 : decode cX1_tellNumber 73 = .ok (.ireturn, 1) := by decide +kernel
theorem dX1_tellNumber_74 : decode cX1_tellNumber 74 = .ok (.aload_n 0, 1) := by decide +kernel
theorem dX1_tellNumber_75 : decode cX1_tellNumber 75 = .ok (.getfield 61, 3) := by decide +kernel
theorem dX1_tellNumber_78 : decode cX1_tellNumber 78 = .ok (.ireturn, 1) := by decide +kernel
theorem dX1_tellNumber_79 : decode cX1_tellNumber 79 = .ok (.aload_n 0, 1) := by decide +kernel
theorem dX1_tellNumber_80 : decode cX1_tellNumber 80 = .ok (.invokevirtual 209, 3) := by decide +kernel
theorem dX1_tellNumber_83 : decode cX1_tellNumber 83 = .ok (.ireturn, 1) := by decide +kernel
theorem dX1_tellNumber_84 : decode cX1_tellNumber 84 = .ok (.aload_n 0, 1) := by decide +kernel
theorem dX1_tellNumber_85 : decode cX1_tellNumber 85 = .ok (.invokevirtual 212, 3) := by decide +kernel
theorem dX1_tellNumber_88 : decode cX1_tellNumber 88 = .ok (.ireturn, 1) := by decide +kernel
theorem dX1_tellNumber_89 : decode cX1_tellNumber 89 = .ok (.aload_n 0, 1) := by decide +kernel
theorem dX1_tellNumber_90 : decode cX1_tellNumber 90 = .ok (.invokevirtual 215, 3) := by decide +kernel
theorem dX1_tellNumber_93 : decode cX1_tellNumber 93 = .ok (.ireturn, 1) := by decide +kernel
theorem dX1_tellNumber_94 : decode cX1_tellNumber 94 = .ok (.aload_n 0, 1) := by decide +kernel
theorem dX1_tellNumber_95 : decode cX1_tellNumber 95 = .ok (.getfield 26, 3) := by decide +kernel
theorem dX1_tellNumber_98 : decode cX1_tellNumber 98 = .ok (.getfield 105, 3) := by decide +kernel
theorem dX1_tellNumber_101 : decode cX1_tellNumber 101 = .ok (.ireturn, 1) := by decide +kernel
theorem dX1_tellNumber_102 : decode cX1_tellNumber 102 = .ok (.aload_n 0, 1) := by decide +kernel
theorem dX1_tellNumber_103 : decode cX1_tellNumber 103 = .ok (.getfield 30, 3) := by decide +kernel
theorem dX1_tellNumber_106 : decode cX1_tellNumber 106 = .ok (.getfield 105, 3) := by decide +kernel
theorem dX1_tellNumber_109 : decode cX1_tellNumber 109 = .ok (.ireturn, 1) := by decide +kernel
theorem dX1_tellNumber_110 : decode cX1_tellNumber 110 = .ok (.aload_n 0, 1) := by decide +kernel
theorem dX1_tellNumber_111 : decode cX1_tellNumber 111 = .ok (.invokevirtual 218, 3) := by decide +kernel
theorem dX1_tellNumber_114 : decode cX1_tellNumber 114 = .ok (.ireturn, 1) := by decide +kernel
theorem dX1_tellNumber_115 : decode cX1_tellNumber 115 = .ok (.aload_n 0, 1) := by decide +kernel
theorem dX1_tellNumber_116 : decode cX1_tellNumber 116 = .ok (.invokevirtual 221, 3) := by decide +kernel
theorem dX1_tellNumber_119 : decode cX1_tellNumber 119 = .ok (.ireturn, 1) := by decide +kernel
theorem dX1_tellNumber_120 : decode cX1_tellNumber 120 = .ok (.aload_n 0, 1) := by decide +kernel
theorem dX1_tellNumber_121 : decode cX1_tellNumber 121 = .ok (.invokevirtual 218, 3) := by decide +kernel
theorem dX1_tellNumber_124 : decode cX1_tellNumber 124 = .ok (.aload_n 0, 1) := by decide +kernel
theorem dX1_tellNumber_125 : decode cX1_tellNumber 125 = .ok (.invokevirtual 221, 3) := by decide +kernel
theorem dX1_tellNumber_128 : decode cX1_tellNumber 128 = .ok (.iadd, 1) := by decide +kernel
theorem dX1_tellNumber_129 : decode cX1_tellNumber 129 = .ok (.ireturn, 1) := by decide +kernel
theorem dX1_tellNumber_130 : decode cX1_tellNumber 130 = .ok (.aload_n 0, 1) := by decide +kernel
theorem dX1_tellNumber_131 : decode cX1_tellNumber 131 = .ok (.getfield 64, 3) := by decide +kernel
theorem dX1_tellNumber_134 : decode cX1_tellNumber 134 = .ok (.ireturn, 1) := by decide +kernel
theorem dX1_tellNumber_135 : decode cX1_tellNumber 135 = .ok (.aload_n 0, 1) := by decide +kernel
theorem dX1_tellNumber_136 : decode cX1_tellNumber 136 = .ok (.iload_n 1, 1) := by decide +kernel
theorem dX1_tellNumber_137 : decode cX1_tellNumber 137 = .ok (.bipush 20, 2) := by decide +kernel
theorem dX1_tellNumber_139 : decode cX1_tellNumber 139 = .ok (.isub, 1) := by decide +kernel
theorem dX1_tellNumber_140 : decode cX1_tellNumber 140 = .ok (.invokevirtual 224, 3) := by decide +kernel
theorem dX1_tellNumber_143 : decode cX1_tellNumber 143 = .ok (.ireturn, 1) := by decide +kernel
theorem dX1_tellSetting_0 : decode cX1_tellSetting 0 = .ok (.iload_n 1, 1) := by decide +kernel
theorem dX1_tellSetting_1 : decode cX1_tellSetting 1 = .ok (.ifCond .lt 17, 3) := by decide +kernel
theorem dX1_tellSetting_4 : decode cX1_tellSetting 4 = .ok (.iload_n 1, 1) := by decide +kernel
theorem dX1_tellSetting_5 : decode cX1_tellSetting 5 = .ok (.iconst 3, 1) := by decide +kernel
theorem dX1_tellSetting_6 : decode cX1_tellSetting 6 = .ok (.if_icmp .ge 12, 3) := by decide +kernel
theorem dX1_tellSetting_9 : decode cX1_tellSetting 9 = .ok (.aload_n 0, 1) := by decide +kernel
theorem dX1_tellSetting_10 : decode cX1_tellSetting 10 = .ok (.getfield 33, 3) := by decide +kernel
theorem dX1_tellSetting_13 : decode cX1_tellSetting 13 = .ok (.iload_n 1, 1) := by decide +kernel
theorem dX1_tellSetting_14 : decode cX1_tellSetting 14 = .ok (.iaload, 1) := by decide +kernel
theorem dX1_tellSetting_15 : decode cX1_tellSetting 15 = .ok (.goto 4, 3) := by decide +kernel
theorem dX1_tellSetting_18 : decode cX1_tellSetting 18 = .ok (.iconst (-1), 1) := by decide +kernel
theorem dX1_tellSetting_19 : decode cX1_tellSetting 19 = .ok (.ireturn, 1) := by decide +kernel
theorem dX1_standingOf_0 : decode cX1_standingOf 0 = .ok (.iconst 0, 1) := by decide +kernel
theorem dX1_standingOf_1 : decode cX1_standingOf 1 = .ok (.istore_n 2, 1) := by decide +kernel
theorem dX1_standingOf_2 : decode cX1_standingOf 2 = .ok (.iconst 0, 1) := by decide +kernel
theorem dX1_standingOf_3 : decode cX1_standingOf 3 = .ok (.istore_n 3, 1) := by decide +kernel
theorem dX1_standingOf_4 : decode cX1_standingOf 4 = .ok (.iload_n 3, 1) := by decide +kernel
theorem dX1_standingOf_5 : decode cX1_standingOf 5 = .ok (.bipush 12, 2) := by decide +kernel
theorem dX1_standingOf_7 : decode cX1_standingOf 7 = .ok (.if_icmp .ge 42, 3) := by decide +kernel
theorem dX1_standingOf_10 : decode cX1_standingOf 10 = .ok (.iload_n 2, 1) := by decide +kernel
theorem dX1_standingOf_11 : decode cX1_standingOf 11 = .ok (.aload_n 0, 1) := by decide +kernel
theorem dX1_standingOf_12 : decode cX1_standingOf 12 = .ok (.getfield 11, 3) := by decide +kernel
theorem dX1_standingOf_15 : decode cX1_standingOf 15 = .ok (.iload_n 3, 1) := by decide +kernel
theorem dX1_standingOf_16 : decode cX1_standingOf 16 = .ok (.aaload, 1) := by decide +kernel
theorem dX1_standingOf_17 : decode cX1_standingOf 17 = .ok (.getfield 81, 3) := by decide +kernel
theorem dX1_standingOf_20 : decode cX1_standingOf 20 = .ok (.ifCond .eq 20, 3) := by decide +kernel
theorem dX1_standingOf_23 : decode cX1_standingOf 23 = .ok (.aload_n 0, 1) := by decide +kernel
theorem dX1_standingOf_24 : decode cX1_standingOf 24 = .ok (.getfield 11, 3) := by decide +kernel
theorem dX1_standingOf_27 : decode cX1_standingOf 27 = .ok (.iload_n 3, 1) := by decide +kernel
theorem dX1_standingOf_28 : decode cX1_standingOf 28 = .ok (.aaload, 1) := by decide +kernel
theorem dX1_standingOf_29 : decode cX1_standingOf 29 = .ok (.getfield 78, 3) := by decide +kernel
theorem dX1_standingOf_32 : decode cX1_standingOf 32 = .ok (.iload_n 1, 1) := by decide +kernel
theorem dX1_standingOf_33 : decode cX1_standingOf 33 = .ok (.if_icmp .ne 7, 3) := by decide +kernel
theorem dX1_standingOf_36 : decode cX1_standingOf 36 = .ok (.iconst 1, 1) := by decide +kernel
theorem dX1_standingOf_37 : decode cX1_standingOf 37 = .ok (.goto 4, 3) := by decide +kernel
theorem dX1_standingOf_40 : decode cX1_standingOf 40 = .ok (.iconst 0, 1) := by decide +kernel
theorem dX1_standingOf_41 : decode cX1_standingOf 41 = .ok (.iadd, 1) := by decide +kernel
theorem dX1_standingOf_42 : decode cX1_standingOf 42 = .ok (.istore_n 2, 1) := by decide +kernel
theorem dX1_standingOf_43 : decode cX1_standingOf 43 = .ok (.iinc 3 1, 3) := by decide +kernel
theorem dX1_standingOf_46 : decode cX1_standingOf 46 = .ok (.goto (-42), 3) := by decide +kernel
theorem dX1_standingOf_49 : decode cX1_standingOf 49 = .ok (.iload_n 2, 1) := by decide +kernel
theorem dX1_standingOf_50 : decode cX1_standingOf 50 = .ok (.ireturn, 1) := by decide +kernel
theorem dX1_lentLockers_0 : decode cX1_lentLockers 0 = .ok (.iconst 0, 1) := by decide +kernel
theorem dX1_lentLockers_1 : decode cX1_lentLockers 1 = .ok (.istore_n 1, 1) := by decide +kernel
theorem dX1_lentLockers_2 : decode cX1_lentLockers 2 = .ok (.iconst 0, 1) := by decide +kernel
theorem dX1_lentLockers_3 : decode cX1_lentLockers 3 = .ok (.istore_n 2, 1) := by decide +kernel
theorem dX1_lentLockers_4 : decode cX1_lentLockers 4 = .ok (.iload_n 2, 1) := by decide +kernel
theorem dX1_lentLockers_5 : decode cX1_lentLockers 5 = .ok (.bipush 12, 2) := by decide +kernel
theorem dX1_lentLockers_7 : decode cX1_lentLockers 7 = .ok (.if_icmp .ge 30, 3) := by decide +kernel
theorem dX1_lentLockers_10 : decode cX1_lentLockers 10 = .ok (.iload_n 1, 1) := by decide +kernel
theorem dX1_lentLockers_11 : decode cX1_lentLockers 11 = .ok (.aload_n 0, 1) := by decide +kernel
theorem dX1_lentLockers_12 : decode cX1_lentLockers 12 = .ok (.getfield 11, 3) := by decide +kernel
theorem dX1_lentLockers_15 : decode cX1_lentLockers 15 = .ok (.iload_n 2, 1) := by decide +kernel
theorem dX1_lentLockers_16 : decode cX1_lentLockers 16 = .ok (.aaload, 1) := by decide +kernel
theorem dX1_lentLockers_17 : decode cX1_lentLockers 17 = .ok (.getfield 167, 3) := by decide +kernel
theorem dX1_lentLockers_20 : decode cX1_lentLockers 20 = .ok (.iconst (-1), 1) := by decide +kernel
theorem dX1_lentLockers_21 : decode cX1_lentLockers 21 = .ok (.if_icmp .eq 7, 3) := by decide +kernel
theorem dX1_lentLockers_24 : decode cX1_lentLockers 24 = .ok (.iconst 1, 1) := by decide +kernel
theorem dX1_lentLockers_25 : decode cX1_lentLockers 25 = .ok (.goto 4, 3) := by decide +kernel
theorem dX1_lentLockers_28 : decode cX1_lentLockers 28 = .ok (.iconst 0, 1) := by decide +kernel
theorem dX1_lentLockers_29 : decode cX1_lentLockers 29 = .ok (.iadd, 1) := by decide +kernel
theorem dX1_lentLockers_30 : decode cX1_lentLockers 30 = .ok (.istore_n 1, 1) := by decide +kernel
theorem dX1_lentLockers_31 : decode cX1_lentLockers 31 = .ok (.iinc 2 1, 3) := by decide +kernel
theorem dX1_lentLockers_34 : decode cX1_lentLockers 34 = .ok (.goto (-30), 3) := by decide +kernel
theorem dX1_lentLockers_37 : decode cX1_lentLockers 37 = .ok (.iload_n 1, 1) := by decide +kernel
theorem dX1_lentLockers_38 : decode cX1_lentLockers 38 = .ok (.ireturn, 1) := by decide +kernel
theorem dX1_freeLockers_0 : decode cX1_freeLockers 0 = .ok (.iconst 0, 1) := by decide +kernel
theorem dX1_freeLockers_1 : decode cX1_freeLockers 1 = .ok (.istore_n 1, 1) := by decide +kernel
theorem dX1_freeLockers_2 : decode cX1_freeLockers 2 = .ok (.iconst 0, 1) := by decide +kernel
theorem dX1_freeLockers_3 : decode cX1_freeLockers 3 = .ok (.istore_n 2, 1) := by decide +kernel
theorem dX1_freeLockers_4 : decode cX1_freeLockers 4 = .ok (.iload_n 2, 1) := by decide +kernel
theorem dX1_freeLockers_5 : decode cX1_freeLockers 5 = .ok (.bipush 12, 2) := by decide +kernel
theorem dX1_freeLockers_7 : decode cX1_freeLockers 7 = .ok (.if_icmp .ge 29, 3) := by decide +kernel
theorem dX1_freeLockers_10 : decode cX1_freeLockers 10 = .ok (.iload_n 1, 1) := by decide +kernel
theorem dX1_freeLockers_11 : decode cX1_freeLockers 11 = .ok (.aload_n 0, 1) := by decide +kernel
theorem dX1_freeLockers_12 : decode cX1_freeLockers 12 = .ok (.getfield 11, 3) := by decide +kernel
theorem dX1_freeLockers_15 : decode cX1_freeLockers 15 = .ok (.iload_n 2, 1) := by decide +kernel
theorem dX1_freeLockers_16 : decode cX1_freeLockers 16 = .ok (.aaload, 1) := by decide +kernel
theorem dX1_freeLockers_17 : decode cX1_freeLockers 17 = .ok (.invokevirtual 199, 3) := by decide +kernel
theorem dX1_freeLockers_20 : decode cX1_freeLockers 20 = .ok (.ifCond .eq 7, 3) := by decide +kernel
theorem dX1_freeLockers_23 : decode cX1_freeLockers 23 = .ok (.iconst 1, 1) := by decide +kernel
theorem dX1_freeLockers_24 : decode cX1_freeLockers 24 = .ok (.goto 4, 3) := by decide +kernel
theorem dX1_freeLockers_27 : decode cX1_freeLockers 27 = .ok (.iconst 0, 1) := by decide +kernel
theorem dX1_freeLockers_28 : decode cX1_freeLockers 28 = .ok (.iadd, 1) := by decide +kernel
theorem dX1_freeLockers_29 : decode cX1_freeLockers 29 = .ok (.istore_n 1, 1) := by decide +kernel
theorem dX1_freeLockers_30 : decode cX1_freeLockers 30 = .ok (.iinc 2 1, 3) := by decide +kernel
theorem dX1_freeLockers_33 : decode cX1_freeLockers 33 = .ok (.goto (-29), 3) := by decide +kernel
theorem dX1_freeLockers_36 : decode cX1_freeLockers 36 = .ok (.iload_n 1, 1) := by decide +kernel
theorem dX1_freeLockers_37 : decode cX1_freeLockers 37 = .ok (.ireturn, 1) := by decide +kernel
theorem dX1_closedLockers_0 : decode cX1_closedLockers 0 = .ok (.iconst 0, 1) := by decide +kernel
theorem dX1_closedLockers_1 : decode cX1_closedLockers 1 = .ok (.istore_n 1, 1) := by decide +kernel
theorem dX1_closedLockers_2 : decode cX1_closedLockers 2 = .ok (.iconst 0, 1) := by decide +kernel
theorem dX1_closedLockers_3 : decode cX1_closedLockers 3 = .ok (.istore_n 2, 1) := by decide +kernel
theorem dX1_closedLockers_4 : decode cX1_closedLockers 4 = .ok (.iload_n 2, 1) := by decide +kernel
theorem dX1_closedLockers_5 : decode cX1_closedLockers 5 = .ok (.bipush 12, 2) := by decide +kernel
theorem dX1_closedLockers_7 : decode cX1_closedLockers 7 = .ok (.if_icmp .ge 30, 3) := by decide +kernel
theorem dX1_closedLockers_10 : decode cX1_closedLockers 10 = .ok (.iload_n 1, 1) := by decide +kernel
theorem dX1_closedLockers_11 : decode cX1_closedLockers 11 = .ok (.aload_n 0, 1) := by decide +kernel
theorem dX1_closedLockers_12 : decode cX1_closedLockers 12 = .ok (.getfield 11, 3) := by decide +kernel
theorem dX1_closedLockers_15 : decode cX1_closedLockers 15 = .ok (.iload_n 2, 1) := by decide +kernel
theorem dX1_closedLockers_16 : decode cX1_closedLockers 16 = .ok (.aaload, 1) := by decide +kernel
theorem dX1_closedLockers_17 : decode cX1_closedLockers 17 = .ok (.getfield 142, 3) := by decide +kernel
theorem dX1_closedLockers_20 : decode cX1_closedLockers 20 = .ok (.iconst (-1), 1) := by decide +kernel
theorem dX1_closedLockers_21 : decode cX1_closedLockers 21 = .ok (.if_icmp .eq 7, 3) := by decide +kernel
theorem dX1_closedLockers_24 : decode cX1_closedLockers 24 = .ok (.iconst 1, 1) := by decide +kernel
theorem dX1_closedLockers_25 : decode cX1_closedLockers 25 = .ok (.goto 4, 3) := by decide +kernel
theorem dX1_closedLockers_28 : decode cX1_closedLockers 28 = .ok (.iconst 0, 1) := by decide +kernel
theorem dX1_closedLockers_29 : decode cX1_closedLockers 29 = .ok (.iadd, 1) := by decide +kernel
theorem dX1_closedLockers_30 : decode cX1_closedLockers 30 = .ok (.istore_n 1, 1) := by decide +kernel
theorem dX1_closedLockers_31 : decode cX1_closedLockers 31 = .ok (.iinc 2 1, 3) := by decide +kernel
theorem dX1_closedLockers_34 : decode cX1_closedLockers 34 = .ok (.goto (-30), 3) := by decide +kernel
theorem dX1_closedLockers_37 : decode cX1_closedLockers 37 = .ok (.iload_n 1, 1) := by decide +kernel
theorem dX1_closedLockers_38 : decode cX1_closedLockers 38 = .ok (.ireturn, 1) := by decide +kernel
theorem dX1_owedByAll_0 : decode cX1_owedByAll 0 = .ok (.iconst 0, 1) := by decide +kernel
theorem dX1_owedByAll_1 : decode cX1_owedByAll 1 = .ok (.istore_n 1, 1) := by decide +kernel
theorem dX1_owedByAll_2 : decode cX1_owedByAll 2 = .ok (.iconst 0, 1) := by decide +kernel
theorem dX1_owedByAll_3 : decode cX1_owedByAll 3 = .ok (.istore_n 2, 1) := by decide +kernel
theorem dX1_owedByAll_4 : decode cX1_owedByAll 4 = .ok (.iload_n 2, 1) := by decide +kernel
theorem dX1_owedByAll_5 : decode cX1_owedByAll 5 = .ok (.bipush 10, 2) := by decide +kernel
theorem dX1_owedByAll_7 : decode cX1_owedByAll 7 = .ok (.if_icmp .ge 21, 3) := by decide +kernel
theorem dX1_owedByAll_10 : decode cX1_owedByAll 10 = .ok (.iload_n 1, 1) := by decide +kernel
theorem dX1_owedByAll_11 : decode cX1_owedByAll 11 = .ok (.aload_n 0, 1) := by decide +kernel
theorem dX1_owedByAll_12 : decode cX1_owedByAll 12 = .ok (.getfield 19, 3) := by decide +kernel
theorem dX1_owedByAll_15 : decode cX1_owedByAll 15 = .ok (.iload_n 2, 1) := by decide +kernel
theorem dX1_owedByAll_16 : decode cX1_owedByAll 16 = .ok (.aaload, 1) := by decide +kernel
theorem dX1_owedByAll_17 : decode cX1_owedByAll 17 = .ok (.getfield 95, 3) := by decide +kernel
theorem dX1_owedByAll_20 : decode cX1_owedByAll 20 = .ok (.iadd, 1) := by decide +kernel
theorem dX1_owedByAll_21 : decode cX1_owedByAll 21 = .ok (.istore_n 1, 1) := by decide +kernel
theorem dX1_owedByAll_22 : decode cX1_owedByAll 22 = .ok (.iinc 2 1, 3) := by decide +kernel
theorem dX1_owedByAll_25 : decode cX1_owedByAll 25 = .ok (.goto (-21), 3) := by decide +kernel
theorem dX1_owedByAll_28 : decode cX1_owedByAll 28 = .ok (.iload_n 1, 1) := by decide +kernel
theorem dX1_owedByAll_29 : decode cX1_owedByAll 29 = .ok (.ireturn, 1) := by decide +kernel
theorem dX1_paidByAll_0 : decode cX1_paidByAll 0 = .ok (.iconst 0, 1) := by decide +kernel
theorem dX1_paidByAll_1 : decode cX1_paidByAll 1 = .ok (.istore_n 1, 1) := by decide +kernel
theorem dX1_paidByAll_2 : decode cX1_paidByAll 2 = .ok (.iconst 0, 1) := by decide +kernel
theorem dX1_paidByAll_3 : decode cX1_paidByAll 3 = .ok (.istore_n 2, 1) := by decide +kernel
theorem dX1_paidByAll_4 : decode cX1_paidByAll 4 = .ok (.iload_n 2, 1) := by decide +kernel
theorem dX1_paidByAll_5 : decode cX1_paidByAll 5 = .ok (.bipush 10, 2) := by decide +kernel
theorem dX1_paidByAll_7 : decode cX1_paidByAll 7 = .ok (.if_icmp .ge 21, 3) := by decide +kernel
theorem dX1_paidByAll_10 : decode cX1_paidByAll 10 = .ok (.iload_n 1, 1) := by decide +kernel
theorem dX1_paidByAll_11 : decode cX1_paidByAll 11 = .ok (.aload_n 0, 1) := by decide +kernel
theorem dX1_paidByAll_12 : decode cX1_paidByAll 12 = .ok (.getfield 19, 3) := by decide +kernel
theorem dX1_paidByAll_15 : decode cX1_paidByAll 15 = .ok (.iload_n 2, 1) := by decide +kernel
theorem dX1_paidByAll_16 : decode cX1_paidByAll 16 = .ok (.aaload, 1) := by decide +kernel
theorem dX1_paidByAll_17 : decode cX1_paidByAll 17 = .ok (.getfield 178, 3) := by decide +kernel
theorem dX1_paidByAll_20 : decode cX1_paidByAll 20 = .ok (.iadd, 1) := by decide +kernel
theorem dX1_paidByAll_21 : decode cX1_paidByAll 21 = .ok (.istore_n 1, 1) := by decide +kernel
theorem dX1_paidByAll_22 : decode cX1_paidByAll 22 = .ok (.iinc 2 1, 3) := by decide +kernel
theorem dX1_paidByAll_25 : decode cX1_paidByAll 25 = .ok (.goto (-21), 3) := by decide +kernel
theorem dX1_paidByAll_28 : decode cX1_paidByAll 28 = .ok (.iload_n 1, 1) := by decide +kernel
theorem dX1_paidByAll_29 : decode cX1_paidByAll 29 = .ok (.ireturn, 1) := by decide +kernel
theorem dX1_overdueDays_0 : decode cX1_overdueDays 0 = .ok (.iconst 0, 1) := by decide +kernel
theorem dX1_overdueDays_1 : decode cX1_overdueDays 1 = .ok (.istore_n 1, 1) := by decide +kernel
theorem dX1_overdueDays_2 : decode cX1_overdueDays 2 = .ok (.iconst 0, 1) := by decide +kernel
theorem dX1_overdueDays_3 : decode cX1_overdueDays 3 = .ok (.istore_n 2, 1) := by decide +kernel
theorem dX1_overdueDays_4 : decode cX1_overdueDays 4 = .ok (.iload_n 2, 1) := by decide +kernel
theorem dX1_overdueDays_5 : decode cX1_overdueDays 5 = .ok (.bipush 10, 2) := by decide +kernel
theorem dX1_overdueDays_7 : decode cX1_overdueDays 7 = .ok (.if_icmp .ge 25, 3) := by decide +kernel
theorem dX1_overdueDays_10 : decode cX1_overdueDays 10 = .ok (.iload_n 1, 1) := by decide +kernel
theorem dX1_overdueDays_11 : decode cX1_overdueDays 11 = .ok (.aload_n 0, 1) := by decide +kernel
theorem dX1_overdueDays_12 : decode cX1_overdueDays 12 = .ok (.getfield 19, 3) := by decide +kernel
theorem dX1_overdueDays_15 : decode cX1_overdueDays 15 = .ok (.iload_n 2, 1) := by decide +kernel
theorem dX1_overdueDays_16 : decode cX1_overdueDays 16 = .ok (.aaload, 1) := by decide +kernel
theorem dX1_overdueDays_17 : decode cX1_overdueDays 17 = .ok (.aload_n 0, 1) := by decide +kernel
theorem dX1_overdueDays_18 : decode cX1_overdueDays 18 = .ok (.getfield 61, 3) := by decide +kernel
theorem dX1_overdueDays_21 : decode cX1_overdueDays 21 = .ok (.invokevirtual 118, 3) := by decide +kernel
theorem dX1_overdueDays_24 : decode cX1_overdueDays 24 = .ok (.iadd, 1) := by decide +kernel
theorem dX1_overdueDays_25 : decode cX1_overdueDays 25 = .ok (.istore_n 1, 1) := by decide +kernel
theorem dX1_overdueDays_26 : decode cX1_overdueDays 26 = .ok (.iinc 2 1, 3) := by decide +kernel
theorem dX1_overdueDays_29 : decode cX1_overdueDays 29 = .ok (.goto (-25), 3) := by decide +kernel
theorem dX1_overdueDays_32 : decode cX1_overdueDays 32 = .ok (.iload_n 1, 1) := by decide +kernel
theorem dX1_overdueDays_33 : decode cX1_overdueDays 33 = .ok (.ireturn, 1) := by decide +kernel
theorem dX2_init_0 : decode cX2_init 0 = .ok (.aload_n 0, 1) := by decide +kernel
theorem dX2_init_1 : decode cX2_init 1 = .ok (.invokespecial 3, 3) := by decide +kernel
theorem dX2_init_4 : decode cX2_init 4 = .ok (.aload_n 0, 1) := by decide +kernel
theorem dX2_init_5 : decode cX2_init 5 = .ok (.iconst 5, 1) := by decide +kernel
theorem dX2_init_6 : decode cX2_init 6 = .ok (.anewarray 11, 3) := by decide +kernel
theorem dX2_init_9 : decode cX2_init 9 = .ok (.putfield 13, 3) := by decide +kernel
theorem dX2_init_12 : decode cX2_init 12 = .ok (.iconst 0, 1) := by decide +kernel
theorem dX2_init_13 : decode cX2_init 13 = .ok (.istore_n 1, 1) := by decide +kernel
theorem dX2_init_14 : decode cX2_init 14 = .ok (.iload_n 1, 1) := by decide +kernel
theorem dX2_init_15 : decode cX2_init 15 = .ok (.iconst 5, 1) := by decide +kernel
theorem dX2_init_16 : decode cX2_init 16 = .ok (.if_icmp .ge 22, 3) := by decide +kernel
theorem dX2_init_19 : decode cX2_init 19 = .ok (.aload_n 0, 1) := by decide +kernel
theorem dX2_init_20 : decode cX2_init 20 = .ok (.getfield 13, 3) := by decide +kernel
theorem dX2_init_23 : decode cX2_init 23 = .ok (.iload_n 1, 1) := by decide +kernel
theorem dX2_init_24 : decode cX2_init 24 = .ok (.new 11, 3) := by decide +kernel
theorem dX2_init_27 : decode cX2_init 27 = .ok (.dup, 1) := by decide +kernel
theorem dX2_init_28 : decode cX2_init 28 = .ok (.invokespecial 17, 3) := by decide +kernel
theorem dX2_init_31 : decode cX2_init 31 = .ok (.aastore, 1) := by decide +kernel
theorem dX2_init_32 : decode cX2_init 32 = .ok (.iinc 1 1, 3) := by decide +kernel
theorem dX2_init_35 : decode cX2_init 35 = .ok (.goto (-21), 3) := by decide +kernel
theorem dX2_init_38 : decode cX2_init 38 = .ok (.return_, 1) := by decide +kernel
theorem dX2_slot_0 : decode cX2_slot 0 = .ok (.aload_n 0, 1) := by decide +kernel
theorem dX2_slot_1 : decode cX2_slot 1 = .ok (.getfield 13, 3) := by decide +kernel
theorem dX2_slot_4 : decode cX2_slot 4 = .ok (.aload_n 0, 1) := by decide +kernel
theorem dX2_slot_5 : decode cX2_slot 5 = .ok (.getfield 18, 3) := by decide +kernel
theorem dX2_slot_8 : decode cX2_slot 8 = .ok (.iload_n 1, 1) := by decide +kernel
theorem dX2_slot_9 : decode cX2_slot 9 = .ok (.iadd, 1) := by decide +kernel
theorem dX2_slot_10 : decode cX2_slot 10 = .ok (.iconst 5, 1) := by decide +kernel
theorem dX2_slot_11 : decode cX2_slot 11 = .ok (.invokestatic 22, 3) := by decide +kernel
theorem dX2_slot_14 : decode cX2_slot 14 = .ok (.aaload, 1) := by decide +kernel
theorem dX2_slot_15 : decode cX2_slot 15 = .ok (.areturn, 1) := by decide +kernel
theorem dX2_prepare_0 : decode cX2_prepare 0 = .ok (.aload_n 0, 1) := by decide +kernel
theorem dX2_prepare_1 : decode cX2_prepare 1 = .ok (.aload_n 0, 1) := by decide +kernel
theorem dX2_prepare_2 : decode cX2_prepare 2 = .ok (.getfield 28, 3) := by decide +kernel
theorem dX2_prepare_5 : decode cX2_prepare 5 = .ok (.invokevirtual 31, 3) := by decide +kernel
theorem dX2_prepare_8 : decode cX2_prepare 8 = .ok (.aload_n 1, 1) := by decide +kernel
theorem dX2_prepare_9 : decode cX2_prepare 9 = .ok (.invokevirtual 35, 3) := by decide +kernel
theorem dX2_prepare_12 : decode cX2_prepare 12 = .ok (.return_, 1) := by decide +kernel
theorem dX2_settle_0 : decode cX2_settle 0 = .ok (.iload_n 1, 1) := by decide +kernel
theorem dX2_settle_1 : decode cX2_settle 1 = .ok (.ifCond .lt 40, 3) := by decide +kernel
theorem dX2_settle_4 : decode cX2_settle 4 = .ok (.aload_n 0, 1) := by decide +kernel
theorem dX2_settle_5 : decode cX2_settle 5 = .ok (.dup, 1) := by decide +kernel
theorem dX2_settle_6 : decode cX2_settle 6 = .ok (.getfield 28, 3) := by decide +kernel
theorem dX2_settle_9 : decode cX2_settle 9 = .ok (.iconst 1, 1) := by decide +kernel
theorem dX2_settle_10 : decode cX2_settle 10 = .ok (.iadd, 1) := by decide +kernel
theorem dX2_settle_11 : decode cX2_settle 11 = .ok (.putfield 28, 3) := by decide +kernel
theorem dX2_settle_14 : decode cX2_settle 14 = .ok (.aload_n 0, 1) := by decide +kernel
theorem dX2_settle_15 : decode cX2_settle 15 = .ok (.getfield 28, 3) := by decide +kernel
theorem dX2_settle_18 : decode cX2_settle 18 = .ok (.iconst 4, 1) := by decide +kernel
theorem dX2_settle_19 : decode cX2_settle 19 = .ok (.if_icmp .le 22, 3) := by decide +kernel
theorem dX2_settle_22 : decode cX2_settle 22 = .ok (.aload_n 0, 1) := by decide +kernel
theorem dX2_settle_23 : decode cX2_settle 23 = .ok (.iconst 4, 1) := by decide +kernel
theorem dX2_settle_24 : decode cX2_settle 24 = .ok (.putfield 28, 3) := by decide +kernel
theorem dX2_settle_27 : decode cX2_settle 27 = .ok (.aload_n 0, 1) := by decide +kernel
theorem dX2_settle_28 : decode cX2_settle 28 = .ok (.aload_n 0, 1) := by decide +kernel
theorem dX2_settle_29 : decode cX2_settle 29 = .ok (.getfield 18, 3) := by decide +kernel
theorem dX2_settle_32 : decode cX2_settle 32 = .ok (.iconst 1, 1) := by decide +kernel
theorem dX2_settle_33 : decode cX2_settle 33 = .ok (.iadd, 1) := by decide +kernel
theorem dX2_settle_34 : decode cX2_settle 34 = .ok (.iconst 5, 1) := by decide +kernel
theorem dX2_settle_35 : decode cX2_settle 35 = .ok (.invokestatic 22, 3) := by decide +kernel
theorem dX2_settle_38 : decode cX2_settle 38 = .ok (.putfield 18, 3) := by decide +kernel
theorem dX2_settle_41 : decode cX2_settle 41 = .ok (.iload_n 1, 1) := by decide +kernel
theorem dX2_settle_42 : decode cX2_settle 42 = .ok (.ireturn, 1) := by decide +kernel
theorem dX2_restore_0 : decode cX2_restore 0 = .ok (.aload_n 0, 1) := by decide +kernel
theorem dX2_restore_1 : decode cX2_restore 1 = .ok (.getfield 28, 3) := by decide +kernel
theorem dX2_restore_4 : decode cX2_restore 4 = .ok (.ifCond .ne 6, 3) := by decide +kernel
theorem dX2_restore_7 : decode cX2_restore 7 = .ok (.bipush (-2), 2) := by decide +kernel
theorem dX2_restore_9 : decode cX2_restore 9 = .ok (.ireturn, 1) := by decide +kernel
theorem dX2_restore_10 : decode cX2_restore 10 = .ok (.aload_n 0, 1) := by decide +kernel
theorem dX2_restore_11 : decode cX2_restore 11 = .ok (.dup, 1) := by decide +kernel
theorem dX2_restore_12 : decode cX2_restore 12 = .ok (.getfield 28, 3) := by decide +kernel
theorem dX2_restore_15 : decode cX2_restore 15 = .ok (.iconst 1, 1) := by decide +kernel
theorem dX2_restore_16 : decode cX2_restore 16 = .ok (.isub, 1) := by decide +kernel
theorem dX2_restore_17 : decode cX2_restore 17 = .ok (.putfield 28, 3) := by decide +kernel
theorem dX2_restore_20 : decode cX2_restore 20 = .ok (.aload_n 1, 1) := by decide +kernel
theorem dX2_restore_21 : decode cX2_restore 21 = .ok (.aload_n 0, 1) := by decide +kernel
theorem dX2_restore_22 : decode cX2_restore 22 = .ok (.aload_n 0, 1) := by decide +kernel
theorem dX2_restore_23 : decode cX2_restore 23 = .ok (.getfield 28, 3) := by decide +kernel
theorem dX2_restore_26 : decode cX2_restore 26 = .ok (.invokevirtual 31, 3) := by decide +kernel
theorem dX2_restore_29 : decode cX2_restore 29 = .ok (.invokevirtual 35, 3) := by decide +kernel
theorem dX2_restore_32 : decode cX2_restore 32 = .ok (.aload_n 0, 1) := by decide +kernel
theorem dX2_restore_33 : decode cX2_restore 33 = .ok (.getfield 28, 3) := by decide +kernel
theorem dX2_restore_36 : decode cX2_restore 36 = .ok (.ireturn, 1) := by decide +kernel
theorem dX3_init_0 : decode cX3_init 0 = .ok (.aload_n 0, 1) := by decide +kernel
theorem dX3_init_1 : decode cX3_init 1 = .ok (.invokespecial 3, 3) := by decide +kernel
theorem dX3_init_4 : decode cX3_init 4 = .ok (.aload_n 0, 1) := by decide +kernel
theorem dX3_init_5 : decode cX3_init 5 = .ok (.bipush 10, 2) := by decide +kernel
theorem dX3_init_7 : decode cX3_init 7 = .ok (.newarray .int, 2) := by decide +kernel
theorem dX3_init_9 : decode cX3_init 9 = .ok (.putfield 9, 3) := by decide +kernel
theorem dX3_init_12 : decode cX3_init 12 = .ok (.aload_n 0, 1) := by decide +kernel
theorem dX3_init_13 : decode cX3_init 13 = .ok (.bipush 10, 2) := by decide +kernel
theorem dX3_init_15 : decode cX3_init 15 = .ok (.newarray .int, 2) := by decide +kernel
theorem dX3_init_17 : decode cX3_init 17 = .ok (.putfield 15, 3) := by decide +kernel
theorem dX3_init_20 : decode cX3_init 20 = .ok (.return_, 1) := by decide +kernel
theorem dX3_personAt_0 : decode cX3_personAt 0 = .ok (.iload_n 1, 1) := by decide +kernel
theorem dX3_personAt_1 : decode cX3_personAt 1 = .ok (.ifCond .lt 26, 3) := by decide +kernel
theorem dX3_personAt_4 : decode cX3_personAt 4 = .ok (.iload_n 1, 1) := by decide +kernel
theorem dX3_personAt_5 : decode cX3_personAt 5 = .ok (.aload_n 0, 1) := by decide +kernel
theorem dX3_personAt_6 : decode cX3_personAt 6 = .ok (.getfield 18, 3) := by decide +kernel
theorem dX3_personAt_9 : decode cX3_personAt 9 = .ok (.if_icmp .ge 18, 3) := by decide +kernel
theorem dX3_personAt_12 : decode cX3_personAt 12 = .ok (.iload_n 1, 1) := by decide +kernel
theorem dX3_personAt_13 : decode cX3_personAt 13 = .ok (.bipush 10, 2) := by decide +kernel
theorem dX3_personAt_15 : decode cX3_personAt 15 = .ok (.if_icmp .ge 12, 3) := by decide +kernel
theorem dX3_personAt_18 : decode cX3_personAt 18 = .ok (.aload_n 0, 1) := by decide +kernel
theorem dX3_personAt_19 : decode cX3_personAt 19 = .ok (.getfield 9, 3) := by decide +kernel
theorem dX3_personAt_22 : decode cX3_personAt 22 = .ok (.iload_n 1, 1) := by decide +kernel
theorem dX3_personAt_23 : decode cX3_personAt 23 = .ok (.iaload, 1) := by decide +kernel
theorem dX3_personAt_24 : decode cX3_personAt 24 = .ok (.goto 4, 3) := by decide +kernel
theorem dX3_personAt_27 : decode cX3_personAt 27 = .ok (.iconst (-1), 1) := by decide +kernel
theorem dX3_personAt_28 : decode cX3_personAt 28 = .ok (.ireturn, 1) := by decide +kernel
theorem dX3_sizeAt_0 : decode cX3_sizeAt 0 = .ok (.iload_n 1, 1) := by decide +kernel
theorem dX3_sizeAt_1 : decode cX3_sizeAt 1 = .ok (.ifCond .lt 26, 3) := by decide +kernel
theorem dX3_sizeAt_4 : decode cX3_sizeAt 4 = .ok (.iload_n 1, 1) := by decide +kernel
theorem dX3_sizeAt_5 : decode cX3_sizeAt 5 = .ok (.aload_n 0, 1) := by decide +kernel
theorem dX3_sizeAt_6 : decode cX3_sizeAt 6 = .ok (.getfield 18, 3) := by decide +kernel
theorem dX3_sizeAt_9 : decode cX3_sizeAt 9 = .ok (.if_icmp .ge 18, 3) := by decide +kernel
theorem dX3_sizeAt_12 : decode cX3_sizeAt 12 = .ok (.iload_n 1, 1) := by decide +kernel
theorem dX3_sizeAt_13 : decode cX3_sizeAt 13 = .ok (.bipush 10, 2) := by decide +kernel
theorem dX3_sizeAt_15 : decode cX3_sizeAt 15 = .ok (.if_icmp .ge 12, 3) := by decide +kernel
theorem dX3_sizeAt_18 : decode cX3_sizeAt 18 = .ok (.aload_n 0, 1) := by decide +kernel
theorem dX3_sizeAt_19 : decode cX3_sizeAt 19 = .ok (.getfield 15, 3) := by decide +kernel
theorem dX3_sizeAt_22 : decode cX3_sizeAt 22 = .ok (.iload_n 1, 1) := by decide +kernel
theorem dX3_sizeAt_23 : decode cX3_sizeAt 23 = .ok (.iaload, 1) := by decide +kernel
theorem dX3_sizeAt_24 : decode cX3_sizeAt 24 = .ok (.goto 4, 3) := by decide +kernel
theorem dX3_sizeAt_27 : decode cX3_sizeAt 27 = .ok (.iconst (-1), 1) := by decide +kernel
theorem dX3_sizeAt_28 : decode cX3_sizeAt 28 = .ok (.ireturn, 1) := by decide +kernel
theorem dX3_placeOf_0 : decode cX3_placeOf 0 = .ok (.iconst 0, 1) := by decide +kernel
theorem dX3_placeOf_1 : decode cX3_placeOf 1 = .ok (.istore_n 2, 1) := by decide +kernel
theorem dX3_placeOf_2 : decode cX3_placeOf 2 = .ok (.iload_n 2, 1) := by decide +kernel
theorem dX3_placeOf_3 : decode cX3_placeOf 3 = .ok (.aload_n 0, 1) := by decide +kernel
theorem dX3_placeOf_4 : decode cX3_placeOf 4 = .ok (.getfield 18, 3) := by decide +kernel
theorem dX3_placeOf_7 : decode cX3_placeOf 7 = .ok (.if_icmp .ge 27, 3) := by decide +kernel
theorem dX3_placeOf_10 : decode cX3_placeOf 10 = .ok (.iload_n 2, 1) := by decide +kernel
theorem dX3_placeOf_11 : decode cX3_placeOf 11 = .ok (.bipush 10, 2) := by decide +kernel
theorem dX3_placeOf_13 : decode cX3_placeOf 13 = .ok (.if_icmp .ge 21, 3) := by decide +kernel
theorem dX3_placeOf_16 : decode cX3_placeOf 16 = .ok (.aload_n 0, 1) := by decide +kernel
theorem dX3_placeOf_17 : decode cX3_placeOf 17 = .ok (.getfield 9, 3) := by decide +kernel
theorem dX3_placeOf_20 : decode cX3_placeOf 20 = .ok (.iload_n 2, 1) := by decide +kernel
theorem dX3_placeOf_21 : decode cX3_placeOf 21 = .ok (.iaload, 1) := by decide +kernel
theorem dX3_placeOf_22 : decode cX3_placeOf 22 = .ok (.iload_n 1, 1) := by decide +kernel
theorem dX3_placeOf_23 : decode cX3_placeOf 23 = .ok (.if_icmp .ne 5, 3) := by decide +kernel
theorem dX3_placeOf_26 : decode cX3_placeOf 26 = .ok (.iload_n 2, 1) := by decide +kernel
theorem dX3_placeOf_27 : decode cX3_placeOf 27 = .ok (.ireturn, 1) := by decide +kernel
theorem dX3_placeOf_28 : decode cX3_placeOf 28 = .ok (.iinc 2 1, 3) := by decide +kernel
theorem dX3_placeOf_31 : decode cX3_placeOf 31 = .ok (.goto (-29), 3) := by decide +kernel
theorem dX3_placeOf_34 : decode cX3_placeOf 34 = .ok (.iconst (-1), 1) := by decide +kernel
theorem dX3_placeOf_35 : decode cX3_placeOf 35 = .ok (.ireturn, 1) := by decide +kernel
theorem dX3_sizeOf_0 : decode cX3_sizeOf 0 = .ok (.iconst 0, 1) := by decide +kernel
theorem dX3_sizeOf_1 : decode cX3_sizeOf 1 = .ok (.istore_n 2, 1) := by decide +kernel
theorem dX3_sizeOf_2 : decode cX3_sizeOf 2 = .ok (.iload_n 2, 1) := by decide +kernel
theorem dX3_sizeOf_3 : decode cX3_sizeOf 3 = .ok (.aload_n 0, 1) := by decide +kernel
theorem dX3_sizeOf_4 : decode cX3_sizeOf 4 = .ok (.getfield 18, 3) := by decide +kernel
theorem dX3_sizeOf_7 : decode cX3_sizeOf 7 = .ok (.if_icmp .ge 32, 3) := by decide +kernel
theorem dX3_sizeOf_10 : decode cX3_sizeOf 10 = .ok (.iload_n 2, 1) := by decide +kernel
theorem dX3_sizeOf_11 : decode cX3_sizeOf 11 = .ok (.bipush 10, 2) := by decide +kernel
theorem dX3_sizeOf_13 : decode cX3_sizeOf 13 = .ok (.if_icmp .ge 26, 3) := by decide +kernel
theorem dX3_sizeOf_16 : decode cX3_sizeOf 16 = .ok (.aload_n 0, 1) := by decide +kernel
theorem dX3_sizeOf_17 : decode cX3_sizeOf 17 = .ok (.getfield 9, 3) := by decide +kernel
theorem dX3_sizeOf_20 : decode cX3_sizeOf 20 = .ok (.iload_n 2, 1) := by decide +kernel
theorem dX3_sizeOf_21 : decode cX3_sizeOf 21 = .ok (.iaload, 1) := by decide +kernel
theorem dX3_sizeOf_22 : decode cX3_sizeOf 22 = .ok (.iload_n 1, 1) := by decide +kernel
theorem dX3_sizeOf_23 : decode cX3_sizeOf 23 = .ok (.if_icmp .ne 10, 3) := by decide +kernel
theorem dX3_sizeOf_26 : decode cX3_sizeOf 26 = .ok (.aload_n 0, 1) := by decide +kernel
theorem dX3_sizeOf_27 : decode cX3_sizeOf 27 = .ok (.getfield 15, 3) := by decide +kernel
theorem dX3_sizeOf_30 : decode cX3_sizeOf 30 = .ok (.iload_n 2, 1) := by decide +kernel
theorem dX3_sizeOf_31 : decode cX3_sizeOf 31 = .ok (.iaload, 1) := by decide +kernel
theorem dX3_sizeOf_32 : decode cX3_sizeOf 32 = .ok (.ireturn, 1) := by decide +kernel
theorem dX3_sizeOf_33 : decode cX3_sizeOf 33 = .ok (.iinc 2 1, 3) := by decide +kernel
theorem dX3_sizeOf_36 : decode cX3_sizeOf 36 = .ok (.goto (-34), 3) := by decide +kernel
theorem dX3_sizeOf_39 : decode cX3_sizeOf 39 = .ok (.iconst (-1), 1) := by decide +kernel
theorem dX3_sizeOf_40 : decode cX3_sizeOf 40 = .ok (.ireturn, 1) := by decide +kernel
theorem dX3_firstFor_0 : decode cX3_firstFor 0 = .ok (.iconst 0, 1) := by decide +kernel
theorem dX3_firstFor_1 : decode cX3_firstFor 1 = .ok (.istore_n 2, 1) := by decide +kernel
theorem dX3_firstFor_2 : decode cX3_firstFor 2 = .ok (.iload_n 2, 1) := by decide +kernel
theorem dX3_firstFor_3 : decode cX3_firstFor 3 = .ok (.aload_n 0, 1) := by decide +kernel
theorem dX3_firstFor_4 : decode cX3_firstFor 4 = .ok (.getfield 18, 3) := by decide +kernel
theorem dX3_firstFor_7 : decode cX3_firstFor 7 = .ok (.if_icmp .ge 42, 3) := by decide +kernel
theorem dX3_firstFor_10 : decode cX3_firstFor 10 = .ok (.iload_n 2, 1) := by decide +kernel
theorem dX3_firstFor_11 : decode cX3_firstFor 11 = .ok (.bipush 10, 2) := by decide +kernel
theorem dX3_firstFor_13 : decode cX3_firstFor 13 = .ok (.if_icmp .ge 36, 3) := by decide +kernel
theorem dX3_firstFor_16 : decode cX3_firstFor 16 = .ok (.aload_n 0, 1) := by decide +kernel
theorem dX3_firstFor_17 : decode cX3_firstFor 17 = .ok (.getfield 15, 3) := by decide +kernel
theorem dX3_firstFor_20 : decode cX3_firstFor 20 = .ok (.iload_n 2, 1) := by decide +kernel
theorem dX3_firstFor_21 : decode cX3_firstFor 21 = .ok (.iaload, 1) := by decide +kernel
theorem dX3_firstFor_22 : decode cX3_firstFor 22 = .ok (.iload_n 1, 1) := by decide +kernel
theorem dX3_firstFor_23 : decode cX3_firstFor 23 = .ok (.if_icmp .eq 13, 3) := by decide +kernel
theorem dX3_firstFor_26 : decode cX3_firstFor 26 = .ok (.aload_n 0, 1) := by decide +kernel
theorem dX3_firstFor_27 : decode cX3_firstFor 27 = .ok (.getfield 15, 3) := by decide +kernel
theorem dX3_firstFor_30 : decode cX3_firstFor 30 = .ok (.iload_n 2, 1) := by decide +kernel
theorem dX3_firstFor_31 : decode cX3_firstFor 31 = .ok (.iaload, 1) := by decide +kernel
theorem dX3_firstFor_32 : decode cX3_firstFor 32 = .ok (.iconst 3, 1) := by decide +kernel
theorem dX3_firstFor_33 : decode cX3_firstFor 33 = .ok (.if_icmp .ne 10, 3) := by decide +kernel
theorem dX3_firstFor_36 : decode cX3_firstFor 36 = .ok (.aload_n 0, 1) := by decide +kernel
theorem dX3_firstFor_37 : decode cX3_firstFor 37 = .ok (.getfield 9, 3) := by decide +kernel
theorem dX3_firstFor_40 : decode cX3_firstFor 40 = .ok (.iload_n 2, 1) := by decide +kernel
theorem dX3_firstFor_41 : decode cX3_firstFor 41 = .ok (.iaload, 1) := by decide +kernel
theorem dX3_firstFor_42 : decode cX3_firstFor 42 = .ok (.ireturn, 1) := by decide +kernel
theorem dX3_firstFor_43 : decode cX3_firstFor 43 = .ok (.iinc 2 1, 3) := by decide +kernel
theorem dX3_firstFor_46 : decode cX3_firstFor 46 = .ok (.goto (-44), 3) := by decide +kernel
theorem dX3_firstFor_49 : decode cX3_firstFor 49 = .ok (.iconst (-1), 1) := by decide +kernel
theorem dX3_firstFor_50 : decode cX3_firstFor 50 = .ok (.ireturn, 1) := by decide +kernel
theorem dX3_add_0 : decode cX3_add 0 = .ok (.aload_n 0, 1) := by decide +kernel
theorem dX3_add_1 : decode cX3_add 1 = .ok (.getfield 18, 3) := by decide +kernel
theorem dX3_add_4 : decode cX3_add 4 = .ok (.bipush 10, 2) := by decide +kernel
theorem dX3_add_6 : decode cX3_add 6 = .ok (.if_icmp .ge 33, 3) := by decide +kernel
theorem dX3_add_9 : decode cX3_add 9 = .ok (.aload_n 0, 1) := by decide +kernel
theorem dX3_add_10 : decode cX3_add 10 = .ok (.getfield 9, 3) := by decide +kernel
theorem dX3_add_13 : decode cX3_add 13 = .ok (.aload_n 0, 1) := by decide +kernel
theorem dX3_add_14 : decode cX3_add 14 = .ok (.getfield 18, 3) := by decide +kernel
theorem dX3_add_17 : decode cX3_add 17 = .ok (.iload_n 1, 1) := by decide +kernel
theorem dX3_add_18 : decode cX3_add 18 = .ok (.iastore, 1) := by decide +kernel
theorem dX3_add_19 : decode cX3_add 19 = .ok (.aload_n 0, 1) := by decide +kernel
theorem dX3_add_20 : decode cX3_add 20 = .ok (.getfield 15, 3) := by decide +kernel
theorem dX3_add_23 : decode cX3_add 23 = .ok (.aload_n 0, 1) := by decide +kernel
theorem dX3_add_24 : decode cX3_add 24 = .ok (.getfield 18, 3) := by decide +kernel
theorem dX3_add_27 : decode cX3_add 27 = .ok (.iload_n 2, 1) := by decide +kernel
theorem dX3_add_28 : decode cX3_add 28 = .ok (.iastore, 1) := by decide +kernel
theorem dX3_add_29 : decode cX3_add 29 = .ok (.aload_n 0, 1) := by decide +kernel
theorem dX3_add_30 : decode cX3_add 30 = .ok (.dup, 1) := by decide +kernel
theorem dX3_add_31 : decode cX3_add 31 = .ok (.getfield 18, 3) := by decide +kernel
theorem dX3_add_34 : decode cX3_add 34 = .ok (.iconst 1, 1) := by decide +kernel
theorem dX3_add_35 : decode cX3_add 35 = .ok (.iadd, 1) := by decide +kernel
theorem dX3_add_36 : decode cX3_add 36 = .ok (.putfield 18, 3) := by decide +kernel
theorem dX3_add_39 : decode cX3_add 39 = .ok (.return_, 1) := by decide +kernel
theorem dX3_remove_0 : decode cX3_remove 0 = .ok (.iconst 0, 1) := by decide +kernel
theorem dX3_remove_1 : decode cX3_remove 1 = .ok (.istore_n 2, 1) := by decide +kernel
theorem dX3_remove_2 : decode cX3_remove 2 = .ok (.iconst 0, 1) := by decide +kernel
theorem dX3_remove_3 : decode cX3_remove 3 = .ok (.istore_n 3, 1) := by decide +kernel
theorem dX3_remove_4 : decode cX3_remove 4 = .ok (.iload_n 3, 1) := by decide +kernel
theorem dX3_remove_5 : decode cX3_remove 5 = .ok (.aload_n 0, 1) := by decide +kernel
theorem dX3_remove_6 : decode cX3_remove 6 = .ok (.getfield 18, 3) := by decide +kernel
theorem dX3_remove_9 : decode cX3_remove 9 = .ok (.if_icmp .ge 52, 3) := by decide +kernel
theorem dX3_remove_12 : decode cX3_remove 12 = .ok (.iload_n 3, 1) := by decide +kernel
theorem dX3_remove_13 : decode cX3_remove 13 = .ok (.bipush 10, 2) := by decide +kernel
theorem dX3_remove_15 : decode cX3_remove 15 = .ok (.if_icmp .ge 46, 3) := by decide +kernel
theorem dX3_remove_18 : decode cX3_remove 18 = .ok (.aload_n 0, 1) := by decide +kernel
theorem dX3_remove_19 : decode cX3_remove 19 = .ok (.getfield 9, 3) := by decide +kernel
theorem dX3_remove_22 : decode cX3_remove 22 = .ok (.iload_n 3, 1) := by decide +kernel
theorem dX3_remove_23 : decode cX3_remove 23 = .ok (.iaload, 1) := by decide +kernel
theorem dX3_remove_24 : decode cX3_remove 24 = .ok (.iload_n 1, 1) := by decide +kernel
theorem dX3_remove_25 : decode cX3_remove 25 = .ok (.if_icmp .eq 30, 3) := by decide +kernel
theorem dX3_remove_28 : decode cX3_remove 28 = .ok (.aload_n 0, 1) := by decide +kernel
theorem dX3_remove_29 : decode cX3_remove 29 = .ok (.getfield 9, 3) := by decide +kernel
theorem dX3_remove_32 : decode cX3_remove 32 = .ok (.iload_n 2, 1) := by decide +kernel
theorem dX3_remove_33 : decode cX3_remove 33 = .ok (.aload_n 0, 1) := by decide +kernel
theorem dX3_remove_34 : decode cX3_remove 34 = .ok (.getfield 9, 3) := by decide +kernel
theorem dX3_remove_37 : decode cX3_remove 37 = .ok (.iload_n 3, 1) := by decide +kernel
theorem dX3_remove_38 : decode cX3_remove 38 = .ok (.iaload, 1) := by decide +kernel
theorem dX3_remove_39 : decode cX3_remove 39 = .ok (.iastore, 1) := by decide +kernel
theorem dX3_remove_40 : decode cX3_remove 40 = .ok (.aload_n 0, 1) := by decide +kernel
theorem dX3_remove_41 : decode cX3_remove 41 = .ok (.getfield 15, 3) := by decide +kernel
theorem dX3_remove_44 : decode cX3_remove 44 = .ok (.iload_n 2, 1) := by decide +kernel
theorem dX3_remove_45 : decode cX3_remove 45 = .ok (.aload_n 0, 1) := by decide +kernel
theorem dX3_remove_46 : decode cX3_remove 46 = .ok (.getfield 15, 3) := by decide +kernel
theorem dX3_remove_49 : decode cX3_remove 49 = .ok (.iload_n 3, 1) := by decide +kernel
theorem dX3_remove_50 : decode cX3_remove 50 = .ok (.iaload, 1) := by decide +kernel
theorem dX3_remove_51 : decode cX3_remove 51 = .ok (.iastore, 1) := by decide +kernel
theorem dX3_remove_52 : decode cX3_remove 52 = .ok (.iinc 2 1, 3) := by decide +kernel
theorem dX3_remove_55 : decode cX3_remove 55 = .ok (.iinc 3 1, 3) := by decide +kernel
theorem dX3_remove_58 : decode cX3_remove 58 = .ok (.goto (-54), 3) := by decide +kernel
theorem dX3_remove_61 : decode cX3_remove 61 = .ok (.aload_n 0, 1) := by decide +kernel
theorem dX3_remove_62 : decode cX3_remove 62 = .ok (.iload_n 2, 1) := by decide +kernel
theorem dX3_remove_63 : decode cX3_remove 63 = .ok (.putfield 18, 3) := by decide +kernel
theorem dX3_remove_66 : decode cX3_remove 66 = .ok (.return_, 1) := by decide +kernel
theorem dX3_copyFrom_0 : decode cX3_copyFrom 0 = .ok (.iconst 0, 1) := by decide +kernel
theorem dX3_copyFrom_1 : decode cX3_copyFrom 1 = .ok (.istore_n 2, 1) := by decide +kernel
theorem dX3_copyFrom_2 : decode cX3_copyFrom 2 = .ok (.iload_n 2, 1) := by decide +kernel
theorem dX3_copyFrom_3 : decode cX3_copyFrom 3 = .ok (.bipush 10, 2) := by decide +kernel
theorem dX3_copyFrom_5 : decode cX3_copyFrom 5 = .ok (.if_icmp .ge 33, 3) := by decide +kernel
theorem dX3_copyFrom_8 : decode cX3_copyFrom 8 = .ok (.aload_n 0, 1) := by decide +kernel
theorem dX3_copyFrom_9 : decode cX3_copyFrom 9 = .ok (.getfield 9, 3) := by decide +kernel
theorem dX3_copyFrom_12 : decode cX3_copyFrom 12 = .ok (.iload_n 2, 1) := by decide +kernel
theorem dX3_copyFrom_13 : decode cX3_copyFrom 13 = .ok (.aload_n 1, 1) := by decide +kernel
theorem dX3_copyFrom_14 : decode cX3_copyFrom 14 = .ok (.getfield 9, 3) := by decide +kernel
theorem dX3_copyFrom_17 : decode cX3_copyFrom 17 = .ok (.iload_n 2, 1) := by decide +kernel
theorem dX3_copyFrom_18 : decode cX3_copyFrom 18 = .ok (.iaload, 1) := by decide +kernel
theorem dX3_copyFrom_19 : decode cX3_copyFrom 19 = .ok (.iastore, 1) := by decide +kernel
theorem dX3_copyFrom_20 : decode cX3_copyFrom 20 = .ok (.aload_n 0, 1) := by decide +kernel
theorem dX3_copyFrom_21 : decode cX3_copyFrom 21 = .ok (.getfield 15, 3) := by decide +kernel
theorem dX3_copyFrom_24 : decode cX3_copyFrom 24 = .ok (.iload_n 2, 1) := by decide +kernel
theorem dX3_copyFrom_25 : decode cX3_copyFrom 25 = .ok (.aload_n 1, 1) := by decide +kernel
theorem dX3_copyFrom_26 : decode cX3_copyFrom 26 = .ok (.getfield 15, 3) := by decide +kernel
theorem dX3_copyFrom_29 : decode cX3_copyFrom 29 = .ok (.iload_n 2, 1) := by decide +kernel
theorem dX3_copyFrom_30 : decode cX3_copyFrom 30 = .ok (.iaload, 1) := by decide +kernel
theorem dX3_copyFrom_31 : decode cX3_copyFrom 31 = .ok (.iastore, 1) := by decide +kernel
theorem dX3_copyFrom_32 : decode cX3_copyFrom 32 = .ok (.iinc 2 1, 3) := by decide +kernel
theorem dX3_copyFrom_35 : decode cX3_copyFrom 35 = .ok (.goto (-33), 3) := by decide +kernel
theorem dX3_copyFrom_38 : decode cX3_copyFrom 38 = .ok (.aload_n 0, 1) := by decide +kernel
theorem dX3_copyFrom_39 : decode cX3_copyFrom 39 = .ok (.aload_n 1, 1) := by decide +kernel
theorem dX3_copyFrom_40 : decode cX3_copyFrom 40 = .ok (.getfield 18, 3) := by decide +kernel
theorem dX3_copyFrom_43 : decode cX3_copyFrom 43 = .ok (.putfield 18, 3) := by decide +kernel
theorem dX3_copyFrom_46 : decode cX3_copyFrom 46 = .ok (.return_, 1) := by decide +kernel
theorem dX4_init_0 : decode cX4_init 0 = .ok (.aload_n 0, 1) := by decide +kernel
theorem dX4_init_1 : decode cX4_init 1 = .ok (.invokespecial 3, 3) := by decide +kernel
theorem dX4_init_4 : decode cX4_init 4 = .ok (.aload_n 0, 1) := by decide +kernel
theorem dX4_init_5 : decode cX4_init 5 = .ok (.iconst (-1), 1) := by decide +kernel
theorem dX4_init_6 : decode cX4_init 6 = .ok (.putfield 9, 3) := by decide +kernel
theorem dX4_init_9 : decode cX4_init 9 = .ok (.aload_n 0, 1) := by decide +kernel
theorem dX4_init_10 : decode cX4_init 10 = .ok (.iconst 1, 1) := by decide +kernel
theorem dX4_init_11 : decode cX4_init 11 = .ok (.putfield 15, 3) := by decide +kernel
theorem dX4_init_14 : decode cX4_init 14 = .ok (.aload_n 0, 1) := by decide +kernel
theorem dX4_init_15 : decode cX4_init 15 = .ok (.iconst (-1), 1) := by decide +kernel
theorem dX4_init_16 : decode cX4_init 16 = .ok (.putfield 19, 3) := by decide +kernel
theorem dX4_init_19 : decode cX4_init 19 = .ok (.aload_n 0, 1) := by decide +kernel
theorem dX4_init_20 : decode cX4_init 20 = .ok (.iload_n 1, 1) := by decide +kernel
theorem dX4_init_21 : decode cX4_init 21 = .ok (.putfield 22, 3) := by decide +kernel
theorem dX4_init_24 : decode cX4_init 24 = .ok (.return_, 1) := by decide +kernel
theorem dX4_isFree_0 : decode cX4_isFree 0 = .ok (.aload_n 0, 1) := by decide +kernel
theorem dX4_isFree_1 : decode cX4_isFree 1 = .ok (.getfield 25, 3) := by decide +kernel
theorem dX4_isFree_4 : decode cX4_isFree 4 = .ok (.ifCond .eq 23, 3) := by decide +kernel
theorem dX4_isFree_7 : decode cX4_isFree 7 = .ok (.aload_n 0, 1) := by decide +kernel
theorem dX4_isFree_8 : decode cX4_isFree 8 = .ok (.getfield 9, 3) := by decide +kernel
theorem dX4_isFree_11 : decode cX4_isFree 11 = .ok (.iconst (-1), 1) := by decide +kernel
theorem dX4_isFree_12 : decode cX4_isFree 12 = .ok (.if_icmp .ne 15, 3) := by decide +kernel
theorem dX4_isFree_15 : decode cX4_isFree 15 = .ok (.aload_n 0, 1) := by decide +kernel
theorem dX4_isFree_16 : decode cX4_isFree 16 = .ok (.getfield 19, 3) := by decide +kernel
theorem dX4_isFree_19 : decode cX4_isFree 19 = .ok (.iconst (-1), 1) := by decide +kernel
theorem dX4_isFree_20 : decode cX4_isFree 20 = .ok (.if_icmp .ne 7, 3) := by decide +kernel
theorem dX4_isFree_23 : decode cX4_isFree 23 = .ok (.iconst 1, 1) := by decide +kernel
theorem dX4_isFree_24 : decode cX4_isFree 24 = .ok (.goto 4, 3) := by decide +kernel
theorem dX4_isFree_27 : decode cX4_isFree 27 = .ok (.iconst 0, 1) := by decide +kernel
theorem dX4_isFree_28 : decode cX4_isFree 28 = .ok (.ireturn, 1) := by decide +kernel
theorem dX4_copyFrom_0 : decode cX4_copyFrom 0 = .ok (.aload_n 0, 1) := by decide +kernel
theorem dX4_copyFrom_1 : decode cX4_copyFrom 1 = .ok (.aload_n 1, 1) := by decide +kernel
theorem dX4_copyFrom_2 : decode cX4_copyFrom 2 = .ok (.getfield 28, 3) := by decide +kernel
theorem dX4_copyFrom_5 : decode cX4_copyFrom 5 = .ok (.putfield 28, 3) := by decide +kernel
theorem dX4_copyFrom_8 : decode cX4_copyFrom 8 = .ok (.aload_n 0, 1) := by decide +kernel
theorem dX4_copyFrom_9 : decode cX4_copyFrom 9 = .ok (.aload_n 1, 1) := by decide +kernel
theorem dX4_copyFrom_10 : decode cX4_copyFrom 10 = .ok (.getfield 25, 3) := by decide +kernel
theorem dX4_copyFrom_13 : decode cX4_copyFrom 13 = .ok (.putfield 25, 3) := by decide +kernel
theorem dX4_copyFrom_16 : decode cX4_copyFrom 16 = .ok (.aload_n 0, 1) := by decide +kernel
theorem dX4_copyFrom_17 : decode cX4_copyFrom 17 = .ok (.aload_n 1, 1) := by decide +kernel
theorem dX4_copyFrom_18 : decode cX4_copyFrom 18 = .ok (.getfield 9, 3) := by decide +kernel
theorem dX4_copyFrom_21 : decode cX4_copyFrom 21 = .ok (.putfield 9, 3) := by decide +kernel
theorem dX4_copyFrom_24 : decode cX4_copyFrom 24 = .ok (.aload_n 0, 1) := by decide +kernel
theorem dX4_copyFrom_25 : decode cX4_copyFrom 25 = .ok (.aload_n 1, 1) := by decide +kernel
theorem dX4_copyFrom_26 : decode cX4_copyFrom 26 = .ok (.getfield 15, 3) := by decide +kernel
theorem dX4_copyFrom_29 : decode cX4_copyFrom 29 = .ok (.putfield 15, 3) := by decide +kernel
theorem dX4_copyFrom_32 : decode cX4_copyFrom 32 = .ok (.aload_n 0, 1) := by decide +kernel
theorem dX4_copyFrom_33 : decode cX4_copyFrom 33 = .ok (.aload_n 1, 1) := by decide +kernel
theorem dX4_copyFrom_34 : decode cX4_copyFrom 34 = .ok (.getfield 19, 3) := by decide +kernel
theorem dX4_copyFrom_37 : decode cX4_copyFrom 37 = .ok (.putfield 19, 3) := by decide +kernel
theorem dX4_copyFrom_40 : decode cX4_copyFrom 40 = .ok (.aload_n 0, 1) := by decide +kernel
theorem dX4_copyFrom_41 : decode cX4_copyFrom 41 = .ok (.aload_n 1, 1) := by decide +kernel
theorem dX4_copyFrom_42 : decode cX4_copyFrom 42 = .ok (.getfield 31, 3) := by decide +kernel
theorem dX4_copyFrom_45 : decode cX4_copyFrom 45 = .ok (.putfield 31, 3) := by decide +kernel
theorem dX4_copyFrom_48 : decode cX4_copyFrom 48 = .ok (.return_, 1) := by decide +kernel
theorem dX5_init_0 : decode cX5_init 0 = .ok (.aload_n 0, 1) := by decide +kernel
theorem dX5_init_1 : decode cX5_init 1 = .ok (.invokespecial 3, 3) := by decide +kernel
theorem dX5_init_4 : decode cX5_init 4 = .ok (.aload_n 0, 1) := by decide +kernel
theorem dX5_init_5 : decode cX5_init 5 = .ok (.iconst (-1), 1) := by decide +kernel
theorem dX5_init_6 : decode cX5_init 6 = .ok (.putfield 9, 3) := by decide +kernel
theorem dX5_init_9 : decode cX5_init 9 = .ok (.aload_n 0, 1) := by decide +kernel
theorem dX5_init_10 : decode cX5_init 10 = .ok (.iload_n 1, 1) := by decide +kernel
theorem dX5_init_11 : decode cX5_init 11 = .ok (.putfield 15, 3) := by decide +kernel
theorem dX5_init_14 : decode cX5_init 14 = .ok (.return_, 1) := by decide +kernel
theorem dX5_overdueOn_0 : decode cX5_overdueOn 0 = .ok (.aload_n 0, 1) := by decide +kernel
theorem dX5_overdueOn_1 : decode cX5_overdueOn 1 = .ok (.getfield 9, 3) := by decide +kernel
theorem dX5_overdueOn_4 : decode cX5_overdueOn 4 = .ok (.iconst (-1), 1) := by decide +kernel
theorem dX5_overdueOn_5 : decode cX5_overdueOn 5 = .ok (.if_icmp .eq 11, 3) := by decide +kernel
theorem dX5_overdueOn_8 : decode cX5_overdueOn 8 = .ok (.iload_n 1, 1) := by decide +kernel
theorem dX5_overdueOn_9 : decode cX5_overdueOn 9 = .ok (.aload_n 0, 1) := by decide +kernel
theorem dX5_overdueOn_10 : decode cX5_overdueOn 10 = .ok (.getfield 18, 3) := by decide +kernel
theorem dX5_overdueOn_13 : decode cX5_overdueOn 13 = .ok (.if_icmp .gt 7, 3) := by decide +kernel
theorem dX5_overdueOn_16 : decode cX5_overdueOn 16 = .ok (.iconst 0, 1) := by decide +kernel
theorem dX5_overdueOn_17 : decode cX5_overdueOn 17 = .ok (.goto 9, 3) := by decide +kernel
theorem dX5_overdueOn_20 : decode cX5_overdueOn 20 = .ok (.iload_n 1, 1) := by decide +kernel
theorem dX5_overdueOn_21 : decode cX5_overdueOn 21 = .ok (.aload_n 0, 1) := by decide +kernel
theorem dX5_overdueOn_22 : decode cX5_overdueOn 22 = .ok (.getfield 18, 3) := by decide +kernel
theorem dX5_overdueOn_25 : decode cX5_overdueOn 25 = .ok (.isub, 1) := by decide +kernel
theorem dX5_overdueOn_26 : decode cX5_overdueOn 26 = .ok (.ireturn, 1) := by decide +kernel
theorem dX5_copyFrom_0 : decode cX5_copyFrom 0 = .ok (.aload_n 0, 1) := by decide +kernel
theorem dX5_copyFrom_1 : decode cX5_copyFrom 1 = .ok (.aload_n 1, 1) := by decide +kernel
theorem dX5_copyFrom_2 : decode cX5_copyFrom 2 = .ok (.getfield 9, 3) := by decide +kernel
theorem dX5_copyFrom_5 : decode cX5_copyFrom 5 = .ok (.putfield 9, 3) := by decide +kernel
theorem dX5_copyFrom_8 : decode cX5_copyFrom 8 = .ok (.aload_n 0, 1) := by decide +kernel
theorem dX5_copyFrom_9 : decode cX5_copyFrom 9 = .ok (.aload_n 1, 1) := by decide +kernel
theorem dX5_copyFrom_10 : decode cX5_copyFrom 10 = .ok (.getfield 18, 3) := by decide +kernel
theorem dX5_copyFrom_13 : decode cX5_copyFrom 13 = .ok (.putfield 18, 3) := by decide +kernel
theorem dX5_copyFrom_16 : decode cX5_copyFrom 16 = .ok (.aload_n 0, 1) := by decide +kernel
theorem dX5_copyFrom_17 : decode cX5_copyFrom 17 = .ok (.aload_n 1, 1) := by decide +kernel
theorem dX5_copyFrom_18 : decode cX5_copyFrom 18 = .ok (.getfield 21, 3) := by decide +kernel
theorem dX5_copyFrom_21 : decode cX5_copyFrom 21 = .ok (.putfield 21, 3) := by decide +kernel
theorem dX5_copyFrom_24 : decode cX5_copyFrom 24 = .ok (.aload_n 0, 1) := by decide +kernel
theorem dX5_copyFrom_25 : decode cX5_copyFrom 25 = .ok (.aload_n 1, 1) := by decide +kernel
theorem dX5_copyFrom_26 : decode cX5_copyFrom 26 = .ok (.getfield 24, 3) := by decide +kernel
theorem dX5_copyFrom_29 : decode cX5_copyFrom 29 = .ok (.putfield 24, 3) := by decide +kernel
theorem dX5_copyFrom_32 : decode cX5_copyFrom 32 = .ok (.aload_n 0, 1) := by decide +kernel
theorem dX5_copyFrom_33 : decode cX5_copyFrom 33 = .ok (.aload_n 1, 1) := by decide +kernel
theorem dX5_copyFrom_34 : decode cX5_copyFrom 34 = .ok (.getfield 27, 3) := by decide +kernel
theorem dX5_copyFrom_37 : decode cX5_copyFrom 37 = .ok (.putfield 27, 3) := by decide +kernel
theorem dX5_copyFrom_40 : decode cX5_copyFrom 40 = .ok (.aload_n 0, 1) := by decide +kernel
theorem dX5_copyFrom_41 : decode cX5_copyFrom 41 = .ok (.aload_n 1, 1) := by decide +kernel
theorem dX5_copyFrom_42 : decode cX5_copyFrom 42 = .ok (.getfield 30, 3) := by decide +kernel
theorem dX5_copyFrom_45 : decode cX5_copyFrom 45 = .ok (.putfield 30, 3) := by decide +kernel
theorem dX5_copyFrom_48 : decode cX5_copyFrom 48 = .ok (.aload_n 0, 1) := by decide +kernel
theorem dX5_copyFrom_49 : decode cX5_copyFrom 49 = .ok (.aload_n 1, 1) := by decide +kernel
theorem dX5_copyFrom_50 : decode cX5_copyFrom 50 = .ok (.getfield 33, 3) := by decide +kernel
theorem dX5_copyFrom_53 : decode cX5_copyFrom 53 = .ok (.putfield 33, 3) := by decide +kernel
theorem dX5_copyFrom_56 : decode cX5_copyFrom 56 = .ok (.return_, 1) := by decide +kernel
theorem dX6_init_0 : decode cX6_init 0 = .ok (.aload_n 0, 1) := by decide +kernel
theorem dX6_init_1 : decode cX6_init 1 = .ok (.invokespecial 3, 3) := by decide +kernel
theorem dX6_init_4 : decode cX6_init 4 = .ok (.aload_n 0, 1) := by decide +kernel
theorem dX6_init_5 : decode cX6_init 5 = .ok (.new 9, 3) := by decide +kernel
theorem dX6_init_8 : decode cX6_init 8 = .ok (.dup, 1) := by decide +kernel
theorem dX6_init_9 : decode cX6_init 9 = .ok (.invokespecial 11, 3) := by decide +kernel
theorem dX6_init_12 : decode cX6_init 12 = .ok (.putfield 12, 3) := by decide +kernel
theorem dX6_init_15 : decode cX6_init 15 = .ok (.return_, 1) := by decide +kernel
theorem dX6_feeOf_0 : decode cX6_feeOf 0 = .ok (.aload_n 1, 1) := by decide +kernel
theorem dX6_feeOf_1 : decode cX6_feeOf 1 = .ok (.iload_n 2, 1) := by decide +kernel
theorem dX6_feeOf_2 : decode cX6_feeOf 2 = .ok (.invokevirtual 18, 3) := by decide +kernel
theorem dX6_feeOf_5 : decode cX6_feeOf 5 = .ok (.astore 4, 2) := by decide +kernel
theorem dX6_feeOf_7 : decode cX6_feeOf 7 = .ok (.aload 4, 2) := by decide +kernel
theorem dX6_feeOf_9 : decode cX6_feeOf 9 = .ok (.ifnull 14, 3) := by decide +kernel
theorem dX6_feeOf_12 : decode cX6_feeOf 12 = .ok (.iload_n 3, 1) := by decide +kernel
theorem dX6_feeOf_13 : decode cX6_feeOf 13 = .ok (.iconst 1, 1) := by decide +kernel
theorem dX6_feeOf_14 : decode cX6_feeOf 14 = .ok (.if_icmp .lt 9, 3) := by decide +kernel
theorem dX6_feeOf_17 : decode cX6_feeOf 17 = .ok (.iload_n 3, 1) := by decide +kernel
theorem dX6_feeOf_18 : decode cX6_feeOf 18 = .ok (.bipush 99, 2) := by decide +kernel
theorem dX6_feeOf_20 : decode cX6_feeOf 20 = .ok (.if_icmp .le 5, 3) := by decide +kernel
theorem dX6_feeOf_23 : decode cX6_feeOf 23 = .ok (.iconst (-1), 1) := by decide +kernel
theorem dX6_feeOf_24 : decode cX6_feeOf 24 = .ok (.ireturn, 1) := by decide +kernel
theorem dX6_feeOf_25 : decode cX6_feeOf 25 = .ok (.aload_n 0, 1) := by decide +kernel
theorem dX6_feeOf_26 : decode cX6_feeOf 26 = .ok (.getfield 12, 3) := by decide +kernel
theorem dX6_feeOf_29 : decode cX6_feeOf 29 = .ok (.aload_n 1, 1) := by decide +kernel
theorem dX6_feeOf_30 : decode cX6_feeOf 30 = .ok (.invokevirtual 22, 3) := by decide +kernel
theorem dX6_feeOf_33 : decode cX6_feeOf 33 = .ok (.aload_n 0, 1) := by decide +kernel
theorem dX6_feeOf_34 : decode cX6_feeOf 34 = .ok (.getfield 12, 3) := by decide +kernel
theorem dX6_feeOf_37 : decode cX6_feeOf 37 = .ok (.iload_n 3, 1) := by decide +kernel
theorem dX6_feeOf_38 : decode cX6_feeOf 38 = .ok (.sipush 5099, 3) := by decide +kernel
theorem dX6_feeOf_41 : decode cX6_feeOf 41 = .ok (.invokevirtual 26, 3) := by decide +kernel
theorem dX6_feeOf_44 : decode cX6_feeOf 44 = .ok (.pop, 1) := by decide +kernel
theorem dX6_feeOf_45 : decode cX6_feeOf 45 = .ok (.aload_n 0, 1) := by decide +kernel
theorem dX6_feeOf_46 : decode cX6_feeOf 46 = .ok (.getfield 12, 3) := by decide +kernel
theorem dX6_feeOf_49 : decode cX6_feeOf 49 = .ok (.iload_n 2, 1) := by decide +kernel
theorem dX6_feeOf_50 : decode cX6_feeOf 50 = .ok (.invokevirtual 18, 3) := by decide +kernel
theorem dX6_feeOf_53 : decode cX6_feeOf 53 = .ok (.astore 5, 2) := by decide +kernel
theorem dX6_feeOf_55 : decode cX6_feeOf 55 = .ok (.aload 5, 2) := by decide +kernel
theorem dX6_feeOf_57 : decode cX6_feeOf 57 = .ok (.ifnonnull 7, 3) := by decide +kernel
theorem dX6_feeOf_60 : decode cX6_feeOf 60 = .ok (.iconst (-1), 1) := by decide +kernel
theorem dX6_feeOf_61 : decode cX6_feeOf 61 = .ok (.goto 14, 3) := by decide +kernel
theorem dX6_feeOf_64 : decode cX6_feeOf 64 = .ok (.aload 5, 2) := by decide +kernel
theorem dX6_feeOf_66 : decode cX6_feeOf 66 = .ok (.getfield 30, 3) := by decide +kernel
theorem dX6_feeOf_69 : decode cX6_feeOf 69 = .ok (.aload 4, 2) := by decide +kernel
theorem dX6_feeOf_71 : decode cX6_feeOf 71 = .ok (.getfield 30, 3) := by decide +kernel
theorem dX6_feeOf_74 : decode cX6_feeOf 74 = .ok (.isub, 1) := by decide +kernel
theorem dX6_feeOf_75 : decode cX6_feeOf 75 = .ok (.ireturn, 1) := by decide +kernel
theorem dX6_lockerBehindSwapping_0 : decode cX6_lockerBehindSwapping 0 = .ok (.aload_n 0, 1) := by decide +kernel
theorem dX6_lockerBehindSwapping_1 : decode cX6_lockerBehindSwapping 1 = .ok (.getfield 12, 3) := by decide +kernel
theorem dX6_lockerBehindSwapping_4 : decode cX6_lockerBehindSwapping 4 = .ok (.aload_n 1, 1) := by decide +kernel
theorem dX6_lockerBehindSwapping_5 : decode cX6_lockerBehindSwapping 5 = .ok (.invokevirtual 22, 3) := by decide +kernel
theorem dX6_lockerBehindSwapping_8 : decode cX6_lockerBehindSwapping 8 = .ok (.aload_n 0, 1) := by decide +kernel
theorem dX6_lockerBehindSwapping_9 : decode cX6_lockerBehindSwapping 9 = .ok (.getfield 12, 3) := by decide +kernel
theorem dX6_lockerBehindSwapping_12 : decode cX6_lockerBehindSwapping 12 = .ok (.invokevirtual 36, 3) := by decide +kernel
theorem dX6_lockerBehindSwapping_15 : decode cX6_lockerBehindSwapping 15 = .ok (.pop, 1) := by decide +kernel
theorem dX6_lockerBehindSwapping_16 : decode cX6_lockerBehindSwapping 16 = .ok (.aload_n 0, 1) := by decide +kernel
theorem dX6_lockerBehindSwapping_17 : decode cX6_lockerBehindSwapping 17 = .ok (.getfield 12, 3) := by decide +kernel
theorem dX6_lockerBehindSwapping_20 : decode cX6_lockerBehindSwapping 20 = .ok (.iload_n 2, 1) := by decide +kernel
theorem dX6_lockerBehindSwapping_21 : decode cX6_lockerBehindSwapping 21 = .ok (.iconst 0, 1) := by decide +kernel
theorem dX6_lockerBehindSwapping_22 : decode cX6_lockerBehindSwapping 22 = .ok (.invokevirtual 40, 3) := by decide +kernel
theorem dX6_lockerBehindSwapping_25 : decode cX6_lockerBehindSwapping 25 = .ok (.ireturn, 1) := by decide +kernel
theorem dX6_playText_0 : decode cX6_playText 0 = .ok (.aload_n 0, 1) := by decide +kernel
theorem dX6_playText_1 : decode cX6_playText 1 = .ok (.getfield 12, 3) := by decide +kernel
theorem dX6_playText_4 : decode cX6_playText 4 = .ok (.aload_n 1, 1) := by decide +kernel
theorem dX6_playText_5 : decode cX6_playText 5 = .ok (.invokevirtual 22, 3) := by decide +kernel
theorem dX6_playText_8 : decode cX6_playText 8 = .ok (.aload_n 0, 1) := by decide +kernel
theorem dX6_playText_9 : decode cX6_playText 9 = .ok (.iconst (-1), 1) := by decide +kernel
theorem dX6_playText_10 : decode cX6_playText 10 = .ok (.putfield 43, 3) := by decide +kernel
theorem dX6_playText_13 : decode cX6_playText 13 = .ok (.aload_n 0, 1) := by decide +kernel
theorem dX6_playText_14 : decode cX6_playText 14 = .ok (.iconst 0, 1) := by decide +kernel
theorem dX6_playText_15 : decode cX6_playText 15 = .ok (.putfield 46, 3) := by decide +kernel
theorem dX6_playText_18 : decode cX6_playText 18 = .ok (.iconst 0, 1) := by decide +kernel
theorem dX6_playText_19 : decode cX6_playText 19 = .ok (.istore_n 3, 1) := by decide +kernel
theorem dX6_playText_20 : decode cX6_playText 20 = .ok (.iconst 0, 1) := by decide +kernel
theorem dX6_playText_21 : decode cX6_playText 21 = .ok (.istore 4, 2) := by decide +kernel
theorem dX6_playText_23 : decode cX6_playText 23 = .ok (.iload 4, 2) := by decide +kernel
theorem dX6_playText_25 : decode cX6_playText 25 = .ok (.bipush 80, 2) := by decide +kernel
theorem dX6_playText_27 : decode cX6_playText 27 = .ok (.if_icmp .ge 80, 3) := by decide +kernel
theorem dX6_playText_30 : decode cX6_playText 30 = .ok (.iload_n 3, 1) := by decide +kernel
theorem dX6_playText_31 : decode cX6_playText 31 = .ok (.aload_n 2, 1) := by decide +kernel
theorem dX6_playText_32 : decode cX6_playText 32 = .ok (.getfield 49, 3) := by decide +kernel
theorem dX6_playText_35 : decode cX6_playText 35 = .ok (.if_icmp .ge 72, 3) := by decide +kernel
theorem dX6_playText_38 : decode cX6_playText 38 = .ok (.aload_n 2, 1) := by decide +kernel
theorem dX6_playText_39 : decode cX6_playText 39 = .ok (.iload_n 3, 1) := by decide +kernel
theorem dX6_playText_40 : decode cX6_playText 40 = .ok (.invokevirtual 54, 3) := by decide +kernel
theorem dX6_playText_43 : decode cX6_playText 43 = .ok (.ifCond .ne 11, 3) := by decide +kernel
theorem dX6_playText_46 : decode cX6_playText 46 = .ok (.aload_n 0, 1) := by decide +kernel
theorem dX6_playText_47 : decode cX6_playText 47 = .ok (.iload_n 3, 1) := by decide +kernel
theorem dX6_playText_48 : decode cX6_playText 48 = .ok (.iconst 1, 1) := by decide +kernel
theorem dX6_playText_49 : decode cX6_playText 49 = .ok (.iconst 0, 1) := by decide +kernel
theorem dX6_playText_50 : decode cX6_playText 50 = .ok (.invokevirtual 58, 3) := by decide +kernel
theorem dX6_playText_53 : decode cX6_playText 53 = .ok (.return_, 1) := by decide +kernel
theorem dX6_playText_54 : decode cX6_playText 54 = .ok (.aload_n 0, 1) := by decide +kernel
theorem dX6_playText_55 : decode cX6_playText 55 = .ok (.aload_n 2, 1) := by decide +kernel
theorem dX6_playText_56 : decode cX6_playText 56 = .ok (.getfield 62, 3) := by decide +kernel
theorem dX6_playText_59 : decode cX6_playText 59 = .ok (.aload_n 2, 1) := by decide +kernel
theorem dX6_playText_60 : decode cX6_playText 60 = .ok (.getfield 66, 3) := by decide +kernel
theorem dX6_playText_63 : decode cX6_playText 63 = .ok (.aload_n 2, 1) := by decide +kernel
theorem dX6_playText_64 : decode cX6_playText 64 = .ok (.getfield 69, 3) := by decide +kernel
theorem dX6_playText_67 : decode cX6_playText 67 = .ok (.invokevirtual 72, 3) := by decide +kernel
theorem dX6_playText_70 : decode cX6_playText 70 = .ok (.istore 5, 2) := by decide +kernel
theorem dX6_playText_72 : decode cX6_playText 72 = .ok (.iload 5, 2) := by decide +kernel
theorem dX6_playText_74 : decode cX6_playText 74 = .ok (.ifCond .ge 12, 3) := by decide +kernel
theorem dX6_playText_77 : decode cX6_playText 77 = .ok (.aload_n 0, 1) := by decide +kernel
theorem dX6_playText_78 : decode cX6_playText 78 = .ok (.iload_n 3, 1) := by decide +kernel
theorem dX6_playText_79 : decode cX6_playText 79 = .ok (.iconst 2, 1) := by decide +kernel
theorem dX6_playText_80 : decode cX6_playText 80 = .ok (.iload 5, 2) := by decide +kernel
theorem dX6_playText_82 : decode cX6_playText 82 = .ok (.invokevirtual 58, 3) := by decide +kernel
theorem dX6_playText_85 : decode cX6_playText 85 = .ok (.return_, 1) := by decide +kernel
theorem dX6_playText_86 : decode cX6_playText 86 = .ok (.aload_n 0, 1) := by decide +kernel
theorem dX6_playText_87 : decode cX6_playText 87 = .ok (.dup, 1) := by decide +kernel
theorem dX6_playText_88 : decode cX6_playText 88 = .ok (.getfield 46, 3) := by decide +kernel
theorem dX6_playText_91 : decode cX6_playText 91 = .ok (.iconst 1, 1) := by decide +kernel
theorem dX6_playText_92 : decode cX6_playText 92 = .ok (.iadd, 1) := by decide +kernel
theorem dX6_playText_93 : decode cX6_playText 93 = .ok (.putfield 46, 3) := by decide +kernel
theorem dX6_playText_96 : decode cX6_playText 96 = .ok (.aload_n 2, 1) := by decide +kernel
theorem dX6_playText_97 : decode cX6_playText 97 = .ok (.getfield 76, 3) := by decide +kernel
theorem dX6_playText_100 : decode cX6_playText 100 = .ok (.istore_n 3, 1) := by decide +kernel
theorem dX6_playText_101 : decode cX6_playText 101 = .ok (.iinc 4 1, 3) := by decide +kernel
theorem dX6_playText_104 : decode cX6_playText 104 = .ok (.goto (-81), 3) := by decide +kernel
theorem dX6_playText_107 : decode cX6_playText 107 = .ok (.return_, 1) := by decide +kernel
theorem dX6_failed_0 : decode cX6_failed 0 = .ok (.aload_n 0, 1) := by decide +kernel
theorem dX6_failed_1 : decode cX6_failed 1 = .ok (.getfield 43, 3) := by decide +kernel
theorem dX6_failed_4 : decode cX6_failed 4 = .ok (.iconst (-1), 1) := by decide +kernel
theorem dX6_failed_5 : decode cX6_failed 5 = .ok (.if_icmp .eq 7, 3) := by decide +kernel
theorem dX6_failed_8 : decode cX6_failed 8 = .ok (.iconst 1, 1) := by decide +kernel
theorem dX6_failed_9 : decode cX6_failed 9 = .ok (.goto 4, 3) := by decide +kernel
theorem dX6_failed_12 : decode cX6_failed 12 = .ok (.iconst 0, 1) := by decide +kernel
theorem dX6_failed_13 : decode cX6_failed 13 = .ok (.ireturn, 1) := by decide +kernel
theorem dX6_noteFault_0 : decode cX6_noteFault 0 = .ok (.aload_n 0, 1) := by decide +kernel
theorem dX6_noteFault_1 : decode cX6_noteFault 1 = .ok (.iload_n 1, 1) := by decide +kernel
theorem dX6_noteFault_2 : decode cX6_noteFault 2 = .ok (.putfield 43, 3) := by decide +kernel
theorem dX6_noteFault_5 : decode cX6_noteFault 5 = .ok (.aload_n 0, 1) := by decide +kernel
theorem dX6_noteFault_6 : decode cX6_noteFault 6 = .ok (.iload_n 2, 1) := by decide +kernel
theorem dX6_noteFault_7 : decode cX6_noteFault 7 = .ok (.putfield 79, 3) := by decide +kernel
theorem dX6_noteFault_10 : decode cX6_noteFault 10 = .ok (.aload_n 0, 1) := by decide +kernel
theorem dX6_noteFault_11 : decode cX6_noteFault 11 = .ok (.iload_n 3, 1) := by decide +kernel
theorem dX6_noteFault_12 : decode cX6_noteFault 12 = .ok (.putfield 82, 3) := by decide +kernel
theorem dX6_noteFault_15 : decode cX6_noteFault 15 = .ok (.return_, 1) := by decide +kernel
theorem dX6_obey_0 : decode cX6_obey 0 = .ok (.getstatic 85, 3) := by decide +kernel
theorem dX6_obey_3 : decode cX6_obey 3 = .ok (.aload_n 1, 1) := by decide +kernel
theorem dX6_obey_4 : decode cX6_obey 4 = .ok (.invokevirtual 91, 3) := by decide +kernel
theorem dX6_obey_7 : decode cX6_obey 7 = .ok (.iaload, 1) := by decide +kernel
theorem dX6_obey_8 : decode cX6_obey 8 = .ok (.tableswitch 109 1 7 #[44, 54, 63, 72, 81, 91, 99], 44) := by decide +kernel
theorem dX6_obey_52 : decode cX6_obey 52 = .ok (.aload_n 0, 1) := by decide +kernel
theorem dX6_obey_53 : decode cX6_obey 53 = .ok (.getfield 12, 3) := by decide +kernel
theorem dX6_obey_56 : decode cX6_obey 56 = .ok (.iload_n 2, 1) := by decide +kernel
theorem dX6_obey_57 : decode cX6_obey 57 = .ok (.iload_n 3, 1) := by decide +kernel
theorem dX6_obey_58 : decode cX6_obey 58 = .ok (.invokevirtual 96, 3) := by decide +kernel
theorem dX6_obey_61 : decode cX6_obey 61 = .ok (.ireturn, 1) := by decide +kernel
theorem dX6_obey_62 : decode cX6_obey 62 = .ok (.aload_n 0, 1) := by decide +kernel
theorem dX6_obey_63 : decode cX6_obey 63 = .ok (.getfield 12, 3) := by decide +kernel
theorem dX6_obey_66 : decode cX6_obey 66 = .ok (.iload_n 2, 1) := by decide +kernel
theorem dX6_obey_67 : decode cX6_obey 67 = .ok (.invokevirtual 99, 3) := by decide +kernel
theorem dX6_obey_70 : decode cX6_obey 70 = .ok (.ireturn, 1) := by decide +kernel
theorem dX6_obey_71 : decode cX6_obey 71 = .ok (.aload_n 0, 1) := by decide +kernel
theorem dX6_obey_72 : decode cX6_obey 72 = .ok (.getfield 12, 3) := by decide +kernel
theorem dX6_obey_75 : decode cX6_obey 75 = .ok (.iload_n 2, 1) := by decide +kernel
theorem dX6_obey_76 : decode cX6_obey 76 = .ok (.invokevirtual 103, 3) := by decide +kernel
theorem dX6_obey_79 : decode cX6_obey 79 = .ok (.ireturn, 1) := by decide +kernel
theorem dX6_obey_80 : decode cX6_obey 80 = .ok (.aload_n 0, 1) := by decide +kernel
theorem dX6_obey_81 : decode cX6_obey 81 = .ok (.getfield 12, 3) := by decide +kernel
theorem dX6_obey_84 : decode cX6_obey 84 = .ok (.iload_n 2, 1) := by decide +kernel
theorem dX6_obey_85 : decode cX6_obey 85 = .ok (.invokevirtual 106, 3) := by decide +kernel
theorem dX6_obey_88 : decode cX6_obey 88 = .ok (.ireturn, 1) := by decide +kernel
theorem dX6_obey_89 : decode cX6_obey 89 = .ok (.aload_n 0, 1) := by decide +kernel
theorem dX6_obey_90 : decode cX6_obey 90 = .ok (.getfield 12, 3) := by decide +kernel
theorem dX6_obey_93 : decode cX6_obey 93 = .ok (.iload_n 2, 1) := by decide +kernel
theorem dX6_obey_94 : decode cX6_obey 94 = .ok (.iload_n 3, 1) := by decide +kernel
theorem dX6_obey_95 : decode cX6_obey 95 = .ok (.invokevirtual 109, 3) := by decide +kernel
theorem dX6_obey_98 : decode cX6_obey 98 = .ok (.ireturn, 1) := by decide +kernel
theorem dX6_obey_99 : decode cX6_obey 99 = .ok (.aload_n 0, 1) := by decide +kernel
theorem dX6_obey_100 : decode cX6_obey 100 = .ok (.getfield 12, 3) := by decide +kernel
theorem dX6_obey_103 : decode cX6_obey 103 = .ok (.invokevirtual 36, 3) := by decide +kernel
theorem dX6_obey_106 : decode cX6_obey 106 = .ok (.ireturn, 1) := by decide +kernel
theorem dX6_obey_107 : decode cX6_obey 107 = .ok (.aload_n 0, 1) := by decide +kernel
theorem dX6_obey_108 : decode cX6_obey 108 = .ok (.getfield 12, 3) := by decide +kernel
theorem dX6_obey_111 : decode cX6_obey 111 = .ok (.iload_n 2, 1) := by decide +kernel
theorem dX6_obey_112 : decode cX6_obey 112 = .ok (.iload_n 3, 1) := by decide +kernel
theorem dX6_obey_113 : decode cX6_obey 113 = .ok (.invokevirtual 112, 3) := by decide +kernel
theorem dX6_obey_116 : decode cX6_obey 116 = .ok (.ireturn, 1) := by decide +kernel
theorem dX6_obey_117 : decode cX6_obey 117 = .ok (.aload_n 0, 1) := by decide +kernel
theorem dX6_obey_118 : decode cX6_obey 118 = .ok (.getfield 12, 3) := by decide +kernel
theorem dX6_obey_121 : decode cX6_obey 121 = .ok (.iload_n 2, 1) := by decide +kernel
theorem dX6_obey_122 : decode cX6_obey 122 = .ok (.sipush 5000, 3) := by decide +kernel
theorem dX6_obey_125 : decode cX6_obey 125 = .ok (.invokevirtual 26, 3) := by decide +kernel
theorem dX6_obey_128 : decode cX6_obey 128 = .ok (.ireturn, 1) := by decide +kernel
theorem dX7_init_0 : decode cX7_init 0 = .ok (.aload_n 0, 1) := by decide +kernel
theorem dX7_init_1 : decode cX7_init 1 = .ok (.invokespecial 3, 3) := by decide +kernel
theorem dX7_init_4 : decode cX7_init 4 = .ok (.aload_n 0, 1) := by decide +kernel
theorem dX7_init_5 : decode cX7_init 5 = .ok (.bipush 80, 2) := by decide +kernel
theorem dX7_init_7 : decode cX7_init 7 = .ok (.newarray .char, 2) := by decide +kernel
theorem dX7_init_9 : decode cX7_init 9 = .ok (.putfield 9, 3) := by decide +kernel
theorem dX7_init_12 : decode cX7_init 12 = .ok (.return_, 1) := by decide +kernel
theorem dX7_append_0 : decode cX7_append 0 = .ok (.iload_n 1, 1) := by decide +kernel
theorem dX7_append_1 : decode cX7_append 1 = .ok (.bipush 32, 2) := by decide +kernel
theorem dX7_append_3 : decode cX7_append 3 = .ok (.if_icmp .lt 9, 3) := by decide +kernel
theorem dX7_append_6 : decode cX7_append 6 = .ok (.iload_n 1, 1) := by decide +kernel
theorem dX7_append_7 : decode cX7_append 7 = .ok (.bipush 126, 2) := by decide +kernel
theorem dX7_append_9 : decode cX7_append 9 = .ok (.if_icmp .le 5, 3) := by decide +kernel
theorem dX7_append_12 : decode cX7_append 12 = .ok (.iconst (-1), 1) := by decide +kernel
theorem dX7_append_13 : decode cX7_append 13 = .ok (.ireturn, 1) := by decide +kernel
theorem dX7_append_14 : decode cX7_append 14 = .ok (.aload_n 0, 1) := by decide +kernel
theorem dX7_append_15 : decode cX7_append 15 = .ok (.getfield 15, 3) := by decide +kernel
theorem dX7_append_18 : decode cX7_append 18 = .ok (.bipush 80, 2) := by decide +kernel
theorem dX7_append_20 : decode cX7_append 20 = .ok (.if_icmp .lt 6, 3) := by decide +kernel
theorem dX7_append_23 : decode cX7_append 23 = .ok (.bipush (-3), 2) := by decide +kernel
theorem dX7_append_25 : decode cX7_append 25 = .ok (.ireturn, 1) := by decide +kernel
theorem dX7_append_26 : decode cX7_append 26 = .ok (.aload_n 0, 1) := by decide +kernel
theorem dX7_append_27 : decode cX7_append 27 = .ok (.getfield 9, 3) := by decide +kernel
theorem dX7_append_30 : decode cX7_append 30 = .ok (.aload_n 0, 1) := by decide +kernel
theorem dX7_append_31 : decode cX7_append 31 = .ok (.getfield 15, 3) := by decide +kernel
theorem dX7_append_34 : decode cX7_append 34 = .ok (.iload_n 1, 1) := by decide +kernel
theorem dX7_append_35 : decode cX7_append 35 = .ok (.i2c, 1) := by decide +kernel
theorem dX7_append_36 : decode cX7_append 36 = .ok (.castore, 1) := by decide +kernel
theorem dX7_append_37 : decode cX7_append 37 = .ok (.aload_n 0, 1) := by decide +kernel
theorem dX7_append_38 : decode cX7_append 38 = .ok (.dup, 1) := by decide +kernel
theorem dX7_append_39 : decode cX7_append 39 = .ok (.getfield 15, 3) := by decide +kernel
theorem dX7_append_42 : decode cX7_append 42 = .ok (.iconst 1, 1) := by decide +kernel
theorem dX7_append_43 : decode cX7_append 43 = .ok (.iadd, 1) := by decide +kernel
theorem dX7_append_44 : decode cX7_append 44 = .ok (.putfield 15, 3) := by decide +kernel
theorem dX7_append_47 : decode cX7_append 47 = .ok (.aload_n 0, 1) := by decide +kernel
theorem dX7_append_48 : decode cX7_append 48 = .ok (.getfield 15, 3) := by decide +kernel
theorem dX7_append_51 : decode cX7_append 51 = .ok (.ireturn, 1) := by decide +kernel
theorem dX7_clear_0 : decode cX7_clear 0 = .ok (.aload_n 0, 1) := by decide +kernel
theorem dX7_clear_1 : decode cX7_clear 1 = .ok (.getfield 15, 3) := by decide +kernel
theorem dX7_clear_4 : decode cX7_clear 4 = .ok (.istore_n 1, 1) := by decide +kernel
theorem dX7_clear_5 : decode cX7_clear 5 = .ok (.aload_n 0, 1) := by decide +kernel
theorem dX7_clear_6 : decode cX7_clear 6 = .ok (.iconst 0, 1) := by decide +kernel
theorem dX7_clear_7 : decode cX7_clear 7 = .ok (.putfield 15, 3) := by decide +kernel
theorem dX7_clear_10 : decode cX7_clear 10 = .ok (.iload_n 1, 1) := by decide +kernel
theorem dX7_clear_11 : decode cX7_clear 11 = .ok (.ireturn, 1) := by decide +kernel
theorem dX7_readCommand_0 : decode cX7_readCommand 0 = .ok (.aload_n 0, 1) := by decide +kernel
theorem dX7_readCommand_1 : decode cX7_readCommand 1 = .ok (.aload_n 0, 1) := by decide +kernel
theorem dX7_readCommand_2 : decode cX7_readCommand 2 = .ok (.iload_n 1, 1) := by decide +kernel
theorem dX7_readCommand_3 : decode cX7_readCommand 3 = .ok (.invokevirtual 19, 3) := by decide +kernel
theorem dX7_readCommand_6 : decode cX7_readCommand 6 = .ok (.putfield 23, 3) := by decide +kernel
theorem dX7_readCommand_9 : decode cX7_readCommand 9 = .ok (.aload_n 0, 1) := by decide +kernel
theorem dX7_readCommand_10 : decode cX7_readCommand 10 = .ok (.getfield 23, 3) := by decide +kernel
theorem dX7_readCommand_13 : decode cX7_readCommand 13 = .ok (.ifnonnull 5, 3) := by decide +kernel
theorem dX7_readCommand_16 : decode cX7_readCommand 16 = .ok (.iconst 0, 1) := by decide +kernel
theorem dX7_readCommand_17 : decode cX7_readCommand 17 = .ok (.ireturn, 1) := by decide +kernel
theorem dX7_readCommand_18 : decode cX7_readCommand 18 = .ok (.aload_n 0, 1) := by decide +kernel
theorem dX7_readCommand_19 : decode cX7_readCommand 19 = .ok (.iload_n 1, 1) := by decide +kernel
theorem dX7_readCommand_20 : decode cX7_readCommand 20 = .ok (.aload_n 0, 1) := by decide +kernel
theorem dX7_readCommand_21 : decode cX7_readCommand 21 = .ok (.getfield 23, 3) := by decide +kernel
theorem dX7_readCommand_24 : decode cX7_readCommand 24 = .ok (.getfield 27, 3) := by decide +kernel
theorem dX7_readCommand_27 : decode cX7_readCommand 27 = .ok (.invokevirtual 33, 3) := by decide +kernel
theorem dX7_readCommand_30 : decode cX7_readCommand 30 = .ok (.iadd, 1) := by decide +kernel
theorem dX7_readCommand_31 : decode cX7_readCommand 31 = .ok (.putfield 38, 3) := by decide +kernel
theorem dX7_readCommand_34 : decode cX7_readCommand 34 = .ok (.aload_n 0, 1) := by decide +kernel
theorem dX7_readCommand_35 : decode cX7_readCommand 35 = .ok (.aload_n 0, 1) := by decide +kernel
theorem dX7_readCommand_36 : decode cX7_readCommand 36 = .ok (.getfield 23, 3) := by decide +kernel
theorem dX7_readCommand_39 : decode cX7_readCommand 39 = .ok (.getfield 41, 3) := by decide +kernel
theorem dX7_readCommand_42 : decode cX7_readCommand 42 = .ok (.iconst 1, 1) := by decide +kernel
theorem dX7_readCommand_43 : decode cX7_readCommand 43 = .ok (.if_icmp .lt 10, 3) := by decide +kernel
theorem dX7_readCommand_46 : decode cX7_readCommand 46 = .ok (.aload_n 0, 1) := by decide +kernel
theorem dX7_readCommand_47 : decode cX7_readCommand 47 = .ok (.invokevirtual 44, 3) := by decide +kernel
theorem dX7_readCommand_50 : decode cX7_readCommand 50 = .ok (.goto 4, 3) := by decide +kernel
theorem dX7_readCommand_53 : decode cX7_readCommand 53 = .ok (.iconst 0, 1) := by decide +kernel
theorem dX7_readCommand_54 : decode cX7_readCommand 54 = .ok (.putfield 47, 3) := by decide +kernel
theorem dX7_readCommand_57 : decode cX7_readCommand 57 = .ok (.aload_n 0, 1) := by decide +kernel
theorem dX7_readCommand_58 : decode cX7_readCommand 58 = .ok (.aload_n 0, 1) := by decide +kernel
theorem dX7_readCommand_59 : decode cX7_readCommand 59 = .ok (.getfield 23, 3) := by decide +kernel
theorem dX7_readCommand_62 : decode cX7_readCommand 62 = .ok (.getfield 41, 3) := by decide +kernel
theorem dX7_readCommand_65 : decode cX7_readCommand 65 = .ok (.iconst 2, 1) := by decide +kernel
theorem dX7_readCommand_66 : decode cX7_readCommand 66 = .ok (.if_icmp .lt 10, 3) := by decide +kernel
theorem dX7_readCommand_69 : decode cX7_readCommand 69 = .ok (.aload_n 0, 1) := by decide +kernel
theorem dX7_readCommand_70 : decode cX7_readCommand 70 = .ok (.invokevirtual 44, 3) := by decide +kernel
theorem dX7_readCommand_73 : decode cX7_readCommand 73 = .ok (.goto 4, 3) := by decide +kernel
theorem dX7_readCommand_76 : decode cX7_readCommand 76 = .ok (.iconst 0, 1) := by decide +kernel
theorem dX7_readCommand_77 : decode cX7_readCommand 77 = .ok (.putfield 50, 3) := by decide +kernel
theorem dX7_readCommand_80 : decode cX7_readCommand 80 = .ok (.aload_n 0, 1) := by decide +kernel
theorem dX7_readCommand_81 : decode cX7_readCommand 81 = .ok (.getfield 47, 3) := by decide +kernel
theorem dX7_readCommand_84 : decode cX7_readCommand 84 = .ok (.iconst (-1), 1) := by decide +kernel
theorem dX7_readCommand_85 : decode cX7_readCommand 85 = .ok (.if_icmp .eq 24, 3) := by decide +kernel
theorem dX7_readCommand_88 : decode cX7_readCommand 88 = .ok (.aload_n 0, 1) := by decide +kernel
theorem dX7_readCommand_89 : decode cX7_readCommand 89 = .ok (.getfield 50, 3) := by decide +kernel
theorem dX7_readCommand_92 : decode cX7_readCommand 92 = .ok (.iconst (-1), 1) := by decide +kernel
theorem dX7_readCommand_93 : decode cX7_readCommand 93 = .ok (.if_icmp .eq 16, 3) := by decide +kernel
theorem dX7_readCommand_96 : decode cX7_readCommand 96 = .ok (.aload_n 0, 1) := by decide +kernel
theorem dX7_readCommand_97 : decode cX7_readCommand 97 = .ok (.aload_n 0, 1) := by decide +kernel
theorem dX7_readCommand_98 : decode cX7_readCommand 98 = .ok (.getfield 38, 3) := by decide +kernel
theorem dX7_readCommand_101 : decode cX7_readCommand 101 = .ok (.invokevirtual 53, 3) := by decide +kernel
theorem dX7_readCommand_104 : decode cX7_readCommand 104 = .ok (.bipush 59, 2) := by decide +kernel
theorem dX7_readCommand_106 : decode cX7_readCommand 106 = .ok (.if_icmp .eq 5, 3) := by decide +kernel
theorem dX7_readCommand_109 : decode cX7_readCommand 109 = .ok (.iconst 0, 1) := by decide +kernel
theorem dX7_readCommand_110 : decode cX7_readCommand 110 = .ok (.ireturn, 1) := by decide +kernel
theorem dX7_readCommand_111 : decode cX7_readCommand 111 = .ok (.aload_n 0, 1) := by decide +kernel
theorem dX7_readCommand_112 : decode cX7_readCommand 112 = .ok (.dup, 1) := by decide +kernel
theorem dX7_readCommand_113 : decode cX7_readCommand 113 = .ok (.getfield 38, 3) := by decide +kernel
theorem dX7_readCommand_116 : decode cX7_readCommand 116 = .ok (.iconst 1, 1) := by decide +kernel
theorem dX7_readCommand_117 : decode cX7_readCommand 117 = .ok (.iadd, 1) := by decide +kernel
theorem dX7_readCommand_118 : decode cX7_readCommand 118 = .ok (.putfield 38, 3) := by decide +kernel
theorem dX7_readCommand_121 : decode cX7_readCommand 121 = .ok (.iconst 1, 1) := by decide +kernel
theorem dX7_readCommand_122 : decode cX7_readCommand 122 = .ok (.ireturn, 1) := by decide +kernel
theorem dX7_verbAt_0 : decode cX7_verbAt 0 = .ok (.iconst 0, 1) := by decide +kernel
theorem dX7_verbAt_1 : decode cX7_verbAt 1 = .ok (.istore_n 2, 1) := by decide +kernel
theorem dX7_verbAt_2 : decode cX7_verbAt 2 = .ok (.iload_n 2, 1) := by decide +kernel
theorem dX7_verbAt_3 : decode cX7_verbAt 3 = .ok (.getstatic 57, 3) := by decide +kernel
theorem dX7_verbAt_6 : decode cX7_verbAt 6 = .ok (.arraylength, 1) := by decide +kernel
theorem dX7_verbAt_7 : decode cX7_verbAt 7 = .ok (.if_icmp .ge 31, 3) := by decide +kernel
theorem dX7_verbAt_10 : decode cX7_verbAt 10 = .ok (.aload_n 0, 1) := by decide +kernel
theorem dX7_verbAt_11 : decode cX7_verbAt 11 = .ok (.iload_n 1, 1) := by decide +kernel
theorem dX7_verbAt_12 : decode cX7_verbAt 12 = .ok (.getstatic 57, 3) := by decide +kernel
theorem dX7_verbAt_15 : decode cX7_verbAt 15 = .ok (.iload_n 2, 1) := by decide +kernel
theorem dX7_verbAt_16 : decode cX7_verbAt 16 = .ok (.aaload, 1) := by decide +kernel
theorem dX7_verbAt_17 : decode cX7_verbAt 17 = .ok (.getfield 27, 3) := by decide +kernel
theorem dX7_verbAt_20 : decode cX7_verbAt 20 = .ok (.invokevirtual 61, 3) := by decide +kernel
theorem dX7_verbAt_23 : decode cX7_verbAt 23 = .ok (.ifCond .eq 9, 3) := by decide +kernel
theorem dX7_verbAt_26 : decode cX7_verbAt 26 = .ok (.getstatic 57, 3) := by decide +kernel
theorem dX7_verbAt_29 : decode cX7_verbAt 29 = .ok (.iload_n 2, 1) := by decide +kernel
theorem dX7_verbAt_30 : decode cX7_verbAt 30 = .ok (.aaload, 1) := by decide +kernel
theorem dX7_verbAt_31 : decode cX7_verbAt 31 = .ok (.areturn, 1) := by decide +kernel
theorem dX7_verbAt_32 : decode cX7_verbAt 32 = .ok (.iinc 2 1, 3) := by decide +kernel
theorem dX7_verbAt_35 : decode cX7_verbAt 35 = .ok (.goto (-33), 3) := by decide +kernel
theorem dX7_verbAt_38 : decode cX7_verbAt 38 = .ok (.aconst_null, 1) := by decide +kernel
theorem dX7_verbAt_39 : decode cX7_verbAt 39 = .ok (.areturn, 1) := by decide +kernel
theorem dX7_hasWordAt_0 : decode cX7_hasWordAt 0 = .ok (.iconst 0, 1) := by decide +kernel
theorem dX7_hasWordAt_1 : decode cX7_hasWordAt 1 = .ok (.istore_n 3, 1) := by decide +kernel
theorem dX7_hasWordAt_2 : decode cX7_hasWordAt 2 = .ok (.iload_n 3, 1) := by decide +kernel
theorem dX7_hasWordAt_3 : decode cX7_hasWordAt 3 = .ok (.aload_n 2, 1) := by decide +kernel
theorem dX7_hasWordAt_4 : decode cX7_hasWordAt 4 = .ok (.invokevirtual 33, 3) := by decide +kernel
theorem dX7_hasWordAt_7 : decode cX7_hasWordAt 7 = .ok (.if_icmp .ge 26, 3) := by decide +kernel
theorem dX7_hasWordAt_10 : decode cX7_hasWordAt 10 = .ok (.aload_n 0, 1) := by decide +kernel
theorem dX7_hasWordAt_11 : decode cX7_hasWordAt 11 = .ok (.iload_n 1, 1) := by decide +kernel
theorem dX7_hasWordAt_12 : decode cX7_hasWordAt 12 = .ok (.iload_n 3, 1) := by decide +kernel
theorem dX7_hasWordAt_13 : decode cX7_hasWordAt 13 = .ok (.iadd, 1) := by decide +kernel
theorem dX7_hasWordAt_14 : decode cX7_hasWordAt 14 = .ok (.invokevirtual 53, 3) := by decide +kernel
theorem dX7_hasWordAt_17 : decode cX7_hasWordAt 17 = .ok (.aload_n 2, 1) := by decide +kernel
theorem dX7_hasWordAt_18 : decode cX7_hasWordAt 18 = .ok (.iload_n 3, 1) := by decide +kernel
theorem dX7_hasWordAt_19 : decode cX7_hasWordAt 19 = .ok (.invokevirtual 65, 3) := by decide +kernel
theorem dX7_hasWordAt_22 : decode cX7_hasWordAt 22 = .ok (.if_icmp .eq 5, 3) := by decide +kernel
theorem dX7_hasWordAt_25 : decode cX7_hasWordAt 25 = .ok (.iconst 0, 1) := by decide +kernel
theorem dX7_hasWordAt_26 : decode cX7_hasWordAt 26 = .ok (.ireturn, 1) := by decide +kernel
theorem dX7_hasWordAt_27 : decode cX7_hasWordAt 27 = .ok (.iinc 3 1, 3) := by decide +kernel
theorem dX7_hasWordAt_30 : decode cX7_hasWordAt 30 = .ok (.goto (-28), 3) := by decide +kernel
theorem dX7_hasWordAt_33 : decode cX7_hasWordAt 33 = .ok (.iconst 1, 1) := by decide +kernel
theorem dX7_hasWordAt_34 : decode cX7_hasWordAt 34 = .ok (.ireturn, 1) := by decide +kernel
theorem dX7_readNumber_0 : decode cX7_readNumber 0 = .ok (.aload_n 0, 1) := by decide +kernel
theorem dX7_readNumber_1 : decode cX7_readNumber 1 = .ok (.aload_n 0, 1) := by decide +kernel
theorem dX7_readNumber_2 : decode cX7_readNumber 2 = .ok (.getfield 38, 3) := by decide +kernel
theorem dX7_readNumber_5 : decode cX7_readNumber 5 = .ok (.invokevirtual 53, 3) := by decide +kernel
theorem dX7_readNumber_8 : decode cX7_readNumber 8 = .ok (.bipush 32, 2) := by decide +kernel
theorem dX7_readNumber_10 : decode cX7_readNumber 10 = .ok (.if_icmp .eq 5, 3) := by decide +kernel
theorem dX7_readNumber_13 : decode cX7_readNumber 13 = .ok (.iconst (-1), 1) := by decide +kernel
theorem dX7_readNumber_14 : decode cX7_readNumber 14 = .ok (.ireturn, 1) := by decide +kernel
theorem dX7_readNumber_15 : decode cX7_readNumber 15 = .ok (.aload_n 0, 1) := by decide +kernel
theorem dX7_readNumber_16 : decode cX7_readNumber 16 = .ok (.dup, 1) := by decide +kernel
theorem dX7_readNumber_17 : decode cX7_readNumber 17 = .ok (.getfield 38, 3) := by decide +kernel
theorem dX7_readNumber_20 : decode cX7_readNumber 20 = .ok (.iconst 1, 1) := by decide +kernel
theorem dX7_readNumber_21 : decode cX7_readNumber 21 = .ok (.iadd, 1) := by decide +kernel
theorem dX7_readNumber_22 : decode cX7_readNumber 22 = .ok (.putfield 38, 3) := by decide +kernel
theorem dX7_readNumber_25 : decode cX7_readNumber 25 = .ok (.iconst 0, 1) := by decide +kernel
theorem dX7_readNumber_26 : decode cX7_readNumber 26 = .ok (.istore_n 1, 1) := by decide +kernel
theorem dX7_readNumber_27 : decode cX7_readNumber 27 = .ok (.iconst 0, 1) := by decide +kernel
theorem dX7_readNumber_28 : decode cX7_readNumber 28 = .ok (.istore_n 2, 1) := by decide +kernel
theorem dX7_readNumber_29 : decode cX7_readNumber 29 = .ok (.iload_n 1, 1) := by decide +kernel
theorem dX7_readNumber_30 : decode cX7_readNumber 30 = .ok (.iconst 3, 1) := by decide +kernel
theorem dX7_readNumber_31 : decode cX7_readNumber 31 = .ok (.if_icmp .ge 62, 3) := by decide +kernel
theorem dX7_readNumber_34 : decode cX7_readNumber 34 = .ok (.aload_n 0, 1) := by decide +kernel
theorem dX7_readNumber_35 : decode cX7_readNumber 35 = .ok (.aload_n 0, 1) := by decide +kernel
theorem dX7_readNumber_36 : decode cX7_readNumber 36 = .ok (.getfield 38, 3) := by decide +kernel
theorem dX7_readNumber_39 : decode cX7_readNumber 39 = .ok (.invokevirtual 53, 3) := by decide +kernel
theorem dX7_readNumber_42 : decode cX7_readNumber 42 = .ok (.bipush 48, 2) := by decide +kernel
theorem dX7_readNumber_44 : decode cX7_readNumber 44 = .ok (.if_icmp .lt 49, 3) := by decide +kernel
theorem dX7_readNumber_47 : decode cX7_readNumber 47 = .ok (.aload_n 0, 1) := by decide +kernel
theorem dX7_readNumber_48 : decode cX7_readNumber 48 = .ok (.aload_n 0, 1) := by decide +kernel
theorem dX7_readNumber_49 : decode cX7_readNumber 49 = .ok (.getfield 38, 3) := by decide +kernel
theorem dX7_readNumber_52 : decode cX7_readNumber 52 = .ok (.invokevirtual 53, 3) := by decide +kernel
theorem dX7_readNumber_55 : decode cX7_readNumber 55 = .ok (.bipush 57, 2) := by decide +kernel
theorem dX7_readNumber_57 : decode cX7_readNumber 57 = .ok (.if_icmp .gt 36, 3) := by decide +kernel
theorem dX7_readNumber_60 : decode cX7_readNumber 60 = .ok (.iload_n 2, 1) := by decide +kernel
theorem dX7_readNumber_61 : decode cX7_readNumber 61 = .ok (.bipush 10, 2) := by decide +kernel
theorem dX7_readNumber_63 : decode cX7_readNumber 63 = .ok (.imul, 1) := by decide +kernel
theorem dX7_readNumber_64 : decode cX7_readNumber 64 = .ok (.aload_n 0, 1) := by decide +kernel
theorem dX7_readNumber_65 : decode cX7_readNumber 65 = .ok (.aload_n 0, 1) := by decide +kernel
theorem dX7_readNumber_66 : decode cX7_readNumber 66 = .ok (.getfield 38, 3) := by decide +kernel
theorem dX7_readNumber_69 : decode cX7_readNumber 69 = .ok (.invokevirtual 53, 3) := by decide +kernel
theorem dX7_readNumber_72 : decode cX7_readNumber 72 = .ok (.bipush 48, 2) := by decide +kernel
theorem dX7_readNumber_74 : decode cX7_readNumber 74 = .ok (.isub, 1) := by decide +kernel
theorem dX7_readNumber_75 : decode cX7_readNumber 75 = .ok (.iadd, 1) := by decide +kernel
theorem dX7_readNumber_76 : decode cX7_readNumber 76 = .ok (.istore_n 2, 1) := by decide +kernel
theorem dX7_readNumber_77 : decode cX7_readNumber 77 = .ok (.iinc 1 1, 3) := by decide +kernel
theorem dX7_readNumber_80 : decode cX7_readNumber 80 = .ok (.aload_n 0, 1) := by decide +kernel
theorem dX7_readNumber_81 : decode cX7_readNumber 81 = .ok (.dup, 1) := by decide +kernel
theorem dX7_readNumber_82 : decode cX7_readNumber 82 = .ok (.getfield 38, 3) := by decide +kernel
theorem dX7_readNumber_85 : decode cX7_readNumber 85 = .ok (.iconst 1, 1) := by decide +kernel
theorem dX7_readNumber_86 : decode cX7_readNumber 86 = .ok (.iadd, 1) := by decide +kernel
theorem dX7_readNumber_87 : decode cX7_readNumber 87 = .ok (.putfield 38, 3) := by decide +kernel
theorem dX7_readNumber_90 : decode cX7_readNumber 90 = .ok (.goto (-61), 3) := by decide +kernel
theorem dX7_readNumber_93 : decode cX7_readNumber 93 = .ok (.iload_n 1, 1) := by decide +kernel
theorem dX7_readNumber_94 : decode cX7_readNumber 94 = .ok (.ifCond .ne 7, 3) := by decide +kernel
theorem dX7_readNumber_97 : decode cX7_readNumber 97 = .ok (.iconst (-1), 1) := by decide +kernel
theorem dX7_readNumber_98 : decode cX7_readNumber 98 = .ok (.goto 4, 3) := by decide +kernel
theorem dX7_readNumber_101 : decode cX7_readNumber 101 = .ok (.iload_n 2, 1) := by decide +kernel
theorem dX7_readNumber_102 : decode cX7_readNumber 102 = .ok (.ireturn, 1) := by decide +kernel
theorem dX7_signAt_0 : decode cX7_signAt 0 = .ok (.iload_n 1, 1) := by decide +kernel
theorem dX7_signAt_1 : decode cX7_signAt 1 = .ok (.ifCond .lt 26, 3) := by decide +kernel
theorem dX7_signAt_4 : decode cX7_signAt 4 = .ok (.iload_n 1, 1) := by decide +kernel
theorem dX7_signAt_5 : decode cX7_signAt 5 = .ok (.aload_n 0, 1) := by decide +kernel
theorem dX7_signAt_6 : decode cX7_signAt 6 = .ok (.getfield 15, 3) := by decide +kernel
theorem dX7_signAt_9 : decode cX7_signAt 9 = .ok (.if_icmp .ge 18, 3) := by decide +kernel
theorem dX7_signAt_12 : decode cX7_signAt 12 = .ok (.iload_n 1, 1) := by decide +kernel
theorem dX7_signAt_13 : decode cX7_signAt 13 = .ok (.bipush 80, 2) := by decide +kernel
theorem dX7_signAt_15 : decode cX7_signAt 15 = .ok (.if_icmp .ge 12, 3) := by decide +kernel
theorem dX7_signAt_18 : decode cX7_signAt 18 = .ok (.aload_n 0, 1) := by decide +kernel
theorem dX7_signAt_19 : decode cX7_signAt 19 = .ok (.getfield 9, 3) := by decide +kernel
theorem dX7_signAt_22 : decode cX7_signAt 22 = .ok (.iload_n 1, 1) := by decide +kernel
theorem dX7_signAt_23 : decode cX7_signAt 23 = .ok (.caload, 1) := by decide +kernel
theorem dX7_signAt_24 : decode cX7_signAt 24 = .ok (.goto 4, 3) := by decide +kernel
theorem dX7_signAt_27 : decode cX7_signAt 27 = .ok (.iconst 0, 1) := by decide +kernel
theorem dX7_signAt_28 : decode cX7_signAt 28 = .ok (.ireturn, 1) := by decide +kernel
theorem dX9_init_0 : decode cX9_init 0 = .ok (.aload_n 0, 1) := by decide +kernel
theorem dX9_init_1 : decode cX9_init 1 = .ok (.invokespecial 1, 3) := by decide +kernel
theorem dX9_init_4 : decode cX9_init 4 = .ok (.aload_n 0, 1) := by decide +kernel
theorem dX9_init_5 : decode cX9_init 5 = .ok (.new 7, 3) := by decide +kernel
theorem dX9_init_8 : decode cX9_init 8 = .ok (.dup, 1) := by decide +kernel
theorem dX9_init_9 : decode cX9_init 9 = .ok (.invokespecial 9, 3) := by decide +kernel
theorem dX9_init_12 : decode cX9_init 12 = .ok (.putfield 10, 3) := by decide +kernel
theorem dX9_init_15 : decode cX9_init 15 = .ok (.aload_n 0, 1) := by decide +kernel
theorem dX9_init_16 : decode cX9_init 16 = .ok (.new 16, 3) := by decide +kernel
theorem dX9_init_19 : decode cX9_init 19 = .ok (.dup, 1) := by decide +kernel
theorem dX9_init_20 : decode cX9_init 20 = .ok (.invokespecial 18, 3) := by decide +kernel
theorem dX9_init_23 : decode cX9_init 23 = .ok (.putfield 19, 3) := by decide +kernel
theorem dX9_init_26 : decode cX9_init 26 = .ok (.aload_n 0, 1) := by decide +kernel
theorem dX9_init_27 : decode cX9_init 27 = .ok (.new 23, 3) := by decide +kernel
theorem dX9_init_30 : decode cX9_init 30 = .ok (.dup, 1) := by decide +kernel
theorem dX9_init_31 : decode cX9_init 31 = .ok (.invokespecial 25, 3) := by decide +kernel
theorem dX9_init_34 : decode cX9_init 34 = .ok (.putfield 26, 3) := by decide +kernel
theorem dX9_init_37 : decode cX9_init 37 = .ok (.aload_n 0, 1) := by decide +kernel
theorem dX9_init_38 : decode cX9_init 38 = .ok (.new 30, 3) := by decide +kernel
theorem dX9_init_41 : decode cX9_init 41 = .ok (.dup, 1) := by decide +kernel
theorem dX9_init_42 : decode cX9_init 42 = .ok (.invokespecial 32, 3) := by decide +kernel
theorem dX9_init_45 : decode cX9_init 45 = .ok (.putfield 33, 3) := by decide +kernel
theorem dX9_init_48 : decode cX9_init 48 = .ok (.return_, 1) := by decide +kernel
theorem dX9_locker_0 : decode cX9_locker 0 = .ok (.aload_n 0, 1) := by decide +kernel
theorem dX9_locker_1 : decode cX9_locker 1 = .ok (.getfield 19, 3) := by decide +kernel
theorem dX9_locker_4 : decode cX9_locker 4 = .ok (.aload_n 0, 1) := by decide +kernel
theorem dX9_locker_5 : decode cX9_locker 5 = .ok (.getfield 10, 3) := by decide +kernel
theorem dX9_locker_8 : decode cX9_locker 8 = .ok (.invokevirtual 37, 3) := by decide +kernel
theorem dX9_locker_11 : decode cX9_locker 11 = .ok (.aload_n 0, 1) := by decide +kernel
theorem dX9_locker_12 : decode cX9_locker 12 = .ok (.getfield 19, 3) := by decide +kernel
theorem dX9_locker_15 : decode cX9_locker 15 = .ok (.aload_n 0, 1) := by decide +kernel
theorem dX9_locker_16 : decode cX9_locker 16 = .ok (.getfield 10, 3) := by decide +kernel
theorem dX9_locker_19 : decode cX9_locker 19 = .ok (.iload_n 1, 1) := by decide +kernel
theorem dX9_locker_20 : decode cX9_locker 20 = .ok (.invokevirtual 41, 3) := by decide +kernel
theorem dX9_locker_23 : decode cX9_locker 23 = .ok (.invokevirtual 45, 3) := by decide +kernel
theorem dX9_locker_26 : decode cX9_locker 26 = .ok (.ireturn, 1) := by decide +kernel
theorem dX9_person_0 : decode cX9_person 0 = .ok (.aload_n 0, 1) := by decide +kernel
theorem dX9_person_1 : decode cX9_person 1 = .ok (.getfield 19, 3) := by decide +kernel
theorem dX9_person_4 : decode cX9_person 4 = .ok (.aload_n 0, 1) := by decide +kernel
theorem dX9_person_5 : decode cX9_person 5 = .ok (.getfield 10, 3) := by decide +kernel
theorem dX9_person_8 : decode cX9_person 8 = .ok (.invokevirtual 37, 3) := by decide +kernel
theorem dX9_person_11 : decode cX9_person 11 = .ok (.aload_n 0, 1) := by decide +kernel
theorem dX9_person_12 : decode cX9_person 12 = .ok (.getfield 19, 3) := by decide +kernel
theorem dX9_person_15 : decode cX9_person 15 = .ok (.aload_n 0, 1) := by decide +kernel
theorem dX9_person_16 : decode cX9_person 16 = .ok (.getfield 10, 3) := by decide +kernel
theorem dX9_person_19 : decode cX9_person 19 = .ok (.invokevirtual 48, 3) := by decide +kernel
theorem dX9_person_22 : decode cX9_person 22 = .ok (.invokevirtual 45, 3) := by decide +kernel
theorem dX9_person_25 : decode cX9_person 25 = .ok (.ireturn, 1) := by decide +kernel
theorem dX9_stand_0 : decode cX9_stand 0 = .ok (.aload_n 0, 1) := by decide +kernel
theorem dX9_stand_1 : decode cX9_stand 1 = .ok (.getfield 19, 3) := by decide +kernel
theorem dX9_stand_4 : decode cX9_stand 4 = .ok (.aload_n 0, 1) := by decide +kernel
theorem dX9_stand_5 : decode cX9_stand 5 = .ok (.getfield 10, 3) := by decide +kernel
theorem dX9_stand_8 : decode cX9_stand 8 = .ok (.invokevirtual 37, 3) := by decide +kernel
theorem dX9_stand_11 : decode cX9_stand 11 = .ok (.aload_n 0, 1) := by decide +kernel
theorem dX9_stand_12 : decode cX9_stand 12 = .ok (.getfield 19, 3) := by decide +kernel
theorem dX9_stand_15 : decode cX9_stand 15 = .ok (.aload_n 0, 1) := by decide +kernel
theorem dX9_stand_16 : decode cX9_stand 16 = .ok (.getfield 10, 3) := by decide +kernel
theorem dX9_stand_19 : decode cX9_stand 19 = .ok (.iload_n 1, 1) := by decide +kernel
theorem dX9_stand_20 : decode cX9_stand 20 = .ok (.iload_n 2, 1) := by decide +kernel
theorem dX9_stand_21 : decode cX9_stand 21 = .ok (.invokevirtual 52, 3) := by decide +kernel
theorem dX9_stand_24 : decode cX9_stand 24 = .ok (.invokevirtual 45, 3) := by decide +kernel
theorem dX9_stand_27 : decode cX9_stand 27 = .ok (.ireturn, 1) := by decide +kernel
theorem dX9_lend_0 : decode cX9_lend 0 = .ok (.aload_n 0, 1) := by decide +kernel
theorem dX9_lend_1 : decode cX9_lend 1 = .ok (.getfield 19, 3) := by decide +kernel
theorem dX9_lend_4 : decode cX9_lend 4 = .ok (.aload_n 0, 1) := by decide +kernel
theorem dX9_lend_5 : decode cX9_lend 5 = .ok (.getfield 10, 3) := by decide +kernel
theorem dX9_lend_8 : decode cX9_lend 8 = .ok (.invokevirtual 37, 3) := by decide +kernel
theorem dX9_lend_11 : decode cX9_lend 11 = .ok (.aload_n 0, 1) := by decide +kernel
theorem dX9_lend_12 : decode cX9_lend 12 = .ok (.getfield 19, 3) := by decide +kernel
theorem dX9_lend_15 : decode cX9_lend 15 = .ok (.aload_n 0, 1) := by decide +kernel
theorem dX9_lend_16 : decode cX9_lend 16 = .ok (.getfield 10, 3) := by decide +kernel
theorem dX9_lend_19 : decode cX9_lend 19 = .ok (.iload_n 1, 1) := by decide +kernel
theorem dX9_lend_20 : decode cX9_lend 20 = .ok (.iload_n 2, 1) := by decide +kernel
theorem dX9_lend_21 : decode cX9_lend 21 = .ok (.invokevirtual 56, 3) := by decide +kernel
theorem dX9_lend_24 : decode cX9_lend 24 = .ok (.invokevirtual 45, 3) := by decide +kernel
theorem dX9_lend_27 : decode cX9_lend 27 = .ok (.ireturn, 1) := by decide +kernel
theorem dX9_giveBack_0 : decode cX9_giveBack 0 = .ok (.aload_n 0, 1) := by decide +kernel
theorem dX9_giveBack_1 : decode cX9_giveBack 1 = .ok (.getfield 19, 3) := by decide +kernel
theorem dX9_giveBack_4 : decode cX9_giveBack 4 = .ok (.aload_n 0, 1) := by decide +kernel
theorem dX9_giveBack_5 : decode cX9_giveBack 5 = .ok (.getfield 10, 3) := by decide +kernel
theorem dX9_giveBack_8 : decode cX9_giveBack 8 = .ok (.invokevirtual 37, 3) := by decide +kernel
theorem dX9_giveBack_11 : decode cX9_giveBack 11 = .ok (.aload_n 0, 1) := by decide +kernel
theorem dX9_giveBack_12 : decode cX9_giveBack 12 = .ok (.getfield 19, 3) := by decide +kernel
theorem dX9_giveBack_15 : decode cX9_giveBack 15 = .ok (.aload_n 0, 1) := by decide +kernel
theorem dX9_giveBack_16 : decode cX9_giveBack 16 = .ok (.getfield 10, 3) := by decide +kernel
theorem dX9_giveBack_19 : decode cX9_giveBack 19 = .ok (.iload_n 1, 1) := by decide +kernel
theorem dX9_giveBack_20 : decode cX9_giveBack 20 = .ok (.invokevirtual 59, 3) := by decide +kernel
theorem dX9_giveBack_23 : decode cX9_giveBack 23 = .ok (.invokevirtual 45, 3) := by decide +kernel
theorem dX9_giveBack_26 : decode cX9_giveBack 26 = .ok (.ireturn, 1) := by decide +kernel
theorem dX9_renew_0 : decode cX9_renew 0 = .ok (.aload_n 0, 1) := by decide +kernel
theorem dX9_renew_1 : decode cX9_renew 1 = .ok (.getfield 19, 3) := by decide +kernel
end
section
theorem dX9_renew_4 : decode cX9_renew 4 = .ok (.aload_n 0, 1) := by decide +kernel
theorem dX9_renew_5 : decode cX9_renew 5 = .ok (.getfield 10, 3) := by decide +kernel
theorem dX9_renew_8 : decode cX9_renew 8 = .ok (.invokevirtual 37, 3) := by decide +kernel
theorem dX9_renew_11 : decode cX9_renew 11 = .ok (.aload_n 0, 1) := by decide +kernel
theorem dX9_renew_12 : decode cX9_renew 12 = .ok (.getfield 19, 3) := by decide +kernel
theorem dX9_renew_15 : decode cX9_renew 15 = .ok (.aload_n 0, 1) := by decide +kernel
theorem dX9_renew_16 : decode cX9_renew 16 = .ok (.getfield 10, 3) := by decide +kernel
theorem dX9_renew_19 : decode cX9_renew 19 = .ok (.iload_n 1, 1) := by decide +kernel
theorem dX9_renew_20 : decode cX9_renew 20 = .ok (.invokevirtual 62, 3) := by decide +kernel
theorem dX9_renew_23 : decode cX9_renew 23 = .ok (.invokevirtual 45, 3) := by decide +kernel
theorem dX9_renew_26 : decode cX9_renew 26 = .ok (.ireturn, 1) := by decide +kernel
theorem dX9_lose_0 : decode cX9_lose 0 = .ok (.aload_n 0, 1) := by decide +kernel
theorem dX9_lose_1 : decode cX9_lose 1 = .ok (.getfield 19, 3) := by decide +kernel
theorem dX9_lose_4 : decode cX9_lose 4 = .ok (.aload_n 0, 1) := by decide +kernel
theorem dX9_lose_5 : decode cX9_lose 5 = .ok (.getfield 10, 3) := by decide +kernel
theorem dX9_lose_8 : decode cX9_lose 8 = .ok (.invokevirtual 37, 3) := by decide +kernel
theorem dX9_lose_11 : decode cX9_lose 11 = .ok (.aload_n 0, 1) := by decide +kernel
theorem dX9_lose_12 : decode cX9_lose 12 = .ok (.getfield 19, 3) := by decide +kernel
theorem dX9_lose_15 : decode cX9_lose 15 = .ok (.aload_n 0, 1) := by decide +kernel
theorem dX9_lose_16 : decode cX9_lose 16 = .ok (.getfield 10, 3) := by decide +kernel
theorem dX9_lose_19 : decode cX9_lose 19 = .ok (.iload_n 1, 1) := by decide +kernel
theorem dX9_lose_20 : decode cX9_lose 20 = .ok (.invokevirtual 65, 3) := by decide +kernel
theorem dX9_lose_23 : decode cX9_lose 23 = .ok (.invokevirtual 45, 3) := by decide +kernel
theorem dX9_lose_26 : decode cX9_lose 26 = .ok (.ireturn, 1) := by decide +kernel
theorem dX9_wish_0 : decode cX9_wish 0 = .ok (.aload_n 0, 1) := by decide +kernel
theorem dX9_wish_1 : decode cX9_wish 1 = .ok (.getfield 19, 3) := by decide +kernel
theorem dX9_wish_4 : decode cX9_wish 4 = .ok (.aload_n 0, 1) := by decide +kernel
theorem dX9_wish_5 : decode cX9_wish 5 = .ok (.getfield 10, 3) := by decide +kernel
theorem dX9_wish_8 : decode cX9_wish 8 = .ok (.invokevirtual 37, 3) := by decide +kernel
theorem dX9_wish_11 : decode cX9_wish 11 = .ok (.aload_n 0, 1) := by decide +kernel
theorem dX9_wish_12 : decode cX9_wish 12 = .ok (.getfield 19, 3) := by decide +kernel
theorem dX9_wish_15 : decode cX9_wish 15 = .ok (.aload_n 0, 1) := by decide +kernel
theorem dX9_wish_16 : decode cX9_wish 16 = .ok (.getfield 10, 3) := by decide +kernel
theorem dX9_wish_19 : decode cX9_wish 19 = .ok (.iload_n 1, 1) := by decide +kernel
theorem dX9_wish_20 : decode cX9_wish 20 = .ok (.iload_n 2, 1) := by decide +kernel
theorem dX9_wish_21 : decode cX9_wish 21 = .ok (.invokevirtual 68, 3) := by decide +kernel
theorem dX9_wish_24 : decode cX9_wish 24 = .ok (.invokevirtual 45, 3) := by decide +kernel
theorem dX9_wish_27 : decode cX9_wish 27 = .ok (.ireturn, 1) := by decide +kernel
theorem dX9_noWish_0 : decode cX9_noWish 0 = .ok (.aload_n 0, 1) := by decide +kernel
theorem dX9_noWish_1 : decode cX9_noWish 1 = .ok (.getfield 19, 3) := by decide +kernel
theorem dX9_noWish_4 : decode cX9_noWish 4 = .ok (.aload_n 0, 1) := by decide +kernel
theorem dX9_noWish_5 : decode cX9_noWish 5 = .ok (.getfield 10, 3) := by decide +kernel
theorem dX9_noWish_8 : decode cX9_noWish 8 = .ok (.invokevirtual 37, 3) := by decide +kernel
theorem dX9_noWish_11 : decode cX9_noWish 11 = .ok (.aload_n 0, 1) := by decide +kernel
theorem dX9_noWish_12 : decode cX9_noWish 12 = .ok (.getfield 19, 3) := by decide +kernel
theorem dX9_noWish_15 : decode cX9_noWish 15 = .ok (.aload_n 0, 1) := by decide +kernel
theorem dX9_noWish_16 : decode cX9_noWish 16 = .ok (.getfield 10, 3) := by decide +kernel
theorem dX9_noWish_19 : decode cX9_noWish 19 = .ok (.iload_n 1, 1) := by decide +kernel
theorem dX9_noWish_20 : decode cX9_noWish 20 = .ok (.invokevirtual 71, 3) := by decide +kernel
theorem dX9_noWish_23 : decode cX9_noWish 23 = .ok (.invokevirtual 45, 3) := by decide +kernel
theorem dX9_noWish_26 : decode cX9_noWish 26 = .ok (.ireturn, 1) := by decide +kernel
theorem dX9_swap_0 : decode cX9_swap 0 = .ok (.aload_n 0, 1) := by decide +kernel
theorem dX9_swap_1 : decode cX9_swap 1 = .ok (.getfield 19, 3) := by decide +kernel
theorem dX9_swap_4 : decode cX9_swap 4 = .ok (.aload_n 0, 1) := by decide +kernel
theorem dX9_swap_5 : decode cX9_swap 5 = .ok (.getfield 10, 3) := by decide +kernel
theorem dX9_swap_8 : decode cX9_swap 8 = .ok (.invokevirtual 37, 3) := by decide +kernel
theorem dX9_swap_11 : decode cX9_swap 11 = .ok (.aload_n 0, 1) := by decide +kernel
theorem dX9_swap_12 : decode cX9_swap 12 = .ok (.getfield 19, 3) := by decide +kernel
theorem dX9_swap_15 : decode cX9_swap 15 = .ok (.aload_n 0, 1) := by decide +kernel
theorem dX9_swap_16 : decode cX9_swap 16 = .ok (.getfield 10, 3) := by decide +kernel
theorem dX9_swap_19 : decode cX9_swap 19 = .ok (.invokevirtual 74, 3) := by decide +kernel
theorem dX9_swap_22 : decode cX9_swap 22 = .ok (.invokevirtual 45, 3) := by decide +kernel
theorem dX9_swap_25 : decode cX9_swap 25 = .ok (.ireturn, 1) := by decide +kernel
theorem dX9_pay_0 : decode cX9_pay 0 = .ok (.aload_n 0, 1) := by decide +kernel
theorem dX9_pay_1 : decode cX9_pay 1 = .ok (.getfield 19, 3) := by decide +kernel
theorem dX9_pay_4 : decode cX9_pay 4 = .ok (.aload_n 0, 1) := by decide +kernel
theorem dX9_pay_5 : decode cX9_pay 5 = .ok (.getfield 10, 3) := by decide +kernel
theorem dX9_pay_8 : decode cX9_pay 8 = .ok (.invokevirtual 37, 3) := by decide +kernel
theorem dX9_pay_11 : decode cX9_pay 11 = .ok (.aload_n 0, 1) := by decide +kernel
theorem dX9_pay_12 : decode cX9_pay 12 = .ok (.getfield 19, 3) := by decide +kernel
theorem dX9_pay_15 : decode cX9_pay 15 = .ok (.aload_n 0, 1) := by decide +kernel
theorem dX9_pay_16 : decode cX9_pay 16 = .ok (.getfield 10, 3) := by decide +kernel
theorem dX9_pay_19 : decode cX9_pay 19 = .ok (.iload_n 1, 1) := by decide +kernel
theorem dX9_pay_20 : decode cX9_pay 20 = .ok (.iload_n 2, 1) := by decide +kernel
theorem dX9_pay_21 : decode cX9_pay 21 = .ok (.invokevirtual 77, 3) := by decide +kernel
theorem dX9_pay_24 : decode cX9_pay 24 = .ok (.invokevirtual 45, 3) := by decide +kernel
theorem dX9_pay_27 : decode cX9_pay 27 = .ok (.ireturn, 1) := by decide +kernel
theorem dX9_pass_0 : decode cX9_pass 0 = .ok (.aload_n 0, 1) := by decide +kernel
theorem dX9_pass_1 : decode cX9_pass 1 = .ok (.getfield 19, 3) := by decide +kernel
theorem dX9_pass_4 : decode cX9_pass 4 = .ok (.aload_n 0, 1) := by decide +kernel
theorem dX9_pass_5 : decode cX9_pass 5 = .ok (.getfield 10, 3) := by decide +kernel
theorem dX9_pass_8 : decode cX9_pass 8 = .ok (.invokevirtual 37, 3) := by decide +kernel
theorem dX9_pass_11 : decode cX9_pass 11 = .ok (.aload_n 0, 1) := by decide +kernel
theorem dX9_pass_12 : decode cX9_pass 12 = .ok (.getfield 19, 3) := by decide +kernel
theorem dX9_pass_15 : decode cX9_pass 15 = .ok (.aload_n 0, 1) := by decide +kernel
theorem dX9_pass_16 : decode cX9_pass 16 = .ok (.getfield 10, 3) := by decide +kernel
theorem dX9_pass_19 : decode cX9_pass 19 = .ok (.iload_n 1, 1) := by decide +kernel
theorem dX9_pass_20 : decode cX9_pass 20 = .ok (.sipush 5000, 3) := by decide +kernel
theorem dX9_pass_23 : decode cX9_pass 23 = .ok (.invokevirtual 80, 3) := by decide +kernel
theorem dX9_pass_26 : decode cX9_pass 26 = .ok (.invokevirtual 45, 3) := by decide +kernel
theorem dX9_pass_29 : decode cX9_pass 29 = .ok (.ireturn, 1) := by decide +kernel
theorem dX9_set_0 : decode cX9_set 0 = .ok (.aload_n 0, 1) := by decide +kernel
theorem dX9_set_1 : decode cX9_set 1 = .ok (.getfield 19, 3) := by decide +kernel
theorem dX9_set_4 : decode cX9_set 4 = .ok (.aload_n 0, 1) := by decide +kernel
theorem dX9_set_5 : decode cX9_set 5 = .ok (.getfield 10, 3) := by decide +kernel
theorem dX9_set_8 : decode cX9_set 8 = .ok (.invokevirtual 37, 3) := by decide +kernel
theorem dX9_set_11 : decode cX9_set 11 = .ok (.aload_n 0, 1) := by decide +kernel
theorem dX9_set_12 : decode cX9_set 12 = .ok (.getfield 19, 3) := by decide +kernel
theorem dX9_set_15 : decode cX9_set 15 = .ok (.aload_n 0, 1) := by decide +kernel
theorem dX9_set_16 : decode cX9_set 16 = .ok (.getfield 10, 3) := by decide +kernel
theorem dX9_set_19 : decode cX9_set 19 = .ok (.iload_n 1, 1) := by decide +kernel
theorem dX9_set_20 : decode cX9_set 20 = .ok (.iload_n 2, 1) := by decide +kernel
theorem dX9_set_21 : decode cX9_set 21 = .ok (.invokevirtual 83, 3) := by decide +kernel
theorem dX9_set_24 : decode cX9_set 24 = .ok (.invokevirtual 45, 3) := by decide +kernel
theorem dX9_set_27 : decode cX9_set 27 = .ok (.ireturn, 1) := by decide +kernel
theorem dX9_personOf_0 : decode cX9_personOf 0 = .ok (.aload_n 0, 1) := by decide +kernel
theorem dX9_personOf_1 : decode cX9_personOf 1 = .ok (.getfield 10, 3) := by decide +kernel
theorem dX9_personOf_4 : decode cX9_personOf 4 = .ok (.iload_n 1, 1) := by decide +kernel
theorem dX9_personOf_5 : decode cX9_personOf 5 = .ok (.iload_n 2, 1) := by decide +kernel
theorem dX9_personOf_6 : decode cX9_personOf 6 = .ok (.invokevirtual 86, 3) := by decide +kernel
theorem dX9_personOf_9 : decode cX9_personOf 9 = .ok (.ireturn, 1) := by decide +kernel
theorem dX9_lockerOf_0 : decode cX9_lockerOf 0 = .ok (.aload_n 0, 1) := by decide +kernel
theorem dX9_lockerOf_1 : decode cX9_lockerOf 1 = .ok (.getfield 10, 3) := by decide +kernel
theorem dX9_lockerOf_4 : decode cX9_lockerOf 4 = .ok (.iload_n 1, 1) := by decide +kernel
theorem dX9_lockerOf_5 : decode cX9_lockerOf 5 = .ok (.iload_n 2, 1) := by decide +kernel
theorem dX9_lockerOf_6 : decode cX9_lockerOf 6 = .ok (.invokevirtual 89, 3) := by decide +kernel
theorem dX9_lockerOf_9 : decode cX9_lockerOf 9 = .ok (.ireturn, 1) := by decide +kernel
theorem dX9_waitingAt_0 : decode cX9_waitingAt 0 = .ok (.iload_n 1, 1) := by decide +kernel
theorem dX9_waitingAt_1 : decode cX9_waitingAt 1 = .ok (.ifCond .lt 12, 3) := by decide +kernel
theorem dX9_waitingAt_4 : decode cX9_waitingAt 4 = .ok (.iload_n 2, 1) := by decide +kernel
theorem dX9_waitingAt_5 : decode cX9_waitingAt 5 = .ok (.ifCond .lt 8, 3) := by decide +kernel
theorem dX9_waitingAt_8 : decode cX9_waitingAt 8 = .ok (.iload_n 2, 1) := by decide +kernel
theorem dX9_waitingAt_9 : decode cX9_waitingAt 9 = .ok (.iconst 1, 1) := by decide +kernel
theorem dX9_waitingAt_10 : decode cX9_waitingAt 10 = .ok (.if_icmp .le 5, 3) := by decide +kernel
theorem dX9_waitingAt_13 : decode cX9_waitingAt 13 = .ok (.iconst (-1), 1) := by decide +kernel
theorem dX9_waitingAt_14 : decode cX9_waitingAt 14 = .ok (.ireturn, 1) := by decide +kernel
theorem dX9_waitingAt_15 : decode cX9_waitingAt 15 = .ok (.iload_n 1, 1) := by decide +kernel
theorem dX9_waitingAt_16 : decode cX9_waitingAt 16 = .ok (.aload_n 0, 1) := by decide +kernel
theorem dX9_waitingAt_17 : decode cX9_waitingAt 17 = .ok (.getfield 10, 3) := by decide +kernel
theorem dX9_waitingAt_20 : decode cX9_waitingAt 20 = .ok (.getfield 92, 3) := by decide +kernel
theorem dX9_waitingAt_23 : decode cX9_waitingAt 23 = .ok (.getfield 96, 3) := by decide +kernel
theorem dX9_waitingAt_26 : decode cX9_waitingAt 26 = .ok (.if_icmp .lt 6, 3) := by decide +kernel
theorem dX9_waitingAt_29 : decode cX9_waitingAt 29 = .ok (.bipush (-4), 2) := by decide +kernel
theorem dX9_waitingAt_31 : decode cX9_waitingAt 31 = .ok (.ireturn, 1) := by decide +kernel
theorem dX9_waitingAt_32 : decode cX9_waitingAt 32 = .ok (.iload_n 2, 1) := by decide +kernel
theorem dX9_waitingAt_33 : decode cX9_waitingAt 33 = .ok (.ifCond .ne 17, 3) := by decide +kernel
theorem dX9_waitingAt_36 : decode cX9_waitingAt 36 = .ok (.aload_n 0, 1) := by decide +kernel
theorem dX9_waitingAt_37 : decode cX9_waitingAt 37 = .ok (.getfield 10, 3) := by decide +kernel
theorem dX9_waitingAt_40 : decode cX9_waitingAt 40 = .ok (.getfield 92, 3) := by decide +kernel
theorem dX9_waitingAt_43 : decode cX9_waitingAt 43 = .ok (.iload_n 1, 1) := by decide +kernel
theorem dX9_waitingAt_44 : decode cX9_waitingAt 44 = .ok (.invokevirtual 102, 3) := by decide +kernel
theorem dX9_waitingAt_47 : decode cX9_waitingAt 47 = .ok (.goto 14, 3) := by decide +kernel
theorem dX9_waitingAt_50 : decode cX9_waitingAt 50 = .ok (.aload_n 0, 1) := by decide +kernel
theorem dX9_waitingAt_51 : decode cX9_waitingAt 51 = .ok (.getfield 10, 3) := by decide +kernel
theorem dX9_waitingAt_54 : decode cX9_waitingAt 54 = .ok (.getfield 92, 3) := by decide +kernel
theorem dX9_waitingAt_57 : decode cX9_waitingAt 57 = .ok (.iload_n 1, 1) := by decide +kernel
theorem dX9_waitingAt_58 : decode cX9_waitingAt 58 = .ok (.invokevirtual 105, 3) := by decide +kernel
theorem dX9_waitingAt_61 : decode cX9_waitingAt 61 = .ok (.ireturn, 1) := by decide +kernel
theorem dX9_count_0 : decode cX9_count 0 = .ok (.iload_n 1, 1) := by decide +kernel
theorem dX9_count_1 : decode cX9_count 1 = .ok (.lookupswitch 43 #[(12, 27), (13, 35)], 27) := by decide +kernel
theorem dX9_count_28 : decode cX9_count 28 = .ok (.aload_n 0, 1) := by decide +kernel
theorem dX9_count_29 : decode cX9_count 29 = .ok (.getfield 19, 3) := by decide +kernel
theorem dX9_count_32 : decode cX9_count 32 = .ok (.getfield 108, 3) := by decide +kernel
theorem dX9_count_35 : decode cX9_count 35 = .ok (.ireturn, 1) := by decide +kernel
theorem dX9_count_36 : decode cX9_count 36 = .ok (.aload_n 0, 1) := by decide +kernel
theorem dX9_count_37 : decode cX9_count 37 = .ok (.getfield 26, 3) := by decide +kernel
theorem dX9_count_40 : decode cX9_count 40 = .ok (.getfield 111, 3) := by decide +kernel
theorem dX9_count_43 : decode cX9_count 43 = .ok (.ireturn, 1) := by decide +kernel
theorem dX9_count_44 : decode cX9_count 44 = .ok (.aload_n 0, 1) := by decide +kernel
theorem dX9_count_45 : decode cX9_count 45 = .ok (.getfield 10, 3) := by decide +kernel
theorem dX9_count_48 : decode cX9_count 48 = .ok (.iload_n 1, 1) := by decide +kernel
theorem dX9_count_49 : decode cX9_count 49 = .ok (.invokevirtual 112, 3) := by decide +kernel
theorem dX9_count_52 : decode cX9_count 52 = .ok (.ireturn, 1) := by decide +kernel
theorem dX9_feeIn_0 : decode cX9_feeIn 0 = .ok (.aload_n 0, 1) := by decide +kernel
theorem dX9_feeIn_1 : decode cX9_feeIn 1 = .ok (.getfield 33, 3) := by decide +kernel
theorem dX9_feeIn_4 : decode cX9_feeIn 4 = .ok (.aload_n 0, 1) := by decide +kernel
theorem dX9_feeIn_5 : decode cX9_feeIn 5 = .ok (.getfield 10, 3) := by decide +kernel
theorem dX9_feeIn_8 : decode cX9_feeIn 8 = .ok (.iload_n 1, 1) := by decide +kernel
theorem dX9_feeIn_9 : decode cX9_feeIn 9 = .ok (.iload_n 2, 1) := by decide +kernel
theorem dX9_feeIn_10 : decode cX9_feeIn 10 = .ok (.invokevirtual 115, 3) := by decide +kernel
theorem dX9_feeIn_13 : decode cX9_feeIn 13 = .ok (.ireturn, 1) := by decide +kernel
theorem dX9_wouldHave_0 : decode cX9_wouldHave 0 = .ok (.aload_n 0, 1) := by decide +kernel
theorem dX9_wouldHave_1 : decode cX9_wouldHave 1 = .ok (.getfield 33, 3) := by decide +kernel
theorem dX9_wouldHave_4 : decode cX9_wouldHave 4 = .ok (.aload_n 0, 1) := by decide +kernel
theorem dX9_wouldHave_5 : decode cX9_wouldHave 5 = .ok (.getfield 10, 3) := by decide +kernel
theorem dX9_wouldHave_8 : decode cX9_wouldHave 8 = .ok (.iload_n 1, 1) := by decide +kernel
theorem dX9_wouldHave_9 : decode cX9_wouldHave 9 = .ok (.invokevirtual 119, 3) := by decide +kernel
theorem dX9_wouldHave_12 : decode cX9_wouldHave 12 = .ok (.ireturn, 1) := by decide +kernel
theorem dX9_lentBits_0 : decode cX9_lentBits 0 = .ok (.iconst 0, 1) := by decide +kernel
theorem dX9_lentBits_1 : decode cX9_lentBits 1 = .ok (.istore_n 1, 1) := by decide +kernel
theorem dX9_lentBits_2 : decode cX9_lentBits 2 = .ok (.iconst 0, 1) := by decide +kernel
theorem dX9_lentBits_3 : decode cX9_lentBits 3 = .ok (.istore_n 2, 1) := by decide +kernel
theorem dX9_lentBits_4 : decode cX9_lentBits 4 = .ok (.iload_n 2, 1) := by decide +kernel
theorem dX9_lentBits_5 : decode cX9_lentBits 5 = .ok (.iconst 2, 1) := by decide +kernel
theorem dX9_lentBits_6 : decode cX9_lentBits 6 = .ok (.if_icmp .gt 20, 3) := by decide +kernel
theorem dX9_lentBits_9 : decode cX9_lentBits 9 = .ok (.iload_n 1, 1) := by decide +kernel
theorem dX9_lentBits_10 : decode cX9_lentBits 10 = .ok (.aload_n 0, 1) := by decide +kernel
theorem dX9_lentBits_11 : decode cX9_lentBits 11 = .ok (.getfield 10, 3) := by decide +kernel
theorem dX9_lentBits_14 : decode cX9_lentBits 14 = .ok (.iload_n 2, 1) := by decide +kernel
theorem dX9_lentBits_15 : decode cX9_lentBits 15 = .ok (.invokevirtual 123, 3) := by decide +kernel
theorem dX9_lentBits_18 : decode cX9_lentBits 18 = .ok (.iadd, 1) := by decide +kernel
theorem dX9_lentBits_19 : decode cX9_lentBits 19 = .ok (.istore_n 1, 1) := by decide +kernel
theorem dX9_lentBits_20 : decode cX9_lentBits 20 = .ok (.iinc 2 1, 3) := by decide +kernel
theorem dX9_lentBits_23 : decode cX9_lentBits 23 = .ok (.goto (-19), 3) := by decide +kernel
theorem dX9_lentBits_26 : decode cX9_lentBits 26 = .ok (.iload_n 1, 1) := by decide +kernel
theorem dX9_lentBits_27 : decode cX9_lentBits 27 = .ok (.ifCond .ne 7, 3) := by decide +kernel
theorem dX9_lentBits_30 : decode cX9_lentBits 30 = .ok (.ldc2_w 126, 3) := by decide +kernel
theorem dX9_lentBits_33 : decode cX9_lentBits 33 = .ok (.lreturn, 1) := by decide +kernel
theorem dX9_lentBits_34 : decode cX9_lentBits 34 = .ok (.aload_n 0, 1) := by decide +kernel
theorem dX9_lentBits_35 : decode cX9_lentBits 35 = .ok (.getfield 10, 3) := by decide +kernel
theorem dX9_lentBits_38 : decode cX9_lentBits 38 = .ok (.invokevirtual 128, 3) := by decide +kernel
theorem dX9_lentBits_41 : decode cX9_lentBits 41 = .ok (.i2d, 1) := by decide +kernel
theorem dX9_lentBits_42 : decode cX9_lentBits 42 = .ok (.iload_n 1, 1) := by decide +kernel
theorem dX9_lentBits_43 : decode cX9_lentBits 43 = .ok (.i2d, 1) := by decide +kernel
theorem dX9_lentBits_44 : decode cX9_lentBits 44 = .ok (.ddiv, 1) := by decide +kernel
theorem dX9_lentBits_45 : decode cX9_lentBits 45 = .ok (.invokestatic 131, 3) := by decide +kernel
theorem dX9_lentBits_48 : decode cX9_lentBits 48 = .ok (.lreturn, 1) := by decide +kernel
theorem dX9_overdueBits_0 : decode cX9_overdueBits 0 = .ok (.aload_n 0, 1) := by decide +kernel
theorem dX9_overdueBits_1 : decode cX9_overdueBits 1 = .ok (.getfield 10, 3) := by decide +kernel
theorem dX9_overdueBits_4 : decode cX9_overdueBits 4 = .ok (.invokevirtual 128, 3) := by decide +kernel
theorem dX9_overdueBits_7 : decode cX9_overdueBits 7 = .ok (.istore_n 1, 1) := by decide +kernel
theorem dX9_overdueBits_8 : decode cX9_overdueBits 8 = .ok (.iload_n 1, 1) := by decide +kernel
theorem dX9_overdueBits_9 : decode cX9_overdueBits 9 = .ok (.ifCond .ne 6, 3) := by decide +kernel
theorem dX9_overdueBits_12 : decode cX9_overdueBits 12 = .ok (.bipush (-4), 2) := by decide +kernel
theorem dX9_overdueBits_14 : decode cX9_overdueBits 14 = .ok (.ireturn, 1) := by decide +kernel
theorem dX9_overdueBits_15 : decode cX9_overdueBits 15 = .ok (.aload_n 0, 1) := by decide +kernel
theorem dX9_overdueBits_16 : decode cX9_overdueBits 16 = .ok (.getfield 10, 3) := by decide +kernel
theorem dX9_overdueBits_19 : decode cX9_overdueBits 19 = .ok (.invokevirtual 135, 3) := by decide +kernel
theorem dX9_overdueBits_22 : decode cX9_overdueBits 22 = .ok (.i2f, 1) := by decide +kernel
theorem dX9_overdueBits_23 : decode cX9_overdueBits 23 = .ok (.iload_n 1, 1) := by decide +kernel
theorem dX9_overdueBits_24 : decode cX9_overdueBits 24 = .ok (.i2f, 1) := by decide +kernel
theorem dX9_overdueBits_25 : decode cX9_overdueBits 25 = .ok (.fdiv, 1) := by decide +kernel
theorem dX9_overdueBits_26 : decode cX9_overdueBits 26 = .ok (.invokestatic 138, 3) := by decide +kernel
theorem dX9_overdueBits_29 : decode cX9_overdueBits 29 = .ok (.ireturn, 1) := by decide +kernel
theorem dX9_undo_0 : decode cX9_undo 0 = .ok (.aload_n 0, 1) := by decide +kernel
theorem dX9_undo_1 : decode cX9_undo 1 = .ok (.getfield 19, 3) := by decide +kernel
theorem dX9_undo_4 : decode cX9_undo 4 = .ok (.aload_n 0, 1) := by decide +kernel
theorem dX9_undo_5 : decode cX9_undo 5 = .ok (.getfield 10, 3) := by decide +kernel
theorem dX9_undo_8 : decode cX9_undo 8 = .ok (.invokevirtual 142, 3) := by decide +kernel
theorem dX9_undo_11 : decode cX9_undo 11 = .ok (.ireturn, 1) := by decide +kernel
theorem dX9_type_0 : decode cX9_type 0 = .ok (.aload_n 0, 1) := by decide +kernel
theorem dX9_type_1 : decode cX9_type 1 = .ok (.getfield 26, 3) := by decide +kernel
theorem dX9_type_4 : decode cX9_type 4 = .ok (.iload_n 1, 1) := by decide +kernel
theorem dX9_type_5 : decode cX9_type 5 = .ok (.invokevirtual 146, 3) := by decide +kernel
theorem dX9_type_8 : decode cX9_type 8 = .ok (.ireturn, 1) := by decide +kernel
theorem dX9_clearText_0 : decode cX9_clearText 0 = .ok (.aload_n 0, 1) := by decide +kernel
theorem dX9_clearText_1 : decode cX9_clearText 1 = .ok (.getfield 26, 3) := by decide +kernel
theorem dX9_clearText_4 : decode cX9_clearText 4 = .ok (.invokevirtual 149, 3) := by decide +kernel
theorem dX9_clearText_7 : decode cX9_clearText 7 = .ok (.ireturn, 1) := by decide +kernel
theorem dX9_fault_0 : decode cX9_fault 0 = .ok (.iload_n 1, 1) := by decide +kernel
theorem dX9_fault_1 : decode cX9_fault 1 = .ok (.ifCond .lt 8, 3) := by decide +kernel
theorem dX9_fault_4 : decode cX9_fault 4 = .ok (.iload_n 1, 1) := by decide +kernel
theorem dX9_fault_5 : decode cX9_fault 5 = .ok (.iconst 2, 1) := by decide +kernel
theorem dX9_fault_6 : decode cX9_fault 6 = .ok (.if_icmp .le 5, 3) := by decide +kernel
theorem dX9_fault_9 : decode cX9_fault 9 = .ok (.iconst (-1), 1) := by decide +kernel
theorem dX9_fault_10 : decode cX9_fault 10 = .ok (.ireturn, 1) := by decide +kernel
theorem dX9_fault_11 : decode cX9_fault 11 = .ok (.aload_n 0, 1) := by decide +kernel
theorem dX9_fault_12 : decode cX9_fault 12 = .ok (.getfield 33, 3) := by decide +kernel
theorem dX9_fault_15 : decode cX9_fault 15 = .ok (.aload_n 0, 1) := by decide +kernel
theorem dX9_fault_16 : decode cX9_fault 16 = .ok (.getfield 10, 3) := by decide +kernel
theorem dX9_fault_19 : decode cX9_fault 19 = .ok (.aload_n 0, 1) := by decide +kernel
theorem dX9_fault_20 : decode cX9_fault 20 = .ok (.getfield 26, 3) := by decide +kernel
theorem dX9_fault_23 : decode cX9_fault 23 = .ok (.invokevirtual 152, 3) := by decide +kernel
theorem dX9_fault_26 : decode cX9_fault 26 = .ok (.aload_n 0, 1) := by decide +kernel
theorem dX9_fault_27 : decode cX9_fault 27 = .ok (.getfield 33, 3) := by decide +kernel
theorem dX9_fault_30 : decode cX9_fault 30 = .ok (.invokevirtual 156, 3) := by decide +kernel
theorem dX9_fault_33 : decode cX9_fault 33 = .ok (.ifCond .eq 19, 3) := by decide +kernel
theorem dX9_fault_36 : decode cX9_fault 36 = .ok (.iload_n 1, 1) := by decide +kernel
theorem dX9_fault_37 : decode cX9_fault 37 = .ok (.iconst 2, 1) := by decide +kernel
theorem dX9_fault_38 : decode cX9_fault 38 = .ok (.if_icmp .ne 17, 3) := by decide +kernel
theorem dX9_fault_41 : decode cX9_fault 41 = .ok (.aload_n 0, 1) := by decide +kernel
theorem dX9_fault_42 : decode cX9_fault 42 = .ok (.getfield 33, 3) := by decide +kernel
theorem dX9_fault_45 : decode cX9_fault 45 = .ok (.getfield 160, 3) := by decide +kernel
theorem dX9_fault_48 : decode cX9_fault 48 = .ok (.iconst 1, 1) := by decide +kernel
theorem dX9_fault_49 : decode cX9_fault 49 = .ok (.if_icmp .ne 6, 3) := by decide +kernel
theorem dX9_fault_52 : decode cX9_fault 52 = .ok (.bipush (-4), 2) := by decide +kernel
theorem dX9_fault_54 : decode cX9_fault 54 = .ok (.ireturn, 1) := by decide +kernel
theorem dX9_fault_55 : decode cX9_fault 55 = .ok (.iload_n 1, 1) := by decide +kernel
theorem dX9_fault_56 : decode cX9_fault 56 = .ok (.lookupswitch 44 #[(0, 28), (1, 36)], 28) := by decide +kernel
theorem dX9_fault_84 : decode cX9_fault 84 = .ok (.aload_n 0, 1) := by decide +kernel
theorem dX9_fault_85 : decode cX9_fault 85 = .ok (.getfield 33, 3) := by decide +kernel
theorem dX9_fault_88 : decode cX9_fault 88 = .ok (.getfield 163, 3) := by decide +kernel
theorem dX9_fault_91 : decode cX9_fault 91 = .ok (.ireturn, 1) := by decide +kernel
theorem dX9_fault_92 : decode cX9_fault 92 = .ok (.aload_n 0, 1) := by decide +kernel
theorem dX9_fault_93 : decode cX9_fault 93 = .ok (.getfield 33, 3) := by decide +kernel
theorem dX9_fault_96 : decode cX9_fault 96 = .ok (.getfield 160, 3) := by decide +kernel
theorem dX9_fault_99 : decode cX9_fault 99 = .ok (.ireturn, 1) := by decide +kernel
theorem dX9_fault_100 : decode cX9_fault 100 = .ok (.aload_n 0, 1) := by decide +kernel
theorem dX9_fault_101 : decode cX9_fault 101 = .ok (.getfield 33, 3) := by decide +kernel
theorem dX9_fault_104 : decode cX9_fault 104 = .ok (.getfield 166, 3) := by decide +kernel
theorem dX9_fault_107 : decode cX9_fault 107 = .ok (.ireturn, 1) := by decide +kernel
theorem dX9_play_0 : decode cX9_play 0 = .ok (.aload_n 0, 1) := by decide +kernel
theorem dX9_play_1 : decode cX9_play 1 = .ok (.getfield 33, 3) := by decide +kernel
theorem dX9_play_4 : decode cX9_play 4 = .ok (.aload_n 0, 1) := by decide +kernel
theorem dX9_play_5 : decode cX9_play 5 = .ok (.getfield 10, 3) := by decide +kernel
theorem dX9_play_8 : decode cX9_play 8 = .ok (.aload_n 0, 1) := by decide +kernel
theorem dX9_play_9 : decode cX9_play 9 = .ok (.getfield 26, 3) := by decide +kernel
theorem dX9_play_12 : decode cX9_play 12 = .ok (.invokevirtual 152, 3) := by decide +kernel
theorem dX9_play_15 : decode cX9_play 15 = .ok (.aload_n 0, 1) := by decide +kernel
theorem dX9_play_16 : decode cX9_play 16 = .ok (.getfield 33, 3) := by decide +kernel
theorem dX9_play_19 : decode cX9_play 19 = .ok (.invokevirtual 156, 3) := by decide +kernel
theorem dX9_play_22 : decode cX9_play 22 = .ok (.ifCond .eq 6, 3) := by decide +kernel
theorem dX9_play_25 : decode cX9_play 25 = .ok (.bipush (-2), 2) := by decide +kernel
theorem dX9_play_27 : decode cX9_play 27 = .ok (.ireturn, 1) := by decide +kernel
theorem dX9_play_28 : decode cX9_play 28 = .ok (.aload_n 0, 1) := by decide +kernel
theorem dX9_play_29 : decode cX9_play 29 = .ok (.getfield 19, 3) := by decide +kernel
theorem dX9_play_32 : decode cX9_play 32 = .ok (.aload_n 0, 1) := by decide +kernel
theorem dX9_play_33 : decode cX9_play 33 = .ok (.getfield 10, 3) := by decide +kernel
theorem dX9_play_36 : decode cX9_play 36 = .ok (.invokevirtual 37, 3) := by decide +kernel
theorem dX9_play_39 : decode cX9_play 39 = .ok (.aload_n 0, 1) := by decide +kernel
theorem dX9_play_40 : decode cX9_play 40 = .ok (.getfield 10, 3) := by decide +kernel
theorem dX9_play_43 : decode cX9_play 43 = .ok (.aload_n 0, 1) := by decide +kernel
theorem dX9_play_44 : decode cX9_play 44 = .ok (.getfield 33, 3) := by decide +kernel
theorem dX9_play_47 : decode cX9_play 47 = .ok (.getfield 169, 3) := by decide +kernel
theorem dX9_play_50 : decode cX9_play 50 = .ok (.invokevirtual 172, 3) := by decide +kernel
theorem dX9_play_53 : decode cX9_play 53 = .ok (.aload_n 0, 1) := by decide +kernel
theorem dX9_play_54 : decode cX9_play 54 = .ok (.getfield 19, 3) := by decide +kernel
theorem dX9_play_57 : decode cX9_play 57 = .ok (.aload_n 0, 1) := by decide +kernel
theorem dX9_play_58 : decode cX9_play 58 = .ok (.getfield 33, 3) := by decide +kernel
theorem dX9_play_61 : decode cX9_play 61 = .ok (.getfield 175, 3) := by decide +kernel
theorem dX9_play_64 : decode cX9_play 64 = .ok (.invokevirtual 45, 3) := by decide +kernel
theorem dX9_play_67 : decode cX9_play 67 = .ok (.ireturn, 1) := by decide +kernel
theorem dX9_bitsOfDouble_0 : decode cX9_bitsOfDouble 0 = .ok (.dload_n 0, 1) := by decide +kernel
theorem dX9_bitsOfDouble_1 : decode cX9_bitsOfDouble 1 = .ok (.dconst 0, 1) := by decide +kernel
theorem dX9_bitsOfDouble_2 : decode cX9_bitsOfDouble 2 = .ok (.dcmp .l, 1) := by decide +kernel
theorem dX9_bitsOfDouble_3 : decode cX9_bitsOfDouble 3 = .ok (.ifCond .gt 5, 3) := by decide +kernel
theorem dX9_bitsOfDouble_6 : decode cX9_bitsOfDouble 6 = .ok (.lconst 0, 1) := by decide +kernel
theorem dX9_bitsOfDouble_7 : decode cX9_bitsOfDouble 7 = .ok (.lreturn, 1) := by decide +kernel
theorem dX9_bitsOfDouble_8 : decode cX9_bitsOfDouble 8 = .ok (.dload_n 0, 1) := by decide +kernel
theorem dX9_bitsOfDouble_9 : decode cX9_bitsOfDouble 9 = .ok (.dstore_n 2, 1) := by decide +kernel
theorem dX9_bitsOfDouble_10 : decode cX9_bitsOfDouble 10 = .ok (.sipush 1023, 3) := by decide +kernel
theorem dX9_bitsOfDouble_13 : decode cX9_bitsOfDouble 13 = .ok (.istore 4, 2) := by decide +kernel
theorem dX9_bitsOfDouble_15 : decode cX9_bitsOfDouble 15 = .ok (.iconst 0, 1) := by decide +kernel
theorem dX9_bitsOfDouble_16 : decode cX9_bitsOfDouble 16 = .ok (.istore 5, 2) := by decide +kernel
theorem dX9_bitsOfDouble_18 : decode cX9_bitsOfDouble 18 = .ok (.iload 5, 2) := by decide +kernel
theorem dX9_bitsOfDouble_20 : decode cX9_bitsOfDouble 20 = .ok (.sipush 1023, 3) := by decide +kernel
theorem dX9_bitsOfDouble_23 : decode cX9_bitsOfDouble 23 = .ok (.if_icmp .ge 24, 3) := by decide +kernel
theorem dX9_bitsOfDouble_26 : decode cX9_bitsOfDouble 26 = .ok (.dload_n 2, 1) := by decide +kernel
theorem dX9_bitsOfDouble_27 : decode cX9_bitsOfDouble 27 = .ok (.dconst 1, 1) := by decide +kernel
theorem dX9_bitsOfDouble_28 : decode cX9_bitsOfDouble 28 = .ok (.dcmp .g, 1) := by decide +kernel
theorem dX9_bitsOfDouble_29 : decode cX9_bitsOfDouble 29 = .ok (.ifCond .ge 18, 3) := by decide +kernel
theorem dX9_bitsOfDouble_32 : decode cX9_bitsOfDouble 32 = .ok (.dload_n 2, 1) := by decide +kernel
theorem dX9_bitsOfDouble_33 : decode cX9_bitsOfDouble 33 = .ok (.ldc2_w 178, 3) := by decide +kernel
theorem dX9_bitsOfDouble_36 : decode cX9_bitsOfDouble 36 = .ok (.dmul, 1) := by decide +kernel
theorem dX9_bitsOfDouble_37 : decode cX9_bitsOfDouble 37 = .ok (.dstore_n 2, 1) := by decide +kernel
theorem dX9_bitsOfDouble_38 : decode cX9_bitsOfDouble 38 = .ok (.iinc 4 (-1), 3) := by decide +kernel
theorem dX9_bitsOfDouble_41 : decode cX9_bitsOfDouble 41 = .ok (.iinc 5 1, 3) := by decide +kernel
theorem dX9_bitsOfDouble_44 : decode cX9_bitsOfDouble 44 = .ok (.goto (-26), 3) := by decide +kernel
theorem dX9_bitsOfDouble_47 : decode cX9_bitsOfDouble 47 = .ok (.iconst 0, 1) := by decide +kernel
theorem dX9_bitsOfDouble_48 : decode cX9_bitsOfDouble 48 = .ok (.istore 5, 2) := by decide +kernel
theorem dX9_bitsOfDouble_50 : decode cX9_bitsOfDouble 50 = .ok (.iload 5, 2) := by decide +kernel
theorem dX9_bitsOfDouble_52 : decode cX9_bitsOfDouble 52 = .ok (.sipush 1023, 3) := by decide +kernel
theorem dX9_bitsOfDouble_55 : decode cX9_bitsOfDouble 55 = .ok (.if_icmp .ge 26, 3) := by decide +kernel
theorem dX9_bitsOfDouble_58 : decode cX9_bitsOfDouble 58 = .ok (.dload_n 2, 1) := by decide +kernel
theorem dX9_bitsOfDouble_59 : decode cX9_bitsOfDouble 59 = .ok (.ldc2_w 178, 3) := by decide +kernel
theorem dX9_bitsOfDouble_62 : decode cX9_bitsOfDouble 62 = .ok (.dcmp .l, 1) := by decide +kernel
theorem dX9_bitsOfDouble_63 : decode cX9_bitsOfDouble 63 = .ok (.ifCond .lt 18, 3) := by decide +kernel
theorem dX9_bitsOfDouble_66 : decode cX9_bitsOfDouble 66 = .ok (.dload_n 2, 1) := by decide +kernel
theorem dX9_bitsOfDouble_67 : decode cX9_bitsOfDouble 67 = .ok (.ldc2_w 178, 3) := by decide +kernel
theorem dX9_bitsOfDouble_70 : decode cX9_bitsOfDouble 70 = .ok (.ddiv, 1) := by decide +kernel
theorem dX9_bitsOfDouble_71 : decode cX9_bitsOfDouble 71 = .ok (.dstore_n 2, 1) := by decide +kernel
theorem dX9_bitsOfDouble_72 : decode cX9_bitsOfDouble 72 = .ok (.iinc 4 1, 3) := by decide +kernel
theorem dX9_bitsOfDouble_75 : decode cX9_bitsOfDouble 75 = .ok (.iinc 5 1, 3) := by decide +kernel
theorem dX9_bitsOfDouble_78 : decode cX9_bitsOfDouble 78 = .ok (.goto (-28), 3) := by decide +kernel
theorem dX9_bitsOfDouble_81 : decode cX9_bitsOfDouble 81 = .ok (.iload 4, 2) := by decide +kernel
theorem dX9_bitsOfDouble_83 : decode cX9_bitsOfDouble 83 = .ok (.i2l, 1) := by decide +kernel
theorem dX9_bitsOfDouble_84 : decode cX9_bitsOfDouble 84 = .ok (.bipush 52, 2) := by decide +kernel
theorem dX9_bitsOfDouble_86 : decode cX9_bitsOfDouble 86 = .ok (.lshl, 1) := by decide +kernel
theorem dX9_bitsOfDouble_87 : decode cX9_bitsOfDouble 87 = .ok (.dload_n 2, 1) := by decide +kernel
theorem dX9_bitsOfDouble_88 : decode cX9_bitsOfDouble 88 = .ok (.dconst 1, 1) := by decide +kernel
theorem dX9_bitsOfDouble_89 : decode cX9_bitsOfDouble 89 = .ok (.dsub, 1) := by decide +kernel
theorem dX9_bitsOfDouble_90 : decode cX9_bitsOfDouble 90 = .ok (.ldc2_w 180, 3) := by decide +kernel
theorem dX9_bitsOfDouble_93 : decode cX9_bitsOfDouble 93 = .ok (.dmul, 1) := by decide +kernel
theorem dX9_bitsOfDouble_94 : decode cX9_bitsOfDouble 94 = .ok (.d2l, 1) := by decide +kernel
theorem dX9_bitsOfDouble_95 : decode cX9_bitsOfDouble 95 = .ok (.lor, 1) := by decide +kernel
theorem dX9_bitsOfDouble_96 : decode cX9_bitsOfDouble 96 = .ok (.lreturn, 1) := by decide +kernel
theorem dX9_bitsOfFloat_0 : decode cX9_bitsOfFloat 0 = .ok (.fload_n 0, 1) := by decide +kernel
theorem dX9_bitsOfFloat_1 : decode cX9_bitsOfFloat 1 = .ok (.fconst 0, 1) := by decide +kernel
theorem dX9_bitsOfFloat_2 : decode cX9_bitsOfFloat 2 = .ok (.fcmp .l, 1) := by decide +kernel
theorem dX9_bitsOfFloat_3 : decode cX9_bitsOfFloat 3 = .ok (.ifCond .gt 5, 3) := by decide +kernel
theorem dX9_bitsOfFloat_6 : decode cX9_bitsOfFloat 6 = .ok (.iconst 0, 1) := by decide +kernel
theorem dX9_bitsOfFloat_7 : decode cX9_bitsOfFloat 7 = .ok (.ireturn, 1) := by decide +kernel
theorem dX9_bitsOfFloat_8 : decode cX9_bitsOfFloat 8 = .ok (.fload_n 0, 1) := by decide +kernel
theorem dX9_bitsOfFloat_9 : decode cX9_bitsOfFloat 9 = .ok (.fstore_n 1, 1) := by decide +kernel
theorem dX9_bitsOfFloat_10 : decode cX9_bitsOfFloat 10 = .ok (.bipush 127, 2) := by decide +kernel
theorem dX9_bitsOfFloat_12 : decode cX9_bitsOfFloat 12 = .ok (.istore_n 2, 1) := by decide +kernel
theorem dX9_bitsOfFloat_13 : decode cX9_bitsOfFloat 13 = .ok (.iconst 0, 1) := by decide +kernel
theorem dX9_bitsOfFloat_14 : decode cX9_bitsOfFloat 14 = .ok (.istore_n 3, 1) := by decide +kernel
theorem dX9_bitsOfFloat_15 : decode cX9_bitsOfFloat 15 = .ok (.iload_n 3, 1) := by decide +kernel
theorem dX9_bitsOfFloat_16 : decode cX9_bitsOfFloat 16 = .ok (.bipush 127, 2) := by decide +kernel
theorem dX9_bitsOfFloat_18 : decode cX9_bitsOfFloat 18 = .ok (.if_icmp .ge 22, 3) := by decide +kernel
theorem dX9_bitsOfFloat_21 : decode cX9_bitsOfFloat 21 = .ok (.fload_n 1, 1) := by decide +kernel
theorem dX9_bitsOfFloat_22 : decode cX9_bitsOfFloat 22 = .ok (.fconst 1, 1) := by decide +kernel
theorem dX9_bitsOfFloat_23 : decode cX9_bitsOfFloat 23 = .ok (.fcmp .g, 1) := by decide +kernel
theorem dX9_bitsOfFloat_24 : decode cX9_bitsOfFloat 24 = .ok (.ifCond .ge 16, 3) := by decide +kernel
theorem dX9_bitsOfFloat_27 : decode cX9_bitsOfFloat 27 = .ok (.fload_n 1, 1) := by decide +kernel
theorem dX9_bitsOfFloat_28 : decode cX9_bitsOfFloat 28 = .ok (.fconst 2, 1) := by decide +kernel
theorem dX9_bitsOfFloat_29 : decode cX9_bitsOfFloat 29 = .ok (.fmul, 1) := by decide +kernel
theorem dX9_bitsOfFloat_30 : decode cX9_bitsOfFloat 30 = .ok (.fstore_n 1, 1) := by decide +kernel
theorem dX9_bitsOfFloat_31 : decode cX9_bitsOfFloat 31 = .ok (.iinc 2 (-1), 3) := by decide +kernel
theorem dX9_bitsOfFloat_34 : decode cX9_bitsOfFloat 34 = .ok (.iinc 3 1, 3) := by decide +kernel
theorem dX9_bitsOfFloat_37 : decode cX9_bitsOfFloat 37 = .ok (.goto (-22), 3) := by decide +kernel
theorem dX9_bitsOfFloat_40 : decode cX9_bitsOfFloat 40 = .ok (.iconst 0, 1) := by decide +kernel
theorem dX9_bitsOfFloat_41 : decode cX9_bitsOfFloat 41 = .ok (.istore_n 3, 1) := by decide +kernel
theorem dX9_bitsOfFloat_42 : decode cX9_bitsOfFloat 42 = .ok (.iload_n 3, 1) := by decide +kernel
theorem dX9_bitsOfFloat_43 : decode cX9_bitsOfFloat 43 = .ok (.bipush 127, 2) := by decide +kernel
theorem dX9_bitsOfFloat_45 : decode cX9_bitsOfFloat 45 = .ok (.if_icmp .ge 22, 3) := by decide +kernel
theorem dX9_bitsOfFloat_48 : decode cX9_bitsOfFloat 48 = .ok (.fload_n 1, 1) := by decide +kernel
theorem dX9_bitsOfFloat_49 : decode cX9_bitsOfFloat 49 = .ok (.fconst 2, 1) := by decide +kernel
theorem dX9_bitsOfFloat_50 : decode cX9_bitsOfFloat 50 = .ok (.fcmp .l, 1) := by decide +kernel
theorem dX9_bitsOfFloat_51 : decode cX9_bitsOfFloat 51 = .ok (.ifCond .lt 16, 3) := by decide +kernel
theorem dX9_bitsOfFloat_54 : decode cX9_bitsOfFloat 54 = .ok (.fload_n 1, 1) := by decide +kernel
theorem dX9_bitsOfFloat_55 : decode cX9_bitsOfFloat 55 = .ok (.fconst 2, 1) := by decide +kernel
theorem dX9_bitsOfFloat_56 : decode cX9_bitsOfFloat 56 = .ok (.fdiv, 1) := by decide +kernel
theorem dX9_bitsOfFloat_57 : decode cX9_bitsOfFloat 57 = .ok (.fstore_n 1, 1) := by decide +kernel
theorem dX9_bitsOfFloat_58 : decode cX9_bitsOfFloat 58 = .ok (.iinc 2 1, 3) := by decide +kernel
theorem dX9_bitsOfFloat_61 : decode cX9_bitsOfFloat 61 = .ok (.iinc 3 1, 3) := by decide +kernel
theorem dX9_bitsOfFloat_64 : decode cX9_bitsOfFloat 64 = .ok (.goto (-22), 3) := by decide +kernel
theorem dX9_bitsOfFloat_67 : decode cX9_bitsOfFloat 67 = .ok (.iload_n 2, 1) := by decide +kernel
theorem dX9_bitsOfFloat_68 : decode cX9_bitsOfFloat 68 = .ok (.bipush 23, 2) := by decide +kernel
theorem dX9_bitsOfFloat_70 : decode cX9_bitsOfFloat 70 = .ok (.ishl, 1) := by decide +kernel
theorem dX9_bitsOfFloat_71 : decode cX9_bitsOfFloat 71 = .ok (.fload_n 1, 1) := by decide +kernel
theorem dX9_bitsOfFloat_72 : decode cX9_bitsOfFloat 72 = .ok (.fconst 1, 1) := by decide +kernel
theorem dX9_bitsOfFloat_73 : decode cX9_bitsOfFloat 73 = .ok (.fsub, 1) := by decide +kernel
theorem dX9_bitsOfFloat_74 : decode cX9_bitsOfFloat 74 = .ok (.ldc 182, 2) := by decide +kernel
theorem dX9_bitsOfFloat_76 : decode cX9_bitsOfFloat 76 = .ok (.fmul, 1) := by decide +kernel
theorem dX9_bitsOfFloat_77 : decode cX9_bitsOfFloat 77 = .ok (.f2i, 1) := by decide +kernel
theorem dX9_bitsOfFloat_78 : decode cX9_bitsOfFloat 78 = .ok (.ior, 1) := by decide +kernel
theorem dX9_bitsOfFloat_79 : decode cX9_bitsOfFloat 79 = .ok (.ireturn, 1) := by decide +kernel
theorem dX10_init_0 : decode cX10_init 0 = .ok (.aload_n 0, 1) := by decide +kernel
theorem dX10_init_1 : decode cX10_init 1 = .ok (.invokespecial 1, 3) := by decide +kernel
theorem dX10_init_4 : decode cX10_init 4 = .ok (.aload_n 0, 1) := by decide +kernel
theorem dX10_init_5 : decode cX10_init 5 = .ok (.sipush 193, 3) := by decide +kernel
theorem dX10_init_8 : decode cX10_init 8 = .ok (.newarray .int, 2) := by decide +kernel
theorem dX10_init_10 : decode cX10_init 10 = .ok (.putfield 7, 3) := by decide +kernel
theorem dX10_init_13 : decode cX10_init 13 = .ok (.aload_n 0, 1) := by decide +kernel
theorem dX10_init_14 : decode cX10_init 14 = .ok (.sipush 193, 3) := by decide +kernel
theorem dX10_init_17 : decode cX10_init 17 = .ok (.newarray .int, 2) := by decide +kernel
theorem dX10_init_19 : decode cX10_init 19 = .ok (.putfield 13, 3) := by decide +kernel
theorem dX10_init_22 : decode cX10_init 22 = .ok (.aload_n 0, 1) := by decide +kernel
theorem dX10_init_23 : decode cX10_init 23 = .ok (.sipush 193, 3) := by decide +kernel
theorem dX10_init_26 : decode cX10_init 26 = .ok (.newarray .int, 2) := by decide +kernel
theorem dX10_init_28 : decode cX10_init 28 = .ok (.putfield 16, 3) := by decide +kernel
theorem dX10_init_31 : decode cX10_init 31 = .ok (.aload_n 0, 1) := by decide +kernel
theorem dX10_init_32 : decode cX10_init 32 = .ok (.sipush 772, 3) := by decide +kernel
theorem dX10_init_35 : decode cX10_init 35 = .ok (.newarray .int, 2) := by decide +kernel
theorem dX10_init_37 : decode cX10_init 37 = .ok (.putfield 19, 3) := by decide +kernel
theorem dX10_init_40 : decode cX10_init 40 = .ok (.aload_n 0, 1) := by decide +kernel
theorem dX10_init_41 : decode cX10_init 41 = .ok (.bipush 80, 2) := by decide +kernel
theorem dX10_init_43 : decode cX10_init 43 = .ok (.newarray .int, 2) := by decide +kernel
theorem dX10_init_45 : decode cX10_init 45 = .ok (.putfield 22, 3) := by decide +kernel
theorem dX10_init_48 : decode cX10_init 48 = .ok (.aload_n 0, 1) := by decide +kernel
theorem dX10_init_49 : decode cX10_init 49 = .ok (.iconst 2, 1) := by decide +kernel
theorem dX10_init_50 : decode cX10_init 50 = .ok (.newarray .int, 2) := by decide +kernel
theorem dX10_init_52 : decode cX10_init 52 = .ok (.putfield 25, 3) := by decide +kernel
theorem dX10_init_55 : decode cX10_init 55 = .ok (.aload_n 0, 1) := by decide +kernel
theorem dX10_init_56 : decode cX10_init 56 = .ok (.getfield 7, 3) := by decide +kernel
theorem dX10_init_59 : decode cX10_init 59 = .ok (.iconst 0, 1) := by decide +kernel
theorem dX10_init_60 : decode cX10_init 60 = .ok (.bipush 10, 2) := by decide +kernel
theorem dX10_init_62 : decode cX10_init 62 = .ok (.iastore, 1) := by decide +kernel
theorem dX10_init_63 : decode cX10_init 63 = .ok (.aload_n 0, 1) := by decide +kernel
theorem dX10_init_64 : decode cX10_init 64 = .ok (.getfield 7, 3) := by decide +kernel
theorem dX10_init_67 : decode cX10_init 67 = .ok (.iconst 1, 1) := by decide +kernel
theorem dX10_init_68 : decode cX10_init 68 = .ok (.iconst 2, 1) := by decide +kernel
theorem dX10_init_69 : decode cX10_init 69 = .ok (.iastore, 1) := by decide +kernel
theorem dX10_init_70 : decode cX10_init 70 = .ok (.aload_n 0, 1) := by decide +kernel
theorem dX10_init_71 : decode cX10_init 71 = .ok (.getfield 7, 3) := by decide +kernel
theorem dX10_init_74 : decode cX10_init 74 = .ok (.iconst 2, 1) := by decide +kernel
theorem dX10_init_75 : decode cX10_init 75 = .ok (.bipush 15, 2) := by decide +kernel
theorem dX10_init_77 : decode cX10_init 77 = .ok (.iastore, 1) := by decide +kernel
theorem dX10_init_78 : decode cX10_init 78 = .ok (.return_, 1) := by decide +kernel
theorem dX10_in_0 : decode cX10_in 0 = .ok (.iload_n 0, 1) := by decide +kernel
theorem dX10_in_1 : decode cX10_in 1 = .ok (.iload_n 1, 1) := by decide +kernel
theorem dX10_in_2 : decode cX10_in 2 = .ok (.if_icmp .lt 12, 3) := by decide +kernel
theorem dX10_in_5 : decode cX10_in 5 = .ok (.iload_n 0, 1) := by decide +kernel
theorem dX10_in_6 : decode cX10_in 6 = .ok (.iload_n 2, 1) := by decide +kernel
theorem dX10_in_7 : decode cX10_in 7 = .ok (.if_icmp .gt 7, 3) := by decide +kernel
theorem dX10_in_10 : decode cX10_in 10 = .ok (.iconst 1, 1) := by decide +kernel
theorem dX10_in_11 : decode cX10_in 11 = .ok (.goto 4, 3) := by decide +kernel
theorem dX10_in_14 : decode cX10_in 14 = .ok (.iconst 0, 1) := by decide +kernel
theorem dX10_in_15 : decode cX10_in 15 = .ok (.ireturn, 1) := by decide +kernel
theorem dX10_isLocker_0 : decode cX10_isLocker 0 = .ok (.iload_n 1, 1) := by decide +kernel
theorem dX10_isLocker_1 : decode cX10_isLocker 1 = .ok (.iconst 0, 1) := by decide +kernel
theorem dX10_isLocker_2 : decode cX10_isLocker 2 = .ok (.aload_n 0, 1) := by decide +kernel
theorem dX10_isLocker_3 : decode cX10_isLocker 3 = .ok (.getfield 7, 3) := by decide +kernel
theorem dX10_isLocker_6 : decode cX10_isLocker 6 = .ok (.iconst 4, 1) := by decide +kernel
theorem dX10_isLocker_7 : decode cX10_isLocker 7 = .ok (.iaload, 1) := by decide +kernel
theorem dX10_isLocker_8 : decode cX10_isLocker 8 = .ok (.iconst 1, 1) := by decide +kernel
theorem dX10_isLocker_9 : decode cX10_isLocker 9 = .ok (.isub, 1) := by decide +kernel
theorem dX10_isLocker_10 : decode cX10_isLocker 10 = .ok (.invokestatic 28, 3) := by decide +kernel
theorem dX10_isLocker_13 : decode cX10_isLocker 13 = .ok (.ireturn, 1) := by decide +kernel
theorem dX10_isPerson_0 : decode cX10_isPerson 0 = .ok (.iload_n 1, 1) := by decide +kernel
theorem dX10_isPerson_1 : decode cX10_isPerson 1 = .ok (.iconst 0, 1) := by decide +kernel
theorem dX10_isPerson_2 : decode cX10_isPerson 2 = .ok (.aload_n 0, 1) := by decide +kernel
theorem dX10_isPerson_3 : decode cX10_isPerson 3 = .ok (.getfield 7, 3) := by decide +kernel
theorem dX10_isPerson_6 : decode cX10_isPerson 6 = .ok (.iconst 5, 1) := by decide +kernel
theorem dX10_isPerson_7 : decode cX10_isPerson 7 = .ok (.iaload, 1) := by decide +kernel
theorem dX10_isPerson_8 : decode cX10_isPerson 8 = .ok (.iconst 1, 1) := by decide +kernel
theorem dX10_isPerson_9 : decode cX10_isPerson 9 = .ok (.isub, 1) := by decide +kernel
theorem dX10_isPerson_10 : decode cX10_isPerson 10 = .ok (.invokestatic 28, 3) := by decide +kernel
theorem dX10_isPerson_13 : decode cX10_isPerson 13 = .ok (.ireturn, 1) := by decide +kernel
theorem dX10_of_0 : decode cX10_of 0 = .ok (.aload_n 0, 1) := by decide +kernel
theorem dX10_of_1 : decode cX10_of 1 = .ok (.getfield 7, 3) := by decide +kernel
theorem dX10_of_4 : decode cX10_of 4 = .ok (.bipush 11, 2) := by decide +kernel
theorem dX10_of_6 : decode cX10_of 6 = .ok (.bipush 6, 2) := by decide +kernel
theorem dX10_of_8 : decode cX10_of 8 = .ok (.iload_n 1, 1) := by decide +kernel
theorem dX10_of_9 : decode cX10_of 9 = .ok (.imul, 1) := by decide +kernel
theorem dX10_of_10 : decode cX10_of 10 = .ok (.iadd, 1) := by decide +kernel
theorem dX10_of_11 : decode cX10_of 11 = .ok (.iload_n 2, 1) := by decide +kernel
theorem dX10_of_12 : decode cX10_of 12 = .ok (.iadd, 1) := by decide +kernel
theorem dX10_of_13 : decode cX10_of 13 = .ok (.iaload, 1) := by decide +kernel
theorem dX10_of_14 : decode cX10_of 14 = .ok (.ireturn, 1) := by decide +kernel
theorem dX10_lay_0 : decode cX10_lay 0 = .ok (.aload_n 0, 1) := by decide +kernel
theorem dX10_lay_1 : decode cX10_lay 1 = .ok (.getfield 7, 3) := by decide +kernel
theorem dX10_lay_4 : decode cX10_lay 4 = .ok (.bipush 11, 2) := by decide +kernel
theorem dX10_lay_6 : decode cX10_lay 6 = .ok (.bipush 6, 2) := by decide +kernel
theorem dX10_lay_8 : decode cX10_lay 8 = .ok (.iload_n 1, 1) := by decide +kernel
theorem dX10_lay_9 : decode cX10_lay 9 = .ok (.imul, 1) := by decide +kernel
theorem dX10_lay_10 : decode cX10_lay 10 = .ok (.iadd, 1) := by decide +kernel
theorem dX10_lay_11 : decode cX10_lay 11 = .ok (.iload_n 2, 1) := by decide +kernel
theorem dX10_lay_12 : decode cX10_lay 12 = .ok (.iadd, 1) := by decide +kernel
theorem dX10_lay_13 : decode cX10_lay 13 = .ok (.iload_n 3, 1) := by decide +kernel
theorem dX10_lay_14 : decode cX10_lay 14 = .ok (.iastore, 1) := by decide +kernel
theorem dX10_lay_15 : decode cX10_lay 15 = .ok (.return_, 1) := by decide +kernel
theorem dX10_ofP_0 : decode cX10_ofP 0 = .ok (.aload_n 0, 1) := by decide +kernel
theorem dX10_ofP_1 : decode cX10_ofP 1 = .ok (.getfield 7, 3) := by decide +kernel
theorem dX10_ofP_4 : decode cX10_ofP 4 = .ok (.bipush 83, 2) := by decide +kernel
theorem dX10_ofP_6 : decode cX10_ofP 6 = .ok (.bipush 8, 2) := by decide +kernel
theorem dX10_ofP_8 : decode cX10_ofP 8 = .ok (.iload_n 1, 1) := by decide +kernel
theorem dX10_ofP_9 : decode cX10_ofP 9 = .ok (.imul, 1) := by decide +kernel
theorem dX10_ofP_10 : decode cX10_ofP 10 = .ok (.iadd, 1) := by decide +kernel
theorem dX10_ofP_11 : decode cX10_ofP 11 = .ok (.iload_n 2, 1) := by decide +kernel
theorem dX10_ofP_12 : decode cX10_ofP 12 = .ok (.iadd, 1) := by decide +kernel
theorem dX10_ofP_13 : decode cX10_ofP 13 = .ok (.iaload, 1) := by decide +kernel
theorem dX10_ofP_14 : decode cX10_ofP 14 = .ok (.ireturn, 1) := by decide +kernel
theorem dX10_layP_0 : decode cX10_layP 0 = .ok (.aload_n 0, 1) := by decide +kernel
theorem dX10_layP_1 : decode cX10_layP 1 = .ok (.getfield 7, 3) := by decide +kernel
theorem dX10_layP_4 : decode cX10_layP 4 = .ok (.bipush 83, 2) := by decide +kernel
theorem dX10_layP_6 : decode cX10_layP 6 = .ok (.bipush 8, 2) := by decide +kernel
theorem dX10_layP_8 : decode cX10_layP 8 = .ok (.iload_n 1, 1) := by decide +kernel
theorem dX10_layP_9 : decode cX10_layP 9 = .ok (.imul, 1) := by decide +kernel
theorem dX10_layP_10 : decode cX10_layP 10 = .ok (.iadd, 1) := by decide +kernel
theorem dX10_layP_11 : decode cX10_layP 11 = .ok (.iload_n 2, 1) := by decide +kernel
theorem dX10_layP_12 : decode cX10_layP 12 = .ok (.iadd, 1) := by decide +kernel
theorem dX10_layP_13 : decode cX10_layP 13 = .ok (.iload_n 3, 1) := by decide +kernel
theorem dX10_layP_14 : decode cX10_layP 14 = .ok (.iastore, 1) := by decide +kernel
theorem dX10_layP_15 : decode cX10_layP 15 = .ok (.return_, 1) := by decide +kernel
theorem dX10_begins_0 : decode cX10_begins 0 = .ok (.iconst 0, 1) := by decide +kernel
theorem dX10_begins_1 : decode cX10_begins 1 = .ok (.istore_n 1, 1) := by decide +kernel
theorem dX10_begins_2 : decode cX10_begins 2 = .ok (.iload_n 1, 1) := by decide +kernel
theorem dX10_begins_3 : decode cX10_begins 3 = .ok (.sipush 193, 3) := by decide +kernel
theorem dX10_begins_6 : decode cX10_begins 6 = .ok (.if_icmp .ge 21, 3) := by decide +kernel
theorem dX10_begins_9 : decode cX10_begins 9 = .ok (.aload_n 0, 1) := by decide +kernel
theorem dX10_begins_10 : decode cX10_begins 10 = .ok (.getfield 13, 3) := by decide +kernel
theorem dX10_begins_13 : decode cX10_begins 13 = .ok (.iload_n 1, 1) := by decide +kernel
theorem dX10_begins_14 : decode cX10_begins 14 = .ok (.aload_n 0, 1) := by decide +kernel
theorem dX10_begins_15 : decode cX10_begins 15 = .ok (.getfield 7, 3) := by decide +kernel
theorem dX10_begins_18 : decode cX10_begins 18 = .ok (.iload_n 1, 1) := by decide +kernel
theorem dX10_begins_19 : decode cX10_begins 19 = .ok (.iaload, 1) := by decide +kernel
theorem dX10_begins_20 : decode cX10_begins 20 = .ok (.iastore, 1) := by decide +kernel
theorem dX10_begins_21 : decode cX10_begins 21 = .ok (.iinc 1 1, 3) := by decide +kernel
theorem dX10_begins_24 : decode cX10_begins 24 = .ok (.goto (-22), 3) := by decide +kernel
theorem dX10_begins_27 : decode cX10_begins 27 = .ok (.return_, 1) := by decide +kernel
theorem dX10_acted_0 : decode cX10_acted 0 = .ok (.iload_n 1, 1) := by decide +kernel
theorem dX10_acted_1 : decode cX10_acted 1 = .ok (.ifCond .ge 5, 3) := by decide +kernel
theorem dX10_acted_4 : decode cX10_acted 4 = .ok (.iload_n 1, 1) := by decide +kernel
theorem dX10_acted_5 : decode cX10_acted 5 = .ok (.ireturn, 1) := by decide +kernel
theorem dX10_acted_6 : decode cX10_acted 6 = .ok (.aload_n 0, 1) := by decide +kernel
theorem dX10_acted_7 : decode cX10_acted 7 = .ok (.getfield 32, 3) := by decide +kernel
theorem dX10_acted_10 : decode cX10_acted 10 = .ok (.iconst 4, 1) := by decide +kernel
theorem dX10_acted_11 : decode cX10_acted 11 = .ok (.if_icmp .ne 44, 3) := by decide +kernel
theorem dX10_acted_14 : decode cX10_acted 14 = .ok (.iconst 0, 1) := by decide +kernel
theorem dX10_acted_15 : decode cX10_acted 15 = .ok (.istore_n 2, 1) := by decide +kernel
theorem dX10_acted_16 : decode cX10_acted 16 = .ok (.iload_n 2, 1) := by decide +kernel
theorem dX10_acted_17 : decode cX10_acted 17 = .ok (.sipush 579, 3) := by decide +kernel
theorem dX10_acted_20 : decode cX10_acted 20 = .ok (.if_icmp .ge 25, 3) := by decide +kernel
theorem dX10_acted_23 : decode cX10_acted 23 = .ok (.aload_n 0, 1) := by decide +kernel
theorem dX10_acted_24 : decode cX10_acted 24 = .ok (.getfield 19, 3) := by decide +kernel
theorem dX10_acted_27 : decode cX10_acted 27 = .ok (.iload_n 2, 1) := by decide +kernel
theorem dX10_acted_28 : decode cX10_acted 28 = .ok (.aload_n 0, 1) := by decide +kernel
theorem dX10_acted_29 : decode cX10_acted 29 = .ok (.getfield 19, 3) := by decide +kernel
theorem dX10_acted_32 : decode cX10_acted 32 = .ok (.iload_n 2, 1) := by decide +kernel
theorem dX10_acted_33 : decode cX10_acted 33 = .ok (.sipush 193, 3) := by decide +kernel
theorem dX10_acted_36 : decode cX10_acted 36 = .ok (.iadd, 1) := by decide +kernel
theorem dX10_acted_37 : decode cX10_acted 37 = .ok (.iaload, 1) := by decide +kernel
theorem dX10_acted_38 : decode cX10_acted 38 = .ok (.iastore, 1) := by decide +kernel
theorem dX10_acted_39 : decode cX10_acted 39 = .ok (.iinc 2 1, 3) := by decide +kernel
theorem dX10_acted_42 : decode cX10_acted 42 = .ok (.goto (-26), 3) := by decide +kernel
theorem dX10_acted_45 : decode cX10_acted 45 = .ok (.aload_n 0, 1) := by decide +kernel
theorem dX10_acted_46 : decode cX10_acted 46 = .ok (.dup, 1) := by decide +kernel
theorem dX10_acted_47 : decode cX10_acted 47 = .ok (.getfield 32, 3) := by decide +kernel
theorem dX10_acted_50 : decode cX10_acted 50 = .ok (.iconst 1, 1) := by decide +kernel
theorem dX10_acted_51 : decode cX10_acted 51 = .ok (.isub, 1) := by decide +kernel
theorem dX10_acted_52 : decode cX10_acted 52 = .ok (.putfield 32, 3) := by decide +kernel
theorem dX10_acted_55 : decode cX10_acted 55 = .ok (.iconst 0, 1) := by decide +kernel
theorem dX10_acted_56 : decode cX10_acted 56 = .ok (.istore_n 2, 1) := by decide +kernel
theorem dX10_acted_57 : decode cX10_acted 57 = .ok (.iload_n 2, 1) := by decide +kernel
theorem dX10_acted_58 : decode cX10_acted 58 = .ok (.sipush 193, 3) := by decide +kernel
theorem dX10_acted_61 : decode cX10_acted 61 = .ok (.if_icmp .ge 30, 3) := by decide +kernel
theorem dX10_acted_64 : decode cX10_acted 64 = .ok (.aload_n 0, 1) := by decide +kernel
theorem dX10_acted_65 : decode cX10_acted 65 = .ok (.getfield 19, 3) := by decide +kernel
theorem dX10_acted_68 : decode cX10_acted 68 = .ok (.sipush 193, 3) := by decide +kernel
theorem dX10_acted_71 : decode cX10_acted 71 = .ok (.aload_n 0, 1) := by decide +kernel
theorem dX10_acted_72 : decode cX10_acted 72 = .ok (.getfield 32, 3) := by decide +kernel
theorem dX10_acted_75 : decode cX10_acted 75 = .ok (.imul, 1) := by decide +kernel
theorem dX10_acted_76 : decode cX10_acted 76 = .ok (.iload_n 2, 1) := by decide +kernel
theorem dX10_acted_77 : decode cX10_acted 77 = .ok (.iadd, 1) := by decide +kernel
theorem dX10_acted_78 : decode cX10_acted 78 = .ok (.aload_n 0, 1) := by decide +kernel
theorem dX10_acted_79 : decode cX10_acted 79 = .ok (.getfield 13, 3) := by decide +kernel
theorem dX10_acted_82 : decode cX10_acted 82 = .ok (.iload_n 2, 1) := by decide +kernel
theorem dX10_acted_83 : decode cX10_acted 83 = .ok (.iaload, 1) := by decide +kernel
theorem dX10_acted_84 : decode cX10_acted 84 = .ok (.iastore, 1) := by decide +kernel
theorem dX10_acted_85 : decode cX10_acted 85 = .ok (.iinc 2 1, 3) := by decide +kernel
theorem dX10_acted_88 : decode cX10_acted 88 = .ok (.goto (-31), 3) := by decide +kernel
theorem dX10_acted_91 : decode cX10_acted 91 = .ok (.aload_n 0, 1) := by decide +kernel
theorem dX10_acted_92 : decode cX10_acted 92 = .ok (.dup, 1) := by decide +kernel
theorem dX10_acted_93 : decode cX10_acted 93 = .ok (.getfield 32, 3) := by decide +kernel
theorem dX10_acted_96 : decode cX10_acted 96 = .ok (.iconst 1, 1) := by decide +kernel
theorem dX10_acted_97 : decode cX10_acted 97 = .ok (.iadd, 1) := by decide +kernel
theorem dX10_acted_98 : decode cX10_acted 98 = .ok (.putfield 32, 3) := by decide +kernel
theorem dX10_acted_101 : decode cX10_acted 101 = .ok (.iload_n 1, 1) := by decide +kernel
theorem dX10_acted_102 : decode cX10_acted 102 = .ok (.ireturn, 1) := by decide +kernel
theorem dX10_layAside_0 : decode cX10_layAside 0 = .ok (.iconst 0, 1) := by decide +kernel
theorem dX10_layAside_1 : decode cX10_layAside 1 = .ok (.istore_n 1, 1) := by decide +kernel
theorem dX10_layAside_2 : decode cX10_layAside 2 = .ok (.iload_n 1, 1) := by decide +kernel
theorem dX10_layAside_3 : decode cX10_layAside 3 = .ok (.sipush 193, 3) := by decide +kernel
theorem dX10_layAside_6 : decode cX10_layAside 6 = .ok (.if_icmp .ge 21, 3) := by decide +kernel
theorem dX10_layAside_9 : decode cX10_layAside 9 = .ok (.aload_n 0, 1) := by decide +kernel
theorem dX10_layAside_10 : decode cX10_layAside 10 = .ok (.getfield 16, 3) := by decide +kernel
theorem dX10_layAside_13 : decode cX10_layAside 13 = .ok (.iload_n 1, 1) := by decide +kernel
theorem dX10_layAside_14 : decode cX10_layAside 14 = .ok (.aload_n 0, 1) := by decide +kernel
theorem dX10_layAside_15 : decode cX10_layAside 15 = .ok (.getfield 7, 3) := by decide +kernel
theorem dX10_layAside_18 : decode cX10_layAside 18 = .ok (.iload_n 1, 1) := by decide +kernel
theorem dX10_layAside_19 : decode cX10_layAside 19 = .ok (.iaload, 1) := by decide +kernel
theorem dX10_layAside_20 : decode cX10_layAside 20 = .ok (.iastore, 1) := by decide +kernel
theorem dX10_layAside_21 : decode cX10_layAside 21 = .ok (.iinc 1 1, 3) := by decide +kernel
theorem dX10_layAside_24 : decode cX10_layAside 24 = .ok (.goto (-22), 3) := by decide +kernel
theorem dX10_layAside_27 : decode cX10_layAside 27 = .ok (.return_, 1) := by decide +kernel
theorem dX10_bringBack_0 : decode cX10_bringBack 0 = .ok (.iconst 0, 1) := by decide +kernel
theorem dX10_bringBack_1 : decode cX10_bringBack 1 = .ok (.istore_n 1, 1) := by decide +kernel
theorem dX10_bringBack_2 : decode cX10_bringBack 2 = .ok (.iload_n 1, 1) := by decide +kernel
theorem dX10_bringBack_3 : decode cX10_bringBack 3 = .ok (.sipush 193, 3) := by decide +kernel
theorem dX10_bringBack_6 : decode cX10_bringBack 6 = .ok (.if_icmp .ge 21, 3) := by decide +kernel
theorem dX10_bringBack_9 : decode cX10_bringBack 9 = .ok (.aload_n 0, 1) := by decide +kernel
theorem dX10_bringBack_10 : decode cX10_bringBack 10 = .ok (.getfield 7, 3) := by decide +kernel
theorem dX10_bringBack_13 : decode cX10_bringBack 13 = .ok (.iload_n 1, 1) := by decide +kernel
theorem dX10_bringBack_14 : decode cX10_bringBack 14 = .ok (.aload_n 0, 1) := by decide +kernel
theorem dX10_bringBack_15 : decode cX10_bringBack 15 = .ok (.getfield 16, 3) := by decide +kernel
theorem dX10_bringBack_18 : decode cX10_bringBack 18 = .ok (.iload_n 1, 1) := by decide +kernel
theorem dX10_bringBack_19 : decode cX10_bringBack 19 = .ok (.iaload, 1) := by decide +kernel
theorem dX10_bringBack_20 : decode cX10_bringBack 20 = .ok (.iastore, 1) := by decide +kernel
theorem dX10_bringBack_21 : decode cX10_bringBack 21 = .ok (.iinc 1 1, 3) := by decide +kernel
theorem dX10_bringBack_24 : decode cX10_bringBack 24 = .ok (.goto (-22), 3) := by decide +kernel
theorem dX10_bringBack_27 : decode cX10_bringBack 27 = .ok (.return_, 1) := by decide +kernel
theorem dX10_isFree_0 : decode cX10_isFree 0 = .ok (.aload_n 0, 1) := by decide +kernel
theorem dX10_isFree_1 : decode cX10_isFree 1 = .ok (.iload_n 1, 1) := by decide +kernel
theorem dX10_isFree_2 : decode cX10_isFree 2 = .ok (.iconst 1, 1) := by decide +kernel
theorem dX10_isFree_3 : decode cX10_isFree 3 = .ok (.invokevirtual 36, 3) := by decide +kernel
theorem dX10_isFree_6 : decode cX10_isFree 6 = .ok (.ifCond .lt 25, 3) := by decide +kernel
theorem dX10_isFree_9 : decode cX10_isFree 9 = .ok (.aload_n 0, 1) := by decide +kernel
theorem dX10_isFree_10 : decode cX10_isFree 10 = .ok (.iload_n 1, 1) := by decide +kernel
theorem dX10_isFree_11 : decode cX10_isFree 11 = .ok (.iconst 2, 1) := by decide +kernel
theorem dX10_isFree_12 : decode cX10_isFree 12 = .ok (.invokevirtual 36, 3) := by decide +kernel
theorem dX10_isFree_15 : decode cX10_isFree 15 = .ok (.ifCond .ge 16, 3) := by decide +kernel
theorem dX10_isFree_18 : decode cX10_isFree 18 = .ok (.aload_n 0, 1) := by decide +kernel
theorem dX10_isFree_19 : decode cX10_isFree 19 = .ok (.iload_n 1, 1) := by decide +kernel
theorem dX10_isFree_20 : decode cX10_isFree 20 = .ok (.iconst 4, 1) := by decide +kernel
theorem dX10_isFree_21 : decode cX10_isFree 21 = .ok (.invokevirtual 36, 3) := by decide +kernel
theorem dX10_isFree_24 : decode cX10_isFree 24 = .ok (.ifCond .ge 7, 3) := by decide +kernel
theorem dX10_isFree_27 : decode cX10_isFree 27 = .ok (.iconst 1, 1) := by decide +kernel
theorem dX10_isFree_28 : decode cX10_isFree 28 = .ok (.goto 4, 3) := by decide +kernel
theorem dX10_isFree_31 : decode cX10_isFree 31 = .ok (.iconst 0, 1) := by decide +kernel
theorem dX10_isFree_32 : decode cX10_isFree 32 = .ok (.ireturn, 1) := by decide +kernel
theorem dX10_lowestFree_0 : decode cX10_lowestFree 0 = .ok (.iconst 0, 1) := by decide +kernel
theorem dX10_lowestFree_1 : decode cX10_lowestFree 1 = .ok (.istore_n 2, 1) := by decide +kernel
theorem dX10_lowestFree_2 : decode cX10_lowestFree 2 = .ok (.iload_n 2, 1) := by decide +kernel
theorem dX10_lowestFree_3 : decode cX10_lowestFree 3 = .ok (.aload_n 0, 1) := by decide +kernel
theorem dX10_lowestFree_4 : decode cX10_lowestFree 4 = .ok (.getfield 7, 3) := by decide +kernel
theorem dX10_lowestFree_7 : decode cX10_lowestFree 7 = .ok (.iconst 4, 1) := by decide +kernel
theorem dX10_lowestFree_8 : decode cX10_lowestFree 8 = .ok (.iaload, 1) := by decide +kernel
theorem dX10_lowestFree_9 : decode cX10_lowestFree 9 = .ok (.if_icmp .ge 34, 3) := by decide +kernel
theorem dX10_lowestFree_12 : decode cX10_lowestFree 12 = .ok (.aload_n 0, 1) := by decide +kernel
theorem dX10_lowestFree_13 : decode cX10_lowestFree 13 = .ok (.iload_n 2, 1) := by decide +kernel
theorem dX10_lowestFree_14 : decode cX10_lowestFree 14 = .ok (.invokevirtual 40, 3) := by decide +kernel
theorem dX10_lowestFree_17 : decode cX10_lowestFree 17 = .ok (.ifCond .eq 20, 3) := by decide +kernel
theorem dX10_lowestFree_20 : decode cX10_lowestFree 20 = .ok (.iload_n 1, 1) := by decide +kernel
theorem dX10_lowestFree_21 : decode cX10_lowestFree 21 = .ok (.iconst 3, 1) := by decide +kernel
theorem dX10_lowestFree_22 : decode cX10_lowestFree 22 = .ok (.if_icmp .eq 13, 3) := by decide +kernel
theorem dX10_lowestFree_25 : decode cX10_lowestFree 25 = .ok (.aload_n 0, 1) := by decide +kernel
theorem dX10_lowestFree_26 : decode cX10_lowestFree 26 = .ok (.iload_n 2, 1) := by decide +kernel
theorem dX10_lowestFree_27 : decode cX10_lowestFree 27 = .ok (.iconst 0, 1) := by decide +kernel
theorem dX10_lowestFree_28 : decode cX10_lowestFree 28 = .ok (.invokevirtual 36, 3) := by decide +kernel
theorem dX10_lowestFree_31 : decode cX10_lowestFree 31 = .ok (.iload_n 1, 1) := by decide +kernel
theorem dX10_lowestFree_32 : decode cX10_lowestFree 32 = .ok (.if_icmp .ne 5, 3) := by decide +kernel
theorem dX10_lowestFree_35 : decode cX10_lowestFree 35 = .ok (.iload_n 2, 1) := by decide +kernel
theorem dX10_lowestFree_36 : decode cX10_lowestFree 36 = .ok (.ireturn, 1) := by decide +kernel
theorem dX10_lowestFree_37 : decode cX10_lowestFree 37 = .ok (.iinc 2 1, 3) := by decide +kernel
theorem dX10_lowestFree_40 : decode cX10_lowestFree 40 = .ok (.goto (-38), 3) := by decide +kernel
theorem dX10_lowestFree_43 : decode cX10_lowestFree 43 = .ok (.iconst (-1), 1) := by decide +kernel
theorem dX10_lowestFree_44 : decode cX10_lowestFree 44 = .ok (.ireturn, 1) := by decide +kernel
theorem dX10_placeOf_0 : decode cX10_placeOf 0 = .ok (.iconst 0, 1) := by decide +kernel
theorem dX10_placeOf_1 : decode cX10_placeOf 1 = .ok (.istore_n 2, 1) := by decide +kernel
theorem dX10_placeOf_2 : decode cX10_placeOf 2 = .ok (.iload_n 2, 1) := by decide +kernel
theorem dX10_placeOf_3 : decode cX10_placeOf 3 = .ok (.aload_n 0, 1) := by decide +kernel
theorem dX10_placeOf_4 : decode cX10_placeOf 4 = .ok (.getfield 7, 3) := by decide +kernel
theorem dX10_placeOf_7 : decode cX10_placeOf 7 = .ok (.bipush 6, 2) := by decide +kernel
theorem dX10_placeOf_9 : decode cX10_placeOf 9 = .ok (.iaload, 1) := by decide +kernel
theorem dX10_placeOf_10 : decode cX10_placeOf 10 = .ok (.if_icmp .ge 27, 3) := by decide +kernel
theorem dX10_placeOf_13 : decode cX10_placeOf 13 = .ok (.aload_n 0, 1) := by decide +kernel
theorem dX10_placeOf_14 : decode cX10_placeOf 14 = .ok (.getfield 7, 3) := by decide +kernel
theorem dX10_placeOf_17 : decode cX10_placeOf 17 = .ok (.sipush 163, 3) := by decide +kernel
theorem dX10_placeOf_20 : decode cX10_placeOf 20 = .ok (.iconst 2, 1) := by decide +kernel
theorem dX10_placeOf_21 : decode cX10_placeOf 21 = .ok (.iload_n 2, 1) := by decide +kernel
theorem dX10_placeOf_22 : decode cX10_placeOf 22 = .ok (.imul, 1) := by decide +kernel
theorem dX10_placeOf_23 : decode cX10_placeOf 23 = .ok (.iadd, 1) := by decide +kernel
theorem dX10_placeOf_24 : decode cX10_placeOf 24 = .ok (.iaload, 1) := by decide +kernel
theorem dX10_placeOf_25 : decode cX10_placeOf 25 = .ok (.iload_n 1, 1) := by decide +kernel
theorem dX10_placeOf_26 : decode cX10_placeOf 26 = .ok (.if_icmp .ne 5, 3) := by decide +kernel
theorem dX10_placeOf_29 : decode cX10_placeOf 29 = .ok (.iload_n 2, 1) := by decide +kernel
theorem dX10_placeOf_30 : decode cX10_placeOf 30 = .ok (.ireturn, 1) := by decide +kernel
theorem dX10_placeOf_31 : decode cX10_placeOf 31 = .ok (.iinc 2 1, 3) := by decide +kernel
theorem dX10_placeOf_34 : decode cX10_placeOf 34 = .ok (.goto (-32), 3) := by decide +kernel
theorem dX10_placeOf_37 : decode cX10_placeOf 37 = .ok (.iconst (-1), 1) := by decide +kernel
theorem dX10_placeOf_38 : decode cX10_placeOf 38 = .ok (.ireturn, 1) := by decide +kernel
theorem dX10_waitsNoMore_0 : decode cX10_waitsNoMore 0 = .ok (.aload_n 0, 1) := by decide +kernel
theorem dX10_waitsNoMore_1 : decode cX10_waitsNoMore 1 = .ok (.getfield 7, 3) := by decide +kernel
theorem dX10_waitsNoMore_4 : decode cX10_waitsNoMore 4 = .ok (.bipush 6, 2) := by decide +kernel
theorem dX10_waitsNoMore_6 : decode cX10_waitsNoMore 6 = .ok (.dup2, 1) := by decide +kernel
theorem dX10_waitsNoMore_7 : decode cX10_waitsNoMore 7 = .ok (.iaload, 1) := by decide +kernel
theorem dX10_waitsNoMore_8 : decode cX10_waitsNoMore 8 = .ok (.iconst 1, 1) := by decide +kernel
theorem dX10_waitsNoMore_9 : decode cX10_waitsNoMore 9 = .ok (.isub, 1) := by decide +kernel
theorem dX10_waitsNoMore_10 : decode cX10_waitsNoMore 10 = .ok (.iastore, 1) := by decide +kernel
theorem dX10_waitsNoMore_11 : decode cX10_waitsNoMore 11 = .ok (.iconst 2, 1) := by decide +kernel
theorem dX10_waitsNoMore_12 : decode cX10_waitsNoMore 12 = .ok (.iload_n 1, 1) := by decide +kernel
theorem dX10_waitsNoMore_13 : decode cX10_waitsNoMore 13 = .ok (.imul, 1) := by decide +kernel
theorem dX10_waitsNoMore_14 : decode cX10_waitsNoMore 14 = .ok (.istore_n 2, 1) := by decide +kernel
theorem dX10_waitsNoMore_15 : decode cX10_waitsNoMore 15 = .ok (.iload_n 2, 1) := by decide +kernel
theorem dX10_waitsNoMore_16 : decode cX10_waitsNoMore 16 = .ok (.iconst 2, 1) := by decide +kernel
theorem dX10_waitsNoMore_17 : decode cX10_waitsNoMore 17 = .ok (.aload_n 0, 1) := by decide +kernel
theorem dX10_waitsNoMore_18 : decode cX10_waitsNoMore 18 = .ok (.getfield 7, 3) := by decide +kernel
theorem dX10_waitsNoMore_21 : decode cX10_waitsNoMore 21 = .ok (.bipush 6, 2) := by decide +kernel
theorem dX10_waitsNoMore_23 : decode cX10_waitsNoMore 23 = .ok (.iaload, 1) := by decide +kernel
theorem dX10_waitsNoMore_24 : decode cX10_waitsNoMore 24 = .ok (.imul, 1) := by decide +kernel
theorem dX10_waitsNoMore_25 : decode cX10_waitsNoMore 25 = .ok (.if_icmp .ge 31, 3) := by decide +kernel
theorem dX10_waitsNoMore_28 : decode cX10_waitsNoMore 28 = .ok (.aload_n 0, 1) := by decide +kernel
theorem dX10_waitsNoMore_29 : decode cX10_waitsNoMore 29 = .ok (.getfield 7, 3) := by decide +kernel
theorem dX10_waitsNoMore_32 : decode cX10_waitsNoMore 32 = .ok (.sipush 163, 3) := by decide +kernel
theorem dX10_waitsNoMore_35 : decode cX10_waitsNoMore 35 = .ok (.iload_n 2, 1) := by decide +kernel
theorem dX10_waitsNoMore_36 : decode cX10_waitsNoMore 36 = .ok (.iadd, 1) := by decide +kernel
theorem dX10_waitsNoMore_37 : decode cX10_waitsNoMore 37 = .ok (.aload_n 0, 1) := by decide +kernel
theorem dX10_waitsNoMore_38 : decode cX10_waitsNoMore 38 = .ok (.getfield 7, 3) := by decide +kernel
theorem dX10_waitsNoMore_41 : decode cX10_waitsNoMore 41 = .ok (.sipush 163, 3) := by decide +kernel
theorem dX10_waitsNoMore_44 : decode cX10_waitsNoMore 44 = .ok (.iload_n 2, 1) := by decide +kernel
theorem dX10_waitsNoMore_45 : decode cX10_waitsNoMore 45 = .ok (.iadd, 1) := by decide +kernel
theorem dX10_waitsNoMore_46 : decode cX10_waitsNoMore 46 = .ok (.iconst 2, 1) := by decide +kernel
theorem dX10_waitsNoMore_47 : decode cX10_waitsNoMore 47 = .ok (.iadd, 1) := by decide +kernel
theorem dX10_waitsNoMore_48 : decode cX10_waitsNoMore 48 = .ok (.iaload, 1) := by decide +kernel
theorem dX10_waitsNoMore_49 : decode cX10_waitsNoMore 49 = .ok (.iastore, 1) := by decide +kernel
theorem dX10_waitsNoMore_50 : decode cX10_waitsNoMore 50 = .ok (.iinc 2 1, 3) := by decide +kernel
theorem dX10_waitsNoMore_53 : decode cX10_waitsNoMore 53 = .ok (.goto (-38), 3) := by decide +kernel
theorem dX10_waitsNoMore_56 : decode cX10_waitsNoMore 56 = .ok (.return_, 1) := by decide +kernel
theorem dX10_waitsFor_0 : decode cX10_waitsFor 0 = .ok (.aload_n 0, 1) := by decide +kernel
theorem dX10_waitsFor_1 : decode cX10_waitsFor 1 = .ok (.getfield 7, 3) := by decide +kernel
theorem dX10_waitsFor_4 : decode cX10_waitsFor 4 = .ok (.sipush 163, 3) := by decide +kernel
theorem dX10_waitsFor_7 : decode cX10_waitsFor 7 = .ok (.iconst 2, 1) := by decide +kernel
theorem dX10_waitsFor_8 : decode cX10_waitsFor 8 = .ok (.aload_n 0, 1) := by decide +kernel
theorem dX10_waitsFor_9 : decode cX10_waitsFor 9 = .ok (.getfield 7, 3) := by decide +kernel
theorem dX10_waitsFor_12 : decode cX10_waitsFor 12 = .ok (.bipush 6, 2) := by decide +kernel
theorem dX10_waitsFor_14 : decode cX10_waitsFor 14 = .ok (.iaload, 1) := by decide +kernel
theorem dX10_waitsFor_15 : decode cX10_waitsFor 15 = .ok (.imul, 1) := by decide +kernel
theorem dX10_waitsFor_16 : decode cX10_waitsFor 16 = .ok (.iadd, 1) := by decide +kernel
theorem dX10_waitsFor_17 : decode cX10_waitsFor 17 = .ok (.iload_n 1, 1) := by decide +kernel
theorem dX10_waitsFor_18 : decode cX10_waitsFor 18 = .ok (.iastore, 1) := by decide +kernel
theorem dX10_waitsFor_19 : decode cX10_waitsFor 19 = .ok (.aload_n 0, 1) := by decide +kernel
theorem dX10_waitsFor_20 : decode cX10_waitsFor 20 = .ok (.getfield 7, 3) := by decide +kernel
theorem dX10_waitsFor_23 : decode cX10_waitsFor 23 = .ok (.sipush 163, 3) := by decide +kernel
theorem dX10_waitsFor_26 : decode cX10_waitsFor 26 = .ok (.iconst 2, 1) := by decide +kernel
theorem dX10_waitsFor_27 : decode cX10_waitsFor 27 = .ok (.aload_n 0, 1) := by decide +kernel
theorem dX10_waitsFor_28 : decode cX10_waitsFor 28 = .ok (.getfield 7, 3) := by decide +kernel
theorem dX10_waitsFor_31 : decode cX10_waitsFor 31 = .ok (.bipush 6, 2) := by decide +kernel
theorem dX10_waitsFor_33 : decode cX10_waitsFor 33 = .ok (.iaload, 1) := by decide +kernel
theorem dX10_waitsFor_34 : decode cX10_waitsFor 34 = .ok (.imul, 1) := by decide +kernel
theorem dX10_waitsFor_35 : decode cX10_waitsFor 35 = .ok (.iadd, 1) := by decide +kernel
theorem dX10_waitsFor_36 : decode cX10_waitsFor 36 = .ok (.iconst 1, 1) := by decide +kernel
theorem dX10_waitsFor_37 : decode cX10_waitsFor 37 = .ok (.iadd, 1) := by decide +kernel
theorem dX10_waitsFor_38 : decode cX10_waitsFor 38 = .ok (.iload_n 2, 1) := by decide +kernel
theorem dX10_waitsFor_39 : decode cX10_waitsFor 39 = .ok (.iastore, 1) := by decide +kernel
theorem dX10_waitsFor_40 : decode cX10_waitsFor 40 = .ok (.aload_n 0, 1) := by decide +kernel
theorem dX10_waitsFor_41 : decode cX10_waitsFor 41 = .ok (.getfield 7, 3) := by decide +kernel
theorem dX10_waitsFor_44 : decode cX10_waitsFor 44 = .ok (.bipush 6, 2) := by decide +kernel
theorem dX10_waitsFor_46 : decode cX10_waitsFor 46 = .ok (.dup2, 1) := by decide +kernel
theorem dX10_waitsFor_47 : decode cX10_waitsFor 47 = .ok (.iaload, 1) := by decide +kernel
theorem dX10_waitsFor_48 : decode cX10_waitsFor 48 = .ok (.iconst 1, 1) := by decide +kernel
theorem dX10_waitsFor_49 : decode cX10_waitsFor 49 = .ok (.iadd, 1) := by decide +kernel
theorem dX10_waitsFor_50 : decode cX10_waitsFor 50 = .ok (.iastore, 1) := by decide +kernel
theorem dX10_waitsFor_51 : decode cX10_waitsFor 51 = .ok (.return_, 1) := by decide +kernel
theorem dX10_firstWaiting_0 : decode cX10_firstWaiting 0 = .ok (.iconst 0, 1) := by decide +kernel
theorem dX10_firstWaiting_1 : decode cX10_firstWaiting 1 = .ok (.istore_n 2, 1) := by decide +kernel
theorem dX10_firstWaiting_2 : decode cX10_firstWaiting 2 = .ok (.iload_n 2, 1) := by decide +kernel
theorem dX10_firstWaiting_3 : decode cX10_firstWaiting 3 = .ok (.aload_n 0, 1) := by decide +kernel
theorem dX10_firstWaiting_4 : decode cX10_firstWaiting 4 = .ok (.getfield 7, 3) := by decide +kernel
theorem dX10_firstWaiting_7 : decode cX10_firstWaiting 7 = .ok (.bipush 6, 2) := by decide +kernel
theorem dX10_firstWaiting_9 : decode cX10_firstWaiting 9 = .ok (.iaload, 1) := by decide +kernel
theorem dX10_firstWaiting_10 : decode cX10_firstWaiting 10 = .ok (.if_icmp .ge 36, 3) := by decide +kernel
theorem dX10_firstWaiting_13 : decode cX10_firstWaiting 13 = .ok (.aload_n 0, 1) := by decide +kernel
theorem dX10_firstWaiting_14 : decode cX10_firstWaiting 14 = .ok (.getfield 7, 3) := by decide +kernel
theorem dX10_firstWaiting_17 : decode cX10_firstWaiting 17 = .ok (.sipush 163, 3) := by decide +kernel
theorem dX10_firstWaiting_20 : decode cX10_firstWaiting 20 = .ok (.iconst 2, 1) := by decide +kernel
theorem dX10_firstWaiting_21 : decode cX10_firstWaiting 21 = .ok (.iload_n 2, 1) := by decide +kernel
theorem dX10_firstWaiting_22 : decode cX10_firstWaiting 22 = .ok (.imul, 1) := by decide +kernel
theorem dX10_firstWaiting_23 : decode cX10_firstWaiting 23 = .ok (.iadd, 1) := by decide +kernel
theorem dX10_firstWaiting_24 : decode cX10_firstWaiting 24 = .ok (.iconst 1, 1) := by decide +kernel
theorem dX10_firstWaiting_25 : decode cX10_firstWaiting 25 = .ok (.iadd, 1) := by decide +kernel
theorem dX10_firstWaiting_26 : decode cX10_firstWaiting 26 = .ok (.iaload, 1) := by decide +kernel
theorem dX10_firstWaiting_27 : decode cX10_firstWaiting 27 = .ok (.istore_n 3, 1) := by decide +kernel
theorem dX10_firstWaiting_28 : decode cX10_firstWaiting 28 = .ok (.iload_n 3, 1) := by decide +kernel
theorem dX10_firstWaiting_29 : decode cX10_firstWaiting 29 = .ok (.iload_n 1, 1) := by decide +kernel
theorem dX10_firstWaiting_30 : decode cX10_firstWaiting 30 = .ok (.if_icmp .eq 8, 3) := by decide +kernel
theorem dX10_firstWaiting_33 : decode cX10_firstWaiting 33 = .ok (.iload_n 3, 1) := by decide +kernel
theorem dX10_firstWaiting_34 : decode cX10_firstWaiting 34 = .ok (.iconst 3, 1) := by decide +kernel
theorem dX10_firstWaiting_35 : decode cX10_firstWaiting 35 = .ok (.if_icmp .ne 5, 3) := by decide +kernel
theorem dX10_firstWaiting_38 : decode cX10_firstWaiting 38 = .ok (.iload_n 2, 1) := by decide +kernel
theorem dX10_firstWaiting_39 : decode cX10_firstWaiting 39 = .ok (.ireturn, 1) := by decide +kernel
theorem dX10_firstWaiting_40 : decode cX10_firstWaiting 40 = .ok (.iinc 2 1, 3) := by decide +kernel
theorem dX10_firstWaiting_43 : decode cX10_firstWaiting 43 = .ok (.goto (-41), 3) := by decide +kernel
theorem dX10_firstWaiting_46 : decode cX10_firstWaiting 46 = .ok (.iconst (-1), 1) := by decide +kernel
theorem dX10_firstWaiting_47 : decode cX10_firstWaiting 47 = .ok (.ireturn, 1) := by decide +kernel
theorem dX10_has_0 : decode cX10_has 0 = .ok (.aload_n 0, 1) := by decide +kernel
theorem dX10_has_1 : decode cX10_has 1 = .ok (.iload_n 2, 1) := by decide +kernel
theorem dX10_has_2 : decode cX10_has 2 = .ok (.iconst 2, 1) := by decide +kernel
theorem dX10_has_3 : decode cX10_has 3 = .ok (.iload_n 1, 1) := by decide +kernel
theorem dX10_has_4 : decode cX10_has 4 = .ok (.invokevirtual 44, 3) := by decide +kernel
theorem dX10_has_7 : decode cX10_has 7 = .ok (.aload_n 0, 1) := by decide +kernel
theorem dX10_has_8 : decode cX10_has 8 = .ok (.iload_n 2, 1) := by decide +kernel
theorem dX10_has_9 : decode cX10_has 9 = .ok (.iconst 5, 1) := by decide +kernel
theorem dX10_has_10 : decode cX10_has 10 = .ok (.aload_n 0, 1) := by decide +kernel
theorem dX10_has_11 : decode cX10_has 11 = .ok (.iload_n 2, 1) := by decide +kernel
theorem dX10_has_12 : decode cX10_has 12 = .ok (.iconst 5, 1) := by decide +kernel
theorem dX10_has_13 : decode cX10_has 13 = .ok (.invokevirtual 36, 3) := by decide +kernel
theorem dX10_has_16 : decode cX10_has 16 = .ok (.iconst 1, 1) := by decide +kernel
theorem dX10_has_17 : decode cX10_has 17 = .ok (.iadd, 1) := by decide +kernel
theorem dX10_has_18 : decode cX10_has 18 = .ok (.invokevirtual 44, 3) := by decide +kernel
theorem dX10_has_21 : decode cX10_has 21 = .ok (.aload_n 0, 1) := by decide +kernel
theorem dX10_has_22 : decode cX10_has 22 = .ok (.iload_n 1, 1) := by decide +kernel
theorem dX10_has_23 : decode cX10_has 23 = .ok (.iconst 0, 1) := by decide +kernel
theorem dX10_has_24 : decode cX10_has 24 = .ok (.iload_n 2, 1) := by decide +kernel
theorem dX10_has_25 : decode cX10_has 25 = .ok (.invokevirtual 48, 3) := by decide +kernel
theorem dX10_has_28 : decode cX10_has 28 = .ok (.return_, 1) := by decide +kernel
theorem dX10_beginsLoan_0 : decode cX10_beginsLoan 0 = .ok (.aload_n 0, 1) := by decide +kernel
theorem dX10_beginsLoan_1 : decode cX10_beginsLoan 1 = .ok (.iload_n 1, 1) := by decide +kernel
theorem dX10_beginsLoan_2 : decode cX10_beginsLoan 2 = .ok (.iload_n 2, 1) := by decide +kernel
theorem dX10_beginsLoan_3 : decode cX10_beginsLoan 3 = .ok (.invokevirtual 51, 3) := by decide +kernel
theorem dX10_beginsLoan_6 : decode cX10_beginsLoan 6 = .ok (.aload_n 0, 1) := by decide +kernel
theorem dX10_beginsLoan_7 : decode cX10_beginsLoan 7 = .ok (.iload_n 1, 1) := by decide +kernel
theorem dX10_beginsLoan_8 : decode cX10_beginsLoan 8 = .ok (.iconst 1, 1) := by decide +kernel
theorem dX10_beginsLoan_9 : decode cX10_beginsLoan 9 = .ok (.aload_n 0, 1) := by decide +kernel
theorem dX10_beginsLoan_10 : decode cX10_beginsLoan 10 = .ok (.getfield 7, 3) := by decide +kernel
theorem dX10_beginsLoan_13 : decode cX10_beginsLoan 13 = .ok (.iconst 3, 1) := by decide +kernel
theorem dX10_beginsLoan_14 : decode cX10_beginsLoan 14 = .ok (.iaload, 1) := by decide +kernel
theorem dX10_beginsLoan_15 : decode cX10_beginsLoan 15 = .ok (.aload_n 0, 1) := by decide +kernel
theorem dX10_beginsLoan_16 : decode cX10_beginsLoan 16 = .ok (.getfield 7, 3) := by decide +kernel
theorem dX10_beginsLoan_19 : decode cX10_beginsLoan 19 = .ok (.iconst 0, 1) := by decide +kernel
theorem dX10_beginsLoan_20 : decode cX10_beginsLoan 20 = .ok (.iaload, 1) := by decide +kernel
theorem dX10_beginsLoan_21 : decode cX10_beginsLoan 21 = .ok (.iadd, 1) := by decide +kernel
theorem dX10_beginsLoan_22 : decode cX10_beginsLoan 22 = .ok (.invokevirtual 48, 3) := by decide +kernel
theorem dX10_beginsLoan_25 : decode cX10_beginsLoan 25 = .ok (.aload_n 0, 1) := by decide +kernel
theorem dX10_beginsLoan_26 : decode cX10_beginsLoan 26 = .ok (.iload_n 1, 1) := by decide +kernel
theorem dX10_beginsLoan_27 : decode cX10_beginsLoan 27 = .ok (.iconst 2, 1) := by decide +kernel
theorem dX10_beginsLoan_28 : decode cX10_beginsLoan 28 = .ok (.iconst 0, 1) := by decide +kernel
theorem dX10_beginsLoan_29 : decode cX10_beginsLoan 29 = .ok (.invokevirtual 48, 3) := by decide +kernel
theorem dX10_beginsLoan_32 : decode cX10_beginsLoan 32 = .ok (.return_, 1) := by decide +kernel
theorem dX10_frees_0 : decode cX10_frees 0 = .ok (.aload_n 0, 1) := by decide +kernel
theorem dX10_frees_1 : decode cX10_frees 1 = .ok (.iload_n 1, 1) := by decide +kernel
theorem dX10_frees_2 : decode cX10_frees 2 = .ok (.invokevirtual 40, 3) := by decide +kernel
theorem dX10_frees_5 : decode cX10_frees 5 = .ok (.ifCond .eq 16, 3) := by decide +kernel
theorem dX10_frees_8 : decode cX10_frees 8 = .ok (.aload_n 0, 1) := by decide +kernel
theorem dX10_frees_9 : decode cX10_frees 9 = .ok (.aload_n 0, 1) := by decide +kernel
theorem dX10_frees_10 : decode cX10_frees 10 = .ok (.iload_n 1, 1) := by decide +kernel
theorem dX10_frees_11 : decode cX10_frees 11 = .ok (.iconst 0, 1) := by decide +kernel
theorem dX10_frees_12 : decode cX10_frees 12 = .ok (.invokevirtual 36, 3) := by decide +kernel
theorem dX10_frees_15 : decode cX10_frees 15 = .ok (.invokevirtual 55, 3) := by decide +kernel
theorem dX10_frees_18 : decode cX10_frees 18 = .ok (.goto 4, 3) := by decide +kernel
theorem dX10_frees_21 : decode cX10_frees 21 = .ok (.iconst (-1), 1) := by decide +kernel
theorem dX10_frees_22 : decode cX10_frees 22 = .ok (.istore_n 2, 1) := by decide +kernel
theorem dX10_frees_23 : decode cX10_frees 23 = .ok (.iload_n 2, 1) := by decide +kernel
theorem dX10_frees_24 : decode cX10_frees 24 = .ok (.ifCond .lt 27, 3) := by decide +kernel
theorem dX10_frees_27 : decode cX10_frees 27 = .ok (.aload_n 0, 1) := by decide +kernel
theorem dX10_frees_28 : decode cX10_frees 28 = .ok (.getfield 7, 3) := by decide +kernel
theorem dX10_frees_31 : decode cX10_frees 31 = .ok (.sipush 163, 3) := by decide +kernel
theorem dX10_frees_34 : decode cX10_frees 34 = .ok (.iconst 2, 1) := by decide +kernel
theorem dX10_frees_35 : decode cX10_frees 35 = .ok (.iload_n 2, 1) := by decide +kernel
theorem dX10_frees_36 : decode cX10_frees 36 = .ok (.imul, 1) := by decide +kernel
theorem dX10_frees_37 : decode cX10_frees 37 = .ok (.iadd, 1) := by decide +kernel
theorem dX10_frees_38 : decode cX10_frees 38 = .ok (.iaload, 1) := by decide +kernel
theorem dX10_frees_39 : decode cX10_frees 39 = .ok (.istore_n 3, 1) := by decide +kernel
theorem dX10_frees_40 : decode cX10_frees 40 = .ok (.aload_n 0, 1) := by decide +kernel
theorem dX10_frees_41 : decode cX10_frees 41 = .ok (.iload_n 2, 1) := by decide +kernel
theorem dX10_frees_42 : decode cX10_frees 42 = .ok (.invokevirtual 59, 3) := by decide +kernel
theorem dX10_frees_45 : decode cX10_frees 45 = .ok (.aload_n 0, 1) := by decide +kernel
theorem dX10_frees_46 : decode cX10_frees 46 = .ok (.iload_n 3, 1) := by decide +kernel
theorem dX10_frees_47 : decode cX10_frees 47 = .ok (.iload_n 1, 1) := by decide +kernel
theorem dX10_frees_48 : decode cX10_frees 48 = .ok (.invokevirtual 63, 3) := by decide +kernel
theorem dX10_frees_51 : decode cX10_frees 51 = .ok (.return_, 1) := by decide +kernel
theorem dX10_endsWish_0 : decode cX10_endsWish 0 = .ok (.aload_n 0, 1) := by decide +kernel
theorem dX10_endsWish_1 : decode cX10_endsWish 1 = .ok (.iload_n 1, 1) := by decide +kernel
theorem dX10_endsWish_2 : decode cX10_endsWish 2 = .ok (.iconst 5, 1) := by decide +kernel
theorem dX10_endsWish_3 : decode cX10_endsWish 3 = .ok (.invokevirtual 66, 3) := by decide +kernel
theorem dX10_endsWish_6 : decode cX10_endsWish 6 = .ok (.ifCond .ge 4, 3) := by decide +kernel
theorem dX10_endsWish_9 : decode cX10_endsWish 9 = .ok (.return_, 1) := by decide +kernel
theorem dX10_endsWish_10 : decode cX10_endsWish 10 = .ok (.aload_n 0, 1) := by decide +kernel
theorem dX10_endsWish_11 : decode cX10_endsWish 11 = .ok (.iload_n 1, 1) := by decide +kernel
theorem dX10_endsWish_12 : decode cX10_endsWish 12 = .ok (.iconst 5, 1) := by decide +kernel
theorem dX10_endsWish_13 : decode cX10_endsWish 13 = .ok (.iconst (-1), 1) := by decide +kernel
theorem dX10_endsWish_14 : decode cX10_endsWish 14 = .ok (.invokevirtual 48, 3) := by decide +kernel
theorem dX10_endsWish_17 : decode cX10_endsWish 17 = .ok (.iconst 0, 1) := by decide +kernel
theorem dX10_endsWish_18 : decode cX10_endsWish 18 = .ok (.istore_n 2, 1) := by decide +kernel
theorem dX10_endsWish_19 : decode cX10_endsWish 19 = .ok (.aload_n 0, 1) := by decide +kernel
theorem dX10_endsWish_20 : decode cX10_endsWish 20 = .ok (.getfield 7, 3) := by decide +kernel
theorem dX10_endsWish_23 : decode cX10_endsWish 23 = .ok (.sipush 183, 3) := by decide +kernel
theorem dX10_endsWish_26 : decode cX10_endsWish 26 = .ok (.iload_n 2, 1) := by decide +kernel
theorem dX10_endsWish_27 : decode cX10_endsWish 27 = .ok (.iadd, 1) := by decide +kernel
theorem dX10_endsWish_28 : decode cX10_endsWish 28 = .ok (.iaload, 1) := by decide +kernel
theorem dX10_endsWish_29 : decode cX10_endsWish 29 = .ok (.iload_n 1, 1) := by decide +kernel
theorem dX10_endsWish_30 : decode cX10_endsWish 30 = .ok (.if_icmp .eq 9, 3) := by decide +kernel
theorem dX10_endsWish_33 : decode cX10_endsWish 33 = .ok (.iinc 2 1, 3) := by decide +kernel
theorem dX10_endsWish_36 : decode cX10_endsWish 36 = .ok (.goto (-17), 3) := by decide +kernel
theorem dX10_endsWish_39 : decode cX10_endsWish 39 = .ok (.aload_n 0, 1) := by decide +kernel
theorem dX10_endsWish_40 : decode cX10_endsWish 40 = .ok (.getfield 7, 3) := by decide +kernel
theorem dX10_endsWish_43 : decode cX10_endsWish 43 = .ok (.bipush 7, 2) := by decide +kernel
theorem dX10_endsWish_45 : decode cX10_endsWish 45 = .ok (.dup2, 1) := by decide +kernel
theorem dX10_endsWish_46 : decode cX10_endsWish 46 = .ok (.iaload, 1) := by decide +kernel
theorem dX10_endsWish_47 : decode cX10_endsWish 47 = .ok (.iconst 1, 1) := by decide +kernel
theorem dX10_endsWish_48 : decode cX10_endsWish 48 = .ok (.isub, 1) := by decide +kernel
theorem dX10_endsWish_49 : decode cX10_endsWish 49 = .ok (.iastore, 1) := by decide +kernel
theorem dX10_endsWish_50 : decode cX10_endsWish 50 = .ok (.iload_n 2, 1) := by decide +kernel
theorem dX10_endsWish_51 : decode cX10_endsWish 51 = .ok (.aload_n 0, 1) := by decide +kernel
theorem dX10_endsWish_52 : decode cX10_endsWish 52 = .ok (.getfield 7, 3) := by decide +kernel
theorem dX10_endsWish_55 : decode cX10_endsWish 55 = .ok (.bipush 7, 2) := by decide +kernel
theorem dX10_endsWish_57 : decode cX10_endsWish 57 = .ok (.iaload, 1) := by decide +kernel
theorem dX10_endsWish_58 : decode cX10_endsWish 58 = .ok (.if_icmp .ge 31, 3) := by decide +kernel
theorem dX10_endsWish_61 : decode cX10_endsWish 61 = .ok (.aload_n 0, 1) := by decide +kernel
theorem dX10_endsWish_62 : decode cX10_endsWish 62 = .ok (.getfield 7, 3) := by decide +kernel
theorem dX10_endsWish_65 : decode cX10_endsWish 65 = .ok (.sipush 183, 3) := by decide +kernel
theorem dX10_endsWish_68 : decode cX10_endsWish 68 = .ok (.iload_n 2, 1) := by decide +kernel
theorem dX10_endsWish_69 : decode cX10_endsWish 69 = .ok (.iadd, 1) := by decide +kernel
theorem dX10_endsWish_70 : decode cX10_endsWish 70 = .ok (.aload_n 0, 1) := by decide +kernel
theorem dX10_endsWish_71 : decode cX10_endsWish 71 = .ok (.getfield 7, 3) := by decide +kernel
theorem dX10_endsWish_74 : decode cX10_endsWish 74 = .ok (.sipush 183, 3) := by decide +kernel
theorem dX10_endsWish_77 : decode cX10_endsWish 77 = .ok (.iload_n 2, 1) := by decide +kernel
theorem dX10_endsWish_78 : decode cX10_endsWish 78 = .ok (.iadd, 1) := by decide +kernel
theorem dX10_endsWish_79 : decode cX10_endsWish 79 = .ok (.iconst 1, 1) := by decide +kernel
theorem dX10_endsWish_80 : decode cX10_endsWish 80 = .ok (.iadd, 1) := by decide +kernel
theorem dX10_endsWish_81 : decode cX10_endsWish 81 = .ok (.iaload, 1) := by decide +kernel
theorem dX10_endsWish_82 : decode cX10_endsWish 82 = .ok (.iastore, 1) := by decide +kernel
theorem dX10_endsWish_83 : decode cX10_endsWish 83 = .ok (.iinc 2 1, 3) := by decide +kernel
theorem dX10_endsWish_86 : decode cX10_endsWish 86 = .ok (.goto (-36), 3) := by decide +kernel
theorem dX10_endsWish_89 : decode cX10_endsWish 89 = .ok (.return_, 1) := by decide +kernel
theorem dX10_endsLoan_0 : decode cX10_endsLoan 0 = .ok (.aload_n 0, 1) := by decide +kernel
theorem dX10_endsLoan_1 : decode cX10_endsLoan 1 = .ok (.iload_n 1, 1) := by decide +kernel
theorem dX10_endsLoan_2 : decode cX10_endsLoan 2 = .ok (.iconst 0, 1) := by decide +kernel
theorem dX10_endsLoan_3 : decode cX10_endsLoan 3 = .ok (.invokevirtual 66, 3) := by decide +kernel
theorem dX10_endsLoan_6 : decode cX10_endsLoan 6 = .ok (.istore_n 2, 1) := by decide +kernel
theorem dX10_endsLoan_7 : decode cX10_endsLoan 7 = .ok (.aload_n 0, 1) := by decide +kernel
theorem dX10_endsLoan_8 : decode cX10_endsLoan 8 = .ok (.iload_n 2, 1) := by decide +kernel
theorem dX10_endsLoan_9 : decode cX10_endsLoan 9 = .ok (.iconst 2, 1) := by decide +kernel
theorem dX10_endsLoan_10 : decode cX10_endsLoan 10 = .ok (.iconst (-1), 1) := by decide +kernel
theorem dX10_endsLoan_11 : decode cX10_endsLoan 11 = .ok (.invokevirtual 44, 3) := by decide +kernel
theorem dX10_endsLoan_14 : decode cX10_endsLoan 14 = .ok (.aload_n 0, 1) := by decide +kernel
theorem dX10_endsLoan_15 : decode cX10_endsLoan 15 = .ok (.iload_n 1, 1) := by decide +kernel
theorem dX10_endsLoan_16 : decode cX10_endsLoan 16 = .ok (.iconst 0, 1) := by decide +kernel
theorem dX10_endsLoan_17 : decode cX10_endsLoan 17 = .ok (.iconst (-1), 1) := by decide +kernel
theorem dX10_endsLoan_18 : decode cX10_endsLoan 18 = .ok (.invokevirtual 48, 3) := by decide +kernel
theorem dX10_endsLoan_21 : decode cX10_endsLoan 21 = .ok (.aload_n 0, 1) := by decide +kernel
theorem dX10_endsLoan_22 : decode cX10_endsLoan 22 = .ok (.iload_n 1, 1) := by decide +kernel
theorem dX10_endsLoan_23 : decode cX10_endsLoan 23 = .ok (.invokevirtual 69, 3) := by decide +kernel
theorem dX10_endsLoan_26 : decode cX10_endsLoan 26 = .ok (.iload_n 2, 1) := by decide +kernel
theorem dX10_endsLoan_27 : decode cX10_endsLoan 27 = .ok (.ireturn, 1) := by decide +kernel
theorem dX10_owes_0 : decode cX10_owes 0 = .ok (.aload_n 0, 1) := by decide +kernel
theorem dX10_owes_1 : decode cX10_owes 1 = .ok (.iload_n 1, 1) := by decide +kernel
theorem dX10_owes_2 : decode cX10_owes 2 = .ok (.iconst 3, 1) := by decide +kernel
theorem dX10_owes_3 : decode cX10_owes 3 = .ok (.aload_n 0, 1) := by decide +kernel
theorem dX10_owes_4 : decode cX10_owes 4 = .ok (.iload_n 1, 1) := by decide +kernel
theorem dX10_owes_5 : decode cX10_owes 5 = .ok (.iconst 3, 1) := by decide +kernel
theorem dX10_owes_6 : decode cX10_owes 6 = .ok (.invokevirtual 66, 3) := by decide +kernel
theorem dX10_owes_9 : decode cX10_owes 9 = .ok (.iload_n 2, 1) := by decide +kernel
theorem dX10_owes_10 : decode cX10_owes 10 = .ok (.iadd, 1) := by decide +kernel
theorem dX10_owes_11 : decode cX10_owes 11 = .ok (.invokevirtual 48, 3) := by decide +kernel
theorem dX10_owes_14 : decode cX10_owes 14 = .ok (.aload_n 0, 1) := by decide +kernel
theorem dX10_owes_15 : decode cX10_owes 15 = .ok (.getfield 7, 3) := by decide +kernel
theorem dX10_owes_18 : decode cX10_owes 18 = .ok (.bipush 9, 2) := by decide +kernel
theorem dX10_owes_20 : decode cX10_owes 20 = .ok (.dup2, 1) := by decide +kernel
theorem dX10_owes_21 : decode cX10_owes 21 = .ok (.iaload, 1) := by decide +kernel
theorem dX10_owes_22 : decode cX10_owes 22 = .ok (.iload_n 2, 1) := by decide +kernel
theorem dX10_owes_23 : decode cX10_owes 23 = .ok (.iadd, 1) := by decide +kernel
theorem dX10_owes_24 : decode cX10_owes 24 = .ok (.iastore, 1) := by decide +kernel
theorem dX10_owes_25 : decode cX10_owes 25 = .ok (.return_, 1) := by decide +kernel
theorem dX10_overdue_0 : decode cX10_overdue 0 = .ok (.aload_n 0, 1) := by decide +kernel
theorem dX10_overdue_1 : decode cX10_overdue 1 = .ok (.getfield 7, 3) := by decide +kernel
theorem dX10_overdue_4 : decode cX10_overdue 4 = .ok (.iconst 3, 1) := by decide +kernel
theorem dX10_overdue_5 : decode cX10_overdue 5 = .ok (.iaload, 1) := by decide +kernel
theorem dX10_overdue_6 : decode cX10_overdue 6 = .ok (.aload_n 0, 1) := by decide +kernel
theorem dX10_overdue_7 : decode cX10_overdue 7 = .ok (.iload_n 1, 1) := by decide +kernel
theorem dX10_overdue_8 : decode cX10_overdue 8 = .ok (.iconst 1, 1) := by decide +kernel
theorem dX10_overdue_9 : decode cX10_overdue 9 = .ok (.invokevirtual 66, 3) := by decide +kernel
theorem dX10_overdue_12 : decode cX10_overdue 12 = .ok (.isub, 1) := by decide +kernel
theorem dX10_overdue_13 : decode cX10_overdue 13 = .ok (.istore_n 2, 1) := by decide +kernel
theorem dX10_overdue_14 : decode cX10_overdue 14 = .ok (.iload_n 2, 1) := by decide +kernel
theorem dX10_overdue_15 : decode cX10_overdue 15 = .ok (.ifCond .le 7, 3) := by decide +kernel
theorem dX10_overdue_18 : decode cX10_overdue 18 = .ok (.iload_n 2, 1) := by decide +kernel
theorem dX10_overdue_19 : decode cX10_overdue 19 = .ok (.goto 4, 3) := by decide +kernel
theorem dX10_overdue_22 : decode cX10_overdue 22 = .ok (.iconst 0, 1) := by decide +kernel
theorem dX10_overdue_23 : decode cX10_overdue 23 = .ok (.ireturn, 1) := by decide +kernel
theorem dX10_makesLocker_0 : decode cX10_makesLocker 0 = .ok (.iload_n 1, 1) := by decide +kernel
theorem dX10_makesLocker_1 : decode cX10_makesLocker 1 = .ok (.iconst 0, 1) := by decide +kernel
theorem dX10_makesLocker_2 : decode cX10_makesLocker 2 = .ok (.iconst 2, 1) := by decide +kernel
theorem dX10_makesLocker_3 : decode cX10_makesLocker 3 = .ok (.invokestatic 28, 3) := by decide +kernel
theorem dX10_makesLocker_6 : decode cX10_makesLocker 6 = .ok (.ifCond .ne 5, 3) := by decide +kernel
theorem dX10_makesLocker_9 : decode cX10_makesLocker 9 = .ok (.iconst (-1), 1) := by decide +kernel
theorem dX10_makesLocker_10 : decode cX10_makesLocker 10 = .ok (.ireturn, 1) := by decide +kernel
theorem dX10_makesLocker_11 : decode cX10_makesLocker 11 = .ok (.aload_n 0, 1) := by decide +kernel
theorem dX10_makesLocker_12 : decode cX10_makesLocker 12 = .ok (.getfield 7, 3) := by decide +kernel
theorem dX10_makesLocker_15 : decode cX10_makesLocker 15 = .ok (.iconst 4, 1) := by decide +kernel
theorem dX10_makesLocker_16 : decode cX10_makesLocker 16 = .ok (.iaload, 1) := by decide +kernel
theorem dX10_makesLocker_17 : decode cX10_makesLocker 17 = .ok (.bipush 12, 2) := by decide +kernel
theorem dX10_makesLocker_19 : decode cX10_makesLocker 19 = .ok (.if_icmp .ne 6, 3) := by decide +kernel
theorem dX10_makesLocker_22 : decode cX10_makesLocker 22 = .ok (.bipush (-3), 2) := by decide +kernel
theorem dX10_makesLocker_24 : decode cX10_makesLocker 24 = .ok (.ireturn, 1) := by decide +kernel
theorem dX10_makesLocker_25 : decode cX10_makesLocker 25 = .ok (.aload_n 0, 1) := by decide +kernel
theorem dX10_makesLocker_26 : decode cX10_makesLocker 26 = .ok (.getfield 7, 3) := by decide +kernel
theorem dX10_makesLocker_29 : decode cX10_makesLocker 29 = .ok (.iconst 4, 1) := by decide +kernel
theorem dX10_makesLocker_30 : decode cX10_makesLocker 30 = .ok (.iaload, 1) := by decide +kernel
theorem dX10_makesLocker_31 : decode cX10_makesLocker 31 = .ok (.istore_n 2, 1) := by decide +kernel
theorem dX10_makesLocker_32 : decode cX10_makesLocker 32 = .ok (.aload_n 0, 1) := by decide +kernel
theorem dX10_makesLocker_33 : decode cX10_makesLocker 33 = .ok (.iload_n 2, 1) := by decide +kernel
theorem dX10_makesLocker_34 : decode cX10_makesLocker 34 = .ok (.iconst 0, 1) := by decide +kernel
theorem dX10_makesLocker_35 : decode cX10_makesLocker 35 = .ok (.iload_n 1, 1) := by decide +kernel
theorem dX10_makesLocker_36 : decode cX10_makesLocker 36 = .ok (.invokevirtual 44, 3) := by decide +kernel
theorem dX10_makesLocker_39 : decode cX10_makesLocker 39 = .ok (.aload_n 0, 1) := by decide +kernel
theorem dX10_makesLocker_40 : decode cX10_makesLocker 40 = .ok (.iload_n 2, 1) := by decide +kernel
theorem dX10_makesLocker_41 : decode cX10_makesLocker 41 = .ok (.iconst 1, 1) := by decide +kernel
theorem dX10_makesLocker_42 : decode cX10_makesLocker 42 = .ok (.iconst (-1), 1) := by decide +kernel
theorem dX10_makesLocker_43 : decode cX10_makesLocker 43 = .ok (.invokevirtual 44, 3) := by decide +kernel
theorem dX10_makesLocker_46 : decode cX10_makesLocker 46 = .ok (.aload_n 0, 1) := by decide +kernel
theorem dX10_makesLocker_47 : decode cX10_makesLocker 47 = .ok (.iload_n 2, 1) := by decide +kernel
theorem dX10_makesLocker_48 : decode cX10_makesLocker 48 = .ok (.iconst 2, 1) := by decide +kernel
theorem dX10_makesLocker_49 : decode cX10_makesLocker 49 = .ok (.iconst (-1), 1) := by decide +kernel
theorem dX10_makesLocker_50 : decode cX10_makesLocker 50 = .ok (.invokevirtual 44, 3) := by decide +kernel
theorem dX10_makesLocker_53 : decode cX10_makesLocker 53 = .ok (.aload_n 0, 1) := by decide +kernel
theorem dX10_makesLocker_54 : decode cX10_makesLocker 54 = .ok (.iload_n 2, 1) := by decide +kernel
theorem dX10_makesLocker_55 : decode cX10_makesLocker 55 = .ok (.iconst 3, 1) := by decide +kernel
theorem dX10_makesLocker_56 : decode cX10_makesLocker 56 = .ok (.iconst 1, 1) := by decide +kernel
theorem dX10_makesLocker_57 : decode cX10_makesLocker 57 = .ok (.invokevirtual 44, 3) := by decide +kernel
theorem dX10_makesLocker_60 : decode cX10_makesLocker 60 = .ok (.aload_n 0, 1) := by decide +kernel
theorem dX10_makesLocker_61 : decode cX10_makesLocker 61 = .ok (.iload_n 2, 1) := by decide +kernel
theorem dX10_makesLocker_62 : decode cX10_makesLocker 62 = .ok (.iconst 4, 1) := by decide +kernel
theorem dX10_makesLocker_63 : decode cX10_makesLocker 63 = .ok (.iconst (-1), 1) := by decide +kernel
theorem dX10_makesLocker_64 : decode cX10_makesLocker 64 = .ok (.invokevirtual 44, 3) := by decide +kernel
theorem dX10_makesLocker_67 : decode cX10_makesLocker 67 = .ok (.aload_n 0, 1) := by decide +kernel
theorem dX10_makesLocker_68 : decode cX10_makesLocker 68 = .ok (.iload_n 2, 1) := by decide +kernel
theorem dX10_makesLocker_69 : decode cX10_makesLocker 69 = .ok (.iconst 5, 1) := by decide +kernel
theorem dX10_makesLocker_70 : decode cX10_makesLocker 70 = .ok (.iconst 0, 1) := by decide +kernel
theorem dX10_makesLocker_71 : decode cX10_makesLocker 71 = .ok (.invokevirtual 44, 3) := by decide +kernel
theorem dX10_makesLocker_74 : decode cX10_makesLocker 74 = .ok (.aload_n 0, 1) := by decide +kernel
theorem dX10_makesLocker_75 : decode cX10_makesLocker 75 = .ok (.getfield 7, 3) := by decide +kernel
theorem dX10_makesLocker_78 : decode cX10_makesLocker 78 = .ok (.iconst 4, 1) := by decide +kernel
theorem dX10_makesLocker_79 : decode cX10_makesLocker 79 = .ok (.dup2, 1) := by decide +kernel
theorem dX10_makesLocker_80 : decode cX10_makesLocker 80 = .ok (.iaload, 1) := by decide +kernel
theorem dX10_makesLocker_81 : decode cX10_makesLocker 81 = .ok (.iconst 1, 1) := by decide +kernel
theorem dX10_makesLocker_82 : decode cX10_makesLocker 82 = .ok (.iadd, 1) := by decide +kernel
theorem dX10_makesLocker_83 : decode cX10_makesLocker 83 = .ok (.iastore, 1) := by decide +kernel
theorem dX10_makesLocker_84 : decode cX10_makesLocker 84 = .ok (.iload_n 2, 1) := by decide +kernel
theorem dX10_makesLocker_85 : decode cX10_makesLocker 85 = .ok (.ireturn, 1) := by decide +kernel
theorem dX10_makesPerson_0 : decode cX10_makesPerson 0 = .ok (.aload_n 0, 1) := by decide +kernel
theorem dX10_makesPerson_1 : decode cX10_makesPerson 1 = .ok (.getfield 7, 3) := by decide +kernel
theorem dX10_makesPerson_4 : decode cX10_makesPerson 4 = .ok (.iconst 5, 1) := by decide +kernel
theorem dX10_makesPerson_5 : decode cX10_makesPerson 5 = .ok (.iaload, 1) := by decide +kernel
theorem dX10_makesPerson_6 : decode cX10_makesPerson 6 = .ok (.bipush 10, 2) := by decide +kernel
theorem dX10_makesPerson_8 : decode cX10_makesPerson 8 = .ok (.if_icmp .ne 6, 3) := by decide +kernel
theorem dX10_makesPerson_11 : decode cX10_makesPerson 11 = .ok (.bipush (-3), 2) := by decide +kernel
theorem dX10_makesPerson_13 : decode cX10_makesPerson 13 = .ok (.ireturn, 1) := by decide +kernel
theorem dX10_makesPerson_14 : decode cX10_makesPerson 14 = .ok (.aload_n 0, 1) := by decide +kernel
theorem dX10_makesPerson_15 : decode cX10_makesPerson 15 = .ok (.getfield 7, 3) := by decide +kernel
theorem dX10_makesPerson_18 : decode cX10_makesPerson 18 = .ok (.iconst 5, 1) := by decide +kernel
theorem dX10_makesPerson_19 : decode cX10_makesPerson 19 = .ok (.iaload, 1) := by decide +kernel
theorem dX10_makesPerson_20 : decode cX10_makesPerson 20 = .ok (.istore_n 1, 1) := by decide +kernel
theorem dX10_makesPerson_21 : decode cX10_makesPerson 21 = .ok (.iconst 0, 1) := by decide +kernel
theorem dX10_makesPerson_22 : decode cX10_makesPerson 22 = .ok (.istore_n 2, 1) := by decide +kernel
theorem dX10_makesPerson_23 : decode cX10_makesPerson 23 = .ok (.iload_n 2, 1) := by decide +kernel
theorem dX10_makesPerson_24 : decode cX10_makesPerson 24 = .ok (.bipush 8, 2) := by decide +kernel
theorem dX10_makesPerson_26 : decode cX10_makesPerson 26 = .ok (.if_icmp .ge 29, 3) := by decide +kernel
theorem dX10_makesPerson_29 : decode cX10_makesPerson 29 = .ok (.aload_n 0, 1) := by decide +kernel
theorem dX10_makesPerson_30 : decode cX10_makesPerson 30 = .ok (.iload_n 1, 1) := by decide +kernel
theorem dX10_makesPerson_31 : decode cX10_makesPerson 31 = .ok (.iload_n 2, 1) := by decide +kernel
theorem dX10_makesPerson_32 : decode cX10_makesPerson 32 = .ok (.iload_n 2, 1) := by decide +kernel
theorem dX10_makesPerson_33 : decode cX10_makesPerson 33 = .ok (.ifCond .eq 8, 3) := by decide +kernel
theorem dX10_makesPerson_36 : decode cX10_makesPerson 36 = .ok (.iload_n 2, 1) := by decide +kernel
theorem dX10_makesPerson_37 : decode cX10_makesPerson 37 = .ok (.iconst 5, 1) := by decide +kernel
theorem dX10_makesPerson_38 : decode cX10_makesPerson 38 = .ok (.if_icmp .ne 7, 3) := by decide +kernel
theorem dX10_makesPerson_41 : decode cX10_makesPerson 41 = .ok (.iconst (-1), 1) := by decide +kernel
theorem dX10_makesPerson_42 : decode cX10_makesPerson 42 = .ok (.goto 4, 3) := by decide +kernel
theorem dX10_makesPerson_45 : decode cX10_makesPerson 45 = .ok (.iconst 0, 1) := by decide +kernel
theorem dX10_makesPerson_46 : decode cX10_makesPerson 46 = .ok (.invokevirtual 48, 3) := by decide +kernel
theorem dX10_makesPerson_49 : decode cX10_makesPerson 49 = .ok (.iinc 2 1, 3) := by decide +kernel
theorem dX10_makesPerson_52 : decode cX10_makesPerson 52 = .ok (.goto (-29), 3) := by decide +kernel
theorem dX10_makesPerson_55 : decode cX10_makesPerson 55 = .ok (.aload_n 0, 1) := by decide +kernel
theorem dX10_makesPerson_56 : decode cX10_makesPerson 56 = .ok (.getfield 7, 3) := by decide +kernel
theorem dX10_makesPerson_59 : decode cX10_makesPerson 59 = .ok (.iconst 5, 1) := by decide +kernel
theorem dX10_makesPerson_60 : decode cX10_makesPerson 60 = .ok (.dup2, 1) := by decide +kernel
theorem dX10_makesPerson_61 : decode cX10_makesPerson 61 = .ok (.iaload, 1) := by decide +kernel
theorem dX10_makesPerson_62 : decode cX10_makesPerson 62 = .ok (.iconst 1, 1) := by decide +kernel
theorem dX10_makesPerson_63 : decode cX10_makesPerson 63 = .ok (.iadd, 1) := by decide +kernel
theorem dX10_makesPerson_64 : decode cX10_makesPerson 64 = .ok (.iastore, 1) := by decide +kernel
theorem dX10_makesPerson_65 : decode cX10_makesPerson 65 = .ok (.iload_n 1, 1) := by decide +kernel
theorem dX10_makesPerson_66 : decode cX10_makesPerson 66 = .ok (.ireturn, 1) := by decide +kernel
theorem dX10_inRow_0 : decode cX10_inRow 0 = .ok (.iconst 0, 1) := by decide +kernel
theorem dX10_inRow_1 : decode cX10_inRow 1 = .ok (.istore_n 2, 1) := by decide +kernel
theorem dX10_inRow_2 : decode cX10_inRow 2 = .ok (.iconst 0, 1) := by decide +kernel
theorem dX10_inRow_3 : decode cX10_inRow 3 = .ok (.istore_n 3, 1) := by decide +kernel
theorem dX10_inRow_4 : decode cX10_inRow 4 = .ok (.iload_n 3, 1) := by decide +kernel
theorem dX10_inRow_5 : decode cX10_inRow 5 = .ok (.aload_n 0, 1) := by decide +kernel
theorem dX10_inRow_6 : decode cX10_inRow 6 = .ok (.getfield 7, 3) := by decide +kernel
theorem dX10_inRow_9 : decode cX10_inRow 9 = .ok (.iconst 4, 1) := by decide +kernel
theorem dX10_inRow_10 : decode cX10_inRow 10 = .ok (.iaload, 1) := by decide +kernel
theorem dX10_inRow_11 : decode cX10_inRow 11 = .ok (.if_icmp .ge 27, 3) := by decide +kernel
theorem dX10_inRow_14 : decode cX10_inRow 14 = .ok (.iload_n 2, 1) := by decide +kernel
theorem dX10_inRow_15 : decode cX10_inRow 15 = .ok (.aload_n 0, 1) := by decide +kernel
theorem dX10_inRow_16 : decode cX10_inRow 16 = .ok (.iload_n 3, 1) := by decide +kernel
theorem dX10_inRow_17 : decode cX10_inRow 17 = .ok (.iconst 1, 1) := by decide +kernel
theorem dX10_inRow_18 : decode cX10_inRow 18 = .ok (.invokevirtual 36, 3) := by decide +kernel
theorem dX10_inRow_21 : decode cX10_inRow 21 = .ok (.iload_n 1, 1) := by decide +kernel
theorem dX10_inRow_22 : decode cX10_inRow 22 = .ok (.if_icmp .ne 7, 3) := by decide +kernel
theorem dX10_inRow_25 : decode cX10_inRow 25 = .ok (.iconst 1, 1) := by decide +kernel
theorem dX10_inRow_26 : decode cX10_inRow 26 = .ok (.goto 4, 3) := by decide +kernel
theorem dX10_inRow_29 : decode cX10_inRow 29 = .ok (.iconst 0, 1) := by decide +kernel
theorem dX10_inRow_30 : decode cX10_inRow 30 = .ok (.iadd, 1) := by decide +kernel
theorem dX10_inRow_31 : decode cX10_inRow 31 = .ok (.istore_n 2, 1) := by decide +kernel
theorem dX10_inRow_32 : decode cX10_inRow 32 = .ok (.iinc 3 1, 3) := by decide +kernel
theorem dX10_inRow_35 : decode cX10_inRow 35 = .ok (.goto (-31), 3) := by decide +kernel
theorem dX10_inRow_38 : decode cX10_inRow 38 = .ok (.iload_n 2, 1) := by decide +kernel
theorem dX10_inRow_39 : decode cX10_inRow 39 = .ok (.ireturn, 1) := by decide +kernel
theorem dX10_stands_0 : decode cX10_stands 0 = .ok (.aload_n 0, 1) := by decide +kernel
theorem dX10_stands_1 : decode cX10_stands 1 = .ok (.iload_n 1, 1) := by decide +kernel
theorem dX10_stands_2 : decode cX10_stands 2 = .ok (.invokevirtual 72, 3) := by decide +kernel
theorem dX10_stands_5 : decode cX10_stands 5 = .ok (.ifCond .eq 12, 3) := by decide +kernel
theorem dX10_stands_8 : decode cX10_stands 8 = .ok (.iload_n 2, 1) := by decide +kernel
theorem dX10_stands_9 : decode cX10_stands 9 = .ok (.iconst 0, 1) := by decide +kernel
theorem dX10_stands_10 : decode cX10_stands 10 = .ok (.iconst 2, 1) := by decide +kernel
theorem dX10_stands_11 : decode cX10_stands 11 = .ok (.invokestatic 28, 3) := by decide +kernel
theorem dX10_stands_14 : decode cX10_stands 14 = .ok (.ifCond .ne 5, 3) := by decide +kernel
theorem dX10_stands_17 : decode cX10_stands 17 = .ok (.iconst (-1), 1) := by decide +kernel
theorem dX10_stands_18 : decode cX10_stands 18 = .ok (.ireturn, 1) := by decide +kernel
theorem dX10_stands_19 : decode cX10_stands 19 = .ok (.aload_n 0, 1) := by decide +kernel
theorem dX10_stands_20 : decode cX10_stands 20 = .ok (.iload_n 1, 1) := by decide +kernel
theorem dX10_stands_21 : decode cX10_stands 21 = .ok (.iconst 1, 1) := by decide +kernel
theorem dX10_stands_22 : decode cX10_stands 22 = .ok (.invokevirtual 36, 3) := by decide +kernel
theorem dX10_stands_25 : decode cX10_stands 25 = .ok (.ifCond .ge 13, 3) := by decide +kernel
theorem dX10_stands_28 : decode cX10_stands 28 = .ok (.aload_n 0, 1) := by decide +kernel
theorem dX10_stands_29 : decode cX10_stands 29 = .ok (.iload_n 1, 1) := by decide +kernel
theorem dX10_stands_30 : decode cX10_stands 30 = .ok (.iconst 0, 1) := by decide +kernel
theorem dX10_stands_31 : decode cX10_stands 31 = .ok (.invokevirtual 36, 3) := by decide +kernel
theorem dX10_stands_34 : decode cX10_stands 34 = .ok (.iload_n 2, 1) := by decide +kernel
theorem dX10_stands_35 : decode cX10_stands 35 = .ok (.if_icmp .eq 6, 3) := by decide +kernel
theorem dX10_stands_38 : decode cX10_stands 38 = .ok (.bipush (-2), 2) := by decide +kernel
theorem dX10_stands_40 : decode cX10_stands 40 = .ok (.ireturn, 1) := by decide +kernel
theorem dX10_stands_41 : decode cX10_stands 41 = .ok (.aload_n 0, 1) := by decide +kernel
theorem dX10_stands_42 : decode cX10_stands 42 = .ok (.iload_n 2, 1) := by decide +kernel
theorem dX10_stands_43 : decode cX10_stands 43 = .ok (.invokevirtual 75, 3) := by decide +kernel
theorem dX10_stands_46 : decode cX10_stands 46 = .ok (.iconst 4, 1) := by decide +kernel
theorem dX10_stands_47 : decode cX10_stands 47 = .ok (.if_icmp .ne 6, 3) := by decide +kernel
theorem dX10_stands_50 : decode cX10_stands 50 = .ok (.bipush (-3), 2) := by decide +kernel
theorem dX10_stands_52 : decode cX10_stands 52 = .ok (.ireturn, 1) := by decide +kernel
theorem dX10_stands_53 : decode cX10_stands 53 = .ok (.aload_n 0, 1) := by decide +kernel
theorem dX10_stands_54 : decode cX10_stands 54 = .ok (.iload_n 1, 1) := by decide +kernel
theorem dX10_stands_55 : decode cX10_stands 55 = .ok (.iconst 1, 1) := by decide +kernel
theorem dX10_stands_56 : decode cX10_stands 56 = .ok (.iload_n 2, 1) := by decide +kernel
theorem dX10_stands_57 : decode cX10_stands 57 = .ok (.invokevirtual 44, 3) := by decide +kernel
theorem dX10_stands_60 : decode cX10_stands 60 = .ok (.aload_n 0, 1) := by decide +kernel
theorem dX10_stands_61 : decode cX10_stands 61 = .ok (.iload_n 1, 1) := by decide +kernel
theorem dX10_stands_62 : decode cX10_stands 62 = .ok (.invokevirtual 78, 3) := by decide +kernel
theorem dX10_stands_65 : decode cX10_stands 65 = .ok (.aload_n 0, 1) := by decide +kernel
theorem dX10_stands_66 : decode cX10_stands 66 = .ok (.iload_n 2, 1) := by decide +kernel
theorem dX10_stands_67 : decode cX10_stands 67 = .ok (.invokevirtual 75, 3) := by decide +kernel
theorem dX10_stands_70 : decode cX10_stands 70 = .ok (.ireturn, 1) := by decide +kernel
theorem dX10_lends_0 : decode cX10_lends 0 = .ok (.aload_n 0, 1) := by decide +kernel
theorem dX10_lends_1 : decode cX10_lends 1 = .ok (.iload_n 1, 1) := by decide +kernel
theorem dX10_lends_2 : decode cX10_lends 2 = .ok (.invokevirtual 81, 3) := by decide +kernel
theorem dX10_lends_5 : decode cX10_lends 5 = .ok (.ifCond .eq 12, 3) := by decide +kernel
theorem dX10_lends_8 : decode cX10_lends 8 = .ok (.iload_n 2, 1) := by decide +kernel
theorem dX10_lends_9 : decode cX10_lends 9 = .ok (.iconst 0, 1) := by decide +kernel
theorem dX10_lends_10 : decode cX10_lends 10 = .ok (.iconst 3, 1) := by decide +kernel
theorem dX10_lends_11 : decode cX10_lends 11 = .ok (.invokestatic 28, 3) := by decide +kernel
theorem dX10_lends_14 : decode cX10_lends 14 = .ok (.ifCond .ne 5, 3) := by decide +kernel
theorem dX10_lends_17 : decode cX10_lends 17 = .ok (.iconst (-1), 1) := by decide +kernel
theorem dX10_lends_18 : decode cX10_lends 18 = .ok (.ireturn, 1) := by decide +kernel
theorem dX10_lends_19 : decode cX10_lends 19 = .ok (.aload_n 0, 1) := by decide +kernel
theorem dX10_lends_20 : decode cX10_lends 20 = .ok (.iload_n 1, 1) := by decide +kernel
theorem dX10_lends_21 : decode cX10_lends 21 = .ok (.iconst 0, 1) := by decide +kernel
theorem dX10_lends_22 : decode cX10_lends 22 = .ok (.invokevirtual 66, 3) := by decide +kernel
theorem dX10_lends_25 : decode cX10_lends 25 = .ok (.ifCond .ge 22, 3) := by decide +kernel
theorem dX10_lends_28 : decode cX10_lends 28 = .ok (.aload_n 0, 1) := by decide +kernel
theorem dX10_lends_29 : decode cX10_lends 29 = .ok (.iload_n 1, 1) := by decide +kernel
theorem dX10_lends_30 : decode cX10_lends 30 = .ok (.invokevirtual 84, 3) := by decide +kernel
theorem dX10_lends_33 : decode cX10_lends 33 = .ok (.ifCond .ge 14, 3) := by decide +kernel
theorem dX10_lends_36 : decode cX10_lends 36 = .ok (.aload_n 0, 1) := by decide +kernel
theorem dX10_lends_37 : decode cX10_lends 37 = .ok (.iload_n 1, 1) := by decide +kernel
theorem dX10_lends_38 : decode cX10_lends 38 = .ok (.iconst 3, 1) := by decide +kernel
theorem dX10_lends_39 : decode cX10_lends 39 = .ok (.invokevirtual 66, 3) := by decide +kernel
theorem dX10_lends_42 : decode cX10_lends 42 = .ok (.bipush 30, 2) := by decide +kernel
theorem dX10_lends_44 : decode cX10_lends 44 = .ok (.if_icmp .le 6, 3) := by decide +kernel
theorem dX10_lends_47 : decode cX10_lends 47 = .ok (.bipush (-2), 2) := by decide +kernel
end
section
theorem dX10_lends_49 : decode cX10_lends 49 = .ok (.ireturn, 1) := by decide +kernel
theorem dX10_lends_50 : decode cX10_lends 50 = .ok (.aload_n 0, 1) := by decide +kernel
theorem dX10_lends_51 : decode cX10_lends 51 = .ok (.iload_n 2, 1) := by decide +kernel
theorem dX10_lends_52 : decode cX10_lends 52 = .ok (.invokevirtual 87, 3) := by decide +kernel
theorem dX10_lends_55 : decode cX10_lends 55 = .ok (.istore_n 3, 1) := by decide +kernel
theorem dX10_lends_56 : decode cX10_lends 56 = .ok (.iload_n 3, 1) := by decide +kernel
theorem dX10_lends_57 : decode cX10_lends 57 = .ok (.ifCond .lt 11, 3) := by decide +kernel
theorem dX10_lends_60 : decode cX10_lends 60 = .ok (.aload_n 0, 1) := by decide +kernel
theorem dX10_lends_61 : decode cX10_lends 61 = .ok (.iload_n 1, 1) := by decide +kernel
theorem dX10_lends_62 : decode cX10_lends 62 = .ok (.iload_n 3, 1) := by decide +kernel
theorem dX10_lends_63 : decode cX10_lends 63 = .ok (.invokevirtual 63, 3) := by decide +kernel
theorem dX10_lends_66 : decode cX10_lends 66 = .ok (.iload_n 3, 1) := by decide +kernel
theorem dX10_lends_67 : decode cX10_lends 67 = .ok (.ireturn, 1) := by decide +kernel
theorem dX10_lends_68 : decode cX10_lends 68 = .ok (.aload_n 0, 1) := by decide +kernel
theorem dX10_lends_69 : decode cX10_lends 69 = .ok (.iload_n 1, 1) := by decide +kernel
theorem dX10_lends_70 : decode cX10_lends 70 = .ok (.iload_n 2, 1) := by decide +kernel
theorem dX10_lends_71 : decode cX10_lends 71 = .ok (.invokevirtual 90, 3) := by decide +kernel
theorem dX10_lends_74 : decode cX10_lends 74 = .ok (.bipush 100, 2) := by decide +kernel
theorem dX10_lends_76 : decode cX10_lends 76 = .ok (.aload_n 0, 1) := by decide +kernel
theorem dX10_lends_77 : decode cX10_lends 77 = .ok (.getfield 7, 3) := by decide +kernel
theorem dX10_lends_80 : decode cX10_lends 80 = .ok (.bipush 6, 2) := by decide +kernel
theorem dX10_lends_82 : decode cX10_lends 82 = .ok (.iaload, 1) := by decide +kernel
theorem dX10_lends_83 : decode cX10_lends 83 = .ok (.iadd, 1) := by decide +kernel
theorem dX10_lends_84 : decode cX10_lends 84 = .ok (.ireturn, 1) := by decide +kernel
theorem dX10_givesBack_0 : decode cX10_givesBack 0 = .ok (.aload_n 0, 1) := by decide +kernel
theorem dX10_givesBack_1 : decode cX10_givesBack 1 = .ok (.iload_n 1, 1) := by decide +kernel
theorem dX10_givesBack_2 : decode cX10_givesBack 2 = .ok (.invokevirtual 81, 3) := by decide +kernel
theorem dX10_givesBack_5 : decode cX10_givesBack 5 = .ok (.ifCond .ne 5, 3) := by decide +kernel
theorem dX10_givesBack_8 : decode cX10_givesBack 8 = .ok (.iconst (-1), 1) := by decide +kernel
theorem dX10_givesBack_9 : decode cX10_givesBack 9 = .ok (.ireturn, 1) := by decide +kernel
theorem dX10_givesBack_10 : decode cX10_givesBack 10 = .ok (.aload_n 0, 1) := by decide +kernel
theorem dX10_givesBack_11 : decode cX10_givesBack 11 = .ok (.iload_n 1, 1) := by decide +kernel
theorem dX10_givesBack_12 : decode cX10_givesBack 12 = .ok (.invokevirtual 84, 3) := by decide +kernel
theorem dX10_givesBack_15 : decode cX10_givesBack 15 = .ok (.istore_n 2, 1) := by decide +kernel
theorem dX10_givesBack_16 : decode cX10_givesBack 16 = .ok (.iload_n 2, 1) := by decide +kernel
theorem dX10_givesBack_17 : decode cX10_givesBack 17 = .ok (.ifCond .lt 10, 3) := by decide +kernel
theorem dX10_givesBack_20 : decode cX10_givesBack 20 = .ok (.aload_n 0, 1) := by decide +kernel
theorem dX10_givesBack_21 : decode cX10_givesBack 21 = .ok (.iload_n 2, 1) := by decide +kernel
theorem dX10_givesBack_22 : decode cX10_givesBack 22 = .ok (.invokevirtual 59, 3) := by decide +kernel
theorem dX10_givesBack_25 : decode cX10_givesBack 25 = .ok (.iconst 0, 1) := by decide +kernel
theorem dX10_givesBack_26 : decode cX10_givesBack 26 = .ok (.ireturn, 1) := by decide +kernel
theorem dX10_givesBack_27 : decode cX10_givesBack 27 = .ok (.aload_n 0, 1) := by decide +kernel
theorem dX10_givesBack_28 : decode cX10_givesBack 28 = .ok (.iload_n 1, 1) := by decide +kernel
theorem dX10_givesBack_29 : decode cX10_givesBack 29 = .ok (.iconst 0, 1) := by decide +kernel
theorem dX10_givesBack_30 : decode cX10_givesBack 30 = .ok (.invokevirtual 66, 3) := by decide +kernel
theorem dX10_givesBack_33 : decode cX10_givesBack 33 = .ok (.ifCond .ge 6, 3) := by decide +kernel
theorem dX10_givesBack_36 : decode cX10_givesBack 36 = .ok (.bipush (-2), 2) := by decide +kernel
theorem dX10_givesBack_38 : decode cX10_givesBack 38 = .ok (.ireturn, 1) := by decide +kernel
theorem dX10_givesBack_39 : decode cX10_givesBack 39 = .ok (.aload_n 0, 1) := by decide +kernel
theorem dX10_givesBack_40 : decode cX10_givesBack 40 = .ok (.iload_n 1, 1) := by decide +kernel
theorem dX10_givesBack_41 : decode cX10_givesBack 41 = .ok (.invokevirtual 93, 3) := by decide +kernel
theorem dX10_givesBack_44 : decode cX10_givesBack 44 = .ok (.istore_n 3, 1) := by decide +kernel
theorem dX10_givesBack_45 : decode cX10_givesBack 45 = .ok (.aload_n 0, 1) := by decide +kernel
theorem dX10_givesBack_46 : decode cX10_givesBack 46 = .ok (.aload_n 0, 1) := by decide +kernel
theorem dX10_givesBack_47 : decode cX10_givesBack 47 = .ok (.iload_n 1, 1) := by decide +kernel
theorem dX10_givesBack_48 : decode cX10_givesBack 48 = .ok (.invokevirtual 96, 3) := by decide +kernel
theorem dX10_givesBack_51 : decode cX10_givesBack 51 = .ok (.invokevirtual 78, 3) := by decide +kernel
theorem dX10_givesBack_54 : decode cX10_givesBack 54 = .ok (.iload_n 3, 1) := by decide +kernel
theorem dX10_givesBack_55 : decode cX10_givesBack 55 = .ok (.ireturn, 1) := by decide +kernel
theorem dX10_renews_0 : decode cX10_renews 0 = .ok (.aload_n 0, 1) := by decide +kernel
theorem dX10_renews_1 : decode cX10_renews 1 = .ok (.iload_n 1, 1) := by decide +kernel
theorem dX10_renews_2 : decode cX10_renews 2 = .ok (.invokevirtual 81, 3) := by decide +kernel
theorem dX10_renews_5 : decode cX10_renews 5 = .ok (.ifCond .ne 5, 3) := by decide +kernel
theorem dX10_renews_8 : decode cX10_renews 8 = .ok (.iconst (-1), 1) := by decide +kernel
theorem dX10_renews_9 : decode cX10_renews 9 = .ok (.ireturn, 1) := by decide +kernel
theorem dX10_renews_10 : decode cX10_renews 10 = .ok (.aload_n 0, 1) := by decide +kernel
theorem dX10_renews_11 : decode cX10_renews 11 = .ok (.iload_n 1, 1) := by decide +kernel
theorem dX10_renews_12 : decode cX10_renews 12 = .ok (.iconst 0, 1) := by decide +kernel
theorem dX10_renews_13 : decode cX10_renews 13 = .ok (.invokevirtual 66, 3) := by decide +kernel
theorem dX10_renews_16 : decode cX10_renews 16 = .ok (.istore_n 2, 1) := by decide +kernel
theorem dX10_renews_17 : decode cX10_renews 17 = .ok (.iload_n 2, 1) := by decide +kernel
theorem dX10_renews_18 : decode cX10_renews 18 = .ok (.ifCond .lt 24, 3) := by decide +kernel
theorem dX10_renews_21 : decode cX10_renews 21 = .ok (.aload_n 0, 1) := by decide +kernel
theorem dX10_renews_22 : decode cX10_renews 22 = .ok (.iload_n 1, 1) := by decide +kernel
theorem dX10_renews_23 : decode cX10_renews 23 = .ok (.invokevirtual 93, 3) := by decide +kernel
theorem dX10_renews_26 : decode cX10_renews 26 = .ok (.ifCond .gt 16, 3) := by decide +kernel
theorem dX10_renews_29 : decode cX10_renews 29 = .ok (.aload_n 0, 1) := by decide +kernel
theorem dX10_renews_30 : decode cX10_renews 30 = .ok (.aload_n 0, 1) := by decide +kernel
theorem dX10_renews_31 : decode cX10_renews 31 = .ok (.iload_n 2, 1) := by decide +kernel
theorem dX10_renews_32 : decode cX10_renews 32 = .ok (.iconst 0, 1) := by decide +kernel
theorem dX10_renews_33 : decode cX10_renews 33 = .ok (.invokevirtual 36, 3) := by decide +kernel
theorem dX10_renews_36 : decode cX10_renews 36 = .ok (.invokevirtual 55, 3) := by decide +kernel
theorem dX10_renews_39 : decode cX10_renews 39 = .ok (.ifCond .lt 6, 3) := by decide +kernel
theorem dX10_renews_42 : decode cX10_renews 42 = .ok (.bipush (-2), 2) := by decide +kernel
theorem dX10_renews_44 : decode cX10_renews 44 = .ok (.ireturn, 1) := by decide +kernel
theorem dX10_renews_45 : decode cX10_renews 45 = .ok (.aload_n 0, 1) := by decide +kernel
theorem dX10_renews_46 : decode cX10_renews 46 = .ok (.iload_n 1, 1) := by decide +kernel
theorem dX10_renews_47 : decode cX10_renews 47 = .ok (.iconst 2, 1) := by decide +kernel
theorem dX10_renews_48 : decode cX10_renews 48 = .ok (.invokevirtual 66, 3) := by decide +kernel
theorem dX10_renews_51 : decode cX10_renews 51 = .ok (.aload_n 0, 1) := by decide +kernel
theorem dX10_renews_52 : decode cX10_renews 52 = .ok (.getfield 7, 3) := by decide +kernel
theorem dX10_renews_55 : decode cX10_renews 55 = .ok (.iconst 1, 1) := by decide +kernel
theorem dX10_renews_56 : decode cX10_renews 56 = .ok (.iaload, 1) := by decide +kernel
theorem dX10_renews_57 : decode cX10_renews 57 = .ok (.if_icmp .lt 6, 3) := by decide +kernel
theorem dX10_renews_60 : decode cX10_renews 60 = .ok (.bipush (-3), 2) := by decide +kernel
theorem dX10_renews_62 : decode cX10_renews 62 = .ok (.ireturn, 1) := by decide +kernel
theorem dX10_renews_63 : decode cX10_renews 63 = .ok (.aload_n 0, 1) := by decide +kernel
theorem dX10_renews_64 : decode cX10_renews 64 = .ok (.iload_n 1, 1) := by decide +kernel
theorem dX10_renews_65 : decode cX10_renews 65 = .ok (.iconst 2, 1) := by decide +kernel
theorem dX10_renews_66 : decode cX10_renews 66 = .ok (.aload_n 0, 1) := by decide +kernel
theorem dX10_renews_67 : decode cX10_renews 67 = .ok (.iload_n 1, 1) := by decide +kernel
theorem dX10_renews_68 : decode cX10_renews 68 = .ok (.iconst 2, 1) := by decide +kernel
theorem dX10_renews_69 : decode cX10_renews 69 = .ok (.invokevirtual 66, 3) := by decide +kernel
theorem dX10_renews_72 : decode cX10_renews 72 = .ok (.iconst 1, 1) := by decide +kernel
theorem dX10_renews_73 : decode cX10_renews 73 = .ok (.iadd, 1) := by decide +kernel
theorem dX10_renews_74 : decode cX10_renews 74 = .ok (.invokevirtual 48, 3) := by decide +kernel
theorem dX10_renews_77 : decode cX10_renews 77 = .ok (.aload_n 0, 1) := by decide +kernel
theorem dX10_renews_78 : decode cX10_renews 78 = .ok (.iload_n 1, 1) := by decide +kernel
theorem dX10_renews_79 : decode cX10_renews 79 = .ok (.iconst 1, 1) := by decide +kernel
theorem dX10_renews_80 : decode cX10_renews 80 = .ok (.aload_n 0, 1) := by decide +kernel
theorem dX10_renews_81 : decode cX10_renews 81 = .ok (.iload_n 1, 1) := by decide +kernel
theorem dX10_renews_82 : decode cX10_renews 82 = .ok (.iconst 1, 1) := by decide +kernel
theorem dX10_renews_83 : decode cX10_renews 83 = .ok (.invokevirtual 66, 3) := by decide +kernel
theorem dX10_renews_86 : decode cX10_renews 86 = .ok (.aload_n 0, 1) := by decide +kernel
theorem dX10_renews_87 : decode cX10_renews 87 = .ok (.getfield 7, 3) := by decide +kernel
theorem dX10_renews_90 : decode cX10_renews 90 = .ok (.iconst 0, 1) := by decide +kernel
theorem dX10_renews_91 : decode cX10_renews 91 = .ok (.iaload, 1) := by decide +kernel
theorem dX10_renews_92 : decode cX10_renews 92 = .ok (.iadd, 1) := by decide +kernel
theorem dX10_renews_93 : decode cX10_renews 93 = .ok (.invokevirtual 48, 3) := by decide +kernel
theorem dX10_renews_96 : decode cX10_renews 96 = .ok (.aload_n 0, 1) := by decide +kernel
theorem dX10_renews_97 : decode cX10_renews 97 = .ok (.iload_n 1, 1) := by decide +kernel
theorem dX10_renews_98 : decode cX10_renews 98 = .ok (.iconst 1, 1) := by decide +kernel
theorem dX10_renews_99 : decode cX10_renews 99 = .ok (.invokevirtual 66, 3) := by decide +kernel
theorem dX10_renews_102 : decode cX10_renews 102 = .ok (.ireturn, 1) := by decide +kernel
theorem dX10_changesLock_0 : decode cX10_changesLock 0 = .ok (.aload_n 0, 1) := by decide +kernel
theorem dX10_changesLock_1 : decode cX10_changesLock 1 = .ok (.iload_n 1, 1) := by decide +kernel
theorem dX10_changesLock_2 : decode cX10_changesLock 2 = .ok (.bipush 20, 2) := by decide +kernel
theorem dX10_changesLock_4 : decode cX10_changesLock 4 = .ok (.invokevirtual 99, 3) := by decide +kernel
theorem dX10_changesLock_7 : decode cX10_changesLock 7 = .ok (.aload_n 0, 1) := by decide +kernel
theorem dX10_changesLock_8 : decode cX10_changesLock 8 = .ok (.iload_n 1, 1) := by decide +kernel
theorem dX10_changesLock_9 : decode cX10_changesLock 9 = .ok (.invokevirtual 96, 3) := by decide +kernel
theorem dX10_changesLock_12 : decode cX10_changesLock 12 = .ok (.istore_n 2, 1) := by decide +kernel
theorem dX10_changesLock_13 : decode cX10_changesLock 13 = .ok (.aload_n 0, 1) := by decide +kernel
theorem dX10_changesLock_14 : decode cX10_changesLock 14 = .ok (.iload_n 2, 1) := by decide +kernel
theorem dX10_changesLock_15 : decode cX10_changesLock 15 = .ok (.iconst 0, 1) := by decide +kernel
theorem dX10_changesLock_16 : decode cX10_changesLock 16 = .ok (.invokevirtual 36, 3) := by decide +kernel
theorem dX10_changesLock_19 : decode cX10_changesLock 19 = .ok (.istore_n 3, 1) := by decide +kernel
theorem dX10_changesLock_20 : decode cX10_changesLock 20 = .ok (.aload_n 0, 1) := by decide +kernel
theorem dX10_changesLock_21 : decode cX10_changesLock 21 = .ok (.iload_n 2, 1) := by decide +kernel
theorem dX10_changesLock_22 : decode cX10_changesLock 22 = .ok (.iconst 3, 1) := by decide +kernel
theorem dX10_changesLock_23 : decode cX10_changesLock 23 = .ok (.iconst 1, 1) := by decide +kernel
theorem dX10_changesLock_24 : decode cX10_changesLock 24 = .ok (.invokevirtual 44, 3) := by decide +kernel
theorem dX10_changesLock_27 : decode cX10_changesLock 27 = .ok (.aload_n 0, 1) := by decide +kernel
theorem dX10_changesLock_28 : decode cX10_changesLock 28 = .ok (.iload_n 2, 1) := by decide +kernel
theorem dX10_changesLock_29 : decode cX10_changesLock 29 = .ok (.iconst 4, 1) := by decide +kernel
theorem dX10_changesLock_30 : decode cX10_changesLock 30 = .ok (.aload_n 0, 1) := by decide +kernel
theorem dX10_changesLock_31 : decode cX10_changesLock 31 = .ok (.getfield 7, 3) := by decide +kernel
theorem dX10_changesLock_34 : decode cX10_changesLock 34 = .ok (.iconst 3, 1) := by decide +kernel
theorem dX10_changesLock_35 : decode cX10_changesLock 35 = .ok (.iaload, 1) := by decide +kernel
theorem dX10_changesLock_36 : decode cX10_changesLock 36 = .ok (.iconst 3, 1) := by decide +kernel
theorem dX10_changesLock_37 : decode cX10_changesLock 37 = .ok (.iadd, 1) := by decide +kernel
theorem dX10_changesLock_38 : decode cX10_changesLock 38 = .ok (.invokevirtual 44, 3) := by decide +kernel
theorem dX10_changesLock_41 : decode cX10_changesLock 41 = .ok (.aload_n 0, 1) := by decide +kernel
theorem dX10_changesLock_42 : decode cX10_changesLock 42 = .ok (.iload_n 3, 1) := by decide +kernel
theorem dX10_changesLock_43 : decode cX10_changesLock 43 = .ok (.invokevirtual 87, 3) := by decide +kernel
theorem dX10_changesLock_46 : decode cX10_changesLock 46 = .ok (.istore 4, 2) := by decide +kernel
theorem dX10_changesLock_48 : decode cX10_changesLock 48 = .ok (.iload 4, 2) := by decide +kernel
theorem dX10_changesLock_50 : decode cX10_changesLock 50 = .ok (.ifCond .lt 13, 3) := by decide +kernel
theorem dX10_changesLock_53 : decode cX10_changesLock 53 = .ok (.aload_n 0, 1) := by decide +kernel
theorem dX10_changesLock_54 : decode cX10_changesLock 54 = .ok (.iload_n 1, 1) := by decide +kernel
theorem dX10_changesLock_55 : decode cX10_changesLock 55 = .ok (.iload 4, 2) := by decide +kernel
theorem dX10_changesLock_57 : decode cX10_changesLock 57 = .ok (.invokevirtual 63, 3) := by decide +kernel
theorem dX10_changesLock_60 : decode cX10_changesLock 60 = .ok (.goto 9, 3) := by decide +kernel
theorem dX10_changesLock_63 : decode cX10_changesLock 63 = .ok (.aload_n 0, 1) := by decide +kernel
theorem dX10_changesLock_64 : decode cX10_changesLock 64 = .ok (.iload_n 1, 1) := by decide +kernel
theorem dX10_changesLock_65 : decode cX10_changesLock 65 = .ok (.iload_n 3, 1) := by decide +kernel
theorem dX10_changesLock_66 : decode cX10_changesLock 66 = .ok (.invokevirtual 90, 3) := by decide +kernel
theorem dX10_changesLock_69 : decode cX10_changesLock 69 = .ok (.return_, 1) := by decide +kernel
theorem dX10_loses_0 : decode cX10_loses 0 = .ok (.aload_n 0, 1) := by decide +kernel
theorem dX10_loses_1 : decode cX10_loses 1 = .ok (.iload_n 1, 1) := by decide +kernel
theorem dX10_loses_2 : decode cX10_loses 2 = .ok (.invokevirtual 81, 3) := by decide +kernel
theorem dX10_loses_5 : decode cX10_loses 5 = .ok (.ifCond .ne 5, 3) := by decide +kernel
theorem dX10_loses_8 : decode cX10_loses 8 = .ok (.iconst (-1), 1) := by decide +kernel
theorem dX10_loses_9 : decode cX10_loses 9 = .ok (.ireturn, 1) := by decide +kernel
theorem dX10_loses_10 : decode cX10_loses 10 = .ok (.aload_n 0, 1) := by decide +kernel
theorem dX10_loses_11 : decode cX10_loses 11 = .ok (.iload_n 1, 1) := by decide +kernel
theorem dX10_loses_12 : decode cX10_loses 12 = .ok (.iconst 0, 1) := by decide +kernel
theorem dX10_loses_13 : decode cX10_loses 13 = .ok (.invokevirtual 66, 3) := by decide +kernel
theorem dX10_loses_16 : decode cX10_loses 16 = .ok (.istore_n 2, 1) := by decide +kernel
theorem dX10_loses_17 : decode cX10_loses 17 = .ok (.iload_n 2, 1) := by decide +kernel
theorem dX10_loses_18 : decode cX10_loses 18 = .ok (.ifCond .ge 6, 3) := by decide +kernel
theorem dX10_loses_21 : decode cX10_loses 21 = .ok (.bipush (-2), 2) := by decide +kernel
theorem dX10_loses_23 : decode cX10_loses 23 = .ok (.ireturn, 1) := by decide +kernel
theorem dX10_loses_24 : decode cX10_loses 24 = .ok (.aload_n 0, 1) := by decide +kernel
theorem dX10_loses_25 : decode cX10_loses 25 = .ok (.iload_n 1, 1) := by decide +kernel
theorem dX10_loses_26 : decode cX10_loses 26 = .ok (.bipush 6, 2) := by decide +kernel
theorem dX10_loses_28 : decode cX10_loses 28 = .ok (.aload_n 0, 1) := by decide +kernel
theorem dX10_loses_29 : decode cX10_loses 29 = .ok (.iload_n 1, 1) := by decide +kernel
theorem dX10_loses_30 : decode cX10_loses 30 = .ok (.bipush 6, 2) := by decide +kernel
theorem dX10_loses_32 : decode cX10_loses 32 = .ok (.invokevirtual 66, 3) := by decide +kernel
theorem dX10_loses_35 : decode cX10_loses 35 = .ok (.iconst 1, 1) := by decide +kernel
theorem dX10_loses_36 : decode cX10_loses 36 = .ok (.iadd, 1) := by decide +kernel
theorem dX10_loses_37 : decode cX10_loses 37 = .ok (.invokevirtual 48, 3) := by decide +kernel
theorem dX10_loses_40 : decode cX10_loses 40 = .ok (.aload_n 0, 1) := by decide +kernel
theorem dX10_loses_41 : decode cX10_loses 41 = .ok (.iload_n 1, 1) := by decide +kernel
theorem dX10_loses_42 : decode cX10_loses 42 = .ok (.iconst 5, 1) := by decide +kernel
theorem dX10_loses_43 : decode cX10_loses 43 = .ok (.invokevirtual 99, 3) := by decide +kernel
theorem dX10_loses_46 : decode cX10_loses 46 = .ok (.aload_n 0, 1) := by decide +kernel
theorem dX10_loses_47 : decode cX10_loses 47 = .ok (.iload_n 2, 1) := by decide +kernel
theorem dX10_loses_48 : decode cX10_loses 48 = .ok (.iconst 3, 1) := by decide +kernel
theorem dX10_loses_49 : decode cX10_loses 49 = .ok (.invokevirtual 36, 3) := by decide +kernel
theorem dX10_loses_52 : decode cX10_loses 52 = .ok (.iconst 1, 1) := by decide +kernel
theorem dX10_loses_53 : decode cX10_loses 53 = .ok (.if_icmp .ne 13, 3) := by decide +kernel
theorem dX10_loses_56 : decode cX10_loses 56 = .ok (.aload_n 0, 1) := by decide +kernel
theorem dX10_loses_57 : decode cX10_loses 57 = .ok (.iload_n 2, 1) := by decide +kernel
theorem dX10_loses_58 : decode cX10_loses 58 = .ok (.iconst 3, 1) := by decide +kernel
theorem dX10_loses_59 : decode cX10_loses 59 = .ok (.iconst 0, 1) := by decide +kernel
theorem dX10_loses_60 : decode cX10_loses 60 = .ok (.invokevirtual 44, 3) := by decide +kernel
theorem dX10_loses_63 : decode cX10_loses 63 = .ok (.goto 8, 3) := by decide +kernel
theorem dX10_loses_66 : decode cX10_loses 66 = .ok (.aload_n 0, 1) := by decide +kernel
theorem dX10_loses_67 : decode cX10_loses 67 = .ok (.iload_n 1, 1) := by decide +kernel
theorem dX10_loses_68 : decode cX10_loses 68 = .ok (.invokevirtual 102, 3) := by decide +kernel
theorem dX10_loses_71 : decode cX10_loses 71 = .ok (.aload_n 0, 1) := by decide +kernel
theorem dX10_loses_72 : decode cX10_loses 72 = .ok (.iload_n 1, 1) := by decide +kernel
theorem dX10_loses_73 : decode cX10_loses 73 = .ok (.iconst 3, 1) := by decide +kernel
theorem dX10_loses_74 : decode cX10_loses 74 = .ok (.invokevirtual 66, 3) := by decide +kernel
theorem dX10_loses_77 : decode cX10_loses 77 = .ok (.ireturn, 1) := by decide +kernel
theorem dX10_wishes_0 : decode cX10_wishes 0 = .ok (.aload_n 0, 1) := by decide +kernel
theorem dX10_wishes_1 : decode cX10_wishes 1 = .ok (.iload_n 1, 1) := by decide +kernel
theorem dX10_wishes_2 : decode cX10_wishes 2 = .ok (.invokevirtual 81, 3) := by decide +kernel
theorem dX10_wishes_5 : decode cX10_wishes 5 = .ok (.ifCond .eq 12, 3) := by decide +kernel
theorem dX10_wishes_8 : decode cX10_wishes 8 = .ok (.iload_n 2, 1) := by decide +kernel
theorem dX10_wishes_9 : decode cX10_wishes 9 = .ok (.iconst 0, 1) := by decide +kernel
theorem dX10_wishes_10 : decode cX10_wishes 10 = .ok (.iconst 2, 1) := by decide +kernel
theorem dX10_wishes_11 : decode cX10_wishes 11 = .ok (.invokestatic 28, 3) := by decide +kernel
theorem dX10_wishes_14 : decode cX10_wishes 14 = .ok (.ifCond .ne 5, 3) := by decide +kernel
theorem dX10_wishes_17 : decode cX10_wishes 17 = .ok (.iconst (-1), 1) := by decide +kernel
theorem dX10_wishes_18 : decode cX10_wishes 18 = .ok (.ireturn, 1) := by decide +kernel
theorem dX10_wishes_19 : decode cX10_wishes 19 = .ok (.aload_n 0, 1) := by decide +kernel
theorem dX10_wishes_20 : decode cX10_wishes 20 = .ok (.iload_n 1, 1) := by decide +kernel
theorem dX10_wishes_21 : decode cX10_wishes 21 = .ok (.iconst 0, 1) := by decide +kernel
theorem dX10_wishes_22 : decode cX10_wishes 22 = .ok (.invokevirtual 66, 3) := by decide +kernel
theorem dX10_wishes_25 : decode cX10_wishes 25 = .ok (.istore_n 3, 1) := by decide +kernel
theorem dX10_wishes_26 : decode cX10_wishes 26 = .ok (.iload_n 3, 1) := by decide +kernel
theorem dX10_wishes_27 : decode cX10_wishes 27 = .ok (.ifCond .lt 13, 3) := by decide +kernel
theorem dX10_wishes_30 : decode cX10_wishes 30 = .ok (.aload_n 0, 1) := by decide +kernel
theorem dX10_wishes_31 : decode cX10_wishes 31 = .ok (.iload_n 3, 1) := by decide +kernel
theorem dX10_wishes_32 : decode cX10_wishes 32 = .ok (.iconst 0, 1) := by decide +kernel
theorem dX10_wishes_33 : decode cX10_wishes 33 = .ok (.invokevirtual 36, 3) := by decide +kernel
theorem dX10_wishes_36 : decode cX10_wishes 36 = .ok (.iload_n 2, 1) := by decide +kernel
theorem dX10_wishes_37 : decode cX10_wishes 37 = .ok (.if_icmp .ne 6, 3) := by decide +kernel
theorem dX10_wishes_40 : decode cX10_wishes 40 = .ok (.bipush (-2), 2) := by decide +kernel
theorem dX10_wishes_42 : decode cX10_wishes 42 = .ok (.ireturn, 1) := by decide +kernel
theorem dX10_wishes_43 : decode cX10_wishes 43 = .ok (.aload_n 0, 1) := by decide +kernel
theorem dX10_wishes_44 : decode cX10_wishes 44 = .ok (.iload_n 1, 1) := by decide +kernel
theorem dX10_wishes_45 : decode cX10_wishes 45 = .ok (.invokevirtual 69, 3) := by decide +kernel
theorem dX10_wishes_48 : decode cX10_wishes 48 = .ok (.aload_n 0, 1) := by decide +kernel
theorem dX10_wishes_49 : decode cX10_wishes 49 = .ok (.iload_n 1, 1) := by decide +kernel
theorem dX10_wishes_50 : decode cX10_wishes 50 = .ok (.iconst 5, 1) := by decide +kernel
theorem dX10_wishes_51 : decode cX10_wishes 51 = .ok (.iload_n 2, 1) := by decide +kernel
theorem dX10_wishes_52 : decode cX10_wishes 52 = .ok (.invokevirtual 48, 3) := by decide +kernel
theorem dX10_wishes_55 : decode cX10_wishes 55 = .ok (.aload_n 0, 1) := by decide +kernel
theorem dX10_wishes_56 : decode cX10_wishes 56 = .ok (.getfield 7, 3) := by decide +kernel
theorem dX10_wishes_59 : decode cX10_wishes 59 = .ok (.sipush 183, 3) := by decide +kernel
theorem dX10_wishes_62 : decode cX10_wishes 62 = .ok (.aload_n 0, 1) := by decide +kernel
theorem dX10_wishes_63 : decode cX10_wishes 63 = .ok (.getfield 7, 3) := by decide +kernel
theorem dX10_wishes_66 : decode cX10_wishes 66 = .ok (.bipush 7, 2) := by decide +kernel
theorem dX10_wishes_68 : decode cX10_wishes 68 = .ok (.iaload, 1) := by decide +kernel
theorem dX10_wishes_69 : decode cX10_wishes 69 = .ok (.iadd, 1) := by decide +kernel
theorem dX10_wishes_70 : decode cX10_wishes 70 = .ok (.iload_n 1, 1) := by decide +kernel
theorem dX10_wishes_71 : decode cX10_wishes 71 = .ok (.iastore, 1) := by decide +kernel
theorem dX10_wishes_72 : decode cX10_wishes 72 = .ok (.aload_n 0, 1) := by decide +kernel
theorem dX10_wishes_73 : decode cX10_wishes 73 = .ok (.getfield 7, 3) := by decide +kernel
theorem dX10_wishes_76 : decode cX10_wishes 76 = .ok (.bipush 7, 2) := by decide +kernel
theorem dX10_wishes_78 : decode cX10_wishes 78 = .ok (.dup2, 1) := by decide +kernel
theorem dX10_wishes_79 : decode cX10_wishes 79 = .ok (.iaload, 1) := by decide +kernel
theorem dX10_wishes_80 : decode cX10_wishes 80 = .ok (.iconst 1, 1) := by decide +kernel
theorem dX10_wishes_81 : decode cX10_wishes 81 = .ok (.iadd, 1) := by decide +kernel
theorem dX10_wishes_82 : decode cX10_wishes 82 = .ok (.iastore, 1) := by decide +kernel
theorem dX10_wishes_83 : decode cX10_wishes 83 = .ok (.aload_n 0, 1) := by decide +kernel
theorem dX10_wishes_84 : decode cX10_wishes 84 = .ok (.getfield 7, 3) := by decide +kernel
theorem dX10_wishes_87 : decode cX10_wishes 87 = .ok (.bipush 7, 2) := by decide +kernel
theorem dX10_wishes_89 : decode cX10_wishes 89 = .ok (.iaload, 1) := by decide +kernel
theorem dX10_wishes_90 : decode cX10_wishes 90 = .ok (.ireturn, 1) := by decide +kernel
theorem dX10_wishesNoMore_0 : decode cX10_wishesNoMore 0 = .ok (.aload_n 0, 1) := by decide +kernel
theorem dX10_wishesNoMore_1 : decode cX10_wishesNoMore 1 = .ok (.iload_n 1, 1) := by decide +kernel
theorem dX10_wishesNoMore_2 : decode cX10_wishesNoMore 2 = .ok (.invokevirtual 81, 3) := by decide +kernel
theorem dX10_wishesNoMore_5 : decode cX10_wishesNoMore 5 = .ok (.ifCond .ne 5, 3) := by decide +kernel
theorem dX10_wishesNoMore_8 : decode cX10_wishesNoMore 8 = .ok (.iconst (-1), 1) := by decide +kernel
theorem dX10_wishesNoMore_9 : decode cX10_wishesNoMore 9 = .ok (.ireturn, 1) := by decide +kernel
theorem dX10_wishesNoMore_10 : decode cX10_wishesNoMore 10 = .ok (.aload_n 0, 1) := by decide +kernel
theorem dX10_wishesNoMore_11 : decode cX10_wishesNoMore 11 = .ok (.iload_n 1, 1) := by decide +kernel
theorem dX10_wishesNoMore_12 : decode cX10_wishesNoMore 12 = .ok (.iconst 5, 1) := by decide +kernel
theorem dX10_wishesNoMore_13 : decode cX10_wishesNoMore 13 = .ok (.invokevirtual 66, 3) := by decide +kernel
theorem dX10_wishesNoMore_16 : decode cX10_wishesNoMore 16 = .ok (.istore_n 2, 1) := by decide +kernel
theorem dX10_wishesNoMore_17 : decode cX10_wishesNoMore 17 = .ok (.iload_n 2, 1) := by decide +kernel
theorem dX10_wishesNoMore_18 : decode cX10_wishesNoMore 18 = .ok (.ifCond .ge 6, 3) := by decide +kernel
theorem dX10_wishesNoMore_21 : decode cX10_wishesNoMore 21 = .ok (.bipush (-2), 2) := by decide +kernel
theorem dX10_wishesNoMore_23 : decode cX10_wishesNoMore 23 = .ok (.ireturn, 1) := by decide +kernel
theorem dX10_wishesNoMore_24 : decode cX10_wishesNoMore 24 = .ok (.aload_n 0, 1) := by decide +kernel
theorem dX10_wishesNoMore_25 : decode cX10_wishesNoMore 25 = .ok (.iload_n 1, 1) := by decide +kernel
theorem dX10_wishesNoMore_26 : decode cX10_wishesNoMore 26 = .ok (.invokevirtual 69, 3) := by decide +kernel
theorem dX10_wishesNoMore_29 : decode cX10_wishesNoMore 29 = .ok (.iload_n 2, 1) := by decide +kernel
theorem dX10_wishesNoMore_30 : decode cX10_wishesNoMore 30 = .ok (.ireturn, 1) := by decide +kernel
theorem dX10_pays_0 : decode cX10_pays 0 = .ok (.aload_n 0, 1) := by decide +kernel
theorem dX10_pays_1 : decode cX10_pays 1 = .ok (.iload_n 1, 1) := by decide +kernel
theorem dX10_pays_2 : decode cX10_pays 2 = .ok (.invokevirtual 81, 3) := by decide +kernel
theorem dX10_pays_5 : decode cX10_pays 5 = .ok (.ifCond .eq 14, 3) := by decide +kernel
theorem dX10_pays_8 : decode cX10_pays 8 = .ok (.iload_n 2, 1) := by decide +kernel
theorem dX10_pays_9 : decode cX10_pays 9 = .ok (.iconst 1, 1) := by decide +kernel
theorem dX10_pays_10 : decode cX10_pays 10 = .ok (.sipush 999, 3) := by decide +kernel
theorem dX10_pays_13 : decode cX10_pays 13 = .ok (.invokestatic 28, 3) := by decide +kernel
theorem dX10_pays_16 : decode cX10_pays 16 = .ok (.ifCond .ne 5, 3) := by decide +kernel
theorem dX10_pays_19 : decode cX10_pays 19 = .ok (.iconst (-1), 1) := by decide +kernel
theorem dX10_pays_20 : decode cX10_pays 20 = .ok (.ireturn, 1) := by decide +kernel
theorem dX10_pays_21 : decode cX10_pays 21 = .ok (.aload_n 0, 1) := by decide +kernel
theorem dX10_pays_22 : decode cX10_pays 22 = .ok (.iload_n 1, 1) := by decide +kernel
theorem dX10_pays_23 : decode cX10_pays 23 = .ok (.iconst 3, 1) := by decide +kernel
theorem dX10_pays_24 : decode cX10_pays 24 = .ok (.invokevirtual 66, 3) := by decide +kernel
theorem dX10_pays_27 : decode cX10_pays 27 = .ok (.iload_n 2, 1) := by decide +kernel
theorem dX10_pays_28 : decode cX10_pays 28 = .ok (.if_icmp .ge 6, 3) := by decide +kernel
theorem dX10_pays_31 : decode cX10_pays 31 = .ok (.bipush (-2), 2) := by decide +kernel
theorem dX10_pays_33 : decode cX10_pays 33 = .ok (.ireturn, 1) := by decide +kernel
theorem dX10_pays_34 : decode cX10_pays 34 = .ok (.aload_n 0, 1) := by decide +kernel
theorem dX10_pays_35 : decode cX10_pays 35 = .ok (.iload_n 1, 1) := by decide +kernel
theorem dX10_pays_36 : decode cX10_pays 36 = .ok (.iconst 3, 1) := by decide +kernel
theorem dX10_pays_37 : decode cX10_pays 37 = .ok (.aload_n 0, 1) := by decide +kernel
theorem dX10_pays_38 : decode cX10_pays 38 = .ok (.iload_n 1, 1) := by decide +kernel
theorem dX10_pays_39 : decode cX10_pays 39 = .ok (.iconst 3, 1) := by decide +kernel
theorem dX10_pays_40 : decode cX10_pays 40 = .ok (.invokevirtual 66, 3) := by decide +kernel
theorem dX10_pays_43 : decode cX10_pays 43 = .ok (.iload_n 2, 1) := by decide +kernel
theorem dX10_pays_44 : decode cX10_pays 44 = .ok (.isub, 1) := by decide +kernel
theorem dX10_pays_45 : decode cX10_pays 45 = .ok (.invokevirtual 48, 3) := by decide +kernel
theorem dX10_pays_48 : decode cX10_pays 48 = .ok (.aload_n 0, 1) := by decide +kernel
theorem dX10_pays_49 : decode cX10_pays 49 = .ok (.iload_n 1, 1) := by decide +kernel
theorem dX10_pays_50 : decode cX10_pays 50 = .ok (.iconst 4, 1) := by decide +kernel
theorem dX10_pays_51 : decode cX10_pays 51 = .ok (.aload_n 0, 1) := by decide +kernel
theorem dX10_pays_52 : decode cX10_pays 52 = .ok (.iload_n 1, 1) := by decide +kernel
theorem dX10_pays_53 : decode cX10_pays 53 = .ok (.iconst 4, 1) := by decide +kernel
theorem dX10_pays_54 : decode cX10_pays 54 = .ok (.invokevirtual 66, 3) := by decide +kernel
theorem dX10_pays_57 : decode cX10_pays 57 = .ok (.iload_n 2, 1) := by decide +kernel
theorem dX10_pays_58 : decode cX10_pays 58 = .ok (.iadd, 1) := by decide +kernel
theorem dX10_pays_59 : decode cX10_pays 59 = .ok (.invokevirtual 48, 3) := by decide +kernel
theorem dX10_pays_62 : decode cX10_pays 62 = .ok (.aload_n 0, 1) := by decide +kernel
theorem dX10_pays_63 : decode cX10_pays 63 = .ok (.getfield 7, 3) := by decide +kernel
theorem dX10_pays_66 : decode cX10_pays 66 = .ok (.bipush 8, 2) := by decide +kernel
theorem dX10_pays_68 : decode cX10_pays 68 = .ok (.dup2, 1) := by decide +kernel
theorem dX10_pays_69 : decode cX10_pays 69 = .ok (.iaload, 1) := by decide +kernel
theorem dX10_pays_70 : decode cX10_pays 70 = .ok (.iload_n 2, 1) := by decide +kernel
theorem dX10_pays_71 : decode cX10_pays 71 = .ok (.iadd, 1) := by decide +kernel
theorem dX10_pays_72 : decode cX10_pays 72 = .ok (.iastore, 1) := by decide +kernel
theorem dX10_pays_73 : decode cX10_pays 73 = .ok (.aload_n 0, 1) := by decide +kernel
theorem dX10_pays_74 : decode cX10_pays 74 = .ok (.iload_n 1, 1) := by decide +kernel
theorem dX10_pays_75 : decode cX10_pays 75 = .ok (.iconst 3, 1) := by decide +kernel
theorem dX10_pays_76 : decode cX10_pays 76 = .ok (.invokevirtual 66, 3) := by decide +kernel
theorem dX10_pays_79 : decode cX10_pays 79 = .ok (.ireturn, 1) := by decide +kernel
theorem dX10_moves_0 : decode cX10_moves 0 = .ok (.aload_n 0, 1) := by decide +kernel
theorem dX10_moves_1 : decode cX10_moves 1 = .ok (.iload_n 1, 1) := by decide +kernel
theorem dX10_moves_2 : decode cX10_moves 2 = .ok (.iload_n 2, 1) := by decide +kernel
theorem dX10_moves_3 : decode cX10_moves 3 = .ok (.invokevirtual 51, 3) := by decide +kernel
theorem dX10_moves_6 : decode cX10_moves 6 = .ok (.aload_n 0, 1) := by decide +kernel
theorem dX10_moves_7 : decode cX10_moves 7 = .ok (.iload_n 1, 1) := by decide +kernel
theorem dX10_moves_8 : decode cX10_moves 8 = .ok (.invokevirtual 69, 3) := by decide +kernel
theorem dX10_moves_11 : decode cX10_moves 11 = .ok (.aload_n 0, 1) := by decide +kernel
theorem dX10_moves_12 : decode cX10_moves 12 = .ok (.getfield 7, 3) := by decide +kernel
theorem dX10_moves_15 : decode cX10_moves 15 = .ok (.bipush 10, 2) := by decide +kernel
theorem dX10_moves_17 : decode cX10_moves 17 = .ok (.dup2, 1) := by decide +kernel
theorem dX10_moves_18 : decode cX10_moves 18 = .ok (.iaload, 1) := by decide +kernel
theorem dX10_moves_19 : decode cX10_moves 19 = .ok (.iconst 1, 1) := by decide +kernel
theorem dX10_moves_20 : decode cX10_moves 20 = .ok (.iadd, 1) := by decide +kernel
theorem dX10_moves_21 : decode cX10_moves 21 = .ok (.iastore, 1) := by decide +kernel
theorem dX10_moves_22 : decode cX10_moves 22 = .ok (.return_, 1) := by decide +kernel
theorem dX10_takesFree_0 : decode cX10_takesFree 0 = .ok (.iconst 0, 1) := by decide +kernel
theorem dX10_takesFree_1 : decode cX10_takesFree 1 = .ok (.istore_n 1, 1) := by decide +kernel
theorem dX10_takesFree_2 : decode cX10_takesFree 2 = .ok (.iload_n 1, 1) := by decide +kernel
theorem dX10_takesFree_3 : decode cX10_takesFree 3 = .ok (.aload_n 0, 1) := by decide +kernel
theorem dX10_takesFree_4 : decode cX10_takesFree 4 = .ok (.getfield 7, 3) := by decide +kernel
theorem dX10_takesFree_7 : decode cX10_takesFree 7 = .ok (.bipush 7, 2) := by decide +kernel
theorem dX10_takesFree_9 : decode cX10_takesFree 9 = .ok (.iaload, 1) := by decide +kernel
theorem dX10_takesFree_10 : decode cX10_takesFree 10 = .ok (.if_icmp .ge 65, 3) := by decide +kernel
theorem dX10_takesFree_13 : decode cX10_takesFree 13 = .ok (.aload_n 0, 1) := by decide +kernel
theorem dX10_takesFree_14 : decode cX10_takesFree 14 = .ok (.getfield 7, 3) := by decide +kernel
theorem dX10_takesFree_17 : decode cX10_takesFree 17 = .ok (.sipush 183, 3) := by decide +kernel
theorem dX10_takesFree_20 : decode cX10_takesFree 20 = .ok (.iload_n 1, 1) := by decide +kernel
theorem dX10_takesFree_21 : decode cX10_takesFree 21 = .ok (.iadd, 1) := by decide +kernel
theorem dX10_takesFree_22 : decode cX10_takesFree 22 = .ok (.iaload, 1) := by decide +kernel
theorem dX10_takesFree_23 : decode cX10_takesFree 23 = .ok (.istore_n 2, 1) := by decide +kernel
theorem dX10_takesFree_24 : decode cX10_takesFree 24 = .ok (.aload_n 0, 1) := by decide +kernel
theorem dX10_takesFree_25 : decode cX10_takesFree 25 = .ok (.aload_n 0, 1) := by decide +kernel
theorem dX10_takesFree_26 : decode cX10_takesFree 26 = .ok (.iload_n 2, 1) := by decide +kernel
theorem dX10_takesFree_27 : decode cX10_takesFree 27 = .ok (.iconst 5, 1) := by decide +kernel
theorem dX10_takesFree_28 : decode cX10_takesFree 28 = .ok (.invokevirtual 66, 3) := by decide +kernel
theorem dX10_takesFree_31 : decode cX10_takesFree 31 = .ok (.invokevirtual 87, 3) := by decide +kernel
theorem dX10_takesFree_34 : decode cX10_takesFree 34 = .ok (.istore_n 3, 1) := by decide +kernel
theorem dX10_takesFree_35 : decode cX10_takesFree 35 = .ok (.iload_n 3, 1) := by decide +kernel
theorem dX10_takesFree_36 : decode cX10_takesFree 36 = .ok (.ifCond .lt 33, 3) := by decide +kernel
theorem dX10_takesFree_39 : decode cX10_takesFree 39 = .ok (.aload_n 0, 1) := by decide +kernel
theorem dX10_takesFree_40 : decode cX10_takesFree 40 = .ok (.iload_n 2, 1) := by decide +kernel
theorem dX10_takesFree_41 : decode cX10_takesFree 41 = .ok (.iconst 0, 1) := by decide +kernel
theorem dX10_takesFree_42 : decode cX10_takesFree 42 = .ok (.invokevirtual 66, 3) := by decide +kernel
theorem dX10_takesFree_45 : decode cX10_takesFree 45 = .ok (.istore 4, 2) := by decide +kernel
theorem dX10_takesFree_47 : decode cX10_takesFree 47 = .ok (.aload_n 0, 1) := by decide +kernel
theorem dX10_takesFree_48 : decode cX10_takesFree 48 = .ok (.iload 4, 2) := by decide +kernel
theorem dX10_takesFree_50 : decode cX10_takesFree 50 = .ok (.iconst 2, 1) := by decide +kernel
theorem dX10_takesFree_51 : decode cX10_takesFree 51 = .ok (.iconst (-1), 1) := by decide +kernel
theorem dX10_takesFree_52 : decode cX10_takesFree 52 = .ok (.invokevirtual 44, 3) := by decide +kernel
theorem dX10_takesFree_55 : decode cX10_takesFree 55 = .ok (.aload_n 0, 1) := by decide +kernel
theorem dX10_takesFree_56 : decode cX10_takesFree 56 = .ok (.iload_n 2, 1) := by decide +kernel
theorem dX10_takesFree_57 : decode cX10_takesFree 57 = .ok (.iload_n 3, 1) := by decide +kernel
theorem dX10_takesFree_58 : decode cX10_takesFree 58 = .ok (.invokevirtual 105, 3) := by decide +kernel
theorem dX10_takesFree_61 : decode cX10_takesFree 61 = .ok (.aload_n 0, 1) := by decide +kernel
theorem dX10_takesFree_62 : decode cX10_takesFree 62 = .ok (.iload 4, 2) := by decide +kernel
theorem dX10_takesFree_64 : decode cX10_takesFree 64 = .ok (.invokevirtual 78, 3) := by decide +kernel
theorem dX10_takesFree_67 : decode cX10_takesFree 67 = .ok (.iconst 1, 1) := by decide +kernel
theorem dX10_takesFree_68 : decode cX10_takesFree 68 = .ok (.ireturn, 1) := by decide +kernel
theorem dX10_takesFree_69 : decode cX10_takesFree 69 = .ok (.iinc 1 1, 3) := by decide +kernel
theorem dX10_takesFree_72 : decode cX10_takesFree 72 = .ok (.goto (-70), 3) := by decide +kernel
theorem dX10_takesFree_75 : decode cX10_takesFree 75 = .ok (.iconst 0, 1) := by decide +kernel
theorem dX10_takesFree_76 : decode cX10_takesFree 76 = .ok (.ireturn, 1) := by decide +kernel
theorem dX10_wants_0 : decode cX10_wants 0 = .ok (.iload_n 1, 1) := by decide +kernel
theorem dX10_wants_1 : decode cX10_wants 1 = .ok (.iload_n 2, 1) := by decide +kernel
theorem dX10_wants_2 : decode cX10_wants 2 = .ok (.if_icmp .eq 45, 3) := by decide +kernel
theorem dX10_wants_5 : decode cX10_wants 5 = .ok (.aload_n 0, 1) := by decide +kernel
theorem dX10_wants_6 : decode cX10_wants 6 = .ok (.iload_n 1, 1) := by decide +kernel
theorem dX10_wants_7 : decode cX10_wants 7 = .ok (.iconst 5, 1) := by decide +kernel
theorem dX10_wants_8 : decode cX10_wants 8 = .ok (.invokevirtual 66, 3) := by decide +kernel
theorem dX10_wants_11 : decode cX10_wants 11 = .ok (.ifCond .lt 36, 3) := by decide +kernel
theorem dX10_wants_14 : decode cX10_wants 14 = .ok (.aload_n 0, 1) := by decide +kernel
theorem dX10_wants_15 : decode cX10_wants 15 = .ok (.iload_n 2, 1) := by decide +kernel
theorem dX10_wants_16 : decode cX10_wants 16 = .ok (.iconst 5, 1) := by decide +kernel
theorem dX10_wants_17 : decode cX10_wants 17 = .ok (.invokevirtual 66, 3) := by decide +kernel
theorem dX10_wants_20 : decode cX10_wants 20 = .ok (.ifCond .lt 27, 3) := by decide +kernel
theorem dX10_wants_23 : decode cX10_wants 23 = .ok (.aload_n 0, 1) := by decide +kernel
theorem dX10_wants_24 : decode cX10_wants 24 = .ok (.iload_n 1, 1) := by decide +kernel
theorem dX10_wants_25 : decode cX10_wants 25 = .ok (.iconst 5, 1) := by decide +kernel
theorem dX10_wants_26 : decode cX10_wants 26 = .ok (.invokevirtual 66, 3) := by decide +kernel
theorem dX10_wants_29 : decode cX10_wants 29 = .ok (.aload_n 0, 1) := by decide +kernel
theorem dX10_wants_30 : decode cX10_wants 30 = .ok (.aload_n 0, 1) := by decide +kernel
theorem dX10_wants_31 : decode cX10_wants 31 = .ok (.iload_n 2, 1) := by decide +kernel
theorem dX10_wants_32 : decode cX10_wants 32 = .ok (.iconst 0, 1) := by decide +kernel
theorem dX10_wants_33 : decode cX10_wants 33 = .ok (.invokevirtual 66, 3) := by decide +kernel
theorem dX10_wants_36 : decode cX10_wants 36 = .ok (.iconst 0, 1) := by decide +kernel
theorem dX10_wants_37 : decode cX10_wants 37 = .ok (.invokevirtual 36, 3) := by decide +kernel
theorem dX10_wants_40 : decode cX10_wants 40 = .ok (.if_icmp .ne 7, 3) := by decide +kernel
theorem dX10_wants_43 : decode cX10_wants 43 = .ok (.iconst 1, 1) := by decide +kernel
theorem dX10_wants_44 : decode cX10_wants 44 = .ok (.goto 4, 3) := by decide +kernel
theorem dX10_wants_47 : decode cX10_wants 47 = .ok (.iconst 0, 1) := by decide +kernel
theorem dX10_wants_48 : decode cX10_wants 48 = .ok (.ireturn, 1) := by decide +kernel
theorem dX10_thirdOf_0 : decode cX10_thirdOf 0 = .ok (.aload_n 0, 1) := by decide +kernel
theorem dX10_thirdOf_1 : decode cX10_thirdOf 1 = .ok (.iload_n 1, 1) := by decide +kernel
theorem dX10_thirdOf_2 : decode cX10_thirdOf 2 = .ok (.iload_n 2, 1) := by decide +kernel
theorem dX10_thirdOf_3 : decode cX10_thirdOf 3 = .ok (.invokevirtual 108, 3) := by decide +kernel
theorem dX10_thirdOf_6 : decode cX10_thirdOf 6 = .ok (.ifCond .ne 6, 3) := by decide +kernel
theorem dX10_thirdOf_9 : decode cX10_thirdOf 9 = .ok (.bipush (-4), 2) := by decide +kernel
theorem dX10_thirdOf_11 : decode cX10_thirdOf 11 = .ok (.ireturn, 1) := by decide +kernel
theorem dX10_thirdOf_12 : decode cX10_thirdOf 12 = .ok (.aload_n 0, 1) := by decide +kernel
theorem dX10_thirdOf_13 : decode cX10_thirdOf 13 = .ok (.iload_n 2, 1) := by decide +kernel
theorem dX10_thirdOf_14 : decode cX10_thirdOf 14 = .ok (.iload_n 1, 1) := by decide +kernel
theorem dX10_thirdOf_15 : decode cX10_thirdOf 15 = .ok (.invokevirtual 108, 3) := by decide +kernel
theorem dX10_thirdOf_18 : decode cX10_thirdOf 18 = .ok (.ifCond .eq 5, 3) := by decide +kernel
theorem dX10_thirdOf_21 : decode cX10_thirdOf 21 = .ok (.iconst (-1), 1) := by decide +kernel
theorem dX10_thirdOf_22 : decode cX10_thirdOf 22 = .ok (.ireturn, 1) := by decide +kernel
theorem dX10_thirdOf_23 : decode cX10_thirdOf 23 = .ok (.iload_n 1, 1) := by decide +kernel
theorem dX10_thirdOf_24 : decode cX10_thirdOf 24 = .ok (.iconst 1, 1) := by decide +kernel
theorem dX10_thirdOf_25 : decode cX10_thirdOf 25 = .ok (.iadd, 1) := by decide +kernel
theorem dX10_thirdOf_26 : decode cX10_thirdOf 26 = .ok (.istore_n 3, 1) := by decide +kernel
theorem dX10_thirdOf_27 : decode cX10_thirdOf 27 = .ok (.iload_n 3, 1) := by decide +kernel
theorem dX10_thirdOf_28 : decode cX10_thirdOf 28 = .ok (.aload_n 0, 1) := by decide +kernel
theorem dX10_thirdOf_29 : decode cX10_thirdOf 29 = .ok (.getfield 7, 3) := by decide +kernel
theorem dX10_thirdOf_32 : decode cX10_thirdOf 32 = .ok (.iconst 5, 1) := by decide +kernel
theorem dX10_thirdOf_33 : decode cX10_thirdOf 33 = .ok (.iaload, 1) := by decide +kernel
theorem dX10_thirdOf_34 : decode cX10_thirdOf 34 = .ok (.if_icmp .ge 29, 3) := by decide +kernel
theorem dX10_thirdOf_37 : decode cX10_thirdOf 37 = .ok (.aload_n 0, 1) := by decide +kernel
theorem dX10_thirdOf_38 : decode cX10_thirdOf 38 = .ok (.iload_n 2, 1) := by decide +kernel
theorem dX10_thirdOf_39 : decode cX10_thirdOf 39 = .ok (.iload_n 3, 1) := by decide +kernel
theorem dX10_thirdOf_40 : decode cX10_thirdOf 40 = .ok (.invokevirtual 108, 3) := by decide +kernel
theorem dX10_thirdOf_43 : decode cX10_thirdOf 43 = .ok (.ifCond .eq 14, 3) := by decide +kernel
theorem dX10_thirdOf_46 : decode cX10_thirdOf 46 = .ok (.aload_n 0, 1) := by decide +kernel
theorem dX10_thirdOf_47 : decode cX10_thirdOf 47 = .ok (.iload_n 3, 1) := by decide +kernel
theorem dX10_thirdOf_48 : decode cX10_thirdOf 48 = .ok (.iload_n 1, 1) := by decide +kernel
theorem dX10_thirdOf_49 : decode cX10_thirdOf 49 = .ok (.invokevirtual 108, 3) := by decide +kernel
theorem dX10_thirdOf_52 : decode cX10_thirdOf 52 = .ok (.ifCond .eq 5, 3) := by decide +kernel
theorem dX10_thirdOf_55 : decode cX10_thirdOf 55 = .ok (.iload_n 3, 1) := by decide +kernel
theorem dX10_thirdOf_56 : decode cX10_thirdOf 56 = .ok (.ireturn, 1) := by decide +kernel
theorem dX10_thirdOf_57 : decode cX10_thirdOf 57 = .ok (.iinc 3 1, 3) := by decide +kernel
theorem dX10_thirdOf_60 : decode cX10_thirdOf 60 = .ok (.goto (-33), 3) := by decide +kernel
theorem dX10_thirdOf_63 : decode cX10_thirdOf 63 = .ok (.bipush (-4), 2) := by decide +kernel
theorem dX10_thirdOf_65 : decode cX10_thirdOf 65 = .ok (.ireturn, 1) := by decide +kernel
theorem dX10_goesRound_0 : decode cX10_goesRound 0 = .ok (.aload_n 0, 1) := by decide +kernel
theorem dX10_goesRound_1 : decode cX10_goesRound 1 = .ok (.iload_n 1, 1) := by decide +kernel
theorem dX10_goesRound_2 : decode cX10_goesRound 2 = .ok (.iconst 0, 1) := by decide +kernel
theorem dX10_goesRound_3 : decode cX10_goesRound 3 = .ok (.invokevirtual 66, 3) := by decide +kernel
theorem dX10_goesRound_6 : decode cX10_goesRound 6 = .ok (.istore 4, 2) := by decide +kernel
theorem dX10_goesRound_8 : decode cX10_goesRound 8 = .ok (.aload_n 0, 1) := by decide +kernel
theorem dX10_goesRound_9 : decode cX10_goesRound 9 = .ok (.iload_n 1, 1) := by decide +kernel
theorem dX10_goesRound_10 : decode cX10_goesRound 10 = .ok (.aload_n 0, 1) := by decide +kernel
theorem dX10_goesRound_11 : decode cX10_goesRound 11 = .ok (.iload_n 2, 1) := by decide +kernel
theorem dX10_goesRound_12 : decode cX10_goesRound 12 = .ok (.iconst 0, 1) := by decide +kernel
theorem dX10_goesRound_13 : decode cX10_goesRound 13 = .ok (.invokevirtual 66, 3) := by decide +kernel
theorem dX10_goesRound_16 : decode cX10_goesRound 16 = .ok (.invokevirtual 105, 3) := by decide +kernel
theorem dX10_goesRound_19 : decode cX10_goesRound 19 = .ok (.iload_n 3, 1) := by decide +kernel
theorem dX10_goesRound_20 : decode cX10_goesRound 20 = .ok (.ifCond .lt 23, 3) := by decide +kernel
theorem dX10_goesRound_23 : decode cX10_goesRound 23 = .ok (.aload_n 0, 1) := by decide +kernel
theorem dX10_goesRound_24 : decode cX10_goesRound 24 = .ok (.iload_n 2, 1) := by decide +kernel
theorem dX10_goesRound_25 : decode cX10_goesRound 25 = .ok (.aload_n 0, 1) := by decide +kernel
theorem dX10_goesRound_26 : decode cX10_goesRound 26 = .ok (.iload_n 3, 1) := by decide +kernel
theorem dX10_goesRound_27 : decode cX10_goesRound 27 = .ok (.iconst 0, 1) := by decide +kernel
theorem dX10_goesRound_28 : decode cX10_goesRound 28 = .ok (.invokevirtual 66, 3) := by decide +kernel
theorem dX10_goesRound_31 : decode cX10_goesRound 31 = .ok (.invokevirtual 105, 3) := by decide +kernel
theorem dX10_goesRound_34 : decode cX10_goesRound 34 = .ok (.aload_n 0, 1) := by decide +kernel
theorem dX10_goesRound_35 : decode cX10_goesRound 35 = .ok (.iload_n 3, 1) := by decide +kernel
theorem dX10_goesRound_36 : decode cX10_goesRound 36 = .ok (.iload 4, 2) := by decide +kernel
theorem dX10_goesRound_38 : decode cX10_goesRound 38 = .ok (.invokevirtual 105, 3) := by decide +kernel
theorem dX10_goesRound_41 : decode cX10_goesRound 41 = .ok (.iconst 3, 1) := by decide +kernel
theorem dX10_goesRound_42 : decode cX10_goesRound 42 = .ok (.ireturn, 1) := by decide +kernel
theorem dX10_goesRound_43 : decode cX10_goesRound 43 = .ok (.aload_n 0, 1) := by decide +kernel
theorem dX10_goesRound_44 : decode cX10_goesRound 44 = .ok (.iload_n 2, 1) := by decide +kernel
theorem dX10_goesRound_45 : decode cX10_goesRound 45 = .ok (.iload 4, 2) := by decide +kernel
theorem dX10_goesRound_47 : decode cX10_goesRound 47 = .ok (.invokevirtual 105, 3) := by decide +kernel
theorem dX10_goesRound_50 : decode cX10_goesRound 50 = .ok (.iconst 2, 1) := by decide +kernel
theorem dX10_goesRound_51 : decode cX10_goesRound 51 = .ok (.ireturn, 1) := by decide +kernel
theorem dX10_takesRing_0 : decode cX10_takesRing 0 = .ok (.iconst 0, 1) := by decide +kernel
theorem dX10_takesRing_1 : decode cX10_takesRing 1 = .ok (.istore_n 1, 1) := by decide +kernel
theorem dX10_takesRing_2 : decode cX10_takesRing 2 = .ok (.iload_n 1, 1) := by decide +kernel
theorem dX10_takesRing_3 : decode cX10_takesRing 3 = .ok (.aload_n 0, 1) := by decide +kernel
theorem dX10_takesRing_4 : decode cX10_takesRing 4 = .ok (.getfield 7, 3) := by decide +kernel
theorem dX10_takesRing_7 : decode cX10_takesRing 7 = .ok (.iconst 5, 1) := by decide +kernel
theorem dX10_takesRing_8 : decode cX10_takesRing 8 = .ok (.iaload, 1) := by decide +kernel
theorem dX10_takesRing_9 : decode cX10_takesRing 9 = .ok (.if_icmp .ge 50, 3) := by decide +kernel
theorem dX10_takesRing_12 : decode cX10_takesRing 12 = .ok (.iload_n 1, 1) := by decide +kernel
theorem dX10_takesRing_13 : decode cX10_takesRing 13 = .ok (.iconst 1, 1) := by decide +kernel
theorem dX10_takesRing_14 : decode cX10_takesRing 14 = .ok (.iadd, 1) := by decide +kernel
theorem dX10_takesRing_15 : decode cX10_takesRing 15 = .ok (.istore_n 2, 1) := by decide +kernel
theorem dX10_takesRing_16 : decode cX10_takesRing 16 = .ok (.iload_n 2, 1) := by decide +kernel
theorem dX10_takesRing_17 : decode cX10_takesRing 17 = .ok (.aload_n 0, 1) := by decide +kernel
theorem dX10_takesRing_18 : decode cX10_takesRing 18 = .ok (.getfield 7, 3) := by decide +kernel
theorem dX10_takesRing_21 : decode cX10_takesRing 21 = .ok (.iconst 5, 1) := by decide +kernel
theorem dX10_takesRing_22 : decode cX10_takesRing 22 = .ok (.iaload, 1) := by decide +kernel
theorem dX10_takesRing_23 : decode cX10_takesRing 23 = .ok (.if_icmp .ge 30, 3) := by decide +kernel
theorem dX10_takesRing_26 : decode cX10_takesRing 26 = .ok (.aload_n 0, 1) := by decide +kernel
theorem dX10_takesRing_27 : decode cX10_takesRing 27 = .ok (.iload_n 1, 1) := by decide +kernel
theorem dX10_takesRing_28 : decode cX10_takesRing 28 = .ok (.iload_n 2, 1) := by decide +kernel
theorem dX10_takesRing_29 : decode cX10_takesRing 29 = .ok (.invokevirtual 112, 3) := by decide +kernel
theorem dX10_takesRing_32 : decode cX10_takesRing 32 = .ok (.istore_n 3, 1) := by decide +kernel
theorem dX10_takesRing_33 : decode cX10_takesRing 33 = .ok (.iload_n 3, 1) := by decide +kernel
theorem dX10_takesRing_34 : decode cX10_takesRing 34 = .ok (.bipush (-4), 2) := by decide +kernel
theorem dX10_takesRing_36 : decode cX10_takesRing 36 = .ok (.if_icmp .eq 11, 3) := by decide +kernel
theorem dX10_takesRing_39 : decode cX10_takesRing 39 = .ok (.aload_n 0, 1) := by decide +kernel
theorem dX10_takesRing_40 : decode cX10_takesRing 40 = .ok (.iload_n 1, 1) := by decide +kernel
theorem dX10_takesRing_41 : decode cX10_takesRing 41 = .ok (.iload_n 2, 1) := by decide +kernel
theorem dX10_takesRing_42 : decode cX10_takesRing 42 = .ok (.iload_n 3, 1) := by decide +kernel
theorem dX10_takesRing_43 : decode cX10_takesRing 43 = .ok (.invokevirtual 115, 3) := by decide +kernel
theorem dX10_takesRing_46 : decode cX10_takesRing 46 = .ok (.ireturn, 1) := by decide +kernel
theorem dX10_takesRing_47 : decode cX10_takesRing 47 = .ok (.iinc 2 1, 3) := by decide +kernel
theorem dX10_takesRing_50 : decode cX10_takesRing 50 = .ok (.goto (-34), 3) := by decide +kernel
theorem dX10_takesRing_53 : decode cX10_takesRing 53 = .ok (.iinc 1 1, 3) := by decide +kernel
theorem dX10_takesRing_56 : decode cX10_takesRing 56 = .ok (.goto (-54), 3) := by decide +kernel
theorem dX10_takesRing_59 : decode cX10_takesRing 59 = .ok (.iconst 0, 1) := by decide +kernel
theorem dX10_takesRing_60 : decode cX10_takesRing 60 = .ok (.ireturn, 1) := by decide +kernel
theorem dX10_swaps_0 : decode cX10_swaps 0 = .ok (.iconst 0, 1) := by decide +kernel
theorem dX10_swaps_1 : decode cX10_swaps 1 = .ok (.istore_n 1, 1) := by decide +kernel
theorem dX10_swaps_2 : decode cX10_swaps 2 = .ok (.iconst 1, 1) := by decide +kernel
theorem dX10_swaps_3 : decode cX10_swaps 3 = .ok (.istore_n 2, 1) := by decide +kernel
theorem dX10_swaps_4 : decode cX10_swaps 4 = .ok (.iload_n 2, 1) := by decide +kernel
theorem dX10_swaps_5 : decode cX10_swaps 5 = .ok (.ifCond .eq 36, 3) := by decide +kernel
theorem dX10_swaps_8 : decode cX10_swaps 8 = .ok (.aload_n 0, 1) := by decide +kernel
theorem dX10_swaps_9 : decode cX10_swaps 9 = .ok (.invokevirtual 119, 3) := by decide +kernel
theorem dX10_swaps_12 : decode cX10_swaps 12 = .ok (.ifCond .eq 7, 3) := by decide +kernel
theorem dX10_swaps_15 : decode cX10_swaps 15 = .ok (.iconst 1, 1) := by decide +kernel
theorem dX10_swaps_16 : decode cX10_swaps 16 = .ok (.goto 7, 3) := by decide +kernel
theorem dX10_swaps_19 : decode cX10_swaps 19 = .ok (.aload_n 0, 1) := by decide +kernel
theorem dX10_swaps_20 : decode cX10_swaps 20 = .ok (.invokevirtual 123, 3) := by decide +kernel
theorem dX10_swaps_23 : decode cX10_swaps 23 = .ok (.istore_n 3, 1) := by decide +kernel
theorem dX10_swaps_24 : decode cX10_swaps 24 = .ok (.iload_n 1, 1) := by decide +kernel
theorem dX10_swaps_25 : decode cX10_swaps 25 = .ok (.iload_n 3, 1) := by decide +kernel
theorem dX10_swaps_26 : decode cX10_swaps 26 = .ok (.iadd, 1) := by decide +kernel
theorem dX10_swaps_27 : decode cX10_swaps 27 = .ok (.istore_n 1, 1) := by decide +kernel
theorem dX10_swaps_28 : decode cX10_swaps 28 = .ok (.iload_n 3, 1) := by decide +kernel
theorem dX10_swaps_29 : decode cX10_swaps 29 = .ok (.ifCond .le 7, 3) := by decide +kernel
theorem dX10_swaps_32 : decode cX10_swaps 32 = .ok (.iconst 1, 1) := by decide +kernel
theorem dX10_swaps_33 : decode cX10_swaps 33 = .ok (.goto 4, 3) := by decide +kernel
theorem dX10_swaps_36 : decode cX10_swaps 36 = .ok (.iconst 0, 1) := by decide +kernel
theorem dX10_swaps_37 : decode cX10_swaps 37 = .ok (.istore_n 2, 1) := by decide +kernel
theorem dX10_swaps_38 : decode cX10_swaps 38 = .ok (.goto (-34), 3) := by decide +kernel
theorem dX10_swaps_41 : decode cX10_swaps 41 = .ok (.iload_n 1, 1) := by decide +kernel
theorem dX10_swaps_42 : decode cX10_swaps 42 = .ok (.ireturn, 1) := by decide +kernel
theorem dX10_feeOf_0 : decode cX10_feeOf 0 = .ok (.iload_n 0, 1) := by decide +kernel
theorem dX10_feeOf_1 : decode cX10_feeOf 1 = .ok (.bipush 7, 2) := by decide +kernel
theorem dX10_feeOf_3 : decode cX10_feeOf 3 = .ok (.if_icmp .gt 7, 3) := by decide +kernel
theorem dX10_feeOf_6 : decode cX10_feeOf 6 = .ok (.iconst 1, 1) := by decide +kernel
theorem dX10_feeOf_7 : decode cX10_feeOf 7 = .ok (.goto 14, 3) := by decide +kernel
theorem dX10_feeOf_10 : decode cX10_feeOf 10 = .ok (.iload_n 0, 1) := by decide +kernel
theorem dX10_feeOf_11 : decode cX10_feeOf 11 = .ok (.bipush 14, 2) := by decide +kernel
theorem dX10_feeOf_13 : decode cX10_feeOf 13 = .ok (.if_icmp .gt 7, 3) := by decide +kernel
theorem dX10_feeOf_16 : decode cX10_feeOf 16 = .ok (.iconst 2, 1) := by decide +kernel
theorem dX10_feeOf_17 : decode cX10_feeOf 17 = .ok (.goto 4, 3) := by decide +kernel
theorem dX10_feeOf_20 : decode cX10_feeOf 20 = .ok (.iconst 4, 1) := by decide +kernel
theorem dX10_feeOf_21 : decode cX10_feeOf 21 = .ok (.iload_n 1, 1) := by decide +kernel
theorem dX10_feeOf_22 : decode cX10_feeOf 22 = .ok (.iconst 1, 1) := by decide +kernel
theorem dX10_feeOf_23 : decode cX10_feeOf 23 = .ok (.iadd, 1) := by decide +kernel
theorem dX10_feeOf_24 : decode cX10_feeOf 24 = .ok (.imul, 1) := by decide +kernel
theorem dX10_feeOf_25 : decode cX10_feeOf 25 = .ok (.ireturn, 1) := by decide +kernel
theorem dX10_dayPasses_0 : decode cX10_dayPasses 0 = .ok (.aload_n 0, 1) := by decide +kernel
theorem dX10_dayPasses_1 : decode cX10_dayPasses 1 = .ok (.getfield 7, 3) := by decide +kernel
theorem dX10_dayPasses_4 : decode cX10_dayPasses 4 = .ok (.iconst 3, 1) := by decide +kernel
theorem dX10_dayPasses_5 : decode cX10_dayPasses 5 = .ok (.dup2, 1) := by decide +kernel
theorem dX10_dayPasses_6 : decode cX10_dayPasses 6 = .ok (.iaload, 1) := by decide +kernel
theorem dX10_dayPasses_7 : decode cX10_dayPasses 7 = .ok (.iconst 1, 1) := by decide +kernel
theorem dX10_dayPasses_8 : decode cX10_dayPasses 8 = .ok (.iadd, 1) := by decide +kernel
theorem dX10_dayPasses_9 : decode cX10_dayPasses 9 = .ok (.iastore, 1) := by decide +kernel
theorem dX10_dayPasses_10 : decode cX10_dayPasses 10 = .ok (.iconst 0, 1) := by decide +kernel
theorem dX10_dayPasses_11 : decode cX10_dayPasses 11 = .ok (.istore_n 1, 1) := by decide +kernel
theorem dX10_dayPasses_12 : decode cX10_dayPasses 12 = .ok (.iload_n 1, 1) := by decide +kernel
theorem dX10_dayPasses_13 : decode cX10_dayPasses 13 = .ok (.aload_n 0, 1) := by decide +kernel
theorem dX10_dayPasses_14 : decode cX10_dayPasses 14 = .ok (.getfield 7, 3) := by decide +kernel
theorem dX10_dayPasses_17 : decode cX10_dayPasses 17 = .ok (.iconst 4, 1) := by decide +kernel
theorem dX10_dayPasses_18 : decode cX10_dayPasses 18 = .ok (.iaload, 1) := by decide +kernel
theorem dX10_dayPasses_19 : decode cX10_dayPasses 19 = .ok (.if_icmp .ge 36, 3) := by decide +kernel
theorem dX10_dayPasses_22 : decode cX10_dayPasses 22 = .ok (.aload_n 0, 1) := by decide +kernel
theorem dX10_dayPasses_23 : decode cX10_dayPasses 23 = .ok (.iload_n 1, 1) := by decide +kernel
theorem dX10_dayPasses_24 : decode cX10_dayPasses 24 = .ok (.iconst 4, 1) := by decide +kernel
theorem dX10_dayPasses_25 : decode cX10_dayPasses 25 = .ok (.invokevirtual 36, 3) := by decide +kernel
theorem dX10_dayPasses_28 : decode cX10_dayPasses 28 = .ok (.aload_n 0, 1) := by decide +kernel
theorem dX10_dayPasses_29 : decode cX10_dayPasses 29 = .ok (.getfield 7, 3) := by decide +kernel
theorem dX10_dayPasses_32 : decode cX10_dayPasses 32 = .ok (.iconst 3, 1) := by decide +kernel
theorem dX10_dayPasses_33 : decode cX10_dayPasses 33 = .ok (.iaload, 1) := by decide +kernel
theorem dX10_dayPasses_34 : decode cX10_dayPasses 34 = .ok (.if_icmp .ne 15, 3) := by decide +kernel
theorem dX10_dayPasses_37 : decode cX10_dayPasses 37 = .ok (.aload_n 0, 1) := by decide +kernel
theorem dX10_dayPasses_38 : decode cX10_dayPasses 38 = .ok (.iload_n 1, 1) := by decide +kernel
theorem dX10_dayPasses_39 : decode cX10_dayPasses 39 = .ok (.iconst 4, 1) := by decide +kernel
theorem dX10_dayPasses_40 : decode cX10_dayPasses 40 = .ok (.iconst (-1), 1) := by decide +kernel
theorem dX10_dayPasses_41 : decode cX10_dayPasses 41 = .ok (.invokevirtual 44, 3) := by decide +kernel
theorem dX10_dayPasses_44 : decode cX10_dayPasses 44 = .ok (.aload_n 0, 1) := by decide +kernel
theorem dX10_dayPasses_45 : decode cX10_dayPasses 45 = .ok (.iload_n 1, 1) := by decide +kernel
theorem dX10_dayPasses_46 : decode cX10_dayPasses 46 = .ok (.invokevirtual 78, 3) := by decide +kernel
theorem dX10_dayPasses_49 : decode cX10_dayPasses 49 = .ok (.iinc 1 1, 3) := by decide +kernel
theorem dX10_dayPasses_52 : decode cX10_dayPasses 52 = .ok (.goto (-40), 3) := by decide +kernel
theorem dX10_dayPasses_55 : decode cX10_dayPasses 55 = .ok (.iconst 0, 1) := by decide +kernel
theorem dX10_dayPasses_56 : decode cX10_dayPasses 56 = .ok (.istore_n 1, 1) := by decide +kernel
theorem dX10_dayPasses_57 : decode cX10_dayPasses 57 = .ok (.iconst 0, 1) := by decide +kernel
theorem dX10_dayPasses_58 : decode cX10_dayPasses 58 = .ok (.istore_n 2, 1) := by decide +kernel
theorem dX10_dayPasses_59 : decode cX10_dayPasses 59 = .ok (.iload_n 2, 1) := by decide +kernel
theorem dX10_dayPasses_60 : decode cX10_dayPasses 60 = .ok (.aload_n 0, 1) := by decide +kernel
theorem dX10_dayPasses_61 : decode cX10_dayPasses 61 = .ok (.getfield 7, 3) := by decide +kernel
theorem dX10_dayPasses_64 : decode cX10_dayPasses 64 = .ok (.iconst 5, 1) := by decide +kernel
theorem dX10_dayPasses_65 : decode cX10_dayPasses 65 = .ok (.iaload, 1) := by decide +kernel
theorem dX10_dayPasses_66 : decode cX10_dayPasses 66 = .ok (.if_icmp .ge 97, 3) := by decide +kernel
theorem dX10_dayPasses_69 : decode cX10_dayPasses 69 = .ok (.aload_n 0, 1) := by decide +kernel
theorem dX10_dayPasses_70 : decode cX10_dayPasses 70 = .ok (.iload_n 2, 1) := by decide +kernel
theorem dX10_dayPasses_71 : decode cX10_dayPasses 71 = .ok (.iconst 0, 1) := by decide +kernel
theorem dX10_dayPasses_72 : decode cX10_dayPasses 72 = .ok (.invokevirtual 66, 3) := by decide +kernel
theorem dX10_dayPasses_75 : decode cX10_dayPasses 75 = .ok (.ifCond .lt 11, 3) := by decide +kernel
theorem dX10_dayPasses_78 : decode cX10_dayPasses 78 = .ok (.aload_n 0, 1) := by decide +kernel
theorem dX10_dayPasses_79 : decode cX10_dayPasses 79 = .ok (.iload_n 2, 1) := by decide +kernel
theorem dX10_dayPasses_80 : decode cX10_dayPasses 80 = .ok (.invokevirtual 93, 3) := by decide +kernel
theorem dX10_dayPasses_83 : decode cX10_dayPasses 83 = .ok (.goto 4, 3) := by decide +kernel
theorem dX10_dayPasses_86 : decode cX10_dayPasses 86 = .ok (.iconst 0, 1) := by decide +kernel
theorem dX10_dayPasses_87 : decode cX10_dayPasses 87 = .ok (.istore_n 3, 1) := by decide +kernel
theorem dX10_dayPasses_88 : decode cX10_dayPasses 88 = .ok (.iload_n 3, 1) := by decide +kernel
theorem dX10_dayPasses_89 : decode cX10_dayPasses 89 = .ok (.ifCond .le 23, 3) := by decide +kernel
theorem dX10_dayPasses_92 : decode cX10_dayPasses 92 = .ok (.aload_n 0, 1) := by decide +kernel
theorem dX10_dayPasses_93 : decode cX10_dayPasses 93 = .ok (.iload_n 2, 1) := by decide +kernel
theorem dX10_dayPasses_94 : decode cX10_dayPasses 94 = .ok (.iload_n 3, 1) := by decide +kernel
theorem dX10_dayPasses_95 : decode cX10_dayPasses 95 = .ok (.aload_n 0, 1) := by decide +kernel
theorem dX10_dayPasses_96 : decode cX10_dayPasses 96 = .ok (.aload_n 0, 1) := by decide +kernel
theorem dX10_dayPasses_97 : decode cX10_dayPasses 97 = .ok (.iload_n 2, 1) := by decide +kernel
theorem dX10_dayPasses_98 : decode cX10_dayPasses 98 = .ok (.iconst 0, 1) := by decide +kernel
theorem dX10_dayPasses_99 : decode cX10_dayPasses 99 = .ok (.invokevirtual 66, 3) := by decide +kernel
theorem dX10_dayPasses_102 : decode cX10_dayPasses 102 = .ok (.iconst 0, 1) := by decide +kernel
theorem dX10_dayPasses_103 : decode cX10_dayPasses 103 = .ok (.invokevirtual 36, 3) := by decide +kernel
theorem dX10_dayPasses_106 : decode cX10_dayPasses 106 = .ok (.invokestatic 127, 3) := by decide +kernel
theorem dX10_dayPasses_109 : decode cX10_dayPasses 109 = .ok (.invokevirtual 99, 3) := by decide +kernel
theorem dX10_dayPasses_112 : decode cX10_dayPasses 112 = .ok (.iload_n 3, 1) := by decide +kernel
theorem dX10_dayPasses_113 : decode cX10_dayPasses 113 = .ok (.bipush 21, 2) := by decide +kernel
theorem dX10_dayPasses_115 : decode cX10_dayPasses 115 = .ok (.if_icmp .ne 42, 3) := by decide +kernel
theorem dX10_dayPasses_118 : decode cX10_dayPasses 118 = .ok (.aload_n 0, 1) := by decide +kernel
theorem dX10_dayPasses_119 : decode cX10_dayPasses 119 = .ok (.iload_n 2, 1) := by decide +kernel
theorem dX10_dayPasses_120 : decode cX10_dayPasses 120 = .ok (.aload_n 0, 1) := by decide +kernel
theorem dX10_dayPasses_121 : decode cX10_dayPasses 121 = .ok (.getfield 7, 3) := by decide +kernel
theorem dX10_dayPasses_124 : decode cX10_dayPasses 124 = .ok (.iconst 2, 1) := by decide +kernel
theorem dX10_dayPasses_125 : decode cX10_dayPasses 125 = .ok (.iaload, 1) := by decide +kernel
theorem dX10_dayPasses_126 : decode cX10_dayPasses 126 = .ok (.invokevirtual 99, 3) := by decide +kernel
theorem dX10_dayPasses_129 : decode cX10_dayPasses 129 = .ok (.aload_n 0, 1) := by decide +kernel
theorem dX10_dayPasses_130 : decode cX10_dayPasses 130 = .ok (.iload_n 2, 1) := by decide +kernel
theorem dX10_dayPasses_131 : decode cX10_dayPasses 131 = .ok (.bipush 7, 2) := by decide +kernel
theorem dX10_dayPasses_133 : decode cX10_dayPasses 133 = .ok (.aload_n 0, 1) := by decide +kernel
theorem dX10_dayPasses_134 : decode cX10_dayPasses 134 = .ok (.iload_n 2, 1) := by decide +kernel
theorem dX10_dayPasses_135 : decode cX10_dayPasses 135 = .ok (.bipush 7, 2) := by decide +kernel
theorem dX10_dayPasses_137 : decode cX10_dayPasses 137 = .ok (.invokevirtual 66, 3) := by decide +kernel
theorem dX10_dayPasses_140 : decode cX10_dayPasses 140 = .ok (.iconst 1, 1) := by decide +kernel
theorem dX10_dayPasses_141 : decode cX10_dayPasses 141 = .ok (.iadd, 1) := by decide +kernel
theorem dX10_dayPasses_142 : decode cX10_dayPasses 142 = .ok (.invokevirtual 48, 3) := by decide +kernel
theorem dX10_dayPasses_145 : decode cX10_dayPasses 145 = .ok (.aload_n 0, 1) := by decide +kernel
theorem dX10_dayPasses_146 : decode cX10_dayPasses 146 = .ok (.aload_n 0, 1) := by decide +kernel
theorem dX10_dayPasses_147 : decode cX10_dayPasses 147 = .ok (.iload_n 2, 1) := by decide +kernel
theorem dX10_dayPasses_148 : decode cX10_dayPasses 148 = .ok (.invokevirtual 96, 3) := by decide +kernel
theorem dX10_dayPasses_151 : decode cX10_dayPasses 151 = .ok (.invokevirtual 78, 3) := by decide +kernel
theorem dX10_dayPasses_154 : decode cX10_dayPasses 154 = .ok (.iinc 1 1, 3) := by decide +kernel
theorem dX10_dayPasses_157 : decode cX10_dayPasses 157 = .ok (.iinc 2 1, 3) := by decide +kernel
theorem dX10_dayPasses_160 : decode cX10_dayPasses 160 = .ok (.goto (-101), 3) := by decide +kernel
theorem dX10_dayPasses_163 : decode cX10_dayPasses 163 = .ok (.iload_n 1, 1) := by decide +kernel
theorem dX10_dayPasses_164 : decode cX10_dayPasses 164 = .ok (.ireturn, 1) := by decide +kernel
theorem dX10_passDays_0 : decode cX10_passDays 0 = .ok (.iconst 0, 1) := by decide +kernel
theorem dX10_passDays_1 : decode cX10_passDays 1 = .ok (.istore_n 2, 1) := by decide +kernel
theorem dX10_passDays_2 : decode cX10_passDays 2 = .ok (.iconst 0, 1) := by decide +kernel
theorem dX10_passDays_3 : decode cX10_passDays 3 = .ok (.istore_n 3, 1) := by decide +kernel
theorem dX10_passDays_4 : decode cX10_passDays 4 = .ok (.iload_n 3, 1) := by decide +kernel
theorem dX10_passDays_5 : decode cX10_passDays 5 = .ok (.iload_n 1, 1) := by decide +kernel
theorem dX10_passDays_6 : decode cX10_passDays 6 = .ok (.if_icmp .ge 20, 3) := by decide +kernel
theorem dX10_passDays_9 : decode cX10_passDays 9 = .ok (.aload_n 0, 1) := by decide +kernel
theorem dX10_passDays_10 : decode cX10_passDays 10 = .ok (.invokevirtual 130, 3) := by decide +kernel
theorem dX10_passDays_13 : decode cX10_passDays 13 = .ok (.istore 4, 2) := by decide +kernel
theorem dX10_passDays_15 : decode cX10_passDays 15 = .ok (.iload_n 2, 1) := by decide +kernel
theorem dX10_passDays_16 : decode cX10_passDays 16 = .ok (.iload 4, 2) := by decide +kernel
theorem dX10_passDays_18 : decode cX10_passDays 18 = .ok (.iadd, 1) := by decide +kernel
theorem dX10_passDays_19 : decode cX10_passDays 19 = .ok (.istore_n 2, 1) := by decide +kernel
theorem dX10_passDays_20 : decode cX10_passDays 20 = .ok (.iinc 3 1, 3) := by decide +kernel
theorem dX10_passDays_23 : decode cX10_passDays 23 = .ok (.goto (-19), 3) := by decide +kernel
theorem dX10_passDays_26 : decode cX10_passDays 26 = .ok (.iload_n 2, 1) := by decide +kernel
theorem dX10_passDays_27 : decode cX10_passDays 27 = .ok (.ireturn, 1) := by decide +kernel
theorem dX10_passes_0 : decode cX10_passes 0 = .ok (.iload_n 1, 1) := by decide +kernel
theorem dX10_passes_1 : decode cX10_passes 1 = .ok (.iconst 1, 1) := by decide +kernel
theorem dX10_passes_2 : decode cX10_passes 2 = .ok (.bipush 99, 2) := by decide +kernel
theorem dX10_passes_4 : decode cX10_passes 4 = .ok (.invokestatic 28, 3) := by decide +kernel
theorem dX10_passes_7 : decode cX10_passes 7 = .ok (.ifCond .ne 5, 3) := by decide +kernel
theorem dX10_passes_10 : decode cX10_passes 10 = .ok (.iconst (-1), 1) := by decide +kernel
theorem dX10_passes_11 : decode cX10_passes 11 = .ok (.ireturn, 1) := by decide +kernel
theorem dX10_passes_12 : decode cX10_passes 12 = .ok (.aload_n 0, 1) := by decide +kernel
theorem dX10_passes_13 : decode cX10_passes 13 = .ok (.getfield 7, 3) := by decide +kernel
theorem dX10_passes_16 : decode cX10_passes 16 = .ok (.iconst 3, 1) := by decide +kernel
theorem dX10_passes_17 : decode cX10_passes 17 = .ok (.iaload, 1) := by decide +kernel
theorem dX10_passes_18 : decode cX10_passes 18 = .ok (.iload_n 1, 1) := by decide +kernel
theorem dX10_passes_19 : decode cX10_passes 19 = .ok (.iadd, 1) := by decide +kernel
theorem dX10_passes_20 : decode cX10_passes 20 = .ok (.sipush 5000, 3) := by decide +kernel
theorem dX10_passes_23 : decode cX10_passes 23 = .ok (.if_icmp .le 8, 3) := by decide +kernel
theorem dX10_passes_26 : decode cX10_passes 26 = .ok (.bipush (-3), 2) := by decide +kernel
theorem dX10_passes_28 : decode cX10_passes 28 = .ok (.goto 8, 3) := by decide +kernel
theorem dX10_passes_31 : decode cX10_passes 31 = .ok (.aload_n 0, 1) := by decide +kernel
theorem dX10_passes_32 : decode cX10_passes 32 = .ok (.iload_n 1, 1) := by decide +kernel
theorem dX10_passes_33 : decode cX10_passes 33 = .ok (.invokevirtual 133, 3) := by decide +kernel
theorem dX10_passes_36 : decode cX10_passes 36 = .ok (.ireturn, 1) := by decide +kernel
theorem dX10_least_0 : decode cX10_least 0 = .ok (.iload_n 0, 1) := by decide +kernel
theorem dX10_least_1 : decode cX10_least 1 = .ok (.ifCond .ne 7, 3) := by decide +kernel
theorem dX10_least_4 : decode cX10_least 4 = .ok (.iconst 1, 1) := by decide +kernel
theorem dX10_least_5 : decode cX10_least 5 = .ok (.goto 4, 3) := by decide +kernel
theorem dX10_least_8 : decode cX10_least 8 = .ok (.iconst 0, 1) := by decide +kernel
theorem dX10_least_9 : decode cX10_least 9 = .ok (.ireturn, 1) := by decide +kernel
theorem dX10_most_0 : decode cX10_most 0 = .ok (.iload_n 0, 1) := by decide +kernel
theorem dX10_most_1 : decode cX10_most 1 = .ok (.ifCond .ne 8, 3) := by decide +kernel
theorem dX10_most_4 : decode cX10_most 4 = .ok (.bipush 60, 2) := by decide +kernel
theorem dX10_most_6 : decode cX10_most 6 = .ok (.goto 14, 3) := by decide +kernel
theorem dX10_most_9 : decode cX10_most 9 = .ok (.iload_n 0, 1) := by decide +kernel
theorem dX10_most_10 : decode cX10_most 10 = .ok (.iconst 1, 1) := by decide +kernel
theorem dX10_most_11 : decode cX10_most 11 = .ok (.if_icmp .ne 7, 3) := by decide +kernel
theorem dX10_most_14 : decode cX10_most 14 = .ok (.iconst 5, 1) := by decide +kernel
theorem dX10_most_15 : decode cX10_most 15 = .ok (.goto 5, 3) := by decide +kernel
theorem dX10_most_18 : decode cX10_most 18 = .ok (.bipush 99, 2) := by decide +kernel
theorem dX10_most_20 : decode cX10_most 20 = .ok (.ireturn, 1) := by decide +kernel
theorem dX10_sets_0 : decode cX10_sets 0 = .ok (.iload_n 1, 1) := by decide +kernel
theorem dX10_sets_1 : decode cX10_sets 1 = .ok (.iconst 0, 1) := by decide +kernel
theorem dX10_sets_2 : decode cX10_sets 2 = .ok (.iconst 2, 1) := by decide +kernel
theorem dX10_sets_3 : decode cX10_sets 3 = .ok (.invokestatic 28, 3) := by decide +kernel
theorem dX10_sets_6 : decode cX10_sets 6 = .ok (.ifCond .eq 18, 3) := by decide +kernel
theorem dX10_sets_9 : decode cX10_sets 9 = .ok (.iload_n 2, 1) := by decide +kernel
theorem dX10_sets_10 : decode cX10_sets 10 = .ok (.iload_n 1, 1) := by decide +kernel
theorem dX10_sets_11 : decode cX10_sets 11 = .ok (.invokestatic 136, 3) := by decide +kernel
theorem dX10_sets_14 : decode cX10_sets 14 = .ok (.iload_n 1, 1) := by decide +kernel
theorem dX10_sets_15 : decode cX10_sets 15 = .ok (.invokestatic 139, 3) := by decide +kernel
theorem dX10_sets_18 : decode cX10_sets 18 = .ok (.invokestatic 28, 3) := by decide +kernel
theorem dX10_sets_21 : decode cX10_sets 21 = .ok (.ifCond .ne 5, 3) := by decide +kernel
theorem dX10_sets_24 : decode cX10_sets 24 = .ok (.iconst (-1), 1) := by decide +kernel
theorem dX10_sets_25 : decode cX10_sets 25 = .ok (.ireturn, 1) := by decide +kernel
theorem dX10_sets_26 : decode cX10_sets 26 = .ok (.aload_n 0, 1) := by decide +kernel
theorem dX10_sets_27 : decode cX10_sets 27 = .ok (.getfield 7, 3) := by decide +kernel
theorem dX10_sets_30 : decode cX10_sets 30 = .ok (.iload_n 1, 1) := by decide +kernel
theorem dX10_sets_31 : decode cX10_sets 31 = .ok (.iaload, 1) := by decide +kernel
theorem dX10_sets_32 : decode cX10_sets 32 = .ok (.istore_n 3, 1) := by decide +kernel
theorem dX10_sets_33 : decode cX10_sets 33 = .ok (.aload_n 0, 1) := by decide +kernel
theorem dX10_sets_34 : decode cX10_sets 34 = .ok (.getfield 7, 3) := by decide +kernel
theorem dX10_sets_37 : decode cX10_sets 37 = .ok (.iload_n 1, 1) := by decide +kernel
theorem dX10_sets_38 : decode cX10_sets 38 = .ok (.iload_n 2, 1) := by decide +kernel
theorem dX10_sets_39 : decode cX10_sets 39 = .ok (.iastore, 1) := by decide +kernel
theorem dX10_sets_40 : decode cX10_sets 40 = .ok (.iload_n 3, 1) := by decide +kernel
theorem dX10_sets_41 : decode cX10_sets 41 = .ok (.ireturn, 1) := by decide +kernel
theorem dX10_locker_0 : decode cX10_locker 0 = .ok (.aload_n 0, 1) := by decide +kernel
theorem dX10_locker_1 : decode cX10_locker 1 = .ok (.invokevirtual 142, 3) := by decide +kernel
theorem dX10_locker_4 : decode cX10_locker 4 = .ok (.aload_n 0, 1) := by decide +kernel
theorem dX10_locker_5 : decode cX10_locker 5 = .ok (.aload_n 0, 1) := by decide +kernel
theorem dX10_locker_6 : decode cX10_locker 6 = .ok (.iload_n 1, 1) := by decide +kernel
theorem dX10_locker_7 : decode cX10_locker 7 = .ok (.invokevirtual 145, 3) := by decide +kernel
theorem dX10_locker_10 : decode cX10_locker 10 = .ok (.invokevirtual 148, 3) := by decide +kernel
theorem dX10_locker_13 : decode cX10_locker 13 = .ok (.ireturn, 1) := by decide +kernel
theorem dX10_person_0 : decode cX10_person 0 = .ok (.aload_n 0, 1) := by decide +kernel
theorem dX10_person_1 : decode cX10_person 1 = .ok (.invokevirtual 142, 3) := by decide +kernel
theorem dX10_person_4 : decode cX10_person 4 = .ok (.aload_n 0, 1) := by decide +kernel
theorem dX10_person_5 : decode cX10_person 5 = .ok (.aload_n 0, 1) := by decide +kernel
theorem dX10_person_6 : decode cX10_person 6 = .ok (.invokevirtual 151, 3) := by decide +kernel
theorem dX10_person_9 : decode cX10_person 9 = .ok (.invokevirtual 148, 3) := by decide +kernel
theorem dX10_person_12 : decode cX10_person 12 = .ok (.ireturn, 1) := by decide +kernel
theorem dX10_stand_0 : decode cX10_stand 0 = .ok (.aload_n 0, 1) := by decide +kernel
theorem dX10_stand_1 : decode cX10_stand 1 = .ok (.invokevirtual 142, 3) := by decide +kernel
theorem dX10_stand_4 : decode cX10_stand 4 = .ok (.aload_n 0, 1) := by decide +kernel
theorem dX10_stand_5 : decode cX10_stand 5 = .ok (.aload_n 0, 1) := by decide +kernel
theorem dX10_stand_6 : decode cX10_stand 6 = .ok (.iload_n 1, 1) := by decide +kernel
theorem dX10_stand_7 : decode cX10_stand 7 = .ok (.iload_n 2, 1) := by decide +kernel
theorem dX10_stand_8 : decode cX10_stand 8 = .ok (.invokevirtual 154, 3) := by decide +kernel
theorem dX10_stand_11 : decode cX10_stand 11 = .ok (.invokevirtual 148, 3) := by decide +kernel
theorem dX10_stand_14 : decode cX10_stand 14 = .ok (.ireturn, 1) := by decide +kernel
theorem dX10_lend_0 : decode cX10_lend 0 = .ok (.aload_n 0, 1) := by decide +kernel
theorem dX10_lend_1 : decode cX10_lend 1 = .ok (.invokevirtual 142, 3) := by decide +kernel
theorem dX10_lend_4 : decode cX10_lend 4 = .ok (.aload_n 0, 1) := by decide +kernel
theorem dX10_lend_5 : decode cX10_lend 5 = .ok (.aload_n 0, 1) := by decide +kernel
theorem dX10_lend_6 : decode cX10_lend 6 = .ok (.iload_n 1, 1) := by decide +kernel
theorem dX10_lend_7 : decode cX10_lend 7 = .ok (.iload_n 2, 1) := by decide +kernel
theorem dX10_lend_8 : decode cX10_lend 8 = .ok (.invokevirtual 157, 3) := by decide +kernel
theorem dX10_lend_11 : decode cX10_lend 11 = .ok (.invokevirtual 148, 3) := by decide +kernel
theorem dX10_lend_14 : decode cX10_lend 14 = .ok (.ireturn, 1) := by decide +kernel
theorem dX10_giveBack_0 : decode cX10_giveBack 0 = .ok (.aload_n 0, 1) := by decide +kernel
theorem dX10_giveBack_1 : decode cX10_giveBack 1 = .ok (.invokevirtual 142, 3) := by decide +kernel
theorem dX10_giveBack_4 : decode cX10_giveBack 4 = .ok (.aload_n 0, 1) := by decide +kernel
theorem dX10_giveBack_5 : decode cX10_giveBack 5 = .ok (.aload_n 0, 1) := by decide +kernel
theorem dX10_giveBack_6 : decode cX10_giveBack 6 = .ok (.iload_n 1, 1) := by decide +kernel
theorem dX10_giveBack_7 : decode cX10_giveBack 7 = .ok (.invokevirtual 160, 3) := by decide +kernel
theorem dX10_giveBack_10 : decode cX10_giveBack 10 = .ok (.invokevirtual 148, 3) := by decide +kernel
theorem dX10_giveBack_13 : decode cX10_giveBack 13 = .ok (.ireturn, 1) := by decide +kernel
theorem dX10_renew_0 : decode cX10_renew 0 = .ok (.aload_n 0, 1) := by decide +kernel
theorem dX10_renew_1 : decode cX10_renew 1 = .ok (.invokevirtual 142, 3) := by decide +kernel
theorem dX10_renew_4 : decode cX10_renew 4 = .ok (.aload_n 0, 1) := by decide +kernel
theorem dX10_renew_5 : decode cX10_renew 5 = .ok (.aload_n 0, 1) := by decide +kernel
theorem dX10_renew_6 : decode cX10_renew 6 = .ok (.iload_n 1, 1) := by decide +kernel
theorem dX10_renew_7 : decode cX10_renew 7 = .ok (.invokevirtual 163, 3) := by decide +kernel
theorem dX10_renew_10 : decode cX10_renew 10 = .ok (.invokevirtual 148, 3) := by decide +kernel
theorem dX10_renew_13 : decode cX10_renew 13 = .ok (.ireturn, 1) := by decide +kernel
theorem dX10_lose_0 : decode cX10_lose 0 = .ok (.aload_n 0, 1) := by decide +kernel
theorem dX10_lose_1 : decode cX10_lose 1 = .ok (.invokevirtual 142, 3) := by decide +kernel
theorem dX10_lose_4 : decode cX10_lose 4 = .ok (.aload_n 0, 1) := by decide +kernel
theorem dX10_lose_5 : decode cX10_lose 5 = .ok (.aload_n 0, 1) := by decide +kernel
theorem dX10_lose_6 : decode cX10_lose 6 = .ok (.iload_n 1, 1) := by decide +kernel
theorem dX10_lose_7 : decode cX10_lose 7 = .ok (.invokevirtual 166, 3) := by decide +kernel
theorem dX10_lose_10 : decode cX10_lose 10 = .ok (.invokevirtual 148, 3) := by decide +kernel
theorem dX10_lose_13 : decode cX10_lose 13 = .ok (.ireturn, 1) := by decide +kernel
theorem dX10_wish_0 : decode cX10_wish 0 = .ok (.aload_n 0, 1) := by decide +kernel
theorem dX10_wish_1 : decode cX10_wish 1 = .ok (.invokevirtual 142, 3) := by decide +kernel
theorem dX10_wish_4 : decode cX10_wish 4 = .ok (.aload_n 0, 1) := by decide +kernel
theorem dX10_wish_5 : decode cX10_wish 5 = .ok (.aload_n 0, 1) := by decide +kernel
theorem dX10_wish_6 : decode cX10_wish 6 = .ok (.iload_n 1, 1) := by decide +kernel
theorem dX10_wish_7 : decode cX10_wish 7 = .ok (.iload_n 2, 1) := by decide +kernel
theorem dX10_wish_8 : decode cX10_wish 8 = .ok (.invokevirtual 169, 3) := by decide +kernel
theorem dX10_wish_11 : decode cX10_wish 11 = .ok (.invokevirtual 148, 3) := by decide +kernel
theorem dX10_wish_14 : decode cX10_wish 14 = .ok (.ireturn, 1) := by decide +kernel
theorem dX10_noWish_0 : decode cX10_noWish 0 = .ok (.aload_n 0, 1) := by decide +kernel
theorem dX10_noWish_1 : decode cX10_noWish 1 = .ok (.invokevirtual 142, 3) := by decide +kernel
theorem dX10_noWish_4 : decode cX10_noWish 4 = .ok (.aload_n 0, 1) := by decide +kernel
theorem dX10_noWish_5 : decode cX10_noWish 5 = .ok (.aload_n 0, 1) := by decide +kernel
theorem dX10_noWish_6 : decode cX10_noWish 6 = .ok (.iload_n 1, 1) := by decide +kernel
theorem dX10_noWish_7 : decode cX10_noWish 7 = .ok (.invokevirtual 172, 3) := by decide +kernel
theorem dX10_noWish_10 : decode cX10_noWish 10 = .ok (.invokevirtual 148, 3) := by decide +kernel
theorem dX10_noWish_13 : decode cX10_noWish 13 = .ok (.ireturn, 1) := by decide +kernel
theorem dX10_swap_0 : decode cX10_swap 0 = .ok (.aload_n 0, 1) := by decide +kernel
theorem dX10_swap_1 : decode cX10_swap 1 = .ok (.invokevirtual 142, 3) := by decide +kernel
theorem dX10_swap_4 : decode cX10_swap 4 = .ok (.aload_n 0, 1) := by decide +kernel
theorem dX10_swap_5 : decode cX10_swap 5 = .ok (.aload_n 0, 1) := by decide +kernel
theorem dX10_swap_6 : decode cX10_swap 6 = .ok (.invokevirtual 175, 3) := by decide +kernel
theorem dX10_swap_9 : decode cX10_swap 9 = .ok (.invokevirtual 148, 3) := by decide +kernel
theorem dX10_swap_12 : decode cX10_swap 12 = .ok (.ireturn, 1) := by decide +kernel
theorem dX10_pay_0 : decode cX10_pay 0 = .ok (.aload_n 0, 1) := by decide +kernel
theorem dX10_pay_1 : decode cX10_pay 1 = .ok (.invokevirtual 142, 3) := by decide +kernel
theorem dX10_pay_4 : decode cX10_pay 4 = .ok (.aload_n 0, 1) := by decide +kernel
theorem dX10_pay_5 : decode cX10_pay 5 = .ok (.aload_n 0, 1) := by decide +kernel
theorem dX10_pay_6 : decode cX10_pay 6 = .ok (.iload_n 1, 1) := by decide +kernel
theorem dX10_pay_7 : decode cX10_pay 7 = .ok (.iload_n 2, 1) := by decide +kernel
theorem dX10_pay_8 : decode cX10_pay 8 = .ok (.invokevirtual 178, 3) := by decide +kernel
theorem dX10_pay_11 : decode cX10_pay 11 = .ok (.invokevirtual 148, 3) := by decide +kernel
theorem dX10_pay_14 : decode cX10_pay 14 = .ok (.ireturn, 1) := by decide +kernel
theorem dX10_pass_0 : decode cX10_pass 0 = .ok (.aload_n 0, 1) := by decide +kernel
theorem dX10_pass_1 : decode cX10_pass 1 = .ok (.invokevirtual 142, 3) := by decide +kernel
theorem dX10_pass_4 : decode cX10_pass 4 = .ok (.aload_n 0, 1) := by decide +kernel
theorem dX10_pass_5 : decode cX10_pass 5 = .ok (.aload_n 0, 1) := by decide +kernel
theorem dX10_pass_6 : decode cX10_pass 6 = .ok (.iload_n 1, 1) := by decide +kernel
theorem dX10_pass_7 : decode cX10_pass 7 = .ok (.invokevirtual 181, 3) := by decide +kernel
theorem dX10_pass_10 : decode cX10_pass 10 = .ok (.invokevirtual 148, 3) := by decide +kernel
theorem dX10_pass_13 : decode cX10_pass 13 = .ok (.ireturn, 1) := by decide +kernel
theorem dX10_set_0 : decode cX10_set 0 = .ok (.aload_n 0, 1) := by decide +kernel
theorem dX10_set_1 : decode cX10_set 1 = .ok (.invokevirtual 142, 3) := by decide +kernel
theorem dX10_set_4 : decode cX10_set 4 = .ok (.aload_n 0, 1) := by decide +kernel
theorem dX10_set_5 : decode cX10_set 5 = .ok (.aload_n 0, 1) := by decide +kernel
theorem dX10_set_6 : decode cX10_set 6 = .ok (.iload_n 1, 1) := by decide +kernel
theorem dX10_set_7 : decode cX10_set 7 = .ok (.iload_n 2, 1) := by decide +kernel
theorem dX10_set_8 : decode cX10_set 8 = .ok (.invokevirtual 184, 3) := by decide +kernel
theorem dX10_set_11 : decode cX10_set 11 = .ok (.invokevirtual 148, 3) := by decide +kernel
theorem dX10_set_14 : decode cX10_set 14 = .ok (.ireturn, 1) := by decide +kernel
theorem dX10_orNone_0 : decode cX10_orNone 0 = .ok (.iload_n 0, 1) := by decide +kernel
theorem dX10_orNone_1 : decode cX10_orNone 1 = .ok (.ifCond .ge 8, 3) := by decide +kernel
theorem dX10_orNone_4 : decode cX10_orNone 4 = .ok (.bipush (-4), 2) := by decide +kernel
theorem dX10_orNone_6 : decode cX10_orNone 6 = .ok (.goto 4, 3) := by decide +kernel
theorem dX10_orNone_9 : decode cX10_orNone 9 = .ok (.iload_n 0, 1) := by decide +kernel
theorem dX10_orNone_10 : decode cX10_orNone 10 = .ok (.ireturn, 1) := by decide +kernel
theorem dX10_personOf_0 : decode cX10_personOf 0 = .ok (.aload_n 0, 1) := by decide +kernel
theorem dX10_personOf_1 : decode cX10_personOf 1 = .ok (.iload_n 1, 1) := by decide +kernel
theorem dX10_personOf_2 : decode cX10_personOf 2 = .ok (.invokevirtual 81, 3) := by decide +kernel
theorem dX10_personOf_5 : decode cX10_personOf 5 = .ok (.ifCond .eq 13, 3) := by decide +kernel
theorem dX10_personOf_8 : decode cX10_personOf 8 = .ok (.iload_n 2, 1) := by decide +kernel
theorem dX10_personOf_9 : decode cX10_personOf 9 = .ok (.iconst 0, 1) := by decide +kernel
theorem dX10_personOf_10 : decode cX10_personOf 10 = .ok (.bipush 9, 2) := by decide +kernel
theorem dX10_personOf_12 : decode cX10_personOf 12 = .ok (.invokestatic 28, 3) := by decide +kernel
theorem dX10_personOf_15 : decode cX10_personOf 15 = .ok (.ifCond .ne 5, 3) := by decide +kernel
theorem dX10_personOf_18 : decode cX10_personOf 18 = .ok (.iconst (-1), 1) := by decide +kernel
theorem dX10_personOf_19 : decode cX10_personOf 19 = .ok (.ireturn, 1) := by decide +kernel
theorem dX10_personOf_20 : decode cX10_personOf 20 = .ok (.iload_n 2, 1) := by decide +kernel
theorem dX10_personOf_21 : decode cX10_personOf 21 = .ok (.iconst 4, 1) := by decide +kernel
theorem dX10_personOf_22 : decode cX10_personOf 22 = .ok (.if_icmp .ge 15, 3) := by decide +kernel
theorem dX10_personOf_25 : decode cX10_personOf 25 = .ok (.aload_n 0, 1) := by decide +kernel
theorem dX10_personOf_26 : decode cX10_personOf 26 = .ok (.iload_n 1, 1) := by decide +kernel
theorem dX10_personOf_27 : decode cX10_personOf 27 = .ok (.iconst 0, 1) := by decide +kernel
theorem dX10_personOf_28 : decode cX10_personOf 28 = .ok (.invokevirtual 66, 3) := by decide +kernel
theorem dX10_personOf_31 : decode cX10_personOf 31 = .ok (.ifCond .ge 6, 3) := by decide +kernel
theorem dX10_personOf_34 : decode cX10_personOf 34 = .ok (.bipush (-4), 2) := by decide +kernel
theorem dX10_personOf_36 : decode cX10_personOf 36 = .ok (.ireturn, 1) := by decide +kernel
theorem dX10_personOf_37 : decode cX10_personOf 37 = .ok (.iload_n 2, 1) := by decide +kernel
theorem dX10_personOf_38 : decode cX10_personOf 38 = .ok (.tableswitch 85 3 9 #[42, 48, 48, 57, 67, 76, 76], 42) := by decide +kernel
theorem dX10_personOf_80 : decode cX10_personOf 80 = .ok (.aload_n 0, 1) := by decide +kernel
theorem dX10_personOf_81 : decode cX10_personOf 81 = .ok (.iload_n 1, 1) := by decide +kernel
theorem dX10_personOf_82 : decode cX10_personOf 82 = .ok (.invokevirtual 93, 3) := by decide +kernel
theorem dX10_personOf_85 : decode cX10_personOf 85 = .ok (.ireturn, 1) := by decide +kernel
theorem dX10_personOf_86 : decode cX10_personOf 86 = .ok (.aload_n 0, 1) := by decide +kernel
theorem dX10_personOf_87 : decode cX10_personOf 87 = .ok (.iload_n 1, 1) := by decide +kernel
theorem dX10_personOf_88 : decode cX10_personOf 88 = .ok (.iload_n 2, 1) := by decide +kernel
theorem dX10_personOf_89 : decode cX10_personOf 89 = .ok (.iconst 1, 1) := by decide +kernel
theorem dX10_personOf_90 : decode cX10_personOf 90 = .ok (.isub, 1) := by decide +kernel
theorem dX10_personOf_91 : decode cX10_personOf 91 = .ok (.invokevirtual 66, 3) := by decide +kernel
theorem dX10_personOf_94 : decode cX10_personOf 94 = .ok (.ireturn, 1) := by decide +kernel
theorem dX10_personOf_95 : decode cX10_personOf 95 = .ok (.aload_n 0, 1) := by decide +kernel
theorem dX10_personOf_96 : decode cX10_personOf 96 = .ok (.iload_n 1, 1) := by decide +kernel
theorem dX10_personOf_97 : decode cX10_personOf 97 = .ok (.iconst 5, 1) := by decide +kernel
theorem dX10_personOf_98 : decode cX10_personOf 98 = .ok (.invokevirtual 66, 3) := by decide +kernel
theorem dX10_personOf_101 : decode cX10_personOf 101 = .ok (.invokestatic 187, 3) := by decide +kernel
theorem dX10_personOf_104 : decode cX10_personOf 104 = .ok (.ireturn, 1) := by decide +kernel
theorem dX10_personOf_105 : decode cX10_personOf 105 = .ok (.aload_n 0, 1) := by decide +kernel
theorem dX10_personOf_106 : decode cX10_personOf 106 = .ok (.iload_n 1, 1) := by decide +kernel
theorem dX10_personOf_107 : decode cX10_personOf 107 = .ok (.invokevirtual 84, 3) := by decide +kernel
theorem dX10_personOf_110 : decode cX10_personOf 110 = .ok (.invokestatic 187, 3) := by decide +kernel
theorem dX10_personOf_113 : decode cX10_personOf 113 = .ok (.ireturn, 1) := by decide +kernel
theorem dX10_personOf_114 : decode cX10_personOf 114 = .ok (.aload_n 0, 1) := by decide +kernel
theorem dX10_personOf_115 : decode cX10_personOf 115 = .ok (.iload_n 1, 1) := by decide +kernel
theorem dX10_personOf_116 : decode cX10_personOf 116 = .ok (.iload_n 2, 1) := by decide +kernel
theorem dX10_personOf_117 : decode cX10_personOf 117 = .ok (.iconst 2, 1) := by decide +kernel
theorem dX10_personOf_118 : decode cX10_personOf 118 = .ok (.isub, 1) := by decide +kernel
theorem dX10_personOf_119 : decode cX10_personOf 119 = .ok (.invokevirtual 66, 3) := by decide +kernel
theorem dX10_personOf_122 : decode cX10_personOf 122 = .ok (.ireturn, 1) := by decide +kernel
theorem dX10_personOf_123 : decode cX10_personOf 123 = .ok (.aload_n 0, 1) := by decide +kernel
theorem dX10_personOf_124 : decode cX10_personOf 124 = .ok (.iload_n 1, 1) := by decide +kernel
theorem dX10_personOf_125 : decode cX10_personOf 125 = .ok (.iload_n 2, 1) := by decide +kernel
theorem dX10_personOf_126 : decode cX10_personOf 126 = .ok (.invokevirtual 66, 3) := by decide +kernel
theorem dX10_personOf_129 : decode cX10_personOf 129 = .ok (.ireturn, 1) := by decide +kernel
theorem dX10_lockerOf_0 : decode cX10_lockerOf 0 = .ok (.aload_n 0, 1) := by decide +kernel
theorem dX10_lockerOf_1 : decode cX10_lockerOf 1 = .ok (.iload_n 1, 1) := by decide +kernel
theorem dX10_lockerOf_2 : decode cX10_lockerOf 2 = .ok (.invokevirtual 72, 3) := by decide +kernel
theorem dX10_lockerOf_5 : decode cX10_lockerOf 5 = .ok (.ifCond .ne 5, 3) := by decide +kernel
theorem dX10_lockerOf_8 : decode cX10_lockerOf 8 = .ok (.iconst (-1), 1) := by decide +kernel
theorem dX10_lockerOf_9 : decode cX10_lockerOf 9 = .ok (.ireturn, 1) := by decide +kernel
theorem dX10_lockerOf_10 : decode cX10_lockerOf 10 = .ok (.iload_n 2, 1) := by decide +kernel
theorem dX10_lockerOf_11 : decode cX10_lockerOf 11 = .ok (.tableswitch 111 0 6 #[41, 48, 63, 73, 87, 94, 104], 41) := by decide +kernel
theorem dX10_lockerOf_52 : decode cX10_lockerOf 52 = .ok (.aload_n 0, 1) := by decide +kernel
theorem dX10_lockerOf_53 : decode cX10_lockerOf 53 = .ok (.iload_n 1, 1) := by decide +kernel
theorem dX10_lockerOf_54 : decode cX10_lockerOf 54 = .ok (.iconst 0, 1) := by decide +kernel
theorem dX10_lockerOf_55 : decode cX10_lockerOf 55 = .ok (.invokevirtual 36, 3) := by decide +kernel
theorem dX10_lockerOf_58 : decode cX10_lockerOf 58 = .ok (.ireturn, 1) := by decide +kernel
theorem dX10_lockerOf_59 : decode cX10_lockerOf 59 = .ok (.aload_n 0, 1) := by decide +kernel
theorem dX10_lockerOf_60 : decode cX10_lockerOf 60 = .ok (.iload_n 1, 1) := by decide +kernel
theorem dX10_lockerOf_61 : decode cX10_lockerOf 61 = .ok (.iconst 1, 1) := by decide +kernel
theorem dX10_lockerOf_62 : decode cX10_lockerOf 62 = .ok (.invokevirtual 36, 3) := by decide +kernel
theorem dX10_lockerOf_65 : decode cX10_lockerOf 65 = .ok (.ifCond .lt 7, 3) := by decide +kernel
theorem dX10_lockerOf_68 : decode cX10_lockerOf 68 = .ok (.iconst 1, 1) := by decide +kernel
theorem dX10_lockerOf_69 : decode cX10_lockerOf 69 = .ok (.goto 4, 3) := by decide +kernel
theorem dX10_lockerOf_72 : decode cX10_lockerOf 72 = .ok (.iconst 0, 1) := by decide +kernel
theorem dX10_lockerOf_73 : decode cX10_lockerOf 73 = .ok (.ireturn, 1) := by decide +kernel
theorem dX10_lockerOf_74 : decode cX10_lockerOf 74 = .ok (.aload_n 0, 1) := by decide +kernel
theorem dX10_lockerOf_75 : decode cX10_lockerOf 75 = .ok (.iload_n 1, 1) := by decide +kernel
theorem dX10_lockerOf_76 : decode cX10_lockerOf 76 = .ok (.iconst 2, 1) := by decide +kernel
theorem dX10_lockerOf_77 : decode cX10_lockerOf 77 = .ok (.invokevirtual 36, 3) := by decide +kernel
theorem dX10_lockerOf_80 : decode cX10_lockerOf 80 = .ok (.invokestatic 187, 3) := by decide +kernel
theorem dX10_lockerOf_83 : decode cX10_lockerOf 83 = .ok (.ireturn, 1) := by decide +kernel
theorem dX10_lockerOf_84 : decode cX10_lockerOf 84 = .ok (.aload_n 0, 1) := by decide +kernel
theorem dX10_lockerOf_85 : decode cX10_lockerOf 85 = .ok (.iload_n 1, 1) := by decide +kernel
theorem dX10_lockerOf_86 : decode cX10_lockerOf 86 = .ok (.invokevirtual 40, 3) := by decide +kernel
theorem dX10_lockerOf_89 : decode cX10_lockerOf 89 = .ok (.ifCond .eq 7, 3) := by decide +kernel
theorem dX10_lockerOf_92 : decode cX10_lockerOf 92 = .ok (.iconst 1, 1) := by decide +kernel
theorem dX10_lockerOf_93 : decode cX10_lockerOf 93 = .ok (.goto 4, 3) := by decide +kernel
theorem dX10_lockerOf_96 : decode cX10_lockerOf 96 = .ok (.iconst 0, 1) := by decide +kernel
theorem dX10_lockerOf_97 : decode cX10_lockerOf 97 = .ok (.ireturn, 1) := by decide +kernel
theorem dX10_lockerOf_98 : decode cX10_lockerOf 98 = .ok (.aload_n 0, 1) := by decide +kernel
theorem dX10_lockerOf_99 : decode cX10_lockerOf 99 = .ok (.iload_n 1, 1) := by decide +kernel
theorem dX10_lockerOf_100 : decode cX10_lockerOf 100 = .ok (.iconst 3, 1) := by decide +kernel
theorem dX10_lockerOf_101 : decode cX10_lockerOf 101 = .ok (.invokevirtual 36, 3) := by decide +kernel
theorem dX10_lockerOf_104 : decode cX10_lockerOf 104 = .ok (.ireturn, 1) := by decide +kernel
theorem dX10_lockerOf_105 : decode cX10_lockerOf 105 = .ok (.aload_n 0, 1) := by decide +kernel
theorem dX10_lockerOf_106 : decode cX10_lockerOf 106 = .ok (.iload_n 1, 1) := by decide +kernel
theorem dX10_lockerOf_107 : decode cX10_lockerOf 107 = .ok (.iconst 4, 1) := by decide +kernel
theorem dX10_lockerOf_108 : decode cX10_lockerOf 108 = .ok (.invokevirtual 36, 3) := by decide +kernel
theorem dX10_lockerOf_111 : decode cX10_lockerOf 111 = .ok (.invokestatic 187, 3) := by decide +kernel
theorem dX10_lockerOf_114 : decode cX10_lockerOf 114 = .ok (.ireturn, 1) := by decide +kernel
theorem dX10_lockerOf_115 : decode cX10_lockerOf 115 = .ok (.aload_n 0, 1) := by decide +kernel
theorem dX10_lockerOf_116 : decode cX10_lockerOf 116 = .ok (.iload_n 1, 1) := by decide +kernel
theorem dX10_lockerOf_117 : decode cX10_lockerOf 117 = .ok (.iconst 5, 1) := by decide +kernel
theorem dX10_lockerOf_118 : decode cX10_lockerOf 118 = .ok (.invokevirtual 36, 3) := by decide +kernel
theorem dX10_lockerOf_121 : decode cX10_lockerOf 121 = .ok (.ireturn, 1) := by decide +kernel
theorem dX10_lockerOf_122 : decode cX10_lockerOf 122 = .ok (.iconst (-1), 1) := by decide +kernel
theorem dX10_lockerOf_123 : decode cX10_lockerOf 123 = .ok (.ireturn, 1) := by decide +kernel
theorem dX10_waitingAt_0 : decode cX10_waitingAt 0 = .ok (.iload_n 1, 1) := by decide +kernel
theorem dX10_waitingAt_1 : decode cX10_waitingAt 1 = .ok (.ifCond .lt 12, 3) := by decide +kernel
theorem dX10_waitingAt_4 : decode cX10_waitingAt 4 = .ok (.iload_n 2, 1) := by decide +kernel
theorem dX10_waitingAt_5 : decode cX10_waitingAt 5 = .ok (.iconst 0, 1) := by decide +kernel
theorem dX10_waitingAt_6 : decode cX10_waitingAt 6 = .ok (.iconst 1, 1) := by decide +kernel
theorem dX10_waitingAt_7 : decode cX10_waitingAt 7 = .ok (.invokestatic 28, 3) := by decide +kernel
theorem dX10_waitingAt_10 : decode cX10_waitingAt 10 = .ok (.ifCond .ne 5, 3) := by decide +kernel
theorem dX10_waitingAt_13 : decode cX10_waitingAt 13 = .ok (.iconst (-1), 1) := by decide +kernel
theorem dX10_waitingAt_14 : decode cX10_waitingAt 14 = .ok (.ireturn, 1) := by decide +kernel
theorem dX10_waitingAt_15 : decode cX10_waitingAt 15 = .ok (.iload_n 1, 1) := by decide +kernel
theorem dX10_waitingAt_16 : decode cX10_waitingAt 16 = .ok (.aload_n 0, 1) := by decide +kernel
theorem dX10_waitingAt_17 : decode cX10_waitingAt 17 = .ok (.getfield 7, 3) := by decide +kernel
theorem dX10_waitingAt_20 : decode cX10_waitingAt 20 = .ok (.bipush 6, 2) := by decide +kernel
theorem dX10_waitingAt_22 : decode cX10_waitingAt 22 = .ok (.iaload, 1) := by decide +kernel
theorem dX10_waitingAt_23 : decode cX10_waitingAt 23 = .ok (.if_icmp .ge 20, 3) := by decide +kernel
theorem dX10_waitingAt_26 : decode cX10_waitingAt 26 = .ok (.aload_n 0, 1) := by decide +kernel
theorem dX10_waitingAt_27 : decode cX10_waitingAt 27 = .ok (.getfield 7, 3) := by decide +kernel
theorem dX10_waitingAt_30 : decode cX10_waitingAt 30 = .ok (.sipush 163, 3) := by decide +kernel
theorem dX10_waitingAt_33 : decode cX10_waitingAt 33 = .ok (.iconst 2, 1) := by decide +kernel
theorem dX10_waitingAt_34 : decode cX10_waitingAt 34 = .ok (.iload_n 1, 1) := by decide +kernel
theorem dX10_waitingAt_35 : decode cX10_waitingAt 35 = .ok (.imul, 1) := by decide +kernel
theorem dX10_waitingAt_36 : decode cX10_waitingAt 36 = .ok (.iadd, 1) := by decide +kernel
theorem dX10_waitingAt_37 : decode cX10_waitingAt 37 = .ok (.iload_n 2, 1) := by decide +kernel
theorem dX10_waitingAt_38 : decode cX10_waitingAt 38 = .ok (.iadd, 1) := by decide +kernel
theorem dX10_waitingAt_39 : decode cX10_waitingAt 39 = .ok (.iaload, 1) := by decide +kernel
theorem dX10_waitingAt_40 : decode cX10_waitingAt 40 = .ok (.goto 5, 3) := by decide +kernel
theorem dX10_waitingAt_43 : decode cX10_waitingAt 43 = .ok (.bipush (-4), 2) := by decide +kernel
theorem dX10_waitingAt_45 : decode cX10_waitingAt 45 = .ok (.ireturn, 1) := by decide +kernel
theorem dX10_lockersThat_0 : decode cX10_lockersThat 0 = .ok (.iconst 0, 1) := by decide +kernel
theorem dX10_lockersThat_1 : decode cX10_lockersThat 1 = .ok (.istore_n 2, 1) := by decide +kernel
theorem dX10_lockersThat_2 : decode cX10_lockersThat 2 = .ok (.iconst 0, 1) := by decide +kernel
theorem dX10_lockersThat_3 : decode cX10_lockersThat 3 = .ok (.istore_n 3, 1) := by decide +kernel
theorem dX10_lockersThat_4 : decode cX10_lockersThat 4 = .ok (.iload_n 3, 1) := by decide +kernel
theorem dX10_lockersThat_5 : decode cX10_lockersThat 5 = .ok (.aload_n 0, 1) := by decide +kernel
theorem dX10_lockersThat_6 : decode cX10_lockersThat 6 = .ok (.getfield 7, 3) := by decide +kernel
theorem dX10_lockersThat_9 : decode cX10_lockersThat 9 = .ok (.iconst 4, 1) := by decide +kernel
theorem dX10_lockersThat_10 : decode cX10_lockersThat 10 = .ok (.iaload, 1) := by decide +kernel
theorem dX10_lockersThat_11 : decode cX10_lockersThat 11 = .ok (.if_icmp .ge 94, 3) := by decide +kernel
theorem dX10_lockersThat_14 : decode cX10_lockersThat 14 = .ok (.iload_n 1, 1) := by decide +kernel
theorem dX10_lockersThat_15 : decode cX10_lockersThat 15 = .ok (.ifCond .ne 11, 3) := by decide +kernel
theorem dX10_lockersThat_18 : decode cX10_lockersThat 18 = .ok (.aload_n 0, 1) := by decide +kernel
theorem dX10_lockersThat_19 : decode cX10_lockersThat 19 = .ok (.iload_n 3, 1) := by decide +kernel
theorem dX10_lockersThat_20 : decode cX10_lockersThat 20 = .ok (.invokevirtual 40, 3) := by decide +kernel
theorem dX10_lockersThat_23 : decode cX10_lockersThat 23 = .ok (.goto 61, 3) := by decide +kernel
theorem dX10_lockersThat_26 : decode cX10_lockersThat 26 = .ok (.iload_n 1, 1) := by decide +kernel
theorem dX10_lockersThat_27 : decode cX10_lockersThat 27 = .ok (.iconst 1, 1) := by decide +kernel
theorem dX10_lockersThat_28 : decode cX10_lockersThat 28 = .ok (.if_icmp .ne 20, 3) := by decide +kernel
theorem dX10_lockersThat_31 : decode cX10_lockersThat 31 = .ok (.aload_n 0, 1) := by decide +kernel
theorem dX10_lockersThat_32 : decode cX10_lockersThat 32 = .ok (.iload_n 3, 1) := by decide +kernel
theorem dX10_lockersThat_33 : decode cX10_lockersThat 33 = .ok (.iconst 2, 1) := by decide +kernel
theorem dX10_lockersThat_34 : decode cX10_lockersThat 34 = .ok (.invokevirtual 36, 3) := by decide +kernel
theorem dX10_lockersThat_37 : decode cX10_lockersThat 37 = .ok (.ifCond .lt 7, 3) := by decide +kernel
theorem dX10_lockersThat_40 : decode cX10_lockersThat 40 = .ok (.iconst 1, 1) := by decide +kernel
theorem dX10_lockersThat_41 : decode cX10_lockersThat 41 = .ok (.goto 43, 3) := by decide +kernel
theorem dX10_lockersThat_44 : decode cX10_lockersThat 44 = .ok (.iconst 0, 1) := by decide +kernel
theorem dX10_lockersThat_45 : decode cX10_lockersThat 45 = .ok (.goto 39, 3) := by decide +kernel
theorem dX10_lockersThat_48 : decode cX10_lockersThat 48 = .ok (.iload_n 1, 1) := by decide +kernel
theorem dX10_lockersThat_49 : decode cX10_lockersThat 49 = .ok (.iconst 2, 1) := by decide +kernel
theorem dX10_lockersThat_50 : decode cX10_lockersThat 50 = .ok (.if_icmp .ne 20, 3) := by decide +kernel
theorem dX10_lockersThat_53 : decode cX10_lockersThat 53 = .ok (.aload_n 0, 1) := by decide +kernel
theorem dX10_lockersThat_54 : decode cX10_lockersThat 54 = .ok (.iload_n 3, 1) := by decide +kernel
theorem dX10_lockersThat_55 : decode cX10_lockersThat 55 = .ok (.iconst 4, 1) := by decide +kernel
theorem dX10_lockersThat_56 : decode cX10_lockersThat 56 = .ok (.invokevirtual 36, 3) := by decide +kernel
theorem dX10_lockersThat_59 : decode cX10_lockersThat 59 = .ok (.ifCond .lt 7, 3) := by decide +kernel
theorem dX10_lockersThat_62 : decode cX10_lockersThat 62 = .ok (.iconst 1, 1) := by decide +kernel
theorem dX10_lockersThat_63 : decode cX10_lockersThat 63 = .ok (.goto 21, 3) := by decide +kernel
theorem dX10_lockersThat_66 : decode cX10_lockersThat 66 = .ok (.iconst 0, 1) := by decide +kernel
theorem dX10_lockersThat_67 : decode cX10_lockersThat 67 = .ok (.goto 17, 3) := by decide +kernel
theorem dX10_lockersThat_70 : decode cX10_lockersThat 70 = .ok (.aload_n 0, 1) := by decide +kernel
theorem dX10_lockersThat_71 : decode cX10_lockersThat 71 = .ok (.iload_n 3, 1) := by decide +kernel
theorem dX10_lockersThat_72 : decode cX10_lockersThat 72 = .ok (.iconst 1, 1) := by decide +kernel
theorem dX10_lockersThat_73 : decode cX10_lockersThat 73 = .ok (.invokevirtual 36, 3) := by decide +kernel
theorem dX10_lockersThat_76 : decode cX10_lockersThat 76 = .ok (.ifCond .lt 7, 3) := by decide +kernel
theorem dX10_lockersThat_79 : decode cX10_lockersThat 79 = .ok (.iconst 1, 1) := by decide +kernel
theorem dX10_lockersThat_80 : decode cX10_lockersThat 80 = .ok (.goto 4, 3) := by decide +kernel
theorem dX10_lockersThat_83 : decode cX10_lockersThat 83 = .ok (.iconst 0, 1) := by decide +kernel
theorem dX10_lockersThat_84 : decode cX10_lockersThat 84 = .ok (.istore 4, 2) := by decide +kernel
theorem dX10_lockersThat_86 : decode cX10_lockersThat 86 = .ok (.iload_n 2, 1) := by decide +kernel
theorem dX10_lockersThat_87 : decode cX10_lockersThat 87 = .ok (.iload 4, 2) := by decide +kernel
theorem dX10_lockersThat_89 : decode cX10_lockersThat 89 = .ok (.ifCond .eq 7, 3) := by decide +kernel
theorem dX10_lockersThat_92 : decode cX10_lockersThat 92 = .ok (.iconst 1, 1) := by decide +kernel
theorem dX10_lockersThat_93 : decode cX10_lockersThat 93 = .ok (.goto 4, 3) := by decide +kernel
theorem dX10_lockersThat_96 : decode cX10_lockersThat 96 = .ok (.iconst 0, 1) := by decide +kernel
theorem dX10_lockersThat_97 : decode cX10_lockersThat 97 = .ok (.iadd, 1) := by decide +kernel
theorem dX10_lockersThat_98 : decode cX10_lockersThat 98 = .ok (.istore_n 2, 1) := by decide +kernel
theorem dX10_lockersThat_99 : decode cX10_lockersThat 99 = .ok (.iinc 3 1, 3) := by decide +kernel
theorem dX10_lockersThat_102 : decode cX10_lockersThat 102 = .ok (.goto (-98), 3) := by decide +kernel
theorem dX10_lockersThat_105 : decode cX10_lockersThat 105 = .ok (.iload_n 2, 1) := by decide +kernel
theorem dX10_lockersThat_106 : decode cX10_lockersThat 106 = .ok (.ireturn, 1) := by decide +kernel
theorem dX10_debts_0 : decode cX10_debts 0 = .ok (.iconst 0, 1) := by decide +kernel
theorem dX10_debts_1 : decode cX10_debts 1 = .ok (.istore_n 1, 1) := by decide +kernel
theorem dX10_debts_2 : decode cX10_debts 2 = .ok (.iconst 0, 1) := by decide +kernel
theorem dX10_debts_3 : decode cX10_debts 3 = .ok (.istore_n 2, 1) := by decide +kernel
theorem dX10_debts_4 : decode cX10_debts 4 = .ok (.iload_n 2, 1) := by decide +kernel
theorem dX10_debts_5 : decode cX10_debts 5 = .ok (.aload_n 0, 1) := by decide +kernel
theorem dX10_debts_6 : decode cX10_debts 6 = .ok (.getfield 7, 3) := by decide +kernel
theorem dX10_debts_9 : decode cX10_debts 9 = .ok (.iconst 5, 1) := by decide +kernel
theorem dX10_debts_10 : decode cX10_debts 10 = .ok (.iaload, 1) := by decide +kernel
theorem dX10_debts_11 : decode cX10_debts 11 = .ok (.if_icmp .ge 18, 3) := by decide +kernel
theorem dX10_debts_14 : decode cX10_debts 14 = .ok (.iload_n 1, 1) := by decide +kernel
theorem dX10_debts_15 : decode cX10_debts 15 = .ok (.aload_n 0, 1) := by decide +kernel
theorem dX10_debts_16 : decode cX10_debts 16 = .ok (.iload_n 2, 1) := by decide +kernel
theorem dX10_debts_17 : decode cX10_debts 17 = .ok (.iconst 3, 1) := by decide +kernel
theorem dX10_debts_18 : decode cX10_debts 18 = .ok (.invokevirtual 66, 3) := by decide +kernel
theorem dX10_debts_21 : decode cX10_debts 21 = .ok (.iadd, 1) := by decide +kernel
theorem dX10_debts_22 : decode cX10_debts 22 = .ok (.istore_n 1, 1) := by decide +kernel
theorem dX10_debts_23 : decode cX10_debts 23 = .ok (.iinc 2 1, 3) := by decide +kernel
theorem dX10_debts_26 : decode cX10_debts 26 = .ok (.goto (-22), 3) := by decide +kernel
theorem dX10_debts_29 : decode cX10_debts 29 = .ok (.iload_n 1, 1) := by decide +kernel
theorem dX10_debts_30 : decode cX10_debts 30 = .ok (.ireturn, 1) := by decide +kernel
theorem dX10_count_0 : decode cX10_count 0 = .ok (.iload_n 1, 1) := by decide +kernel
theorem dX10_count_1 : decode cX10_count 1 = .ok (.tableswitch 126 0 13 #[71, 71, 80, 87, 87, 87, 95, 95, 102, 107, 107, 107, 116, 121], 71) := by decide +kernel
theorem dX10_count_72 : decode cX10_count 72 = .ok (.aload_n 0, 1) := by decide +kernel
theorem dX10_count_73 : decode cX10_count 73 = .ok (.getfield 7, 3) := by decide +kernel
theorem dX10_count_76 : decode cX10_count 76 = .ok (.iconst 4, 1) := by decide +kernel
theorem dX10_count_77 : decode cX10_count 77 = .ok (.iload_n 1, 1) := by decide +kernel
theorem dX10_count_78 : decode cX10_count 78 = .ok (.iadd, 1) := by decide +kernel
theorem dX10_count_79 : decode cX10_count 79 = .ok (.iaload, 1) := by decide +kernel
theorem dX10_count_80 : decode cX10_count 80 = .ok (.ireturn, 1) := by decide +kernel
theorem dX10_count_81 : decode cX10_count 81 = .ok (.aload_n 0, 1) := by decide +kernel
theorem dX10_count_82 : decode cX10_count 82 = .ok (.getfield 7, 3) := by decide +kernel
theorem dX10_count_85 : decode cX10_count 85 = .ok (.iconst 3, 1) := by decide +kernel
theorem dX10_count_86 : decode cX10_count 86 = .ok (.iaload, 1) := by decide +kernel
theorem dX10_count_87 : decode cX10_count 87 = .ok (.ireturn, 1) := by decide +kernel
theorem dX10_count_88 : decode cX10_count 88 = .ok (.aload_n 0, 1) := by decide +kernel
theorem dX10_count_89 : decode cX10_count 89 = .ok (.iload_n 1, 1) := by decide +kernel
theorem dX10_count_90 : decode cX10_count 90 = .ok (.iconst 3, 1) := by decide +kernel
theorem dX10_count_91 : decode cX10_count 91 = .ok (.isub, 1) := by decide +kernel
theorem dX10_count_92 : decode cX10_count 92 = .ok (.invokevirtual 190, 3) := by decide +kernel
theorem dX10_count_95 : decode cX10_count 95 = .ok (.ireturn, 1) := by decide +kernel
theorem dX10_count_96 : decode cX10_count 96 = .ok (.aload_n 0, 1) := by decide +kernel
theorem dX10_count_97 : decode cX10_count 97 = .ok (.getfield 7, 3) := by decide +kernel
theorem dX10_count_100 : decode cX10_count 100 = .ok (.iload_n 1, 1) := by decide +kernel
theorem dX10_count_101 : decode cX10_count 101 = .ok (.iaload, 1) := by decide +kernel
theorem dX10_count_102 : decode cX10_count 102 = .ok (.ireturn, 1) := by decide +kernel
theorem dX10_count_103 : decode cX10_count 103 = .ok (.aload_n 0, 1) := by decide +kernel
theorem dX10_count_104 : decode cX10_count 104 = .ok (.invokevirtual 193, 3) := by decide +kernel
theorem dX10_count_107 : decode cX10_count 107 = .ok (.ireturn, 1) := by decide +kernel
theorem dX10_count_108 : decode cX10_count 108 = .ok (.aload_n 0, 1) := by decide +kernel
theorem dX10_count_109 : decode cX10_count 109 = .ok (.getfield 7, 3) := by decide +kernel
theorem dX10_count_112 : decode cX10_count 112 = .ok (.iload_n 1, 1) := by decide +kernel
theorem dX10_count_113 : decode cX10_count 113 = .ok (.iconst 1, 1) := by decide +kernel
theorem dX10_count_114 : decode cX10_count 114 = .ok (.isub, 1) := by decide +kernel
theorem dX10_count_115 : decode cX10_count 115 = .ok (.iaload, 1) := by decide +kernel
theorem dX10_count_116 : decode cX10_count 116 = .ok (.ireturn, 1) := by decide +kernel
theorem dX10_count_117 : decode cX10_count 117 = .ok (.aload_n 0, 1) := by decide +kernel
theorem dX10_count_118 : decode cX10_count 118 = .ok (.getfield 32, 3) := by decide +kernel
theorem dX10_count_121 : decode cX10_count 121 = .ok (.ireturn, 1) := by decide +kernel
theorem dX10_count_122 : decode cX10_count 122 = .ok (.aload_n 0, 1) := by decide +kernel
theorem dX10_count_123 : decode cX10_count 123 = .ok (.getfield 196, 3) := by decide +kernel
theorem dX10_count_126 : decode cX10_count 126 = .ok (.ireturn, 1) := by decide +kernel
theorem dX10_count_127 : decode cX10_count 127 = .ok (.iload_n 1, 1) := by decide +kernel
theorem dX10_count_128 : decode cX10_count 128 = .ok (.bipush 20, 2) := by decide +kernel
theorem dX10_count_130 : decode cX10_count 130 = .ok (.bipush 22, 2) := by decide +kernel
theorem dX10_count_132 : decode cX10_count 132 = .ok (.invokestatic 28, 3) := by decide +kernel
theorem dX10_count_135 : decode cX10_count 135 = .ok (.ifCond .eq 15, 3) := by decide +kernel
theorem dX10_count_138 : decode cX10_count 138 = .ok (.aload_n 0, 1) := by decide +kernel
theorem dX10_count_139 : decode cX10_count 139 = .ok (.getfield 7, 3) := by decide +kernel
theorem dX10_count_142 : decode cX10_count 142 = .ok (.iload_n 1, 1) := by decide +kernel
theorem dX10_count_143 : decode cX10_count 143 = .ok (.bipush 20, 2) := by decide +kernel
theorem dX10_count_145 : decode cX10_count 145 = .ok (.isub, 1) := by decide +kernel
theorem dX10_count_146 : decode cX10_count 146 = .ok (.iaload, 1) := by decide +kernel
theorem dX10_count_147 : decode cX10_count 147 = .ok (.goto 4, 3) := by decide +kernel
theorem dX10_count_150 : decode cX10_count 150 = .ok (.iconst (-1), 1) := by decide +kernel
theorem dX10_count_151 : decode cX10_count 151 = .ok (.ireturn, 1) := by decide +kernel
theorem dX10_feeIn_0 : decode cX10_feeIn 0 = .ok (.aload_n 0, 1) := by decide +kernel
theorem dX10_feeIn_1 : decode cX10_feeIn 1 = .ok (.iload_n 1, 1) := by decide +kernel
theorem dX10_feeIn_2 : decode cX10_feeIn 2 = .ok (.invokevirtual 81, 3) := by decide +kernel
theorem dX10_feeIn_5 : decode cX10_feeIn 5 = .ok (.ifCond .eq 13, 3) := by decide +kernel
theorem dX10_feeIn_8 : decode cX10_feeIn 8 = .ok (.iload_n 2, 1) := by decide +kernel
theorem dX10_feeIn_9 : decode cX10_feeIn 9 = .ok (.iconst 1, 1) := by decide +kernel
theorem dX10_feeIn_10 : decode cX10_feeIn 10 = .ok (.bipush 99, 2) := by decide +kernel
theorem dX10_feeIn_12 : decode cX10_feeIn 12 = .ok (.invokestatic 28, 3) := by decide +kernel
theorem dX10_feeIn_15 : decode cX10_feeIn 15 = .ok (.ifCond .ne 5, 3) := by decide +kernel
theorem dX10_feeIn_18 : decode cX10_feeIn 18 = .ok (.iconst (-1), 1) := by decide +kernel
theorem dX10_feeIn_19 : decode cX10_feeIn 19 = .ok (.ireturn, 1) := by decide +kernel
theorem dX10_feeIn_20 : decode cX10_feeIn 20 = .ok (.aload_n 0, 1) := by decide +kernel
theorem dX10_feeIn_21 : decode cX10_feeIn 21 = .ok (.invokevirtual 199, 3) := by decide +kernel
theorem dX10_feeIn_24 : decode cX10_feeIn 24 = .ok (.aload_n 0, 1) := by decide +kernel
theorem dX10_feeIn_25 : decode cX10_feeIn 25 = .ok (.iload_n 1, 1) := by decide +kernel
theorem dX10_feeIn_26 : decode cX10_feeIn 26 = .ok (.iconst 3, 1) := by decide +kernel
theorem dX10_feeIn_27 : decode cX10_feeIn 27 = .ok (.invokevirtual 66, 3) := by decide +kernel
theorem dX10_feeIn_30 : decode cX10_feeIn 30 = .ok (.istore_n 3, 1) := by decide +kernel
theorem dX10_feeIn_31 : decode cX10_feeIn 31 = .ok (.aload_n 0, 1) := by decide +kernel
theorem dX10_feeIn_32 : decode cX10_feeIn 32 = .ok (.iload_n 2, 1) := by decide +kernel
theorem dX10_feeIn_33 : decode cX10_feeIn 33 = .ok (.invokevirtual 133, 3) := by decide +kernel
theorem dX10_feeIn_36 : decode cX10_feeIn 36 = .ok (.pop, 1) := by decide +kernel
theorem dX10_feeIn_37 : decode cX10_feeIn 37 = .ok (.aload_n 0, 1) := by decide +kernel
theorem dX10_feeIn_38 : decode cX10_feeIn 38 = .ok (.iload_n 1, 1) := by decide +kernel
theorem dX10_feeIn_39 : decode cX10_feeIn 39 = .ok (.iconst 3, 1) := by decide +kernel
theorem dX10_feeIn_40 : decode cX10_feeIn 40 = .ok (.invokevirtual 66, 3) := by decide +kernel
theorem dX10_feeIn_43 : decode cX10_feeIn 43 = .ok (.iload_n 3, 1) := by decide +kernel
theorem dX10_feeIn_44 : decode cX10_feeIn 44 = .ok (.isub, 1) := by decide +kernel
theorem dX10_feeIn_45 : decode cX10_feeIn 45 = .ok (.istore 4, 2) := by decide +kernel
theorem dX10_feeIn_47 : decode cX10_feeIn 47 = .ok (.aload_n 0, 1) := by decide +kernel
theorem dX10_feeIn_48 : decode cX10_feeIn 48 = .ok (.invokevirtual 202, 3) := by decide +kernel
theorem dX10_feeIn_51 : decode cX10_feeIn 51 = .ok (.iload 4, 2) := by decide +kernel
theorem dX10_feeIn_53 : decode cX10_feeIn 53 = .ok (.ireturn, 1) := by decide +kernel
theorem dX10_wouldHave_0 : decode cX10_wouldHave 0 = .ok (.aload_n 0, 1) := by decide +kernel
theorem dX10_wouldHave_1 : decode cX10_wouldHave 1 = .ok (.iload_n 1, 1) := by decide +kernel
theorem dX10_wouldHave_2 : decode cX10_wouldHave 2 = .ok (.invokevirtual 81, 3) := by decide +kernel
theorem dX10_wouldHave_5 : decode cX10_wouldHave 5 = .ok (.ifCond .ne 5, 3) := by decide +kernel
end
section
theorem dX10_wouldHave_8 : decode cX10_wouldHave 8 = .ok (.iconst (-1), 1) := by decide +kernel
theorem dX10_wouldHave_9 : decode cX10_wouldHave 9 = .ok (.ireturn, 1) := by decide +kernel
theorem dX10_wouldHave_10 : decode cX10_wouldHave 10 = .ok (.aload_n 0, 1) := by decide +kernel
theorem dX10_wouldHave_11 : decode cX10_wouldHave 11 = .ok (.invokevirtual 199, 3) := by decide +kernel
theorem dX10_wouldHave_14 : decode cX10_wouldHave 14 = .ok (.aload_n 0, 1) := by decide +kernel
theorem dX10_wouldHave_15 : decode cX10_wouldHave 15 = .ok (.invokevirtual 175, 3) := by decide +kernel
theorem dX10_wouldHave_18 : decode cX10_wouldHave 18 = .ok (.pop, 1) := by decide +kernel
theorem dX10_wouldHave_19 : decode cX10_wouldHave 19 = .ok (.aload_n 0, 1) := by decide +kernel
theorem dX10_wouldHave_20 : decode cX10_wouldHave 20 = .ok (.iload_n 1, 1) := by decide +kernel
theorem dX10_wouldHave_21 : decode cX10_wouldHave 21 = .ok (.iconst 0, 1) := by decide +kernel
theorem dX10_wouldHave_22 : decode cX10_wouldHave 22 = .ok (.invokevirtual 66, 3) := by decide +kernel
theorem dX10_wouldHave_25 : decode cX10_wouldHave 25 = .ok (.istore_n 2, 1) := by decide +kernel
theorem dX10_wouldHave_26 : decode cX10_wouldHave 26 = .ok (.aload_n 0, 1) := by decide +kernel
theorem dX10_wouldHave_27 : decode cX10_wouldHave 27 = .ok (.invokevirtual 202, 3) := by decide +kernel
theorem dX10_wouldHave_30 : decode cX10_wouldHave 30 = .ok (.iload_n 2, 1) := by decide +kernel
theorem dX10_wouldHave_31 : decode cX10_wouldHave 31 = .ok (.invokestatic 187, 3) := by decide +kernel
theorem dX10_wouldHave_34 : decode cX10_wouldHave 34 = .ok (.ireturn, 1) := by decide +kernel
theorem dX10_lentBits_0 : decode cX10_lentBits 0 = .ok (.aload_n 0, 1) := by decide +kernel
theorem dX10_lentBits_1 : decode cX10_lentBits 1 = .ok (.iconst 3, 1) := by decide +kernel
theorem dX10_lentBits_2 : decode cX10_lentBits 2 = .ok (.invokevirtual 190, 3) := by decide +kernel
theorem dX10_lentBits_5 : decode cX10_lentBits 5 = .ok (.istore_n 1, 1) := by decide +kernel
theorem dX10_lentBits_6 : decode cX10_lentBits 6 = .ok (.iload_n 1, 1) := by decide +kernel
theorem dX10_lentBits_7 : decode cX10_lentBits 7 = .ok (.ifCond .ne 9, 3) := by decide +kernel
theorem dX10_lentBits_10 : decode cX10_lentBits 10 = .ok (.ldc2_w 205, 3) := by decide +kernel
theorem dX10_lentBits_13 : decode cX10_lentBits 13 = .ok (.goto 15, 3) := by decide +kernel
theorem dX10_lentBits_16 : decode cX10_lentBits 16 = .ok (.aload_n 0, 1) := by decide +kernel
theorem dX10_lentBits_17 : decode cX10_lentBits 17 = .ok (.iconst 1, 1) := by decide +kernel
theorem dX10_lentBits_18 : decode cX10_lentBits 18 = .ok (.invokevirtual 190, 3) := by decide +kernel
theorem dX10_lentBits_21 : decode cX10_lentBits 21 = .ok (.i2d, 1) := by decide +kernel
theorem dX10_lentBits_22 : decode cX10_lentBits 22 = .ok (.iload_n 1, 1) := by decide +kernel
theorem dX10_lentBits_23 : decode cX10_lentBits 23 = .ok (.i2d, 1) := by decide +kernel
theorem dX10_lentBits_24 : decode cX10_lentBits 24 = .ok (.ddiv, 1) := by decide +kernel
theorem dX10_lentBits_25 : decode cX10_lentBits 25 = .ok (.invokestatic 207, 3) := by decide +kernel
theorem dX10_lentBits_28 : decode cX10_lentBits 28 = .ok (.lreturn, 1) := by decide +kernel
theorem dX10_overdueBits_0 : decode cX10_overdueBits 0 = .ok (.iconst 0, 1) := by decide +kernel
theorem dX10_overdueBits_1 : decode cX10_overdueBits 1 = .ok (.istore_n 1, 1) := by decide +kernel
theorem dX10_overdueBits_2 : decode cX10_overdueBits 2 = .ok (.iconst 0, 1) := by decide +kernel
theorem dX10_overdueBits_3 : decode cX10_overdueBits 3 = .ok (.istore_n 2, 1) := by decide +kernel
theorem dX10_overdueBits_4 : decode cX10_overdueBits 4 = .ok (.iconst 0, 1) := by decide +kernel
theorem dX10_overdueBits_5 : decode cX10_overdueBits 5 = .ok (.istore_n 3, 1) := by decide +kernel
theorem dX10_overdueBits_6 : decode cX10_overdueBits 6 = .ok (.iload_n 3, 1) := by decide +kernel
theorem dX10_overdueBits_7 : decode cX10_overdueBits 7 = .ok (.aload_n 0, 1) := by decide +kernel
theorem dX10_overdueBits_8 : decode cX10_overdueBits 8 = .ok (.getfield 7, 3) := by decide +kernel
theorem dX10_overdueBits_11 : decode cX10_overdueBits 11 = .ok (.iconst 5, 1) := by decide +kernel
theorem dX10_overdueBits_12 : decode cX10_overdueBits 12 = .ok (.iaload, 1) := by decide +kernel
theorem dX10_overdueBits_13 : decode cX10_overdueBits 13 = .ok (.if_icmp .ge 47, 3) := by decide +kernel
theorem dX10_overdueBits_16 : decode cX10_overdueBits 16 = .ok (.iload_n 1, 1) := by decide +kernel
theorem dX10_overdueBits_17 : decode cX10_overdueBits 17 = .ok (.aload_n 0, 1) := by decide +kernel
theorem dX10_overdueBits_18 : decode cX10_overdueBits 18 = .ok (.iload_n 3, 1) := by decide +kernel
theorem dX10_overdueBits_19 : decode cX10_overdueBits 19 = .ok (.iconst 0, 1) := by decide +kernel
theorem dX10_overdueBits_20 : decode cX10_overdueBits 20 = .ok (.invokevirtual 66, 3) := by decide +kernel
theorem dX10_overdueBits_23 : decode cX10_overdueBits 23 = .ok (.ifCond .lt 7, 3) := by decide +kernel
theorem dX10_overdueBits_26 : decode cX10_overdueBits 26 = .ok (.iconst 1, 1) := by decide +kernel
theorem dX10_overdueBits_27 : decode cX10_overdueBits 27 = .ok (.goto 4, 3) := by decide +kernel
theorem dX10_overdueBits_30 : decode cX10_overdueBits 30 = .ok (.iconst 0, 1) := by decide +kernel
theorem dX10_overdueBits_31 : decode cX10_overdueBits 31 = .ok (.iadd, 1) := by decide +kernel
theorem dX10_overdueBits_32 : decode cX10_overdueBits 32 = .ok (.istore_n 1, 1) := by decide +kernel
theorem dX10_overdueBits_33 : decode cX10_overdueBits 33 = .ok (.iload_n 2, 1) := by decide +kernel
theorem dX10_overdueBits_34 : decode cX10_overdueBits 34 = .ok (.aload_n 0, 1) := by decide +kernel
theorem dX10_overdueBits_35 : decode cX10_overdueBits 35 = .ok (.iload_n 3, 1) := by decide +kernel
theorem dX10_overdueBits_36 : decode cX10_overdueBits 36 = .ok (.iconst 0, 1) := by decide +kernel
theorem dX10_overdueBits_37 : decode cX10_overdueBits 37 = .ok (.invokevirtual 66, 3) := by decide +kernel
theorem dX10_overdueBits_40 : decode cX10_overdueBits 40 = .ok (.ifCond .lt 11, 3) := by decide +kernel
theorem dX10_overdueBits_43 : decode cX10_overdueBits 43 = .ok (.aload_n 0, 1) := by decide +kernel
theorem dX10_overdueBits_44 : decode cX10_overdueBits 44 = .ok (.iload_n 3, 1) := by decide +kernel
theorem dX10_overdueBits_45 : decode cX10_overdueBits 45 = .ok (.invokevirtual 93, 3) := by decide +kernel
theorem dX10_overdueBits_48 : decode cX10_overdueBits 48 = .ok (.goto 4, 3) := by decide +kernel
theorem dX10_overdueBits_51 : decode cX10_overdueBits 51 = .ok (.iconst 0, 1) := by decide +kernel
theorem dX10_overdueBits_52 : decode cX10_overdueBits 52 = .ok (.iadd, 1) := by decide +kernel
theorem dX10_overdueBits_53 : decode cX10_overdueBits 53 = .ok (.istore_n 2, 1) := by decide +kernel
theorem dX10_overdueBits_54 : decode cX10_overdueBits 54 = .ok (.iinc 3 1, 3) := by decide +kernel
theorem dX10_overdueBits_57 : decode cX10_overdueBits 57 = .ok (.goto (-51), 3) := by decide +kernel
theorem dX10_overdueBits_60 : decode cX10_overdueBits 60 = .ok (.iload_n 1, 1) := by decide +kernel
theorem dX10_overdueBits_61 : decode cX10_overdueBits 61 = .ok (.ifCond .ne 8, 3) := by decide +kernel
theorem dX10_overdueBits_64 : decode cX10_overdueBits 64 = .ok (.bipush (-4), 2) := by decide +kernel
theorem dX10_overdueBits_66 : decode cX10_overdueBits 66 = .ok (.goto 11, 3) := by decide +kernel
theorem dX10_overdueBits_69 : decode cX10_overdueBits 69 = .ok (.iload_n 2, 1) := by decide +kernel
theorem dX10_overdueBits_70 : decode cX10_overdueBits 70 = .ok (.i2f, 1) := by decide +kernel
theorem dX10_overdueBits_71 : decode cX10_overdueBits 71 = .ok (.iload_n 1, 1) := by decide +kernel
theorem dX10_overdueBits_72 : decode cX10_overdueBits 72 = .ok (.i2f, 1) := by decide +kernel
theorem dX10_overdueBits_73 : decode cX10_overdueBits 73 = .ok (.fdiv, 1) := by decide +kernel
theorem dX10_overdueBits_74 : decode cX10_overdueBits 74 = .ok (.invokestatic 213, 3) := by decide +kernel
theorem dX10_overdueBits_77 : decode cX10_overdueBits 77 = .ok (.ireturn, 1) := by decide +kernel
theorem dX10_undo_0 : decode cX10_undo 0 = .ok (.aload_n 0, 1) := by decide +kernel
theorem dX10_undo_1 : decode cX10_undo 1 = .ok (.getfield 32, 3) := by decide +kernel
theorem dX10_undo_4 : decode cX10_undo 4 = .ok (.ifCond .ne 6, 3) := by decide +kernel
theorem dX10_undo_7 : decode cX10_undo 7 = .ok (.bipush (-2), 2) := by decide +kernel
theorem dX10_undo_9 : decode cX10_undo 9 = .ok (.ireturn, 1) := by decide +kernel
theorem dX10_undo_10 : decode cX10_undo 10 = .ok (.aload_n 0, 1) := by decide +kernel
theorem dX10_undo_11 : decode cX10_undo 11 = .ok (.dup, 1) := by decide +kernel
theorem dX10_undo_12 : decode cX10_undo 12 = .ok (.getfield 32, 3) := by decide +kernel
theorem dX10_undo_15 : decode cX10_undo 15 = .ok (.iconst 1, 1) := by decide +kernel
theorem dX10_undo_16 : decode cX10_undo 16 = .ok (.isub, 1) := by decide +kernel
theorem dX10_undo_17 : decode cX10_undo 17 = .ok (.putfield 32, 3) := by decide +kernel
theorem dX10_undo_20 : decode cX10_undo 20 = .ok (.iconst 0, 1) := by decide +kernel
theorem dX10_undo_21 : decode cX10_undo 21 = .ok (.istore_n 1, 1) := by decide +kernel
theorem dX10_undo_22 : decode cX10_undo 22 = .ok (.iload_n 1, 1) := by decide +kernel
theorem dX10_undo_23 : decode cX10_undo 23 = .ok (.sipush 193, 3) := by decide +kernel
theorem dX10_undo_26 : decode cX10_undo 26 = .ok (.if_icmp .ge 30, 3) := by decide +kernel
theorem dX10_undo_29 : decode cX10_undo 29 = .ok (.aload_n 0, 1) := by decide +kernel
theorem dX10_undo_30 : decode cX10_undo 30 = .ok (.getfield 7, 3) := by decide +kernel
theorem dX10_undo_33 : decode cX10_undo 33 = .ok (.iload_n 1, 1) := by decide +kernel
theorem dX10_undo_34 : decode cX10_undo 34 = .ok (.aload_n 0, 1) := by decide +kernel
theorem dX10_undo_35 : decode cX10_undo 35 = .ok (.getfield 19, 3) := by decide +kernel
theorem dX10_undo_38 : decode cX10_undo 38 = .ok (.sipush 193, 3) := by decide +kernel
theorem dX10_undo_41 : decode cX10_undo 41 = .ok (.aload_n 0, 1) := by decide +kernel
theorem dX10_undo_42 : decode cX10_undo 42 = .ok (.getfield 32, 3) := by decide +kernel
theorem dX10_undo_45 : decode cX10_undo 45 = .ok (.imul, 1) := by decide +kernel
theorem dX10_undo_46 : decode cX10_undo 46 = .ok (.iload_n 1, 1) := by decide +kernel
theorem dX10_undo_47 : decode cX10_undo 47 = .ok (.iadd, 1) := by decide +kernel
theorem dX10_undo_48 : decode cX10_undo 48 = .ok (.iaload, 1) := by decide +kernel
theorem dX10_undo_49 : decode cX10_undo 49 = .ok (.iastore, 1) := by decide +kernel
theorem dX10_undo_50 : decode cX10_undo 50 = .ok (.iinc 1 1, 3) := by decide +kernel
theorem dX10_undo_53 : decode cX10_undo 53 = .ok (.goto (-31), 3) := by decide +kernel
theorem dX10_undo_56 : decode cX10_undo 56 = .ok (.aload_n 0, 1) := by decide +kernel
theorem dX10_undo_57 : decode cX10_undo 57 = .ok (.getfield 32, 3) := by decide +kernel
theorem dX10_undo_60 : decode cX10_undo 60 = .ok (.ireturn, 1) := by decide +kernel
theorem dX10_type_0 : decode cX10_type 0 = .ok (.iload_n 1, 1) := by decide +kernel
theorem dX10_type_1 : decode cX10_type 1 = .ok (.bipush 32, 2) := by decide +kernel
theorem dX10_type_3 : decode cX10_type 3 = .ok (.bipush 126, 2) := by decide +kernel
theorem dX10_type_5 : decode cX10_type 5 = .ok (.invokestatic 28, 3) := by decide +kernel
theorem dX10_type_8 : decode cX10_type 8 = .ok (.ifCond .ne 5, 3) := by decide +kernel
theorem dX10_type_11 : decode cX10_type 11 = .ok (.iconst (-1), 1) := by decide +kernel
theorem dX10_type_12 : decode cX10_type 12 = .ok (.ireturn, 1) := by decide +kernel
theorem dX10_type_13 : decode cX10_type 13 = .ok (.aload_n 0, 1) := by decide +kernel
theorem dX10_type_14 : decode cX10_type 14 = .ok (.getfield 196, 3) := by decide +kernel
theorem dX10_type_17 : decode cX10_type 17 = .ok (.bipush 80, 2) := by decide +kernel
theorem dX10_type_19 : decode cX10_type 19 = .ok (.if_icmp .ne 6, 3) := by decide +kernel
theorem dX10_type_22 : decode cX10_type 22 = .ok (.bipush (-3), 2) := by decide +kernel
theorem dX10_type_24 : decode cX10_type 24 = .ok (.ireturn, 1) := by decide +kernel
theorem dX10_type_25 : decode cX10_type 25 = .ok (.aload_n 0, 1) := by decide +kernel
theorem dX10_type_26 : decode cX10_type 26 = .ok (.getfield 22, 3) := by decide +kernel
theorem dX10_type_29 : decode cX10_type 29 = .ok (.aload_n 0, 1) := by decide +kernel
theorem dX10_type_30 : decode cX10_type 30 = .ok (.getfield 196, 3) := by decide +kernel
theorem dX10_type_33 : decode cX10_type 33 = .ok (.iload_n 1, 1) := by decide +kernel
theorem dX10_type_34 : decode cX10_type 34 = .ok (.iastore, 1) := by decide +kernel
theorem dX10_type_35 : decode cX10_type 35 = .ok (.aload_n 0, 1) := by decide +kernel
theorem dX10_type_36 : decode cX10_type 36 = .ok (.dup, 1) := by decide +kernel
theorem dX10_type_37 : decode cX10_type 37 = .ok (.getfield 196, 3) := by decide +kernel
theorem dX10_type_40 : decode cX10_type 40 = .ok (.iconst 1, 1) := by decide +kernel
theorem dX10_type_41 : decode cX10_type 41 = .ok (.iadd, 1) := by decide +kernel
theorem dX10_type_42 : decode cX10_type 42 = .ok (.putfield 196, 3) := by decide +kernel
theorem dX10_type_45 : decode cX10_type 45 = .ok (.aload_n 0, 1) := by decide +kernel
theorem dX10_type_46 : decode cX10_type 46 = .ok (.getfield 196, 3) := by decide +kernel
theorem dX10_type_49 : decode cX10_type 49 = .ok (.ireturn, 1) := by decide +kernel
theorem dX10_clearText_0 : decode cX10_clearText 0 = .ok (.aload_n 0, 1) := by decide +kernel
theorem dX10_clearText_1 : decode cX10_clearText 1 = .ok (.getfield 196, 3) := by decide +kernel
theorem dX10_clearText_4 : decode cX10_clearText 4 = .ok (.istore_n 1, 1) := by decide +kernel
theorem dX10_clearText_5 : decode cX10_clearText 5 = .ok (.aload_n 0, 1) := by decide +kernel
theorem dX10_clearText_6 : decode cX10_clearText 6 = .ok (.iconst 0, 1) := by decide +kernel
theorem dX10_clearText_7 : decode cX10_clearText 7 = .ok (.putfield 196, 3) := by decide +kernel
theorem dX10_clearText_10 : decode cX10_clearText 10 = .ok (.iload_n 1, 1) := by decide +kernel
theorem dX10_clearText_11 : decode cX10_clearText 11 = .ok (.ireturn, 1) := by decide +kernel
theorem dX10_here_0 : decode cX10_here 0 = .ok (.aload_n 0, 1) := by decide +kernel
theorem dX10_here_1 : decode cX10_here 1 = .ok (.getfield 219, 3) := by decide +kernel
theorem dX10_here_4 : decode cX10_here 4 = .ok (.aload_n 0, 1) := by decide +kernel
theorem dX10_here_5 : decode cX10_here 5 = .ok (.getfield 196, 3) := by decide +kernel
theorem dX10_here_8 : decode cX10_here 8 = .ok (.if_icmp .ge 15, 3) := by decide +kernel
theorem dX10_here_11 : decode cX10_here 11 = .ok (.aload_n 0, 1) := by decide +kernel
theorem dX10_here_12 : decode cX10_here 12 = .ok (.getfield 22, 3) := by decide +kernel
theorem dX10_here_15 : decode cX10_here 15 = .ok (.aload_n 0, 1) := by decide +kernel
theorem dX10_here_16 : decode cX10_here 16 = .ok (.getfield 219, 3) := by decide +kernel
theorem dX10_here_19 : decode cX10_here 19 = .ok (.iaload, 1) := by decide +kernel
theorem dX10_here_20 : decode cX10_here 20 = .ok (.goto 4, 3) := by decide +kernel
theorem dX10_here_23 : decode cX10_here 23 = .ok (.iconst (-1), 1) := by decide +kernel
theorem dX10_here_24 : decode cX10_here 24 = .ok (.ireturn, 1) := by decide +kernel
theorem dX10_must_0 : decode cX10_must 0 = .ok (.aload_n 0, 1) := by decide +kernel
theorem dX10_must_1 : decode cX10_must 1 = .ok (.aload_n 0, 1) := by decide +kernel
theorem dX10_must_2 : decode cX10_must 2 = .ok (.getfield 222, 3) := by decide +kernel
theorem dX10_must_5 : decode cX10_must 5 = .ok (.ifCond .eq 15, 3) := by decide +kernel
theorem dX10_must_8 : decode cX10_must 8 = .ok (.aload_n 0, 1) := by decide +kernel
theorem dX10_must_9 : decode cX10_must 9 = .ok (.invokevirtual 226, 3) := by decide +kernel
theorem dX10_must_12 : decode cX10_must 12 = .ok (.iload_n 1, 1) := by decide +kernel
theorem dX10_must_13 : decode cX10_must 13 = .ok (.if_icmp .ne 7, 3) := by decide +kernel
theorem dX10_must_16 : decode cX10_must 16 = .ok (.iconst 1, 1) := by decide +kernel
theorem dX10_must_17 : decode cX10_must 17 = .ok (.goto 4, 3) := by decide +kernel
theorem dX10_must_20 : decode cX10_must 20 = .ok (.iconst 0, 1) := by decide +kernel
theorem dX10_must_21 : decode cX10_must 21 = .ok (.putfield 222, 3) := by decide +kernel
theorem dX10_must_24 : decode cX10_must 24 = .ok (.aload_n 0, 1) := by decide +kernel
theorem dX10_must_25 : decode cX10_must 25 = .ok (.dup, 1) := by decide +kernel
theorem dX10_must_26 : decode cX10_must 26 = .ok (.getfield 219, 3) := by decide +kernel
theorem dX10_must_29 : decode cX10_must 29 = .ok (.iconst 1, 1) := by decide +kernel
theorem dX10_must_30 : decode cX10_must 30 = .ok (.iadd, 1) := by decide +kernel
theorem dX10_must_31 : decode cX10_must 31 = .ok (.putfield 219, 3) := by decide +kernel
theorem dX10_must_34 : decode cX10_must 34 = .ok (.return_, 1) := by decide +kernel
theorem dX10_readNumber_0 : decode cX10_readNumber 0 = .ok (.aload_n 0, 1) := by decide +kernel
theorem dX10_readNumber_1 : decode cX10_readNumber 1 = .ok (.bipush 32, 2) := by decide +kernel
theorem dX10_readNumber_3 : decode cX10_readNumber 3 = .ok (.invokevirtual 229, 3) := by decide +kernel
theorem dX10_readNumber_6 : decode cX10_readNumber 6 = .ok (.iconst 0, 1) := by decide +kernel
theorem dX10_readNumber_7 : decode cX10_readNumber 7 = .ok (.istore_n 1, 1) := by decide +kernel
theorem dX10_readNumber_8 : decode cX10_readNumber 8 = .ok (.iconst 0, 1) := by decide +kernel
theorem dX10_readNumber_9 : decode cX10_readNumber 9 = .ok (.istore_n 2, 1) := by decide +kernel
theorem dX10_readNumber_10 : decode cX10_readNumber 10 = .ok (.iload_n 2, 1) := by decide +kernel
theorem dX10_readNumber_11 : decode cX10_readNumber 11 = .ok (.iconst 3, 1) := by decide +kernel
theorem dX10_readNumber_12 : decode cX10_readNumber 12 = .ok (.if_icmp .ge 46, 3) := by decide +kernel
theorem dX10_readNumber_15 : decode cX10_readNumber 15 = .ok (.aload_n 0, 1) := by decide +kernel
theorem dX10_readNumber_16 : decode cX10_readNumber 16 = .ok (.invokevirtual 226, 3) := by decide +kernel
theorem dX10_readNumber_19 : decode cX10_readNumber 19 = .ok (.bipush 48, 2) := by decide +kernel
theorem dX10_readNumber_21 : decode cX10_readNumber 21 = .ok (.bipush 57, 2) := by decide +kernel
theorem dX10_readNumber_23 : decode cX10_readNumber 23 = .ok (.invokestatic 28, 3) := by decide +kernel
theorem dX10_readNumber_26 : decode cX10_readNumber 26 = .ok (.ifCond .eq 32, 3) := by decide +kernel
theorem dX10_readNumber_29 : decode cX10_readNumber 29 = .ok (.bipush 10, 2) := by decide +kernel
theorem dX10_readNumber_31 : decode cX10_readNumber 31 = .ok (.iload_n 1, 1) := by decide +kernel
theorem dX10_readNumber_32 : decode cX10_readNumber 32 = .ok (.imul, 1) := by decide +kernel
theorem dX10_readNumber_33 : decode cX10_readNumber 33 = .ok (.aload_n 0, 1) := by decide +kernel
theorem dX10_readNumber_34 : decode cX10_readNumber 34 = .ok (.invokevirtual 226, 3) := by decide +kernel
theorem dX10_readNumber_37 : decode cX10_readNumber 37 = .ok (.iadd, 1) := by decide +kernel
theorem dX10_readNumber_38 : decode cX10_readNumber 38 = .ok (.bipush 48, 2) := by decide +kernel
theorem dX10_readNumber_40 : decode cX10_readNumber 40 = .ok (.isub, 1) := by decide +kernel
theorem dX10_readNumber_41 : decode cX10_readNumber 41 = .ok (.istore_n 1, 1) := by decide +kernel
theorem dX10_readNumber_42 : decode cX10_readNumber 42 = .ok (.iinc 2 1, 3) := by decide +kernel
theorem dX10_readNumber_45 : decode cX10_readNumber 45 = .ok (.aload_n 0, 1) := by decide +kernel
theorem dX10_readNumber_46 : decode cX10_readNumber 46 = .ok (.dup, 1) := by decide +kernel
theorem dX10_readNumber_47 : decode cX10_readNumber 47 = .ok (.getfield 219, 3) := by decide +kernel
theorem dX10_readNumber_50 : decode cX10_readNumber 50 = .ok (.iconst 1, 1) := by decide +kernel
theorem dX10_readNumber_51 : decode cX10_readNumber 51 = .ok (.iadd, 1) := by decide +kernel
theorem dX10_readNumber_52 : decode cX10_readNumber 52 = .ok (.putfield 219, 3) := by decide +kernel
theorem dX10_readNumber_55 : decode cX10_readNumber 55 = .ok (.goto (-45), 3) := by decide +kernel
theorem dX10_readNumber_58 : decode cX10_readNumber 58 = .ok (.aload_n 0, 1) := by decide +kernel
theorem dX10_readNumber_59 : decode cX10_readNumber 59 = .ok (.aload_n 0, 1) := by decide +kernel
theorem dX10_readNumber_60 : decode cX10_readNumber 60 = .ok (.getfield 222, 3) := by decide +kernel
theorem dX10_readNumber_63 : decode cX10_readNumber 63 = .ok (.ifCond .eq 11, 3) := by decide +kernel
theorem dX10_readNumber_66 : decode cX10_readNumber 66 = .ok (.iload_n 2, 1) := by decide +kernel
theorem dX10_readNumber_67 : decode cX10_readNumber 67 = .ok (.ifCond .le 7, 3) := by decide +kernel
theorem dX10_readNumber_70 : decode cX10_readNumber 70 = .ok (.iconst 1, 1) := by decide +kernel
theorem dX10_readNumber_71 : decode cX10_readNumber 71 = .ok (.goto 4, 3) := by decide +kernel
theorem dX10_readNumber_74 : decode cX10_readNumber 74 = .ok (.iconst 0, 1) := by decide +kernel
theorem dX10_readNumber_75 : decode cX10_readNumber 75 = .ok (.putfield 222, 3) := by decide +kernel
theorem dX10_readNumber_78 : decode cX10_readNumber 78 = .ok (.iload_n 1, 1) := by decide +kernel
theorem dX10_readNumber_79 : decode cX10_readNumber 79 = .ok (.ireturn, 1) := by decide +kernel
theorem dX10_wordOf_0 : decode cX10_wordOf 0 = .ok (.iload_n 0, 1) := by decide +kernel
theorem dX10_wordOf_1 : decode cX10_wordOf 1 = .ok (.tableswitch 71 0 6 #[43, 47, 51, 55, 59, 63, 67], 43) := by decide +kernel
theorem dX10_wordOf_44 : decode cX10_wordOf 44 = .ok (.ldc2_w 232, 3) := by decide +kernel
theorem dX10_wordOf_47 : decode cX10_wordOf 47 = .ok (.lreturn, 1) := by decide +kernel
theorem dX10_wordOf_48 : decode cX10_wordOf 48 = .ok (.ldc2_w 234, 3) := by decide +kernel
theorem dX10_wordOf_51 : decode cX10_wordOf 51 = .ok (.lreturn, 1) := by decide +kernel
theorem dX10_wordOf_52 : decode cX10_wordOf 52 = .ok (.ldc2_w 236, 3) := by decide +kernel
theorem dX10_wordOf_55 : decode cX10_wordOf 55 = .ok (.lreturn, 1) := by decide +kernel
theorem dX10_wordOf_56 : decode cX10_wordOf 56 = .ok (.ldc2_w 238, 3) := by decide +kernel
theorem dX10_wordOf_59 : decode cX10_wordOf 59 = .ok (.lreturn, 1) := by decide +kernel
theorem dX10_wordOf_60 : decode cX10_wordOf 60 = .ok (.ldc2_w 240, 3) := by decide +kernel
theorem dX10_wordOf_63 : decode cX10_wordOf 63 = .ok (.lreturn, 1) := by decide +kernel
theorem dX10_wordOf_64 : decode cX10_wordOf 64 = .ok (.ldc2_w 242, 3) := by decide +kernel
theorem dX10_wordOf_67 : decode cX10_wordOf 67 = .ok (.lreturn, 1) := by decide +kernel
theorem dX10_wordOf_68 : decode cX10_wordOf 68 = .ok (.ldc2_w 244, 3) := by decide +kernel
theorem dX10_wordOf_71 : decode cX10_wordOf 71 = .ok (.lreturn, 1) := by decide +kernel
theorem dX10_wordOf_72 : decode cX10_wordOf 72 = .ok (.ldc2_w 246, 3) := by decide +kernel
theorem dX10_wordOf_75 : decode cX10_wordOf 75 = .ok (.lreturn, 1) := by decide +kernel
theorem dX10_readWord_0 : decode cX10_readWord 0 = .ok (.lconst 0, 1) := by decide +kernel
theorem dX10_readWord_1 : decode cX10_readWord 1 = .ok (.lstore_n 1, 1) := by decide +kernel
theorem dX10_readWord_2 : decode cX10_readWord 2 = .ok (.iconst 0, 1) := by decide +kernel
theorem dX10_readWord_3 : decode cX10_readWord 3 = .ok (.istore_n 3, 1) := by decide +kernel
theorem dX10_readWord_4 : decode cX10_readWord 4 = .ok (.iload_n 3, 1) := by decide +kernel
theorem dX10_readWord_5 : decode cX10_readWord 5 = .ok (.iconst 5, 1) := by decide +kernel
theorem dX10_readWord_6 : decode cX10_readWord 6 = .ok (.if_icmp .ge 44, 3) := by decide +kernel
theorem dX10_readWord_9 : decode cX10_readWord 9 = .ok (.aload_n 0, 1) := by decide +kernel
theorem dX10_readWord_10 : decode cX10_readWord 10 = .ok (.invokevirtual 226, 3) := by decide +kernel
theorem dX10_readWord_13 : decode cX10_readWord 13 = .ok (.bipush 97, 2) := by decide +kernel
theorem dX10_readWord_15 : decode cX10_readWord 15 = .ok (.bipush 122, 2) := by decide +kernel
theorem dX10_readWord_17 : decode cX10_readWord 17 = .ok (.invokestatic 28, 3) := by decide +kernel
theorem dX10_readWord_20 : decode cX10_readWord 20 = .ok (.ifCond .eq 30, 3) := by decide +kernel
theorem dX10_readWord_23 : decode cX10_readWord 23 = .ok (.lload_n 1, 1) := by decide +kernel
theorem dX10_readWord_24 : decode cX10_readWord 24 = .ok (.bipush 8, 2) := by decide +kernel
theorem dX10_readWord_26 : decode cX10_readWord 26 = .ok (.lshl, 1) := by decide +kernel
theorem dX10_readWord_27 : decode cX10_readWord 27 = .ok (.aload_n 0, 1) := by decide +kernel
theorem dX10_readWord_28 : decode cX10_readWord 28 = .ok (.invokevirtual 226, 3) := by decide +kernel
theorem dX10_readWord_31 : decode cX10_readWord 31 = .ok (.i2l, 1) := by decide +kernel
theorem dX10_readWord_32 : decode cX10_readWord 32 = .ok (.lor, 1) := by decide +kernel
theorem dX10_readWord_33 : decode cX10_readWord 33 = .ok (.lstore_n 1, 1) := by decide +kernel
theorem dX10_readWord_34 : decode cX10_readWord 34 = .ok (.iinc 3 1, 3) := by decide +kernel
theorem dX10_readWord_37 : decode cX10_readWord 37 = .ok (.aload_n 0, 1) := by decide +kernel
theorem dX10_readWord_38 : decode cX10_readWord 38 = .ok (.dup, 1) := by decide +kernel
theorem dX10_readWord_39 : decode cX10_readWord 39 = .ok (.getfield 219, 3) := by decide +kernel
theorem dX10_readWord_42 : decode cX10_readWord 42 = .ok (.iconst 1, 1) := by decide +kernel
theorem dX10_readWord_43 : decode cX10_readWord 43 = .ok (.iadd, 1) := by decide +kernel
theorem dX10_readWord_44 : decode cX10_readWord 44 = .ok (.putfield 219, 3) := by decide +kernel
theorem dX10_readWord_47 : decode cX10_readWord 47 = .ok (.goto (-43), 3) := by decide +kernel
theorem dX10_readWord_50 : decode cX10_readWord 50 = .ok (.iconst 0, 1) := by decide +kernel
theorem dX10_readWord_51 : decode cX10_readWord 51 = .ok (.istore 4, 2) := by decide +kernel
theorem dX10_readWord_53 : decode cX10_readWord 53 = .ok (.iload 4, 2) := by decide +kernel
theorem dX10_readWord_55 : decode cX10_readWord 55 = .ok (.bipush 8, 2) := by decide +kernel
theorem dX10_readWord_57 : decode cX10_readWord 57 = .ok (.if_icmp .ge 22, 3) := by decide +kernel
theorem dX10_readWord_60 : decode cX10_readWord 60 = .ok (.iload 4, 2) := by decide +kernel
theorem dX10_readWord_62 : decode cX10_readWord 62 = .ok (.invokestatic 248, 3) := by decide +kernel
theorem dX10_readWord_65 : decode cX10_readWord 65 = .ok (.lload_n 1, 1) := by decide +kernel
theorem dX10_readWord_66 : decode cX10_readWord 66 = .ok (.lcmp, 1) := by decide +kernel
theorem dX10_readWord_67 : decode cX10_readWord 67 = .ok (.ifCond .ne 6, 3) := by decide +kernel
theorem dX10_readWord_70 : decode cX10_readWord 70 = .ok (.iload 4, 2) := by decide +kernel
theorem dX10_readWord_72 : decode cX10_readWord 72 = .ok (.ireturn, 1) := by decide +kernel
theorem dX10_readWord_73 : decode cX10_readWord 73 = .ok (.iinc 4 1, 3) := by decide +kernel
theorem dX10_readWord_76 : decode cX10_readWord 76 = .ok (.goto (-23), 3) := by decide +kernel
theorem dX10_readWord_79 : decode cX10_readWord 79 = .ok (.iconst (-1), 1) := by decide +kernel
theorem dX10_readWord_80 : decode cX10_readWord 80 = .ok (.ireturn, 1) := by decide +kernel
theorem dX10_command_0 : decode cX10_command 0 = .ok (.aload_n 0, 1) := by decide +kernel
theorem dX10_command_1 : decode cX10_command 1 = .ok (.invokevirtual 252, 3) := by decide +kernel
theorem dX10_command_4 : decode cX10_command 4 = .ok (.istore_n 1, 1) := by decide +kernel
theorem dX10_command_5 : decode cX10_command 5 = .ok (.aload_n 0, 1) := by decide +kernel
theorem dX10_command_6 : decode cX10_command 6 = .ok (.iload_n 1, 1) := by decide +kernel
theorem dX10_command_7 : decode cX10_command 7 = .ok (.ifCond .lt 7, 3) := by decide +kernel
theorem dX10_command_10 : decode cX10_command 10 = .ok (.iconst 1, 1) := by decide +kernel
theorem dX10_command_11 : decode cX10_command 11 = .ok (.goto 4, 3) := by decide +kernel
theorem dX10_command_14 : decode cX10_command 14 = .ok (.iconst 0, 1) := by decide +kernel
theorem dX10_command_15 : decode cX10_command 15 = .ok (.putfield 222, 3) := by decide +kernel
theorem dX10_command_18 : decode cX10_command 18 = .ok (.iload_n 1, 1) := by decide +kernel
theorem dX10_command_19 : decode cX10_command 19 = .ok (.iconst 5, 1) := by decide +kernel
theorem dX10_command_20 : decode cX10_command 20 = .ok (.if_icmp .ne 7, 3) := by decide +kernel
theorem dX10_command_23 : decode cX10_command 23 = .ok (.iconst 0, 1) := by decide +kernel
theorem dX10_command_24 : decode cX10_command 24 = .ok (.goto 23, 3) := by decide +kernel
theorem dX10_command_27 : decode cX10_command 27 = .ok (.iload_n 1, 1) := by decide +kernel
theorem dX10_command_28 : decode cX10_command 28 = .ok (.ifCond .eq 14, 3) := by decide +kernel
theorem dX10_command_31 : decode cX10_command 31 = .ok (.iload_n 1, 1) := by decide +kernel
theorem dX10_command_32 : decode cX10_command 32 = .ok (.iconst 4, 1) := by decide +kernel
theorem dX10_command_33 : decode cX10_command 33 = .ok (.if_icmp .eq 9, 3) := by decide +kernel
theorem dX10_command_36 : decode cX10_command 36 = .ok (.iload_n 1, 1) := by decide +kernel
theorem dX10_command_37 : decode cX10_command 37 = .ok (.bipush 6, 2) := by decide +kernel
theorem dX10_command_39 : decode cX10_command 39 = .ok (.if_icmp .ne 7, 3) := by decide +kernel
theorem dX10_command_42 : decode cX10_command 42 = .ok (.iconst 2, 1) := by decide +kernel
theorem dX10_command_43 : decode cX10_command 43 = .ok (.goto 4, 3) := by decide +kernel
theorem dX10_command_46 : decode cX10_command 46 = .ok (.iconst 1, 1) := by decide +kernel
theorem dX10_command_47 : decode cX10_command 47 = .ok (.istore_n 2, 1) := by decide +kernel
theorem dX10_command_48 : decode cX10_command 48 = .ok (.iconst 0, 1) := by decide +kernel
theorem dX10_command_49 : decode cX10_command 49 = .ok (.istore_n 3, 1) := by decide +kernel
theorem dX10_command_50 : decode cX10_command 50 = .ok (.iload_n 3, 1) := by decide +kernel
theorem dX10_command_51 : decode cX10_command 51 = .ok (.iload_n 2, 1) := by decide +kernel
theorem dX10_command_52 : decode cX10_command 52 = .ok (.if_icmp .ge 19, 3) := by decide +kernel
theorem dX10_command_55 : decode cX10_command 55 = .ok (.aload_n 0, 1) := by decide +kernel
theorem dX10_command_56 : decode cX10_command 56 = .ok (.getfield 25, 3) := by decide +kernel
theorem dX10_command_59 : decode cX10_command 59 = .ok (.iload_n 3, 1) := by decide +kernel
theorem dX10_command_60 : decode cX10_command 60 = .ok (.aload_n 0, 1) := by decide +kernel
theorem dX10_command_61 : decode cX10_command 61 = .ok (.invokevirtual 255, 3) := by decide +kernel
theorem dX10_command_64 : decode cX10_command 64 = .ok (.iastore, 1) := by decide +kernel
theorem dX10_command_65 : decode cX10_command 65 = .ok (.iinc 3 1, 3) := by decide +kernel
theorem dX10_command_68 : decode cX10_command 68 = .ok (.goto (-18), 3) := by decide +kernel
theorem dX10_command_71 : decode cX10_command 71 = .ok (.aload_n 0, 1) := by decide +kernel
theorem dX10_command_72 : decode cX10_command 72 = .ok (.bipush 59, 2) := by decide +kernel
theorem dX10_command_74 : decode cX10_command 74 = .ok (.invokevirtual 229, 3) := by decide +kernel
theorem dX10_command_77 : decode cX10_command 77 = .ok (.aload_n 0, 1) := by decide +kernel
theorem dX10_command_78 : decode cX10_command 78 = .ok (.getfield 222, 3) := by decide +kernel
theorem dX10_command_81 : decode cX10_command 81 = .ok (.ifCond .ne 5, 3) := by decide +kernel
theorem dX10_command_84 : decode cX10_command 84 = .ok (.iconst 0, 1) := by decide +kernel
theorem dX10_command_85 : decode cX10_command 85 = .ok (.ireturn, 1) := by decide +kernel
theorem dX10_command_86 : decode cX10_command 86 = .ok (.iload_n 1, 1) := by decide +kernel
theorem dX10_command_87 : decode cX10_command 87 = .ok (.tableswitch 130 0 6 #[41, 58, 69, 80, 91, 108, 113], 41) := by decide +kernel
theorem dX10_command_128 : decode cX10_command 128 = .ok (.aload_n 0, 1) := by decide +kernel
theorem dX10_command_129 : decode cX10_command 129 = .ok (.aload_n 0, 1) := by decide +kernel
theorem dX10_command_130 : decode cX10_command 130 = .ok (.getfield 25, 3) := by decide +kernel
theorem dX10_command_133 : decode cX10_command 133 = .ok (.iconst 0, 1) := by decide +kernel
theorem dX10_command_134 : decode cX10_command 134 = .ok (.iaload, 1) := by decide +kernel
theorem dX10_command_135 : decode cX10_command 135 = .ok (.aload_n 0, 1) := by decide +kernel
theorem dX10_command_136 : decode cX10_command 136 = .ok (.getfield 25, 3) := by decide +kernel
theorem dX10_command_139 : decode cX10_command 139 = .ok (.iconst 1, 1) := by decide +kernel
theorem dX10_command_140 : decode cX10_command 140 = .ok (.iaload, 1) := by decide +kernel
theorem dX10_command_141 : decode cX10_command 141 = .ok (.invokevirtual 157, 3) := by decide +kernel
theorem dX10_command_144 : decode cX10_command 144 = .ok (.ireturn, 1) := by decide +kernel
theorem dX10_command_145 : decode cX10_command 145 = .ok (.aload_n 0, 1) := by decide +kernel
theorem dX10_command_146 : decode cX10_command 146 = .ok (.aload_n 0, 1) := by decide +kernel
theorem dX10_command_147 : decode cX10_command 147 = .ok (.getfield 25, 3) := by decide +kernel
theorem dX10_command_150 : decode cX10_command 150 = .ok (.iconst 0, 1) := by decide +kernel
theorem dX10_command_151 : decode cX10_command 151 = .ok (.iaload, 1) := by decide +kernel
theorem dX10_command_152 : decode cX10_command 152 = .ok (.invokevirtual 160, 3) := by decide +kernel
theorem dX10_command_155 : decode cX10_command 155 = .ok (.ireturn, 1) := by decide +kernel
theorem dX10_command_156 : decode cX10_command 156 = .ok (.aload_n 0, 1) := by decide +kernel
theorem dX10_command_157 : decode cX10_command 157 = .ok (.aload_n 0, 1) := by decide +kernel
theorem dX10_command_158 : decode cX10_command 158 = .ok (.getfield 25, 3) := by decide +kernel
theorem dX10_command_161 : decode cX10_command 161 = .ok (.iconst 0, 1) := by decide +kernel
theorem dX10_command_162 : decode cX10_command 162 = .ok (.iaload, 1) := by decide +kernel
theorem dX10_command_163 : decode cX10_command 163 = .ok (.invokevirtual 163, 3) := by decide +kernel
theorem dX10_command_166 : decode cX10_command 166 = .ok (.ireturn, 1) := by decide +kernel
theorem dX10_command_167 : decode cX10_command 167 = .ok (.aload_n 0, 1) := by decide +kernel
theorem dX10_command_168 : decode cX10_command 168 = .ok (.aload_n 0, 1) := by decide +kernel
theorem dX10_command_169 : decode cX10_command 169 = .ok (.getfield 25, 3) := by decide +kernel
theorem dX10_command_172 : decode cX10_command 172 = .ok (.iconst 0, 1) := by decide +kernel
theorem dX10_command_173 : decode cX10_command 173 = .ok (.iaload, 1) := by decide +kernel
theorem dX10_command_174 : decode cX10_command 174 = .ok (.invokevirtual 166, 3) := by decide +kernel
theorem dX10_command_177 : decode cX10_command 177 = .ok (.ireturn, 1) := by decide +kernel
theorem dX10_command_178 : decode cX10_command 178 = .ok (.aload_n 0, 1) := by decide +kernel
theorem dX10_command_179 : decode cX10_command 179 = .ok (.aload_n 0, 1) := by decide +kernel
theorem dX10_command_180 : decode cX10_command 180 = .ok (.getfield 25, 3) := by decide +kernel
theorem dX10_command_183 : decode cX10_command 183 = .ok (.iconst 0, 1) := by decide +kernel
theorem dX10_command_184 : decode cX10_command 184 = .ok (.iaload, 1) := by decide +kernel
theorem dX10_command_185 : decode cX10_command 185 = .ok (.aload_n 0, 1) := by decide +kernel
theorem dX10_command_186 : decode cX10_command 186 = .ok (.getfield 25, 3) := by decide +kernel
theorem dX10_command_189 : decode cX10_command 189 = .ok (.iconst 1, 1) := by decide +kernel
theorem dX10_command_190 : decode cX10_command 190 = .ok (.iaload, 1) := by decide +kernel
theorem dX10_command_191 : decode cX10_command 191 = .ok (.invokevirtual 169, 3) := by decide +kernel
theorem dX10_command_194 : decode cX10_command 194 = .ok (.ireturn, 1) := by decide +kernel
theorem dX10_command_195 : decode cX10_command 195 = .ok (.aload_n 0, 1) := by decide +kernel
theorem dX10_command_196 : decode cX10_command 196 = .ok (.invokevirtual 175, 3) := by decide +kernel
theorem dX10_command_199 : decode cX10_command 199 = .ok (.ireturn, 1) := by decide +kernel
theorem dX10_command_200 : decode cX10_command 200 = .ok (.aload_n 0, 1) := by decide +kernel
theorem dX10_command_201 : decode cX10_command 201 = .ok (.aload_n 0, 1) := by decide +kernel
theorem dX10_command_202 : decode cX10_command 202 = .ok (.getfield 25, 3) := by decide +kernel
theorem dX10_command_205 : decode cX10_command 205 = .ok (.iconst 0, 1) := by decide +kernel
theorem dX10_command_206 : decode cX10_command 206 = .ok (.iaload, 1) := by decide +kernel
theorem dX10_command_207 : decode cX10_command 207 = .ok (.aload_n 0, 1) := by decide +kernel
theorem dX10_command_208 : decode cX10_command 208 = .ok (.getfield 25, 3) := by decide +kernel
theorem dX10_command_211 : decode cX10_command 211 = .ok (.iconst 1, 1) := by decide +kernel
theorem dX10_command_212 : decode cX10_command 212 = .ok (.iaload, 1) := by decide +kernel
theorem dX10_command_213 : decode cX10_command 213 = .ok (.invokevirtual 178, 3) := by decide +kernel
theorem dX10_command_216 : decode cX10_command 216 = .ok (.ireturn, 1) := by decide +kernel
theorem dX10_command_217 : decode cX10_command 217 = .ok (.aload_n 0, 1) := by decide +kernel
theorem dX10_command_218 : decode cX10_command 218 = .ok (.aload_n 0, 1) := by decide +kernel
theorem dX10_command_219 : decode cX10_command 219 = .ok (.getfield 25, 3) := by decide +kernel
theorem dX10_command_222 : decode cX10_command 222 = .ok (.iconst 0, 1) := by decide +kernel
theorem dX10_command_223 : decode cX10_command 223 = .ok (.iaload, 1) := by decide +kernel
theorem dX10_command_224 : decode cX10_command 224 = .ok (.invokevirtual 181, 3) := by decide +kernel
theorem dX10_command_227 : decode cX10_command 227 = .ok (.ireturn, 1) := by decide +kernel
theorem dX10_does_0 : decode cX10_does 0 = .ok (.aload_n 0, 1) := by decide +kernel
theorem dX10_does_1 : decode cX10_does 1 = .ok (.iconst 0, 1) := by decide +kernel
theorem dX10_does_2 : decode cX10_does 2 = .ok (.putfield 219, 3) := by decide +kernel
theorem dX10_does_5 : decode cX10_does 5 = .ok (.iconst 0, 1) := by decide +kernel
theorem dX10_does_6 : decode cX10_does 6 = .ok (.istore_n 1, 1) := by decide +kernel
theorem dX10_does_7 : decode cX10_does 7 = .ok (.aload_n 0, 1) := by decide +kernel
theorem dX10_does_8 : decode cX10_does 8 = .ok (.getfield 219, 3) := by decide +kernel
theorem dX10_does_11 : decode cX10_does 11 = .ok (.aload_n 0, 1) := by decide +kernel
theorem dX10_does_12 : decode cX10_does 12 = .ok (.getfield 196, 3) := by decide +kernel
theorem dX10_does_15 : decode cX10_does 15 = .ok (.if_icmp .ge 70, 3) := by decide +kernel
theorem dX10_does_18 : decode cX10_does 18 = .ok (.aload_n 0, 1) := by decide +kernel
theorem dX10_does_19 : decode cX10_does 19 = .ok (.getfield 219, 3) := by decide +kernel
theorem dX10_does_22 : decode cX10_does 22 = .ok (.istore_n 2, 1) := by decide +kernel
theorem dX10_does_23 : decode cX10_does 23 = .ok (.aload_n 0, 1) := by decide +kernel
theorem dX10_does_24 : decode cX10_does 24 = .ok (.invokevirtual 258, 3) := by decide +kernel
theorem dX10_does_27 : decode cX10_does 27 = .ok (.istore_n 3, 1) := by decide +kernel
theorem dX10_does_28 : decode cX10_does 28 = .ok (.aload_n 0, 1) := by decide +kernel
theorem dX10_does_29 : decode cX10_does 29 = .ok (.aload_n 0, 1) := by decide +kernel
theorem dX10_does_30 : decode cX10_does 30 = .ok (.getfield 222, 3) := by decide +kernel
theorem dX10_does_33 : decode cX10_does 33 = .ok (.ifCond .ne 7, 3) := by decide +kernel
theorem dX10_does_36 : decode cX10_does 36 = .ok (.iconst 1, 1) := by decide +kernel
theorem dX10_does_37 : decode cX10_does 37 = .ok (.goto 12, 3) := by decide +kernel
theorem dX10_does_40 : decode cX10_does 40 = .ok (.iload_n 3, 1) := by decide +kernel
theorem dX10_does_41 : decode cX10_does 41 = .ok (.ifCond .ge 7, 3) := by decide +kernel
theorem dX10_does_44 : decode cX10_does 44 = .ok (.iconst 2, 1) := by decide +kernel
theorem dX10_does_45 : decode cX10_does 45 = .ok (.goto 4, 3) := by decide +kernel
theorem dX10_does_48 : decode cX10_does 48 = .ok (.iconst 0, 1) := by decide +kernel
theorem dX10_does_49 : decode cX10_does 49 = .ok (.putfield 261, 3) := by decide +kernel
theorem dX10_does_52 : decode cX10_does 52 = .ok (.aload_n 0, 1) := by decide +kernel
theorem dX10_does_53 : decode cX10_does 53 = .ok (.aload_n 0, 1) := by decide +kernel
theorem dX10_does_54 : decode cX10_does 54 = .ok (.getfield 261, 3) := by decide +kernel
theorem dX10_does_57 : decode cX10_does 57 = .ok (.iconst 2, 1) := by decide +kernel
theorem dX10_does_58 : decode cX10_does 58 = .ok (.if_icmp .ne 7, 3) := by decide +kernel
theorem dX10_does_61 : decode cX10_does 61 = .ok (.iload_n 3, 1) := by decide +kernel
theorem dX10_does_62 : decode cX10_does 62 = .ok (.goto 5, 3) := by decide +kernel
theorem dX10_does_65 : decode cX10_does 65 = .ok (.bipush (-4), 2) := by decide +kernel
theorem dX10_does_67 : decode cX10_does 67 = .ok (.putfield 264, 3) := by decide +kernel
theorem dX10_does_70 : decode cX10_does 70 = .ok (.aload_n 0, 1) := by decide +kernel
theorem dX10_does_71 : decode cX10_does 71 = .ok (.getfield 261, 3) := by decide +kernel
theorem dX10_does_74 : decode cX10_does 74 = .ok (.ifCond .le 5, 3) := by decide +kernel
theorem dX10_does_77 : decode cX10_does 77 = .ok (.iload_n 2, 1) := by decide +kernel
theorem dX10_does_78 : decode cX10_does 78 = .ok (.ireturn, 1) := by decide +kernel
theorem dX10_does_79 : decode cX10_does 79 = .ok (.iinc 1 1, 3) := by decide +kernel
theorem dX10_does_82 : decode cX10_does 82 = .ok (.goto (-75), 3) := by decide +kernel
theorem dX10_does_85 : decode cX10_does 85 = .ok (.iconst (-1), 1) := by decide +kernel
theorem dX10_does_86 : decode cX10_does 86 = .ok (.iload_n 1, 1) := by decide +kernel
theorem dX10_does_87 : decode cX10_does 87 = .ok (.isub, 1) := by decide +kernel
theorem dX10_does_88 : decode cX10_does 88 = .ok (.ireturn, 1) := by decide +kernel
theorem dX10_fault_0 : decode cX10_fault 0 = .ok (.iload_n 1, 1) := by decide +kernel
theorem dX10_fault_1 : decode cX10_fault 1 = .ok (.iconst 0, 1) := by decide +kernel
theorem dX10_fault_2 : decode cX10_fault 2 = .ok (.iconst 2, 1) := by decide +kernel
theorem dX10_fault_3 : decode cX10_fault 3 = .ok (.invokestatic 28, 3) := by decide +kernel
theorem dX10_fault_6 : decode cX10_fault 6 = .ok (.ifCond .ne 5, 3) := by decide +kernel
theorem dX10_fault_9 : decode cX10_fault 9 = .ok (.iconst (-1), 1) := by decide +kernel
theorem dX10_fault_10 : decode cX10_fault 10 = .ok (.ireturn, 1) := by decide +kernel
theorem dX10_fault_11 : decode cX10_fault 11 = .ok (.aload_n 0, 1) := by decide +kernel
theorem dX10_fault_12 : decode cX10_fault 12 = .ok (.invokevirtual 199, 3) := by decide +kernel
theorem dX10_fault_15 : decode cX10_fault 15 = .ok (.aload_n 0, 1) := by decide +kernel
theorem dX10_fault_16 : decode cX10_fault 16 = .ok (.invokevirtual 267, 3) := by decide +kernel
theorem dX10_fault_19 : decode cX10_fault 19 = .ok (.istore_n 2, 1) := by decide +kernel
theorem dX10_fault_20 : decode cX10_fault 20 = .ok (.aload_n 0, 1) := by decide +kernel
theorem dX10_fault_21 : decode cX10_fault 21 = .ok (.invokevirtual 202, 3) := by decide +kernel
theorem dX10_fault_24 : decode cX10_fault 24 = .ok (.iload_n 2, 1) := by decide +kernel
theorem dX10_fault_25 : decode cX10_fault 25 = .ok (.ifCond .ge 6, 3) := by decide +kernel
theorem dX10_fault_28 : decode cX10_fault 28 = .ok (.bipush (-4), 2) := by decide +kernel
theorem dX10_fault_30 : decode cX10_fault 30 = .ok (.ireturn, 1) := by decide +kernel
theorem dX10_fault_31 : decode cX10_fault 31 = .ok (.iload_n 1, 1) := by decide +kernel
theorem dX10_fault_32 : decode cX10_fault 32 = .ok (.ifCond .ne 7, 3) := by decide +kernel
theorem dX10_fault_35 : decode cX10_fault 35 = .ok (.iload_n 2, 1) := by decide +kernel
theorem dX10_fault_36 : decode cX10_fault 36 = .ok (.goto 19, 3) := by decide +kernel
theorem dX10_fault_39 : decode cX10_fault 39 = .ok (.iload_n 1, 1) := by decide +kernel
theorem dX10_fault_40 : decode cX10_fault 40 = .ok (.iconst 1, 1) := by decide +kernel
theorem dX10_fault_41 : decode cX10_fault 41 = .ok (.if_icmp .ne 10, 3) := by decide +kernel
theorem dX10_fault_44 : decode cX10_fault 44 = .ok (.aload_n 0, 1) := by decide +kernel
theorem dX10_fault_45 : decode cX10_fault 45 = .ok (.getfield 261, 3) := by decide +kernel
theorem dX10_fault_48 : decode cX10_fault 48 = .ok (.goto 7, 3) := by decide +kernel
theorem dX10_fault_51 : decode cX10_fault 51 = .ok (.aload_n 0, 1) := by decide +kernel
theorem dX10_fault_52 : decode cX10_fault 52 = .ok (.getfield 264, 3) := by decide +kernel
theorem dX10_fault_55 : decode cX10_fault 55 = .ok (.ireturn, 1) := by decide +kernel
theorem dX10_play_0 : decode cX10_play 0 = .ok (.aload_n 0, 1) := by decide +kernel
theorem dX10_play_1 : decode cX10_play 1 = .ok (.invokevirtual 142, 3) := by decide +kernel
theorem dX10_play_4 : decode cX10_play 4 = .ok (.aload_n 0, 1) := by decide +kernel
theorem dX10_play_5 : decode cX10_play 5 = .ok (.invokevirtual 199, 3) := by decide +kernel
theorem dX10_play_8 : decode cX10_play 8 = .ok (.aload_n 0, 1) := by decide +kernel
theorem dX10_play_9 : decode cX10_play 9 = .ok (.invokevirtual 267, 3) := by decide +kernel
theorem dX10_play_12 : decode cX10_play 12 = .ok (.istore_n 1, 1) := by decide +kernel
theorem dX10_play_13 : decode cX10_play 13 = .ok (.iload_n 1, 1) := by decide +kernel
theorem dX10_play_14 : decode cX10_play 14 = .ok (.ifCond .lt 10, 3) := by decide +kernel
theorem dX10_play_17 : decode cX10_play 17 = .ok (.aload_n 0, 1) := by decide +kernel
theorem dX10_play_18 : decode cX10_play 18 = .ok (.invokevirtual 202, 3) := by decide +kernel
theorem dX10_play_21 : decode cX10_play 21 = .ok (.bipush (-2), 2) := by decide +kernel
theorem dX10_play_23 : decode cX10_play 23 = .ok (.ireturn, 1) := by decide +kernel
theorem dX10_play_24 : decode cX10_play 24 = .ok (.aload_n 0, 1) := by decide +kernel
theorem dX10_play_25 : decode cX10_play 25 = .ok (.iconst (-1), 1) := by decide +kernel
theorem dX10_play_26 : decode cX10_play 26 = .ok (.iload_n 1, 1) := by decide +kernel
theorem dX10_play_27 : decode cX10_play 27 = .ok (.isub, 1) := by decide +kernel
theorem dX10_play_28 : decode cX10_play 28 = .ok (.invokevirtual 148, 3) := by decide +kernel
theorem dX10_play_31 : decode cX10_play 31 = .ok (.ireturn, 1) := by decide +kernel
theorem dJxe99ae_isNaN_b9ae7_0 : decode cJxe99ae_isNaN_b9ae7 0 = .ok (.dload_n 0, 1) := by decide +kernel
theorem dJxe99ae_isNaN_b9ae7_1 : decode cJxe99ae_isNaN_b9ae7 1 = .ok (.dload_n 0, 1) := by decide +kernel
theorem dJxe99ae_isNaN_b9ae7_2 : decode cJxe99ae_isNaN_b9ae7 2 = .ok (.dcmp .l, 1) := by decide +kernel
theorem dJxe99ae_isNaN_b9ae7_3 : decode cJxe99ae_isNaN_b9ae7 3 = .ok (.ifCond .eq 7, 3) := by decide +kernel
theorem dJxe99ae_isNaN_b9ae7_6 : decode cJxe99ae_isNaN_b9ae7 6 = .ok (.iconst 1, 1) := by decide +kernel
theorem dJxe99ae_isNaN_b9ae7_7 : decode cJxe99ae_isNaN_b9ae7 7 = .ok (.goto 4, 3) := by decide +kernel
theorem dJxe99ae_isNaN_b9ae7_10 : decode cJxe99ae_isNaN_b9ae7 10 = .ok (.iconst 0, 1) := by decide +kernel
theorem dJxe99ae_isNaN_b9ae7_11 : decode cJxe99ae_isNaN_b9ae7 11 = .ok (.ireturn, 1) := by decide +kernel
theorem dJxe99ae_doubleToLongBits_ccdee_0 : decode cJxe99ae_doubleToLongBits_ccdee 0 = .ok (.dload_n 0, 1) := by decide +kernel
theorem dJxe99ae_doubleToLongBits_ccdee_1 : decode cJxe99ae_doubleToLongBits_ccdee 1 = .ok (.invokestatic 122, 3) := by decide +kernel
theorem dJxe99ae_doubleToLongBits_ccdee_4 : decode cJxe99ae_doubleToLongBits_ccdee 4 = .ok (.ifCond .ne 8, 3) := by decide +kernel
theorem dJxe99ae_doubleToLongBits_ccdee_7 : decode cJxe99ae_doubleToLongBits_ccdee 7 = .ok (.dload_n 0, 1) := by decide +kernel
theorem dJxe99ae_doubleToLongBits_ccdee_8 : decode cJxe99ae_doubleToLongBits_ccdee 8 = .ok (.invokestatic 134, 3) := by decide +kernel
theorem dJxe99ae_doubleToLongBits_ccdee_11 : decode cJxe99ae_doubleToLongBits_ccdee 11 = .ok (.lreturn, 1) := by decide +kernel
theorem dJxe99ae_doubleToLongBits_ccdee_12 : decode cJxe99ae_doubleToLongBits_ccdee 12 = .ok (.ldc2_w 137, 3) := by decide +kernel
theorem dJxe99ae_doubleToLongBits_ccdee_15 : decode cJxe99ae_doubleToLongBits_ccdee 15 = .ok (.lreturn, 1) := by decide +kernel
theorem dJx29ce0_ordinal_8abf5_0 : decode cJx29ce0_ordinal_8abf5 0 = .ok (.aload_n 0, 1) := by decide +kernel
theorem dJx29ce0_ordinal_8abf5_1 : decode cJx29ce0_ordinal_8abf5 1 = .ok (.getfield 7, 3) := by decide +kernel
theorem dJx29ce0_ordinal_8abf5_4 : decode cJx29ce0_ordinal_8abf5 4 = .ok (.ireturn, 1) := by decide +kernel
theorem dJxf58ca_isNaN_12338_0 : decode cJxf58ca_isNaN_12338 0 = .ok (.fload_n 0, 1) := by decide +kernel
theorem dJxf58ca_isNaN_12338_1 : decode cJxf58ca_isNaN_12338 1 = .ok (.fload_n 0, 1) := by decide +kernel
theorem dJxf58ca_isNaN_12338_2 : decode cJxf58ca_isNaN_12338 2 = .ok (.fcmp .l, 1) := by decide +kernel
theorem dJxf58ca_isNaN_12338_3 : decode cJxf58ca_isNaN_12338 3 = .ok (.ifCond .eq 7, 3) := by decide +kernel
theorem dJxf58ca_isNaN_12338_6 : decode cJxf58ca_isNaN_12338 6 = .ok (.iconst 1, 1) := by decide +kernel
theorem dJxf58ca_isNaN_12338_7 : decode cJxf58ca_isNaN_12338 7 = .ok (.goto 4, 3) := by decide +kernel
theorem dJxf58ca_isNaN_12338_10 : decode cJxf58ca_isNaN_12338 10 = .ok (.iconst 0, 1) := by decide +kernel
theorem dJxf58ca_isNaN_12338_11 : decode cJxf58ca_isNaN_12338 11 = .ok (.ireturn, 1) := by decide +kernel
theorem dJxf58ca_floatToIntBits_5c35a_0 : decode cJxf58ca_floatToIntBits_5c35a 0 = .ok (.fload_n 0, 1) := by decide +kernel
theorem dJxf58ca_floatToIntBits_5c35a_1 : decode cJxf58ca_floatToIntBits_5c35a 1 = .ok (.invokestatic 59, 3) := by decide +kernel
theorem dJxf58ca_floatToIntBits_5c35a_4 : decode cJxf58ca_floatToIntBits_5c35a 4 = .ok (.ifCond .ne 8, 3) := by decide +kernel
theorem dJxf58ca_floatToIntBits_5c35a_7 : decode cJxf58ca_floatToIntBits_5c35a 7 = .ok (.fload_n 0, 1) := by decide +kernel
theorem dJxf58ca_floatToIntBits_5c35a_8 : decode cJxf58ca_floatToIntBits_5c35a 8 = .ok (.invokestatic 74, 3) := by decide +kernel
theorem dJxf58ca_floatToIntBits_5c35a_11 : decode cJxf58ca_floatToIntBits_5c35a 11 = .ok (.ireturn, 1) := by decide +kernel
theorem dJxf58ca_floatToIntBits_5c35a_12 : decode cJxf58ca_floatToIntBits_5c35a 12 = .ok (.ldc 77, 2) := by decide +kernel
theorem dJxf58ca_floatToIntBits_5c35a_14 : decode cJxf58ca_floatToIntBits_5c35a 14 = .ok (.ireturn, 1) := by decide +kernel
theorem dJ9_floorMod_7cf53_0 : decode cJ9_floorMod_7cf53 0 = .ok (.iload_n 0, 1) := by decide +kernel
theorem dJ9_floorMod_7cf53_1 : decode cJ9_floorMod_7cf53 1 = .ok (.iload_n 1, 1) := by decide +kernel
theorem dJ9_floorMod_7cf53_2 : decode cJ9_floorMod_7cf53 2 = .ok (.irem, 1) := by decide +kernel
theorem dJ9_floorMod_7cf53_3 : decode cJ9_floorMod_7cf53 3 = .ok (.istore_n 2, 1) := by decide +kernel
theorem dJ9_floorMod_7cf53_4 : decode cJ9_floorMod_7cf53 4 = .ok (.iload_n 0, 1) := by decide +kernel
theorem dJ9_floorMod_7cf53_5 : decode cJ9_floorMod_7cf53 5 = .ok (.iload_n 1, 1) := by decide +kernel
theorem dJ9_floorMod_7cf53_6 : decode cJ9_floorMod_7cf53 6 = .ok (.ixor, 1) := by decide +kernel
theorem dJ9_floorMod_7cf53_7 : decode cJ9_floorMod_7cf53 7 = .ok (.ifCond .ge 11, 3) := by decide +kernel
theorem dJ9_floorMod_7cf53_10 : decode cJ9_floorMod_7cf53 10 = .ok (.iload_n 2, 1) := by decide +kernel
theorem dJ9_floorMod_7cf53_11 : decode cJ9_floorMod_7cf53 11 = .ok (.ifCond .eq 7, 3) := by decide +kernel
theorem dJ9_floorMod_7cf53_14 : decode cJ9_floorMod_7cf53 14 = .ok (.iload_n 2, 1) := by decide +kernel
theorem dJ9_floorMod_7cf53_15 : decode cJ9_floorMod_7cf53 15 = .ok (.iload_n 1, 1) := by decide +kernel
theorem dJ9_floorMod_7cf53_16 : decode cJ9_floorMod_7cf53 16 = .ok (.iadd, 1) := by decide +kernel
theorem dJ9_floorMod_7cf53_17 : decode cJ9_floorMod_7cf53 17 = .ok (.ireturn, 1) := by decide +kernel
theorem dJ9_floorMod_7cf53_18 : decode cJ9_floorMod_7cf53 18 = .ok (.iload_n 2, 1) := by decide +kernel
theorem dJ9_floorMod_7cf53_19 : decode cJ9_floorMod_7cf53 19 = .ok (.ireturn, 1) := by decide +kernel
theorem dJ0_length_8abf5_0 : decode cJ0_length_8abf5 0 = .ok (.aload_n 0, 1) := by decide +kernel
theorem dJ0_length_8abf5_1 : decode cJ0_length_8abf5 1 = .ok (.getfield 9, 3) := by decide +kernel
theorem dJ0_length_8abf5_4 : decode cJ0_length_8abf5 4 = .ok (.arraylength, 1) := by decide +kernel
theorem dJ0_length_8abf5_5 : decode cJ0_length_8abf5 5 = .ok (.aload_n 0, 1) := by decide +kernel
theorem dJ0_length_8abf5_6 : decode cJ0_length_8abf5 6 = .ok (.invokevirtual 335, 3) := by decide +kernel
theorem dJ0_length_8abf5_9 : decode cJ0_length_8abf5 9 = .ok (.ishr, 1) := by decide +kernel
theorem dJ0_length_8abf5_10 : decode cJ0_length_8abf5 10 = .ok (.ireturn, 1) := by decide +kernel
theorem dJ0_charAt_5068e_0 : decode cJ0_charAt_5068e 0 = .ok (.aload_n 0, 1) := by decide +kernel
theorem dJ0_charAt_5068e_1 : decode cJ0_charAt_5068e 1 = .ok (.invokevirtual 492, 3) := by decide +kernel
theorem dJ0_charAt_5068e_4 : decode cJ0_charAt_5068e 4 = .ok (.ifCond .eq 12, 3) := by decide +kernel
theorem dJ0_charAt_5068e_7 : decode cJ0_charAt_5068e 7 = .ok (.aload_n 0, 1) := by decide +kernel
theorem dJ0_charAt_5068e_8 : decode cJ0_charAt_5068e 8 = .ok (.getfield 9, 3) := by decide +kernel
theorem dJ0_charAt_5068e_11 : decode cJ0_charAt_5068e 11 = .ok (.iload_n 1, 1) := by decide +kernel
theorem dJ0_charAt_5068e_12 : decode cJ0_charAt_5068e 12 = .ok (.invokestatic 495, 3) := by decide +kernel
theorem dJ0_charAt_5068e_15 : decode cJ0_charAt_5068e 15 = .ok (.ireturn, 1) := by decide +kernel
theorem dJ0_charAt_5068e_16 : decode cJ0_charAt_5068e 16 = .ok (.aload_n 0, 1) := by decide +kernel
theorem dJ0_charAt_5068e_17 : decode cJ0_charAt_5068e 17 = .ok (.getfield 9, 3) := by decide +kernel
theorem dJ0_charAt_5068e_20 : decode cJ0_charAt_5068e 20 = .ok (.iload_n 1, 1) := by decide +kernel
theorem dJ0_charAt_5068e_21 : decode cJ0_charAt_5068e 21 = .ok (.invokestatic 498, 3) := by decide +kernel
theorem dJ0_charAt_5068e_24 : decode cJ0_charAt_5068e 24 = .ok (.ireturn, 1) := by decide +kernel
theorem dJ0_coder_7d493_0 : decode cJ0_coder_7d493 0 = .ok (.getstatic 38, 3) := by decide +kernel
theorem dJ0_coder_7d493_3 : decode cJ0_coder_7d493 3 = .ok (.ifCond .eq 10, 3) := by decide +kernel
theorem dJ0_coder_7d493_6 : decode cJ0_coder_7d493 6 = .ok (.aload_n 0, 1) := by decide +kernel
theorem dJ0_coder_7d493_7 : decode cJ0_coder_7d493 7 = .ok (.getfield 15, 3) := by decide +kernel
theorem dJ0_coder_7d493_10 : decode cJ0_coder_7d493 10 = .ok (.goto 4, 3) := by decide +kernel
theorem dJ0_coder_7d493_13 : decode cJ0_coder_7d493 13 = .ok (.iconst 1, 1) := by decide +kernel
theorem dJ0_coder_7d493_14 : decode cJ0_coder_7d493 14 = .ok (.ireturn, 1) := by decide +kernel
theorem dJ0_isLatin1_aae02_0 : decode cJ0_isLatin1_aae02 0 = .ok (.getstatic 38, 3) := by decide +kernel
theorem dJ0_isLatin1_aae02_3 : decode cJ0_isLatin1_aae02 3 = .ok (.ifCond .eq 14, 3) := by decide +kernel
theorem dJ0_isLatin1_aae02_6 : decode cJ0_isLatin1_aae02 6 = .ok (.aload_n 0, 1) := by decide +kernel
theorem dJ0_isLatin1_aae02_7 : decode cJ0_isLatin1_aae02 7 = .ok (.getfield 15, 3) := by decide +kernel
theorem dJ0_isLatin1_aae02_10 : decode cJ0_isLatin1_aae02 10 = .ok (.ifCond .ne 7, 3) := by decide +kernel
theorem dJ0_isLatin1_aae02_13 : decode cJ0_isLatin1_aae02 13 = .ok (.iconst 1, 1) := by decide +kernel
theorem dJ0_isLatin1_aae02_14 : decode cJ0_isLatin1_aae02 14 = .ok (.goto 4, 3) := by decide +kernel
theorem dJ0_isLatin1_aae02_17 : decode cJ0_isLatin1_aae02 17 = .ok (.iconst 0, 1) := by decide +kernel
theorem dJ0_isLatin1_aae02_18 : decode cJ0_isLatin1_aae02 18 = .ok (.ireturn, 1) := by decide +kernel
theorem dJ0_checkIndex_df160_0 : decode cJ0_checkIndex_df160 0 = .ok (.iload_n 0, 1) := by decide +kernel
theorem dJ0_checkIndex_df160_1 : decode cJ0_checkIndex_df160 1 = .ok (.iload_n 1, 1) := by decide +kernel
theorem dJ0_checkIndex_df160_2 : decode cJ0_checkIndex_df160 2 = .ok (.getstatic 1053, 3) := by decide +kernel
theorem dJ0_checkIndex_df160_5 : decode cJ0_checkIndex_df160 5 = .ok (.invokestatic 1059, 3) := by decide +kernel
theorem dJ0_checkIndex_df160_8 : decode cJ0_checkIndex_df160 8 = .ok (.pop, 1) := by decide +kernel
theorem dJ0_checkIndex_df160_9 : decode cJ0_checkIndex_df160 9 = .ok (.return_, 1) := by decide +kernel
theorem dJ1_charAt_3b067_0 : decode cJ1_charAt_3b067 0 = .ok (.iload_n 1, 1) := by decide +kernel
theorem dJ1_charAt_3b067_1 : decode cJ1_charAt_3b067 1 = .ok (.aload_n 0, 1) := by decide +kernel
theorem dJ1_charAt_3b067_2 : decode cJ1_charAt_3b067 2 = .ok (.arraylength, 1) := by decide +kernel
theorem dJ1_charAt_3b067_3 : decode cJ1_charAt_3b067 3 = .ok (.invokestatic 9, 3) := by decide +kernel
theorem dJ1_charAt_3b067_6 : decode cJ1_charAt_3b067 6 = .ok (.aload_n 0, 1) := by decide +kernel
theorem dJ1_charAt_3b067_7 : decode cJ1_charAt_3b067 7 = .ok (.iload_n 1, 1) := by decide +kernel
theorem dJ1_charAt_3b067_8 : decode cJ1_charAt_3b067 8 = .ok (.baload, 1) := by decide +kernel
theorem dJ1_charAt_3b067_9 : decode cJ1_charAt_3b067 9 = .ok (.sipush 255, 3) := by decide +kernel
theorem dJ1_charAt_3b067_12 : decode cJ1_charAt_3b067 12 = .ok (.iand, 1) := by decide +kernel
theorem dJ1_charAt_3b067_13 : decode cJ1_charAt_3b067 13 = .ok (.i2c, 1) := by decide +kernel
theorem dJ1_charAt_3b067_14 : decode cJ1_charAt_3b067 14 = .ok (.ireturn, 1) := by decide +kernel
theorem dJ2_getChar_3b067_0 : decode cJ2_getChar_3b067 0 = .ok (.getstatic 44, 3) := by decide +kernel
theorem dJ2_getChar_3b067_3 : decode cJ2_getChar_3b067 3 = .ok (.ifCond .ne 25, 3) := by decide +kernel
theorem dJ2_getChar_3b067_6 : decode cJ2_getChar_3b067 6 = .ok (.iload_n 1, 1) := by decide +kernel
theorem dJ2_getChar_3b067_7 : decode cJ2_getChar_3b067 7 = .ok (.ifCond .lt 11, 3) := by decide +kernel
theorem dJ2_getChar_3b067_10 : decode cJ2_getChar_3b067 10 = .ok (.iload_n 1, 1) := by decide +kernel
theorem dJ2_getChar_3b067_11 : decode cJ2_getChar_3b067 11 = .ok (.aload_n 0, 1) := by decide +kernel
theorem dJ2_getChar_3b067_12 : decode cJ2_getChar_3b067 12 = .ok (.invokestatic 48, 3) := by decide +kernel
theorem dJ2_getChar_3b067_15 : decode cJ2_getChar_3b067 15 = .ok (.if_icmp .lt 13, 3) := by decide +kernel
theorem dJ2_getChar_3b067_18 : decode cJ2_getChar_3b067 18 = .ok (.new 52, 3) := by decide +kernel
theorem dJ2_getChar_3b067_21 : decode cJ2_getChar_3b067 21 = .ok (.dup, 1) := by decide +kernel
theorem dJ2_getChar_3b067_22 : decode cJ2_getChar_3b067 22 = .ok (.ldc 54, 2) := by decide +kernel
theorem dJ2_getChar_3b067_24 : decode cJ2_getChar_3b067 24 = .ok (.invokespecial 56, 3) := by decide +kernel
theorem dJ2_getChar_3b067_27 : decode cJ2_getChar_3b067 27 = .ok (.athrow, 1) := by decide +kernel
theorem dJ2_getChar_3b067_28 : decode cJ2_getChar_3b067 28 = .ok (.iload_n 1, 1) := by decide +kernel
theorem dJ2_getChar_3b067_29 : decode cJ2_getChar_3b067 29 = .ok (.iconst 1, 1) := by decide +kernel
theorem dJ2_getChar_3b067_30 : decode cJ2_getChar_3b067 30 = .ok (.ishl, 1) := by decide +kernel
theorem dJ2_getChar_3b067_31 : decode cJ2_getChar_3b067 31 = .ok (.istore_n 1, 1) := by decide +kernel
theorem dJ2_getChar_3b067_32 : decode cJ2_getChar_3b067 32 = .ok (.aload_n 0, 1) := by decide +kernel
theorem dJ2_getChar_3b067_33 : decode cJ2_getChar_3b067 33 = .ok (.iload_n 1, 1) := by decide +kernel
theorem dJ2_getChar_3b067_34 : decode cJ2_getChar_3b067 34 = .ok (.iinc 1 1, 3) := by decide +kernel
theorem dJ2_getChar_3b067_37 : decode cJ2_getChar_3b067 37 = .ok (.baload, 1) := by decide +kernel
theorem dJ2_getChar_3b067_38 : decode cJ2_getChar_3b067 38 = .ok (.sipush 255, 3) := by decide +kernel
theorem dJ2_getChar_3b067_41 : decode cJ2_getChar_3b067 41 = .ok (.iand, 1) := by decide +kernel
theorem dJ2_getChar_3b067_42 : decode cJ2_getChar_3b067 42 = .ok (.getstatic 59, 3) := by decide +kernel
theorem dJ2_getChar_3b067_45 : decode cJ2_getChar_3b067 45 = .ok (.ishl, 1) := by decide +kernel
theorem dJ2_getChar_3b067_46 : decode cJ2_getChar_3b067 46 = .ok (.aload_n 0, 1) := by decide +kernel
theorem dJ2_getChar_3b067_47 : decode cJ2_getChar_3b067 47 = .ok (.iload_n 1, 1) := by decide +kernel
theorem dJ2_getChar_3b067_48 : decode cJ2_getChar_3b067 48 = .ok (.baload, 1) := by decide +kernel
theorem dJ2_getChar_3b067_49 : decode cJ2_getChar_3b067 49 = .ok (.sipush 255, 3) := by decide +kernel
theorem dJ2_getChar_3b067_52 : decode cJ2_getChar_3b067 52 = .ok (.iand, 1) := by decide +kernel
theorem dJ2_getChar_3b067_53 : decode cJ2_getChar_3b067 53 = .ok (.getstatic 63, 3) := by decide +kernel
theorem dJ2_getChar_3b067_56 : decode cJ2_getChar_3b067 56 = .ok (.ishl, 1) := by decide +kernel
theorem dJ2_getChar_3b067_57 : decode cJ2_getChar_3b067 57 = .ok (.ior, 1) := by decide +kernel
theorem dJ2_getChar_3b067_58 : decode cJ2_getChar_3b067 58 = .ok (.i2c, 1) := by decide +kernel
theorem dJ2_getChar_3b067_59 : decode cJ2_getChar_3b067 59 = .ok (.ireturn, 1) := by decide +kernel
theorem dJ2_length_9d52b_0 : decode cJ2_length_9d52b 0 = .ok (.aload_n 0, 1) := by decide +kernel
theorem dJ2_length_9d52b_1 : decode cJ2_length_9d52b 1 = .ok (.arraylength, 1) := by decide +kernel
theorem dJ2_length_9d52b_2 : decode cJ2_length_9d52b 2 = .ok (.iconst 1, 1) := by decide +kernel
theorem dJ2_length_9d52b_3 : decode cJ2_length_9d52b 3 = .ok (.ishr, 1) := by decide +kernel
theorem dJ2_length_9d52b_4 : decode cJ2_length_9d52b 4 = .ok (.ireturn, 1) := by decide +kernel
theorem dJ2_charAt_3b067_0 : decode cJ2_charAt_3b067 0 = .ok (.iload_n 1, 1) := by decide +kernel
theorem dJ2_charAt_3b067_1 : decode cJ2_charAt_3b067 1 = .ok (.aload_n 0, 1) := by decide +kernel
theorem dJ2_charAt_3b067_2 : decode cJ2_charAt_3b067 2 = .ok (.invokestatic 67, 3) := by decide +kernel
theorem dJ2_charAt_3b067_5 : decode cJ2_charAt_3b067 5 = .ok (.aload_n 0, 1) := by decide +kernel
theorem dJ2_charAt_3b067_6 : decode cJ2_charAt_3b067 6 = .ok (.iload_n 1, 1) := by decide +kernel
theorem dJ2_charAt_3b067_7 : decode cJ2_charAt_3b067 7 = .ok (.invokestatic 71, 3) := by decide +kernel
theorem dJ2_charAt_3b067_10 : decode cJ2_charAt_3b067 10 = .ok (.ireturn, 1) := by decide +kernel
theorem dJ2_checkIndex_2214a_0 : decode cJ2_checkIndex_2214a 0 = .ok (.iload_n 0, 1) := by decide +kernel
theorem dJ2_checkIndex_2214a_1 : decode cJ2_checkIndex_2214a 1 = .ok (.aload_n 1, 1) := by decide +kernel
theorem dJ2_checkIndex_2214a_2 : decode cJ2_checkIndex_2214a 2 = .ok (.invokestatic 48, 3) := by decide +kernel
theorem dJ2_checkIndex_2214a_5 : decode cJ2_checkIndex_2214a 5 = .ok (.invokestatic 414, 3) := by decide +kernel
theorem dJ2_checkIndex_2214a_8 : decode cJ2_checkIndex_2214a 8 = .ok (.return_, 1) := by decide +kernel
theorem dJ3_checkIndex_8e157_0 : decode cJ3_checkIndex_8e157 0 = .ok (.iload_n 0, 1) := by decide +kernel
theorem dJ3_checkIndex_8e157_1 : decode cJ3_checkIndex_8e157 1 = .ok (.ifCond .lt 8, 3) := by decide +kernel
theorem dJ3_checkIndex_8e157_4 : decode cJ3_checkIndex_8e157 4 = .ok (.iload_n 0, 1) := by decide +kernel
theorem dJ3_checkIndex_8e157_5 : decode cJ3_checkIndex_8e157 5 = .ok (.iload_n 1, 1) := by decide +kernel
theorem dJ3_checkIndex_8e157_6 : decode cJ3_checkIndex_8e157 6 = .ok (.if_icmp .lt 10, 3) := by decide +kernel
theorem dJ3_checkIndex_8e157_9 : decode cJ3_checkIndex_8e157 9 = .ok (.aload_n 2, 1) := by decide +kernel
theorem dJ3_checkIndex_8e157_10 : decode cJ3_checkIndex_8e157 10 = .ok (.iload_n 0, 1) := by decide +kernel
theorem dJ3_checkIndex_8e157_11 : decode cJ3_checkIndex_8e157 11 = .ok (.iload_n 1, 1) := by decide +kernel
theorem dJ3_checkIndex_8e157_12 : decode cJ3_checkIndex_8e157 12 = .ok (.invokestatic 95, 3) := by decide +kernel
theorem dJ3_checkIndex_8e157_15 : decode cJ3_checkIndex_8e157 15 = .ok (.athrow, 1) := by decide +kernel
theorem dJ3_checkIndex_8e157_16 : decode cJ3_checkIndex_8e157 16 = .ok (.iload_n 0, 1) := by decide +kernel
theorem dJ3_checkIndex_8e157_17 : decode cJ3_checkIndex_8e157 17 = .ok (.ireturn, 1) := by decide +kernel
theorem dL_law_0 : decode cL_law 0 = .ok (.new 7, 3) := by decide +kernel
theorem dL_law_3 : decode cL_law 3 = .ok (.dup, 1) := by decide +kernel
theorem dL_law_4 : decode cL_law 4 = .ok (.invokespecial 9, 3) := by decide +kernel
theorem dL_law_7 : decode cL_law 7 = .ok (.astore_n 1, 1) := by decide +kernel
theorem dL_law_8 : decode cL_law 8 = .ok (.new 10, 3) := by decide +kernel
theorem dL_law_11 : decode cL_law 11 = .ok (.dup, 1) := by decide +kernel
theorem dL_law_12 : decode cL_law 12 = .ok (.invokespecial 12, 3) := by decide +kernel
theorem dL_law_15 : decode cL_law 15 = .ok (.astore_n 2, 1) := by decide +kernel
theorem dL_law_16 : decode cL_law 16 = .ok (.iconst 0, 1) := by decide +kernel
theorem dL_law_17 : decode cL_law 17 = .ok (.istore_n 3, 1) := by decide +kernel
theorem dL_law_18 : decode cL_law 18 = .ok (.iload_n 3, 1) := by decide +kernel
theorem dL_law_19 : decode cL_law 19 = .ok (.aload_n 0, 1) := by decide +kernel
theorem dL_law_20 : decode cL_law 20 = .ok (.arraylength, 1) := by decide +kernel
theorem dL_law_21 : decode cL_law 21 = .ok (.iconst 3, 1) := by decide +kernel
theorem dL_law_22 : decode cL_law 22 = .ok (.isub, 1) := by decide +kernel
theorem dL_law_23 : decode cL_law 23 = .ok (.if_icmp .gt 754, 3) := by decide +kernel
theorem dL_law_26 : decode cL_law 26 = .ok (.aload_n 0, 1) := by decide +kernel
theorem dL_law_27 : decode cL_law 27 = .ok (.iload_n 3, 1) := by decide +kernel
theorem dL_law_28 : decode cL_law 28 = .ok (.iaload, 1) := by decide +kernel
theorem dL_law_29 : decode cL_law 29 = .ok (.bipush 31, 2) := by decide +kernel
theorem dL_law_31 : decode cL_law 31 = .ok (.iand, 1) := by decide +kernel
theorem dL_law_32 : decode cL_law 32 = .ok (.tableswitch 739 0 25 #[120, 143, 156, 189, 222, 245, 268, 291, 324, 347, 360, 393, 416, 449, 482, 515, 548, 571, 604, 627, 641, 654, 667, 690, 703, 726], 120) := by decide +kernel
theorem dL_law_152 : decode cL_law 152 = .ok (.aload_n 1, 1) := by decide +kernel
theorem dL_law_153 : decode cL_law 153 = .ok (.aload_n 0, 1) := by decide +kernel
theorem dL_law_154 : decode cL_law 154 = .ok (.iload_n 3, 1) := by decide +kernel
theorem dL_law_155 : decode cL_law 155 = .ok (.iconst 1, 1) := by decide +kernel
theorem dL_law_156 : decode cL_law 156 = .ok (.iadd, 1) := by decide +kernel
theorem dL_law_157 : decode cL_law 157 = .ok (.iaload, 1) := by decide +kernel
theorem dL_law_158 : decode cL_law 158 = .ok (.invokevirtual 13, 3) := by decide +kernel
theorem dL_law_161 : decode cL_law 161 = .ok (.aload_n 2, 1) := by decide +kernel
theorem dL_law_162 : decode cL_law 162 = .ok (.aload_n 0, 1) := by decide +kernel
theorem dL_law_163 : decode cL_law 163 = .ok (.iload_n 3, 1) := by decide +kernel
theorem dL_law_164 : decode cL_law 164 = .ok (.iconst 1, 1) := by decide +kernel
theorem dL_law_165 : decode cL_law 165 = .ok (.iadd, 1) := by decide +kernel
theorem dL_law_166 : decode cL_law 166 = .ok (.iaload, 1) := by decide +kernel
theorem dL_law_167 : decode cL_law 167 = .ok (.invokevirtual 17, 3) := by decide +kernel
theorem dL_law_170 : decode cL_law 170 = .ok (.if_icmp .eq 601, 3) := by decide +kernel
theorem dL_law_173 : decode cL_law 173 = .ok (.iconst 0, 1) := by decide +kernel
theorem dL_law_174 : decode cL_law 174 = .ok (.ireturn, 1) := by decide +kernel
theorem dL_law_175 : decode cL_law 175 = .ok (.aload_n 1, 1) := by decide +kernel
theorem dL_law_176 : decode cL_law 176 = .ok (.invokevirtual 18, 3) := by decide +kernel
theorem dL_law_179 : decode cL_law 179 = .ok (.aload_n 2, 1) := by decide +kernel
theorem dL_law_180 : decode cL_law 180 = .ok (.invokevirtual 22, 3) := by decide +kernel
theorem dL_law_183 : decode cL_law 183 = .ok (.if_icmp .eq 588, 3) := by decide +kernel
theorem dL_law_186 : decode cL_law 186 = .ok (.iconst 0, 1) := by decide +kernel
theorem dL_law_187 : decode cL_law 187 = .ok (.ireturn, 1) := by decide +kernel
theorem dL_law_188 : decode cL_law 188 = .ok (.aload_n 1, 1) := by decide +kernel
theorem dL_law_189 : decode cL_law 189 = .ok (.aload_n 0, 1) := by decide +kernel
theorem dL_law_190 : decode cL_law 190 = .ok (.iload_n 3, 1) := by decide +kernel
theorem dL_law_191 : decode cL_law 191 = .ok (.iconst 1, 1) := by decide +kernel
theorem dL_law_192 : decode cL_law 192 = .ok (.iadd, 1) := by decide +kernel
theorem dL_law_193 : decode cL_law 193 = .ok (.iaload, 1) := by decide +kernel
theorem dL_law_194 : decode cL_law 194 = .ok (.aload_n 0, 1) := by decide +kernel
theorem dL_law_195 : decode cL_law 195 = .ok (.iload_n 3, 1) := by decide +kernel
theorem dL_law_196 : decode cL_law 196 = .ok (.iconst 2, 1) := by decide +kernel
theorem dL_law_197 : decode cL_law 197 = .ok (.iadd, 1) := by decide +kernel
theorem dL_law_198 : decode cL_law 198 = .ok (.iaload, 1) := by decide +kernel
theorem dL_law_199 : decode cL_law 199 = .ok (.invokevirtual 23, 3) := by decide +kernel
theorem dL_law_202 : decode cL_law 202 = .ok (.aload_n 2, 1) := by decide +kernel
theorem dL_law_203 : decode cL_law 203 = .ok (.aload_n 0, 1) := by decide +kernel
theorem dL_law_204 : decode cL_law 204 = .ok (.iload_n 3, 1) := by decide +kernel
theorem dL_law_205 : decode cL_law 205 = .ok (.iconst 1, 1) := by decide +kernel
theorem dL_law_206 : decode cL_law 206 = .ok (.iadd, 1) := by decide +kernel
theorem dL_law_207 : decode cL_law 207 = .ok (.iaload, 1) := by decide +kernel
theorem dL_law_208 : decode cL_law 208 = .ok (.aload_n 0, 1) := by decide +kernel
theorem dL_law_209 : decode cL_law 209 = .ok (.iload_n 3, 1) := by decide +kernel
theorem dL_law_210 : decode cL_law 210 = .ok (.iconst 2, 1) := by decide +kernel
theorem dL_law_211 : decode cL_law 211 = .ok (.iadd, 1) := by decide +kernel
theorem dL_law_212 : decode cL_law 212 = .ok (.iaload, 1) := by decide +kernel
theorem dL_law_213 : decode cL_law 213 = .ok (.invokevirtual 27, 3) := by decide +kernel
theorem dL_law_216 : decode cL_law 216 = .ok (.if_icmp .eq 555, 3) := by decide +kernel
theorem dL_law_219 : decode cL_law 219 = .ok (.iconst 0, 1) := by decide +kernel
theorem dL_law_220 : decode cL_law 220 = .ok (.ireturn, 1) := by decide +kernel
theorem dL_law_221 : decode cL_law 221 = .ok (.aload_n 1, 1) := by decide +kernel
theorem dL_law_222 : decode cL_law 222 = .ok (.aload_n 0, 1) := by decide +kernel
theorem dL_law_223 : decode cL_law 223 = .ok (.iload_n 3, 1) := by decide +kernel
theorem dL_law_224 : decode cL_law 224 = .ok (.iconst 1, 1) := by decide +kernel
theorem dL_law_225 : decode cL_law 225 = .ok (.iadd, 1) := by decide +kernel
theorem dL_law_226 : decode cL_law 226 = .ok (.iaload, 1) := by decide +kernel
theorem dL_law_227 : decode cL_law 227 = .ok (.aload_n 0, 1) := by decide +kernel
theorem dL_law_228 : decode cL_law 228 = .ok (.iload_n 3, 1) := by decide +kernel
theorem dL_law_229 : decode cL_law 229 = .ok (.iconst 2, 1) := by decide +kernel
theorem dL_law_230 : decode cL_law 230 = .ok (.iadd, 1) := by decide +kernel
theorem dL_law_231 : decode cL_law 231 = .ok (.iaload, 1) := by decide +kernel
theorem dL_law_232 : decode cL_law 232 = .ok (.invokevirtual 28, 3) := by decide +kernel
theorem dL_law_235 : decode cL_law 235 = .ok (.aload_n 2, 1) := by decide +kernel
theorem dL_law_236 : decode cL_law 236 = .ok (.aload_n 0, 1) := by decide +kernel
theorem dL_law_237 : decode cL_law 237 = .ok (.iload_n 3, 1) := by decide +kernel
theorem dL_law_238 : decode cL_law 238 = .ok (.iconst 1, 1) := by decide +kernel
theorem dL_law_239 : decode cL_law 239 = .ok (.iadd, 1) := by decide +kernel
theorem dL_law_240 : decode cL_law 240 = .ok (.iaload, 1) := by decide +kernel
theorem dL_law_241 : decode cL_law 241 = .ok (.aload_n 0, 1) := by decide +kernel
theorem dL_law_242 : decode cL_law 242 = .ok (.iload_n 3, 1) := by decide +kernel
theorem dL_law_243 : decode cL_law 243 = .ok (.iconst 2, 1) := by decide +kernel
theorem dL_law_244 : decode cL_law 244 = .ok (.iadd, 1) := by decide +kernel
theorem dL_law_245 : decode cL_law 245 = .ok (.iaload, 1) := by decide +kernel
theorem dL_law_246 : decode cL_law 246 = .ok (.invokevirtual 31, 3) := by decide +kernel
theorem dL_law_249 : decode cL_law 249 = .ok (.if_icmp .eq 522, 3) := by decide +kernel
theorem dL_law_252 : decode cL_law 252 = .ok (.iconst 0, 1) := by decide +kernel
theorem dL_law_253 : decode cL_law 253 = .ok (.ireturn, 1) := by decide +kernel
theorem dL_law_254 : decode cL_law 254 = .ok (.aload_n 1, 1) := by decide +kernel
theorem dL_law_255 : decode cL_law 255 = .ok (.aload_n 0, 1) := by decide +kernel
theorem dL_law_256 : decode cL_law 256 = .ok (.iload_n 3, 1) := by decide +kernel
theorem dL_law_257 : decode cL_law 257 = .ok (.iconst 1, 1) := by decide +kernel
theorem dL_law_258 : decode cL_law 258 = .ok (.iadd, 1) := by decide +kernel
theorem dL_law_259 : decode cL_law 259 = .ok (.iaload, 1) := by decide +kernel
theorem dL_law_260 : decode cL_law 260 = .ok (.invokevirtual 32, 3) := by decide +kernel
theorem dL_law_263 : decode cL_law 263 = .ok (.aload_n 2, 1) := by decide +kernel
theorem dL_law_264 : decode cL_law 264 = .ok (.aload_n 0, 1) := by decide +kernel
theorem dL_law_265 : decode cL_law 265 = .ok (.iload_n 3, 1) := by decide +kernel
theorem dL_law_266 : decode cL_law 266 = .ok (.iconst 1, 1) := by decide +kernel
theorem dL_law_267 : decode cL_law 267 = .ok (.iadd, 1) := by decide +kernel
theorem dL_law_268 : decode cL_law 268 = .ok (.iaload, 1) := by decide +kernel
theorem dL_law_269 : decode cL_law 269 = .ok (.invokevirtual 35, 3) := by decide +kernel
theorem dL_law_272 : decode cL_law 272 = .ok (.if_icmp .eq 499, 3) := by decide +kernel
theorem dL_law_275 : decode cL_law 275 = .ok (.iconst 0, 1) := by decide +kernel
theorem dL_law_276 : decode cL_law 276 = .ok (.ireturn, 1) := by decide +kernel
theorem dL_law_277 : decode cL_law 277 = .ok (.aload_n 1, 1) := by decide +kernel
theorem dL_law_278 : decode cL_law 278 = .ok (.aload_n 0, 1) := by decide +kernel
theorem dL_law_279 : decode cL_law 279 = .ok (.iload_n 3, 1) := by decide +kernel
theorem dL_law_280 : decode cL_law 280 = .ok (.iconst 1, 1) := by decide +kernel
theorem dL_law_281 : decode cL_law 281 = .ok (.iadd, 1) := by decide +kernel
theorem dL_law_282 : decode cL_law 282 = .ok (.iaload, 1) := by decide +kernel
theorem dL_law_283 : decode cL_law 283 = .ok (.invokevirtual 36, 3) := by decide +kernel
theorem dL_law_286 : decode cL_law 286 = .ok (.aload_n 2, 1) := by decide +kernel
theorem dL_law_287 : decode cL_law 287 = .ok (.aload_n 0, 1) := by decide +kernel
theorem dL_law_288 : decode cL_law 288 = .ok (.iload_n 3, 1) := by decide +kernel
theorem dL_law_289 : decode cL_law 289 = .ok (.iconst 1, 1) := by decide +kernel
theorem dL_law_290 : decode cL_law 290 = .ok (.iadd, 1) := by decide +kernel
theorem dL_law_291 : decode cL_law 291 = .ok (.iaload, 1) := by decide +kernel
theorem dL_law_292 : decode cL_law 292 = .ok (.invokevirtual 39, 3) := by decide +kernel
theorem dL_law_295 : decode cL_law 295 = .ok (.if_icmp .eq 476, 3) := by decide +kernel
theorem dL_law_298 : decode cL_law 298 = .ok (.iconst 0, 1) := by decide +kernel
theorem dL_law_299 : decode cL_law 299 = .ok (.ireturn, 1) := by decide +kernel
theorem dL_law_300 : decode cL_law 300 = .ok (.aload_n 1, 1) := by decide +kernel
theorem dL_law_301 : decode cL_law 301 = .ok (.aload_n 0, 1) := by decide +kernel
theorem dL_law_302 : decode cL_law 302 = .ok (.iload_n 3, 1) := by decide +kernel
theorem dL_law_303 : decode cL_law 303 = .ok (.iconst 1, 1) := by decide +kernel
theorem dL_law_304 : decode cL_law 304 = .ok (.iadd, 1) := by decide +kernel
theorem dL_law_305 : decode cL_law 305 = .ok (.iaload, 1) := by decide +kernel
theorem dL_law_306 : decode cL_law 306 = .ok (.invokevirtual 40, 3) := by decide +kernel
theorem dL_law_309 : decode cL_law 309 = .ok (.aload_n 2, 1) := by decide +kernel
theorem dL_law_310 : decode cL_law 310 = .ok (.aload_n 0, 1) := by decide +kernel
theorem dL_law_311 : decode cL_law 311 = .ok (.iload_n 3, 1) := by decide +kernel
theorem dL_law_312 : decode cL_law 312 = .ok (.iconst 1, 1) := by decide +kernel
theorem dL_law_313 : decode cL_law 313 = .ok (.iadd, 1) := by decide +kernel
theorem dL_law_314 : decode cL_law 314 = .ok (.iaload, 1) := by decide +kernel
theorem dL_law_315 : decode cL_law 315 = .ok (.invokevirtual 43, 3) := by decide +kernel
theorem dL_law_318 : decode cL_law 318 = .ok (.if_icmp .eq 453, 3) := by decide +kernel
theorem dL_law_321 : decode cL_law 321 = .ok (.iconst 0, 1) := by decide +kernel
theorem dL_law_322 : decode cL_law 322 = .ok (.ireturn, 1) := by decide +kernel
theorem dL_law_323 : decode cL_law 323 = .ok (.aload_n 1, 1) := by decide +kernel
theorem dL_law_324 : decode cL_law 324 = .ok (.aload_n 0, 1) := by decide +kernel
theorem dL_law_325 : decode cL_law 325 = .ok (.iload_n 3, 1) := by decide +kernel
theorem dL_law_326 : decode cL_law 326 = .ok (.iconst 1, 1) := by decide +kernel
theorem dL_law_327 : decode cL_law 327 = .ok (.iadd, 1) := by decide +kernel
theorem dL_law_328 : decode cL_law 328 = .ok (.iaload, 1) := by decide +kernel
theorem dL_law_329 : decode cL_law 329 = .ok (.aload_n 0, 1) := by decide +kernel
theorem dL_law_330 : decode cL_law 330 = .ok (.iload_n 3, 1) := by decide +kernel
theorem dL_law_331 : decode cL_law 331 = .ok (.iconst 2, 1) := by decide +kernel
theorem dL_law_332 : decode cL_law 332 = .ok (.iadd, 1) := by decide +kernel
theorem dL_law_333 : decode cL_law 333 = .ok (.iaload, 1) := by decide +kernel
theorem dL_law_334 : decode cL_law 334 = .ok (.invokevirtual 44, 3) := by decide +kernel
theorem dL_law_337 : decode cL_law 337 = .ok (.aload_n 2, 1) := by decide +kernel
theorem dL_law_338 : decode cL_law 338 = .ok (.aload_n 0, 1) := by decide +kernel
theorem dL_law_339 : decode cL_law 339 = .ok (.iload_n 3, 1) := by decide +kernel
theorem dL_law_340 : decode cL_law 340 = .ok (.iconst 1, 1) := by decide +kernel
theorem dL_law_341 : decode cL_law 341 = .ok (.iadd, 1) := by decide +kernel
theorem dL_law_342 : decode cL_law 342 = .ok (.iaload, 1) := by decide +kernel
theorem dL_law_343 : decode cL_law 343 = .ok (.aload_n 0, 1) := by decide +kernel
theorem dL_law_344 : decode cL_law 344 = .ok (.iload_n 3, 1) := by decide +kernel
theorem dL_law_345 : decode cL_law 345 = .ok (.iconst 2, 1) := by decide +kernel
theorem dL_law_346 : decode cL_law 346 = .ok (.iadd, 1) := by decide +kernel
theorem dL_law_347 : decode cL_law 347 = .ok (.iaload, 1) := by decide +kernel
theorem dL_law_348 : decode cL_law 348 = .ok (.invokevirtual 47, 3) := by decide +kernel
theorem dL_law_351 : decode cL_law 351 = .ok (.if_icmp .eq 420, 3) := by decide +kernel
theorem dL_law_354 : decode cL_law 354 = .ok (.iconst 0, 1) := by decide +kernel
theorem dL_law_355 : decode cL_law 355 = .ok (.ireturn, 1) := by decide +kernel
theorem dL_law_356 : decode cL_law 356 = .ok (.aload_n 1, 1) := by decide +kernel
theorem dL_law_357 : decode cL_law 357 = .ok (.aload_n 0, 1) := by decide +kernel
theorem dL_law_358 : decode cL_law 358 = .ok (.iload_n 3, 1) := by decide +kernel
theorem dL_law_359 : decode cL_law 359 = .ok (.iconst 1, 1) := by decide +kernel
theorem dL_law_360 : decode cL_law 360 = .ok (.iadd, 1) := by decide +kernel
theorem dL_law_361 : decode cL_law 361 = .ok (.iaload, 1) := by decide +kernel
theorem dL_law_362 : decode cL_law 362 = .ok (.invokevirtual 48, 3) := by decide +kernel
theorem dL_law_365 : decode cL_law 365 = .ok (.aload_n 2, 1) := by decide +kernel
theorem dL_law_366 : decode cL_law 366 = .ok (.aload_n 0, 1) := by decide +kernel
theorem dL_law_367 : decode cL_law 367 = .ok (.iload_n 3, 1) := by decide +kernel
theorem dL_law_368 : decode cL_law 368 = .ok (.iconst 1, 1) := by decide +kernel
theorem dL_law_369 : decode cL_law 369 = .ok (.iadd, 1) := by decide +kernel
theorem dL_law_370 : decode cL_law 370 = .ok (.iaload, 1) := by decide +kernel
theorem dL_law_371 : decode cL_law 371 = .ok (.invokevirtual 51, 3) := by decide +kernel
theorem dL_law_374 : decode cL_law 374 = .ok (.if_icmp .eq 397, 3) := by decide +kernel
theorem dL_law_377 : decode cL_law 377 = .ok (.iconst 0, 1) := by decide +kernel
theorem dL_law_378 : decode cL_law 378 = .ok (.ireturn, 1) := by decide +kernel
theorem dL_law_379 : decode cL_law 379 = .ok (.aload_n 1, 1) := by decide +kernel
theorem dL_law_380 : decode cL_law 380 = .ok (.invokevirtual 52, 3) := by decide +kernel
theorem dL_law_383 : decode cL_law 383 = .ok (.aload_n 2, 1) := by decide +kernel
theorem dL_law_384 : decode cL_law 384 = .ok (.invokevirtual 55, 3) := by decide +kernel
theorem dL_law_387 : decode cL_law 387 = .ok (.if_icmp .eq 384, 3) := by decide +kernel
theorem dL_law_390 : decode cL_law 390 = .ok (.iconst 0, 1) := by decide +kernel
theorem dL_law_391 : decode cL_law 391 = .ok (.ireturn, 1) := by decide +kernel
theorem dL_law_392 : decode cL_law 392 = .ok (.aload_n 1, 1) := by decide +kernel
theorem dL_law_393 : decode cL_law 393 = .ok (.aload_n 0, 1) := by decide +kernel
theorem dL_law_394 : decode cL_law 394 = .ok (.iload_n 3, 1) := by decide +kernel
theorem dL_law_395 : decode cL_law 395 = .ok (.iconst 1, 1) := by decide +kernel
theorem dL_law_396 : decode cL_law 396 = .ok (.iadd, 1) := by decide +kernel
theorem dL_law_397 : decode cL_law 397 = .ok (.iaload, 1) := by decide +kernel
theorem dL_law_398 : decode cL_law 398 = .ok (.aload_n 0, 1) := by decide +kernel
theorem dL_law_399 : decode cL_law 399 = .ok (.iload_n 3, 1) := by decide +kernel
theorem dL_law_400 : decode cL_law 400 = .ok (.iconst 2, 1) := by decide +kernel
theorem dL_law_401 : decode cL_law 401 = .ok (.iadd, 1) := by decide +kernel
theorem dL_law_402 : decode cL_law 402 = .ok (.iaload, 1) := by decide +kernel
theorem dL_law_403 : decode cL_law 403 = .ok (.invokevirtual 56, 3) := by decide +kernel
theorem dL_law_406 : decode cL_law 406 = .ok (.aload_n 2, 1) := by decide +kernel
theorem dL_law_407 : decode cL_law 407 = .ok (.aload_n 0, 1) := by decide +kernel
theorem dL_law_408 : decode cL_law 408 = .ok (.iload_n 3, 1) := by decide +kernel
theorem dL_law_409 : decode cL_law 409 = .ok (.iconst 1, 1) := by decide +kernel
theorem dL_law_410 : decode cL_law 410 = .ok (.iadd, 1) := by decide +kernel
theorem dL_law_411 : decode cL_law 411 = .ok (.iaload, 1) := by decide +kernel
theorem dL_law_412 : decode cL_law 412 = .ok (.aload_n 0, 1) := by decide +kernel
theorem dL_law_413 : decode cL_law 413 = .ok (.iload_n 3, 1) := by decide +kernel
theorem dL_law_414 : decode cL_law 414 = .ok (.iconst 2, 1) := by decide +kernel
theorem dL_law_415 : decode cL_law 415 = .ok (.iadd, 1) := by decide +kernel
theorem dL_law_416 : decode cL_law 416 = .ok (.iaload, 1) := by decide +kernel
theorem dL_law_417 : decode cL_law 417 = .ok (.invokevirtual 59, 3) := by decide +kernel
theorem dL_law_420 : decode cL_law 420 = .ok (.if_icmp .eq 351, 3) := by decide +kernel
theorem dL_law_423 : decode cL_law 423 = .ok (.iconst 0, 1) := by decide +kernel
theorem dL_law_424 : decode cL_law 424 = .ok (.ireturn, 1) := by decide +kernel
theorem dL_law_425 : decode cL_law 425 = .ok (.aload_n 1, 1) := by decide +kernel
theorem dL_law_426 : decode cL_law 426 = .ok (.aload_n 0, 1) := by decide +kernel
theorem dL_law_427 : decode cL_law 427 = .ok (.iload_n 3, 1) := by decide +kernel
theorem dL_law_428 : decode cL_law 428 = .ok (.iconst 1, 1) := by decide +kernel
theorem dL_law_429 : decode cL_law 429 = .ok (.iadd, 1) := by decide +kernel
theorem dL_law_430 : decode cL_law 430 = .ok (.iaload, 1) := by decide +kernel
theorem dL_law_431 : decode cL_law 431 = .ok (.invokevirtual 60, 3) := by decide +kernel
theorem dL_law_434 : decode cL_law 434 = .ok (.aload_n 2, 1) := by decide +kernel
theorem dL_law_435 : decode cL_law 435 = .ok (.aload_n 0, 1) := by decide +kernel
theorem dL_law_436 : decode cL_law 436 = .ok (.iload_n 3, 1) := by decide +kernel
theorem dL_law_437 : decode cL_law 437 = .ok (.iconst 1, 1) := by decide +kernel
theorem dL_law_438 : decode cL_law 438 = .ok (.iadd, 1) := by decide +kernel
theorem dL_law_439 : decode cL_law 439 = .ok (.iaload, 1) := by decide +kernel
theorem dL_law_440 : decode cL_law 440 = .ok (.invokevirtual 63, 3) := by decide +kernel
theorem dL_law_443 : decode cL_law 443 = .ok (.if_icmp .eq 328, 3) := by decide +kernel
theorem dL_law_446 : decode cL_law 446 = .ok (.iconst 0, 1) := by decide +kernel
theorem dL_law_447 : decode cL_law 447 = .ok (.ireturn, 1) := by decide +kernel
theorem dL_law_448 : decode cL_law 448 = .ok (.aload_n 1, 1) := by decide +kernel
theorem dL_law_449 : decode cL_law 449 = .ok (.aload_n 0, 1) := by decide +kernel
theorem dL_law_450 : decode cL_law 450 = .ok (.iload_n 3, 1) := by decide +kernel
theorem dL_law_451 : decode cL_law 451 = .ok (.iconst 1, 1) := by decide +kernel
theorem dL_law_452 : decode cL_law 452 = .ok (.iadd, 1) := by decide +kernel
theorem dL_law_453 : decode cL_law 453 = .ok (.iaload, 1) := by decide +kernel
theorem dL_law_454 : decode cL_law 454 = .ok (.aload_n 0, 1) := by decide +kernel
theorem dL_law_455 : decode cL_law 455 = .ok (.iload_n 3, 1) := by decide +kernel
theorem dL_law_456 : decode cL_law 456 = .ok (.iconst 2, 1) := by decide +kernel
theorem dL_law_457 : decode cL_law 457 = .ok (.iadd, 1) := by decide +kernel
theorem dL_law_458 : decode cL_law 458 = .ok (.iaload, 1) := by decide +kernel
theorem dL_law_459 : decode cL_law 459 = .ok (.invokevirtual 64, 3) := by decide +kernel
theorem dL_law_462 : decode cL_law 462 = .ok (.aload_n 2, 1) := by decide +kernel
theorem dL_law_463 : decode cL_law 463 = .ok (.aload_n 0, 1) := by decide +kernel
theorem dL_law_464 : decode cL_law 464 = .ok (.iload_n 3, 1) := by decide +kernel
theorem dL_law_465 : decode cL_law 465 = .ok (.iconst 1, 1) := by decide +kernel
theorem dL_law_466 : decode cL_law 466 = .ok (.iadd, 1) := by decide +kernel
theorem dL_law_467 : decode cL_law 467 = .ok (.iaload, 1) := by decide +kernel
theorem dL_law_468 : decode cL_law 468 = .ok (.aload_n 0, 1) := by decide +kernel
theorem dL_law_469 : decode cL_law 469 = .ok (.iload_n 3, 1) := by decide +kernel
theorem dL_law_470 : decode cL_law 470 = .ok (.iconst 2, 1) := by decide +kernel
theorem dL_law_471 : decode cL_law 471 = .ok (.iadd, 1) := by decide +kernel
theorem dL_law_472 : decode cL_law 472 = .ok (.iaload, 1) := by decide +kernel
theorem dL_law_473 : decode cL_law 473 = .ok (.invokevirtual 67, 3) := by decide +kernel
theorem dL_law_476 : decode cL_law 476 = .ok (.if_icmp .eq 295, 3) := by decide +kernel
theorem dL_law_479 : decode cL_law 479 = .ok (.iconst 0, 1) := by decide +kernel
theorem dL_law_480 : decode cL_law 480 = .ok (.ireturn, 1) := by decide +kernel
theorem dL_law_481 : decode cL_law 481 = .ok (.aload_n 1, 1) := by decide +kernel
theorem dL_law_482 : decode cL_law 482 = .ok (.aload_n 0, 1) := by decide +kernel
theorem dL_law_483 : decode cL_law 483 = .ok (.iload_n 3, 1) := by decide +kernel
theorem dL_law_484 : decode cL_law 484 = .ok (.iconst 1, 1) := by decide +kernel
theorem dL_law_485 : decode cL_law 485 = .ok (.iadd, 1) := by decide +kernel
theorem dL_law_486 : decode cL_law 486 = .ok (.iaload, 1) := by decide +kernel
theorem dL_law_487 : decode cL_law 487 = .ok (.aload_n 0, 1) := by decide +kernel
theorem dL_law_488 : decode cL_law 488 = .ok (.iload_n 3, 1) := by decide +kernel
theorem dL_law_489 : decode cL_law 489 = .ok (.iconst 2, 1) := by decide +kernel
theorem dL_law_490 : decode cL_law 490 = .ok (.iadd, 1) := by decide +kernel
theorem dL_law_491 : decode cL_law 491 = .ok (.iaload, 1) := by decide +kernel
theorem dL_law_492 : decode cL_law 492 = .ok (.invokevirtual 68, 3) := by decide +kernel
theorem dL_law_495 : decode cL_law 495 = .ok (.aload_n 2, 1) := by decide +kernel
theorem dL_law_496 : decode cL_law 496 = .ok (.aload_n 0, 1) := by decide +kernel
theorem dL_law_497 : decode cL_law 497 = .ok (.iload_n 3, 1) := by decide +kernel
theorem dL_law_498 : decode cL_law 498 = .ok (.iconst 1, 1) := by decide +kernel
theorem dL_law_499 : decode cL_law 499 = .ok (.iadd, 1) := by decide +kernel
theorem dL_law_500 : decode cL_law 500 = .ok (.iaload, 1) := by decide +kernel
theorem dL_law_501 : decode cL_law 501 = .ok (.aload_n 0, 1) := by decide +kernel
theorem dL_law_502 : decode cL_law 502 = .ok (.iload_n 3, 1) := by decide +kernel
theorem dL_law_503 : decode cL_law 503 = .ok (.iconst 2, 1) := by decide +kernel
theorem dL_law_504 : decode cL_law 504 = .ok (.iadd, 1) := by decide +kernel
theorem dL_law_505 : decode cL_law 505 = .ok (.iaload, 1) := by decide +kernel
theorem dL_law_506 : decode cL_law 506 = .ok (.invokevirtual 71, 3) := by decide +kernel
theorem dL_law_509 : decode cL_law 509 = .ok (.if_icmp .eq 262, 3) := by decide +kernel
theorem dL_law_512 : decode cL_law 512 = .ok (.iconst 0, 1) := by decide +kernel
theorem dL_law_513 : decode cL_law 513 = .ok (.ireturn, 1) := by decide +kernel
theorem dL_law_514 : decode cL_law 514 = .ok (.aload_n 1, 1) := by decide +kernel
theorem dL_law_515 : decode cL_law 515 = .ok (.aload_n 0, 1) := by decide +kernel
theorem dL_law_516 : decode cL_law 516 = .ok (.iload_n 3, 1) := by decide +kernel
theorem dL_law_517 : decode cL_law 517 = .ok (.iconst 1, 1) := by decide +kernel
theorem dL_law_518 : decode cL_law 518 = .ok (.iadd, 1) := by decide +kernel
theorem dL_law_519 : decode cL_law 519 = .ok (.iaload, 1) := by decide +kernel
theorem dL_law_520 : decode cL_law 520 = .ok (.aload_n 0, 1) := by decide +kernel
theorem dL_law_521 : decode cL_law 521 = .ok (.iload_n 3, 1) := by decide +kernel
theorem dL_law_522 : decode cL_law 522 = .ok (.iconst 2, 1) := by decide +kernel
theorem dL_law_523 : decode cL_law 523 = .ok (.iadd, 1) := by decide +kernel
theorem dL_law_524 : decode cL_law 524 = .ok (.iaload, 1) := by decide +kernel
theorem dL_law_525 : decode cL_law 525 = .ok (.invokevirtual 72, 3) := by decide +kernel
theorem dL_law_528 : decode cL_law 528 = .ok (.aload_n 2, 1) := by decide +kernel
theorem dL_law_529 : decode cL_law 529 = .ok (.aload_n 0, 1) := by decide +kernel
theorem dL_law_530 : decode cL_law 530 = .ok (.iload_n 3, 1) := by decide +kernel
theorem dL_law_531 : decode cL_law 531 = .ok (.iconst 1, 1) := by decide +kernel
theorem dL_law_532 : decode cL_law 532 = .ok (.iadd, 1) := by decide +kernel
theorem dL_law_533 : decode cL_law 533 = .ok (.iaload, 1) := by decide +kernel
theorem dL_law_534 : decode cL_law 534 = .ok (.aload_n 0, 1) := by decide +kernel
theorem dL_law_535 : decode cL_law 535 = .ok (.iload_n 3, 1) := by decide +kernel
theorem dL_law_536 : decode cL_law 536 = .ok (.iconst 2, 1) := by decide +kernel
theorem dL_law_537 : decode cL_law 537 = .ok (.iadd, 1) := by decide +kernel
theorem dL_law_538 : decode cL_law 538 = .ok (.iaload, 1) := by decide +kernel
theorem dL_law_539 : decode cL_law 539 = .ok (.invokevirtual 75, 3) := by decide +kernel
theorem dL_law_542 : decode cL_law 542 = .ok (.if_icmp .eq 229, 3) := by decide +kernel
theorem dL_law_545 : decode cL_law 545 = .ok (.iconst 0, 1) := by decide +kernel
theorem dL_law_546 : decode cL_law 546 = .ok (.ireturn, 1) := by decide +kernel
theorem dL_law_547 : decode cL_law 547 = .ok (.aload_n 1, 1) := by decide +kernel
theorem dL_law_548 : decode cL_law 548 = .ok (.aload_n 0, 1) := by decide +kernel
theorem dL_law_549 : decode cL_law 549 = .ok (.iload_n 3, 1) := by decide +kernel
theorem dL_law_550 : decode cL_law 550 = .ok (.iconst 1, 1) := by decide +kernel
theorem dL_law_551 : decode cL_law 551 = .ok (.iadd, 1) := by decide +kernel
theorem dL_law_552 : decode cL_law 552 = .ok (.iaload, 1) := by decide +kernel
theorem dL_law_553 : decode cL_law 553 = .ok (.aload_n 0, 1) := by decide +kernel
theorem dL_law_554 : decode cL_law 554 = .ok (.iload_n 3, 1) := by decide +kernel
theorem dL_law_555 : decode cL_law 555 = .ok (.iconst 2, 1) := by decide +kernel
theorem dL_law_556 : decode cL_law 556 = .ok (.iadd, 1) := by decide +kernel
theorem dL_law_557 : decode cL_law 557 = .ok (.iaload, 1) := by decide +kernel
theorem dL_law_558 : decode cL_law 558 = .ok (.invokevirtual 76, 3) := by decide +kernel
theorem dL_law_561 : decode cL_law 561 = .ok (.aload_n 2, 1) := by decide +kernel
theorem dL_law_562 : decode cL_law 562 = .ok (.aload_n 0, 1) := by decide +kernel
theorem dL_law_563 : decode cL_law 563 = .ok (.iload_n 3, 1) := by decide +kernel
theorem dL_law_564 : decode cL_law 564 = .ok (.iconst 1, 1) := by decide +kernel
theorem dL_law_565 : decode cL_law 565 = .ok (.iadd, 1) := by decide +kernel
theorem dL_law_566 : decode cL_law 566 = .ok (.iaload, 1) := by decide +kernel
theorem dL_law_567 : decode cL_law 567 = .ok (.aload_n 0, 1) := by decide +kernel
theorem dL_law_568 : decode cL_law 568 = .ok (.iload_n 3, 1) := by decide +kernel
theorem dL_law_569 : decode cL_law 569 = .ok (.iconst 2, 1) := by decide +kernel
theorem dL_law_570 : decode cL_law 570 = .ok (.iadd, 1) := by decide +kernel
theorem dL_law_571 : decode cL_law 571 = .ok (.iaload, 1) := by decide +kernel
theorem dL_law_572 : decode cL_law 572 = .ok (.invokevirtual 79, 3) := by decide +kernel
theorem dL_law_575 : decode cL_law 575 = .ok (.if_icmp .eq 196, 3) := by decide +kernel
theorem dL_law_578 : decode cL_law 578 = .ok (.iconst 0, 1) := by decide +kernel
theorem dL_law_579 : decode cL_law 579 = .ok (.ireturn, 1) := by decide +kernel
theorem dL_law_580 : decode cL_law 580 = .ok (.aload_n 1, 1) := by decide +kernel
theorem dL_law_581 : decode cL_law 581 = .ok (.aload_n 0, 1) := by decide +kernel
theorem dL_law_582 : decode cL_law 582 = .ok (.iload_n 3, 1) := by decide +kernel
theorem dL_law_583 : decode cL_law 583 = .ok (.iconst 1, 1) := by decide +kernel
theorem dL_law_584 : decode cL_law 584 = .ok (.iadd, 1) := by decide +kernel
theorem dL_law_585 : decode cL_law 585 = .ok (.iaload, 1) := by decide +kernel
theorem dL_law_586 : decode cL_law 586 = .ok (.invokevirtual 80, 3) := by decide +kernel
theorem dL_law_589 : decode cL_law 589 = .ok (.aload_n 2, 1) := by decide +kernel
theorem dL_law_590 : decode cL_law 590 = .ok (.aload_n 0, 1) := by decide +kernel
theorem dL_law_591 : decode cL_law 591 = .ok (.iload_n 3, 1) := by decide +kernel
theorem dL_law_592 : decode cL_law 592 = .ok (.iconst 1, 1) := by decide +kernel
theorem dL_law_593 : decode cL_law 593 = .ok (.iadd, 1) := by decide +kernel
theorem dL_law_594 : decode cL_law 594 = .ok (.iaload, 1) := by decide +kernel
theorem dL_law_595 : decode cL_law 595 = .ok (.invokevirtual 83, 3) := by decide +kernel
theorem dL_law_598 : decode cL_law 598 = .ok (.if_icmp .eq 173, 3) := by decide +kernel
theorem dL_law_601 : decode cL_law 601 = .ok (.iconst 0, 1) := by decide +kernel
theorem dL_law_602 : decode cL_law 602 = .ok (.ireturn, 1) := by decide +kernel
theorem dL_law_603 : decode cL_law 603 = .ok (.aload_n 1, 1) := by decide +kernel
theorem dL_law_604 : decode cL_law 604 = .ok (.aload_n 0, 1) := by decide +kernel
theorem dL_law_605 : decode cL_law 605 = .ok (.iload_n 3, 1) := by decide +kernel
theorem dL_law_606 : decode cL_law 606 = .ok (.iconst 1, 1) := by decide +kernel
theorem dL_law_607 : decode cL_law 607 = .ok (.iadd, 1) := by decide +kernel
theorem dL_law_608 : decode cL_law 608 = .ok (.iaload, 1) := by decide +kernel
theorem dL_law_609 : decode cL_law 609 = .ok (.aload_n 0, 1) := by decide +kernel
theorem dL_law_610 : decode cL_law 610 = .ok (.iload_n 3, 1) := by decide +kernel
theorem dL_law_611 : decode cL_law 611 = .ok (.iconst 2, 1) := by decide +kernel
theorem dL_law_612 : decode cL_law 612 = .ok (.iadd, 1) := by decide +kernel
theorem dL_law_613 : decode cL_law 613 = .ok (.iaload, 1) := by decide +kernel
theorem dL_law_614 : decode cL_law 614 = .ok (.invokevirtual 84, 3) := by decide +kernel
theorem dL_law_617 : decode cL_law 617 = .ok (.aload_n 2, 1) := by decide +kernel
theorem dL_law_618 : decode cL_law 618 = .ok (.aload_n 0, 1) := by decide +kernel
theorem dL_law_619 : decode cL_law 619 = .ok (.iload_n 3, 1) := by decide +kernel
theorem dL_law_620 : decode cL_law 620 = .ok (.iconst 1, 1) := by decide +kernel
theorem dL_law_621 : decode cL_law 621 = .ok (.iadd, 1) := by decide +kernel
theorem dL_law_622 : decode cL_law 622 = .ok (.iaload, 1) := by decide +kernel
theorem dL_law_623 : decode cL_law 623 = .ok (.aload_n 0, 1) := by decide +kernel
theorem dL_law_624 : decode cL_law 624 = .ok (.iload_n 3, 1) := by decide +kernel
theorem dL_law_625 : decode cL_law 625 = .ok (.iconst 2, 1) := by decide +kernel
theorem dL_law_626 : decode cL_law 626 = .ok (.iadd, 1) := by decide +kernel
theorem dL_law_627 : decode cL_law 627 = .ok (.iaload, 1) := by decide +kernel
theorem dL_law_628 : decode cL_law 628 = .ok (.invokevirtual 87, 3) := by decide +kernel
theorem dL_law_631 : decode cL_law 631 = .ok (.if_icmp .eq 140, 3) := by decide +kernel
theorem dL_law_634 : decode cL_law 634 = .ok (.iconst 0, 1) := by decide +kernel
theorem dL_law_635 : decode cL_law 635 = .ok (.ireturn, 1) := by decide +kernel
theorem dL_law_636 : decode cL_law 636 = .ok (.aload_n 1, 1) := by decide +kernel
theorem dL_law_637 : decode cL_law 637 = .ok (.aload_n 0, 1) := by decide +kernel
theorem dL_law_638 : decode cL_law 638 = .ok (.iload_n 3, 1) := by decide +kernel
theorem dL_law_639 : decode cL_law 639 = .ok (.iconst 1, 1) := by decide +kernel
theorem dL_law_640 : decode cL_law 640 = .ok (.iadd, 1) := by decide +kernel
theorem dL_law_641 : decode cL_law 641 = .ok (.iaload, 1) := by decide +kernel
theorem dL_law_642 : decode cL_law 642 = .ok (.invokevirtual 88, 3) := by decide +kernel
theorem dL_law_645 : decode cL_law 645 = .ok (.aload_n 2, 1) := by decide +kernel
theorem dL_law_646 : decode cL_law 646 = .ok (.aload_n 0, 1) := by decide +kernel
theorem dL_law_647 : decode cL_law 647 = .ok (.iload_n 3, 1) := by decide +kernel
theorem dL_law_648 : decode cL_law 648 = .ok (.iconst 1, 1) := by decide +kernel
theorem dL_law_649 : decode cL_law 649 = .ok (.iadd, 1) := by decide +kernel
theorem dL_law_650 : decode cL_law 650 = .ok (.iaload, 1) := by decide +kernel
theorem dL_law_651 : decode cL_law 651 = .ok (.invokevirtual 91, 3) := by decide +kernel
theorem dL_law_654 : decode cL_law 654 = .ok (.if_icmp .eq 117, 3) := by decide +kernel
theorem dL_law_657 : decode cL_law 657 = .ok (.iconst 0, 1) := by decide +kernel
theorem dL_law_658 : decode cL_law 658 = .ok (.ireturn, 1) := by decide +kernel
theorem dL_law_659 : decode cL_law 659 = .ok (.aload_n 1, 1) := by decide +kernel
theorem dL_law_660 : decode cL_law 660 = .ok (.invokevirtual 92, 3) := by decide +kernel
theorem dL_law_663 : decode cL_law 663 = .ok (.aload_n 2, 1) := by decide +kernel
theorem dL_law_664 : decode cL_law 664 = .ok (.invokevirtual 96, 3) := by decide +kernel
theorem dL_law_667 : decode cL_law 667 = .ok (.lcmp, 1) := by decide +kernel
theorem dL_law_668 : decode cL_law 668 = .ok (.ifCond .eq 103, 3) := by decide +kernel
theorem dL_law_671 : decode cL_law 671 = .ok (.iconst 0, 1) := by decide +kernel
theorem dL_law_672 : decode cL_law 672 = .ok (.ireturn, 1) := by decide +kernel
theorem dL_law_673 : decode cL_law 673 = .ok (.aload_n 1, 1) := by decide +kernel
theorem dL_law_674 : decode cL_law 674 = .ok (.invokevirtual 97, 3) := by decide +kernel
theorem dL_law_677 : decode cL_law 677 = .ok (.aload_n 2, 1) := by decide +kernel
theorem dL_law_678 : decode cL_law 678 = .ok (.invokevirtual 100, 3) := by decide +kernel
theorem dL_law_681 : decode cL_law 681 = .ok (.if_icmp .eq 90, 3) := by decide +kernel
theorem dL_law_684 : decode cL_law 684 = .ok (.iconst 0, 1) := by decide +kernel
theorem dL_law_685 : decode cL_law 685 = .ok (.ireturn, 1) := by decide +kernel
theorem dL_law_686 : decode cL_law 686 = .ok (.aload_n 1, 1) := by decide +kernel
theorem dL_law_687 : decode cL_law 687 = .ok (.invokevirtual 101, 3) := by decide +kernel
theorem dL_law_690 : decode cL_law 690 = .ok (.aload_n 2, 1) := by decide +kernel
theorem dL_law_691 : decode cL_law 691 = .ok (.invokevirtual 104, 3) := by decide +kernel
theorem dL_law_694 : decode cL_law 694 = .ok (.if_icmp .eq 77, 3) := by decide +kernel
theorem dL_law_697 : decode cL_law 697 = .ok (.iconst 0, 1) := by decide +kernel
theorem dL_law_698 : decode cL_law 698 = .ok (.ireturn, 1) := by decide +kernel
theorem dL_law_699 : decode cL_law 699 = .ok (.aload_n 1, 1) := by decide +kernel
theorem dL_law_700 : decode cL_law 700 = .ok (.aload_n 0, 1) := by decide +kernel
theorem dL_law_701 : decode cL_law 701 = .ok (.iload_n 3, 1) := by decide +kernel
theorem dL_law_702 : decode cL_law 702 = .ok (.iconst 1, 1) := by decide +kernel
theorem dL_law_703 : decode cL_law 703 = .ok (.iadd, 1) := by decide +kernel
theorem dL_law_704 : decode cL_law 704 = .ok (.iaload, 1) := by decide +kernel
theorem dL_law_705 : decode cL_law 705 = .ok (.invokevirtual 105, 3) := by decide +kernel
theorem dL_law_708 : decode cL_law 708 = .ok (.aload_n 2, 1) := by decide +kernel
theorem dL_law_709 : decode cL_law 709 = .ok (.aload_n 0, 1) := by decide +kernel
theorem dL_law_710 : decode cL_law 710 = .ok (.iload_n 3, 1) := by decide +kernel
theorem dL_law_711 : decode cL_law 711 = .ok (.iconst 1, 1) := by decide +kernel
theorem dL_law_712 : decode cL_law 712 = .ok (.iadd, 1) := by decide +kernel
theorem dL_law_713 : decode cL_law 713 = .ok (.iaload, 1) := by decide +kernel
theorem dL_law_714 : decode cL_law 714 = .ok (.invokevirtual 108, 3) := by decide +kernel
theorem dL_law_717 : decode cL_law 717 = .ok (.if_icmp .eq 54, 3) := by decide +kernel
theorem dL_law_720 : decode cL_law 720 = .ok (.iconst 0, 1) := by decide +kernel
theorem dL_law_721 : decode cL_law 721 = .ok (.ireturn, 1) := by decide +kernel
theorem dL_law_722 : decode cL_law 722 = .ok (.aload_n 1, 1) := by decide +kernel
theorem dL_law_723 : decode cL_law 723 = .ok (.invokevirtual 109, 3) := by decide +kernel
theorem dL_law_726 : decode cL_law 726 = .ok (.aload_n 2, 1) := by decide +kernel
theorem dL_law_727 : decode cL_law 727 = .ok (.invokevirtual 112, 3) := by decide +kernel
theorem dL_law_730 : decode cL_law 730 = .ok (.if_icmp .eq 41, 3) := by decide +kernel
theorem dL_law_733 : decode cL_law 733 = .ok (.iconst 0, 1) := by decide +kernel
theorem dL_law_734 : decode cL_law 734 = .ok (.ireturn, 1) := by decide +kernel
theorem dL_law_735 : decode cL_law 735 = .ok (.aload_n 1, 1) := by decide +kernel
theorem dL_law_736 : decode cL_law 736 = .ok (.aload_n 0, 1) := by decide +kernel
theorem dL_law_737 : decode cL_law 737 = .ok (.iload_n 3, 1) := by decide +kernel
theorem dL_law_738 : decode cL_law 738 = .ok (.iconst 1, 1) := by decide +kernel
theorem dL_law_739 : decode cL_law 739 = .ok (.iadd, 1) := by decide +kernel
theorem dL_law_740 : decode cL_law 740 = .ok (.iaload, 1) := by decide +kernel
theorem dL_law_741 : decode cL_law 741 = .ok (.invokevirtual 113, 3) := by decide +kernel
theorem dL_law_744 : decode cL_law 744 = .ok (.aload_n 2, 1) := by decide +kernel
theorem dL_law_745 : decode cL_law 745 = .ok (.aload_n 0, 1) := by decide +kernel
theorem dL_law_746 : decode cL_law 746 = .ok (.iload_n 3, 1) := by decide +kernel
theorem dL_law_747 : decode cL_law 747 = .ok (.iconst 1, 1) := by decide +kernel
theorem dL_law_748 : decode cL_law 748 = .ok (.iadd, 1) := by decide +kernel
theorem dL_law_749 : decode cL_law 749 = .ok (.iaload, 1) := by decide +kernel
theorem dL_law_750 : decode cL_law 750 = .ok (.invokevirtual 116, 3) := by decide +kernel
theorem dL_law_753 : decode cL_law 753 = .ok (.if_icmp .eq 18, 3) := by decide +kernel
theorem dL_law_756 : decode cL_law 756 = .ok (.iconst 0, 1) := by decide +kernel
theorem dL_law_757 : decode cL_law 757 = .ok (.ireturn, 1) := by decide +kernel
theorem dL_law_758 : decode cL_law 758 = .ok (.aload_n 1, 1) := by decide +kernel
theorem dL_law_759 : decode cL_law 759 = .ok (.invokevirtual 117, 3) := by decide +kernel
theorem dL_law_762 : decode cL_law 762 = .ok (.aload_n 2, 1) := by decide +kernel
theorem dL_law_763 : decode cL_law 763 = .ok (.invokevirtual 120, 3) := by decide +kernel
theorem dL_law_766 : decode cL_law 766 = .ok (.if_icmp .eq 5, 3) := by decide +kernel
theorem dL_law_769 : decode cL_law 769 = .ok (.iconst 0, 1) := by decide +kernel
theorem dL_law_770 : decode cL_law 770 = .ok (.ireturn, 1) := by decide +kernel
theorem dL_law_771 : decode cL_law 771 = .ok (.iinc 3 3, 3) := by decide +kernel
theorem dL_law_774 : decode cL_law 774 = .ok (.goto (-756), 3) := by decide +kernel
theorem dL_law_777 : decode cL_law 777 = .ok (.iconst 1, 1) := by decide +kernel
theorem dL_law_778 : decode cL_law 778 = .ok (.ireturn, 1) := by decide +kernel
end
