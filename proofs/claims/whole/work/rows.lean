section
-- ===== PART A: goes FIRST, ahead of the names: the tables' words, and 'selects' of the private methods out of them =====
/-- a private method of a class that the tables say can be made, by its rows of tables_1 -/
def lw_okq (q : MethodName × Nat) : Prop := (q.1.cls ≠ "java/lang/invoke/MethodHandle" ∧ q.1.cls ≠ "java/lang/invoke/VarHandle") ∧ Cond.instantiable q.1.cls q.2 ∈ tables_1 ∧ Cond.privateMethod q.1 ∈ tables_1 ∧ Cond.instanceMethod q.1 ∈ tables_1
theorem lw_p0 : lw_okq (⟨"LockerChains$History", "slot", "(I)LLockerChains$Hall;"⟩, 3) := ⟨⟨by decide +kernel, by decide +kernel⟩, List.mem_of_getElem? (i := 161) (by decide +kernel), List.mem_of_getElem? (i := 263) (by decide +kernel), List.mem_of_getElem? (i := 264) (by decide +kernel)⟩
theorem lw_p1 : lw_okq (⟨"LockerChains$Hall", "lockerAt", "(I)LLockerChains$Locker;"⟩, 10) := ⟨⟨by decide +kernel, by decide +kernel⟩, List.mem_of_getElem? (i := 27) (by decide +kernel), List.mem_of_getElem? (i := 310) (by decide +kernel), List.mem_of_getElem? (i := 311) (by decide +kernel)⟩
theorem lw_p2 : lw_okq (⟨"LockerChains$Hall", "offer", "(LLockerChains$Locker;)V"⟩, 10) := ⟨⟨by decide +kernel, by decide +kernel⟩, List.mem_of_getElem? (i := 27) (by decide +kernel), List.mem_of_getElem? (i := 318) (by decide +kernel), List.mem_of_getElem? (i := 319) (by decide +kernel)⟩
theorem lw_p3 : lw_okq (⟨"LockerChains$Hall", "personAt", "(I)LLockerChains$Person;"⟩, 10) := ⟨⟨by decide +kernel, by decide +kernel⟩, List.mem_of_getElem? (i := 27) (by decide +kernel), List.mem_of_getElem? (i := 326) (by decide +kernel), List.mem_of_getElem? (i := 327) (by decide +kernel)⟩
theorem lw_p4 : lw_okq (⟨"LockerChains$Hall", "beginLoan", "(LLockerChains$Person;LLockerChains$Locker;)V"⟩, 10) := ⟨⟨by decide +kernel, by decide +kernel⟩, List.mem_of_getElem? (i := 27) (by decide +kernel), List.mem_of_getElem? (i := 338) (by decide +kernel), List.mem_of_getElem? (i := 339) (by decide +kernel)⟩
theorem lw_p5 : lw_okq (⟨"LockerChains$Hall", "lowestFree", "(I)LLockerChains$Locker;"⟩, 10) := ⟨⟨by decide +kernel, by decide +kernel⟩, List.mem_of_getElem? (i := 27) (by decide +kernel), List.mem_of_getElem? (i := 354) (by decide +kernel), List.mem_of_getElem? (i := 355) (by decide +kernel)⟩
theorem lw_p6 : lw_okq (⟨"LockerChains$Hall", "endLoan", "(LLockerChains$Person;LLockerChains$Locker;)V"⟩, 10) := ⟨⟨by decide +kernel, by decide +kernel⟩, List.mem_of_getElem? (i := 27) (by decide +kernel), List.mem_of_getElem? (i := 374) (by decide +kernel), List.mem_of_getElem? (i := 375) (by decide +kernel)⟩
theorem lw_p7 : lw_okq (⟨"LockerChains$Hall", "changeLock", "(LLockerChains$Person;LLockerChains$Locker;)V"⟩, 10) := ⟨⟨by decide +kernel, by decide +kernel⟩, List.mem_of_getElem? (i := 27) (by decide +kernel), List.mem_of_getElem? (i := 394) (by decide +kernel), List.mem_of_getElem? (i := 395) (by decide +kernel)⟩
theorem lw_p8 : lw_okq (⟨"LockerChains$Hall", "moveToFree", "()I"⟩, 10) := ⟨⟨by decide +kernel, by decide +kernel⟩, List.mem_of_getElem? (i := 27) (by decide +kernel), List.mem_of_getElem? (i := 426) (by decide +kernel), List.mem_of_getElem? (i := 427) (by decide +kernel)⟩
theorem lw_p9 : lw_okq (⟨"LockerChains$Hall", "lockerOfPerson", "(I)LLockerChains$Locker;"⟩, 10) := ⟨⟨by decide +kernel, by decide +kernel⟩, List.mem_of_getElem? (i := 27) (by decide +kernel), List.mem_of_getElem? (i := 438) (by decide +kernel), List.mem_of_getElem? (i := 439) (by decide +kernel)⟩
theorem lw_p10 : lw_okq (⟨"LockerChains$Hall", "move", "(ILLockerChains$Locker;)V"⟩, 10) := ⟨⟨by decide +kernel, by decide +kernel⟩, List.mem_of_getElem? (i := 27) (by decide +kernel), List.mem_of_getElem? (i := 442) (by decide +kernel), List.mem_of_getElem? (i := 443) (by decide +kernel)⟩
theorem lw_p11 : lw_okq (⟨"LockerChains$Hall", "findRing", "()I"⟩, 10) := ⟨⟨by decide +kernel, by decide +kernel⟩, List.mem_of_getElem? (i := 27) (by decide +kernel), List.mem_of_getElem? (i := 446) (by decide +kernel), List.mem_of_getElem? (i := 447) (by decide +kernel)⟩
theorem lw_p12 : lw_okq (⟨"LockerChains$Hall", "wants", "(LLockerChains$Person;LLockerChains$Person;)Z"⟩, 10) := ⟨⟨by decide +kernel, by decide +kernel⟩, List.mem_of_getElem? (i := 27) (by decide +kernel), List.mem_of_getElem? (i := 450) (by decide +kernel), List.mem_of_getElem? (i := 451) (by decide +kernel)⟩
theorem lw_p13 : lw_okq (⟨"LockerChains$Hall", "moveAround", "(I)V"⟩, 10) := ⟨⟨by decide +kernel, by decide +kernel⟩, List.mem_of_getElem? (i := 27) (by decide +kernel), List.mem_of_getElem? (i := 454) (by decide +kernel), List.mem_of_getElem? (i := 455) (by decide +kernel)⟩
theorem lw_p14 : lw_okq (⟨"LockerChains$Hall", "endClosing", "()V"⟩, 10) := ⟨⟨by decide +kernel, by decide +kernel⟩, List.mem_of_getElem? (i := 27) (by decide +kernel), List.mem_of_getElem? (i := 474) (by decide +kernel), List.mem_of_getElem? (i := 475) (by decide +kernel)⟩
theorem lw_p15 : lw_okq (⟨"LockerChains$Hall", "chargeOverdue", "()I"⟩, 10) := ⟨⟨by decide +kernel, by decide +kernel⟩, List.mem_of_getElem? (i := 27) (by decide +kernel), List.mem_of_getElem? (i := 478) (by decide +kernel), List.mem_of_getElem? (i := 479) (by decide +kernel)⟩
def lw_privs_1 : List (MethodName × Nat) := [(⟨"LockerChains$History", "slot", "(I)LLockerChains$Hall;"⟩, 3), (⟨"LockerChains$Hall", "lockerAt", "(I)LLockerChains$Locker;"⟩, 10), (⟨"LockerChains$Hall", "offer", "(LLockerChains$Locker;)V"⟩, 10), (⟨"LockerChains$Hall", "personAt", "(I)LLockerChains$Person;"⟩, 10), (⟨"LockerChains$Hall", "beginLoan", "(LLockerChains$Person;LLockerChains$Locker;)V"⟩, 10), (⟨"LockerChains$Hall", "lowestFree", "(I)LLockerChains$Locker;"⟩, 10), (⟨"LockerChains$Hall", "endLoan", "(LLockerChains$Person;LLockerChains$Locker;)V"⟩, 10), (⟨"LockerChains$Hall", "changeLock", "(LLockerChains$Person;LLockerChains$Locker;)V"⟩, 10), (⟨"LockerChains$Hall", "moveToFree", "()I"⟩, 10), (⟨"LockerChains$Hall", "lockerOfPerson", "(I)LLockerChains$Locker;"⟩, 10), (⟨"LockerChains$Hall", "move", "(ILLockerChains$Locker;)V"⟩, 10), (⟨"LockerChains$Hall", "findRing", "()I"⟩, 10), (⟨"LockerChains$Hall", "wants", "(LLockerChains$Person;LLockerChains$Person;)Z"⟩, 10), (⟨"LockerChains$Hall", "moveAround", "(I)V"⟩, 10), (⟨"LockerChains$Hall", "endClosing", "()V"⟩, 10), (⟨"LockerChains$Hall", "chargeOverdue", "()I"⟩, 10)]
theorem lw_r1 : ∀ q ∈ lw_privs_1, lw_okq q := List.forall_mem_cons.mpr ⟨lw_p0, List.forall_mem_cons.mpr ⟨lw_p1, List.forall_mem_cons.mpr ⟨lw_p2, List.forall_mem_cons.mpr ⟨lw_p3, List.forall_mem_cons.mpr ⟨lw_p4, List.forall_mem_cons.mpr ⟨lw_p5, List.forall_mem_cons.mpr ⟨lw_p6, List.forall_mem_cons.mpr ⟨lw_p7, List.forall_mem_cons.mpr ⟨lw_p8, List.forall_mem_cons.mpr ⟨lw_p9, List.forall_mem_cons.mpr ⟨lw_p10, List.forall_mem_cons.mpr ⟨lw_p11, List.forall_mem_cons.mpr ⟨lw_p12, List.forall_mem_cons.mpr ⟨lw_p13, List.forall_mem_cons.mpr ⟨lw_p14, List.forall_mem_cons.mpr ⟨lw_p15, fun _ h => absurd h List.not_mem_nil⟩⟩⟩⟩⟩⟩⟩⟩⟩⟩⟩⟩⟩⟩⟩⟩
theorem lw_p16 : lw_okq (⟨"LockerChains$Hall", "freeLockers", "()I"⟩, 10) := ⟨⟨by decide +kernel, by decide +kernel⟩, List.mem_of_getElem? (i := 27) (by decide +kernel), List.mem_of_getElem? (i := 532) (by decide +kernel), List.mem_of_getElem? (i := 533) (by decide +kernel)⟩
theorem lw_p17 : lw_okq (⟨"LockerChains$Hall", "closedLockers", "()I"⟩, 10) := ⟨⟨by decide +kernel, by decide +kernel⟩, List.mem_of_getElem? (i := 27) (by decide +kernel), List.mem_of_getElem? (i := 540) (by decide +kernel), List.mem_of_getElem? (i := 541) (by decide +kernel)⟩
theorem lw_p18 : lw_okq (⟨"LockerChains$Hall", "owedByAll", "()I"⟩, 10) := ⟨⟨by decide +kernel, by decide +kernel⟩, List.mem_of_getElem? (i := 27) (by decide +kernel), List.mem_of_getElem? (i := 544) (by decide +kernel), List.mem_of_getElem? (i := 545) (by decide +kernel)⟩
theorem lw_p19 : lw_okq (⟨"LockerChains$Hall", "paidByAll", "()I"⟩, 10) := ⟨⟨by decide +kernel, by decide +kernel⟩, List.mem_of_getElem? (i := 27) (by decide +kernel), List.mem_of_getElem? (i := 548) (by decide +kernel), List.mem_of_getElem? (i := 549) (by decide +kernel)⟩
theorem lw_p20 : lw_okq (⟨"LockerChains$Hall", "tellSetting", "(I)I"⟩, 10) := ⟨⟨by decide +kernel, by decide +kernel⟩, List.mem_of_getElem? (i := 27) (by decide +kernel), List.mem_of_getElem? (i := 552) (by decide +kernel), List.mem_of_getElem? (i := 553) (by decide +kernel)⟩
theorem lw_p21 : lw_okq (⟨"LockerChains$Text", "verbAt", "(I)LLockerChains$Verb;"⟩, 6) := ⟨⟨by decide +kernel, by decide +kernel⟩, List.mem_of_getElem? (i := 181) (by decide +kernel), List.mem_of_getElem? (i := 637) (by decide +kernel), List.mem_of_getElem? (i := 638) (by decide +kernel)⟩
theorem lw_p22 : lw_okq (⟨"LockerChains$Text", "hasWordAt", "(ILjava/lang/String;)Z"⟩, 6) := ⟨⟨by decide +kernel, by decide +kernel⟩, List.mem_of_getElem? (i := 181) (by decide +kernel), List.mem_of_getElem? (i := 643) (by decide +kernel), List.mem_of_getElem? (i := 644) (by decide +kernel)⟩
theorem lw_p23 : lw_okq (⟨"LockerChains$Text", "signAt", "(I)C"⟩, 6) := ⟨⟨by decide +kernel, by decide +kernel⟩, List.mem_of_getElem? (i := 181) (by decide +kernel), List.mem_of_getElem? (i := 657) (by decide +kernel), List.mem_of_getElem? (i := 658) (by decide +kernel)⟩
theorem lw_p24 : lw_okq (⟨"LockerChains$Text", "readNumber", "()I"⟩, 6) := ⟨⟨by decide +kernel, by decide +kernel⟩, List.mem_of_getElem? (i := 181) (by decide +kernel), List.mem_of_getElem? (i := 699) (by decide +kernel), List.mem_of_getElem? (i := 700) (by decide +kernel)⟩
theorem lw_p25 : lw_okq (⟨"LockerChains$Rehearsal", "noteFault", "(III)V"⟩, 5) := ⟨⟨by decide +kernel, by decide +kernel⟩, List.mem_of_getElem? (i := 213) (by decide +kernel), List.mem_of_getElem? (i := 703) (by decide +kernel), List.mem_of_getElem? (i := 704) (by decide +kernel)⟩
theorem lw_p26 : lw_okq (⟨"LockerChains$Rehearsal", "obey", "(LLockerChains$Verb;II)I"⟩, 5) := ⟨⟨by decide +kernel, by decide +kernel⟩, List.mem_of_getElem? (i := 213) (by decide +kernel), List.mem_of_getElem? (i := 707) (by decide +kernel), List.mem_of_getElem? (i := 708) (by decide +kernel)⟩
theorem lw_p27 : lw_okq (⟨"LockerChainsModel", "begins", "()V"⟩, 12) := ⟨⟨by decide +kernel, by decide +kernel⟩, List.mem_of_getElem? (i := 734) (by decide +kernel), List.mem_of_getElem? (i := 781) (by decide +kernel), List.mem_of_getElem? (i := 782) (by decide +kernel)⟩
theorem lw_p28 : lw_okq (⟨"LockerChainsModel", "makesLocker", "(I)I"⟩, 12) := ⟨⟨by decide +kernel, by decide +kernel⟩, List.mem_of_getElem? (i := 734) (by decide +kernel), List.mem_of_getElem? (i := 785) (by decide +kernel), List.mem_of_getElem? (i := 786) (by decide +kernel)⟩
theorem lw_p29 : lw_okq (⟨"LockerChainsModel", "lay", "(III)V"⟩, 12) := ⟨⟨by decide +kernel, by decide +kernel⟩, List.mem_of_getElem? (i := 734) (by decide +kernel), List.mem_of_getElem? (i := 792) (by decide +kernel), List.mem_of_getElem? (i := 793) (by decide +kernel)⟩
theorem lw_p30 : lw_okq (⟨"LockerChainsModel", "acted", "(I)I"⟩, 12) := ⟨⟨by decide +kernel, by decide +kernel⟩, List.mem_of_getElem? (i := 734) (by decide +kernel), List.mem_of_getElem? (i := 796) (by decide +kernel), List.mem_of_getElem? (i := 797) (by decide +kernel)⟩
theorem lw_p31 : lw_okq (⟨"LockerChainsModel", "makesPerson", "()I"⟩, 12) := ⟨⟨by decide +kernel, by decide +kernel⟩, List.mem_of_getElem? (i := 734) (by decide +kernel), List.mem_of_getElem? (i := 804) (by decide +kernel), List.mem_of_getElem? (i := 805) (by decide +kernel)⟩
def lw_privs_2 : List (MethodName × Nat) := [(⟨"LockerChains$Hall", "freeLockers", "()I"⟩, 10), (⟨"LockerChains$Hall", "closedLockers", "()I"⟩, 10), (⟨"LockerChains$Hall", "owedByAll", "()I"⟩, 10), (⟨"LockerChains$Hall", "paidByAll", "()I"⟩, 10), (⟨"LockerChains$Hall", "tellSetting", "(I)I"⟩, 10), (⟨"LockerChains$Text", "verbAt", "(I)LLockerChains$Verb;"⟩, 6), (⟨"LockerChains$Text", "hasWordAt", "(ILjava/lang/String;)Z"⟩, 6), (⟨"LockerChains$Text", "signAt", "(I)C"⟩, 6), (⟨"LockerChains$Text", "readNumber", "()I"⟩, 6), (⟨"LockerChains$Rehearsal", "noteFault", "(III)V"⟩, 5), (⟨"LockerChains$Rehearsal", "obey", "(LLockerChains$Verb;II)I"⟩, 5), (⟨"LockerChainsModel", "begins", "()V"⟩, 12), (⟨"LockerChainsModel", "makesLocker", "(I)I"⟩, 12), (⟨"LockerChainsModel", "lay", "(III)V"⟩, 12), (⟨"LockerChainsModel", "acted", "(I)I"⟩, 12), (⟨"LockerChainsModel", "makesPerson", "()I"⟩, 12)]
theorem lw_r2 : ∀ q ∈ lw_privs_2, lw_okq q := List.forall_mem_cons.mpr ⟨lw_p16, List.forall_mem_cons.mpr ⟨lw_p17, List.forall_mem_cons.mpr ⟨lw_p18, List.forall_mem_cons.mpr ⟨lw_p19, List.forall_mem_cons.mpr ⟨lw_p20, List.forall_mem_cons.mpr ⟨lw_p21, List.forall_mem_cons.mpr ⟨lw_p22, List.forall_mem_cons.mpr ⟨lw_p23, List.forall_mem_cons.mpr ⟨lw_p24, List.forall_mem_cons.mpr ⟨lw_p25, List.forall_mem_cons.mpr ⟨lw_p26, List.forall_mem_cons.mpr ⟨lw_p27, List.forall_mem_cons.mpr ⟨lw_p28, List.forall_mem_cons.mpr ⟨lw_p29, List.forall_mem_cons.mpr ⟨lw_p30, List.forall_mem_cons.mpr ⟨lw_p31, fun _ h => absurd h List.not_mem_nil⟩⟩⟩⟩⟩⟩⟩⟩⟩⟩⟩⟩⟩⟩⟩⟩
theorem lw_p32 : lw_okq (⟨"LockerChainsModel", "layP", "(III)V"⟩, 12) := ⟨⟨by decide +kernel, by decide +kernel⟩, List.mem_of_getElem? (i := 734) (by decide +kernel), List.mem_of_getElem? (i := 808) (by decide +kernel), List.mem_of_getElem? (i := 809) (by decide +kernel)⟩
theorem lw_p33 : lw_okq (⟨"LockerChainsModel", "stands", "(II)I"⟩, 12) := ⟨⟨by decide +kernel, by decide +kernel⟩, List.mem_of_getElem? (i := 734) (by decide +kernel), List.mem_of_getElem? (i := 816) (by decide +kernel), List.mem_of_getElem? (i := 817) (by decide +kernel)⟩
theorem lw_p34 : lw_okq (⟨"LockerChainsModel", "isLocker", "(I)Z"⟩, 12) := ⟨⟨by decide +kernel, by decide +kernel⟩, List.mem_of_getElem? (i := 734) (by decide +kernel), List.mem_of_getElem? (i := 820) (by decide +kernel), List.mem_of_getElem? (i := 821) (by decide +kernel)⟩
theorem lw_p35 : lw_okq (⟨"LockerChainsModel", "of", "(II)I"⟩, 12) := ⟨⟨by decide +kernel, by decide +kernel⟩, List.mem_of_getElem? (i := 734) (by decide +kernel), List.mem_of_getElem? (i := 824) (by decide +kernel), List.mem_of_getElem? (i := 825) (by decide +kernel)⟩
theorem lw_p36 : lw_okq (⟨"LockerChainsModel", "inRow", "(I)I"⟩, 12) := ⟨⟨by decide +kernel, by decide +kernel⟩, List.mem_of_getElem? (i := 734) (by decide +kernel), List.mem_of_getElem? (i := 828) (by decide +kernel), List.mem_of_getElem? (i := 829) (by decide +kernel)⟩
theorem lw_p37 : lw_okq (⟨"LockerChainsModel", "frees", "(I)V"⟩, 12) := ⟨⟨by decide +kernel, by decide +kernel⟩, List.mem_of_getElem? (i := 734) (by decide +kernel), List.mem_of_getElem? (i := 832) (by decide +kernel), List.mem_of_getElem? (i := 833) (by decide +kernel)⟩
theorem lw_p38 : lw_okq (⟨"LockerChainsModel", "isFree", "(I)Z"⟩, 12) := ⟨⟨by decide +kernel, by decide +kernel⟩, List.mem_of_getElem? (i := 734) (by decide +kernel), List.mem_of_getElem? (i := 836) (by decide +kernel), List.mem_of_getElem? (i := 837) (by decide +kernel)⟩
theorem lw_p39 : lw_okq (⟨"LockerChainsModel", "firstWaiting", "(I)I"⟩, 12) := ⟨⟨by decide +kernel, by decide +kernel⟩, List.mem_of_getElem? (i := 734) (by decide +kernel), List.mem_of_getElem? (i := 840) (by decide +kernel), List.mem_of_getElem? (i := 841) (by decide +kernel)⟩
theorem lw_p40 : lw_okq (⟨"LockerChainsModel", "waitsNoMore", "(I)V"⟩, 12) := ⟨⟨by decide +kernel, by decide +kernel⟩, List.mem_of_getElem? (i := 734) (by decide +kernel), List.mem_of_getElem? (i := 844) (by decide +kernel), List.mem_of_getElem? (i := 845) (by decide +kernel)⟩
theorem lw_p41 : lw_okq (⟨"LockerChainsModel", "beginsLoan", "(II)V"⟩, 12) := ⟨⟨by decide +kernel, by decide +kernel⟩, List.mem_of_getElem? (i := 734) (by decide +kernel), List.mem_of_getElem? (i := 848) (by decide +kernel), List.mem_of_getElem? (i := 849) (by decide +kernel)⟩
theorem lw_p42 : lw_okq (⟨"LockerChainsModel", "has", "(II)V"⟩, 12) := ⟨⟨by decide +kernel, by decide +kernel⟩, List.mem_of_getElem? (i := 734) (by decide +kernel), List.mem_of_getElem? (i := 852) (by decide +kernel), List.mem_of_getElem? (i := 853) (by decide +kernel)⟩
theorem lw_p43 : lw_okq (⟨"LockerChainsModel", "lends", "(II)I"⟩, 12) := ⟨⟨by decide +kernel, by decide +kernel⟩, List.mem_of_getElem? (i := 734) (by decide +kernel), List.mem_of_getElem? (i := 860) (by decide +kernel), List.mem_of_getElem? (i := 861) (by decide +kernel)⟩
theorem lw_p44 : lw_okq (⟨"LockerChainsModel", "isPerson", "(I)Z"⟩, 12) := ⟨⟨by decide +kernel, by decide +kernel⟩, List.mem_of_getElem? (i := 734) (by decide +kernel), List.mem_of_getElem? (i := 864) (by decide +kernel), List.mem_of_getElem? (i := 865) (by decide +kernel)⟩
theorem lw_p45 : lw_okq (⟨"LockerChainsModel", "ofP", "(II)I"⟩, 12) := ⟨⟨by decide +kernel, by decide +kernel⟩, List.mem_of_getElem? (i := 734) (by decide +kernel), List.mem_of_getElem? (i := 868) (by decide +kernel), List.mem_of_getElem? (i := 869) (by decide +kernel)⟩
theorem lw_p46 : lw_okq (⟨"LockerChainsModel", "placeOf", "(I)I"⟩, 12) := ⟨⟨by decide +kernel, by decide +kernel⟩, List.mem_of_getElem? (i := 734) (by decide +kernel), List.mem_of_getElem? (i := 872) (by decide +kernel), List.mem_of_getElem? (i := 873) (by decide +kernel)⟩
theorem lw_p47 : lw_okq (⟨"LockerChainsModel", "lowestFree", "(I)I"⟩, 12) := ⟨⟨by decide +kernel, by decide +kernel⟩, List.mem_of_getElem? (i := 734) (by decide +kernel), List.mem_of_getElem? (i := 876) (by decide +kernel), List.mem_of_getElem? (i := 877) (by decide +kernel)⟩
def lw_privs_3 : List (MethodName × Nat) := [(⟨"LockerChainsModel", "layP", "(III)V"⟩, 12), (⟨"LockerChainsModel", "stands", "(II)I"⟩, 12), (⟨"LockerChainsModel", "isLocker", "(I)Z"⟩, 12), (⟨"LockerChainsModel", "of", "(II)I"⟩, 12), (⟨"LockerChainsModel", "inRow", "(I)I"⟩, 12), (⟨"LockerChainsModel", "frees", "(I)V"⟩, 12), (⟨"LockerChainsModel", "isFree", "(I)Z"⟩, 12), (⟨"LockerChainsModel", "firstWaiting", "(I)I"⟩, 12), (⟨"LockerChainsModel", "waitsNoMore", "(I)V"⟩, 12), (⟨"LockerChainsModel", "beginsLoan", "(II)V"⟩, 12), (⟨"LockerChainsModel", "has", "(II)V"⟩, 12), (⟨"LockerChainsModel", "lends", "(II)I"⟩, 12), (⟨"LockerChainsModel", "isPerson", "(I)Z"⟩, 12), (⟨"LockerChainsModel", "ofP", "(II)I"⟩, 12), (⟨"LockerChainsModel", "placeOf", "(I)I"⟩, 12), (⟨"LockerChainsModel", "lowestFree", "(I)I"⟩, 12)]
theorem lw_r3 : ∀ q ∈ lw_privs_3, lw_okq q := List.forall_mem_cons.mpr ⟨lw_p32, List.forall_mem_cons.mpr ⟨lw_p33, List.forall_mem_cons.mpr ⟨lw_p34, List.forall_mem_cons.mpr ⟨lw_p35, List.forall_mem_cons.mpr ⟨lw_p36, List.forall_mem_cons.mpr ⟨lw_p37, List.forall_mem_cons.mpr ⟨lw_p38, List.forall_mem_cons.mpr ⟨lw_p39, List.forall_mem_cons.mpr ⟨lw_p40, List.forall_mem_cons.mpr ⟨lw_p41, List.forall_mem_cons.mpr ⟨lw_p42, List.forall_mem_cons.mpr ⟨lw_p43, List.forall_mem_cons.mpr ⟨lw_p44, List.forall_mem_cons.mpr ⟨lw_p45, List.forall_mem_cons.mpr ⟨lw_p46, List.forall_mem_cons.mpr ⟨lw_p47, fun _ h => absurd h List.not_mem_nil⟩⟩⟩⟩⟩⟩⟩⟩⟩⟩⟩⟩⟩⟩⟩⟩
theorem lw_p48 : lw_okq (⟨"LockerChainsModel", "waitsFor", "(II)V"⟩, 12) := ⟨⟨by decide +kernel, by decide +kernel⟩, List.mem_of_getElem? (i := 734) (by decide +kernel), List.mem_of_getElem? (i := 880) (by decide +kernel), List.mem_of_getElem? (i := 881) (by decide +kernel)⟩
theorem lw_p49 : lw_okq (⟨"LockerChainsModel", "givesBack", "(I)I"⟩, 12) := ⟨⟨by decide +kernel, by decide +kernel⟩, List.mem_of_getElem? (i := 734) (by decide +kernel), List.mem_of_getElem? (i := 888) (by decide +kernel), List.mem_of_getElem? (i := 889) (by decide +kernel)⟩
theorem lw_p50 : lw_okq (⟨"LockerChainsModel", "overdue", "(I)I"⟩, 12) := ⟨⟨by decide +kernel, by decide +kernel⟩, List.mem_of_getElem? (i := 734) (by decide +kernel), List.mem_of_getElem? (i := 892) (by decide +kernel), List.mem_of_getElem? (i := 893) (by decide +kernel)⟩
theorem lw_p51 : lw_okq (⟨"LockerChainsModel", "endsLoan", "(I)I"⟩, 12) := ⟨⟨by decide +kernel, by decide +kernel⟩, List.mem_of_getElem? (i := 734) (by decide +kernel), List.mem_of_getElem? (i := 896) (by decide +kernel), List.mem_of_getElem? (i := 897) (by decide +kernel)⟩
theorem lw_p52 : lw_okq (⟨"LockerChainsModel", "endsWish", "(I)V"⟩, 12) := ⟨⟨by decide +kernel, by decide +kernel⟩, List.mem_of_getElem? (i := 734) (by decide +kernel), List.mem_of_getElem? (i := 900) (by decide +kernel), List.mem_of_getElem? (i := 901) (by decide +kernel)⟩
theorem lw_p53 : lw_okq (⟨"LockerChainsModel", "renews", "(I)I"⟩, 12) := ⟨⟨by decide +kernel, by decide +kernel⟩, List.mem_of_getElem? (i := 734) (by decide +kernel), List.mem_of_getElem? (i := 908) (by decide +kernel), List.mem_of_getElem? (i := 909) (by decide +kernel)⟩
theorem lw_p54 : lw_okq (⟨"LockerChainsModel", "loses", "(I)I"⟩, 12) := ⟨⟨by decide +kernel, by decide +kernel⟩, List.mem_of_getElem? (i := 734) (by decide +kernel), List.mem_of_getElem? (i := 916) (by decide +kernel), List.mem_of_getElem? (i := 917) (by decide +kernel)⟩
theorem lw_p55 : lw_okq (⟨"LockerChainsModel", "owes", "(II)V"⟩, 12) := ⟨⟨by decide +kernel, by decide +kernel⟩, List.mem_of_getElem? (i := 734) (by decide +kernel), List.mem_of_getElem? (i := 920) (by decide +kernel), List.mem_of_getElem? (i := 921) (by decide +kernel)⟩
theorem lw_p56 : lw_okq (⟨"LockerChainsModel", "changesLock", "(I)V"⟩, 12) := ⟨⟨by decide +kernel, by decide +kernel⟩, List.mem_of_getElem? (i := 734) (by decide +kernel), List.mem_of_getElem? (i := 924) (by decide +kernel), List.mem_of_getElem? (i := 925) (by decide +kernel)⟩
theorem lw_p57 : lw_okq (⟨"LockerChainsModel", "wishes", "(II)I"⟩, 12) := ⟨⟨by decide +kernel, by decide +kernel⟩, List.mem_of_getElem? (i := 734) (by decide +kernel), List.mem_of_getElem? (i := 932) (by decide +kernel), List.mem_of_getElem? (i := 933) (by decide +kernel)⟩
theorem lw_p58 : lw_okq (⟨"LockerChainsModel", "wishesNoMore", "(I)I"⟩, 12) := ⟨⟨by decide +kernel, by decide +kernel⟩, List.mem_of_getElem? (i := 734) (by decide +kernel), List.mem_of_getElem? (i := 940) (by decide +kernel), List.mem_of_getElem? (i := 941) (by decide +kernel)⟩
theorem lw_p59 : lw_okq (⟨"LockerChainsModel", "swaps", "()I"⟩, 12) := ⟨⟨by decide +kernel, by decide +kernel⟩, List.mem_of_getElem? (i := 734) (by decide +kernel), List.mem_of_getElem? (i := 948) (by decide +kernel), List.mem_of_getElem? (i := 949) (by decide +kernel)⟩
theorem lw_p60 : lw_okq (⟨"LockerChainsModel", "takesFree", "()Z"⟩, 12) := ⟨⟨by decide +kernel, by decide +kernel⟩, List.mem_of_getElem? (i := 734) (by decide +kernel), List.mem_of_getElem? (i := 952) (by decide +kernel), List.mem_of_getElem? (i := 953) (by decide +kernel)⟩
theorem lw_p61 : lw_okq (⟨"LockerChainsModel", "moves", "(II)V"⟩, 12) := ⟨⟨by decide +kernel, by decide +kernel⟩, List.mem_of_getElem? (i := 734) (by decide +kernel), List.mem_of_getElem? (i := 956) (by decide +kernel), List.mem_of_getElem? (i := 957) (by decide +kernel)⟩
theorem lw_p62 : lw_okq (⟨"LockerChainsModel", "takesRing", "()I"⟩, 12) := ⟨⟨by decide +kernel, by decide +kernel⟩, List.mem_of_getElem? (i := 734) (by decide +kernel), List.mem_of_getElem? (i := 960) (by decide +kernel), List.mem_of_getElem? (i := 961) (by decide +kernel)⟩
theorem lw_p63 : lw_okq (⟨"LockerChainsModel", "thirdOf", "(II)I"⟩, 12) := ⟨⟨by decide +kernel, by decide +kernel⟩, List.mem_of_getElem? (i := 734) (by decide +kernel), List.mem_of_getElem? (i := 964) (by decide +kernel), List.mem_of_getElem? (i := 965) (by decide +kernel)⟩
def lw_privs_4 : List (MethodName × Nat) := [(⟨"LockerChainsModel", "waitsFor", "(II)V"⟩, 12), (⟨"LockerChainsModel", "givesBack", "(I)I"⟩, 12), (⟨"LockerChainsModel", "overdue", "(I)I"⟩, 12), (⟨"LockerChainsModel", "endsLoan", "(I)I"⟩, 12), (⟨"LockerChainsModel", "endsWish", "(I)V"⟩, 12), (⟨"LockerChainsModel", "renews", "(I)I"⟩, 12), (⟨"LockerChainsModel", "loses", "(I)I"⟩, 12), (⟨"LockerChainsModel", "owes", "(II)V"⟩, 12), (⟨"LockerChainsModel", "changesLock", "(I)V"⟩, 12), (⟨"LockerChainsModel", "wishes", "(II)I"⟩, 12), (⟨"LockerChainsModel", "wishesNoMore", "(I)I"⟩, 12), (⟨"LockerChainsModel", "swaps", "()I"⟩, 12), (⟨"LockerChainsModel", "takesFree", "()Z"⟩, 12), (⟨"LockerChainsModel", "moves", "(II)V"⟩, 12), (⟨"LockerChainsModel", "takesRing", "()I"⟩, 12), (⟨"LockerChainsModel", "thirdOf", "(II)I"⟩, 12)]
theorem lw_r4 : ∀ q ∈ lw_privs_4, lw_okq q := List.forall_mem_cons.mpr ⟨lw_p48, List.forall_mem_cons.mpr ⟨lw_p49, List.forall_mem_cons.mpr ⟨lw_p50, List.forall_mem_cons.mpr ⟨lw_p51, List.forall_mem_cons.mpr ⟨lw_p52, List.forall_mem_cons.mpr ⟨lw_p53, List.forall_mem_cons.mpr ⟨lw_p54, List.forall_mem_cons.mpr ⟨lw_p55, List.forall_mem_cons.mpr ⟨lw_p56, List.forall_mem_cons.mpr ⟨lw_p57, List.forall_mem_cons.mpr ⟨lw_p58, List.forall_mem_cons.mpr ⟨lw_p59, List.forall_mem_cons.mpr ⟨lw_p60, List.forall_mem_cons.mpr ⟨lw_p61, List.forall_mem_cons.mpr ⟨lw_p62, List.forall_mem_cons.mpr ⟨lw_p63, fun _ h => absurd h List.not_mem_nil⟩⟩⟩⟩⟩⟩⟩⟩⟩⟩⟩⟩⟩⟩⟩⟩
theorem lw_p64 : lw_okq (⟨"LockerChainsModel", "wants", "(II)Z"⟩, 12) := ⟨⟨by decide +kernel, by decide +kernel⟩, List.mem_of_getElem? (i := 734) (by decide +kernel), List.mem_of_getElem? (i := 968) (by decide +kernel), List.mem_of_getElem? (i := 969) (by decide +kernel)⟩
theorem lw_p65 : lw_okq (⟨"LockerChainsModel", "goesRound", "(III)I"⟩, 12) := ⟨⟨by decide +kernel, by decide +kernel⟩, List.mem_of_getElem? (i := 734) (by decide +kernel), List.mem_of_getElem? (i := 972) (by decide +kernel), List.mem_of_getElem? (i := 973) (by decide +kernel)⟩
theorem lw_p66 : lw_okq (⟨"LockerChainsModel", "pays", "(II)I"⟩, 12) := ⟨⟨by decide +kernel, by decide +kernel⟩, List.mem_of_getElem? (i := 734) (by decide +kernel), List.mem_of_getElem? (i := 980) (by decide +kernel), List.mem_of_getElem? (i := 981) (by decide +kernel)⟩
theorem lw_p67 : lw_okq (⟨"LockerChainsModel", "passes", "(I)I"⟩, 12) := ⟨⟨by decide +kernel, by decide +kernel⟩, List.mem_of_getElem? (i := 734) (by decide +kernel), List.mem_of_getElem? (i := 988) (by decide +kernel), List.mem_of_getElem? (i := 989) (by decide +kernel)⟩
theorem lw_p68 : lw_okq (⟨"LockerChainsModel", "passDays", "(I)I"⟩, 12) := ⟨⟨by decide +kernel, by decide +kernel⟩, List.mem_of_getElem? (i := 734) (by decide +kernel), List.mem_of_getElem? (i := 992) (by decide +kernel), List.mem_of_getElem? (i := 993) (by decide +kernel)⟩
theorem lw_p69 : lw_okq (⟨"LockerChainsModel", "dayPasses", "()I"⟩, 12) := ⟨⟨by decide +kernel, by decide +kernel⟩, List.mem_of_getElem? (i := 734) (by decide +kernel), List.mem_of_getElem? (i := 996) (by decide +kernel), List.mem_of_getElem? (i := 997) (by decide +kernel)⟩
theorem lw_p70 : lw_okq (⟨"LockerChainsModel", "sets", "(II)I"⟩, 12) := ⟨⟨by decide +kernel, by decide +kernel⟩, List.mem_of_getElem? (i := 734) (by decide +kernel), List.mem_of_getElem? (i := 1007) (by decide +kernel), List.mem_of_getElem? (i := 1008) (by decide +kernel)⟩
theorem lw_p71 : lw_okq (⟨"LockerChainsModel", "lockersThat", "(I)I"⟩, 12) := ⟨⟨by decide +kernel, by decide +kernel⟩, List.mem_of_getElem? (i := 734) (by decide +kernel), List.mem_of_getElem? (i := 1036) (by decide +kernel), List.mem_of_getElem? (i := 1037) (by decide +kernel)⟩
theorem lw_p72 : lw_okq (⟨"LockerChainsModel", "debts", "()I"⟩, 12) := ⟨⟨by decide +kernel, by decide +kernel⟩, List.mem_of_getElem? (i := 734) (by decide +kernel), List.mem_of_getElem? (i := 1040) (by decide +kernel), List.mem_of_getElem? (i := 1041) (by decide +kernel)⟩
theorem lw_p73 : lw_okq (⟨"LockerChainsModel", "layAside", "()V"⟩, 12) := ⟨⟨by decide +kernel, by decide +kernel⟩, List.mem_of_getElem? (i := 734) (by decide +kernel), List.mem_of_getElem? (i := 1048) (by decide +kernel), List.mem_of_getElem? (i := 1049) (by decide +kernel)⟩
theorem lw_p74 : lw_okq (⟨"LockerChainsModel", "bringBack", "()V"⟩, 12) := ⟨⟨by decide +kernel, by decide +kernel⟩, List.mem_of_getElem? (i := 734) (by decide +kernel), List.mem_of_getElem? (i := 1052) (by decide +kernel), List.mem_of_getElem? (i := 1053) (by decide +kernel)⟩
theorem lw_p75 : lw_okq (⟨"LockerChainsModel", "does", "()I"⟩, 12) := ⟨⟨by decide +kernel, by decide +kernel⟩, List.mem_of_getElem? (i := 734) (by decide +kernel), List.mem_of_getElem? (i := 1105) (by decide +kernel), List.mem_of_getElem? (i := 1106) (by decide +kernel)⟩
theorem lw_p76 : lw_okq (⟨"LockerChainsModel", "command", "()I"⟩, 12) := ⟨⟨by decide +kernel, by decide +kernel⟩, List.mem_of_getElem? (i := 734) (by decide +kernel), List.mem_of_getElem? (i := 1109) (by decide +kernel), List.mem_of_getElem? (i := 1110) (by decide +kernel)⟩
theorem lw_p77 : lw_okq (⟨"LockerChainsModel", "readWord", "()I"⟩, 12) := ⟨⟨by decide +kernel, by decide +kernel⟩, List.mem_of_getElem? (i := 734) (by decide +kernel), List.mem_of_getElem? (i := 1113) (by decide +kernel), List.mem_of_getElem? (i := 1114) (by decide +kernel)⟩
theorem lw_p78 : lw_okq (⟨"LockerChainsModel", "here", "()I"⟩, 12) := ⟨⟨by decide +kernel, by decide +kernel⟩, List.mem_of_getElem? (i := 734) (by decide +kernel), List.mem_of_getElem? (i := 1117) (by decide +kernel), List.mem_of_getElem? (i := 1118) (by decide +kernel)⟩
theorem lw_p79 : lw_okq (⟨"LockerChainsModel", "readNumber", "()I"⟩, 12) := ⟨⟨by decide +kernel, by decide +kernel⟩, List.mem_of_getElem? (i := 734) (by decide +kernel), List.mem_of_getElem? (i := 1132) (by decide +kernel), List.mem_of_getElem? (i := 1133) (by decide +kernel)⟩
def lw_privs_5 : List (MethodName × Nat) := [(⟨"LockerChainsModel", "wants", "(II)Z"⟩, 12), (⟨"LockerChainsModel", "goesRound", "(III)I"⟩, 12), (⟨"LockerChainsModel", "pays", "(II)I"⟩, 12), (⟨"LockerChainsModel", "passes", "(I)I"⟩, 12), (⟨"LockerChainsModel", "passDays", "(I)I"⟩, 12), (⟨"LockerChainsModel", "dayPasses", "()I"⟩, 12), (⟨"LockerChainsModel", "sets", "(II)I"⟩, 12), (⟨"LockerChainsModel", "lockersThat", "(I)I"⟩, 12), (⟨"LockerChainsModel", "debts", "()I"⟩, 12), (⟨"LockerChainsModel", "layAside", "()V"⟩, 12), (⟨"LockerChainsModel", "bringBack", "()V"⟩, 12), (⟨"LockerChainsModel", "does", "()I"⟩, 12), (⟨"LockerChainsModel", "command", "()I"⟩, 12), (⟨"LockerChainsModel", "readWord", "()I"⟩, 12), (⟨"LockerChainsModel", "here", "()I"⟩, 12), (⟨"LockerChainsModel", "readNumber", "()I"⟩, 12)]
theorem lw_r5 : ∀ q ∈ lw_privs_5, lw_okq q := List.forall_mem_cons.mpr ⟨lw_p64, List.forall_mem_cons.mpr ⟨lw_p65, List.forall_mem_cons.mpr ⟨lw_p66, List.forall_mem_cons.mpr ⟨lw_p67, List.forall_mem_cons.mpr ⟨lw_p68, List.forall_mem_cons.mpr ⟨lw_p69, List.forall_mem_cons.mpr ⟨lw_p70, List.forall_mem_cons.mpr ⟨lw_p71, List.forall_mem_cons.mpr ⟨lw_p72, List.forall_mem_cons.mpr ⟨lw_p73, List.forall_mem_cons.mpr ⟨lw_p74, List.forall_mem_cons.mpr ⟨lw_p75, List.forall_mem_cons.mpr ⟨lw_p76, List.forall_mem_cons.mpr ⟨lw_p77, List.forall_mem_cons.mpr ⟨lw_p78, List.forall_mem_cons.mpr ⟨lw_p79, fun _ h => absurd h List.not_mem_nil⟩⟩⟩⟩⟩⟩⟩⟩⟩⟩⟩⟩⟩⟩⟩⟩
theorem lw_p80 : lw_okq (⟨"LockerChainsModel", "must", "(I)V"⟩, 12) := ⟨⟨by decide +kernel, by decide +kernel⟩, List.mem_of_getElem? (i := 734) (by decide +kernel), List.mem_of_getElem? (i := 1136) (by decide +kernel), List.mem_of_getElem? (i := 1137) (by decide +kernel)⟩
def lw_privs_6 : List (MethodName × Nat) := [(⟨"LockerChainsModel", "must", "(I)V"⟩, 12)]
theorem lw_r6 : ∀ q ∈ lw_privs_6, lw_okq q := List.forall_mem_cons.mpr ⟨lw_p80, fun _ h => absurd h List.not_mem_nil⟩
def lw_privs : List (MethodName × Nat) := lw_privs_1 ++ (lw_privs_2 ++ (lw_privs_3 ++ (lw_privs_4 ++ (lw_privs_5 ++ (lw_privs_6)))))
def lw_tbl : List Cond := k2_sels lw_privs ++ tables_1
theorem lw_privs_ok : ∀ q ∈ lw_privs, lw_okq q := by
  show ∀ q ∈ lw_privs_1 ++ (lw_privs_2 ++ (lw_privs_3 ++ (lw_privs_4 ++ (lw_privs_5 ++ (lw_privs_6))))), lw_okq q
  exact List.forall_mem_append.mpr ⟨lw_r1, List.forall_mem_append.mpr ⟨lw_r2, List.forall_mem_append.mpr ⟨lw_r3, List.forall_mem_append.mpr ⟨lw_r4, List.forall_mem_append.mpr ⟨lw_r5, lw_r6⟩⟩⟩⟩⟩
/-- the streams that the claim lets the run draw from -/
abbrev lw_cs : List Choice := [Jvm.Choice.named "NaN.bits"]
theorem lw_bits : nanBits ∈ lw_cs := by first | decide | exact List.mem_cons_self | simp [lw_cs, nanBits]
-- ===== end of PART A; then your names; then what follows =====
end
section
/-! ===== BEGIN words of one list among another's, by their places ===== -/
theorem goodIn_r {big : List Cond} (ws : List Cond) (ps : List Nat) (hp : ws = ps.filterMap (fun i => big[i]?)) (h : ws.all goodWord = true) : GoodIn big ws := by
  intro w hw
  have h1 := List.all_eq_true.mp h w hw
  rw [hp] at hw
  obtain ⟨i, -, hi⟩ := List.mem_filterMap.mp hw
  have hm : w ∈ big := by first | exact List.mem_of_getElem? hi | exact List.getElem?_mem hi
  exact ⟨hm, good_of_word h1⟩
theorem goodIn_app {big a b : List Cond} (ha : GoodIn big a) (hb : GoodIn big b) : GoodIn big (a ++ b) := fun w h => (List.mem_append.mp h).elim (ha w) (hb w)
theorem goodIn_ca {big a b : List Cond} {c : Cond} (ha : GoodIn big (c :: a)) (hb : GoodIn big b) : GoodIn big (c :: (a ++ b)) := fun w h => (List.mem_cons.mp h).elim (fun e => ha w (List.mem_cons.mpr (Or.inl e))) (fun h => (List.mem_append.mp h).elim (fun h => ha w (List.mem_cons.mpr (Or.inr h))) (hb w))
theorem goodIn_sub {big ws : List Cond} (hm : ∀ w ∈ ws, w ∈ big) (h : ws.all goodWord = true) : GoodIn big ws := fun w hw => ⟨hm w hw, good_of_word (List.all_eq_true.mp h w hw)⟩
/-! ===== END ===== -/

/-! ===== BEGIN printed: names, fields, word lists, decode rows ===== -/
def RX0 : String := "LockerChains$1"
def TX0 : u_T := fun k => match k with
  | _ => ("", "", "", false)
def tyX0 : Nat → FieldType := fun k => match k with
  | _ => .int
theorem nmX0 : ∀ a, a < 0 → ∀ b, b < 0 → a ≠ b → (TX0 a).2.1 ≠ (TX0 b).2.1 := by decide +kernel
theorem tyX0_ok : ∀ k, k < 0 → parseFieldDescriptor (TX0 k).2.2.1 = some (tyX0 k) := by decide +kernel
def RX1 : String := "LockerChains$Hall"
def TX1 : u_T := fun k => match k with
  | 0 => ("LockerChains$Hall", "lockers", "[LLockerChains$Locker;", true)
  | 1 => ("LockerChains$Hall", "people", "[LLockerChains$Person;", true)
  | 2 => ("LockerChains$Hall", "waiting", "LLockerChains$Line;", true)
  | 3 => ("LockerChains$Hall", "wishes", "LLockerChains$Line;", true)
  | 4 => ("LockerChains$Hall", "settings", "[I", true)
  | 5 => ("LockerChains$Hall", "ring", "[I", true)
  | 6 => ("LockerChains$Hall", "lockerCount", "I", false)
  | 7 => ("LockerChains$Hall", "personCount", "I", false)
  | 8 => ("LockerChains$Hall", "day", "I", false)
  | _ => ("LockerChains$Hall", "moved", "I", false)
def tyX1 : Nat → FieldType := fun k => match k with
  | 0 => .array (.object "LockerChains$Locker")
  | 1 => .array (.object "LockerChains$Person")
  | 2 => .object "LockerChains$Line"
  | 3 => .object "LockerChains$Line"
  | 4 => .array .int
  | 5 => .array .int
  | 6 => .int
  | 7 => .int
  | 8 => .int
  | _ => .int
theorem nmX1 : ∀ a, a < 10 → ∀ b, b < 10 → a ≠ b → (TX1 a).2.1 ≠ (TX1 b).2.1 := by decide +kernel
theorem tyX1_ok : ∀ k, k < 10 → parseFieldDescriptor (TX1 k).2.2.1 = some (tyX1 k) := by decide +kernel
abbrev cX1_init : ByteArray := prog_3_method_1_code
def yX1_init : MethodName := ⟨RX1, "<init>", "()V"⟩
abbrev cX1_copyFrom : ByteArray := prog_3_method_2_code
def yX1_copyFrom : MethodName := ⟨RX1, "copyFrom", "(LLockerChains$Hall;)V"⟩
abbrev cX1_lockerAt : ByteArray := prog_3_method_3_code
def yX1_lockerAt : MethodName := ⟨RX1, "lockerAt", "(I)LLockerChains$Locker;"⟩
abbrev cX1_personAt : ByteArray := prog_3_method_4_code
def yX1_personAt : MethodName := ⟨RX1, "personAt", "(I)LLockerChains$Person;"⟩
abbrev cX1_lockerOfPerson : ByteArray := prog_3_method_5_code
def yX1_lockerOfPerson : MethodName := ⟨RX1, "lockerOfPerson", "(I)LLockerChains$Locker;"⟩
abbrev cX1_addLocker : ByteArray := prog_3_method_6_code
def yX1_addLocker : MethodName := ⟨RX1, "addLocker", "(I)I"⟩
abbrev cX1_addPerson : ByteArray := prog_3_method_7_code
def yX1_addPerson : MethodName := ⟨RX1, "addPerson", "()I"⟩
abbrev cX1_putIntoRow : ByteArray := prog_3_method_8_code
def yX1_putIntoRow : MethodName := ⟨RX1, "putIntoRow", "(II)I"⟩
abbrev cX1_lendTo : ByteArray := prog_3_method_9_code
def yX1_lendTo : MethodName := ⟨RX1, "lendTo", "(II)I"⟩
abbrev cX1_takeBack : ByteArray := prog_3_method_10_code
def yX1_takeBack : MethodName := ⟨RX1, "takeBack", "(I)I"⟩
abbrev cX1_prolong : ByteArray := prog_3_method_11_code
def yX1_prolong : MethodName := ⟨RX1, "prolong", "(I)I"⟩
abbrev cX1_loseKey : ByteArray := prog_3_method_12_code
def yX1_loseKey : MethodName := ⟨RX1, "loseKey", "(I)I"⟩
abbrev cX1_changeLock : ByteArray := prog_3_method_13_code
def yX1_changeLock : MethodName := ⟨RX1, "changeLock", "(LLockerChains$Person;LLockerChains$Locker;)V"⟩
abbrev cX1_wishFor : ByteArray := prog_3_method_14_code
def yX1_wishFor : MethodName := ⟨RX1, "wishFor", "(II)I"⟩
abbrev cX1_endWish : ByteArray := prog_3_method_15_code
def yX1_endWish : MethodName := ⟨RX1, "endWish", "(I)I"⟩
abbrev cX1_swapAll : ByteArray := prog_3_method_16_code
def yX1_swapAll : MethodName := ⟨RX1, "swapAll", "()I"⟩
abbrev cX1_moveToFree : ByteArray := prog_3_method_17_code
def yX1_moveToFree : MethodName := ⟨RX1, "moveToFree", "()I"⟩
abbrev cX1_findRing : ByteArray := prog_3_method_18_code
def yX1_findRing : MethodName := ⟨RX1, "findRing", "()I"⟩
abbrev cX1_wants : ByteArray := prog_3_method_19_code
def yX1_wants : MethodName := ⟨RX1, "wants", "(LLockerChains$Person;LLockerChains$Person;)Z"⟩
abbrev cX1_moveAround : ByteArray := prog_3_method_20_code
def yX1_moveAround : MethodName := ⟨RX1, "moveAround", "(I)V"⟩
abbrev cX1_payCoins : ByteArray := prog_3_method_21_code
def yX1_payCoins : MethodName := ⟨RX1, "payCoins", "(II)I"⟩
abbrev cX1_passDays : ByteArray := prog_3_method_22_code
def yX1_passDays : MethodName := ⟨RX1, "passDays", "(II)I"⟩
abbrev cX1_endClosing : ByteArray := prog_3_method_23_code
def yX1_endClosing : MethodName := ⟨RX1, "endClosing", "()V"⟩
abbrev cX1_chargeOverdue : ByteArray := prog_3_method_24_code
def yX1_chargeOverdue : MethodName := ⟨RX1, "chargeOverdue", "()I"⟩
abbrev cX1_feeOfDay : ByteArray := prog_3_method_25_code
def yX1_feeOfDay : MethodName := ⟨RX1, "feeOfDay", "(I)I"⟩
abbrev cX1_changeSetting : ByteArray := prog_3_method_26_code
def yX1_changeSetting : MethodName := ⟨RX1, "changeSetting", "(II)I"⟩
abbrev cX1_lowestSetting : ByteArray := prog_3_method_27_code
def yX1_lowestSetting : MethodName := ⟨RX1, "lowestSetting", "(I)I"⟩
abbrev cX1_highestSetting : ByteArray := prog_3_method_28_code
def yX1_highestSetting : MethodName := ⟨RX1, "highestSetting", "(I)I"⟩
abbrev cX1_lowestFree : ByteArray := prog_3_method_29_code
def yX1_lowestFree : MethodName := ⟨RX1, "lowestFree", "(I)LLockerChains$Locker;"⟩
abbrev cX1_offer : ByteArray := prog_3_method_30_code
def yX1_offer : MethodName := ⟨RX1, "offer", "(LLockerChains$Locker;)V"⟩
abbrev cX1_beginLoan : ByteArray := prog_3_method_31_code
def yX1_beginLoan : MethodName := ⟨RX1, "beginLoan", "(LLockerChains$Person;LLockerChains$Locker;)V"⟩
abbrev cX1_endLoan : ByteArray := prog_3_method_32_code
def yX1_endLoan : MethodName := ⟨RX1, "endLoan", "(LLockerChains$Person;LLockerChains$Locker;)V"⟩
abbrev cX1_move : ByteArray := prog_3_method_33_code
def yX1_move : MethodName := ⟨RX1, "move", "(ILLockerChains$Locker;)V"⟩
abbrev cX1_tellOfPerson : ByteArray := prog_3_method_34_code
def yX1_tellOfPerson : MethodName := ⟨RX1, "tellOfPerson", "(II)I"⟩
abbrev cX1_tellOfLocker : ByteArray := prog_3_method_35_code
def yX1_tellOfLocker : MethodName := ⟨RX1, "tellOfLocker", "(II)I"⟩
abbrev cX1_foundOr : ByteArray := prog_3_method_36_code
def yX1_foundOr : MethodName := ⟨RX1, "foundOr", "(I)I"⟩
abbrev cX1_tellNumber : ByteArray := prog_3_method_37_code
def yX1_tellNumber : MethodName := ⟨RX1, "tellNumber", "(I)I"⟩
abbrev cX1_tellSetting : ByteArray := prog_3_method_38_code
def yX1_tellSetting : MethodName := ⟨RX1, "tellSetting", "(I)I"⟩
abbrev cX1_standingOf : ByteArray := prog_3_method_39_code
def yX1_standingOf : MethodName := ⟨RX1, "standingOf", "(I)I"⟩
abbrev cX1_lentLockers : ByteArray := prog_3_method_40_code
def yX1_lentLockers : MethodName := ⟨RX1, "lentLockers", "()I"⟩
abbrev cX1_freeLockers : ByteArray := prog_3_method_41_code
def yX1_freeLockers : MethodName := ⟨RX1, "freeLockers", "()I"⟩
abbrev cX1_closedLockers : ByteArray := prog_3_method_42_code
def yX1_closedLockers : MethodName := ⟨RX1, "closedLockers", "()I"⟩
abbrev cX1_owedByAll : ByteArray := prog_3_method_43_code
def yX1_owedByAll : MethodName := ⟨RX1, "owedByAll", "()I"⟩
abbrev cX1_paidByAll : ByteArray := prog_3_method_44_code
def yX1_paidByAll : MethodName := ⟨RX1, "paidByAll", "()I"⟩
abbrev cX1_overdueDays : ByteArray := prog_3_method_45_code
def yX1_overdueDays : MethodName := ⟨RX1, "overdueDays", "()I"⟩
def RX2 : String := "LockerChains$History"
def TX2 : u_T := fun k => match k with
  | 0 => ("LockerChains$History", "slots", "[LLockerChains$Hall;", true)
  | 1 => ("LockerChains$History", "oldest", "I", false)
  | _ => ("LockerChains$History", "states", "I", false)
def tyX2 : Nat → FieldType := fun k => match k with
  | 0 => .array (.object "LockerChains$Hall")
  | 1 => .int
  | _ => .int
theorem nmX2 : ∀ a, a < 3 → ∀ b, b < 3 → a ≠ b → (TX2 a).2.1 ≠ (TX2 b).2.1 := by decide +kernel
theorem tyX2_ok : ∀ k, k < 3 → parseFieldDescriptor (TX2 k).2.2.1 = some (tyX2 k) := by decide +kernel
abbrev cX2_init : ByteArray := prog_4_method_1_code
def yX2_init : MethodName := ⟨RX2, "<init>", "()V"⟩
abbrev cX2_slot : ByteArray := prog_4_method_2_code
def yX2_slot : MethodName := ⟨RX2, "slot", "(I)LLockerChains$Hall;"⟩
abbrev cX2_prepare : ByteArray := prog_4_method_3_code
def yX2_prepare : MethodName := ⟨RX2, "prepare", "(LLockerChains$Hall;)V"⟩
abbrev cX2_settle : ByteArray := prog_4_method_4_code
def yX2_settle : MethodName := ⟨RX2, "settle", "(I)I"⟩
abbrev cX2_restore : ByteArray := prog_4_method_5_code
def yX2_restore : MethodName := ⟨RX2, "restore", "(LLockerChains$Hall;)I"⟩
def RX3 : String := "LockerChains$Line"
def TX3 : u_T := fun k => match k with
  | 0 => ("LockerChains$Line", "people", "[I", true)
  | 1 => ("LockerChains$Line", "sizes", "[I", true)
  | _ => ("LockerChains$Line", "length", "I", false)
def tyX3 : Nat → FieldType := fun k => match k with
  | 0 => .array .int
  | 1 => .array .int
  | _ => .int
theorem nmX3 : ∀ a, a < 3 → ∀ b, b < 3 → a ≠ b → (TX3 a).2.1 ≠ (TX3 b).2.1 := by decide +kernel
theorem tyX3_ok : ∀ k, k < 3 → parseFieldDescriptor (TX3 k).2.2.1 = some (tyX3 k) := by decide +kernel
abbrev cX3_init : ByteArray := prog_5_method_1_code
def yX3_init : MethodName := ⟨RX3, "<init>", "()V"⟩
abbrev cX3_personAt : ByteArray := prog_5_method_2_code
def yX3_personAt : MethodName := ⟨RX3, "personAt", "(I)I"⟩
abbrev cX3_sizeAt : ByteArray := prog_5_method_3_code
def yX3_sizeAt : MethodName := ⟨RX3, "sizeAt", "(I)I"⟩
abbrev cX3_placeOf : ByteArray := prog_5_method_4_code
def yX3_placeOf : MethodName := ⟨RX3, "placeOf", "(I)I"⟩
abbrev cX3_sizeOf : ByteArray := prog_5_method_5_code
def yX3_sizeOf : MethodName := ⟨RX3, "sizeOf", "(I)I"⟩
abbrev cX3_firstFor : ByteArray := prog_5_method_6_code
def yX3_firstFor : MethodName := ⟨RX3, "firstFor", "(I)I"⟩
abbrev cX3_add : ByteArray := prog_5_method_7_code
def yX3_add : MethodName := ⟨RX3, "add", "(II)V"⟩
abbrev cX3_remove : ByteArray := prog_5_method_8_code
def yX3_remove : MethodName := ⟨RX3, "remove", "(I)V"⟩
abbrev cX3_copyFrom : ByteArray := prog_5_method_9_code
def yX3_copyFrom : MethodName := ⟨RX3, "copyFrom", "(LLockerChains$Line;)V"⟩
def RX4 : String := "LockerChains$Locker"
def TX4 : u_T := fun k => match k with
  | 0 => ("LockerChains$Locker", "number", "I", true)
  | 1 => ("LockerChains$Locker", "size", "I", false)
  | 2 => ("LockerChains$Locker", "standing", "Z", false)
  | 3 => ("LockerChains$Locker", "holder", "I", false)
  | 4 => ("LockerChains$Locker", "spareKey", "Z", false)
  | 5 => ("LockerChains$Locker", "opensOn", "I", false)
  | _ => ("LockerChains$Locker", "timesLent", "I", false)
def tyX4 : Nat → FieldType := fun k => match k with
  | 0 => .int
  | 1 => .int
  | 2 => .boolean
  | 3 => .int
  | 4 => .boolean
  | 5 => .int
  | _ => .int
theorem nmX4 : ∀ a, a < 7 → ∀ b, b < 7 → a ≠ b → (TX4 a).2.1 ≠ (TX4 b).2.1 := by decide +kernel
theorem tyX4_ok : ∀ k, k < 7 → parseFieldDescriptor (TX4 k).2.2.1 = some (tyX4 k) := by decide +kernel
abbrev cX4_init : ByteArray := prog_6_method_1_code
def yX4_init : MethodName := ⟨RX4, "<init>", "(I)V"⟩
abbrev cX4_isFree : ByteArray := prog_6_method_2_code
def yX4_isFree : MethodName := ⟨RX4, "isFree", "()Z"⟩
abbrev cX4_copyFrom : ByteArray := prog_6_method_3_code
def yX4_copyFrom : MethodName := ⟨RX4, "copyFrom", "(LLockerChains$Locker;)V"⟩
def RX5 : String := "LockerChains$Person"
def TX5 : u_T := fun k => match k with
  | 0 => ("LockerChains$Person", "number", "I", true)
  | 1 => ("LockerChains$Person", "locker", "I", false)
  | 2 => ("LockerChains$Person", "due", "I", false)
  | 3 => ("LockerChains$Person", "renewals", "I", false)
  | 4 => ("LockerChains$Person", "owed", "I", false)
  | 5 => ("LockerChains$Person", "paid", "I", false)
  | 6 => ("LockerChains$Person", "keysLost", "I", false)
  | _ => ("LockerChains$Person", "lockersOpened", "I", false)
def tyX5 : Nat → FieldType := fun k => match k with
  | 0 => .int
  | 1 => .int
  | 2 => .int
  | 3 => .int
  | 4 => .int
  | 5 => .int
  | 6 => .int
  | _ => .int
theorem nmX5 : ∀ a, a < 8 → ∀ b, b < 8 → a ≠ b → (TX5 a).2.1 ≠ (TX5 b).2.1 := by decide +kernel
theorem tyX5_ok : ∀ k, k < 8 → parseFieldDescriptor (TX5 k).2.2.1 = some (tyX5 k) := by decide +kernel
abbrev cX5_init : ByteArray := prog_7_method_1_code
def yX5_init : MethodName := ⟨RX5, "<init>", "(I)V"⟩
abbrev cX5_overdueOn : ByteArray := prog_7_method_2_code
def yX5_overdueOn : MethodName := ⟨RX5, "overdueOn", "(I)I"⟩
abbrev cX5_copyFrom : ByteArray := prog_7_method_3_code
def yX5_copyFrom : MethodName := ⟨RX5, "copyFrom", "(LLockerChains$Person;)V"⟩
def RX6 : String := "LockerChains$Rehearsal"
def TX6 : u_T := fun k => match k with
  | 0 => ("LockerChains$Rehearsal", "trial", "LLockerChains$Hall;", true)
  | 1 => ("LockerChains$Rehearsal", "place", "I", false)
  | 2 => ("LockerChains$Rehearsal", "reason", "I", false)
  | 3 => ("LockerChains$Rehearsal", "cause", "I", false)
  | _ => ("LockerChains$Rehearsal", "commands", "I", false)
def tyX6 : Nat → FieldType := fun k => match k with
  | 0 => .object "LockerChains$Hall"
  | 1 => .int
  | 2 => .int
  | 3 => .int
  | _ => .int
theorem nmX6 : ∀ a, a < 5 → ∀ b, b < 5 → a ≠ b → (TX6 a).2.1 ≠ (TX6 b).2.1 := by decide +kernel
theorem tyX6_ok : ∀ k, k < 5 → parseFieldDescriptor (TX6 k).2.2.1 = some (tyX6 k) := by decide +kernel
abbrev cX6_init : ByteArray := prog_8_method_1_code
def yX6_init : MethodName := ⟨RX6, "<init>", "()V"⟩
abbrev cX6_feeOf : ByteArray := prog_8_method_2_code
def yX6_feeOf : MethodName := ⟨RX6, "feeOf", "(LLockerChains$Hall;II)I"⟩
abbrev cX6_lockerBehindSwapping : ByteArray := prog_8_method_3_code
def yX6_lockerBehindSwapping : MethodName := ⟨RX6, "lockerBehindSwapping", "(LLockerChains$Hall;I)I"⟩
abbrev cX6_playText : ByteArray := prog_8_method_4_code
def yX6_playText : MethodName := ⟨RX6, "playText", "(LLockerChains$Hall;LLockerChains$Text;)V"⟩
abbrev cX6_failed : ByteArray := prog_8_method_5_code
def yX6_failed : MethodName := ⟨RX6, "failed", "()Z"⟩
abbrev cX6_noteFault : ByteArray := prog_8_method_6_code
def yX6_noteFault : MethodName := ⟨RX6, "noteFault", "(III)V"⟩
abbrev cX6_obey : ByteArray := prog_8_method_7_code
def yX6_obey : MethodName := ⟨RX6, "obey", "(LLockerChains$Verb;II)I"⟩
def RX7 : String := "LockerChains$Text"
def TX7 : u_T := fun k => match k with
  | 0 => ("LockerChains$Text", "signs", "[C", true)
  | 1 => ("LockerChains$Text", "length", "I", false)
  | 2 => ("LockerChains$Text", "verb", "LLockerChains$Verb;", false)
  | 3 => ("LockerChains$Text", "first", "I", false)
  | 4 => ("LockerChains$Text", "second", "I", false)
  | _ => ("LockerChains$Text", "end", "I", false)
def tyX7 : Nat → FieldType := fun k => match k with
  | 0 => .array .char
  | 1 => .int
  | 2 => .object "LockerChains$Verb"
  | 3 => .int
  | 4 => .int
  | _ => .int
theorem nmX7 : ∀ a, a < 6 → ∀ b, b < 6 → a ≠ b → (TX7 a).2.1 ≠ (TX7 b).2.1 := by decide +kernel
theorem tyX7_ok : ∀ k, k < 6 → parseFieldDescriptor (TX7 k).2.2.1 = some (tyX7 k) := by decide +kernel
abbrev cX7_init : ByteArray := prog_9_method_1_code
def yX7_init : MethodName := ⟨RX7, "<init>", "()V"⟩
abbrev cX7_append : ByteArray := prog_9_method_2_code
def yX7_append : MethodName := ⟨RX7, "append", "(I)I"⟩
abbrev cX7_clear : ByteArray := prog_9_method_3_code
def yX7_clear : MethodName := ⟨RX7, "clear", "()I"⟩
abbrev cX7_readCommand : ByteArray := prog_9_method_4_code
def yX7_readCommand : MethodName := ⟨RX7, "readCommand", "(I)Z"⟩
abbrev cX7_verbAt : ByteArray := prog_9_method_5_code
def yX7_verbAt : MethodName := ⟨RX7, "verbAt", "(I)LLockerChains$Verb;"⟩
abbrev cX7_hasWordAt : ByteArray := prog_9_method_6_code
def yX7_hasWordAt : MethodName := ⟨RX7, "hasWordAt", "(ILjava/lang/String;)Z"⟩
abbrev cX7_readNumber : ByteArray := prog_9_method_7_code
def yX7_readNumber : MethodName := ⟨RX7, "readNumber", "()I"⟩
abbrev cX7_signAt : ByteArray := prog_9_method_8_code
def yX7_signAt : MethodName := ⟨RX7, "signAt", "(I)C"⟩
def RX8 : String := "LockerChains$Verb"
def TX8 : u_T := fun k => match k with
  | _ => ("", "", "", false)
def tyX8 : Nat → FieldType := fun k => match k with
  | _ => .int
theorem nmX8 : ∀ a, a < 0 → ∀ b, b < 0 → a ≠ b → (TX8 a).2.1 ≠ (TX8 b).2.1 := by decide +kernel
theorem tyX8_ok : ∀ k, k < 0 → parseFieldDescriptor (TX8 k).2.2.1 = some (tyX8 k) := by decide +kernel
def RX9 : String := "LockerChains"
def TX9 : u_T := fun k => match k with
  | 0 => ("LockerChains", "hall", "LLockerChains$Hall;", true)
  | 1 => ("LockerChains", "history", "LLockerChains$History;", true)
  | 2 => ("LockerChains", "text", "LLockerChains$Text;", true)
  | _ => ("LockerChains", "rehearsal", "LLockerChains$Rehearsal;", true)
def tyX9 : Nat → FieldType := fun k => match k with
  | 0 => .object "LockerChains$Hall"
  | 1 => .object "LockerChains$History"
  | 2 => .object "LockerChains$Text"
  | _ => .object "LockerChains$Rehearsal"
theorem nmX9 : ∀ a, a < 4 → ∀ b, b < 4 → a ≠ b → (TX9 a).2.1 ≠ (TX9 b).2.1 := by decide +kernel
theorem tyX9_ok : ∀ k, k < 4 → parseFieldDescriptor (TX9 k).2.2.1 = some (tyX9 k) := by decide +kernel
abbrev cX9_init : ByteArray := prog_1_method_1_code
def yX9_init : MethodName := ⟨RX9, "<init>", "()V"⟩
abbrev cX9_locker : ByteArray := prog_1_method_2_code
def yX9_locker : MethodName := ⟨RX9, "locker", "(I)I"⟩
abbrev cX9_person : ByteArray := prog_1_method_3_code
def yX9_person : MethodName := ⟨RX9, "person", "()I"⟩
abbrev cX9_stand : ByteArray := prog_1_method_4_code
def yX9_stand : MethodName := ⟨RX9, "stand", "(II)I"⟩
abbrev cX9_lend : ByteArray := prog_1_method_5_code
def yX9_lend : MethodName := ⟨RX9, "lend", "(II)I"⟩
abbrev cX9_giveBack : ByteArray := prog_1_method_6_code
def yX9_giveBack : MethodName := ⟨RX9, "giveBack", "(I)I"⟩
abbrev cX9_renew : ByteArray := prog_1_method_7_code
def yX9_renew : MethodName := ⟨RX9, "renew", "(I)I"⟩
abbrev cX9_lose : ByteArray := prog_1_method_8_code
def yX9_lose : MethodName := ⟨RX9, "lose", "(I)I"⟩
abbrev cX9_wish : ByteArray := prog_1_method_9_code
def yX9_wish : MethodName := ⟨RX9, "wish", "(II)I"⟩
abbrev cX9_noWish : ByteArray := prog_1_method_10_code
def yX9_noWish : MethodName := ⟨RX9, "noWish", "(I)I"⟩
abbrev cX9_swap : ByteArray := prog_1_method_11_code
def yX9_swap : MethodName := ⟨RX9, "swap", "()I"⟩
abbrev cX9_pay : ByteArray := prog_1_method_12_code
def yX9_pay : MethodName := ⟨RX9, "pay", "(II)I"⟩
abbrev cX9_pass : ByteArray := prog_1_method_13_code
def yX9_pass : MethodName := ⟨RX9, "pass", "(I)I"⟩
abbrev cX9_set : ByteArray := prog_1_method_14_code
def yX9_set : MethodName := ⟨RX9, "set", "(II)I"⟩
abbrev cX9_personOf : ByteArray := prog_1_method_15_code
def yX9_personOf : MethodName := ⟨RX9, "personOf", "(II)I"⟩
abbrev cX9_lockerOf : ByteArray := prog_1_method_16_code
def yX9_lockerOf : MethodName := ⟨RX9, "lockerOf", "(II)I"⟩
abbrev cX9_waitingAt : ByteArray := prog_1_method_17_code
def yX9_waitingAt : MethodName := ⟨RX9, "waitingAt", "(II)I"⟩
abbrev cX9_count : ByteArray := prog_1_method_18_code
def yX9_count : MethodName := ⟨RX9, "count", "(I)I"⟩
abbrev cX9_feeIn : ByteArray := prog_1_method_19_code
def yX9_feeIn : MethodName := ⟨RX9, "feeIn", "(II)I"⟩
abbrev cX9_wouldHave : ByteArray := prog_1_method_20_code
def yX9_wouldHave : MethodName := ⟨RX9, "wouldHave", "(I)I"⟩
abbrev cX9_lentBits : ByteArray := prog_1_method_21_code
def yX9_lentBits : MethodName := ⟨RX9, "lentBits", "()J"⟩
abbrev cX9_overdueBits : ByteArray := prog_1_method_22_code
def yX9_overdueBits : MethodName := ⟨RX9, "overdueBits", "()I"⟩
abbrev cX9_undo : ByteArray := prog_1_method_23_code
def yX9_undo : MethodName := ⟨RX9, "undo", "()I"⟩
abbrev cX9_type : ByteArray := prog_1_method_24_code
def yX9_type : MethodName := ⟨RX9, "type", "(I)I"⟩
abbrev cX9_clearText : ByteArray := prog_1_method_25_code
def yX9_clearText : MethodName := ⟨RX9, "clearText", "()I"⟩
abbrev cX9_fault : ByteArray := prog_1_method_26_code
def yX9_fault : MethodName := ⟨RX9, "fault", "(I)I"⟩
abbrev cX9_play : ByteArray := prog_1_method_27_code
def yX9_play : MethodName := ⟨RX9, "play", "()I"⟩
abbrev cX9_bitsOfDouble : ByteArray := prog_1_method_28_code
def yX9_bitsOfDouble : MethodName := ⟨RX9, "bitsOfDouble", "(D)J"⟩
abbrev cX9_bitsOfFloat : ByteArray := prog_1_method_29_code
def yX9_bitsOfFloat : MethodName := ⟨RX9, "bitsOfFloat", "(F)I"⟩
def RX10 : String := "LockerChainsModel"
def TX10 : u_T := fun k => match k with
  | 0 => ("LockerChainsModel", "s", "[I", true)
  | 1 => ("LockerChainsModel", "begun", "[I", true)
  | 2 => ("LockerChainsModel", "aside", "[I", true)
  | 3 => ("LockerChainsModel", "past", "[I", true)
  | 4 => ("LockerChainsModel", "states", "I", false)
  | 5 => ("LockerChainsModel", "text", "[I", true)
  | 6 => ("LockerChainsModel", "length", "I", false)
  | 7 => ("LockerChainsModel", "at", "I", false)
  | 8 => ("LockerChainsModel", "isForm", "Z", false)
  | 9 => ("LockerChainsModel", "reason", "I", false)
  | 10 => ("LockerChainsModel", "cause", "I", false)
  | _ => ("LockerChainsModel", "numbers", "[I", true)
def tyX10 : Nat → FieldType := fun k => match k with
  | 0 => .array .int
  | 1 => .array .int
  | 2 => .array .int
  | 3 => .array .int
  | 4 => .int
  | 5 => .array .int
  | 6 => .int
  | 7 => .int
  | 8 => .boolean
  | 9 => .int
  | 10 => .int
  | _ => .array .int
theorem nmX10 : ∀ a, a < 12 → ∀ b, b < 12 → a ≠ b → (TX10 a).2.1 ≠ (TX10 b).2.1 := by decide +kernel
theorem tyX10_ok : ∀ k, k < 12 → parseFieldDescriptor (TX10 k).2.2.1 = some (tyX10 k) := by decide +kernel
abbrev cX10_init : ByteArray := prog_12_method_1_code
def yX10_init : MethodName := ⟨RX10, "<init>", "()V"⟩
abbrev cX10_in : ByteArray := prog_12_method_3_code
def yX10_in : MethodName := ⟨RX10, "in", "(III)Z"⟩
abbrev cX10_isLocker : ByteArray := prog_12_method_4_code
def yX10_isLocker : MethodName := ⟨RX10, "isLocker", "(I)Z"⟩
abbrev cX10_isPerson : ByteArray := prog_12_method_5_code
def yX10_isPerson : MethodName := ⟨RX10, "isPerson", "(I)Z"⟩
abbrev cX10_of : ByteArray := prog_12_method_6_code
def yX10_of : MethodName := ⟨RX10, "of", "(II)I"⟩
abbrev cX10_lay : ByteArray := prog_12_method_7_code
def yX10_lay : MethodName := ⟨RX10, "lay", "(III)V"⟩
abbrev cX10_ofP : ByteArray := prog_12_method_8_code
def yX10_ofP : MethodName := ⟨RX10, "ofP", "(II)I"⟩
abbrev cX10_layP : ByteArray := prog_12_method_9_code
def yX10_layP : MethodName := ⟨RX10, "layP", "(III)V"⟩
abbrev cX10_begins : ByteArray := prog_12_method_10_code
def yX10_begins : MethodName := ⟨RX10, "begins", "()V"⟩
abbrev cX10_acted : ByteArray := prog_12_method_11_code
def yX10_acted : MethodName := ⟨RX10, "acted", "(I)I"⟩
abbrev cX10_layAside : ByteArray := prog_12_method_12_code
def yX10_layAside : MethodName := ⟨RX10, "layAside", "()V"⟩
abbrev cX10_bringBack : ByteArray := prog_12_method_13_code
def yX10_bringBack : MethodName := ⟨RX10, "bringBack", "()V"⟩
abbrev cX10_isFree : ByteArray := prog_12_method_14_code
def yX10_isFree : MethodName := ⟨RX10, "isFree", "(I)Z"⟩
abbrev cX10_lowestFree : ByteArray := prog_12_method_15_code
def yX10_lowestFree : MethodName := ⟨RX10, "lowestFree", "(I)I"⟩
abbrev cX10_placeOf : ByteArray := prog_12_method_16_code
def yX10_placeOf : MethodName := ⟨RX10, "placeOf", "(I)I"⟩
abbrev cX10_waitsNoMore : ByteArray := prog_12_method_17_code
def yX10_waitsNoMore : MethodName := ⟨RX10, "waitsNoMore", "(I)V"⟩
abbrev cX10_waitsFor : ByteArray := prog_12_method_18_code
def yX10_waitsFor : MethodName := ⟨RX10, "waitsFor", "(II)V"⟩
abbrev cX10_firstWaiting : ByteArray := prog_12_method_19_code
def yX10_firstWaiting : MethodName := ⟨RX10, "firstWaiting", "(I)I"⟩
abbrev cX10_has : ByteArray := prog_12_method_20_code
def yX10_has : MethodName := ⟨RX10, "has", "(II)V"⟩
abbrev cX10_beginsLoan : ByteArray := prog_12_method_21_code
def yX10_beginsLoan : MethodName := ⟨RX10, "beginsLoan", "(II)V"⟩
abbrev cX10_frees : ByteArray := prog_12_method_22_code
def yX10_frees : MethodName := ⟨RX10, "frees", "(I)V"⟩
abbrev cX10_endsWish : ByteArray := prog_12_method_23_code
def yX10_endsWish : MethodName := ⟨RX10, "endsWish", "(I)V"⟩
abbrev cX10_endsLoan : ByteArray := prog_12_method_24_code
def yX10_endsLoan : MethodName := ⟨RX10, "endsLoan", "(I)I"⟩
abbrev cX10_owes : ByteArray := prog_12_method_25_code
def yX10_owes : MethodName := ⟨RX10, "owes", "(II)V"⟩
abbrev cX10_overdue : ByteArray := prog_12_method_26_code
def yX10_overdue : MethodName := ⟨RX10, "overdue", "(I)I"⟩
abbrev cX10_makesLocker : ByteArray := prog_12_method_27_code
def yX10_makesLocker : MethodName := ⟨RX10, "makesLocker", "(I)I"⟩
abbrev cX10_makesPerson : ByteArray := prog_12_method_28_code
def yX10_makesPerson : MethodName := ⟨RX10, "makesPerson", "()I"⟩
abbrev cX10_inRow : ByteArray := prog_12_method_29_code
def yX10_inRow : MethodName := ⟨RX10, "inRow", "(I)I"⟩
abbrev cX10_stands : ByteArray := prog_12_method_30_code
def yX10_stands : MethodName := ⟨RX10, "stands", "(II)I"⟩
abbrev cX10_lends : ByteArray := prog_12_method_31_code
def yX10_lends : MethodName := ⟨RX10, "lends", "(II)I"⟩
abbrev cX10_givesBack : ByteArray := prog_12_method_32_code
def yX10_givesBack : MethodName := ⟨RX10, "givesBack", "(I)I"⟩
abbrev cX10_renews : ByteArray := prog_12_method_33_code
def yX10_renews : MethodName := ⟨RX10, "renews", "(I)I"⟩
abbrev cX10_changesLock : ByteArray := prog_12_method_34_code
def yX10_changesLock : MethodName := ⟨RX10, "changesLock", "(I)V"⟩
abbrev cX10_loses : ByteArray := prog_12_method_35_code
def yX10_loses : MethodName := ⟨RX10, "loses", "(I)I"⟩
abbrev cX10_wishes : ByteArray := prog_12_method_36_code
def yX10_wishes : MethodName := ⟨RX10, "wishes", "(II)I"⟩
abbrev cX10_wishesNoMore : ByteArray := prog_12_method_37_code
def yX10_wishesNoMore : MethodName := ⟨RX10, "wishesNoMore", "(I)I"⟩
abbrev cX10_pays : ByteArray := prog_12_method_38_code
def yX10_pays : MethodName := ⟨RX10, "pays", "(II)I"⟩
abbrev cX10_moves : ByteArray := prog_12_method_39_code
def yX10_moves : MethodName := ⟨RX10, "moves", "(II)V"⟩
abbrev cX10_takesFree : ByteArray := prog_12_method_40_code
def yX10_takesFree : MethodName := ⟨RX10, "takesFree", "()Z"⟩
abbrev cX10_wants : ByteArray := prog_12_method_41_code
def yX10_wants : MethodName := ⟨RX10, "wants", "(II)Z"⟩
abbrev cX10_thirdOf : ByteArray := prog_12_method_42_code
def yX10_thirdOf : MethodName := ⟨RX10, "thirdOf", "(II)I"⟩
abbrev cX10_goesRound : ByteArray := prog_12_method_43_code
def yX10_goesRound : MethodName := ⟨RX10, "goesRound", "(III)I"⟩
abbrev cX10_takesRing : ByteArray := prog_12_method_44_code
def yX10_takesRing : MethodName := ⟨RX10, "takesRing", "()I"⟩
abbrev cX10_swaps : ByteArray := prog_12_method_45_code
def yX10_swaps : MethodName := ⟨RX10, "swaps", "()I"⟩
abbrev cX10_feeOf : ByteArray := prog_12_method_46_code
def yX10_feeOf : MethodName := ⟨RX10, "feeOf", "(II)I"⟩
abbrev cX10_dayPasses : ByteArray := prog_12_method_47_code
def yX10_dayPasses : MethodName := ⟨RX10, "dayPasses", "()I"⟩
abbrev cX10_passDays : ByteArray := prog_12_method_48_code
def yX10_passDays : MethodName := ⟨RX10, "passDays", "(I)I"⟩
abbrev cX10_passes : ByteArray := prog_12_method_49_code
def yX10_passes : MethodName := ⟨RX10, "passes", "(I)I"⟩
abbrev cX10_least : ByteArray := prog_12_method_50_code
def yX10_least : MethodName := ⟨RX10, "least", "(I)I"⟩
abbrev cX10_most : ByteArray := prog_12_method_51_code
def yX10_most : MethodName := ⟨RX10, "most", "(I)I"⟩
abbrev cX10_sets : ByteArray := prog_12_method_52_code
def yX10_sets : MethodName := ⟨RX10, "sets", "(II)I"⟩
abbrev cX10_locker : ByteArray := prog_12_method_53_code
def yX10_locker : MethodName := ⟨RX10, "locker", "(I)I"⟩
abbrev cX10_person : ByteArray := prog_12_method_54_code
def yX10_person : MethodName := ⟨RX10, "person", "()I"⟩
abbrev cX10_stand : ByteArray := prog_12_method_55_code
def yX10_stand : MethodName := ⟨RX10, "stand", "(II)I"⟩
abbrev cX10_lend : ByteArray := prog_12_method_56_code
def yX10_lend : MethodName := ⟨RX10, "lend", "(II)I"⟩
abbrev cX10_giveBack : ByteArray := prog_12_method_57_code
def yX10_giveBack : MethodName := ⟨RX10, "giveBack", "(I)I"⟩
abbrev cX10_renew : ByteArray := prog_12_method_58_code
def yX10_renew : MethodName := ⟨RX10, "renew", "(I)I"⟩
abbrev cX10_lose : ByteArray := prog_12_method_59_code
def yX10_lose : MethodName := ⟨RX10, "lose", "(I)I"⟩
abbrev cX10_wish : ByteArray := prog_12_method_60_code
def yX10_wish : MethodName := ⟨RX10, "wish", "(II)I"⟩
abbrev cX10_noWish : ByteArray := prog_12_method_61_code
def yX10_noWish : MethodName := ⟨RX10, "noWish", "(I)I"⟩
abbrev cX10_swap : ByteArray := prog_12_method_62_code
def yX10_swap : MethodName := ⟨RX10, "swap", "()I"⟩
abbrev cX10_pay : ByteArray := prog_12_method_63_code
def yX10_pay : MethodName := ⟨RX10, "pay", "(II)I"⟩
abbrev cX10_pass : ByteArray := prog_12_method_64_code
def yX10_pass : MethodName := ⟨RX10, "pass", "(I)I"⟩
abbrev cX10_set : ByteArray := prog_12_method_65_code
def yX10_set : MethodName := ⟨RX10, "set", "(II)I"⟩
abbrev cX10_orNone : ByteArray := prog_12_method_66_code
def yX10_orNone : MethodName := ⟨RX10, "orNone", "(I)I"⟩
abbrev cX10_personOf : ByteArray := prog_12_method_67_code
def yX10_personOf : MethodName := ⟨RX10, "personOf", "(II)I"⟩
abbrev cX10_lockerOf : ByteArray := prog_12_method_68_code
def yX10_lockerOf : MethodName := ⟨RX10, "lockerOf", "(II)I"⟩
abbrev cX10_waitingAt : ByteArray := prog_12_method_69_code
def yX10_waitingAt : MethodName := ⟨RX10, "waitingAt", "(II)I"⟩
abbrev cX10_lockersThat : ByteArray := prog_12_method_70_code
def yX10_lockersThat : MethodName := ⟨RX10, "lockersThat", "(I)I"⟩
abbrev cX10_debts : ByteArray := prog_12_method_71_code
def yX10_debts : MethodName := ⟨RX10, "debts", "()I"⟩
abbrev cX10_count : ByteArray := prog_12_method_72_code
def yX10_count : MethodName := ⟨RX10, "count", "(I)I"⟩
abbrev cX10_feeIn : ByteArray := prog_12_method_73_code
def yX10_feeIn : MethodName := ⟨RX10, "feeIn", "(II)I"⟩
abbrev cX10_wouldHave : ByteArray := prog_12_method_74_code
def yX10_wouldHave : MethodName := ⟨RX10, "wouldHave", "(I)I"⟩
abbrev cX10_lentBits : ByteArray := prog_12_method_75_code
def yX10_lentBits : MethodName := ⟨RX10, "lentBits", "()J"⟩
abbrev cX10_overdueBits : ByteArray := prog_12_method_76_code
def yX10_overdueBits : MethodName := ⟨RX10, "overdueBits", "()I"⟩
abbrev cX10_undo : ByteArray := prog_12_method_77_code
def yX10_undo : MethodName := ⟨RX10, "undo", "()I"⟩
abbrev cX10_type : ByteArray := prog_12_method_78_code
def yX10_type : MethodName := ⟨RX10, "type", "(I)I"⟩
abbrev cX10_clearText : ByteArray := prog_12_method_79_code
def yX10_clearText : MethodName := ⟨RX10, "clearText", "()I"⟩
abbrev cX10_here : ByteArray := prog_12_method_80_code
def yX10_here : MethodName := ⟨RX10, "here", "()I"⟩
abbrev cX10_must : ByteArray := prog_12_method_81_code
def yX10_must : MethodName := ⟨RX10, "must", "(I)V"⟩
abbrev cX10_readNumber : ByteArray := prog_12_method_82_code
def yX10_readNumber : MethodName := ⟨RX10, "readNumber", "()I"⟩
abbrev cX10_wordOf : ByteArray := prog_12_method_83_code
def yX10_wordOf : MethodName := ⟨RX10, "wordOf", "(I)J"⟩
abbrev cX10_readWord : ByteArray := prog_12_method_84_code
def yX10_readWord : MethodName := ⟨RX10, "readWord", "()I"⟩
abbrev cX10_command : ByteArray := prog_12_method_85_code
def yX10_command : MethodName := ⟨RX10, "command", "()I"⟩
abbrev cX10_does : ByteArray := prog_12_method_86_code
def yX10_does : MethodName := ⟨RX10, "does", "()I"⟩
abbrev cX10_fault : ByteArray := prog_12_method_87_code
def yX10_fault : MethodName := ⟨RX10, "fault", "(I)I"⟩
abbrev cX10_play : ByteArray := prog_12_method_88_code
def yX10_play : MethodName := ⟨RX10, "play", "()I"⟩
def RJxe99ae : String := "java/lang/Double"
def TJxe99ae : u_T := fun k => match k with
  | _ => ("", "", "", false)
def tyJxe99ae : Nat → FieldType := fun k => match k with
  | _ => .int
theorem nmJxe99ae : ∀ a, a < 0 → ∀ b, b < 0 → a ≠ b → (TJxe99ae a).2.1 ≠ (TJxe99ae b).2.1 := by decide +kernel
theorem tyJxe99ae_ok : ∀ k, k < 0 → parseFieldDescriptor (TJxe99ae k).2.2.1 = some (tyJxe99ae k) := by decide +kernel
abbrev cJxe99ae_isNaN_b9ae7 : ByteArray := prog_13_method_6_code
def yJxe99ae_isNaN_b9ae7 : MethodName := ⟨RJxe99ae, "isNaN", "(D)Z"⟩
abbrev cJxe99ae_doubleToLongBits_ccdee : ByteArray := prog_13_method_23_code
def yJxe99ae_doubleToLongBits_ccdee : MethodName := ⟨RJxe99ae, "doubleToLongBits", "(D)J"⟩
def RJx29ce0 : String := "java/lang/Enum"
def TJx29ce0 : u_T := fun k => match k with
  | _ => ("", "", "", false)
def tyJx29ce0 : Nat → FieldType := fun k => match k with
  | _ => .int
theorem nmJx29ce0 : ∀ a, a < 0 → ∀ b, b < 0 → a ≠ b → (TJx29ce0 a).2.1 ≠ (TJx29ce0 b).2.1 := by decide +kernel
theorem tyJx29ce0_ok : ∀ k, k < 0 → parseFieldDescriptor (TJx29ce0 k).2.2.1 = some (tyJx29ce0 k) := by decide +kernel
abbrev cJx29ce0_ordinal_8abf5 : ByteArray := prog_14_method_2_code
def yJx29ce0_ordinal_8abf5 : MethodName := ⟨RJx29ce0, "ordinal", "()I"⟩
def RJxf58ca : String := "java/lang/Float"
def TJxf58ca : u_T := fun k => match k with
  | _ => ("", "", "", false)
def tyJxf58ca : Nat → FieldType := fun k => match k with
  | _ => .int
theorem nmJxf58ca : ∀ a, a < 0 → ∀ b, b < 0 → a ≠ b → (TJxf58ca a).2.1 ≠ (TJxf58ca b).2.1 := by decide +kernel
theorem tyJxf58ca_ok : ∀ k, k < 0 → parseFieldDescriptor (TJxf58ca k).2.2.1 = some (tyJxf58ca k) := by decide +kernel
abbrev cJxf58ca_isNaN_12338 : ByteArray := prog_15_method_6_code
def yJxf58ca_isNaN_12338 : MethodName := ⟨RJxf58ca, "isNaN", "(F)Z"⟩
abbrev cJxf58ca_floatToIntBits_5c35a : ByteArray := prog_15_method_24_code
def yJxf58ca_floatToIntBits_5c35a : MethodName := ⟨RJxf58ca, "floatToIntBits", "(F)I"⟩
def RJ9 : String := "java/lang/Math"
def TJ9 : u_T := fun k => match k with
  | _ => ("", "", "", false)
def tyJ9 : Nat → FieldType := fun k => match k with
  | _ => .int
theorem nmJ9 : ∀ a, a < 0 → ∀ b, b < 0 → a ≠ b → (TJ9 a).2.1 ≠ (TJ9 b).2.1 := by decide +kernel
theorem tyJ9_ok : ∀ k, k < 0 → parseFieldDescriptor (TJ9 k).2.2.1 = some (tyJ9 k) := by decide +kernel
abbrev cJ9_floorMod_7cf53 : ByteArray := prog_16_method_50_code
def yJ9_floorMod_7cf53 : MethodName := ⟨RJ9, "floorMod", "(II)I"⟩
def RJ0 : String := "java/lang/String"
def TJ0 : u_T := fun k => match k with
  | _ => ("", "", "", false)
def tyJ0 : Nat → FieldType := fun k => match k with
  | _ => .int
theorem nmJ0 : ∀ a, a < 0 → ∀ b, b < 0 → a ≠ b → (TJ0 a).2.1 ≠ (TJ0 b).2.1 := by decide +kernel
theorem tyJ0_ok : ∀ k, k < 0 → parseFieldDescriptor (TJ0 k).2.2.1 = some (tyJ0 k) := by decide +kernel
abbrev cJ0_length_8abf5 : ByteArray := prog_17_method_54_code
def yJ0_length_8abf5 : MethodName := ⟨RJ0, "length", "()I"⟩
abbrev cJ0_charAt_5068e : ByteArray := prog_17_method_56_code
def yJ0_charAt_5068e : MethodName := ⟨RJ0, "charAt", "(I)C"⟩
abbrev cJ0_coder_7d493 : ByteArray := prog_17_method_152_code
def yJ0_coder_7d493 : MethodName := ⟨RJ0, "coder", "()B"⟩
abbrev cJ0_isLatin1_aae02 : ByteArray := prog_17_method_154_code
def yJ0_isLatin1_aae02 : MethodName := ⟨RJ0, "isLatin1", "()Z"⟩
abbrev cJ0_checkIndex_df160 : ByteArray := prog_17_method_155_code
def yJ0_checkIndex_df160 : MethodName := ⟨RJ0, "checkIndex", "(II)V"⟩
def RJ1 : String := "java/lang/StringLatin1"
def TJ1 : u_T := fun k => match k with
  | _ => ("", "", "", false)
def tyJ1 : Nat → FieldType := fun k => match k with
  | _ => .int
theorem nmJ1 : ∀ a, a < 0 → ∀ b, b < 0 → a ≠ b → (TJ1 a).2.1 ≠ (TJ1 b).2.1 := by decide +kernel
theorem tyJ1_ok : ∀ k, k < 0 → parseFieldDescriptor (TJ1 k).2.2.1 = some (tyJ1 k) := by decide +kernel
abbrev cJ1_charAt_3b067 : ByteArray := prog_18_method_2_code
def yJ1_charAt_3b067 : MethodName := ⟨RJ1, "charAt", "([BI)C"⟩
def RJ2 : String := "java/lang/StringUTF16"
def TJ2 : u_T := fun k => match k with
  | _ => ("", "", "", false)
def tyJ2 : Nat → FieldType := fun k => match k with
  | _ => .int
theorem nmJ2 : ∀ a, a < 0 → ∀ b, b < 0 → a ≠ b → (TJ2 a).2.1 ≠ (TJ2 b).2.1 := by decide +kernel
theorem tyJ2_ok : ∀ k, k < 0 → parseFieldDescriptor (TJ2 k).2.2.1 = some (tyJ2 k) := by decide +kernel
abbrev cJ2_getChar_3b067 : ByteArray := prog_19_method_5_code
def yJ2_getChar_3b067 : MethodName := ⟨RJ2, "getChar", "([BI)C"⟩
abbrev cJ2_length_9d52b : ByteArray := prog_19_method_6_code
def yJ2_length_9d52b : MethodName := ⟨RJ2, "length", "([B)I"⟩
abbrev cJ2_charAt_3b067 : ByteArray := prog_19_method_83_code
def yJ2_charAt_3b067 : MethodName := ⟨RJ2, "charAt", "([BI)C"⟩
abbrev cJ2_checkIndex_2214a : ByteArray := prog_19_method_91_code
def yJ2_checkIndex_2214a : MethodName := ⟨RJ2, "checkIndex", "(I[B)V"⟩
def RJ3 : String := "jdk/internal/util/Preconditions"
def TJ3 : u_T := fun k => match k with
  | _ => ("", "", "", false)
def tyJ3 : Nat → FieldType := fun k => match k with
  | _ => .int
theorem nmJ3 : ∀ a, a < 0 → ∀ b, b < 0 → a ≠ b → (TJ3 a).2.1 ≠ (TJ3 b).2.1 := by decide +kernel
theorem tyJ3_ok : ∀ k, k < 0 → parseFieldDescriptor (TJ3 k).2.2.1 = some (tyJ3 k) := by decide +kernel
abbrev cJ3_checkIndex_8e157 : ByteArray := prog_20_method_11_code
def yJ3_checkIndex_8e157 : MethodName := ⟨RJ3, "checkIndex", "(IILjava/util/function/BiFunction;)I"⟩
def RL : String := "LockerChainsLaw"
abbrev cL_law : ByteArray := code
def yL_law : MethodName := ⟨RL, "law", "([I)Z"⟩
abbrev vwCl : List vw_C := [(RX1, TX1, 10), (RX2, TX2, 3), (RX3, TX3, 3), (RX4, TX4, 7), (RX5, TX5, 8), (RX6, TX6, 5), (RX7, TX7, 6), (RX9, TX9, 4), (RX10, TX10, 12)]
end
section
/-! the world of the class and of its check: cells told by kind, group and place; their numbers as a table -/
abbrev zV2 : Type := Nat → Nat → Int32
abbrev zV3 : Type := Nat → Nat → Nat → Int32
abbrev zG : Type := va_G × (Nat → Nat → Nat → Nat) × (Nat → ClassId) × (Nat → Nat) × List (String × String × String × Value) × List (String × Nat) × List (String × String × String × Value × Nat) × List (FieldType × Nat × Nat × (Nat → Value))
def gD (G : zG) : va_G := G.1
def gA (G : zG) : Nat → Nat → Nat → Nat := G.2.1
def gC (G : zG) : Nat → ClassId := G.2.2.1
def gE (G : zG) : Nat → Nat := G.2.2.2.1
def gZ (G : zG) : List (String × String × String × Value) := G.2.2.2.2.1
def gO (G : zG) : List (String × Nat) := G.2.2.2.2.2.1
def gF (G : zG) : List (String × String × String × Value × Nat) := G.2.2.2.2.2.2.1
def gT (G : zG) : List (FieldType × Nat × Nat × (Nat → Value)) := G.2.2.2.2.2.2.2
def up2 (h : zV2) (c i : Nat) (x : Int32) : zV2 := fun c' i' => if c' = c ∧ i' = i then x else h c' i'
def upG (V : zV3) (g : Nat) (h : zV2) : zV3 := fun g' => if g' = g then h else V g'
theorem upG_self (V : zV3) (g : Nat) (h : zV2) : upG V g h g = h := by simp [upG]
theorem upG_ne (V : zV3) {g g' : Nat} (h : zV2) (hne : g' ≠ g) : upG V g h g' = V g' := by simp [upG, hne]
theorem upG_upG (V : zV3) (g : Nat) (h h' : zV2) : upG (upG V g h) g h' = upG V g h' := by funext g'; by_cases e : g' = g <;> simp [upG, e]
theorem upG_id (V : zV3) (g : Nat) : upG V g (V g) = V := by funext g'; by_cases e : g' = g <;> simp [upG, e]
theorem up2_self (h : zV2) (c i : Nat) (x : Int32) : up2 h c i x c i = x := by simp [up2]
theorem up2_col (h : zV2) {c c' : Nat} (i : Nat) (x : Int32) (hc : c' ≠ c) : up2 h c i x c' = h c' := by funext j; simp [up2, hc]
theorem up2_c (h : zV2) {c c' : Nat} (i j : Nat) (x : Int32) (hc : c' ≠ c) : up2 h c i x c' j = h c' j := by simp [up2, hc]
theorem up2_i (h : zV2) (c c' : Nat) {i j : Nat} (x : Int32) (hi : j ≠ i) : up2 h c i x c' j = h c' j := by simp [up2, hi]
theorem up2_upd (h : zV2) (c i : Nat) (x : Int32) : up2 h c i x c = upd (h c) i x := by funext j; simp [up2, upd]
def zq (f : Nat → Option Nat) : (Nat → Int32) ⊕ (Nat → Int64) ⊕ (Nat → UInt32) ⊕ (Nat → UInt64) ⊕ (Nat → Option Nat) := .inr (.inr (.inr (.inr f)))
def zverb (G : zG) (x : Int32) : Value := if x = 0 then .null else .ref (gE G (x.toNatClampNeg - 1))
def zlen (i : Nat) : Nat := match i with
  | 0 => 193
  | 1 => 193
  | 2 => 193
  | 3 => 772
  | 4 => 80
  | _ => 2
def zcell (G : zG) (V : zV3) (k g i : Nat) : va_E := match k with
  | 0 => .inr (0, [.ref (gA G 1 g 0), .ref (gA G 2 g 0), .ref (gA G 3 g 0), .ref (gA G 3 g 1), .ref (gA G 4 g 0), .ref (gA G 5 g 0), .int (V g 13 0), .int (V g 14 0), .int (V g 15 0), .int (V g 16 0)])
  | 1 => .inl (gC G 2, 12, zq (fun j => some (gA G 8 g j)))
  | 2 => .inl (gC G 3, 10, zq (fun j => some (gA G 9 g j)))
  | 3 => .inr (2, [.ref (gA G 6 g i), .ref (gA G 7 g i), .int (V g (23 + i) 0)])
  | 4 => .inl (gC G 0, 3, .inl (V g 17))
  | 5 => .inl (gC G 0, 3, .inl (V g 18))
  | 6 => .inl (gC G 0, 10, .inl (V g (19 + i)))
  | 7 => .inl (gC G 0, 10, .inl (V g (21 + i)))
  | 8 => .inr (3, [.int (nI i), .int (V g 0 i), .int (V g 1 i), .int (V g 2 i), .int (V g 3 i), .int (V g 4 i), .int (V g 5 i)])
  | 9 => .inr (4, [.int (nI i), .int (V g 6 i), .int (V g 7 i), .int (V g 8 i), .int (V g 9 i), .int (V g 10 i), .int (V g 11 i), .int (V g 12 i)])
  | 10 => .inr (7, [.ref (gA G 0 0 0), .ref (gA G 11 0 0), .ref (gA G 13 0 0), .ref (gA G 15 0 0)])
  | 11 => .inr (1, [.ref (gA G 12 0 0), .int (V 7 0 0), .int (V 7 1 0)])
  | 12 => .inl (gC G 4, 5, zq (fun j => some (gA G 0 (j + 1) 0)))
  | 13 => .inr (6, [.ref (gA G 14 0 0), .int (V 7 3 0), zverb G (V 7 4 0), .int (V 7 5 0), .int (V 7 6 0), .int (V 7 7 0)])
  | 14 => .inl (gC G 1, 80, .inl (V 7 2))
  | 15 => .inr (5, [.ref (gA G 0 6 0), .int (V 7 8 0), .int (V 7 9 0), .int (V 7 10 0), .int (V 7 11 0)])
  | 16 => .inr (8, [.ref (gA G 17 0 0), .ref (gA G 17 0 1), .ref (gA G 17 0 2), .ref (gA G 17 0 3), .int (V 8 6 0), .ref (gA G 17 0 4), .int (V 8 7 0), .int (V 8 8 0), .int (V 8 9 0), .int (V 8 10 0), .int (V 8 11 0), .ref (gA G 17 0 5)])
  | _ => .inl (gC G 0, zlen i, .inl (V 8 i))
def zdom (k g i : Nat) : Prop := match k with
  | 0 => g < 7 ∧ i = 0
  | 1 => g < 7 ∧ i = 0
  | 2 => g < 7 ∧ i = 0
  | 3 => g < 7 ∧ i < 2
  | 4 => g < 7 ∧ i = 0
  | 5 => g < 7 ∧ i = 0
  | 6 => g < 7 ∧ i < 2
  | 7 => g < 7 ∧ i < 2
  | 8 => g < 7 ∧ i < 12
  | 9 => g < 7 ∧ i < 10
  | 17 => g = 0 ∧ i < 6
  | k => k < 17 ∧ g = 0 ∧ i = 0
abbrev ztys (G : zG) : List (ClassId × FieldType) := [(gC G 0, .int), (gC G 1, .char), (gC G 2, .object "LockerChains$Locker"), (gC G 3, .object "LockerChains$Person"), (gC G 4, .object "LockerChains$Hall")]
/-- the cells are as the numbers say -/
def zM (G : zG) (V : zV3) (H : Heap) : Prop := ∀ k g i, zdom k g i → va_at (gD G) vwCl (gA G k g i, zcell G V k g i) H
/-- their addresses are apart, and of a kind -/
def zI (G : zG) (A : Nat → Prop) : Prop := (∀ k g i, zdom k g i → A (gA G k g i)) ∧ ∀ k g i k' g' i', zdom k g i → zdom k' g' i' → gA G k g i = gA G k' g' i' → k = k' ∧ g = g' ∧ i = i'

def zNF : List (String × Nat × String × String × String × String) := [("LockerChains", 108, "LockerChains$History", "states", "I", "LockerChains"), ("LockerChains", 111, "LockerChains$Text", "length", "I", "LockerChains"), ("LockerChains", 160, "LockerChains$Rehearsal", "reason", "I", "LockerChains"), ("LockerChains", 163, "LockerChains$Rehearsal", "place", "I", "LockerChains"), ("LockerChains", 166, "LockerChains$Rehearsal", "cause", "I", "LockerChains"), ("LockerChains", 169, "LockerChains$Rehearsal", "trial", "LLockerChains$Hall;", "LockerChains"), ("LockerChains", 175, "LockerChains$Rehearsal", "commands", "I", "LockerChains"), ("LockerChains", 92, "LockerChains$Hall", "waiting", "LLockerChains$Line;", "LockerChains"), ("LockerChains", 96, "LockerChains$Line", "length", "I", "LockerChains"), ("LockerChains$Hall", 105, "LockerChains$Line", "length", "I", "LockerChains"), ("LockerChains$Hall", 112, "LockerChains$Locker", "number", "I", "LockerChains"), ("LockerChains$Hall", 127, "LockerChains$Person", "renewals", "I", "LockerChains"), ("LockerChains$Hall", 130, "LockerChains$Person", "due", "I", "LockerChains"), ("LockerChains$Hall", 133, "LockerChains$Person", "keysLost", "I", "LockerChains"), ("LockerChains$Hall", 136, "LockerChains$Locker", "spareKey", "Z", "LockerChains"), ("LockerChains$Hall", 142, "LockerChains$Locker", "opensOn", "I", "LockerChains"), ("LockerChains$Hall", 145, "LockerChains$Person", "number", "I", "LockerChains"), ("LockerChains$Hall", 167, "LockerChains$Locker", "holder", "I", "LockerChains"), ("LockerChains$Hall", 178, "LockerChains$Person", "paid", "I", "LockerChains"), ("LockerChains$Hall", 190, "LockerChains$Person", "lockersOpened", "I", "LockerChains"), ("LockerChains$Hall", 203, "LockerChains$Locker", "timesLent", "I", "LockerChains"), ("LockerChains$Hall", 71, "LockerChains$Person", "locker", "I", "LockerChains"), ("LockerChains$Hall", 78, "LockerChains$Locker", "size", "I", "LockerChains"), ("LockerChains$Hall", 81, "LockerChains$Locker", "standing", "Z", "LockerChains"), ("LockerChains$Hall", 95, "LockerChains$Person", "owed", "I", "LockerChains"), ("LockerChains$Rehearsal", 30, "LockerChains$Person", "owed", "I", "LockerChains"), ("LockerChains$Rehearsal", 49, "LockerChains$Text", "length", "I", "LockerChains"), ("LockerChains$Rehearsal", 62, "LockerChains$Text", "verb", "LLockerChains$Verb;", "LockerChains"), ("LockerChains$Rehearsal", 66, "LockerChains$Text", "first", "I", "LockerChains"), ("LockerChains$Rehearsal", 69, "LockerChains$Text", "second", "I", "LockerChains"), ("LockerChains$Rehearsal", 76, "LockerChains$Text", "end", "I", "LockerChains"), ("LockerChains$Text", 27, "LockerChains$Verb", "word", "Ljava/lang/String;", "LockerChains"), ("LockerChains$Text", 41, "LockerChains$Verb", "numbers", "I", "LockerChains")]
def zNM : List (String × Nat × MethodName × String) := [("LockerChains", 25, ⟨"LockerChains$Text", "<init>", "()V"⟩, "LockerChains"), ("LockerChains", 32, ⟨"LockerChains$Rehearsal", "<init>", "()V"⟩, "LockerChains"), ("LockerChains$Hall", 25, ⟨"LockerChains$Line", "<init>", "()V"⟩, "LockerChains"), ("LockerChains$Rehearsal", 18, ⟨"LockerChains$Hall", "personAt", "(I)LLockerChains$Person;"⟩, "LockerChains")]
/-- links to private members of nest mates -/
def zN (U : State) : Prop := (∀ q ∈ zNF, va_Nw (.fieldLinkNest q.1 q.2.1 q.2.2.1 q.2.2.2.1 q.2.2.2.2.1 q.2.2.2.2.2) U) ∧ ∀ q ∈ zNM, va_Nw (.methodLinkNest q.1 q.2.1 q.2.2.1 q.2.2.2) U
/-- what nobody writes: statics, constant objects, their fields, constant arrays -/
def zE (G : zG) (A : Nat → Prop) (U : State) (H : Heap) : Prop := (∀ q ∈ gZ G, va_Z q.1 q.2.1 q.2.2.1 q.2.2.2 A U H) ∧ (∀ q ∈ gO G, va_O q.1 q.2 A U H) ∧ (∀ q ∈ gF G, va_OF q.1 q.2.1 q.2.2.1 q.2.2.2.1 q.2.2.2.2 A U H) ∧ ∀ q ∈ gT G, va_T q.1 q.2.1 q.2.2.1 q.2.2.2 A U H
def zK (G : zG) (A : Nat → Prop) (U : State) : Prop := va_K (gD G) vwCl (ztys G) U ∧ zI G A ∧ zN U ∧ zE G A U U.heap
theorem zE.moved {G : zG} {A : Nat → Prop} {u U : State} {H H1 : Heap} (hvm : u.vm.Alike U.vm) (hq : ∀ a : Nat, a < H.size → ¬ A a → H1[a]? = H[a]?) (h : zE G A u H) : zE G A U H1 :=
  ⟨fun q m => (va_Z.moved hvm (h.1 q m)).kept hq, fun q m => (va_O.moved hvm (h.2.1 q m)).kept hq, fun q m => (va_OF.moved hvm (h.2.2.1 q m)).kept hq, fun q m => (va_T.moved hvm (h.2.2.2 q m)).kept hq⟩
theorem zK.warm {G : zG} {A : Nat → Prop} {s U : State} {H : Heap} {locs : List Loc} (h : zK G A s) (hS : va_S A s.heap H locs) (hU : U.heap = H) (hW : s.WarmedH U.vm) : zK G A U := by
  obtain ⟨h1, h2, h3, h4⟩ := h
  exact ⟨va_K.moved hW.alike h1, h2, ⟨fun q m => va_Nw.warmF hW (h3.1 q m), fun q m => va_Nw.warmM hW (h3.2 q m)⟩, zE.moved hW.alike (fun a ha hn => by rw [hU]; exact hS.2.1 a ha hn) h4⟩
theorem zK.blind {G : zG} {A : Nat → Prop} {U : State} {g : JFrame} {mk : MethodId} {a : Array Value} (h : zK G A U) : zK G A (U.calling g mk a) := by
  obtain ⟨h1, h2, h3, h4⟩ := h
  exact ⟨va_K.moved (u := U) (U := U.calling g mk a) (Vm.Alike.refl U.vm) h1, h2, ⟨fun q m => va_Nw.same rfl (rfl : U.vm = (U.calling g mk a).vm) (h3.1 q m), fun q m => va_Nw.same rfl (rfl : U.vm = (U.calling g mk a).vm) (h3.2 q m)⟩, zE.moved (u := U) (U := U.calling g mk a) (Vm.Alike.refl U.vm) (fun _ _ _ => rfl) h4⟩
theorem zM.one {G : zG} {V : zV3} {H : Heap} (hM : zM G V H) {k g i : Nat} (hd : zdom k g i) {e : va_E} (he : zcell G V k g i = e) : va_P (gD G) vwCl [(gA G k g i, e)] H := by
  intro n q hq
  match n, hq with
  | 0, hq => cases hq; rw [← he]; exact hM k g i hd
  | n + 1, hq => simp at hq
theorem zM.set {G : zG} {V V' : zV3} {A : Nat → Prop} {H H1 : Heap} (hM : zM G V H) (hI : zI G A) {k g i : Nat} (hd : zdom k g i) {e : va_E} (h1 : va_at (gD G) vwCl (gA G k g i, e) H1) (oq : ∀ q : Nat, q ≠ gA G k g i → H1[q]? = H[q]?)
    (hnew : ∀ k' g' i', zdom k' g' i' → zcell G V' k' g' i' = if k' = k ∧ g' = g ∧ i' = i then e else zcell G V k' g' i') : zM G V' H1 := by
  intro k' g' i' hd'
  rw [hnew k' g' i' hd']
  by_cases hq : k' = k ∧ g' = g ∧ i' = i
  · rw [if_pos hq]
    obtain ⟨rfl, rfl, rfl⟩ := hq
    exact h1
  · rw [if_neg hq]
    exact (hM k' g' i' hd').kept (oq _ (fun h => hq (hI.2 _ _ _ _ _ _ hd' hd h)))
theorem zM.recv {G : zG} {V : zV3} {A : Nat → Prop} {s : State} {H : Heap} (hM : zM G V H) (hK : zK G A s) {k g i ci : Nat} (hd : zdom k g i) {fs : List Value} (he : zcell G V k g i = .inr (ci, fs)) {q : vw_C} (hc : vwCl[ci]? = some q) : ∃ cell : Cell, H[gA G k g i]? = some cell ∧ cell.vm.isStatics = false ∧ s.vm.findClass q.1 = some cell.cls :=
  va_recv (ws := [(gA G k g i, .inr (ci, fs))]) hK.1 (hM.one hd he) hc (q0 := 0) rfl
section ZR
variable {p : Program} {l : Launch} {e : Env} {R : Room} {s : State} {m : MethodId} {args : Array Value} {below : List Frame} {meth : Method} {c : Code} {H : Heap} {locs : List Loc} {cells slots : Nat} {Q : State → Prop}
variable {cc : ByteArray} {pc : Nat} {ls : Array Slot} {rest : List Value} {G : zG} {V V' : zV3} {A : Nat → Prop} {k g i : Nat}
theorem z_get (hx : p.tables.exec = Jvm.exec) (hb : c.code = cc) {own ref C : String} {T : u_T} {N ci index : Nat} {Ts : List Cond} (hts : ∀ w ∈ Ts, w.before args s = true) (hin : ∀ w ∈ u_ws C T N, w ∈ Ts) (hown : s.vm.findClass own = some m.cls) (hK : zK G A s) (hM : zM G V H) (hd : zdom k g i) {fs : List Value} (he : zcell G V k g i = .inr (ci, fs)) (hc : vwCl[ci]? = some (C, T, N)) (j : Nat) (hj : j < N)
    (hlink : (Cond.fieldLink own index ref (T j).2.1 (T j).2.2.1).before args s = true) (hsame : (T j).1 = ref) {v : Value} (hv : fs[j]? = some v) (hdg : decode cc pc = .ok (.getfield index, 3))
    (kk : W p l e R s m args below meth c H locs cells slots Q (F0 m (pc + 3) ls (v :: rest))) : W p l e R s m args below meth c H locs cells slots Q (F0 m pc ls (.ref (gA G k g i) :: rest)) :=
  va_get hx hb hts hin hown hK.1 (hM.one hd he) 0 rfl hc j hj hlink (fun _ h9 => by rw [← hsame]; exact h9) hv hdg kk
theorem z_getN (hx : p.tables.exec = Jvm.exec) (hb : c.code = cc) {own ref C host : String} {T : u_T} {N ci index : Nat} {Ts : List Cond} (hts : ∀ w ∈ Ts, w.before args s = true) (hin : ∀ w ∈ u_ws C T N, w ∈ Ts) (hown : s.vm.findClass own = some m.cls) (hK : zK G A s) (hM : zM G V H) (hd : zdom k g i) {fs : List Value} (he : zcell G V k g i = .inr (ci, fs)) (hc : vwCl[ci]? = some (C, T, N)) (j : Nat) (hj : j < N)
    (q : Nat) (hlink : zNF[q]? = some (own, index, ref, (T j).2.1, (T j).2.2.1, host)) (hsame : (T j).1 = ref) {v : Value} (hv : fs[j]? = some v) (hdg : decode cc pc = .ok (.getfield index, 3))
    (kk : W p l e R s m args below meth c H locs cells slots Q (F0 m (pc + 3) ls (v :: rest))) : W p l e R s m args below meth c H locs cells slots Q (F0 m pc ls (.ref (gA G k g i) :: rest)) :=
  va_getN hx hb hts hin hown hK.1 (hM.one hd he) 0 rfl hc j hj (va_Nw.use rfl (hK.2.2.1.1 _ (List.mem_of_getElem? hlink))) (fun _ h9 => by rw [← hsame]; exact h9) hv hdg kk
theorem z_put (hx : p.tables.exec = Jvm.exec) (hb : c.code = cc) {own ref C : String} {T : u_T} {N ci index : Nat} {Ts : List Cond} (hts : ∀ w ∈ Ts, w.before args s = true) (hin : ∀ w ∈ u_ws C T N, w ∈ Ts) (ty0 : Nat → FieldType) (hty : ∀ k, k < N → parseFieldDescriptor (T k).2.2.1 = some (ty0 k)) (hnm : ∀ a, a < N → ∀ b, b < N → a ≠ b → (T a).2.1 ≠ (T b).2.1) (hown : s.vm.findClass own = some m.cls) (hK : zK G A s) (hM : zM G V H) (hS0 : va_S A s.heap H locs) (hd : zdom k g i) {fs : List Value} (he : zcell G V k g i = .inr (ci, fs)) (hc : vwCl[ci]? = some (C, T, N)) (j : Nat) (hj : j < N)
    (hlink : (Cond.fieldLink own index ref (T j).2.1 (T j).2.2.1).before args s = true) (hsame : (T j).1 = ref) (hfin : (T j).2.2.2 = false) {v : Value} (hn : narrow (ty0 j) v = v) (hfit : fits (ty0 j) v = true) (hl : j < fs.length)
    (hnew : ∀ k' g' i', zdom k' g' i' → zcell G V' k' g' i' = if k' = k ∧ g' = g ∧ i' = i then .inr (ci, fs.set j v) else zcell G V k' g' i')
    (hdg : decode cc pc = .ok (.putfield index, 3)) (kk : ∀ (H1 : Heap) (locs1 : List Loc), zM G V' H1 → va_S A s.heap H1 locs1 → W p l e R s m args below meth c H1 locs1 cells slots Q (F0 m (pc + 3) ls rest)) : W p l e R s m args below meth c H locs cells slots Q (F0 m pc ls (v :: .ref (gA G k g i) :: rest)) := by
  have hap := va_apart (own := own) hts hin ty0 hty hnm hK.1 hc
  obtain ⟨r, h1, cell, q1, q2, q3, q4⟩ := hM.one hd he 0 _ rfl
  have hr : r = (C, T, N) := Option.some.inj (h1.symm.trans hc)
  subst hr
  obtain ⟨hS, hfc, kC, hkC, hkind⟩ := hK.1.1 ci _ hc
  obtain ⟨cf, kf, fi, f, hi, hsl⟩ := hS j hj
  have hlay := hts _ (hin _ (u_in_lay hj))
  unfold u_lay at hlay
  rw [if_neg (by rw [hfin]; decide)] at hlay
  have hst := (u_facts hfc hkC (u_lays hts hin hj) hi).1
  have h6 := u_store hfc hkC hkind hlay hi (hty j hj) hn hfit
  refine W.putK hx hb (f := f) ⟨hown, hlink, ⟨_, _, _, (by rw [← hsame]; exact hi)⟩, hst⟩ (by rw [q2]; exact h6) q1 q3 (by rw [hsl]; exact k2_hasslot (q4 j hj)) rfl rfl hdg fun H' e1 e2 e3 => ?_
  rw [hsl] at e1 ⊢
  exact kk H' _ (hM.set (e := .inr (ci, fs.set j v)) hK.2.1 hd ⟨_, hc, t_OB.to (V := updV (vp_V fs) j v) ⟨_, e1, q2, q3, t_set q4 hap hj v⟩ (fun n _ => vp_updV_set hl v n)⟩ e3 hnew) (hS0.put e2 e3 (hK.2.1.1 _ _ _ hd))
theorem z_putN (hx : p.tables.exec = Jvm.exec) (hb : c.code = cc) {own ref C host : String} {T : u_T} {N ci index : Nat} {Ts : List Cond} (hts : ∀ w ∈ Ts, w.before args s = true) (hin : ∀ w ∈ u_ws C T N, w ∈ Ts) (ty0 : Nat → FieldType) (hty : ∀ k, k < N → parseFieldDescriptor (T k).2.2.1 = some (ty0 k)) (hnm : ∀ a, a < N → ∀ b, b < N → a ≠ b → (T a).2.1 ≠ (T b).2.1) (hown : s.vm.findClass own = some m.cls) (hK : zK G A s) (hM : zM G V H) (hS0 : va_S A s.heap H locs) (hd : zdom k g i) {fs : List Value} (he : zcell G V k g i = .inr (ci, fs)) (hc : vwCl[ci]? = some (C, T, N)) (j : Nat) (hj : j < N)
    (q : Nat) (hlink : zNF[q]? = some (own, index, ref, (T j).2.1, (T j).2.2.1, host)) (hsame : (T j).1 = ref) (hfin : (T j).2.2.2 = false) {v : Value} (hn : narrow (ty0 j) v = v) (hfit : fits (ty0 j) v = true) (hl : j < fs.length)
    (hnew : ∀ k' g' i', zdom k' g' i' → zcell G V' k' g' i' = if k' = k ∧ g' = g ∧ i' = i then .inr (ci, fs.set j v) else zcell G V k' g' i')
    (hdg : decode cc pc = .ok (.putfield index, 3)) (kk : ∀ (H1 : Heap) (locs1 : List Loc), zM G V' H1 → va_S A s.heap H1 locs1 → W p l e R s m args below meth c H1 locs1 cells slots Q (F0 m (pc + 3) ls rest)) : W p l e R s m args below meth c H locs cells slots Q (F0 m pc ls (v :: .ref (gA G k g i) :: rest)) := by
  have hap := va_apart (own := own) hts hin ty0 hty hnm hK.1 hc
  obtain ⟨r, h1, cell, q1, q2, q3, q4⟩ := hM.one hd he 0 _ rfl
  have hr : r = (C, T, N) := Option.some.inj (h1.symm.trans hc)
  subst hr
  obtain ⟨hS, hfc, kC, hkC, hkind⟩ := hK.1.1 ci _ hc
  obtain ⟨cf, kf, fi, f, hi, hsl⟩ := hS j hj
  have hlay := hts _ (hin _ (u_in_lay hj))
  unfold u_lay at hlay
  rw [if_neg (by rw [hfin]; decide)] at hlay
  have hst := (u_facts hfc hkC (u_lays hts hin hj) hi).1
  have h6 := u_store hfc hkC hkind hlay hi (hty j hj) hn hfit
  refine va_WputK hx hb (f := f) hown (va_Nw.use rfl (hK.2.2.1.1 _ (List.mem_of_getElem? hlink))) (by rw [← hsame]; exact hi) hst (by rw [q2]; exact h6) q1 q3 (by rw [hsl]; exact k2_hasslot (q4 j hj)) rfl rfl hdg fun H' e1 e2 e3 => ?_
  rw [hsl] at e1 ⊢
  exact kk H' _ (hM.set (e := .inr (ci, fs.set j v)) hK.2.1 hd ⟨_, hc, t_OB.to (V := updV (vp_V fs) j v) ⟨_, e1, q2, q3, t_set q4 hap hj v⟩ (fun n _ => vp_updV_set hl v n)⟩ e3 hnew) (hS0.put e2 e3 (hK.2.1.1 _ _ _ hd))
theorem z_iald (hx : p.tables.exec = Jvm.exec) (hb : c.code = cc) (hK : zK G A s) (hM : zM G V H) (hd : zdom k g i) {n : Nat} {f : Nat → Int32} (he : zcell G V k g i = .inl (gC G 0, n, .inl f)) {j : Int32} (hin : vp_in j n) (hdg : decode cc pc = .ok (.iaload, 1))
    (kk : W p l e R s m args below meth c H locs cells slots Q (F0 m (pc + 1) ls (.int (f j.toNatClampNeg) :: rest))) : W p l e R s m args below meth c H locs cells slots Q (F0 m pc ls (.int j :: .ref (gA G k g i) :: rest)) :=
  va_iald hx hb hK.1 (hM.one hd he) 0 0 rfl rfl hin hdg kk
theorem z_cald (hx : p.tables.exec = Jvm.exec) (hb : c.code = cc) (hK : zK G A s) (hM : zM G V H) (hd : zdom k g i) {n : Nat} {f : Nat → Int32} (he : zcell G V k g i = .inl (gC G 1, n, .inl f)) {j : Int32} (hin : vp_in j n) (hdg : decode cc pc = .ok (.caload, 1))
    (kk : W p l e R s m args below meth c H locs cells slots Q (F0 m (pc + 1) ls (.int (f j.toNatClampNeg) :: rest))) : W p l e R s m args below meth c H locs cells slots Q (F0 m pc ls (.int j :: .ref (gA G k g i) :: rest)) :=
  va_cald hx hb hK.1 (hM.one hd he) 0 1 rfl rfl hin hdg kk
theorem z_aald (hx : p.tables.exec = Jvm.exec) (hb : c.code = cc) (hK : zK G A s) (hM : zM G V H) (hd : zdom k g i) (t0 : Nat) {cA : ClassId} {C : String} {n : Nat} {f : Nat → Nat} (he : zcell G V k g i = .inl (cA, n, zq (fun j => some (f j)))) (ht : (ztys G)[t0]? = some (cA, .object C)) {j : Int32} (hin : vp_in j n) (hdg : decode cc pc = .ok (.aaload, 1))
    (kk : W p l e R s m args below meth c H locs cells slots Q (F0 m (pc + 1) ls (.ref (f j.toNatClampNeg) :: rest))) : W p l e R s m args below meth c H locs cells slots Q (F0 m pc ls (.int j :: .ref (gA G k g i) :: rest)) :=
  va_aldq hx hb hK.1 (hM.one hd he) 0 t0 rfl ht hin hdg kk
theorem z_iast (hx : p.tables.exec = Jvm.exec) (hb : c.code = cc) (hK : zK G A s) (hM : zM G V H) (hS0 : va_S A s.heap H locs) (hd : zdom k g i) {n : Nat} {f : Nat → Int32} (he : zcell G V k g i = .inl (gC G 0, n, .inl f)) {j x : Int32} (hin : vp_in j n)
    (hnew : ∀ k' g' i', zdom k' g' i' → zcell G V' k' g' i' = if k' = k ∧ g' = g ∧ i' = i then .inl (gC G 0, n, .inl (upd f j.toNatClampNeg x)) else zcell G V k' g' i') (hdg : decode cc pc = .ok (.iastore, 1))
    (kk : ∀ (H1 : Heap) (locs1 : List Loc), zM G V' H1 → va_S A s.heap H1 locs1 → W p l e R s m args below meth c H1 locs1 cells slots Q (F0 m (pc + 1) ls rest)) : W p l e R s m args below meth c H locs cells slots Q (F0 m pc ls (.int x :: .int j :: .ref (gA G k g i) :: rest)) := by
  refine W.iast hx hb (hM.one hd he 0 _ rfl) ((hK.1.2 0 _ rfl).1 n (fun j => .int (f j))) (fun q => by cases q) (by show ¬ (j < 0 ∨ (arrV _ _ _).slots.size ≤ _); rw [arrV_size]; exact hin) rfl rfl hdg fun H1 e z oq => ?_
  refine kk H1 _ (hM.set hK.2.1 hd ?_ oq hnew) (hS0.put z oq (hK.2.1.1 _ _ _ hd))
  show H1[gA G k g i]? = some (vp_cell _ _)
  rw [e]
  rw [vp_cell_i, vp_cell_i, arrV_store]
  congr 2
  funext q
  by_cases hq : q = j.toNatClampNeg
  · subst hq
    simp [updV, upd]
  · simp [updV, upd, hq]
theorem z_cast (hx : p.tables.exec = Jvm.exec) (hb : c.code = cc) (hK : zK G A s) (hM : zM G V H) (hS0 : va_S A s.heap H locs) (hd : zdom k g i) {n : Nat} {f : Nat → Int32} (he : zcell G V k g i = .inl (gC G 1, n, .inl f)) {j x : Int32} (hin : vp_in j n)
    (hnew : ∀ k' g' i', zdom k' g' i' → zcell G V' k' g' i' = if k' = k ∧ g' = g ∧ i' = i then .inl (gC G 1, n, .inl (upd f j.toNatClampNeg (vp_nar .char x))) else zcell G V k' g' i') (hdg : decode cc pc = .ok (.castore, 1))
    (kk : ∀ (H1 : Heap) (locs1 : List Loc), zM G V' H1 → va_S A s.heap H1 locs1 → W p l e R s m args below meth c H1 locs1 cells slots Q (F0 m (pc + 1) ls rest)) : W p l e R s m args below meth c H locs cells slots Q (F0 m pc ls (.int x :: .int j :: .ref (gA G k g i) :: rest)) := by
  refine W.cast hx hb (hM.one hd he 0 _ rfl) ((hK.1.2 1 _ rfl).1 n (fun j => .int (f j))) (fun q => by cases q) (by show ¬ (j < 0 ∨ (arrV _ _ _).slots.size ≤ _); rw [arrV_size]; exact hin) rfl rfl hdg fun H1 e z oq => ?_
  refine kk H1 _ (hM.set hK.2.1 hd ?_ oq hnew) (hS0.put z oq (hK.2.1.1 _ _ _ hd))
  show H1[gA G k g i]? = some (vp_cell _ _)
  rw [e]
  rw [vp_cell_i, vp_cell_i, arrV_store]
  congr 2
  funext q
  by_cases hq : q = j.toNatClampNeg
  · subst hq
    simp [updV, upd, vp_nar]
    try rfl
  · simp [updV, upd, hq]
end ZR
end
section
/-! the words at hand: those of the tables that travel; shallow programs: what a walk follows -/
def zWL : List Cond := lw_tbl.filter goodWord
theorem zw_in {w : Cond} (h : w ∈ lw_tbl) (hg : goodWord w = true) : w ∈ zWL := List.mem_filter.mpr ⟨h, hg⟩
theorem zw_tbl {w : Cond} (h : w ∈ zWL) : w ∈ lw_tbl := (List.mem_filter.mp h).1
theorem zw_good : GoodIn zWL zWL := fun w h => ⟨h, good_of_word (List.mem_filter.mp h).2⟩
theorem zw_gi {ws : List Cond} (h : ∀ w ∈ ws, w ∈ zWL) : GoodIn zWL ws := fun w m => zw_good w (h w m)
theorem zw_1 {w : Cond} (h : w ∈ tables_1_1) : w ∈ lw_tbl := List.mem_append_right _ (List.mem_append_left _ h)
theorem zw_2 {w : Cond} (h : w ∈ tables_1_2) : w ∈ lw_tbl := List.mem_append_right _ (List.mem_append_right _ (List.mem_append_left _ h))
theorem zw_3 {w : Cond} (h : w ∈ tables_1_3) : w ∈ lw_tbl := List.mem_append_right _ (List.mem_append_right _ (List.mem_append_right _ (List.mem_append_left _ h)))
theorem zw_4 {w : Cond} (h : w ∈ tables_1_4) : w ∈ lw_tbl := List.mem_append_right _ (List.mem_append_right _ (List.mem_append_right _ (List.mem_append_right _ (List.mem_append_left _ h))))
theorem zw_5 {w : Cond} (h : w ∈ tables_1_5) : w ∈ lw_tbl := List.mem_append_right _ (List.mem_append_right _ (List.mem_append_right _ (List.mem_append_right _ (List.mem_append_right _ h))))
theorem zw_p {y : MethodName} {n : Nat} (h : (y, n) ∈ lw_privs) : Cond.selects y.cls y y ∈ lw_tbl := List.mem_append_left _ (List.mem_map.mpr ⟨_, h, rfl⟩)
theorem zw_gv {own C : String} {idx maxL : Nat} {y : MethodName} {b : ByteArray} {ret : Option FieldType} (h1 : Cond.methodLink own idx y ∈ zWL) (h2 : Cond.instanceMethod y ∈ zWL) (h3 : Cond.selects C y y ∈ zWL) (h4 : Cond.initialized C ∈ zWL) (h5 : Cond.code y b maxL ret ∈ zWL) : GoodIn zWL (wsV own idx C y (.code y b maxL ret :: zWL)) := by
  refine zw_gi fun w h => ?_
  simp only [wsV, List.cons_append, List.nil_append, List.mem_cons] at h
  rcases h with rfl | rfl | rfl | rfl | rfl | h <;> assumption
theorem zw_gs {own : String} {idx maxL : Nat} {y : MethodName} {b : ByteArray} {ret : Option FieldType} (h1 : Cond.methodLink own idx y ∈ zWL) (h2 : Cond.static y ∈ zWL) (h4 : Cond.initialized y.cls ∈ zWL) (h5 : Cond.code y b maxL ret ∈ zWL) : GoodIn zWL (va_wsS own idx y (.code y b maxL ret :: zWL)) := by
  refine zw_gi fun w h => ?_
  simp only [va_wsS, List.cons_append, List.nil_append, List.mem_cons] at h
  rcases h with rfl | rfl | rfl | rfl | h <;> assumption
theorem zw_gc {maxL : Nat} {y : MethodName} {b : ByteArray} {ret : Option FieldType} (h5 : Cond.code y b maxL ret ∈ zWL) : GoodIn zWL (.code y b maxL ret :: zWL) := by
  refine zw_gi fun w h => ?_
  rcases List.mem_cons.mp h with rfl | h <;> assumption
def bnd {α σ β : Type} (x : Option (α × σ)) (k : α → σ → Option β) : Option β := match x with
  | none => none
  | some q => k q.1 q.2
theorem bnd_some {α σ β : Type} {x : Option (α × σ)} {k : α → σ → Option β} {o : β} (h : bnd x k = some o) : ∃ (a : α) (s : σ), x = some (a, s) ∧ k a s = some o := by
  cases x with
  | none => cases h
  | some q => exact ⟨q.1, q.2, rfl, h⟩
theorem bnd_eq {α σ β : Type} {x : Option (α × σ)} {k : α → σ → Option β} {a : α} {s : σ} (h : x = some (a, s)) : bnd x k = k a s := by rw [h]; rfl
def grd {β : Type} (b : Bool) (k : Option β) : Option β := if b = true then k else none
theorem grd_some {β : Type} {b : Bool} {k : Option β} {o : β} (h : grd b k = some o) : b = true ∧ k = some o := by
  cases b with
  | false => cases h
  | true => exact ⟨rfl, h⟩
theorem grd_eq {β : Type} {b : Bool} {k : Option β} (h : b = true) : grd b k = k := if_pos h
def put2 {β : Type} (h : zV2) (c i : Nat) (x : Int32) (k : zV2 → β) : β := k (up2 h c i x)
theorem put2_some {β : Type} {h h1 : zV2} {c i : Nat} {x : Int32} {k : zV2 → Option β} {o : β} (hf : put2 h c i x k = some o) (e : h1 = up2 h c i x) : k h1 = some o := by subst e; exact hf
def put3 {β : Type} (V : zV3) (g c i : Nat) (x : Int32) (k : zV3 → β) : β := k (upG V g (up2 (V g) c i x))
theorem put3_some {β : Type} {V V1 : zV3} {g c i : Nat} {x : Int32} {k : zV3 → Option β} {o : β} (hf : put3 V g c i x k = some o) (e : V1 = upG V g (up2 (V g) c i x)) : k V1 = some o := by subst e; exact hf
def ltI {α β : Type} (x : α) (k : α → β) : β := k x
theorem ltI_some {α β : Type} {x y : α} {k : α → Option β} {o : β} (hf : ltI x k = some o) (e : y = x) : k y = some o := by subst e; exact hf
def optm {β : Type} (o : Option Nat) (a : β) (f : Nat → β) : β := match o with
  | none => a
  | some i => f i
theorem optm_none {β : Type} {a : β} {f : Nat → β} {o : β} (h : optm none a f = o) : a = o := h
theorem optm_s {β : Type} {a : β} {f : Nat → β} {o : β} {i : Nat} (h : optm (some i) a f = o) : f i = o := h
theorem ift {β : Type} {c : Prop} {d : Decidable c} {x y : β} {o : β} (h : @ite β c d x y = o) (hc : c) : x = o := by rw [if_pos hc] at h; exact h
theorem iff_ {β : Type} {c : Prop} {d : Decidable c} {x y : β} {o : β} (h : @ite β c d x y = o) (hc : ¬ c) : y = o := by rw [if_neg hc] at h; exact h
def inb (i : Int32) (n : Nat) : Bool := decide (0 ≤ i) && decide (i.toNatClampNeg < n)
theorem inb_in {i : Int32} {n : Nat} (h : inb i n = true) : vp_in i n := by
  simp only [inb, Bool.and_eq_true, decide_eq_true_eq] at h
  intro q
  rcases q with q | q
  · exact absurd h.1 (Int32.not_le.mpr q)
  · omega
theorem inb_lt {i : Int32} {n : Nat} (h : inb i n = true) : i.toNatClampNeg < n := by
  simp only [inb, Bool.and_eq_true, decide_eq_true_eq] at h
  exact h.2
def isb (x : Int32) : Bool := decide (x = 0) || decide (x = 1)
theorem isb_z {x : Int32} (h : isb x = true) : narrow .boolean (.int x) = .int x := by
  simp only [isb, Bool.or_eq_true, decide_eq_true_eq] at h
  rcases h with rfl | rfl <;> rfl
theorem isb_f {x : Int32} (h : isb x = true) : fits .boolean (.int x) = true := by
  simp only [isb, Bool.or_eq_true, decide_eq_true_eq] at h
  rcases h with rfl | rfl <;> rfl
/-- a contract: from the numbers V the answer is rv, and the numbers are V' -/
def zCt (l : Launch) (G : zG) (A : Nat → Prop) (y : MethodName) (b : ByteArray) (n : Nat) (ret : Option FieldType) (rm : Room) (av : List Value) (V : zV3) (rv : Option Value) (V' : zV3) : Prop :=
  Met l y (.code y b n ret :: zWL) rm (va_Pc av (fun U => zK G A U ∧ zM G V U.heap)) (fun _ st oc t => oc = .returned rv ∧ zM G V' t.heap ∧ va_F A st t) 0 0 A
theorem z_CtI {l : Launch} {G : zG} {A : Nat → Prop} {y : MethodName} {cc : ByteArray} {n : Nat} {rm : Room} {av : List Value} {V V' : zV3} {r : Int32} (hy : plainName y.cls = true) (hn : (lg_sl av).length ≤ n)
    (body : ∀ (p : Program) (e : Env) (s : State) (m : MethodId) (args : Array Value) (below : List Frame) (meth : Method) (c : Code) (Q : State → Prop), p.tables.exec = Jvm.exec → c.code = cc → c.maxLocals = n → s.vm.findClass y.cls = some m.cls → (∀ w ∈ zWL, w.before args s = true) → zK G A s → zM G V s.heap → va_S A s.heap s.heap [] →
      (∀ (H : Heap) (locs : List Loc) (pc : Nat) (ls : Array Slot), zM G V' H → va_S A s.heap H locs → decode cc pc = .ok (.ireturn, 1) → W p l e rm s m args below meth c H locs 0 0 Q (F0 m pc ls (some (.int r)).toList)) →
      ∀ ls : Array Slot, lv_has ls n (lv_args 0 av) → W p l e rm s m args below meth c s.heap [] 0 0 Q (F0 m 0 ls [])) : zCt l G A y cc n (some .int) rm av V (some (.int r)) V' := by
  refine Met.ofW (cc := cc) (maxL := n) (ret := (some .int)) hy rfl ?_
  intro p e s m args below meth c s₁ B hml hv
  obtain ⟨rfl, hK, hM⟩ := hv
  have hts := atoms_spec (ws := Cond.code y cc n ((some .int)) :: zWL) B.pre
  have hlocks := B.notSynchronized
  have hl := lv_entry av (n := n) hn
  rw [lg_entry_eq]
  exact body p e s m _ below meth c _ B.exec B.bytes hml (findClass_of_methodNamed B.named) (fun w h => hts w (List.mem_cons_of_mem _ h)) hK hM va_S.rf (fun H locs pc ls hM hS hd => W.iret (v := r) B.exec B.bytes B.returns (fun t ht hW => ⟨rfl, by rw [ht]; exact hM, hS.F ht⟩) hS.2.2 hd) _ hl
theorem z_CtZ {l : Launch} {G : zG} {A : Nat → Prop} {y : MethodName} {cc : ByteArray} {n : Nat} {rm : Room} {av : List Value} {V V' : zV3} {r : Int32} {ty : FieldType} (hy : plainName y.cls = true) (hn : (lg_sl av).length ≤ n) (hnr : narrow ty (.int r) = .int r)
    (body : ∀ (p : Program) (e : Env) (s : State) (m : MethodId) (args : Array Value) (below : List Frame) (meth : Method) (c : Code) (Q : State → Prop), p.tables.exec = Jvm.exec → c.code = cc → c.maxLocals = n → s.vm.findClass y.cls = some m.cls → (∀ w ∈ zWL, w.before args s = true) → zK G A s → zM G V s.heap → va_S A s.heap s.heap [] →
      (∀ (H : Heap) (locs : List Loc) (pc : Nat) (ls : Array Slot), zM G V' H → va_S A s.heap H locs → decode cc pc = .ok (.ireturn, 1) → W p l e rm s m args below meth c H locs 0 0 Q (F0 m pc ls (some (.int r)).toList)) →
      ∀ ls : Array Slot, lv_has ls n (lv_args 0 av) → W p l e rm s m args below meth c s.heap [] 0 0 Q (F0 m 0 ls [])) : zCt l G A y cc n (some ty) rm av V (some (.int r)) V' := by
  refine Met.ofW (cc := cc) (maxL := n) (ret := (some ty)) hy rfl ?_
  intro p e s m args below meth c s₁ B hml hv
  obtain ⟨rfl, hK, hM⟩ := hv
  have hts := atoms_spec (ws := Cond.code y cc n ((some ty)) :: zWL) B.pre
  have hlocks := B.notSynchronized
  have hl := lv_entry av (n := n) hn
  rw [lg_entry_eq]
  exact body p e s m _ below meth c _ B.exec B.bytes hml (findClass_of_methodNamed B.named) (fun w h => hts w (List.mem_cons_of_mem _ h)) hK hM va_S.rf (fun H locs pc ls hM hS hd => W.zret (v := r) B.exec B.bytes B.returns hnr (fun t ht hW => ⟨rfl, by rw [ht]; exact hM, hS.F ht⟩) hS.2.2 hd) _ hl
theorem z_CtV {l : Launch} {G : zG} {A : Nat → Prop} {y : MethodName} {cc : ByteArray} {n : Nat} {rm : Room} {av : List Value} {V V' : zV3}  (hy : plainName y.cls = true) (hn : (lg_sl av).length ≤ n)
    (body : ∀ (p : Program) (e : Env) (s : State) (m : MethodId) (args : Array Value) (below : List Frame) (meth : Method) (c : Code) (Q : State → Prop), p.tables.exec = Jvm.exec → c.code = cc → c.maxLocals = n → s.vm.findClass y.cls = some m.cls → (∀ w ∈ zWL, w.before args s = true) → zK G A s → zM G V s.heap → va_S A s.heap s.heap [] →
      (∀ (H : Heap) (locs : List Loc) (pc : Nat) (ls : Array Slot), zM G V' H → va_S A s.heap H locs → decode cc pc = .ok (.return_, 1) → W p l e rm s m args below meth c H locs 0 0 Q (F0 m pc ls (none : Option Value).toList)) →
      ∀ ls : Array Slot, lv_has ls n (lv_args 0 av) → W p l e rm s m args below meth c s.heap [] 0 0 Q (F0 m 0 ls [])) : zCt l G A y cc n none rm av V (none : Option Value) V' := by
  refine Met.ofW (cc := cc) (maxL := n) (ret := none) hy rfl ?_
  intro p e s m args below meth c s₁ B hml hv
  obtain ⟨rfl, hK, hM⟩ := hv
  have hts := atoms_spec (ws := Cond.code y cc n (none) :: zWL) B.pre
  have hlocks := B.notSynchronized
  have hl := lv_entry av (n := n) hn
  rw [lg_entry_eq]
  exact body p e s m _ below meth c _ B.exec B.bytes hml (findClass_of_methodNamed B.named) (fun w h => hts w (List.mem_cons_of_mem _ h)) hK hM va_S.rf (fun H locs pc ls hM hS hd => W.vret B.exec B.bytes B.returns (fun t ht hW => ⟨rfl, by rw [ht]; exact hM, hS.F ht⟩) hS.2.2 hd) _ hl
theorem z_CtL {l : Launch} {G : zG} {A : Nat → Prop} {y : MethodName} {cc : ByteArray} {n : Nat} {rm : Room} {av : List Value} {V V' : zV3} {r : Int64} (hy : plainName y.cls = true) (hn : (lg_sl av).length ≤ n)
    (body : ∀ (p : Program) (e : Env) (s : State) (m : MethodId) (args : Array Value) (below : List Frame) (meth : Method) (c : Code) (Q : State → Prop), p.tables.exec = Jvm.exec → c.code = cc → c.maxLocals = n → s.vm.findClass y.cls = some m.cls → (∀ w ∈ zWL, w.before args s = true) → zK G A s → zM G V s.heap → va_S A s.heap s.heap [] →
      (∀ (H : Heap) (locs : List Loc) (pc : Nat) (ls : Array Slot), zM G V' H → va_S A s.heap H locs → decode cc pc = .ok (.lreturn, 1) → W p l e rm s m args below meth c H locs 0 0 Q (F0 m pc ls (some (.long r)).toList)) →
      ∀ ls : Array Slot, lv_has ls n (lv_args 0 av) → W p l e rm s m args below meth c s.heap [] 0 0 Q (F0 m 0 ls [])) : zCt l G A y cc n (some .long) rm av V (some (.long r)) V' := by
  refine Met.ofW (cc := cc) (maxL := n) (ret := (some .long)) hy rfl ?_
  intro p e s m args below meth c s₁ B hml hv
  obtain ⟨rfl, hK, hM⟩ := hv
  have hts := atoms_spec (ws := Cond.code y cc n ((some .long)) :: zWL) B.pre
  have hlocks := B.notSynchronized
  have hl := lv_entry av (n := n) hn
  rw [lg_entry_eq]
  exact body p e s m _ below meth c _ B.exec B.bytes hml (findClass_of_methodNamed B.named) (fun w h => hts w (List.mem_cons_of_mem _ h)) hK hM va_S.rf (fun H locs pc ls hM hS hd => W.lret (v := r) B.exec B.bytes B.returns (fun t ht hW => ⟨rfl, by rw [ht]; exact hM, hS.F ht⟩) hS.2.2 hd) _ hl
theorem z_CtQ {l : Launch} {G : zG} {A : Nat → Prop} {y : MethodName} {cc : ByteArray} {n : Nat} {rm : Room} {av : List Value} {V V' : zV3} {r : Option Nat} {C : String} (hy : plainName y.cls = true) (hn : (lg_sl av).length ≤ n)
    (body : ∀ (p : Program) (e : Env) (s : State) (m : MethodId) (args : Array Value) (below : List Frame) (meth : Method) (c : Code) (Q : State → Prop), p.tables.exec = Jvm.exec → c.code = cc → c.maxLocals = n → s.vm.findClass y.cls = some m.cls → (∀ w ∈ zWL, w.before args s = true) → zK G A s → zM G V s.heap → va_S A s.heap s.heap [] →
      (∀ (H : Heap) (locs : List Loc) (pc : Nat) (ls : Array Slot), zM G V' H → va_S A s.heap H locs → decode cc pc = .ok (.areturn, 1) → W p l e rm s m args below meth c H locs 0 0 Q (F0 m pc ls (some (va_rf r)).toList)) →
      ∀ ls : Array Slot, lv_has ls n (lv_args 0 av) → W p l e rm s m args below meth c s.heap [] 0 0 Q (F0 m 0 ls [])) : zCt l G A y cc n (some (.object C)) rm av V (some (va_rf r)) V' := by
  refine Met.ofW (cc := cc) (maxL := n) (ret := (some (.object C))) hy rfl ?_
  intro p e s m args below meth c s₁ B hml hv
  obtain ⟨rfl, hK, hM⟩ := hv
  have hts := atoms_spec (ws := Cond.code y cc n ((some (.object C))) :: zWL) B.pre
  have hlocks := B.notSynchronized
  have hl := lv_entry av (n := n) hn
  rw [lg_entry_eq]
  exact body p e s m _ below meth c _ B.exec B.bytes hml (findClass_of_methodNamed B.named) (fun w h => hts w (List.mem_cons_of_mem _ h)) hK hM va_S.rf (fun H locs pc ls hM hS hd => W.aret (v := va_rf r) B.exec B.bytes B.returns (Or.inl ⟨_, rfl⟩) (va_rf_or r) (fun t ht hW => ⟨rfl, by rw [ht]; exact hM, hS.F ht⟩) hS.2.2 hd) _ hl
section ZCALL
variable {p : Program} {l : Launch} {e : Env} {R : Room} {s : State} {m : MethodId} {args : Array Value} {below : List Frame} {meth : Method} {c : Code} {H : Heap} {locs : List Loc} {cells slots : Nat} {Q : State → Prop}
variable {cc : ByteArray} {pc : Nat} {ls : Array Slot} {rest st0 : List Value} {G : zG} {V V' : zV3} {A : Nat → Prop}
theorem z_run {rv : Option Value} (hr : va_Run p l e R s m args below meth c H locs cells slots 0 0 (F0 m pc ls st0) rest (fun st oc t => oc = .returned rv ∧ zM G V' t.heap ∧ va_F A st t) A) (hS : va_S A s.heap H locs)
    (kk : ∀ (H1 : Heap) (locs1 : List Loc), zM G V' H1 → va_S A s.heap H1 locs1 → W p l e R s m args below meth c H1 locs1 cells slots Q (F0 m (pc + 3) ls (rv.toList ++ rest))) : W p l e R s m args below meth c H locs cells slots Q (F0 m pc ls st0) := by
  intro T hT X
  obtain ⟨v, st₀, t, T', L, h0, X', hL, e1, e2, ⟨hv, hM, hz, hk⟩, st⟩ := hr T hT X
  cases hv
  rw [h0] at hz hk
  obtain ⟨t2, a1, b1⟩ := kk T'.heap (locs ++ L) (by rw [e1]; exact hM)
    ⟨Nat.le_trans hS.1 (by rw [e1]; exact hz), fun q h1 h2 => by rw [e1, hk q (Nat.lt_of_lt_of_le h1 hS.1) h2]; exact hS.2.1 q h1 h2, fun q hq => by
      rcases List.mem_append.mp hq with h | h
      · exact hS.2.2 q h
      · exact hL q h⟩ T' rfl X'
  exact ⟨t2, st t2 a1, b1⟩
theorem z_callV {y : MethodName} {bytes : ByteArray} {maxL n index nL : Nat} {ret : Option FieldType} {rm : Room} {own C : String} {b : Addr} {As : List Value} {rv : Option Value} (hx : p.tables.exec = Jvm.exec) (hb : c.code = cc) (hml : c.maxLocals = nL) (hown : s.vm.findClass own = some m.cls) (hL : ∀ w ∈ zWL, w.before args s = true) (hK : zK G A s) (hM : zM G V H) (hS : va_S A s.heap H locs)
    (hc : zCt l G A y bytes maxL ret rm (.ref b :: As) V rv V') (hG : GoodIn zWL (wsV own index C y (.code y bytes maxL ret :: zWL))) (hd : y.cls = C ∧ y.cls ≠ "java/lang/invoke/MethodHandle" ∧ y.cls ≠ "java/lang/invoke/VarHandle" ∧ (parseMethodDescriptor y.desc).map (fun d => d.parameters.length) = some n) (hrm : rm.cells = 0 ∧ rm.slots = 0) (hR : rm.frames + 1 ≤ R.frames ∧ 8 + (maxL + 11) + rm.locals ≤ R.locals)
    (hrc : ∃ cell : Cell, H[b]? = some cell ∧ cell.vm.isStatics = false ∧ s.vm.findClass C = some cell.cls) (hn : As.length = n) (hls : ls.size = nL) (hst : st0 = As.reverse ++ .ref b :: rest) (hW : (rest.map fun v => v.category).sum ≤ 8) (hdg : decode cc pc = .ok (.invokevirtual index, 3)) (hf : cells ≤ R.cells ∧ slots ≤ R.slots)
    (kk : ∀ (H1 : Heap) (locs1 : List Loc), zM G V' H1 → va_S A s.heap H1 locs1 → W p l e R s m args below meth c H1 locs1 cells slots Q (F0 m (pc + 3) ls (rv.toList ++ rest))) : W p l e R s m args below meth c H locs cells slots Q (F0 m pc ls st0) :=
  z_run (va_runV (As := As) (rest := rest) ⟨hx, hb, hml, hown, hL⟩ hc (cwV n hL hG rfl hrm.1 hrm.2 hd hR) ⟨fun a U g mk q => ⟨q.1, q.2.1.blind, q.2.2⟩, hrc, fun U hU hW => ⟨rfl, hK.warm hS hU hW, by rw [hU]; exact hM⟩⟩ rfl hn hls hst (lv_room hW) hdg hf) hS kk
theorem z_callS {y : MethodName} {bytes : ByteArray} {maxL n index nL : Nat} {ret : Option FieldType} {rm : Room} {own : String} {As : List Value} {rv : Option Value} (hx : p.tables.exec = Jvm.exec) (hb : c.code = cc) (hml : c.maxLocals = nL) (hown : s.vm.findClass own = some m.cls) (hL : ∀ w ∈ zWL, w.before args s = true) (hK : zK G A s) (hM : zM G V H) (hS : va_S A s.heap H locs)
    (hc : zCt l G A y bytes maxL ret rm As V rv V') (hG : GoodIn zWL (va_wsS own index y (.code y bytes maxL ret :: zWL))) (hd : y.cls ≠ "java/lang/invoke/MethodHandle" ∧ y.cls ≠ "java/lang/invoke/VarHandle" ∧ (parseMethodDescriptor y.desc).map (fun d => d.parameters.length) = some n) (hrm : rm.cells = 0 ∧ rm.slots = 0) (hR : rm.frames + 1 ≤ R.frames ∧ 8 + (maxL + 11) + rm.locals ≤ R.locals)
    (hn : As.length = n) (hls : ls.size = nL) (hst : st0 = As.reverse ++ rest) (hW : (rest.map fun v => v.category).sum ≤ 8) (hdg : decode cc pc = .ok (.invokestatic index, 3)) (hf : cells ≤ R.cells ∧ slots ≤ R.slots)
    (kk : ∀ (H1 : Heap) (locs1 : List Loc), zM G V' H1 → va_S A s.heap H1 locs1 → W p l e R s m args below meth c H1 locs1 cells slots Q (F0 m (pc + 3) ls (rv.toList ++ rest))) : W p l e R s m args below meth c H locs cells slots Q (F0 m pc ls st0) :=
  z_run (va_runS (As := As) (rest := rest) ⟨hx, hb, hml, hown, hL⟩ hc (va_cwS n hL hG rfl hrm.1 hrm.2 hd hR) ⟨fun a U g mk q => ⟨q.1, q.2.1.blind, q.2.2⟩, fun U hU hW => ⟨rfl, hK.warm hS hU hW, by rw [hU]; exact hM⟩⟩ rfl hn hls hst (lv_room hW) hdg hf) hS kk
theorem z_callN {y : MethodName} {bytes : ByteArray} {maxL n index nL : Nat} {ret : Option FieldType} {rm : Room} {own C host : String} {b : Addr} {As : List Value} {rv : Option Value} (hx : p.tables.exec = Jvm.exec) (hb : c.code = cc) (hml : c.maxLocals = nL) (hown : s.vm.findClass own = some m.cls) (hL : ∀ w ∈ zWL, w.before args s = true) (hK : zK G A s) (hM : zM G V H) (hS : va_S A s.heap H locs)
    (hc : zCt l G A y bytes maxL ret rm (.ref b :: As) V rv V') (hcw : Cond.code y bytes maxL ret ∈ zWL) (h2 : Cond.instanceMethod y ∈ zWL) (h3 : Cond.selects C y y ∈ zWL) (h4 : Cond.initialized y.cls ∈ zWL) (q : Nat) (hlink : zNM[q]? = some (own, index, y, host)) (hd : y.cls ≠ "java/lang/invoke/MethodHandle" ∧ y.cls ≠ "java/lang/invoke/VarHandle" ∧ (parseMethodDescriptor y.desc).map (fun d => d.parameters.length) = some n) (hrm : rm.cells = 0 ∧ rm.slots = 0) (hR : rm.frames + 1 ≤ R.frames ∧ 8 + (maxL + 11) + rm.locals ≤ R.locals)
    (hrc : ∃ cell : Cell, H[b]? = some cell ∧ cell.vm.isStatics = false ∧ s.vm.findClass C = some cell.cls) (hn : As.length = n) (hls : ls.size = nL) (hst : st0 = As.reverse ++ .ref b :: rest) (hW : (rest.map fun v => v.category).sum ≤ 8) (hdg : decode cc pc = .ok (.invokevirtual index, 3)) (hf : cells ≤ R.cells ∧ slots ≤ R.slots)
    (kk : ∀ (H1 : Heap) (locs1 : List Loc), zM G V' H1 → va_S A s.heap H1 locs1 → W p l e R s m args below meth c H1 locs1 cells slots Q (F0 m (pc + 3) ls (rv.toList ++ rest))) : W p l e R s m args below meth c H locs cells slots Q (F0 m pc ls st0) :=
  z_run (va_runVN (As := As) (rest := rest) (host := host) ⟨hx, hb, hml, hown, hL⟩ hc ⟨va_cnB n hL (zw_gc hcw) rfl hrm.1 hrm.2 (hK.2.2.1.2 _ (List.mem_of_getElem? hlink)) (hL _ h4) hd hR, hL _ h2, hL _ h3⟩ ⟨fun a U g mk q => ⟨q.1, q.2.1.blind, q.2.2⟩, hrc, fun U hU hW => ⟨rfl, hK.warm hS hU hW, by rw [hU]; exact hM⟩⟩ rfl hn hls hst (lv_room hW) hdg hf) hS kk
end ZCALL
end
