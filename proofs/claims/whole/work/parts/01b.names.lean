/-! ===== BEGIN words of one list among another's, by their places ===== -/
theorem goodIn_r {big : List Cond} (ws : List Cond) (ps : List Nat) (hp : ws = ps.filterMap (fun i => big[i]?)) (h : ws.all goodWord = true) : GoodIn big ws := by
  intro w hw
  have h1 := List.all_eq_true.mp h w hw
  rw [hp] at hw
  obtain ⟨i, -, hi⟩ := List.mem_filterMap.mp hw
  have hm : w ∈ big := by first | exact List.mem_of_getElem? hi | exact List.getElem?_mem hi
  exact ⟨hm, good_of_word h1⟩
theorem goodIn_app {big a b : List Cond} (ha : GoodIn big a) (hb : GoodIn big b) : GoodIn big (a ++ b) := fun w h => (List.mem_append.mp h).elim (ha w) (hb w)
theorem goodIn_ca {big a b : List Cond} {c : Cond} (ha : GoodIn big (c :: a)) (hb : GoodIn big b) : GoodIn big (c :: (a ++ b)) := fun w h => (List.mem_cons.mp h).elim (fun e => ha w (List.mem_cons.mpr (Or.inl e))) (fun h => (List.mem_append.mp h).elim (fun h => ha w (List.mem_cons.mpr (Or.inr h))) (hb w))
theorem goodIn_sub {big ws : List Cond} (hm : ∀ w ∈ ws, w ∈ big) (h : ws.all goodWord = true) : GoodIn big ws := fun w hw => ⟨hm w hw, good_of_word (List.all_eq_true.mp h w hw)⟩
/-! ===== END ===== -/

/-! ===== BEGIN printed: names, fields, word lists, decode rows ===== -/
def RX0 : String := "LockerChains$1"
def TX0 : u_T := fun k => match k with
  | _ => ("", "", "", false)
def tyX0 : Nat → FieldType := fun k => match k with
  | _ => .int
theorem nmX0 : ∀ a, a < 0 → ∀ b, b < 0 → a ≠ b → (TX0 a).2.1 ≠ (TX0 b).2.1 := by decide +kernel
theorem tyX0_ok : ∀ k, k < 0 → parseFieldDescriptor (TX0 k).2.2.1 = some (tyX0 k) := by decide +kernel
def RX1 : String := "LockerChains$Hall"
def TX1 : u_T := fun k => match k with
  | 0 => ("LockerChains$Hall", "lockers", "[LLockerChains$Locker;", true)
  | 1 => ("LockerChains$Hall", "people", "[LLockerChains$Person;", true)
  | 2 => ("LockerChains$Hall", "waiting", "LLockerChains$Line;", true)
  | 3 => ("LockerChains$Hall", "wishes", "LLockerChains$Line;", true)
  | 4 => ("LockerChains$Hall", "settings", "[I", true)
  | 5 => ("LockerChains$Hall", "ring", "[I", true)
  | 6 => ("LockerChains$Hall", "lockerCount", "I", false)
  | 7 => ("LockerChains$Hall", "personCount", "I", false)
  | 8 => ("LockerChains$Hall", "day", "I", false)
  | _ => ("LockerChains$Hall", "moved", "I", false)
def tyX1 : Nat → FieldType := fun k => match k with
  | 0 => .array (.object "LockerChains$Locker")
  | 1 => .array (.object "LockerChains$Person")
  | 2 => .object "LockerChains$Line"
  | 3 => .object "LockerChains$Line"
  | 4 => .array .int
  | 5 => .array .int
  | 6 => .int
  | 7 => .int
  | 8 => .int
  | _ => .int
theorem nmX1 : ∀ a, a < 10 → ∀ b, b < 10 → a ≠ b → (TX1 a).2.1 ≠ (TX1 b).2.1 := by decide +kernel
theorem tyX1_ok : ∀ k, k < 10 → parseFieldDescriptor (TX1 k).2.2.1 = some (tyX1 k) := by decide +kernel
abbrev cX1_init : ByteArray := prog_3_method_1_code
def yX1_init : MethodName := ⟨RX1, "<init>", "()V"⟩
abbrev cX1_copyFrom : ByteArray := prog_3_method_2_code
def yX1_copyFrom : MethodName := ⟨RX1, "copyFrom", "(LLockerChains$Hall;)V"⟩
abbrev cX1_lockerAt : ByteArray := prog_3_method_3_code
def yX1_lockerAt : MethodName := ⟨RX1, "lockerAt", "(I)LLockerChains$Locker;"⟩
abbrev cX1_personAt : ByteArray := prog_3_method_4_code
def yX1_personAt : MethodName := ⟨RX1, "personAt", "(I)LLockerChains$Person;"⟩
abbrev cX1_lockerOfPerson : ByteArray := prog_3_method_5_code
def yX1_lockerOfPerson : MethodName := ⟨RX1, "lockerOfPerson", "(I)LLockerChains$Locker;"⟩
abbrev cX1_addLocker : ByteArray := prog_3_method_6_code
def yX1_addLocker : MethodName := ⟨RX1, "addLocker", "(I)I"⟩
abbrev cX1_addPerson : ByteArray := prog_3_method_7_code
def yX1_addPerson : MethodName := ⟨RX1, "addPerson", "()I"⟩
abbrev cX1_putIntoRow : ByteArray := prog_3_method_8_code
def yX1_putIntoRow : MethodName := ⟨RX1, "putIntoRow", "(II)I"⟩
abbrev cX1_lendTo : ByteArray := prog_3_method_9_code
def yX1_lendTo : MethodName := ⟨RX1, "lendTo", "(II)I"⟩
abbrev cX1_takeBack : ByteArray := prog_3_method_10_code
def yX1_takeBack : MethodName := ⟨RX1, "takeBack", "(I)I"⟩
abbrev cX1_prolong : ByteArray := prog_3_method_11_code
def yX1_prolong : MethodName := ⟨RX1, "prolong", "(I)I"⟩
abbrev cX1_loseKey : ByteArray := prog_3_method_12_code
def yX1_loseKey : MethodName := ⟨RX1, "loseKey", "(I)I"⟩
abbrev cX1_changeLock : ByteArray := prog_3_method_13_code
def yX1_changeLock : MethodName := ⟨RX1, "changeLock", "(LLockerChains$Person;LLockerChains$Locker;)V"⟩
abbrev cX1_wishFor : ByteArray := prog_3_method_14_code
def yX1_wishFor : MethodName := ⟨RX1, "wishFor", "(II)I"⟩
abbrev cX1_endWish : ByteArray := prog_3_method_15_code
def yX1_endWish : MethodName := ⟨RX1, "endWish", "(I)I"⟩
abbrev cX1_swapAll : ByteArray := prog_3_method_16_code
def yX1_swapAll : MethodName := ⟨RX1, "swapAll", "()I"⟩
abbrev cX1_moveToFree : ByteArray := prog_3_method_17_code
def yX1_moveToFree : MethodName := ⟨RX1, "moveToFree", "()I"⟩
abbrev cX1_findRing : ByteArray := prog_3_method_18_code
def yX1_findRing : MethodName := ⟨RX1, "findRing", "()I"⟩
abbrev cX1_wants : ByteArray := prog_3_method_19_code
def yX1_wants : MethodName := ⟨RX1, "wants", "(LLockerChains$Person;LLockerChains$Person;)Z"⟩
abbrev cX1_moveAround : ByteArray := prog_3_method_20_code
def yX1_moveAround : MethodName := ⟨RX1, "moveAround", "(I)V"⟩
abbrev cX1_payCoins : ByteArray := prog_3_method_21_code
def yX1_payCoins : MethodName := ⟨RX1, "payCoins", "(II)I"⟩
abbrev cX1_passDays : ByteArray := prog_3_method_22_code
def yX1_passDays : MethodName := ⟨RX1, "passDays", "(II)I"⟩
abbrev cX1_endClosing : ByteArray := prog_3_method_23_code
def yX1_endClosing : MethodName := ⟨RX1, "endClosing", "()V"⟩
abbrev cX1_chargeOverdue : ByteArray := prog_3_method_24_code
def yX1_chargeOverdue : MethodName := ⟨RX1, "chargeOverdue", "()I"⟩
abbrev cX1_feeOfDay : ByteArray := prog_3_method_25_code
def yX1_feeOfDay : MethodName := ⟨RX1, "feeOfDay", "(I)I"⟩
abbrev cX1_changeSetting : ByteArray := prog_3_method_26_code
def yX1_changeSetting : MethodName := ⟨RX1, "changeSetting", "(II)I"⟩
abbrev cX1_lowestSetting : ByteArray := prog_3_method_27_code
def yX1_lowestSetting : MethodName := ⟨RX1, "lowestSetting", "(I)I"⟩
abbrev cX1_highestSetting : ByteArray := prog_3_method_28_code
def yX1_highestSetting : MethodName := ⟨RX1, "highestSetting", "(I)I"⟩
abbrev cX1_lowestFree : ByteArray := prog_3_method_29_code
def yX1_lowestFree : MethodName := ⟨RX1, "lowestFree", "(I)LLockerChains$Locker;"⟩
abbrev cX1_offer : ByteArray := prog_3_method_30_code
def yX1_offer : MethodName := ⟨RX1, "offer", "(LLockerChains$Locker;)V"⟩
abbrev cX1_beginLoan : ByteArray := prog_3_method_31_code
def yX1_beginLoan : MethodName := ⟨RX1, "beginLoan", "(LLockerChains$Person;LLockerChains$Locker;)V"⟩
abbrev cX1_endLoan : ByteArray := prog_3_method_32_code
def yX1_endLoan : MethodName := ⟨RX1, "endLoan", "(LLockerChains$Person;LLockerChains$Locker;)V"⟩
abbrev cX1_move : ByteArray := prog_3_method_33_code
def yX1_move : MethodName := ⟨RX1, "move", "(ILLockerChains$Locker;)V"⟩
abbrev cX1_tellOfPerson : ByteArray := prog_3_method_34_code
def yX1_tellOfPerson : MethodName := ⟨RX1, "tellOfPerson", "(II)I"⟩
abbrev cX1_tellOfLocker : ByteArray := prog_3_method_35_code
def yX1_tellOfLocker : MethodName := ⟨RX1, "tellOfLocker", "(II)I"⟩
abbrev cX1_foundOr : ByteArray := prog_3_method_36_code
def yX1_foundOr : MethodName := ⟨RX1, "foundOr", "(I)I"⟩
abbrev cX1_tellNumber : ByteArray := prog_3_method_37_code
def yX1_tellNumber : MethodName := ⟨RX1, "tellNumber", "(I)I"⟩
abbrev cX1_tellSetting : ByteArray := prog_3_method_38_code
def yX1_tellSetting : MethodName := ⟨RX1, "tellSetting", "(I)I"⟩
abbrev cX1_standingOf : ByteArray := prog_3_method_39_code
def yX1_standingOf : MethodName := ⟨RX1, "standingOf", "(I)I"⟩
abbrev cX1_lentLockers : ByteArray := prog_3_method_40_code
def yX1_lentLockers : MethodName := ⟨RX1, "lentLockers", "()I"⟩
abbrev cX1_freeLockers : ByteArray := prog_3_method_41_code
def yX1_freeLockers : MethodName := ⟨RX1, "freeLockers", "()I"⟩
abbrev cX1_closedLockers : ByteArray := prog_3_method_42_code
def yX1_closedLockers : MethodName := ⟨RX1, "closedLockers", "()I"⟩
abbrev cX1_owedByAll : ByteArray := prog_3_method_43_code
def yX1_owedByAll : MethodName := ⟨RX1, "owedByAll", "()I"⟩
abbrev cX1_paidByAll : ByteArray := prog_3_method_44_code
def yX1_paidByAll : MethodName := ⟨RX1, "paidByAll", "()I"⟩
abbrev cX1_overdueDays : ByteArray := prog_3_method_45_code
def yX1_overdueDays : MethodName := ⟨RX1, "overdueDays", "()I"⟩
def RX2 : String := "LockerChains$History"
def TX2 : u_T := fun k => match k with
  | 0 => ("LockerChains$History", "slots", "[LLockerChains$Hall;", true)
  | 1 => ("LockerChains$History", "oldest", "I", false)
  | _ => ("LockerChains$History", "states", "I", false)
def tyX2 : Nat → FieldType := fun k => match k with
  | 0 => .array (.object "LockerChains$Hall")
  | 1 => .int
  | _ => .int
theorem nmX2 : ∀ a, a < 3 → ∀ b, b < 3 → a ≠ b → (TX2 a).2.1 ≠ (TX2 b).2.1 := by decide +kernel
theorem tyX2_ok : ∀ k, k < 3 → parseFieldDescriptor (TX2 k).2.2.1 = some (tyX2 k) := by decide +kernel
abbrev cX2_init : ByteArray := prog_4_method_1_code
def yX2_init : MethodName := ⟨RX2, "<init>", "()V"⟩
abbrev cX2_slot : ByteArray := prog_4_method_2_code
def yX2_slot : MethodName := ⟨RX2, "slot", "(I)LLockerChains$Hall;"⟩
abbrev cX2_prepare : ByteArray := prog_4_method_3_code
def yX2_prepare : MethodName := ⟨RX2, "prepare", "(LLockerChains$Hall;)V"⟩
abbrev cX2_settle : ByteArray := prog_4_method_4_code
def yX2_settle : MethodName := ⟨RX2, "settle", "(I)I"⟩
abbrev cX2_restore : ByteArray := prog_4_method_5_code
def yX2_restore : MethodName := ⟨RX2, "restore", "(LLockerChains$Hall;)I"⟩
def RX3 : String := "LockerChains$Line"
def TX3 : u_T := fun k => match k with
  | 0 => ("LockerChains$Line", "people", "[I", true)
  | 1 => ("LockerChains$Line", "sizes", "[I", true)
  | _ => ("LockerChains$Line", "length", "I", false)
def tyX3 : Nat → FieldType := fun k => match k with
  | 0 => .array .int
  | 1 => .array .int
  | _ => .int
theorem nmX3 : ∀ a, a < 3 → ∀ b, b < 3 → a ≠ b → (TX3 a).2.1 ≠ (TX3 b).2.1 := by decide +kernel
theorem tyX3_ok : ∀ k, k < 3 → parseFieldDescriptor (TX3 k).2.2.1 = some (tyX3 k) := by decide +kernel
abbrev cX3_init : ByteArray := prog_5_method_1_code
def yX3_init : MethodName := ⟨RX3, "<init>", "()V"⟩
abbrev cX3_personAt : ByteArray := prog_5_method_2_code
def yX3_personAt : MethodName := ⟨RX3, "personAt", "(I)I"⟩
abbrev cX3_sizeAt : ByteArray := prog_5_method_3_code
def yX3_sizeAt : MethodName := ⟨RX3, "sizeAt", "(I)I"⟩
abbrev cX3_placeOf : ByteArray := prog_5_method_4_code
def yX3_placeOf : MethodName := ⟨RX3, "placeOf", "(I)I"⟩
abbrev cX3_sizeOf : ByteArray := prog_5_method_5_code
def yX3_sizeOf : MethodName := ⟨RX3, "sizeOf", "(I)I"⟩
abbrev cX3_firstFor : ByteArray := prog_5_method_6_code
def yX3_firstFor : MethodName := ⟨RX3, "firstFor", "(I)I"⟩
abbrev cX3_add : ByteArray := prog_5_method_7_code
def yX3_add : MethodName := ⟨RX3, "add", "(II)V"⟩
abbrev cX3_remove : ByteArray := prog_5_method_8_code
def yX3_remove : MethodName := ⟨RX3, "remove", "(I)V"⟩
abbrev cX3_copyFrom : ByteArray := prog_5_method_9_code
def yX3_copyFrom : MethodName := ⟨RX3, "copyFrom", "(LLockerChains$Line;)V"⟩
def RX4 : String := "LockerChains$Locker"
def TX4 : u_T := fun k => match k with
  | 0 => ("LockerChains$Locker", "number", "I", true)
  | 1 => ("LockerChains$Locker", "size", "I", false)
  | 2 => ("LockerChains$Locker", "standing", "Z", false)
  | 3 => ("LockerChains$Locker", "holder", "I", false)
  | 4 => ("LockerChains$Locker", "spareKey", "Z", false)
  | 5 => ("LockerChains$Locker", "opensOn", "I", false)
  | _ => ("LockerChains$Locker", "timesLent", "I", false)
def tyX4 : Nat → FieldType := fun k => match k with
  | 0 => .int
  | 1 => .int
  | 2 => .boolean
  | 3 => .int
  | 4 => .boolean
  | 5 => .int
  | _ => .int
theorem nmX4 : ∀ a, a < 7 → ∀ b, b < 7 → a ≠ b → (TX4 a).2.1 ≠ (TX4 b).2.1 := by decide +kernel
theorem tyX4_ok : ∀ k, k < 7 → parseFieldDescriptor (TX4 k).2.2.1 = some (tyX4 k) := by decide +kernel
abbrev cX4_init : ByteArray := prog_6_method_1_code
def yX4_init : MethodName := ⟨RX4, "<init>", "(I)V"⟩
abbrev cX4_isFree : ByteArray := prog_6_method_2_code
def yX4_isFree : MethodName := ⟨RX4, "isFree", "()Z"⟩
abbrev cX4_copyFrom : ByteArray := prog_6_method_3_code
def yX4_copyFrom : MethodName := ⟨RX4, "copyFrom", "(LLockerChains$Locker;)V"⟩
def RX5 : String := "LockerChains$Person"
def TX5 : u_T := fun k => match k with
  | 0 => ("LockerChains$Person", "number", "I", true)
  | 1 => ("LockerChains$Person", "locker", "I", false)
  | 2 => ("LockerChains$Person", "due", "I", false)
  | 3 => ("LockerChains$Person", "renewals", "I", false)
  | 4 => ("LockerChains$Person", "owed", "I", false)
  | 5 => ("LockerChains$Person", "paid", "I", false)
  | 6 => ("LockerChains$Person", "keysLost", "I", false)
  | _ => ("LockerChains$Person", "lockersOpened", "I", false)
def tyX5 : Nat → FieldType := fun k => match k with
  | 0 => .int
  | 1 => .int
  | 2 => .int
  | 3 => .int
  | 4 => .int
  | 5 => .int
  | 6 => .int
  | _ => .int
theorem nmX5 : ∀ a, a < 8 → ∀ b, b < 8 → a ≠ b → (TX5 a).2.1 ≠ (TX5 b).2.1 := by decide +kernel
theorem tyX5_ok : ∀ k, k < 8 → parseFieldDescriptor (TX5 k).2.2.1 = some (tyX5 k) := by decide +kernel
abbrev cX5_init : ByteArray := prog_7_method_1_code
def yX5_init : MethodName := ⟨RX5, "<init>", "(I)V"⟩
abbrev cX5_overdueOn : ByteArray := prog_7_method_2_code
def yX5_overdueOn : MethodName := ⟨RX5, "overdueOn", "(I)I"⟩
abbrev cX5_copyFrom : ByteArray := prog_7_method_3_code
def yX5_copyFrom : MethodName := ⟨RX5, "copyFrom", "(LLockerChains$Person;)V"⟩
def RX6 : String := "LockerChains$Rehearsal"
def TX6 : u_T := fun k => match k with
  | 0 => ("LockerChains$Rehearsal", "trial", "LLockerChains$Hall;", true)
  | 1 => ("LockerChains$Rehearsal", "place", "I", false)
  | 2 => ("LockerChains$Rehearsal", "reason", "I", false)
  | 3 => ("LockerChains$Rehearsal", "cause", "I", false)
  | _ => ("LockerChains$Rehearsal", "commands", "I", false)
def tyX6 : Nat → FieldType := fun k => match k with
  | 0 => .object "LockerChains$Hall"
  | 1 => .int
  | 2 => .int
  | 3 => .int
  | _ => .int
theorem nmX6 : ∀ a, a < 5 → ∀ b, b < 5 → a ≠ b → (TX6 a).2.1 ≠ (TX6 b).2.1 := by decide +kernel
theorem tyX6_ok : ∀ k, k < 5 → parseFieldDescriptor (TX6 k).2.2.1 = some (tyX6 k) := by decide +kernel
abbrev cX6_init : ByteArray := prog_8_method_1_code
def yX6_init : MethodName := ⟨RX6, "<init>", "()V"⟩
abbrev cX6_feeOf : ByteArray := prog_8_method_2_code
def yX6_feeOf : MethodName := ⟨RX6, "feeOf", "(LLockerChains$Hall;II)I"⟩
abbrev cX6_lockerBehindSwapping : ByteArray := prog_8_method_3_code
def yX6_lockerBehindSwapping : MethodName := ⟨RX6, "lockerBehindSwapping", "(LLockerChains$Hall;I)I"⟩
abbrev cX6_playText : ByteArray := prog_8_method_4_code
def yX6_playText : MethodName := ⟨RX6, "playText", "(LLockerChains$Hall;LLockerChains$Text;)V"⟩
abbrev cX6_failed : ByteArray := prog_8_method_5_code
def yX6_failed : MethodName := ⟨RX6, "failed", "()Z"⟩
abbrev cX6_noteFault : ByteArray := prog_8_method_6_code
def yX6_noteFault : MethodName := ⟨RX6, "noteFault", "(III)V"⟩
abbrev cX6_obey : ByteArray := prog_8_method_7_code
def yX6_obey : MethodName := ⟨RX6, "obey", "(LLockerChains$Verb;II)I"⟩
def RX7 : String := "LockerChains$Text"
def TX7 : u_T := fun k => match k with
  | 0 => ("LockerChains$Text", "signs", "[C", true)
  | 1 => ("LockerChains$Text", "length", "I", false)
  | 2 => ("LockerChains$Text", "verb", "LLockerChains$Verb;", false)
  | 3 => ("LockerChains$Text", "first", "I", false)
  | 4 => ("LockerChains$Text", "second", "I", false)
  | _ => ("LockerChains$Text", "end", "I", false)
def tyX7 : Nat → FieldType := fun k => match k with
  | 0 => .array .char
  | 1 => .int
  | 2 => .object "LockerChains$Verb"
  | 3 => .int
  | 4 => .int
  | _ => .int
theorem nmX7 : ∀ a, a < 6 → ∀ b, b < 6 → a ≠ b → (TX7 a).2.1 ≠ (TX7 b).2.1 := by decide +kernel
theorem tyX7_ok : ∀ k, k < 6 → parseFieldDescriptor (TX7 k).2.2.1 = some (tyX7 k) := by decide +kernel
abbrev cX7_init : ByteArray := prog_9_method_1_code
def yX7_init : MethodName := ⟨RX7, "<init>", "()V"⟩
abbrev cX7_append : ByteArray := prog_9_method_2_code
def yX7_append : MethodName := ⟨RX7, "append", "(I)I"⟩
abbrev cX7_clear : ByteArray := prog_9_method_3_code
def yX7_clear : MethodName := ⟨RX7, "clear", "()I"⟩
abbrev cX7_readCommand : ByteArray := prog_9_method_4_code
def yX7_readCommand : MethodName := ⟨RX7, "readCommand", "(I)Z"⟩
abbrev cX7_verbAt : ByteArray := prog_9_method_5_code
def yX7_verbAt : MethodName := ⟨RX7, "verbAt", "(I)LLockerChains$Verb;"⟩
abbrev cX7_hasWordAt : ByteArray := prog_9_method_6_code
def yX7_hasWordAt : MethodName := ⟨RX7, "hasWordAt", "(ILjava/lang/String;)Z"⟩
abbrev cX7_readNumber : ByteArray := prog_9_method_7_code
def yX7_readNumber : MethodName := ⟨RX7, "readNumber", "()I"⟩
abbrev cX7_signAt : ByteArray := prog_9_method_8_code
def yX7_signAt : MethodName := ⟨RX7, "signAt", "(I)C"⟩
def RX8 : String := "LockerChains$Verb"
def TX8 : u_T := fun k => match k with
  | _ => ("", "", "", false)
def tyX8 : Nat → FieldType := fun k => match k with
  | _ => .int
theorem nmX8 : ∀ a, a < 0 → ∀ b, b < 0 → a ≠ b → (TX8 a).2.1 ≠ (TX8 b).2.1 := by decide +kernel
theorem tyX8_ok : ∀ k, k < 0 → parseFieldDescriptor (TX8 k).2.2.1 = some (tyX8 k) := by decide +kernel
def RX9 : String := "LockerChains"
def TX9 : u_T := fun k => match k with
  | 0 => ("LockerChains", "hall", "LLockerChains$Hall;", true)
  | 1 => ("LockerChains", "history", "LLockerChains$History;", true)
  | 2 => ("LockerChains", "text", "LLockerChains$Text;", true)
  | _ => ("LockerChains", "rehearsal", "LLockerChains$Rehearsal;", true)
def tyX9 : Nat → FieldType := fun k => match k with
  | 0 => .object "LockerChains$Hall"
  | 1 => .object "LockerChains$History"
  | 2 => .object "LockerChains$Text"
  | _ => .object "LockerChains$Rehearsal"
theorem nmX9 : ∀ a, a < 4 → ∀ b, b < 4 → a ≠ b → (TX9 a).2.1 ≠ (TX9 b).2.1 := by decide +kernel
theorem tyX9_ok : ∀ k, k < 4 → parseFieldDescriptor (TX9 k).2.2.1 = some (tyX9 k) := by decide +kernel
abbrev cX9_init : ByteArray := prog_1_method_1_code
def yX9_init : MethodName := ⟨RX9, "<init>", "()V"⟩
abbrev cX9_locker : ByteArray := prog_1_method_2_code
def yX9_locker : MethodName := ⟨RX9, "locker", "(I)I"⟩
abbrev cX9_person : ByteArray := prog_1_method_3_code
def yX9_person : MethodName := ⟨RX9, "person", "()I"⟩
abbrev cX9_stand : ByteArray := prog_1_method_4_code
def yX9_stand : MethodName := ⟨RX9, "stand", "(II)I"⟩
abbrev cX9_lend : ByteArray := prog_1_method_5_code
def yX9_lend : MethodName := ⟨RX9, "lend", "(II)I"⟩
abbrev cX9_giveBack : ByteArray := prog_1_method_6_code
def yX9_giveBack : MethodName := ⟨RX9, "giveBack", "(I)I"⟩
abbrev cX9_renew : ByteArray := prog_1_method_7_code
def yX9_renew : MethodName := ⟨RX9, "renew", "(I)I"⟩
abbrev cX9_lose : ByteArray := prog_1_method_8_code
def yX9_lose : MethodName := ⟨RX9, "lose", "(I)I"⟩
abbrev cX9_wish : ByteArray := prog_1_method_9_code
def yX9_wish : MethodName := ⟨RX9, "wish", "(II)I"⟩
abbrev cX9_noWish : ByteArray := prog_1_method_10_code
def yX9_noWish : MethodName := ⟨RX9, "noWish", "(I)I"⟩
abbrev cX9_swap : ByteArray := prog_1_method_11_code
def yX9_swap : MethodName := ⟨RX9, "swap", "()I"⟩
abbrev cX9_pay : ByteArray := prog_1_method_12_code
def yX9_pay : MethodName := ⟨RX9, "pay", "(II)I"⟩
abbrev cX9_pass : ByteArray := prog_1_method_13_code
def yX9_pass : MethodName := ⟨RX9, "pass", "(I)I"⟩
abbrev cX9_set : ByteArray := prog_1_method_14_code
def yX9_set : MethodName := ⟨RX9, "set", "(II)I"⟩
abbrev cX9_personOf : ByteArray := prog_1_method_15_code
def yX9_personOf : MethodName := ⟨RX9, "personOf", "(II)I"⟩
abbrev cX9_lockerOf : ByteArray := prog_1_method_16_code
def yX9_lockerOf : MethodName := ⟨RX9, "lockerOf", "(II)I"⟩
abbrev cX9_waitingAt : ByteArray := prog_1_method_17_code
def yX9_waitingAt : MethodName := ⟨RX9, "waitingAt", "(II)I"⟩
abbrev cX9_count : ByteArray := prog_1_method_18_code
def yX9_count : MethodName := ⟨RX9, "count", "(I)I"⟩
abbrev cX9_feeIn : ByteArray := prog_1_method_19_code
def yX9_feeIn : MethodName := ⟨RX9, "feeIn", "(II)I"⟩
abbrev cX9_wouldHave : ByteArray := prog_1_method_20_code
def yX9_wouldHave : MethodName := ⟨RX9, "wouldHave", "(I)I"⟩
abbrev cX9_lentBits : ByteArray := prog_1_method_21_code
def yX9_lentBits : MethodName := ⟨RX9, "lentBits", "()J"⟩
abbrev cX9_overdueBits : ByteArray := prog_1_method_22_code
def yX9_overdueBits : MethodName := ⟨RX9, "overdueBits", "()I"⟩
abbrev cX9_undo : ByteArray := prog_1_method_23_code
def yX9_undo : MethodName := ⟨RX9, "undo", "()I"⟩
abbrev cX9_type : ByteArray := prog_1_method_24_code
def yX9_type : MethodName := ⟨RX9, "type", "(I)I"⟩
abbrev cX9_clearText : ByteArray := prog_1_method_25_code
def yX9_clearText : MethodName := ⟨RX9, "clearText", "()I"⟩
abbrev cX9_fault : ByteArray := prog_1_method_26_code
def yX9_fault : MethodName := ⟨RX9, "fault", "(I)I"⟩
abbrev cX9_play : ByteArray := prog_1_method_27_code
def yX9_play : MethodName := ⟨RX9, "play", "()I"⟩
abbrev cX9_bitsOfDouble : ByteArray := prog_1_method_28_code
def yX9_bitsOfDouble : MethodName := ⟨RX9, "bitsOfDouble", "(D)J"⟩
abbrev cX9_bitsOfFloat : ByteArray := prog_1_method_29_code
def yX9_bitsOfFloat : MethodName := ⟨RX9, "bitsOfFloat", "(F)I"⟩
def RX10 : String := "LockerChainsModel"
def TX10 : u_T := fun k => match k with
  | 0 => ("LockerChainsModel", "s", "[I", true)
  | 1 => ("LockerChainsModel", "begun", "[I", true)
  | 2 => ("LockerChainsModel", "aside", "[I", true)
  | 3 => ("LockerChainsModel", "past", "[I", true)
  | 4 => ("LockerChainsModel", "states", "I", false)
  | 5 => ("LockerChainsModel", "text", "[I", true)
  | 6 => ("LockerChainsModel", "length", "I", false)
  | 7 => ("LockerChainsModel", "at", "I", false)
  | 8 => ("LockerChainsModel", "isForm", "Z", false)
  | 9 => ("LockerChainsModel", "reason", "I", false)
  | 10 => ("LockerChainsModel", "cause", "I", false)
  | _ => ("LockerChainsModel", "numbers", "[I", true)
def tyX10 : Nat → FieldType := fun k => match k with
  | 0 => .array .int
  | 1 => .array .int
  | 2 => .array .int
  | 3 => .array .int
  | 4 => .int
  | 5 => .array .int
  | 6 => .int
  | 7 => .int
  | 8 => .boolean
  | 9 => .int
  | 10 => .int
  | _ => .array .int
theorem nmX10 : ∀ a, a < 12 → ∀ b, b < 12 → a ≠ b → (TX10 a).2.1 ≠ (TX10 b).2.1 := by decide +kernel
theorem tyX10_ok : ∀ k, k < 12 → parseFieldDescriptor (TX10 k).2.2.1 = some (tyX10 k) := by decide +kernel
abbrev cX10_init : ByteArray := prog_12_method_1_code
def yX10_init : MethodName := ⟨RX10, "<init>", "()V"⟩
abbrev cX10_in : ByteArray := prog_12_method_3_code
def yX10_in : MethodName := ⟨RX10, "in", "(III)Z"⟩
abbrev cX10_isLocker : ByteArray := prog_12_method_4_code
def yX10_isLocker : MethodName := ⟨RX10, "isLocker", "(I)Z"⟩
abbrev cX10_isPerson : ByteArray := prog_12_method_5_code
def yX10_isPerson : MethodName := ⟨RX10, "isPerson", "(I)Z"⟩
abbrev cX10_of : ByteArray := prog_12_method_6_code
def yX10_of : MethodName := ⟨RX10, "of", "(II)I"⟩
abbrev cX10_lay : ByteArray := prog_12_method_7_code
def yX10_lay : MethodName := ⟨RX10, "lay", "(III)V"⟩
abbrev cX10_ofP : ByteArray := prog_12_method_8_code
def yX10_ofP : MethodName := ⟨RX10, "ofP", "(II)I"⟩
abbrev cX10_layP : ByteArray := prog_12_method_9_code
def yX10_layP : MethodName := ⟨RX10, "layP", "(III)V"⟩
abbrev cX10_begins : ByteArray := prog_12_method_10_code
def yX10_begins : MethodName := ⟨RX10, "begins", "()V"⟩
abbrev cX10_acted : ByteArray := prog_12_method_11_code
def yX10_acted : MethodName := ⟨RX10, "acted", "(I)I"⟩
abbrev cX10_layAside : ByteArray := prog_12_method_12_code
def yX10_layAside : MethodName := ⟨RX10, "layAside", "()V"⟩
abbrev cX10_bringBack : ByteArray := prog_12_method_13_code
def yX10_bringBack : MethodName := ⟨RX10, "bringBack", "()V"⟩
abbrev cX10_isFree : ByteArray := prog_12_method_14_code
def yX10_isFree : MethodName := ⟨RX10, "isFree", "(I)Z"⟩
abbrev cX10_lowestFree : ByteArray := prog_12_method_15_code
def yX10_lowestFree : MethodName := ⟨RX10, "lowestFree", "(I)I"⟩
abbrev cX10_placeOf : ByteArray := prog_12_method_16_code
def yX10_placeOf : MethodName := ⟨RX10, "placeOf", "(I)I"⟩
abbrev cX10_waitsNoMore : ByteArray := prog_12_method_17_code
def yX10_waitsNoMore : MethodName := ⟨RX10, "waitsNoMore", "(I)V"⟩
abbrev cX10_waitsFor : ByteArray := prog_12_method_18_code
def yX10_waitsFor : MethodName := ⟨RX10, "waitsFor", "(II)V"⟩
abbrev cX10_firstWaiting : ByteArray := prog_12_method_19_code
def yX10_firstWaiting : MethodName := ⟨RX10, "firstWaiting", "(I)I"⟩
abbrev cX10_has : ByteArray := prog_12_method_20_code
def yX10_has : MethodName := ⟨RX10, "has", "(II)V"⟩
abbrev cX10_beginsLoan : ByteArray := prog_12_method_21_code
def yX10_beginsLoan : MethodName := ⟨RX10, "beginsLoan", "(II)V"⟩
abbrev cX10_frees : ByteArray := prog_12_method_22_code
def yX10_frees : MethodName := ⟨RX10, "frees", "(I)V"⟩
abbrev cX10_endsWish : ByteArray := prog_12_method_23_code
def yX10_endsWish : MethodName := ⟨RX10, "endsWish", "(I)V"⟩
abbrev cX10_endsLoan : ByteArray := prog_12_method_24_code
def yX10_endsLoan : MethodName := ⟨RX10, "endsLoan", "(I)I"⟩
abbrev cX10_owes : ByteArray := prog_12_method_25_code
def yX10_owes : MethodName := ⟨RX10, "owes", "(II)V"⟩
abbrev cX10_overdue : ByteArray := prog_12_method_26_code
def yX10_overdue : MethodName := ⟨RX10, "overdue", "(I)I"⟩
abbrev cX10_makesLocker : ByteArray := prog_12_method_27_code
def yX10_makesLocker : MethodName := ⟨RX10, "makesLocker", "(I)I"⟩
abbrev cX10_makesPerson : ByteArray := prog_12_method_28_code
def yX10_makesPerson : MethodName := ⟨RX10, "makesPerson", "()I"⟩
abbrev cX10_inRow : ByteArray := prog_12_method_29_code
def yX10_inRow : MethodName := ⟨RX10, "inRow", "(I)I"⟩
abbrev cX10_stands : ByteArray := prog_12_method_30_code
def yX10_stands : MethodName := ⟨RX10, "stands", "(II)I"⟩
abbrev cX10_lends : ByteArray := prog_12_method_31_code
def yX10_lends : MethodName := ⟨RX10, "lends", "(II)I"⟩
abbrev cX10_givesBack : ByteArray := prog_12_method_32_code
def yX10_givesBack : MethodName := ⟨RX10, "givesBack", "(I)I"⟩
abbrev cX10_renews : ByteArray := prog_12_method_33_code
def yX10_renews : MethodName := ⟨RX10, "renews", "(I)I"⟩
abbrev cX10_changesLock : ByteArray := prog_12_method_34_code
def yX10_changesLock : MethodName := ⟨RX10, "changesLock", "(I)V"⟩
abbrev cX10_loses : ByteArray := prog_12_method_35_code
def yX10_loses : MethodName := ⟨RX10, "loses", "(I)I"⟩
abbrev cX10_wishes : ByteArray := prog_12_method_36_code
def yX10_wishes : MethodName := ⟨RX10, "wishes", "(II)I"⟩
abbrev cX10_wishesNoMore : ByteArray := prog_12_method_37_code
def yX10_wishesNoMore : MethodName := ⟨RX10, "wishesNoMore", "(I)I"⟩
abbrev cX10_pays : ByteArray := prog_12_method_38_code
def yX10_pays : MethodName := ⟨RX10, "pays", "(II)I"⟩
abbrev cX10_moves : ByteArray := prog_12_method_39_code
def yX10_moves : MethodName := ⟨RX10, "moves", "(II)V"⟩
abbrev cX10_takesFree : ByteArray := prog_12_method_40_code
def yX10_takesFree : MethodName := ⟨RX10, "takesFree", "()Z"⟩
abbrev cX10_wants : ByteArray := prog_12_method_41_code
def yX10_wants : MethodName := ⟨RX10, "wants", "(II)Z"⟩
abbrev cX10_thirdOf : ByteArray := prog_12_method_42_code
def yX10_thirdOf : MethodName := ⟨RX10, "thirdOf", "(II)I"⟩
abbrev cX10_goesRound : ByteArray := prog_12_method_43_code
def yX10_goesRound : MethodName := ⟨RX10, "goesRound", "(III)I"⟩
abbrev cX10_takesRing : ByteArray := prog_12_method_44_code
def yX10_takesRing : MethodName := ⟨RX10, "takesRing", "()I"⟩
abbrev cX10_swaps : ByteArray := prog_12_method_45_code
def yX10_swaps : MethodName := ⟨RX10, "swaps", "()I"⟩
abbrev cX10_feeOf : ByteArray := prog_12_method_46_code
def yX10_feeOf : MethodName := ⟨RX10, "feeOf", "(II)I"⟩
abbrev cX10_dayPasses : ByteArray := prog_12_method_47_code
def yX10_dayPasses : MethodName := ⟨RX10, "dayPasses", "()I"⟩
abbrev cX10_passDays : ByteArray := prog_12_method_48_code
def yX10_passDays : MethodName := ⟨RX10, "passDays", "(I)I"⟩
abbrev cX10_passes : ByteArray := prog_12_method_49_code
def yX10_passes : MethodName := ⟨RX10, "passes", "(I)I"⟩
abbrev cX10_least : ByteArray := prog_12_method_50_code
def yX10_least : MethodName := ⟨RX10, "least", "(I)I"⟩
abbrev cX10_most : ByteArray := prog_12_method_51_code
def yX10_most : MethodName := ⟨RX10, "most", "(I)I"⟩
abbrev cX10_sets : ByteArray := prog_12_method_52_code
def yX10_sets : MethodName := ⟨RX10, "sets", "(II)I"⟩
abbrev cX10_locker : ByteArray := prog_12_method_53_code
def yX10_locker : MethodName := ⟨RX10, "locker", "(I)I"⟩
abbrev cX10_person : ByteArray := prog_12_method_54_code
def yX10_person : MethodName := ⟨RX10, "person", "()I"⟩
abbrev cX10_stand : ByteArray := prog_12_method_55_code
def yX10_stand : MethodName := ⟨RX10, "stand", "(II)I"⟩
abbrev cX10_lend : ByteArray := prog_12_method_56_code
def yX10_lend : MethodName := ⟨RX10, "lend", "(II)I"⟩
abbrev cX10_giveBack : ByteArray := prog_12_method_57_code
def yX10_giveBack : MethodName := ⟨RX10, "giveBack", "(I)I"⟩
abbrev cX10_renew : ByteArray := prog_12_method_58_code
def yX10_renew : MethodName := ⟨RX10, "renew", "(I)I"⟩
abbrev cX10_lose : ByteArray := prog_12_method_59_code
def yX10_lose : MethodName := ⟨RX10, "lose", "(I)I"⟩
abbrev cX10_wish : ByteArray := prog_12_method_60_code
def yX10_wish : MethodName := ⟨RX10, "wish", "(II)I"⟩
abbrev cX10_noWish : ByteArray := prog_12_method_61_code
def yX10_noWish : MethodName := ⟨RX10, "noWish", "(I)I"⟩
abbrev cX10_swap : ByteArray := prog_12_method_62_code
def yX10_swap : MethodName := ⟨RX10, "swap", "()I"⟩
abbrev cX10_pay : ByteArray := prog_12_method_63_code
def yX10_pay : MethodName := ⟨RX10, "pay", "(II)I"⟩
abbrev cX10_pass : ByteArray := prog_12_method_64_code
def yX10_pass : MethodName := ⟨RX10, "pass", "(I)I"⟩
abbrev cX10_set : ByteArray := prog_12_method_65_code
def yX10_set : MethodName := ⟨RX10, "set", "(II)I"⟩
abbrev cX10_orNone : ByteArray := prog_12_method_66_code
def yX10_orNone : MethodName := ⟨RX10, "orNone", "(I)I"⟩
abbrev cX10_personOf : ByteArray := prog_12_method_67_code
def yX10_personOf : MethodName := ⟨RX10, "personOf", "(II)I"⟩
abbrev cX10_lockerOf : ByteArray := prog_12_method_68_code
def yX10_lockerOf : MethodName := ⟨RX10, "lockerOf", "(II)I"⟩
abbrev cX10_waitingAt : ByteArray := prog_12_method_69_code
def yX10_waitingAt : MethodName := ⟨RX10, "waitingAt", "(II)I"⟩
abbrev cX10_lockersThat : ByteArray := prog_12_method_70_code
def yX10_lockersThat : MethodName := ⟨RX10, "lockersThat", "(I)I"⟩
abbrev cX10_debts : ByteArray := prog_12_method_71_code
def yX10_debts : MethodName := ⟨RX10, "debts", "()I"⟩
abbrev cX10_count : ByteArray := prog_12_method_72_code
def yX10_count : MethodName := ⟨RX10, "count", "(I)I"⟩
abbrev cX10_feeIn : ByteArray := prog_12_method_73_code
def yX10_feeIn : MethodName := ⟨RX10, "feeIn", "(II)I"⟩
abbrev cX10_wouldHave : ByteArray := prog_12_method_74_code
def yX10_wouldHave : MethodName := ⟨RX10, "wouldHave", "(I)I"⟩
abbrev cX10_lentBits : ByteArray := prog_12_method_75_code
def yX10_lentBits : MethodName := ⟨RX10, "lentBits", "()J"⟩
abbrev cX10_overdueBits : ByteArray := prog_12_method_76_code
def yX10_overdueBits : MethodName := ⟨RX10, "overdueBits", "()I"⟩
abbrev cX10_undo : ByteArray := prog_12_method_77_code
def yX10_undo : MethodName := ⟨RX10, "undo", "()I"⟩
abbrev cX10_type : ByteArray := prog_12_method_78_code
def yX10_type : MethodName := ⟨RX10, "type", "(I)I"⟩
abbrev cX10_clearText : ByteArray := prog_12_method_79_code
def yX10_clearText : MethodName := ⟨RX10, "clearText", "()I"⟩
abbrev cX10_here : ByteArray := prog_12_method_80_code
def yX10_here : MethodName := ⟨RX10, "here", "()I"⟩
abbrev cX10_must : ByteArray := prog_12_method_81_code
def yX10_must : MethodName := ⟨RX10, "must", "(I)V"⟩
abbrev cX10_readNumber : ByteArray := prog_12_method_82_code
def yX10_readNumber : MethodName := ⟨RX10, "readNumber", "()I"⟩
abbrev cX10_wordOf : ByteArray := prog_12_method_83_code
def yX10_wordOf : MethodName := ⟨RX10, "wordOf", "(I)J"⟩
abbrev cX10_readWord : ByteArray := prog_12_method_84_code
def yX10_readWord : MethodName := ⟨RX10, "readWord", "()I"⟩
abbrev cX10_command : ByteArray := prog_12_method_85_code
def yX10_command : MethodName := ⟨RX10, "command", "()I"⟩
abbrev cX10_does : ByteArray := prog_12_method_86_code
def yX10_does : MethodName := ⟨RX10, "does", "()I"⟩
abbrev cX10_fault : ByteArray := prog_12_method_87_code
def yX10_fault : MethodName := ⟨RX10, "fault", "(I)I"⟩
abbrev cX10_play : ByteArray := prog_12_method_88_code
def yX10_play : MethodName := ⟨RX10, "play", "()I"⟩
def RJxe99ae : String := "java/lang/Double"
def TJxe99ae : u_T := fun k => match k with
  | _ => ("", "", "", false)
def tyJxe99ae : Nat → FieldType := fun k => match k with
  | _ => .int
theorem nmJxe99ae : ∀ a, a < 0 → ∀ b, b < 0 → a ≠ b → (TJxe99ae a).2.1 ≠ (TJxe99ae b).2.1 := by decide +kernel
theorem tyJxe99ae_ok : ∀ k, k < 0 → parseFieldDescriptor (TJxe99ae k).2.2.1 = some (tyJxe99ae k) := by decide +kernel
abbrev cJxe99ae_isNaN_b9ae7 : ByteArray := prog_13_method_6_code
def yJxe99ae_isNaN_b9ae7 : MethodName := ⟨RJxe99ae, "isNaN", "(D)Z"⟩
abbrev cJxe99ae_doubleToLongBits_ccdee : ByteArray := prog_13_method_23_code
def yJxe99ae_doubleToLongBits_ccdee : MethodName := ⟨RJxe99ae, "doubleToLongBits", "(D)J"⟩
def RJx29ce0 : String := "java/lang/Enum"
def TJx29ce0 : u_T := fun k => match k with
  | _ => ("", "", "", false)
def tyJx29ce0 : Nat → FieldType := fun k => match k with
  | _ => .int
theorem nmJx29ce0 : ∀ a, a < 0 → ∀ b, b < 0 → a ≠ b → (TJx29ce0 a).2.1 ≠ (TJx29ce0 b).2.1 := by decide +kernel
theorem tyJx29ce0_ok : ∀ k, k < 0 → parseFieldDescriptor (TJx29ce0 k).2.2.1 = some (tyJx29ce0 k) := by decide +kernel
abbrev cJx29ce0_ordinal_8abf5 : ByteArray := prog_14_method_2_code
def yJx29ce0_ordinal_8abf5 : MethodName := ⟨RJx29ce0, "ordinal", "()I"⟩
def RJxf58ca : String := "java/lang/Float"
def TJxf58ca : u_T := fun k => match k with
  | _ => ("", "", "", false)
def tyJxf58ca : Nat → FieldType := fun k => match k with
  | _ => .int
theorem nmJxf58ca : ∀ a, a < 0 → ∀ b, b < 0 → a ≠ b → (TJxf58ca a).2.1 ≠ (TJxf58ca b).2.1 := by decide +kernel
theorem tyJxf58ca_ok : ∀ k, k < 0 → parseFieldDescriptor (TJxf58ca k).2.2.1 = some (tyJxf58ca k) := by decide +kernel
abbrev cJxf58ca_isNaN_12338 : ByteArray := prog_15_method_6_code
def yJxf58ca_isNaN_12338 : MethodName := ⟨RJxf58ca, "isNaN", "(F)Z"⟩
abbrev cJxf58ca_floatToIntBits_5c35a : ByteArray := prog_15_method_24_code
def yJxf58ca_floatToIntBits_5c35a : MethodName := ⟨RJxf58ca, "floatToIntBits", "(F)I"⟩
def RJ9 : String := "java/lang/Math"
def TJ9 : u_T := fun k => match k with
  | _ => ("", "", "", false)
def tyJ9 : Nat → FieldType := fun k => match k with
  | _ => .int
theorem nmJ9 : ∀ a, a < 0 → ∀ b, b < 0 → a ≠ b → (TJ9 a).2.1 ≠ (TJ9 b).2.1 := by decide +kernel
theorem tyJ9_ok : ∀ k, k < 0 → parseFieldDescriptor (TJ9 k).2.2.1 = some (tyJ9 k) := by decide +kernel
abbrev cJ9_floorMod_7cf53 : ByteArray := prog_16_method_50_code
def yJ9_floorMod_7cf53 : MethodName := ⟨RJ9, "floorMod", "(II)I"⟩
def RJ0 : String := "java/lang/String"
def TJ0 : u_T := fun k => match k with
  | _ => ("", "", "", false)
def tyJ0 : Nat → FieldType := fun k => match k with
  | _ => .int
theorem nmJ0 : ∀ a, a < 0 → ∀ b, b < 0 → a ≠ b → (TJ0 a).2.1 ≠ (TJ0 b).2.1 := by decide +kernel
theorem tyJ0_ok : ∀ k, k < 0 → parseFieldDescriptor (TJ0 k).2.2.1 = some (tyJ0 k) := by decide +kernel
abbrev cJ0_length_8abf5 : ByteArray := prog_17_method_54_code
def yJ0_length_8abf5 : MethodName := ⟨RJ0, "length", "()I"⟩
abbrev cJ0_charAt_5068e : ByteArray := prog_17_method_56_code
def yJ0_charAt_5068e : MethodName := ⟨RJ0, "charAt", "(I)C"⟩
abbrev cJ0_coder_7d493 : ByteArray := prog_17_method_152_code
def yJ0_coder_7d493 : MethodName := ⟨RJ0, "coder", "()B"⟩
abbrev cJ0_isLatin1_aae02 : ByteArray := prog_17_method_154_code
def yJ0_isLatin1_aae02 : MethodName := ⟨RJ0, "isLatin1", "()Z"⟩
abbrev cJ0_checkIndex_df160 : ByteArray := prog_17_method_155_code
def yJ0_checkIndex_df160 : MethodName := ⟨RJ0, "checkIndex", "(II)V"⟩
def RJ1 : String := "java/lang/StringLatin1"
def TJ1 : u_T := fun k => match k with
  | _ => ("", "", "", false)
def tyJ1 : Nat → FieldType := fun k => match k with
  | _ => .int
theorem nmJ1 : ∀ a, a < 0 → ∀ b, b < 0 → a ≠ b → (TJ1 a).2.1 ≠ (TJ1 b).2.1 := by decide +kernel
theorem tyJ1_ok : ∀ k, k < 0 → parseFieldDescriptor (TJ1 k).2.2.1 = some (tyJ1 k) := by decide +kernel
abbrev cJ1_charAt_3b067 : ByteArray := prog_18_method_2_code
def yJ1_charAt_3b067 : MethodName := ⟨RJ1, "charAt", "([BI)C"⟩
def RJ2 : String := "java/lang/StringUTF16"
def TJ2 : u_T := fun k => match k with
  | _ => ("", "", "", false)
def tyJ2 : Nat → FieldType := fun k => match k with
  | _ => .int
theorem nmJ2 : ∀ a, a < 0 → ∀ b, b < 0 → a ≠ b → (TJ2 a).2.1 ≠ (TJ2 b).2.1 := by decide +kernel
theorem tyJ2_ok : ∀ k, k < 0 → parseFieldDescriptor (TJ2 k).2.2.1 = some (tyJ2 k) := by decide +kernel
abbrev cJ2_getChar_3b067 : ByteArray := prog_19_method_5_code
def yJ2_getChar_3b067 : MethodName := ⟨RJ2, "getChar", "([BI)C"⟩
abbrev cJ2_length_9d52b : ByteArray := prog_19_method_6_code
def yJ2_length_9d52b : MethodName := ⟨RJ2, "length", "([B)I"⟩
abbrev cJ2_charAt_3b067 : ByteArray := prog_19_method_83_code
def yJ2_charAt_3b067 : MethodName := ⟨RJ2, "charAt", "([BI)C"⟩
abbrev cJ2_checkIndex_2214a : ByteArray := prog_19_method_91_code
def yJ2_checkIndex_2214a : MethodName := ⟨RJ2, "checkIndex", "(I[B)V"⟩
def RJ3 : String := "jdk/internal/util/Preconditions"
def TJ3 : u_T := fun k => match k with
  | _ => ("", "", "", false)
def tyJ3 : Nat → FieldType := fun k => match k with
  | _ => .int
theorem nmJ3 : ∀ a, a < 0 → ∀ b, b < 0 → a ≠ b → (TJ3 a).2.1 ≠ (TJ3 b).2.1 := by decide +kernel
theorem tyJ3_ok : ∀ k, k < 0 → parseFieldDescriptor (TJ3 k).2.2.1 = some (tyJ3 k) := by decide +kernel
abbrev cJ3_checkIndex_8e157 : ByteArray := prog_20_method_11_code
def yJ3_checkIndex_8e157 : MethodName := ⟨RJ3, "checkIndex", "(IILjava/util/function/BiFunction;)I"⟩
def RL : String := "LockerChainsLaw"
abbrev cL_law : ByteArray := code
def yL_law : MethodName := ⟨RL, "law", "([I)Z"⟩
abbrev vwCl : List vw_C := [(RX1, TX1, 10), (RX2, TX2, 3), (RX3, TX3, 3), (RX4, TX4, 7), (RX5, TX5, 8), (RX6, TX6, 5), (RX7, TX7, 6), (RX9, TX9, 4), (RX10, TX10, 12)]
