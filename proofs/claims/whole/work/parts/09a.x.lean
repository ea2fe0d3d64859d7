/-! the claim -/
theorem nwh_0 : Cond.fieldLinkNest "LockerChains" 108 "LockerChains$History" "states" "I" "LockerChains" ∈ lw_tbl := zw_1 (List.mem_of_getElem? (i := 172) (by decide +kernel))
theorem nwh_1 : Cond.fieldLinkNest "LockerChains" 111 "LockerChains$Text" "length" "I" "LockerChains" ∈ lw_tbl := zw_1 (List.mem_of_getElem? (i := 189) (by decide +kernel))
theorem nwh_2 : Cond.fieldLinkNest "LockerChains" 160 "LockerChains$Rehearsal" "reason" "I" "LockerChains" ∈ lw_tbl := zw_1 (List.mem_of_getElem? (i := 225) (by decide +kernel))
theorem nwh_3 : Cond.fieldLinkNest "LockerChains" 163 "LockerChains$Rehearsal" "place" "I" "LockerChains" ∈ lw_tbl := zw_1 (List.mem_of_getElem? (i := 223) (by decide +kernel))
theorem nwh_4 : Cond.fieldLinkNest "LockerChains" 166 "LockerChains$Rehearsal" "cause" "I" "LockerChains" ∈ lw_tbl := zw_1 (List.mem_of_getElem? (i := 227) (by decide +kernel))
theorem nwh_5 : Cond.fieldLinkNest "LockerChains" 169 "LockerChains$Rehearsal" "trial" "LLockerChains$Hall;" "LockerChains" ∈ lw_tbl := zw_1 (List.mem_of_getElem? (i := 221) (by decide +kernel))
theorem nwh_6 : Cond.fieldLinkNest "LockerChains" 175 "LockerChains$Rehearsal" "commands" "I" "LockerChains" ∈ lw_tbl := zw_1 (List.mem_of_getElem? (i := 229) (by decide +kernel))
theorem nwh_7 : Cond.fieldLinkNest "LockerChains" 92 "LockerChains$Hall" "waiting" "LLockerChains$Line;" "LockerChains" ∈ lw_tbl := zw_1 (List.mem_of_getElem? (i := 131) (by decide +kernel))
theorem nwh_8 : Cond.fieldLinkNest "LockerChains" 96 "LockerChains$Line" "length" "I" "LockerChains" ∈ lw_tbl := zw_1 (List.mem_of_getElem? (i := 46) (by decide +kernel))
theorem nwh_9 : Cond.fieldLinkNest "LockerChains$Hall" 105 "LockerChains$Line" "length" "I" "LockerChains" ∈ lw_tbl := zw_1 (List.mem_of_getElem? (i := 45) (by decide +kernel))
theorem nwh_10 : Cond.fieldLinkNest "LockerChains$Hall" 112 "LockerChains$Locker" "number" "I" "LockerChains" ∈ lw_tbl := zw_1 (List.mem_of_getElem? (i := 61) (by decide +kernel))
theorem nwh_11 : Cond.fieldLinkNest "LockerChains$Hall" 127 "LockerChains$Person" "renewals" "I" "LockerChains" ∈ lw_tbl := zw_1 (List.mem_of_getElem? (i := 101) (by decide +kernel))
theorem nwh_12 : Cond.fieldLinkNest "LockerChains$Hall" 130 "LockerChains$Person" "due" "I" "LockerChains" ∈ lw_tbl := zw_1 (List.mem_of_getElem? (i := 99) (by decide +kernel))
theorem nwh_13 : Cond.fieldLinkNest "LockerChains$Hall" 133 "LockerChains$Person" "keysLost" "I" "LockerChains" ∈ lw_tbl := zw_1 (List.mem_of_getElem? (i := 108) (by decide +kernel))
theorem nwh_14 : Cond.fieldLinkNest "LockerChains$Hall" 136 "LockerChains$Locker" "spareKey" "Z" "LockerChains" ∈ lw_tbl := zw_1 (List.mem_of_getElem? (i := 69) (by decide +kernel))
theorem nwh_15 : Cond.fieldLinkNest "LockerChains$Hall" 142 "LockerChains$Locker" "opensOn" "I" "LockerChains" ∈ lw_tbl := zw_1 (List.mem_of_getElem? (i := 71) (by decide +kernel))
theorem nwh_16 : Cond.fieldLinkNest "LockerChains$Hall" 145 "LockerChains$Person" "number" "I" "LockerChains" ∈ lw_tbl := zw_1 (List.mem_of_getElem? (i := 95) (by decide +kernel))
theorem nwh_17 : Cond.fieldLinkNest "LockerChains$Hall" 167 "LockerChains$Locker" "holder" "I" "LockerChains" ∈ lw_tbl := zw_1 (List.mem_of_getElem? (i := 67) (by decide +kernel))
theorem nwh_18 : Cond.fieldLinkNest "LockerChains$Hall" 178 "LockerChains$Person" "paid" "I" "LockerChains" ∈ lw_tbl := zw_1 (List.mem_of_getElem? (i := 106) (by decide +kernel))
theorem nwh_19 : Cond.fieldLinkNest "LockerChains$Hall" 190 "LockerChains$Person" "lockersOpened" "I" "LockerChains" ∈ lw_tbl := zw_1 (List.mem_of_getElem? (i := 110) (by decide +kernel))
theorem nwh_20 : Cond.fieldLinkNest "LockerChains$Hall" 203 "LockerChains$Locker" "timesLent" "I" "LockerChains" ∈ lw_tbl := zw_1 (List.mem_of_getElem? (i := 73) (by decide +kernel))
theorem nwh_21 : Cond.fieldLinkNest "LockerChains$Hall" 71 "LockerChains$Person" "locker" "I" "LockerChains" ∈ lw_tbl := zw_1 (List.mem_of_getElem? (i := 97) (by decide +kernel))
theorem nwh_22 : Cond.fieldLinkNest "LockerChains$Hall" 78 "LockerChains$Locker" "size" "I" "LockerChains" ∈ lw_tbl := zw_1 (List.mem_of_getElem? (i := 63) (by decide +kernel))
theorem nwh_23 : Cond.fieldLinkNest "LockerChains$Hall" 81 "LockerChains$Locker" "standing" "Z" "LockerChains" ∈ lw_tbl := zw_1 (List.mem_of_getElem? (i := 65) (by decide +kernel))
theorem nwh_24 : Cond.fieldLinkNest "LockerChains$Hall" 95 "LockerChains$Person" "owed" "I" "LockerChains" ∈ lw_tbl := zw_1 (List.mem_of_getElem? (i := 104) (by decide +kernel))
theorem nwh_25 : Cond.fieldLinkNest "LockerChains$Rehearsal" 30 "LockerChains$Person" "owed" "I" "LockerChains" ∈ lw_tbl := zw_1 (List.mem_of_getElem? (i := 102) (by decide +kernel))
theorem nwh_26 : Cond.fieldLinkNest "LockerChains$Rehearsal" 49 "LockerChains$Text" "length" "I" "LockerChains" ∈ lw_tbl := zw_1 (List.mem_of_getElem? (i := 188) (by decide +kernel))
theorem nwh_27 : Cond.fieldLinkNest "LockerChains$Rehearsal" 62 "LockerChains$Text" "verb" "LLockerChains$Verb;" "LockerChains" ∈ lw_tbl := zw_1 (List.mem_of_getElem? (i := 191) (by decide +kernel))
theorem nwh_28 : Cond.fieldLinkNest "LockerChains$Rehearsal" 66 "LockerChains$Text" "first" "I" "LockerChains" ∈ lw_tbl := zw_1 (List.mem_of_getElem? (i := 193) (by decide +kernel))
theorem nwh_29 : Cond.fieldLinkNest "LockerChains$Rehearsal" 69 "LockerChains$Text" "second" "I" "LockerChains" ∈ lw_tbl := zw_1 (List.mem_of_getElem? (i := 194) (by decide +kernel))
theorem nwh_30 : Cond.fieldLinkNest "LockerChains$Rehearsal" 76 "LockerChains$Text" "end" "I" "LockerChains" ∈ lw_tbl := zw_1 (List.mem_of_getElem? (i := 197) (by decide +kernel))
theorem nwh_31 : Cond.fieldLinkNest "LockerChains$Text" 27 "LockerChains$Verb" "word" "Ljava/lang/String;" "LockerChains" ∈ lw_tbl := zw_5 (List.mem_of_getElem? (i := 183) (by decide +kernel))
theorem nwh_32 : Cond.fieldLinkNest "LockerChains$Text" 41 "LockerChains$Verb" "numbers" "I" "LockerChains" ∈ lw_tbl := zw_5 (List.mem_of_getElem? (i := 186) (by decide +kernel))
theorem nwh_33 : Cond.methodLinkNest "LockerChains" 25 ⟨"LockerChains$Text", "<init>", "()V"⟩ "LockerChains" ∈ lw_tbl := zw_1 (List.mem_of_getElem? (i := 182) (by decide +kernel))
theorem nwh_34 : Cond.methodLinkNest "LockerChains" 32 ⟨"LockerChains$Rehearsal", "<init>", "()V"⟩ "LockerChains" ∈ lw_tbl := zw_1 (List.mem_of_getElem? (i := 214) (by decide +kernel))
theorem nwh_35 : Cond.methodLinkNest "LockerChains$Hall" 25 ⟨"LockerChains$Line", "<init>", "()V"⟩ "LockerChains" ∈ lw_tbl := zw_1 (List.mem_of_getElem? (i := 38) (by decide +kernel))
theorem nwh_36 : Cond.methodLinkNest "LockerChains$Rehearsal" 18 ⟨"LockerChains$Hall", "personAt", "(I)LLockerChains$Person;"⟩ "LockerChains" ∈ lw_tbl := zw_3 (List.mem_of_getElem? (i := 83) (by decide +kernel))
theorem nwh_37 : Cond.instantiable RX1 10 ∈ zWL := zw_in (zw_1 (List.mem_of_getElem? (i := 27) (by decide +kernel))) rfl
theorem nwh_38 : Cond.instantiable RX2 3 ∈ zWL := zw_in (zw_1 (List.mem_of_getElem? (i := 161) (by decide +kernel))) rfl
theorem nwh_39 : Cond.instantiable RX3 3 ∈ zWL := zw_in (zw_1 (List.mem_of_getElem? (i := 37) (by decide +kernel))) rfl
theorem nwh_40 : Cond.instantiable RX4 7 ∈ zWL := zw_in (zw_1 (List.mem_of_getElem? (i := 55) (by decide +kernel))) rfl
theorem nwh_41 : Cond.instantiable RX5 8 ∈ zWL := zw_in (zw_1 (List.mem_of_getElem? (i := 89) (by decide +kernel))) rfl
theorem nwh_42 : Cond.instantiable RX6 5 ∈ zWL := zw_in (zw_1 (List.mem_of_getElem? (i := 213) (by decide +kernel))) rfl
theorem nwh_43 : Cond.instantiable RX7 6 ∈ zWL := zw_in (zw_1 (List.mem_of_getElem? (i := 181) (by decide +kernel))) rfl
theorem nwh_44 : Cond.instantiable RX9 4 ∈ zWL := zw_in (zw_1 (List.mem_of_getElem? (i := 19) (by decide +kernel))) rfl
theorem nwh_45 : Cond.instantiable RX10 12 ∈ zWL := zw_in (zw_4 (List.mem_of_getElem? (i := 14) (by decide +kernel))) rfl
theorem nwh_46 : Cond.arrayClass .int ∈ zWL := zw_in (zw_1 (List.mem_of_getElem? (i := 54) (by decide +kernel))) rfl
theorem nwh_47 : Cond.arrayClass .char ∈ zWL := zw_in (zw_1 (List.mem_of_getElem? (i := 211) (by decide +kernel))) rfl
theorem nwh_48 : Cond.arrayOver (.object "LockerChains$Locker") ∈ lw_tbl := zw_1 (List.mem_of_getElem? (i := 33) (by decide +kernel))
theorem nwh_49 : Cond.arrayOver (.object "LockerChains$Person") ∈ lw_tbl := zw_1 (List.mem_of_getElem? (i := 35) (by decide +kernel))
theorem nwh_50 : Cond.arrayOver (.object "LockerChains$Hall") ∈ lw_tbl := zw_1 (List.mem_of_getElem? (i := 167) (by decide +kernel))
theorem nwh_51 : Cond.classLink RL 7 RX9 ∈ zWL := zw_in (zw_1 (List.mem_of_getElem? (i := 18) (by decide +kernel))) rfl
theorem nwh_52 : Cond.initialized RX9 ∈ zWL := zw_in (zw_1 (List.mem_of_getElem? (i := 1) (by decide +kernel))) rfl
theorem nwh_53 : Cond.code yX9_init cX9_init 1 none ∈ zWL := zw_in (zw_1 (List.mem_of_getElem? (i := 22) (by decide +kernel))) rfl
theorem nwh_54 : Cond.instanceMethod yX9_init ∈ zWL := zw_in (zw_1 (List.mem_of_getElem? (i := 21) (by decide +kernel))) rfl
theorem nwh_55 : Cond.methodLink RL 9 yX9_init ∈ zWL := zw_in (zw_1 (List.mem_of_getElem? (i := 20) (by decide +kernel))) rfl
theorem nwh_56 : Cond.classLink RL 10 RX10 ∈ zWL := zw_in (zw_4 (List.mem_of_getElem? (i := 13) (by decide +kernel))) rfl
theorem nwh_57 : Cond.initialized RX10 ∈ zWL := zw_in (zw_1 (List.mem_of_getElem? (i := 9) (by decide +kernel))) rfl
theorem nwh_58 : Cond.code yX10_init cX10_init 1 none ∈ zWL := zw_in (zw_4 (List.mem_of_getElem? (i := 17) (by decide +kernel))) rfl
theorem nwh_59 : Cond.instanceMethod yX10_init ∈ zWL := zw_in (zw_4 (List.mem_of_getElem? (i := 16) (by decide +kernel))) rfl
theorem nwh_60 : Cond.methodLink RL 12 yX10_init ∈ zWL := zw_in (zw_4 (List.mem_of_getElem? (i := 15) (by decide +kernel))) rfl
theorem ks_zN {b : Addr} {s : State} (hts : ∀ w ∈ lw_tbl, w.before #[Value.ref b] s = true) : zN s := by
  refine ⟨fun q hq => ?_, fun q hq => ?_⟩
  · simp only [zNF, List.mem_cons, List.not_mem_nil, or_false] at hq
    rcases hq with rfl | rfl | rfl | rfl | rfl | rfl | rfl | rfl | rfl | rfl | rfl | rfl | rfl | rfl | rfl | rfl | rfl | rfl | rfl | rfl | rfl | rfl | rfl | rfl | rfl | rfl | rfl | rfl | rfl | rfl | rfl | rfl | rfl
    · exact va_Nw.of rfl (hts _ nwh_0)
    · exact va_Nw.of rfl (hts _ nwh_1)
    · exact va_Nw.of rfl (hts _ nwh_2)
    · exact va_Nw.of rfl (hts _ nwh_3)
    · exact va_Nw.of rfl (hts _ nwh_4)
    · exact va_Nw.of rfl (hts _ nwh_5)
    · exact va_Nw.of rfl (hts _ nwh_6)
    · exact va_Nw.of rfl (hts _ nwh_7)
    · exact va_Nw.of rfl (hts _ nwh_8)
    · exact va_Nw.of rfl (hts _ nwh_9)
    · exact va_Nw.of rfl (hts _ nwh_10)
    · exact va_Nw.of rfl (hts _ nwh_11)
    · exact va_Nw.of rfl (hts _ nwh_12)
    · exact va_Nw.of rfl (hts _ nwh_13)
    · exact va_Nw.of rfl (hts _ nwh_14)
    · exact va_Nw.of rfl (hts _ nwh_15)
    · exact va_Nw.of rfl (hts _ nwh_16)
    · exact va_Nw.of rfl (hts _ nwh_17)
    · exact va_Nw.of rfl (hts _ nwh_18)
    · exact va_Nw.of rfl (hts _ nwh_19)
    · exact va_Nw.of rfl (hts _ nwh_20)
    · exact va_Nw.of rfl (hts _ nwh_21)
    · exact va_Nw.of rfl (hts _ nwh_22)
    · exact va_Nw.of rfl (hts _ nwh_23)
    · exact va_Nw.of rfl (hts _ nwh_24)
    · exact va_Nw.of rfl (hts _ nwh_25)
    · exact va_Nw.of rfl (hts _ nwh_26)
    · exact va_Nw.of rfl (hts _ nwh_27)
    · exact va_Nw.of rfl (hts _ nwh_28)
    · exact va_Nw.of rfl (hts _ nwh_29)
    · exact va_Nw.of rfl (hts _ nwh_30)
    · exact va_Nw.of rfl (hts _ nwh_31)
    · exact va_Nw.of rfl (hts _ nwh_32)
  · simp only [zNM, List.mem_cons, List.not_mem_nil, or_false] at hq
    rcases hq with rfl | rfl | rfl | rfl
    · exact va_Nw.of rfl (hts _ nwh_33)
    · exact va_Nw.of rfl (hts _ nwh_34)
    · exact va_Nw.of rfl (hts _ nwh_35)
    · exact va_Nw.of rfl (hts _ nwh_36)
set_option maxHeartbeats 4000000 in
set_option maxRecDepth 100000 in
theorem ks_wK {b : Addr} {s : State} (hts : ∀ w ∈ lw_tbl, w.before #[Value.ref b] s = true) : ∃ (D : va_G) (cs : Nat → ClassId), wK D cs s := by
  have hL : ∀ w ∈ zWL, w.before #[Value.ref b] s = true := fun w h => hts w (zw_tbl h)
  obtain ⟨k0, i0, K0⟩ := u_known (n := 10) hL inX1 (hL _ nwh_37)
  obtain ⟨k1, i1, K1⟩ := u_known (n := 3) hL inX2 (hL _ nwh_38)
  obtain ⟨k2, i2, K2⟩ := u_known (n := 3) hL inX3 (hL _ nwh_39)
  obtain ⟨k3, i3, K3⟩ := u_known (n := 7) hL inX4 (hL _ nwh_40)
  obtain ⟨k4, i4, K4⟩ := u_known (n := 8) hL inX5 (hL _ nwh_41)
  obtain ⟨k5, i5, K5⟩ := u_known (n := 5) hL inX6 (hL _ nwh_42)
  obtain ⟨k6, i6, K6⟩ := u_known (n := 6) hL inX7 (hL _ nwh_43)
  obtain ⟨k7, i7, K7⟩ := u_known (n := 4) hL inX9 (hL _ nwh_44)
  obtain ⟨k8, i8, K8⟩ := u_known (n := 12) hL inX10 (hL _ nwh_45)
  obtain ⟨c0, kA0, comp0, a01, a02, a03⟩ := Cond.arrayClass_spec (hL _ nwh_46)
  obtain ⟨c1, kA1, comp1, a11, a12, a13⟩ := Cond.arrayClass_spec (hL _ nwh_47)
  obtain ⟨comp2, c2, kA2, b21, -, b23, b24, b25⟩ := Cond.arrayOver_spec (hts _ nwh_48)
  obtain ⟨comp3, c3, kA3, b31, -, b33, b34, b35⟩ := Cond.arrayOver_spec (hts _ nwh_49)
  obtain ⟨comp4, c4, kA4, b41, -, b43, b44, b45⟩ := Cond.arrayOver_spec (hts _ nwh_50)
  refine ⟨(fun c => match c with | 0 => k0 | 1 => k1 | 2 => k2 | 3 => k3 | 4 => k4 | 5 => k5 | 6 => k6 | 7 => k7 | _ => k8, fun c => match c with | 0 => i0 | 1 => i1 | 2 => i2 | 3 => i3 | 4 => i4 | 5 => i5 | 6 => i6 | 7 => i7 | _ => i8), fun j => match j with | 0 => c0 | 1 => c1 | 2 => c2 | 3 => c3 | _ => c4, ⟨fun c q hq => ?_, fun k q hq => ?_⟩, ks_zN hts, fun C hC => ?_⟩
  · match c, hq with
    | 0, hq => cases hq; exact K0
    | 1, hq => cases hq; exact K1
    | 2, hq => cases hq; exact K2
    | 3, hq => cases hq; exact K3
    | 4, hq => cases hq; exact K4
    | 5, hq => cases hq; exact K5
    | 6, hq => cases hq; exact K6
    | 7, hq => cases hq; exact K7
    | 8, hq => cases hq; exact K8
    | c + 9, hq => simp at hq
  · match k, hq with
    | 0, hq => cases hq; exact ⟨fun n z => ⟨fun k h => (by cases h), kA0, a02, comp0, a03⟩, a01⟩
    | 1, hq => cases hq; exact ⟨fun n z => ⟨fun k h => (by cases h), kA1, a12, comp1, a13⟩, a11⟩
    | 2, hq => cases hq; exact ⟨fun n z => ⟨fun k h => (by cases h), kA2, b23, comp2, b24⟩, kA2, comp2, b23, b24, b21, b25⟩
    | 3, hq => cases hq; exact ⟨fun n z => ⟨fun k h => (by cases h), kA3, b33, comp3, b34⟩, kA3, comp3, b33, b34, b31, b35⟩
    | 4, hq => cases hq; exact ⟨fun n z => ⟨fun k h => (by cases h), kA4, b43, comp4, b44⟩, kA4, comp4, b43, b44, b41, b45⟩
    | k + 5, hq => simp at hq
  · simp only [nAO, List.mem_cons, List.not_mem_nil, or_false] at hC
    rcases hC with rfl | rfl | rfl
    · exact va_AO.of (hts _ nwh_48)
    · exact va_AO.of (hts _ nwh_49)
    · exact va_AO.of (hts _ nwh_50)
/-! THE CLAIM OUT OF ONE WALK OF THE LAW'S BODY. Your part is whole_start (and what it stands on); all else here is the same for every law, but numbers. -/
def R_law : String := "LockerChainsLaw"
def lw_P (b : Addr) (xs : List Int32) (args : Array Value) (s : State) : Prop := args = #[.ref b] ∧ s.IntsAt b xs ∧ xs.length ≤ 1536 ∧ (Jvm.Cond.and given_1 narrow_1).before args s = true
/-- what a walk over the start with the record d0 says of its end, said of the start itself -/
theorem lw_closed {s t : State} {o : Outcome} {d0 : Drawn} {L : List Loc} {k n : Nat} (hd0 : s.drawn.sameBut d0 lw_cs) (hv : ∃ v, o = .returned v) (hW : (s.setDrawn d0).WarmedH t.vm) (hs : (s.setDrawn d0).sameButNew ({ t with vm := s.vm } : State) L k n) : State.butDraws s t lw_cs (fun t1 => Framed s o t1 L k n) := by
  have h2 : t.drawn = d0 := congrArg State.drawn hs.1
  refine ⟨⟨hv, hW, State.sameButNew.setDrawn hs s.drawn⟩, ?_, by decide⟩
  rw [h2]
  exact hd0
def lw_Q (_ : Array Value) (s : State) (o : Outcome) (t : State) : Prop := o = .returned (some (.int 1)) ∧ State.butDraws s t lw_cs (fun t1 => Framed s o t1 [] 600000 7302250)
def lw_Z (below : List Frame) (a : Array Value) (s : State) : State → Prop := fun t => ∃ o, t.status = .running ∧ Ended t below o ∧ lw_Q a s o t
/-- the law's own end, with 1 on the stack, nothing written that was there before, its room as the claim has it; d0: the record of draws at this point (at the entry s.drawn: begin with 'refine W.base ?_' and 'have hd0 := Drawn.sameBut.refl s.drawn lw_cs') -/
theorem lw_ret {p : Program} {l : Launch} {e : Env} {s : State} {m : MethodId} {below : List Frame} {meth : Method} {c : Code} {b : Nat} {d0 : Drawn} (hd0 : s.drawn.sameBut d0 lw_cs) (hx : p.tables.exec = Jvm.exec) (hb : c.code = code) (hr : meth.sig.returnType = ret) (hlocks : meth.locks = false) {pc : Nat} {H : Heap} {ls : Array Slot} (hdg : decode code pc = .ok (.ireturn, 1)) : W p l e room_1 (s.setDrawn d0) m #[Value.ref b] below meth c H [] 600000 7302250 (lw_Z below #[Value.ref b] s) (F0 m pc ls [.int 1]) := by
  intro T hT X
  obtain ⟨fs, hret, hrun, hended, hW, hframe⟩ := X.leave (v := some (.int 1)) (hlocks := hlocks) (fun h => by rw [hr] at h; cases h)
  have hmeth' : T.vm.method? m = some meth := X.method'
  refine ⟨T.setFrames fs, ?_, .returned (some (.int 1)), hrun, hended, rfl, lw_closed hd0 ⟨_, rfl⟩ hW hframe⟩
  jvm_step X.here [X.here.top, hx, hb, hdg, hmeth', hr, ret, narrow_b1]
  (try refine ⟨rfl, ?_⟩); (try refine ⟨rfl, ?_⟩)
  first | (intro acts; rw [hret _ acts rfl rfl rfl]) | rw [hret _ _ rfl rfl rfl]
  exact Steps.refl _
/-- what holds at the law's entry: the machine, the code, the tables' words (any of lw_tbl by 'hts w (by decide +kernel)'), the script of L ints xs at the cell b, what the Statement gives of the start (any of its parts by flat_of_before) -/
def lw_At (p : Program) (s : State) (m : MethodId) (meth : Method) (c : Code) (b L : Nat) (xs : Nat → Int32) : Prop :=
  p.tables.exec = Jvm.exec ∧ c.code = code ∧ meth.sig.returnType = ret ∧ c.maxLocals = 4 ∧ s.vm.findClass R_law = some m.cls ∧ (∀ w ∈ lw_tbl, w.before #[Value.ref b] s = true) ∧ va_X b L xs s s.heap ∧ b < s.heap.size ∧ meth.locks = false ∧ (Jvm.Cond.and given_1 narrow_1).before #[Value.ref b] s = true
set_option maxHeartbeats 4000000 in
set_option maxRecDepth 100000 in
theorem whole_start {p : Program} {e : Env} {s : State} {m : MethodId} {below : List Frame} {meth : Method} {c : Code} (l : Launch) (hflags : l.flags = flags0) {b L : Nat} {xs : Nat → Int32} (hL : L ≤ 1536) (C0 : lw_At p s m meth c b L xs) : W p l e room_1 s m #[Value.ref b] below meth c s.heap [] 0 0 (lw_Z below #[Value.ref b] s) (entryFrame m ([Value.ref b] : List Value).toArray 4) := by
  obtain ⟨hx, hb, hr, hml, hown, hts, hX, hbl, hlocks, hgv⟩ := C0
  have hLn := hL
  replace hL : ∀ w ∈ zWL, w.before #[Value.ref b] s = true := fun w h => hts w (zw_tbl h)
  obtain ⟨D, cs, hK⟩ := ks_wK hts
  obtain ⟨E, fm, hE⟩ := st_zE hgv hts
  have hKG : zK (gG s.heap.size D cs E (zsZ E fm) (zsO E) (zsF E) (zsT E)) (nA s.heap.size) s := ⟨hK.1, gG_zI, hK.2.1, hE _ _ _⟩
  have hl := lv_entry [Value.ref b] (n := 4) (Nat.le_of_ble_eq_true rfl)
  rw [lg_entry_eq]
  generalize (lg_sl [Value.ref b] ++ List.replicate (4 - (lg_sl [Value.ref b]).length) Slot.unset).toArray = ls at hl ⊢
  have hl : lv_has ls 4 [(0, .ref b)] := hl
  have hW : wW D s.heap.size 0 (fun _ => .inr (0, [])) s.heap := ⟨rfl, fun j hj => absurd hj (by omega)⟩
  have hS : va_S (nA s.heap.size) s.heap s.heap [] := va_S.rf
  refine nw_new (ci := 7) (fs := [.null, .null, .null, .null]) (C := RX9) (T := TX9) (N := 4) (own := RL) (n := 0) hx hb hL inX9 tyX9 tyX9_ok hown nwh_51 nwh_44 nwh_52 hK hW hS rfl (fun j hj => by match j, hj with | 0, _ => rfl | 1, _ => rfl | 2, _ => rfl | 3, _ => rfl | q + 4, hj => exact absurd hj (by omega)) (Nat.le_of_ble_eq_true rfl) (Nat.le_of_ble_eq_true rfl) dL_law_0 (fun H hW hS => ?_)
  refine lv_dup hx hb dL_law_3 rfl ?_
  refine nw_call (As := []) (nn := 0) (own := RL) hx hb hml hown hL hK hW hS (fE_s _ _ _) (nk_X9 (s.heap.size + 0)) nwh_53 nwh_54 nwh_52 nwh_55 rfl (by decide +kernel) ⟨rfl, rfl⟩ ⟨Nat.le_of_ble_eq_true rfl, Nat.le_of_ble_eq_true rfl⟩ rfl hl.1 rfl (by simp [Value.category]) dL_law_4 ⟨Nat.le_of_ble_eq_true rfl, Nat.le_of_ble_eq_true rfl⟩ (fun H locs hW hS => ?_)
  have hW : wW D s.heap.size 237 (lcF s.heap.size cs (lcR s.heap.size)) H := wW_e hW (fun j _ => by unfold fG; rw [if_neg (by omega), Nat.sub_zero]; rfl)
  refine lv_astore_n (lv' := [(1, .ref (s.heap.size + 0)), (0, .ref b)]) hx hb dL_law_7 rfl hl (by decide) rfl (fun ls hl => ?_)
  refine nw_new (ci := 8) (fs := [.null, .null, .null, .null, .int 0, .null, .int 0, .int 0, .int 0, .int 0, .int 0, .null]) (C := RX10) (T := TX10) (N := 12) (own := RL) (n := 237) hx hb hL inX10 tyX10 tyX10_ok hown nwh_56 nwh_45 nwh_57 hK hW hS rfl (fun j hj => by match j, hj with | 0, _ => rfl | 1, _ => rfl | 2, _ => rfl | 3, _ => rfl | 4, _ => rfl | 5, _ => rfl | 6, _ => rfl | 7, _ => rfl | 8, _ => rfl | 9, _ => rfl | 10, _ => rfl | 11, _ => rfl | q + 12, hj => exact absurd hj (by omega)) (Nat.le_of_ble_eq_true rfl) (Nat.le_of_ble_eq_true rfl) dL_law_8 (fun H hW hS => ?_)
  refine lv_dup hx hb dL_law_11 rfl ?_
  refine nw_call (As := []) (nn := 0) (own := RL) hx hb hml hown hL hK hW hS (fE_s _ _ _) (nk_X10 (s.heap.size + 237)) nwh_58 nwh_59 nwh_57 nwh_60 rfl (by decide +kernel) ⟨rfl, rfl⟩ ⟨Nat.le_of_ble_eq_true rfl, Nat.le_of_ble_eq_true rfl⟩ rfl hl.1 rfl (by simp [Value.category]) dL_law_12 ⟨Nat.le_of_ble_eq_true rfl, Nat.le_of_ble_eq_true rfl⟩ (fun H locs hW hS => ?_)
  have hW : wW D s.heap.size 244 (allF s.heap.size cs) H := wW_e hW (fun j _ => by
    unfold allF fG
    by_cases h : j < 237
    · rw [if_pos h, if_pos h, fE_n _ _ (by omega)]
    · rw [if_neg h, if_neg h]
      rfl)
  refine lv_astore_n (lv' := [(2, .ref (s.heap.size + 237)), (1, .ref (s.heap.size + 0)), (0, .ref b)]) hx hb dL_law_15 rfl hl (by decide) rfl (fun ls hl => ?_)
  refine lv_iconst (v := nI 0) hx hb dL_law_16 (by decide) ?_
  refine lv_istore_n (lv' := [(3, .int (nI 0)), (2, .ref (s.heap.size + 237)), (1, .ref (s.heap.size + 0)), (0, .ref b)]) hx hb dL_law_17 rfl hl (by decide) rfl (fun ls hl => ?_)
  refine law_loop (G := gG s.heap.size D cs E (zsZ E fm) (zsO E) (zsF E) (zsT E)) hx hb hml hown hL hKG zs_all hX hbl hLn ?_ (L + 4) 0 V0 H locs ls (by omega) (by omega) Rel_0 (zM_0 _ _ _ _ _ _ _ _ hW) hS hl
  intro H locs ls hS
  refine lv_iconst (v := 1) hx hb dL_law_777 (by decide) ?_
  refine va_forget (fun q hq => hS.2.2 q hq) ?_
  refine W.widen (k := 600000) (n := 7302250) (Nat.le_of_ble_eq_true rfl) (Nat.le_of_ble_eq_true rfl) ?_
  exact W.base (lw_ret (d0 := s.drawn) (Drawn.sameBut.refl s.drawn lw_cs) hx hb hr hlocks dL_law_778)
set_option maxHeartbeats 4000000 in
theorem lw_walk (l : Launch) (hflags : l.flags = flags0) (b : Addr) (xs : List Int32) : MetFree l x (headSpec (Jvm.Cond.code x code maxLocals ret :: tables_1) room_1) (lw_P b xs) (fun _ _ _ _ _ => True) lw_Q := by
  refine MetFree.of_bodyS (code := code) (maxLocals := maxLocals) (ret := ret) (by decide) ?_ ?_
  · intro args s m h hn
    obtain ⟨meth, c, h1, h2, h3, h4, h5, h6, -, -⟩ := Cond.code_spec hn (atoms_spec (ws := Jvm.Cond.code x code maxLocals ret :: tables_1) h _ List.mem_cons_self)
    exact ⟨meth, c, h1, h2, h3, h4, h5, h6⟩
  · intro p e s m args below meth c s₁ B hml0 hP _
    obtain ⟨rfl, hx, hbd, hgv⟩ := hP
    obtain ⟨scr, harrAt, hlist, hof, hsmall⟩ := hx
    obtain ⟨hcb, hkn, -, -⟩ := State.arrayAt?_spec harrAt
    have hown : s.vm.findClass R_law = some m.cls := findClass_of_methodNamed B.named
    have hts0 : ∀ c ∈ (Jvm.Cond.code x code maxLocals ret :: tables_1), c.before #[Value.ref b] s = true := atoms_spec (ws := Jvm.Cond.code x code maxLocals ret :: tables_1) B.pre
    have hts : ∀ w ∈ lw_tbl, w.before #[Value.ref b] s = true := k2_hts_sels lw_privs (fun w hw => hts0 w (List.mem_cons_of_mem _ hw)) lw_privs_ok
    have hml : c.maxLocals = 4 := B.maxLocals_eq (hts0 _ List.mem_cons_self)
    have X₀ : Stand p l e room_1 s m #[Value.ref b] below meth c s₁ [] 0 0 := Stand.of_body B
    have hh0 : s₁.heap = s.heap := by rw [B.state]; rfl
    have hsz : scr.slots.size = xs.length := by rw [← Array.length_toList, hlist, List.length_map]
    have hval : ∀ j : Nat, j < xs.length → scr.slots[j]? = some (.int (xs.getD j 0)) := fun j hj => by
      rw [← Array.getElem?_toList, hlist]
      simp [hj]
    have hbl : b < s.heap.size := (Array.getElem?_eq_some_iff.mp hcb).1
    have hX : va_X b xs.length (fun j => xs.getD j 0) s s.heap := ⟨scr, hcb, hof, hkn, hsz, hval⟩
    have K : W p l e room_1 s m #[Value.ref b] below meth c s₁.heap [] 0 0 (lw_Z below #[Value.ref b] s) (entryFrame m ([Value.ref b] : List Value).toArray 4) := by
      rw [hh0]
      exact whole_start l hflags hbd ⟨B.exec, B.bytes, B.returns, hml, hown, hts, hX, hbl, B.notSynchronized, hgv⟩
    obtain ⟨t, a1, o, b1, b2, b3⟩ := K s₁ rfl X₀
    exact ⟨t, o, a1, b1, b2, b3⟩
theorem lw_pre_spec {args : Array Value} {s : State} (h : (Jvm.Cond.and given_1 narrow_1).before args s = true) (hr : rest_1_c.before args s = true) : ∃ (b : Addr) (xs : List Int32), lw_P b xs args s := by
  have hs := flat_of_before _ h
  have hq := flat_of_before _ hr
  have hc : (Cond.count 1).before args s = true := hs _ (by decide +kernel)
  have harr : (Cond.arrayOf (.arg 0) .int).before args s = true := hs _ (by decide +kernel)
  have hle : (Cond.le (.length (.arg 0)) (.int 1536)).before args s = true := hs _ (by decide +kernel)
  have hlen : (Cond.isInt (.length (.arg 0))).before args s = true := hq _ (by decide +kernel)
  have hall : (Cond.all (.arg 0) (.isInt (.elem (.arg 0) (.index 0)))).before args s = true := hq _ (by decide +kernel)
  obtain ⟨b, xs, hb, hx⟩ := State.ints_of_pre rfl harr hlen hall
  have hsm : xs.length < 2 ^ 31 := hx.choose_spec.2.2.2
  have hev : (Term.length (.arg 0)).eval args s none [] s = some (.int xs.length.toInt32) := hx.length_eval hb
  have hv := Cond.le_ints hev (show (Term.int 1536).eval args s none [] s = some (.int 1536) from rfl)
  have hd : xs.length.toInt32 ≤ 1536 := by
    simpa [Cond.before, Cond.holds, hv] using hle
  have hN : xs.length ≤ 1536 := (Int32.ofNat_le_ofNat hsm (by decide)).mp (show Int32.ofNat xs.length ≤ Int32.ofNat 1536 from hd)
  exact ⟨b, xs, Cond.one_arg hc (show args[0]? = some (.ref b) from hb), hx, hN, h⟩
theorem lw_comes (l : Launch) (hflags : l.flags = flags0) : Comes l x (Jvm.Cond.code x code maxLocals ret :: tables_1) room_1 (fun tb e args s => Calls_1 tb e args s ∧ rest_1 tb e args s ∧ Pre_1 tb e args s)
    (fun _ _ args s o t => lw_Q args s o t) := by
  intro p e ha hc hk s m args below hf hfit hheap happ hpre
  obtain ⟨b, xs, hP⟩ := lw_pre_spec hpre.2.2 hpre.2.1
  obtain ⟨k, o, h1, h2, h3, hQ⟩ := lw_walk l hflags b xs p e ha hc hk s m args below hf ((Spec.applies_iff_loose hf).mp happ).1 hP trivial
  exact ⟨k, o, h1, h2, h3, hQ⟩
theorem lw_frame {s t : State} {o : Outcome} {args : Array Value} (h : State.butDraws s t lw_cs (fun t1 => Framed s o t1 [] 600000 7302250)) :
    State.butDraws s t [Jvm.Choice.named "NaN.bits"] (fun t1 => Framed s o t1 (fieldLocs frame_1_writes args s ++ arrayLocs frame_1_arrays args s ++ staticLocs frame_1_statics s) 600000 7302250) := h
theorem lw_limb (L : Cond) (hL : ∀ (args : Array Value) (s t : State), L.after args s (.returned (some (.int 1))) t = true) :
    ArmFor flags0 classFile x code maxLocals ret World_1 tables_1 room_1 Calls_1 rest_1 Pre_1
      (fun tb e a s o t => postC L tb e a s o t ∧ State.butDraws s t [Jvm.Choice.named "NaN.bits"] (fun t1 => Framed s o t1 (fieldLocs frame_1_writes a s ++ arrayLocs frame_1_arrays a s ++ staticLocs frame_1_statics s) 600000 7302250)) := by
  intro l hflags _ _ p e ha hc hk s m args below hf hfit hheap happ hpre
  obtain ⟨k, o, h1, h2, h3, rfl, hF⟩ := lw_comes l hflags p e ha hc hk s m args below hf hfit hheap happ hpre
  exact ⟨k, _, h1, h2, h3, hL args s _, lw_frame hF⟩
theorem i_vc : Claimed_1_1 ∧ Claimed_1_2 := ⟨lw_limb limb_1_1 (fun args s t => by simp [limb_1_1, Cond.after, Cond.holds, Cond.value]), lw_limb limb_1_2 (fun args s t => Cond.after_iff.mpr (by
  first | (rw [show limb_1_2 = Cond.eq .result (.int 1) from rfl, Cond.eq_ints (x := 1) (y := 1) rfl rfl]; simp; done) | (simp [limb_1_2, Cond.value, Term.eval]; done)))⟩

