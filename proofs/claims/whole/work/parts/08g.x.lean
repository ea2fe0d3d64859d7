/-! what the start gives: the constants, their words, the tables -/
theorem nwg_0 : Cond.laysStatic "LockerChains$Text" "VERBS" "[LLockerChains$Verb;" ∈ lw_tbl := zw_3 (List.mem_of_getElem? (i := 161) (by decide +kernel))
theorem nwg_1 : Cond.initialized "LockerChains$Text" ∈ lw_tbl := zw_1 (List.mem_of_getElem? (i := 7) (by decide +kernel))
theorem nwg_2 : Cond.laysStatic "LockerChains$1" "$SwitchMap$LockerChains$Verb" "[I" ∈ lw_tbl := zw_3 (List.mem_of_getElem? (i := 231) (by decide +kernel))
theorem nwg_3 : Cond.initialized "LockerChains$1" ∈ lw_tbl := zw_1 (List.mem_of_getElem? (i := 17) (by decide +kernel))
theorem nwg_4 : Cond.laysStatic "java/lang/String" "COMPACT_STRINGS" "Z" ∈ lw_tbl := zw_3 (List.mem_of_getElem? (i := 175) (by decide +kernel))
theorem nwg_5 : Cond.initialized "java/lang/String" ∈ lw_tbl := zw_1 (List.mem_of_getElem? (i := 13) (by decide +kernel))
theorem nwg_6 : Cond.laysStatic "jdk/internal/util/Preconditions" "SIOOBE_FORMATTER" "Ljava/util/function/BiFunction;" ∈ lw_tbl := zw_3 (List.mem_of_getElem? (i := 195) (by decide +kernel))
theorem nwg_7 : Cond.initialized "jdk/internal/util/Preconditions" ∈ lw_tbl := zw_1 (List.mem_of_getElem? (i := 15) (by decide +kernel))
theorem va_T_e {ty : FieldType} {t N : Nat} {f g : Nat → Value} {A : Nat → Prop} {U : State} {H : Heap} (h : va_T ty t N f A U H) (e : ∀ j, j < N → g j = f j) : va_T ty t N g A U H := by
  obtain ⟨cell, h1, h2, h3, h4, h5, h6, h7⟩ := h
  exact ⟨cell, h1, h2, h3, h4, h5, fun j hj => by rw [e j hj]; exact h6 j hj, h7⟩
def tVb (n : String) : Term := .static "LockerChains$Verb" n "LLockerChains$Verb;"
def tSt (i : Nat) : Term := .string "LockerChains$Verb" i
def tVl (i : Nat) : Term := .field (tSt i) "java/lang/String" "value" "[B"
def zVv (v e w a : Nat) (A : Nat → Prop) (U : State) : Prop := va_O "LockerChains$Verb" e A U U.heap ∧ va_OF "LockerChains$Verb" "word" "Ljava/lang/String;" (.ref w) e A U U.heap ∧ va_OF "LockerChains$Verb" "numbers" "I" (.int (wnum v)) e A U U.heap ∧ va_OF "java/lang/Enum" "ordinal" "I" (.int (nI v)) e A U U.heap ∧ va_O "java/lang/String" w A U U.heap ∧ va_OF "java/lang/String" "coder" "B" (.int 0) w A U U.heap ∧ va_OF "java/lang/String" "value" "[B" (.ref a) w A U U.heap ∧ va_T .byte a (wlen v) (fun j => .int (wbyt v j)) A U U.heap
theorem st_v {args : Array Value} {s : State} {A : Nat → Prop} (v : Nat) (nm : String) (idx : Nat) (hN : wlen v < 2 ^ 31) (h1 : (Cond.exactly (tVb nm) "LockerChains$Verb").before args s = true) (h2 : (Cond.eq (.field (tVb nm) "java/lang/Enum" "ordinal" "I") (.int (nI v))).before args s = true) (h3 : (Cond.eq (.field (tVb nm) "LockerChains$Verb" "word" "Ljava/lang/String;") (tSt idx)).before args s = true) (h4 : (Cond.eq (.field (tVb nm) "LockerChains$Verb" "numbers" "I") (.int (wnum v))).before args s = true)
    (h5 : (Cond.exactly (tSt idx) "java/lang/String").before args s = true) (h6 : (Cond.eq (.field (tSt idx) "java/lang/String" "coder" "B") (.int 0)).before args s = true) (h7 : (Cond.arrayOf (tVl idx) .byte).before args s = true) (h8 : (Cond.eq (.length (tVl idx)) (.int (Int32.ofNat (wlen v)))).before args s = true) (h9 : ∀ j : Nat, j < wlen v → (Cond.eq (.elem (tVl idx) (.int (Int32.ofNat j))) (.int (wbyt v j))).before args s = true) (hA : ∀ a : Nat, a < s.heap.size → ¬ A a) :
    ∃ e w a : Nat, (tVb nm).eval args s none [] s = some (.ref e) ∧ zVv v e w a A s := by
  obtain ⟨e, c, cell, k, q1, -⟩ := Cond.exactly_spec h1
  obtain ⟨w, c', cell', k', r1, -⟩ := Cond.exactly_spec h5
  have hw := va_eqv h3 r1
  obtain ⟨a, ta, hT⟩ := va_Tof hN h7 (va_eqt h8) (fun j hj => va_eqt (h9 j hj)) hA
  exact ⟨e, w, a, q1, va_Oof h1 q1 hA, vk_OFof q1 hw hA, vk_OFof q1 (va_eqt h4) hA, vk_OFof q1 (va_eqt h2) hA, va_Oof h5 r1 hA, vk_OFof r1 (va_eqt h6) hA, vk_OFof r1 ta hA, hT⟩
def zsE (e w a : Nat → Nat) (tv ts : Nat) : Nat → Nat := fun n => if n < 8 then e n else if n = 8 then tv else if n = 9 then ts else if n < 18 then w (n - 10) else a (n - 20)
theorem zsE_e {e w a : Nat → Nat} {tv ts v : Nat} (h : v < 8) : zsE e w a tv ts v = e v := if_pos h
theorem zsE_w {e w a : Nat → Nat} {tv ts v : Nat} (h : v < 8) : zsE e w a tv ts (10 + v) = w v := by
  unfold zsE
  rw [if_neg (by omega), if_neg (by omega), if_neg (by omega), if_pos (by omega), show 10 + v - 10 = v by omega]
theorem zsE_a {e w a : Nat → Nat} {tv ts v : Nat} (h : v < 8) : zsE e w a tv ts (20 + v) = a v := by
  unfold zsE
  rw [if_neg (by omega), if_neg (by omega), if_neg (by omega), if_neg (by omega), show 20 + v - 20 = v by omega]
def zsZ (E : Nat → Nat) (fm : Option Nat) : List (String × String × String × Value) := [("LockerChains$Text", "VERBS", "[LLockerChains$Verb;", .ref (E 8)), ("LockerChains$1", "$SwitchMap$LockerChains$Verb", "[I", .ref (E 9)), ("java/lang/String", "COMPACT_STRINGS", "Z", .int 1), ("jdk/internal/util/Preconditions", "SIOOBE_FORMATTER", "Ljava/util/function/BiFunction;", va_rf fm)]
def zsO (E : Nat → Nat) : List (String × Nat) := (List.range 8).flatMap fun v => [("LockerChains$Verb", E v), ("java/lang/String", E (10 + v))]
def zsF (E : Nat → Nat) : List (String × String × String × Value × Nat) := (List.range 8).flatMap fun v => [("LockerChains$Verb", "word", "Ljava/lang/String;", .ref (E (10 + v)), E v), ("LockerChains$Verb", "numbers", "I", .int (wnum v), E v), ("java/lang/Enum", "ordinal", "I", .int (nI v), E v), ("java/lang/String", "coder", "B", .int 0, E (10 + v)), ("java/lang/String", "value", "[B", .ref (E (20 + v)), E (10 + v))]
def zsT (E : Nat → Nat) : List (FieldType × Nat × Nat × (Nat → Value)) := (.object "LockerChains$Verb", E 8, 8, fun j => .ref (E j)) :: (.int, E 9, 8, fun j => .int (wswi j)) :: (List.range 8).map fun v => (.byte, E (20 + v), wlen v, fun j => .int (wbyt v j))
theorem zs_all {S : Nat} {D : va_G} {cs : Nat → ClassId} {E : Nat → Nat} {fm : Option Nat} : zVb (gG S D cs E (zsZ E fm) (zsO E) (zsF E) (zsT E)) := by
  refine ⟨fun v hv => ⟨?_, ?_, ?_, ?_, ?_, ?_, ?_, ?_⟩, List.mem_cons_self, List.mem_cons_self, List.mem_cons_of_mem _ List.mem_cons_self, List.mem_cons_of_mem _ List.mem_cons_self, List.mem_cons_of_mem _ (List.mem_cons_of_mem _ List.mem_cons_self), fm, List.mem_cons_of_mem _ (List.mem_cons_of_mem _ (List.mem_cons_of_mem _ List.mem_cons_self))⟩
  · exact List.mem_flatMap.mpr ⟨v, List.mem_range.mpr hv, List.mem_cons_self⟩
  · exact List.mem_flatMap.mpr ⟨v, List.mem_range.mpr hv, List.mem_cons_self⟩
  · exact List.mem_flatMap.mpr ⟨v, List.mem_range.mpr hv, List.mem_cons_of_mem _ List.mem_cons_self⟩
  · exact List.mem_flatMap.mpr ⟨v, List.mem_range.mpr hv, List.mem_cons_of_mem _ (List.mem_cons_of_mem _ List.mem_cons_self)⟩
  · exact List.mem_flatMap.mpr ⟨v, List.mem_range.mpr hv, List.mem_cons_of_mem _ List.mem_cons_self⟩
  · exact List.mem_flatMap.mpr ⟨v, List.mem_range.mpr hv, List.mem_cons_of_mem _ (List.mem_cons_of_mem _ (List.mem_cons_of_mem _ List.mem_cons_self))⟩
  · exact List.mem_flatMap.mpr ⟨v, List.mem_range.mpr hv, List.mem_cons_of_mem _ (List.mem_cons_of_mem _ (List.mem_cons_of_mem _ (List.mem_cons_of_mem _ List.mem_cons_self)))⟩
  · exact List.mem_cons_of_mem _ (List.mem_cons_of_mem _ (List.mem_map.mpr ⟨v, List.mem_range.mpr hv, rfl⟩))
theorem zs_zE {S : Nat} {D : va_G} {cs : Nat → ClassId} {E : Nat → Nat} {fm : Option Nat} {A : Nat → Prop} {s : State} (hv : ∀ v, v < 8 → zVv v (E v) (E (10 + v)) (E (20 + v)) A s) (h1 : va_Z "LockerChains$Text" "VERBS" "[LLockerChains$Verb;" (.ref (E 8)) A s s.heap) (h2 : va_Z "LockerChains$1" "$SwitchMap$LockerChains$Verb" "[I" (.ref (E 9)) A s s.heap) (h3 : va_Z "java/lang/String" "COMPACT_STRINGS" "Z" (.int 1) A s s.heap) (h4 : va_Z "jdk/internal/util/Preconditions" "SIOOBE_FORMATTER" "Ljava/util/function/BiFunction;" (va_rf fm) A s s.heap)
    (h5 : va_T (.object "LockerChains$Verb") (E 8) 8 (fun j => .ref (E j)) A s s.heap) (h6 : va_T .int (E 9) 8 (fun j => .int (wswi j)) A s s.heap) : zE (gG S D cs E (zsZ E fm) (zsO E) (zsF E) (zsT E)) A s s.heap := by
  refine ⟨fun q hq => ?_, fun q hq => ?_, fun q hq => ?_, fun q hq => ?_⟩
  · simp only [gG, gZ, zsZ, List.mem_cons, List.not_mem_nil, or_false] at hq
    rcases hq with rfl | rfl | rfl | rfl
    · exact h1
    · exact h2
    · exact h3
    · exact h4
  · obtain ⟨v, hv8, hm⟩ := List.mem_flatMap.mp (show q ∈ zsO E from hq)
    have h := hv v (List.mem_range.mp hv8)
    simp only [List.mem_cons, List.not_mem_nil, or_false] at hm
    rcases hm with rfl | rfl
    · exact h.1
    · exact h.2.2.2.2.1
  · obtain ⟨v, hv8, hm⟩ := List.mem_flatMap.mp (show q ∈ zsF E from hq)
    have h := hv v (List.mem_range.mp hv8)
    simp only [List.mem_cons, List.not_mem_nil, or_false] at hm
    rcases hm with rfl | rfl | rfl | rfl | rfl
    · exact h.2.1
    · exact h.2.2.1
    · exact h.2.2.2.1
    · exact h.2.2.2.2.2.1
    · exact h.2.2.2.2.2.2.1
  · rcases List.mem_cons.mp (show q ∈ zsT E from hq) with rfl | hq
    · exact h5
    · rcases List.mem_cons.mp hq with rfl | hq
      · exact h6
      · obtain ⟨v, hv8, rfl⟩ := List.mem_map.mp hq
        exact (hv v (List.mem_range.mp hv8)).2.2.2.2.2.2.2
theorem st_0 {b : Addr} {s : State} {A : Nat → Prop} (h : (Jvm.Cond.and given_1 narrow_1).before #[Value.ref b] s = true) (hA : ∀ a : Nat, a < s.heap.size → ¬ A a) : ∃ e w a : Nat, (tVb "LEND").eval #[Value.ref b] s none [] s = some (.ref e) ∧ zVv 0 e w a A s := by
  have hs := flat_of_before _ h
  refine st_v 0 "LEND" 56 (by decide) (hs _ (by decide +kernel)) (hs _ (by decide +kernel)) (hs _ (by decide +kernel)) (hs _ (by decide +kernel)) (hs _ (by decide +kernel)) (hs _ (by decide +kernel)) (hs _ (by decide +kernel)) (hs _ (by decide +kernel)) (fun j hj => ?_) hA
  match j, hj with
  | 0, _ => exact hs (Cond.eq (.elem (tVl 56) (.int (Int32.ofNat 0))) (.int (wbyt 0 0))) (by decide +kernel)
  | 1, _ => exact hs (Cond.eq (.elem (tVl 56) (.int (Int32.ofNat 1))) (.int (wbyt 0 1))) (by decide +kernel)
  | 2, _ => exact hs (Cond.eq (.elem (tVl 56) (.int (Int32.ofNat 2))) (.int (wbyt 0 2))) (by decide +kernel)
  | 3, _ => exact hs (Cond.eq (.elem (tVl 56) (.int (Int32.ofNat 3))) (.int (wbyt 0 3))) (by decide +kernel)
  | j + 4, hj => exact absurd (show j + 4 < 4 from hj) (by omega)
theorem st_1 {b : Addr} {s : State} {A : Nat → Prop} (h : (Jvm.Cond.and given_1 narrow_1).before #[Value.ref b] s = true) (hA : ∀ a : Nat, a < s.heap.size → ¬ A a) : ∃ e w a : Nat, (tVb "BACK").eval #[Value.ref b] s none [] s = some (.ref e) ∧ zVv 1 e w a A s := by
  have hs := flat_of_before _ h
  refine st_v 1 "BACK" 62 (by decide) (hs _ (by decide +kernel)) (hs _ (by decide +kernel)) (hs _ (by decide +kernel)) (hs _ (by decide +kernel)) (hs _ (by decide +kernel)) (hs _ (by decide +kernel)) (hs _ (by decide +kernel)) (hs _ (by decide +kernel)) (fun j hj => ?_) hA
  match j, hj with
  | 0, _ => exact hs (Cond.eq (.elem (tVl 62) (.int (Int32.ofNat 0))) (.int (wbyt 1 0))) (by decide +kernel)
  | 1, _ => exact hs (Cond.eq (.elem (tVl 62) (.int (Int32.ofNat 1))) (.int (wbyt 1 1))) (by decide +kernel)
  | 2, _ => exact hs (Cond.eq (.elem (tVl 62) (.int (Int32.ofNat 2))) (.int (wbyt 1 2))) (by decide +kernel)
  | 3, _ => exact hs (Cond.eq (.elem (tVl 62) (.int (Int32.ofNat 3))) (.int (wbyt 1 3))) (by decide +kernel)
  | j + 4, hj => exact absurd (show j + 4 < 4 from hj) (by omega)
theorem st_2 {b : Addr} {s : State} {A : Nat → Prop} (h : (Jvm.Cond.and given_1 narrow_1).before #[Value.ref b] s = true) (hA : ∀ a : Nat, a < s.heap.size → ¬ A a) : ∃ e w a : Nat, (tVb "RENEW").eval #[Value.ref b] s none [] s = some (.ref e) ∧ zVv 2 e w a A s := by
  have hs := flat_of_before _ h
  refine st_v 2 "RENEW" 65 (by decide) (hs _ (by decide +kernel)) (hs _ (by decide +kernel)) (hs _ (by decide +kernel)) (hs _ (by decide +kernel)) (hs _ (by decide +kernel)) (hs _ (by decide +kernel)) (hs _ (by decide +kernel)) (hs _ (by decide +kernel)) (fun j hj => ?_) hA
  match j, hj with
  | 0, _ => exact hs (Cond.eq (.elem (tVl 65) (.int (Int32.ofNat 0))) (.int (wbyt 2 0))) (by decide +kernel)
  | 1, _ => exact hs (Cond.eq (.elem (tVl 65) (.int (Int32.ofNat 1))) (.int (wbyt 2 1))) (by decide +kernel)
  | 2, _ => exact hs (Cond.eq (.elem (tVl 65) (.int (Int32.ofNat 2))) (.int (wbyt 2 2))) (by decide +kernel)
  | 3, _ => exact hs (Cond.eq (.elem (tVl 65) (.int (Int32.ofNat 3))) (.int (wbyt 2 3))) (by decide +kernel)
  | 4, _ => exact hs (Cond.eq (.elem (tVl 65) (.int (Int32.ofNat 4))) (.int (wbyt 2 4))) (by decide +kernel)
  | j + 5, hj => exact absurd (show j + 5 < 5 from hj) (by omega)
theorem st_3 {b : Addr} {s : State} {A : Nat → Prop} (h : (Jvm.Cond.and given_1 narrow_1).before #[Value.ref b] s = true) (hA : ∀ a : Nat, a < s.heap.size → ¬ A a) : ∃ e w a : Nat, (tVb "LOSE").eval #[Value.ref b] s none [] s = some (.ref e) ∧ zVv 3 e w a A s := by
  have hs := flat_of_before _ h
  refine st_v 3 "LOSE" 68 (by decide) (hs _ (by decide +kernel)) (hs _ (by decide +kernel)) (hs _ (by decide +kernel)) (hs _ (by decide +kernel)) (hs _ (by decide +kernel)) (hs _ (by decide +kernel)) (hs _ (by decide +kernel)) (hs _ (by decide +kernel)) (fun j hj => ?_) hA
  match j, hj with
  | 0, _ => exact hs (Cond.eq (.elem (tVl 68) (.int (Int32.ofNat 0))) (.int (wbyt 3 0))) (by decide +kernel)
  | 1, _ => exact hs (Cond.eq (.elem (tVl 68) (.int (Int32.ofNat 1))) (.int (wbyt 3 1))) (by decide +kernel)
  | 2, _ => exact hs (Cond.eq (.elem (tVl 68) (.int (Int32.ofNat 2))) (.int (wbyt 3 2))) (by decide +kernel)
  | 3, _ => exact hs (Cond.eq (.elem (tVl 68) (.int (Int32.ofNat 3))) (.int (wbyt 3 3))) (by decide +kernel)
  | j + 4, hj => exact absurd (show j + 4 < 4 from hj) (by omega)
theorem st_4 {b : Addr} {s : State} {A : Nat → Prop} (h : (Jvm.Cond.and given_1 narrow_1).before #[Value.ref b] s = true) (hA : ∀ a : Nat, a < s.heap.size → ¬ A a) : ∃ e w a : Nat, (tVb "WISH").eval #[Value.ref b] s none [] s = some (.ref e) ∧ zVv 4 e w a A s := by
  have hs := flat_of_before _ h
  refine st_v 4 "WISH" 71 (by decide) (hs _ (by decide +kernel)) (hs _ (by decide +kernel)) (hs _ (by decide +kernel)) (hs _ (by decide +kernel)) (hs _ (by decide +kernel)) (hs _ (by decide +kernel)) (hs _ (by decide +kernel)) (hs _ (by decide +kernel)) (fun j hj => ?_) hA
  match j, hj with
  | 0, _ => exact hs (Cond.eq (.elem (tVl 71) (.int (Int32.ofNat 0))) (.int (wbyt 4 0))) (by decide +kernel)
  | 1, _ => exact hs (Cond.eq (.elem (tVl 71) (.int (Int32.ofNat 1))) (.int (wbyt 4 1))) (by decide +kernel)
  | 2, _ => exact hs (Cond.eq (.elem (tVl 71) (.int (Int32.ofNat 2))) (.int (wbyt 4 2))) (by decide +kernel)
  | 3, _ => exact hs (Cond.eq (.elem (tVl 71) (.int (Int32.ofNat 3))) (.int (wbyt 4 3))) (by decide +kernel)
  | j + 4, hj => exact absurd (show j + 4 < 4 from hj) (by omega)
theorem st_5 {b : Addr} {s : State} {A : Nat → Prop} (h : (Jvm.Cond.and given_1 narrow_1).before #[Value.ref b] s = true) (hA : ∀ a : Nat, a < s.heap.size → ¬ A a) : ∃ e w a : Nat, (tVb "SWAP").eval #[Value.ref b] s none [] s = some (.ref e) ∧ zVv 5 e w a A s := by
  have hs := flat_of_before _ h
  refine st_v 5 "SWAP" 74 (by decide) (hs _ (by decide +kernel)) (hs _ (by decide +kernel)) (hs _ (by decide +kernel)) (hs _ (by decide +kernel)) (hs _ (by decide +kernel)) (hs _ (by decide +kernel)) (hs _ (by decide +kernel)) (hs _ (by decide +kernel)) (fun j hj => ?_) hA
  match j, hj with
  | 0, _ => exact hs (Cond.eq (.elem (tVl 74) (.int (Int32.ofNat 0))) (.int (wbyt 5 0))) (by decide +kernel)
  | 1, _ => exact hs (Cond.eq (.elem (tVl 74) (.int (Int32.ofNat 1))) (.int (wbyt 5 1))) (by decide +kernel)
  | 2, _ => exact hs (Cond.eq (.elem (tVl 74) (.int (Int32.ofNat 2))) (.int (wbyt 5 2))) (by decide +kernel)
  | 3, _ => exact hs (Cond.eq (.elem (tVl 74) (.int (Int32.ofNat 3))) (.int (wbyt 5 3))) (by decide +kernel)
  | j + 4, hj => exact absurd (show j + 4 < 4 from hj) (by omega)
theorem st_6 {b : Addr} {s : State} {A : Nat → Prop} (h : (Jvm.Cond.and given_1 narrow_1).before #[Value.ref b] s = true) (hA : ∀ a : Nat, a < s.heap.size → ¬ A a) : ∃ e w a : Nat, (tVb "PAY").eval #[Value.ref b] s none [] s = some (.ref e) ∧ zVv 6 e w a A s := by
  have hs := flat_of_before _ h
  refine st_v 6 "PAY" 77 (by decide) (hs _ (by decide +kernel)) (hs _ (by decide +kernel)) (hs _ (by decide +kernel)) (hs _ (by decide +kernel)) (hs _ (by decide +kernel)) (hs _ (by decide +kernel)) (hs _ (by decide +kernel)) (hs _ (by decide +kernel)) (fun j hj => ?_) hA
  match j, hj with
  | 0, _ => exact hs (Cond.eq (.elem (tVl 77) (.int (Int32.ofNat 0))) (.int (wbyt 6 0))) (by decide +kernel)
  | 1, _ => exact hs (Cond.eq (.elem (tVl 77) (.int (Int32.ofNat 1))) (.int (wbyt 6 1))) (by decide +kernel)
  | 2, _ => exact hs (Cond.eq (.elem (tVl 77) (.int (Int32.ofNat 2))) (.int (wbyt 6 2))) (by decide +kernel)
  | j + 3, hj => exact absurd (show j + 3 < 3 from hj) (by omega)
theorem st_7 {b : Addr} {s : State} {A : Nat → Prop} (h : (Jvm.Cond.and given_1 narrow_1).before #[Value.ref b] s = true) (hA : ∀ a : Nat, a < s.heap.size → ¬ A a) : ∃ e w a : Nat, (tVb "PASS").eval #[Value.ref b] s none [] s = some (.ref e) ∧ zVv 7 e w a A s := by
  have hs := flat_of_before _ h
  refine st_v 7 "PASS" 80 (by decide) (hs _ (by decide +kernel)) (hs _ (by decide +kernel)) (hs _ (by decide +kernel)) (hs _ (by decide +kernel)) (hs _ (by decide +kernel)) (hs _ (by decide +kernel)) (hs _ (by decide +kernel)) (hs _ (by decide +kernel)) (fun j hj => ?_) hA
  match j, hj with
  | 0, _ => exact hs (Cond.eq (.elem (tVl 80) (.int (Int32.ofNat 0))) (.int (wbyt 7 0))) (by decide +kernel)
  | 1, _ => exact hs (Cond.eq (.elem (tVl 80) (.int (Int32.ofNat 1))) (.int (wbyt 7 1))) (by decide +kernel)
  | 2, _ => exact hs (Cond.eq (.elem (tVl 80) (.int (Int32.ofNat 2))) (.int (wbyt 7 2))) (by decide +kernel)
  | 3, _ => exact hs (Cond.eq (.elem (tVl 80) (.int (Int32.ofNat 3))) (.int (wbyt 7 3))) (by decide +kernel)
  | j + 4, hj => exact absurd (show j + 4 < 4 from hj) (by omega)
set_option maxRecDepth 100000 in
theorem st_zE {b : Addr} {s : State} (h : (Jvm.Cond.and given_1 narrow_1).before #[Value.ref b] s = true) (hts : ∀ w ∈ lw_tbl, w.before #[Value.ref b] s = true) : ∃ (E : Nat → Nat) (fm : Option Nat), ∀ (S : Nat) (D : va_G) (cs : Nat → ClassId), zE (gG S D cs E (zsZ E fm) (zsO E) (zsF E) (zsT E)) (nA s.heap.size) s s.heap := by
  have hs := flat_of_before _ h
  have hA : ∀ a : Nat, a < s.heap.size → ¬ nA s.heap.size a := fun a ha hn => absurd ha (Nat.not_lt.mpr hn)
  obtain ⟨e0, w0, a0, q0, z0⟩ := st_0 (A := nA s.heap.size) h hA
  obtain ⟨e1, w1, a1, q1, z1⟩ := st_1 (A := nA s.heap.size) h hA
  obtain ⟨e2, w2, a2, q2, z2⟩ := st_2 (A := nA s.heap.size) h hA
  obtain ⟨e3, w3, a3, q3, z3⟩ := st_3 (A := nA s.heap.size) h hA
  obtain ⟨e4, w4, a4, q4, z4⟩ := st_4 (A := nA s.heap.size) h hA
  obtain ⟨e5, w5, a5, q5, z5⟩ := st_5 (A := nA s.heap.size) h hA
  obtain ⟨e6, w6, a6, q6, z6⟩ := st_6 (A := nA s.heap.size) h hA
  obtain ⟨e7, w7, a7, q7, z7⟩ := st_7 (A := nA s.heap.size) h hA
  obtain ⟨tv, tve, tvT⟩ := va_Tof (A := nA s.heap.size) (N := 8) (f := fun j => .ref ((match j with | 0 => e0 | 1 => e1 | 2 => e2 | 3 => e3 | 4 => e4 | 5 => e5 | 6 => e6 | _ => e7 : Nat))) (by decide) (hs (Cond.arrayOf (.static "LockerChains$Text" "VERBS" "[LLockerChains$Verb;") (.object "LockerChains$Verb")) (by decide +kernel)) (va_eqt (hs (Cond.eq (.length (.static "LockerChains$Text" "VERBS" "[LLockerChains$Verb;")) (.int (Int32.ofNat 8))) (by decide +kernel))) (fun j hj => by
    match j, hj with
    | 0, _ => exact va_eqv (hs (Cond.eq (.elem (.static "LockerChains$Text" "VERBS" "[LLockerChains$Verb;") (.int (Int32.ofNat 0))) (tVb "LEND")) (by decide +kernel)) q0
    | 1, _ => exact va_eqv (hs (Cond.eq (.elem (.static "LockerChains$Text" "VERBS" "[LLockerChains$Verb;") (.int (Int32.ofNat 1))) (tVb "BACK")) (by decide +kernel)) q1
    | 2, _ => exact va_eqv (hs (Cond.eq (.elem (.static "LockerChains$Text" "VERBS" "[LLockerChains$Verb;") (.int (Int32.ofNat 2))) (tVb "RENEW")) (by decide +kernel)) q2
    | 3, _ => exact va_eqv (hs (Cond.eq (.elem (.static "LockerChains$Text" "VERBS" "[LLockerChains$Verb;") (.int (Int32.ofNat 3))) (tVb "LOSE")) (by decide +kernel)) q3
    | 4, _ => exact va_eqv (hs (Cond.eq (.elem (.static "LockerChains$Text" "VERBS" "[LLockerChains$Verb;") (.int (Int32.ofNat 4))) (tVb "WISH")) (by decide +kernel)) q4
    | 5, _ => exact va_eqv (hs (Cond.eq (.elem (.static "LockerChains$Text" "VERBS" "[LLockerChains$Verb;") (.int (Int32.ofNat 5))) (tVb "SWAP")) (by decide +kernel)) q5
    | 6, _ => exact va_eqv (hs (Cond.eq (.elem (.static "LockerChains$Text" "VERBS" "[LLockerChains$Verb;") (.int (Int32.ofNat 6))) (tVb "PAY")) (by decide +kernel)) q6
    | 7, _ => exact va_eqv (hs (Cond.eq (.elem (.static "LockerChains$Text" "VERBS" "[LLockerChains$Verb;") (.int (Int32.ofNat 7))) (tVb "PASS")) (by decide +kernel)) q7
    | j + 8, hj => exact absurd hj (by omega)) hA
  obtain ⟨ts, tse, tsT⟩ := va_Tof (A := nA s.heap.size) (N := 8) (f := fun j => .int (wswi j)) (by decide) (hs (Cond.arrayOf (.static "LockerChains$1" "$SwitchMap$LockerChains$Verb" "[I") .int) (by decide +kernel)) (va_eqt (hs (Cond.eq (.length (.static "LockerChains$1" "$SwitchMap$LockerChains$Verb" "[I")) (.int (Int32.ofNat 8))) (by decide +kernel))) (fun j hj => by
    match j, hj with
    | 0, _ => exact va_eqt (hs (Cond.eq (.elem (.static "LockerChains$1" "$SwitchMap$LockerChains$Verb" "[I") (.int (Int32.ofNat 0))) (.int (wswi 0))) (by decide +kernel))
    | 1, _ => exact va_eqt (hs (Cond.eq (.elem (.static "LockerChains$1" "$SwitchMap$LockerChains$Verb" "[I") (.int (Int32.ofNat 1))) (.int (wswi 1))) (by decide +kernel))
    | 2, _ => exact va_eqt (hs (Cond.eq (.elem (.static "LockerChains$1" "$SwitchMap$LockerChains$Verb" "[I") (.int (Int32.ofNat 2))) (.int (wswi 2))) (by decide +kernel))
    | 3, _ => exact va_eqt (hs (Cond.eq (.elem (.static "LockerChains$1" "$SwitchMap$LockerChains$Verb" "[I") (.int (Int32.ofNat 3))) (.int (wswi 3))) (by decide +kernel))
    | 4, _ => exact va_eqt (hs (Cond.eq (.elem (.static "LockerChains$1" "$SwitchMap$LockerChains$Verb" "[I") (.int (Int32.ofNat 4))) (.int (wswi 4))) (by decide +kernel))
    | 5, _ => exact va_eqt (hs (Cond.eq (.elem (.static "LockerChains$1" "$SwitchMap$LockerChains$Verb" "[I") (.int (Int32.ofNat 5))) (.int (wswi 5))) (by decide +kernel))
    | 6, _ => exact va_eqt (hs (Cond.eq (.elem (.static "LockerChains$1" "$SwitchMap$LockerChains$Verb" "[I") (.int (Int32.ofNat 6))) (.int (wswi 6))) (by decide +kernel))
    | 7, _ => exact va_eqt (hs (Cond.eq (.elem (.static "LockerChains$1" "$SwitchMap$LockerChains$Verb" "[I") (.int (Int32.ofNat 7))) (.int (wswi 7))) (by decide +kernel))
    | j + 8, hj => exact absurd hj (by omega)) hA
  obtain ⟨fv, fve, fvr⟩ := Cond.isRef_spec (hs (Cond.isRef (.static "jdk/internal/util/Preconditions" "SIOOBE_FORMATTER" "Ljava/util/function/BiFunction;")) (by decide +kernel))
  obtain ⟨fm, rfl⟩ : ∃ fm : Option Nat, fv = va_rf fm := by
    cases fv with
    | null => exact ⟨none, rfl⟩
    | ref t => exact ⟨some t, rfl⟩
    | _ => exact absurd fvr (by simp [Value.isRef])
  refine ⟨zsE (fun j => match j with | 0 => e0 | 1 => e1 | 2 => e2 | 3 => e3 | 4 => e4 | 5 => e5 | 6 => e6 | _ => e7) (fun j => match j with | 0 => w0 | 1 => w1 | 2 => w2 | 3 => w3 | 4 => w4 | 5 => w5 | 6 => w6 | _ => w7) (fun j => match j with | 0 => a0 | 1 => a1 | 2 => a2 | 3 => a3 | 4 => a4 | 5 => a5 | 6 => a6 | _ => a7) tv ts, fm, fun S D cs => zs_zE (fun v hv => ?_) (va_Zof (hts _ nwg_0) (hts _ nwg_1) tve hA) (va_Zof (hts _ nwg_2) (hts _ nwg_3) tse hA) (va_Zof (hts _ nwg_4) (hts _ nwg_5) (va_eqt (hs (Cond.eq (.static "java/lang/String" "COMPACT_STRINGS" "Z") (.int 1)) (by decide +kernel))) hA) (va_Zof (hts _ nwg_6) (hts _ nwg_7) fve hA) ?_ tsT⟩
  · rw [zsE_e hv, zsE_w hv, zsE_a hv]
    match v, hv with
    | 0, _ => exact z0
    | 1, _ => exact z1
    | 2, _ => exact z2
    | 3, _ => exact z3
    | 4, _ => exact z4
    | 5, _ => exact z5
    | 6, _ => exact z6
    | 7, _ => exact z7
    | v + 8, hv => exact absurd hv (by omega)
  · refine va_T_e tvT (fun j hj => ?_)
    rw [zsE_e hj]
