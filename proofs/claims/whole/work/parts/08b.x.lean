/-! constructors: their words, their cells, their contracts -/
theorem nwd_0 : Cond.methodLink RX4 3 objectInit ∈ zWL := zw_in (zw_1 (List.mem_of_getElem? (i := 59) (by decide +kernel))) rfl
theorem nwd_1 : Cond.instanceMethod objectInit ∈ zWL := zw_in (zw_1 (List.mem_of_getElem? (i := 24) (by decide +kernel))) rfl
theorem nwd_2 : Cond.code objectInit ⟨#[0xb1]⟩ 1 none ∈ zWL := zw_in (zw_1 (List.mem_of_getElem? (i := 25) (by decide +kernel))) rfl
theorem nwd_3 : Cond.fieldLink RX4 9 "LockerChains$Locker" "holder" "I" ∈ zWL := zw_in (zw_1 (List.mem_of_getElem? (i := 66) (by decide +kernel))) rfl
theorem nwd_4 : Cond.fieldLink RX4 15 "LockerChains$Locker" "spareKey" "Z" ∈ zWL := zw_in (zw_1 (List.mem_of_getElem? (i := 68) (by decide +kernel))) rfl
theorem nwd_5 : Cond.fieldLink RX4 19 "LockerChains$Locker" "opensOn" "I" ∈ zWL := zw_in (zw_1 (List.mem_of_getElem? (i := 70) (by decide +kernel))) rfl
theorem nwd_6 : Cond.fieldLink RX4 22 "LockerChains$Locker" "number" "I" ∈ zWL := zw_in (zw_1 (List.mem_of_getElem? (i := 60) (by decide +kernel))) rfl
theorem nwd_7 : Cond.methodLink RX5 3 objectInit ∈ zWL := zw_in (zw_1 (List.mem_of_getElem? (i := 93) (by decide +kernel))) rfl
theorem nwd_8 : Cond.fieldLink RX5 9 "LockerChains$Person" "locker" "I" ∈ zWL := zw_in (zw_1 (List.mem_of_getElem? (i := 96) (by decide +kernel))) rfl
theorem nwd_9 : Cond.fieldLink RX5 15 "LockerChains$Person" "number" "I" ∈ zWL := zw_in (zw_1 (List.mem_of_getElem? (i := 94) (by decide +kernel))) rfl
theorem nwd_10 : Cond.methodLink RX3 3 objectInit ∈ zWL := zw_in (zw_1 (List.mem_of_getElem? (i := 41) (by decide +kernel))) rfl
theorem nwd_11 : Cond.arrayClass .int ∈ zWL := zw_in (zw_1 (List.mem_of_getElem? (i := 54) (by decide +kernel))) rfl
theorem nwd_12 : Cond.fieldLink RX3 9 "LockerChains$Line" "people" "[I" ∈ zWL := zw_in (zw_1 (List.mem_of_getElem? (i := 42) (by decide +kernel))) rfl
theorem nwd_13 : Cond.fieldLink RX3 15 "LockerChains$Line" "sizes" "[I" ∈ zWL := zw_in (zw_1 (List.mem_of_getElem? (i := 43) (by decide +kernel))) rfl
theorem nwd_14 : Cond.methodLink RX7 3 objectInit ∈ zWL := zw_in (zw_1 (List.mem_of_getElem? (i := 185) (by decide +kernel))) rfl
theorem nwd_15 : Cond.arrayClass .char ∈ zWL := zw_in (zw_1 (List.mem_of_getElem? (i := 211) (by decide +kernel))) rfl
theorem nwd_16 : Cond.fieldLink RX7 9 "LockerChains$Text" "signs" "[C" ∈ zWL := zw_in (zw_1 (List.mem_of_getElem? (i := 186) (by decide +kernel))) rfl
theorem nwd_17 : Cond.methodLink RX10 1 objectInit ∈ zWL := zw_in (zw_4 (List.mem_of_getElem? (i := 18) (by decide +kernel))) rfl
theorem nwd_18 : Cond.fieldLink RX10 7 "LockerChainsModel" "s" "[I" ∈ zWL := zw_in (zw_4 (List.mem_of_getElem? (i := 19) (by decide +kernel))) rfl
theorem nwd_19 : Cond.fieldLink RX10 13 "LockerChainsModel" "begun" "[I" ∈ zWL := zw_in (zw_4 (List.mem_of_getElem? (i := 20) (by decide +kernel))) rfl
theorem nwd_20 : Cond.fieldLink RX10 16 "LockerChainsModel" "aside" "[I" ∈ zWL := zw_in (zw_4 (List.mem_of_getElem? (i := 21) (by decide +kernel))) rfl
theorem nwd_21 : Cond.fieldLink RX10 19 "LockerChainsModel" "past" "[I" ∈ zWL := zw_in (zw_4 (List.mem_of_getElem? (i := 22) (by decide +kernel))) rfl
theorem nwd_22 : Cond.fieldLink RX10 22 "LockerChainsModel" "text" "[I" ∈ zWL := zw_in (zw_4 (List.mem_of_getElem? (i := 24) (by decide +kernel))) rfl
theorem nwd_23 : Cond.fieldLink RX10 25 "LockerChainsModel" "numbers" "[I" ∈ zWL := zw_in (zw_4 (List.mem_of_getElem? (i := 30) (by decide +kernel))) rfl
theorem nwd_24 : Cond.methodLink RX1 3 objectInit ∈ zWL := zw_in (zw_1 (List.mem_of_getElem? (i := 31) (by decide +kernel))) rfl
theorem nwd_25 : Cond.classLink RX1 9 RX4 ∈ zWL := zw_in (zw_1 (List.mem_of_getElem? (i := 32) (by decide +kernel))) rfl
theorem nwd_26 : Cond.fieldLink RX1 11 "LockerChains$Hall" "lockers" "[LLockerChains$Locker;" ∈ zWL := zw_in (zw_1 (List.mem_of_getElem? (i := 128) (by decide +kernel))) rfl
theorem nwd_27 : Cond.classLink RX1 17 RX5 ∈ zWL := zw_in (zw_1 (List.mem_of_getElem? (i := 34) (by decide +kernel))) rfl
theorem nwd_28 : Cond.fieldLink RX1 19 "LockerChains$Hall" "people" "[LLockerChains$Person;" ∈ zWL := zw_in (zw_1 (List.mem_of_getElem? (i := 129) (by decide +kernel))) rfl
theorem nwd_29 : Cond.classLink RX1 23 RX3 ∈ zWL := zw_in (zw_1 (List.mem_of_getElem? (i := 36) (by decide +kernel))) rfl
theorem nwd_30 : Cond.instantiable RX3 3 ∈ zWL := zw_in (zw_1 (List.mem_of_getElem? (i := 37) (by decide +kernel))) rfl
theorem nwd_31 : Cond.initialized RX3 ∈ zWL := zw_in (zw_1 (List.mem_of_getElem? (i := 3) (by decide +kernel))) rfl
theorem nwd_32 : Cond.code yX3_init cX3_init 1 none ∈ zWL := zw_in (zw_1 (List.mem_of_getElem? (i := 40) (by decide +kernel))) rfl
theorem nwd_33 : Cond.instanceMethod yX3_init ∈ zWL := zw_in (zw_1 (List.mem_of_getElem? (i := 39) (by decide +kernel))) rfl
theorem nwd_34 : Cond.fieldLink RX1 26 "LockerChains$Hall" "waiting" "LLockerChains$Line;" ∈ zWL := zw_in (zw_1 (List.mem_of_getElem? (i := 130) (by decide +kernel))) rfl
theorem nwd_35 : Cond.fieldLink RX1 30 "LockerChains$Hall" "wishes" "LLockerChains$Line;" ∈ zWL := zw_in (zw_1 (List.mem_of_getElem? (i := 132) (by decide +kernel))) rfl
theorem nwd_36 : Cond.fieldLink RX1 33 "LockerChains$Hall" "settings" "[I" ∈ zWL := zw_in (zw_1 (List.mem_of_getElem? (i := 133) (by decide +kernel))) rfl
theorem nwd_37 : Cond.fieldLink RX1 37 "LockerChains$Hall" "ring" "[I" ∈ zWL := zw_in (zw_1 (List.mem_of_getElem? (i := 134) (by decide +kernel))) rfl
theorem nwd_38 : Cond.instantiable RX4 7 ∈ zWL := zw_in (zw_1 (List.mem_of_getElem? (i := 55) (by decide +kernel))) rfl
theorem nwd_39 : Cond.initialized RX4 ∈ zWL := zw_in (zw_1 (List.mem_of_getElem? (i := 4) (by decide +kernel))) rfl
theorem nwd_40 : Cond.methodLink RX1 40 yX4_init ∈ zWL := zw_in (zw_1 (List.mem_of_getElem? (i := 56) (by decide +kernel))) rfl
theorem nwd_41 : Cond.code yX4_init cX4_init 2 none ∈ zWL := zw_in (zw_1 (List.mem_of_getElem? (i := 58) (by decide +kernel))) rfl
theorem nwd_42 : Cond.instanceMethod yX4_init ∈ zWL := zw_in (zw_1 (List.mem_of_getElem? (i := 57) (by decide +kernel))) rfl
theorem nwd_43 : Cond.instantiable RX5 8 ∈ zWL := zw_in (zw_1 (List.mem_of_getElem? (i := 89) (by decide +kernel))) rfl
theorem nwd_44 : Cond.initialized RX5 ∈ zWL := zw_in (zw_1 (List.mem_of_getElem? (i := 5) (by decide +kernel))) rfl
theorem nwd_45 : Cond.methodLink RX1 43 yX5_init ∈ zWL := zw_in (zw_1 (List.mem_of_getElem? (i := 90) (by decide +kernel))) rfl
theorem nwd_46 : Cond.code yX5_init cX5_init 2 none ∈ zWL := zw_in (zw_1 (List.mem_of_getElem? (i := 92) (by decide +kernel))) rfl
theorem nwd_47 : Cond.instanceMethod yX5_init ∈ zWL := zw_in (zw_1 (List.mem_of_getElem? (i := 91) (by decide +kernel))) rfl
def fL (xs : List va_E) : Nat → va_E := fun j => xs.getD j (.inr (0, []))
theorem fL_push (xs : List va_E) (x : va_E) (j : Nat) (hj : j < xs.length + 1) : fE (fL xs) xs.length x j = fL (xs ++ [x]) j := by
  unfold fL
  by_cases e : j = xs.length
  · subst e
    rw [fE_s]
    simp
  · rw [fE_n _ _ e]
    simp only [List.getD_eq_getElem?_getD]
    rw [List.getElem?_append_left (by omega)]
theorem fL_set (xs : List va_E) {i : Nat} {x : va_E} (hi : i < xs.length) (j : Nat) : fE (fL xs) i x j = fL (xs.set i x) j := by
  unfold fL
  by_cases e : j = i
  · subst e
    rw [fE_s]
    simp [hi]
  · rw [fE_n _ _ e]
    simp only [List.getD_eq_getElem?_getD]
    rw [List.getElem?_set_ne (fun z => e z.symm)]
def nFP (a i : Nat) : Nat → Option Nat := fun q => if q < i then some (a + q) else none
theorem nFP_0 (a : Nat) : nFP a 0 = fun _ => none := by
  funext q
  exact if_neg (by omega)
theorem nFP_up (a i : Nat) : va_up (nFP a i) i (some (a + i)) = nFP a (i + 1) := by
  funext q
  unfold va_up nFP
  by_cases e : q = i
  · subst e
    rw [if_pos rfl, if_pos (by omega)]
  · rw [if_neg e]
    by_cases h : q < i
    · rw [if_pos h, if_pos (by omega)]
    · rw [if_neg h, if_neg (by omega)]
def hLk (i : Nat) : va_E := .inr (3, [.int (nI i), .int 0, .int 0, .int (-1), .int 1, .int (-1), .int 0])
def hPe (i : Nat) : va_E := .inr (4, [.int (nI i), .int (-1), .int 0, .int 0, .int 0, .int 0, .int 0, .int 0])
def hB (b : Nat) (cs : Nat → ClassId) (la pa : Nat → Option Nat) (st : Nat → Int32) : List va_E := [.inr (0, [.ref (b + 1), .ref (b + 2), .ref (b + 3), .ref (b + 6), .ref (b + 9), .ref (b + 10), .int 0, .int 0, .int 0, .int 0]), .inl (cs 2, 12, zq la), .inl (cs 3, 10, zq pa), .inr (2, [.ref (b + 4), .ref (b + 5), .int 0]), .inl (cs 0, 10, .inl (fun _ => 0)), .inl (cs 0, 10, .inl (fun _ => 0)), .inr (2, [.ref (b + 7), .ref (b + 8), .int 0]), .inl (cs 0, 10, .inl (fun _ => 0)), .inl (cs 0, 10, .inl (fun _ => 0)), .inl (cs 0, 3, .inl st), .inl (cs 0, 3, .inl (fun _ => 0))]
def hF (b : Nat) (cs : Nat → ClassId) (la pa : Nat → Option Nat) (st : Nat → Int32) : Nat → va_E := fun j => if j < 11 then fL (hB b cs la pa st) j else if j < 23 then hLk (j - 11) else hPe (j - 23)
def st3 : Nat → Int32 := upd (upd (upd (fun _ => 0) 0 10) 1 2) 2 15
def hFF (b : Nat) (cs : Nat → ClassId) : Nat → va_E := hF b cs (nFP (b + 11) 12) (nFP (b + 23) 10) st3
theorem hF_set {b : Nat} {cs : Nat → ClassId} {la pa : Nat → Option Nat} {st st2 : Nat → Int32} (j : Nat) : fE (hF b cs la pa st) 9 (.inl (cs 0, 3, .inl st2)) j = hF b cs la pa st2 j := by
  by_cases e : j = 9
  · subst e
    rfl
  · rw [fE_n _ _ e]
    unfold hF
    by_cases h : j < 11
    · rw [if_pos h, if_pos h]
      match j, h, e with
      | 0, _, _ => rfl
      | 1, _, _ => rfl
      | 2, _, _ => rfl
      | 3, _, _ => rfl
      | 4, _, _ => rfl
      | 5, _, _ => rfl
      | 6, _, _ => rfl
      | 7, _, _ => rfl
      | 8, _, _ => rfl
      | 9, _, e => exact absurd rfl e
      | 10, _, _ => rfl
      | q + 11, h, _ => exact absurd h (by omega)
    · rw [if_neg h, if_neg h]
theorem hF_st4 {b : Nat} {cs : Nat → ClassId} {i : Nat} {la pa : Nat → Option Nat} {st : Nat → Int32} {x0 : va_E} (hi : i < 12) (j : Nat) (hj : j < 11 + i + 1) : fG (11 + i) (fE (hF b cs la pa st) (11 + i) x0) (fL [hLk i]) j = fE (hF b cs la pa st) (11 + i) (hLk i) j := by
  unfold fG
  by_cases e : j < 11 + i
  · rw [if_pos e, fE_n _ _ (by omega), fE_n _ _ (by omega)]
  · have e2 : j = 11 + i := by omega
    subst e2
    rw [if_neg e, fE_s, Nat.sub_self]
    rfl
theorem hF_st5 {b : Nat} {cs : Nat → ClassId} {i : Nat} {la pa : Nat → Option Nat} {st : Nat → Int32} {x0 : va_E} (hi : i < 10) (j : Nat) (hj : j < 23 + i + 1) : fG (23 + i) (fE (hF b cs la pa st) (23 + i) x0) (fL [hPe i]) j = fE (hF b cs la pa st) (23 + i) (hPe i) j := by
  unfold fG
  by_cases e : j < 23 + i
  · rw [if_pos e, fE_n _ _ (by omega), fE_n _ _ (by omega)]
  · have e2 : j = 23 + i := by omega
    subst e2
    rw [if_neg e, fE_s, Nat.sub_self]
    rfl
theorem hF_la {b : Nat} {cs : Nat → ClassId} {la la2 pa : Nat → Option Nat} {st : Nat → Int32} {j : Nat} (h : j ≠ 1) : hF b cs la pa st j = hF b cs la2 pa st j := by
  unfold hF
  by_cases h1 : j < 11
  · rw [if_pos h1, if_pos h1]
    match j, h1, h with
    | 0, _, _ => rfl
    | 1, _, e => exact absurd rfl e
    | 2, _, _ => rfl
    | 3, _, _ => rfl
    | 4, _, _ => rfl
    | 5, _, _ => rfl
    | 6, _, _ => rfl
    | 7, _, _ => rfl
    | 8, _, _ => rfl
    | 9, _, _ => rfl
    | 10, _, _ => rfl
    | q + 11, h, _ => exact absurd h (by omega)
  · rw [if_neg h1, if_neg h1]
theorem hF_pa {b : Nat} {cs : Nat → ClassId} {la pa pa2 : Nat → Option Nat} {st : Nat → Int32} {j : Nat} (h : j ≠ 2) : hF b cs la pa st j = hF b cs la pa2 st j := by
  unfold hF
  by_cases h1 : j < 11
  · rw [if_pos h1, if_pos h1]
    match j, h1, h with
    | 0, _, _ => rfl
    | 1, _, _ => rfl
    | 2, _, e => exact absurd rfl e
    | 3, _, _ => rfl
    | 4, _, _ => rfl
    | 5, _, _ => rfl
    | 6, _, _ => rfl
    | 7, _, _ => rfl
    | 8, _, _ => rfl
    | 9, _, _ => rfl
    | 10, _, _ => rfl
    | q + 11, h, _ => exact absurd h (by omega)
  · rw [if_neg h1, if_neg h1]
theorem hF_up4 {b : Nat} {cs : Nat → ClassId} {i : Nat} {pa : Nat → Option Nat} {st : Nat → Int32} (hi : i < 12) (j : Nat) (hj : j < 11 + (i + 1)) : fE (fE (hF b cs (nFP (b + 11) i) pa st) (11 + i) (hLk i)) 1 (.inl (cs 2, 12, zq (va_up (nFP (b + 11) i) (nI i).toNatClampNeg (some (b + (11 + i)))))) j = hF b cs (nFP (b + 11) (i + 1)) pa st j := by
  by_cases e : j = 1
  · subst e
    rw [fE_s, nI_clamp (by omega), show b + (11 + i) = b + 11 + i by omega, nFP_up]
    rfl
  · rw [fE_n _ _ e]
    by_cases e2 : j = 11 + i
    · subst e2
      rw [fE_s]
      unfold hF
      rw [if_neg (by omega), if_pos (by omega), show 11 + i - 11 = i by omega]
    · rw [fE_n _ _ e2]
      exact hF_la e
theorem hF_up5 {b : Nat} {cs : Nat → ClassId} {i : Nat} {la : Nat → Option Nat} {st : Nat → Int32} (hi : i < 10) (j : Nat) (hj : j < 23 + (i + 1)) : fE (fE (hF b cs la (nFP (b + 23) i) st) (23 + i) (hPe i)) 2 (.inl (cs 3, 10, zq (va_up (nFP (b + 23) i) (nI i).toNatClampNeg (some (b + (23 + i)))))) j = hF b cs la (nFP (b + 23) (i + 1)) st j := by
  by_cases e : j = 2
  · subst e
    rw [fE_s, nI_clamp (by omega), show b + (23 + i) = b + 23 + i by omega, nFP_up]
    rfl
  · rw [fE_n _ _ e]
    by_cases e2 : j = 23 + i
    · subst e2
      rw [fE_s]
      unfold hF
      rw [if_neg (by omega), if_neg (by omega), show 23 + i - 23 = i by omega]
    · rw [fE_n _ _ e2]
      exact hF_pa e
set_option maxHeartbeats 4000000 in
set_option maxRecDepth 100000 in
theorem nk_X4 {l : Launch} {D : va_G} {cs : Nat → ClassId} (b : Nat) (i : Int32) : nCt l D cs yX4_init cX4_init 2 { frames := 1, cells := 0, slots := 0, locals := 12 } [.int i] b 1 (.inr (3, [.int 0, .int 0, .int 0, .int 0, .int 0, .int 0, .int 0])) (fL [.inr (3, [.int i, .int 0, .int 0, .int (-1), .int 1, .int (-1), .int 0])]) 0 0 := by
  refine nw_Ct (by decide +kernel) rfl (Nat.le_of_ble_eq_true rfl) ?_
  intro p e s m args below meth c Q hx hb hml hown hL hin hK hW hS hend ls hl
  have hW : wW D b 1 (fL [.inr (3, [.int 0, .int 0, .int 0, .int 0, .int 0, .int 0, .int 0])]) s.heap := wW_e hW (fun j hj => by match j, hj with | 0, _ => rfl)
  have hl : lv_has ls 2 [(0, .ref (b + 0)), (1, .int i)] := hl
  refine lv_aload_n hx hb dX4_init_0 rfl (lv_at hl 0 rfl) ?_
  refine nw_obj hx hb hml hown hL nwd_0 nwd_1 nwd_2 hl.1 dX4_init_1 (by decide) (by decide) ?_
  refine lv_aload_n hx hb dX4_init_4 rfl (lv_at hl 0 rfl) ?_
  refine lv_iconst (v := -1) hx hb dX4_init_5 (by decide) ?_
  refine nw_put (j := 0) (ci := 3) (fs := [.int 0, .int 0, .int 0, .int 0, .int 0, .int 0, .int 0]) (v := .int (-1)) (C := RX4) (T := TX4) (N := 7) hx hb hL inX4 tyX4 tyX4_ok nmX4 hown hK hW hS (by decide) rfl rfl 3 (by decide) nwd_3 rfl rfl rfl rfl (Nat.le_of_ble_eq_true rfl) dX4_init_6 (fun H locs hW hS => ?_)
  have hW : wW D b 1 (fL [.inr (3, [.int 0, .int 0, .int 0, .int (-1), .int 0, .int 0, .int 0])]) H := wW_e hW (fun j _ => fL_set [.inr (3, [.int 0, .int 0, .int 0, .int 0, .int 0, .int 0, .int 0])] (Nat.le_of_ble_eq_true rfl) j)
  refine lv_aload_n hx hb dX4_init_9 rfl (lv_at hl 0 rfl) ?_
  refine lv_iconst (v := 1) hx hb dX4_init_10 (by decide) ?_
  refine nw_put (j := 0) (ci := 3) (fs := [.int 0, .int 0, .int 0, .int (-1), .int 0, .int 0, .int 0]) (v := .int 1) (C := RX4) (T := TX4) (N := 7) hx hb hL inX4 tyX4 tyX4_ok nmX4 hown hK hW hS (by decide) rfl rfl 4 (by decide) nwd_4 rfl rfl rfl rfl (Nat.le_of_ble_eq_true rfl) dX4_init_11 (fun H locs hW hS => ?_)
  have hW : wW D b 1 (fL [.inr (3, [.int 0, .int 0, .int 0, .int (-1), .int 1, .int 0, .int 0])]) H := wW_e hW (fun j _ => fL_set [.inr (3, [.int 0, .int 0, .int 0, .int (-1), .int 0, .int 0, .int 0])] (Nat.le_of_ble_eq_true rfl) j)
  refine lv_aload_n hx hb dX4_init_14 rfl (lv_at hl 0 rfl) ?_
  refine lv_iconst (v := -1) hx hb dX4_init_15 (by decide) ?_
  refine nw_put (j := 0) (ci := 3) (fs := [.int 0, .int 0, .int 0, .int (-1), .int 1, .int 0, .int 0]) (v := .int (-1)) (C := RX4) (T := TX4) (N := 7) hx hb hL inX4 tyX4 tyX4_ok nmX4 hown hK hW hS (by decide) rfl rfl 5 (by decide) nwd_5 rfl rfl rfl rfl (Nat.le_of_ble_eq_true rfl) dX4_init_16 (fun H locs hW hS => ?_)
  have hW : wW D b 1 (fL [.inr (3, [.int 0, .int 0, .int 0, .int (-1), .int 1, .int (-1), .int 0])]) H := wW_e hW (fun j _ => fL_set [.inr (3, [.int 0, .int 0, .int 0, .int (-1), .int 1, .int 0, .int 0])] (Nat.le_of_ble_eq_true rfl) j)
  refine lv_aload_n hx hb dX4_init_19 rfl (lv_at hl 0 rfl) ?_
  refine lv_iload_n hx hb dX4_init_20 rfl (lv_at hl 1 rfl) ?_
  refine nw_putF (j := 0) (ci := 3) (fs := [.int 0, .int 0, .int 0, .int (-1), .int 1, .int (-1), .int 0]) (v := .int i) (C := RX4) (T := TX4) (N := 7) hx hb hL inX4 tyX4 tyX4_ok nmX4 hown hK hW hS (by decide) rfl rfl 0 (by decide) nwd_6 rfl rfl hin rfl rfl rfl (Nat.le_of_ble_eq_true rfl) dX4_init_21 (fun H locs hW hS => ?_)
  have hW : wW D b 1 (fL [.inr (3, [.int i, .int 0, .int 0, .int (-1), .int 1, .int (-1), .int 0])]) H := wW_e hW (fun j _ => fL_set [.inr (3, [.int 0, .int 0, .int 0, .int (-1), .int 1, .int (-1), .int 0])] (Nat.le_of_ble_eq_true rfl) j)
  exact hend H locs _ ls hW hS dX4_init_24
set_option maxHeartbeats 4000000 in
set_option maxRecDepth 100000 in
theorem nk_X5 {l : Launch} {D : va_G} {cs : Nat → ClassId} (b : Nat) (i : Int32) : nCt l D cs yX5_init cX5_init 2 { frames := 1, cells := 0, slots := 0, locals := 12 } [.int i] b 1 (.inr (4, [.int 0, .int 0, .int 0, .int 0, .int 0, .int 0, .int 0, .int 0])) (fL [.inr (4, [.int i, .int (-1), .int 0, .int 0, .int 0, .int 0, .int 0, .int 0])]) 0 0 := by
  refine nw_Ct (by decide +kernel) rfl (Nat.le_of_ble_eq_true rfl) ?_
  intro p e s m args below meth c Q hx hb hml hown hL hin hK hW hS hend ls hl
  have hW : wW D b 1 (fL [.inr (4, [.int 0, .int 0, .int 0, .int 0, .int 0, .int 0, .int 0, .int 0])]) s.heap := wW_e hW (fun j hj => by match j, hj with | 0, _ => rfl)
  have hl : lv_has ls 2 [(0, .ref (b + 0)), (1, .int i)] := hl
  refine lv_aload_n hx hb dX5_init_0 rfl (lv_at hl 0 rfl) ?_
  refine nw_obj hx hb hml hown hL nwd_7 nwd_1 nwd_2 hl.1 dX5_init_1 (by decide) (by decide) ?_
  refine lv_aload_n hx hb dX5_init_4 rfl (lv_at hl 0 rfl) ?_
  refine lv_iconst (v := -1) hx hb dX5_init_5 (by decide) ?_
  refine nw_put (j := 0) (ci := 4) (fs := [.int 0, .int 0, .int 0, .int 0, .int 0, .int 0, .int 0, .int 0]) (v := .int (-1)) (C := RX5) (T := TX5) (N := 8) hx hb hL inX5 tyX5 tyX5_ok nmX5 hown hK hW hS (by decide) rfl rfl 1 (by decide) nwd_8 rfl rfl rfl rfl (Nat.le_of_ble_eq_true rfl) dX5_init_6 (fun H locs hW hS => ?_)
  have hW : wW D b 1 (fL [.inr (4, [.int 0, .int (-1), .int 0, .int 0, .int 0, .int 0, .int 0, .int 0])]) H := wW_e hW (fun j _ => fL_set [.inr (4, [.int 0, .int 0, .int 0, .int 0, .int 0, .int 0, .int 0, .int 0])] (Nat.le_of_ble_eq_true rfl) j)
  refine lv_aload_n hx hb dX5_init_9 rfl (lv_at hl 0 rfl) ?_
  refine lv_iload_n hx hb dX5_init_10 rfl (lv_at hl 1 rfl) ?_
  refine nw_putF (j := 0) (ci := 4) (fs := [.int 0, .int (-1), .int 0, .int 0, .int 0, .int 0, .int 0, .int 0]) (v := .int i) (C := RX5) (T := TX5) (N := 8) hx hb hL inX5 tyX5 tyX5_ok nmX5 hown hK hW hS (by decide) rfl rfl 0 (by decide) nwd_9 rfl rfl hin rfl rfl rfl (Nat.le_of_ble_eq_true rfl) dX5_init_11 (fun H locs hW hS => ?_)
  have hW : wW D b 1 (fL [.inr (4, [.int i, .int (-1), .int 0, .int 0, .int 0, .int 0, .int 0, .int 0])]) H := wW_e hW (fun j _ => fL_set [.inr (4, [.int 0, .int (-1), .int 0, .int 0, .int 0, .int 0, .int 0, .int 0])] (Nat.le_of_ble_eq_true rfl) j)
  exact hend H locs _ ls hW hS dX5_init_14
set_option maxHeartbeats 4000000 in
set_option maxRecDepth 100000 in
theorem nk_X3 {l : Launch} {D : va_G} {cs : Nat → ClassId} (b : Nat) : nCt l D cs yX3_init cX3_init 1 { frames := 1, cells := 2, slots := 20, locals := 12 } [] b 3 (.inr (2, [.null, .null, .int 0])) (fL [.inr (2, [.ref (b + 1), .ref (b + 2), .int 0]), .inl (cs 0, 10, .inl (fun _ => 0)), .inl (cs 0, 10, .inl (fun _ => 0))]) 2 20 := by
  refine nw_Ct (by decide +kernel) rfl (Nat.le_of_ble_eq_true rfl) ?_
  intro p e s m args below meth c Q hx hb hml hown hL hin hK hW hS hend ls hl
  have hW : wW D b 1 (fL [.inr (2, [.null, .null, .int 0])]) s.heap := wW_e hW (fun j hj => by match j, hj with | 0, _ => rfl)
  have hl : lv_has ls 1 [(0, .ref (b + 0))] := hl
  refine lv_aload_n hx hb dX3_init_0 rfl (lv_at hl 0 rfl) ?_
  refine nw_obj hx hb hml hown hL nwd_10 nwd_1 nwd_2 hl.1 dX3_init_1 (by decide) (by decide) ?_
  refine lv_aload_n hx hb dX3_init_4 rfl (lv_at hl 0 rfl) ?_
  refine lv_bipush (v := 10) hx hb dX3_init_5 (by decide) ?_
  refine nw_newa (atype := .int) (cA := cs 0) (N' := 10) (a0 := (10, .inl (fun _ => 0))) hx hb hL nwd_11 (hK.1.2 0 _ rfl).2 hW hS rfl (by decide) (by decide) (by decide) (by decide) (by decide) dX3_init_7 (fun H hW hS => ?_)
  have hW : wW D b 2 (fL [.inr (2, [.null, .null, .int 0]), .inl (cs 0, 10, .inl (fun _ => 0))]) H := wW_e hW (fun j hj => fL_push [.inr (2, [.null, .null, .int 0])] _ j hj)
  refine nw_putF (j := 0) (ci := 2) (fs := [.null, .null, .int 0]) (v := .ref (b + 1)) (C := RX3) (T := TX3) (N := 3) hx hb hL inX3 tyX3 tyX3_ok nmX3 hown hK hW hS (by decide) rfl rfl 0 (by decide) nwd_12 rfl rfl hin rfl rfl rfl (Nat.le_of_ble_eq_true rfl) dX3_init_9 (fun H locs hW hS => ?_)
  have hW : wW D b 2 (fL [.inr (2, [.ref (b + 1), .null, .int 0]), .inl (cs 0, 10, .inl (fun _ => 0))]) H := wW_e hW (fun j _ => fL_set [.inr (2, [.null, .null, .int 0]), .inl (cs 0, 10, .inl (fun _ => 0))] (Nat.le_of_ble_eq_true rfl) j)
  refine lv_aload_n hx hb dX3_init_12 rfl (lv_at hl 0 rfl) ?_
  refine lv_bipush (v := 10) hx hb dX3_init_13 (by decide) ?_
  refine nw_newa (atype := .int) (cA := cs 0) (N' := 10) (a0 := (10, .inl (fun _ => 0))) hx hb hL nwd_11 (hK.1.2 0 _ rfl).2 hW hS rfl (by decide) (by decide) (by decide) (by decide) (by decide) dX3_init_15 (fun H hW hS => ?_)
  have hW : wW D b 3 (fL [.inr (2, [.ref (b + 1), .null, .int 0]), .inl (cs 0, 10, .inl (fun _ => 0)), .inl (cs 0, 10, .inl (fun _ => 0))]) H := wW_e hW (fun j hj => fL_push [.inr (2, [.ref (b + 1), .null, .int 0]), .inl (cs 0, 10, .inl (fun _ => 0))] _ j hj)
  refine nw_putF (j := 0) (ci := 2) (fs := [.ref (b + 1), .null, .int 0]) (v := .ref (b + 2)) (C := RX3) (T := TX3) (N := 3) hx hb hL inX3 tyX3 tyX3_ok nmX3 hown hK hW hS (by decide) rfl rfl 1 (by decide) nwd_13 rfl rfl hin rfl rfl rfl (Nat.le_of_ble_eq_true rfl) dX3_init_17 (fun H locs hW hS => ?_)
  have hW : wW D b 3 (fL [.inr (2, [.ref (b + 1), .ref (b + 2), .int 0]), .inl (cs 0, 10, .inl (fun _ => 0)), .inl (cs 0, 10, .inl (fun _ => 0))]) H := wW_e hW (fun j _ => fL_set [.inr (2, [.ref (b + 1), .null, .int 0]), .inl (cs 0, 10, .inl (fun _ => 0)), .inl (cs 0, 10, .inl (fun _ => 0))] (Nat.le_of_ble_eq_true rfl) j)
  exact hend H locs _ ls hW hS dX3_init_20
set_option maxHeartbeats 4000000 in
set_option maxRecDepth 100000 in
theorem nk_X7 {l : Launch} {D : va_G} {cs : Nat → ClassId} (b : Nat) : nCt l D cs yX7_init cX7_init 1 { frames := 1, cells := 1, slots := 80, locals := 12 } [] b 2 (.inr (6, [.null, .int 0, .null, .int 0, .int 0, .int 0])) (fL [.inr (6, [.ref (b + 1), .int 0, .null, .int 0, .int 0, .int 0]), .inl (cs 1, 80, .inl (fun _ => 0))]) 1 80 := by
  refine nw_Ct (by decide +kernel) rfl (Nat.le_of_ble_eq_true rfl) ?_
  intro p e s m args below meth c Q hx hb hml hown hL hin hK hW hS hend ls hl
  have hW : wW D b 1 (fL [.inr (6, [.null, .int 0, .null, .int 0, .int 0, .int 0])]) s.heap := wW_e hW (fun j hj => by match j, hj with | 0, _ => rfl)
  have hl : lv_has ls 1 [(0, .ref (b + 0))] := hl
  refine lv_aload_n hx hb dX7_init_0 rfl (lv_at hl 0 rfl) ?_
  refine nw_obj hx hb hml hown hL nwd_14 nwd_1 nwd_2 hl.1 dX7_init_1 (by decide) (by decide) ?_
  refine lv_aload_n hx hb dX7_init_4 rfl (lv_at hl 0 rfl) ?_
  refine lv_bipush (v := 80) hx hb dX7_init_5 (by decide) ?_
  refine nw_newa (atype := .char) (cA := cs 1) (N' := 80) (a0 := (80, .inl (fun _ => 0))) hx hb hL nwd_15 (hK.1.2 1 _ rfl).2 hW hS rfl (by decide) (by decide) (by decide) (by decide) (by decide) dX7_init_7 (fun H hW hS => ?_)
  have hW : wW D b 2 (fL [.inr (6, [.null, .int 0, .null, .int 0, .int 0, .int 0]), .inl (cs 1, 80, .inl (fun _ => 0))]) H := wW_e hW (fun j hj => fL_push [.inr (6, [.null, .int 0, .null, .int 0, .int 0, .int 0])] _ j hj)
  refine nw_putF (j := 0) (ci := 6) (fs := [.null, .int 0, .null, .int 0, .int 0, .int 0]) (v := .ref (b + 1)) (C := RX7) (T := TX7) (N := 6) hx hb hL inX7 tyX7 tyX7_ok nmX7 hown hK hW hS (by decide) rfl rfl 0 (by decide) nwd_16 rfl rfl hin rfl rfl rfl (Nat.le_of_ble_eq_true rfl) dX7_init_9 (fun H locs hW hS => ?_)
  have hW : wW D b 2 (fL [.inr (6, [.ref (b + 1), .int 0, .null, .int 0, .int 0, .int 0]), .inl (cs 1, 80, .inl (fun _ => 0))]) H := wW_e hW (fun j _ => fL_set [.inr (6, [.null, .int 0, .null, .int 0, .int 0, .int 0]), .inl (cs 1, 80, .inl (fun _ => 0))] (Nat.le_of_ble_eq_true rfl) j)
  exact hend H locs _ ls hW hS dX7_init_12
set_option maxHeartbeats 4000000 in
set_option maxRecDepth 100000 in
theorem nk_X10 {l : Launch} {D : va_G} {cs : Nat → ClassId} (b : Nat) : nCt l D cs yX10_init cX10_init 1 { frames := 1, cells := 6, slots := 1433, locals := 12 } [] b 7 (.inr (8, [.null, .null, .null, .null, .int 0, .null, .int 0, .int 0, .int 0, .int 0, .int 0, .null])) (fL [.inr (8, [.ref (b + 1), .ref (b + 2), .ref (b + 3), .ref (b + 4), .int 0, .ref (b + 5), .int 0, .int 0, .int 0, .int 0, .int 0, .ref (b + 6)]), .inl (cs 0, 193, .inl (upd (upd (upd (fun _ => 0) 0 10) 1 2) 2 15)), .inl (cs 0, 193, .inl (fun _ => 0)), .inl (cs 0, 193, .inl (fun _ => 0)), .inl (cs 0, 772, .inl (fun _ => 0)), .inl (cs 0, 80, .inl (fun _ => 0)), .inl (cs 0, 2, .inl (fun _ => 0))]) 6 1433 := by
  refine nw_Ct (by decide +kernel) rfl (Nat.le_of_ble_eq_true rfl) ?_
  intro p e s m args below meth c Q hx hb hml hown hL hin hK hW hS hend ls hl
  have hW : wW D b 1 (fL [.inr (8, [.null, .null, .null, .null, .int 0, .null, .int 0, .int 0, .int 0, .int 0, .int 0, .null])]) s.heap := wW_e hW (fun j hj => by match j, hj with | 0, _ => rfl)
  have hl : lv_has ls 1 [(0, .ref (b + 0))] := hl
  refine lv_aload_n hx hb dX10_init_0 rfl (lv_at hl 0 rfl) ?_
  refine nw_obj hx hb hml hown hL nwd_17 nwd_1 nwd_2 hl.1 dX10_init_1 (by decide) (by decide) ?_
  refine lv_aload_n hx hb dX10_init_4 rfl (lv_at hl 0 rfl) ?_
  refine lv_sipush (v := 193) hx hb dX10_init_5 (by decide) ?_
  refine nw_newa (atype := .int) (cA := cs 0) (N' := 193) (a0 := (193, .inl (fun _ => 0))) hx hb hL nwd_11 (hK.1.2 0 _ rfl).2 hW hS rfl (by decide) (by decide) (by decide) (by decide) (by decide) dX10_init_8 (fun H hW hS => ?_)
  have hW : wW D b 2 (fL [.inr (8, [.null, .null, .null, .null, .int 0, .null, .int 0, .int 0, .int 0, .int 0, .int 0, .null]), .inl (cs 0, 193, .inl (fun _ => 0))]) H := wW_e hW (fun j hj => fL_push [.inr (8, [.null, .null, .null, .null, .int 0, .null, .int 0, .int 0, .int 0, .int 0, .int 0, .null])] _ j hj)
  refine nw_putF (j := 0) (ci := 8) (fs := [.null, .null, .null, .null, .int 0, .null, .int 0, .int 0, .int 0, .int 0, .int 0, .null]) (v := .ref (b + 1)) (C := RX10) (T := TX10) (N := 12) hx hb hL inX10 tyX10 tyX10_ok nmX10 hown hK hW hS (by decide) rfl rfl 0 (by decide) nwd_18 rfl rfl hin rfl rfl rfl (Nat.le_of_ble_eq_true rfl) dX10_init_10 (fun H locs hW hS => ?_)
  have hW : wW D b 2 (fL [.inr (8, [.ref (b + 1), .null, .null, .null, .int 0, .null, .int 0, .int 0, .int 0, .int 0, .int 0, .null]), .inl (cs 0, 193, .inl (fun _ => 0))]) H := wW_e hW (fun j _ => fL_set [.inr (8, [.null, .null, .null, .null, .int 0, .null, .int 0, .int 0, .int 0, .int 0, .int 0, .null]), .inl (cs 0, 193, .inl (fun _ => 0))] (Nat.le_of_ble_eq_true rfl) j)
  refine lv_aload_n hx hb dX10_init_13 rfl (lv_at hl 0 rfl) ?_
  refine lv_sipush (v := 193) hx hb dX10_init_14 (by decide) ?_
  refine nw_newa (atype := .int) (cA := cs 0) (N' := 193) (a0 := (193, .inl (fun _ => 0))) hx hb hL nwd_11 (hK.1.2 0 _ rfl).2 hW hS rfl (by decide) (by decide) (by decide) (by decide) (by decide) dX10_init_17 (fun H hW hS => ?_)
  have hW : wW D b 3 (fL [.inr (8, [.ref (b + 1), .null, .null, .null, .int 0, .null, .int 0, .int 0, .int 0, .int 0, .int 0, .null]), .inl (cs 0, 193, .inl (fun _ => 0)), .inl (cs 0, 193, .inl (fun _ => 0))]) H := wW_e hW (fun j hj => fL_push [.inr (8, [.ref (b + 1), .null, .null, .null, .int 0, .null, .int 0, .int 0, .int 0, .int 0, .int 0, .null]), .inl (cs 0, 193, .inl (fun _ => 0))] _ j hj)
  refine nw_putF (j := 0) (ci := 8) (fs := [.ref (b + 1), .null, .null, .null, .int 0, .null, .int 0, .int 0, .int 0, .int 0, .int 0, .null]) (v := .ref (b + 2)) (C := RX10) (T := TX10) (N := 12) hx hb hL inX10 tyX10 tyX10_ok nmX10 hown hK hW hS (by decide) rfl rfl 1 (by decide) nwd_19 rfl rfl hin rfl rfl rfl (Nat.le_of_ble_eq_true rfl) dX10_init_19 (fun H locs hW hS => ?_)
  have hW : wW D b 3 (fL [.inr (8, [.ref (b + 1), .ref (b + 2), .null, .null, .int 0, .null, .int 0, .int 0, .int 0, .int 0, .int 0, .null]), .inl (cs 0, 193, .inl (fun _ => 0)), .inl (cs 0, 193, .inl (fun _ => 0))]) H := wW_e hW (fun j _ => fL_set [.inr (8, [.ref (b + 1), .null, .null, .null, .int 0, .null, .int 0, .int 0, .int 0, .int 0, .int 0, .null]), .inl (cs 0, 193, .inl (fun _ => 0)), .inl (cs 0, 193, .inl (fun _ => 0))] (Nat.le_of_ble_eq_true rfl) j)
  refine lv_aload_n hx hb dX10_init_22 rfl (lv_at hl 0 rfl) ?_
  refine lv_sipush (v := 193) hx hb dX10_init_23 (by decide) ?_
  refine nw_newa (atype := .int) (cA := cs 0) (N' := 193) (a0 := (193, .inl (fun _ => 0))) hx hb hL nwd_11 (hK.1.2 0 _ rfl).2 hW hS rfl (by decide) (by decide) (by decide) (by decide) (by decide) dX10_init_26 (fun H hW hS => ?_)
  have hW : wW D b 4 (fL [.inr (8, [.ref (b + 1), .ref (b + 2), .null, .null, .int 0, .null, .int 0, .int 0, .int 0, .int 0, .int 0, .null]), .inl (cs 0, 193, .inl (fun _ => 0)), .inl (cs 0, 193, .inl (fun _ => 0)), .inl (cs 0, 193, .inl (fun _ => 0))]) H := wW_e hW (fun j hj => fL_push [.inr (8, [.ref (b + 1), .ref (b + 2), .null, .null, .int 0, .null, .int 0, .int 0, .int 0, .int 0, .int 0, .null]), .inl (cs 0, 193, .inl (fun _ => 0)), .inl (cs 0, 193, .inl (fun _ => 0))] _ j hj)
  refine nw_putF (j := 0) (ci := 8) (fs := [.ref (b + 1), .ref (b + 2), .null, .null, .int 0, .null, .int 0, .int 0, .int 0, .int 0, .int 0, .null]) (v := .ref (b + 3)) (C := RX10) (T := TX10) (N := 12) hx hb hL inX10 tyX10 tyX10_ok nmX10 hown hK hW hS (by decide) rfl rfl 2 (by decide) nwd_20 rfl rfl hin rfl rfl rfl (Nat.le_of_ble_eq_true rfl) dX10_init_28 (fun H locs hW hS => ?_)
  have hW : wW D b 4 (fL [.inr (8, [.ref (b + 1), .ref (b + 2), .ref (b + 3), .null, .int 0, .null, .int 0, .int 0, .int 0, .int 0, .int 0, .null]), .inl (cs 0, 193, .inl (fun _ => 0)), .inl (cs 0, 193, .inl (fun _ => 0)), .inl (cs 0, 193, .inl (fun _ => 0))]) H := wW_e hW (fun j _ => fL_set [.inr (8, [.ref (b + 1), .ref (b + 2), .null, .null, .int 0, .null, .int 0, .int 0, .int 0, .int 0, .int 0, .null]), .inl (cs 0, 193, .inl (fun _ => 0)), .inl (cs 0, 193, .inl (fun _ => 0)), .inl (cs 0, 193, .inl (fun _ => 0))] (Nat.le_of_ble_eq_true rfl) j)
  refine lv_aload_n hx hb dX10_init_31 rfl (lv_at hl 0 rfl) ?_
  refine lv_sipush (v := 772) hx hb dX10_init_32 (by decide) ?_
  refine nw_newa (atype := .int) (cA := cs 0) (N' := 772) (a0 := (772, .inl (fun _ => 0))) hx hb hL nwd_11 (hK.1.2 0 _ rfl).2 hW hS rfl (by decide) (by decide) (by decide) (by decide) (by decide) dX10_init_35 (fun H hW hS => ?_)
  have hW : wW D b 5 (fL [.inr (8, [.ref (b + 1), .ref (b + 2), .ref (b + 3), .null, .int 0, .null, .int 0, .int 0, .int 0, .int 0, .int 0, .null]), .inl (cs 0, 193, .inl (fun _ => 0)), .inl (cs 0, 193, .inl (fun _ => 0)), .inl (cs 0, 193, .inl (fun _ => 0)), .inl (cs 0, 772, .inl (fun _ => 0))]) H := wW_e hW (fun j hj => fL_push [.inr (8, [.ref (b + 1), .ref (b + 2), .ref (b + 3), .null, .int 0, .null, .int 0, .int 0, .int 0, .int 0, .int 0, .null]), .inl (cs 0, 193, .inl (fun _ => 0)), .inl (cs 0, 193, .inl (fun _ => 0)), .inl (cs 0, 193, .inl (fun _ => 0))] _ j hj)
  refine nw_putF (j := 0) (ci := 8) (fs := [.ref (b + 1), .ref (b + 2), .ref (b + 3), .null, .int 0, .null, .int 0, .int 0, .int 0, .int 0, .int 0, .null]) (v := .ref (b + 4)) (C := RX10) (T := TX10) (N := 12) hx hb hL inX10 tyX10 tyX10_ok nmX10 hown hK hW hS (by decide) rfl rfl 3 (by decide) nwd_21 rfl rfl hin rfl rfl rfl (Nat.le_of_ble_eq_true rfl) dX10_init_37 (fun H locs hW hS => ?_)
  have hW : wW D b 5 (fL [.inr (8, [.ref (b + 1), .ref (b + 2), .ref (b + 3), .ref (b + 4), .int 0, .null, .int 0, .int 0, .int 0, .int 0, .int 0, .null]), .inl (cs 0, 193, .inl (fun _ => 0)), .inl (cs 0, 193, .inl (fun _ => 0)), .inl (cs 0, 193, .inl (fun _ => 0)), .inl (cs 0, 772, .inl (fun _ => 0))]) H := wW_e hW (fun j _ => fL_set [.inr (8, [.ref (b + 1), .ref (b + 2), .ref (b + 3), .null, .int 0, .null, .int 0, .int 0, .int 0, .int 0, .int 0, .null]), .inl (cs 0, 193, .inl (fun _ => 0)), .inl (cs 0, 193, .inl (fun _ => 0)), .inl (cs 0, 193, .inl (fun _ => 0)), .inl (cs 0, 772, .inl (fun _ => 0))] (Nat.le_of_ble_eq_true rfl) j)
  refine lv_aload_n hx hb dX10_init_40 rfl (lv_at hl 0 rfl) ?_
  refine lv_bipush (v := 80) hx hb dX10_init_41 (by decide) ?_
  refine nw_newa (atype := .int) (cA := cs 0) (N' := 80) (a0 := (80, .inl (fun _ => 0))) hx hb hL nwd_11 (hK.1.2 0 _ rfl).2 hW hS rfl (by decide) (by decide) (by decide) (by decide) (by decide) dX10_init_43 (fun H hW hS => ?_)
  have hW : wW D b 6 (fL [.inr (8, [.ref (b + 1), .ref (b + 2), .ref (b + 3), .ref (b + 4), .int 0, .null, .int 0, .int 0, .int 0, .int 0, .int 0, .null]), .inl (cs 0, 193, .inl (fun _ => 0)), .inl (cs 0, 193, .inl (fun _ => 0)), .inl (cs 0, 193, .inl (fun _ => 0)), .inl (cs 0, 772, .inl (fun _ => 0)), .inl (cs 0, 80, .inl (fun _ => 0))]) H := wW_e hW (fun j hj => fL_push [.inr (8, [.ref (b + 1), .ref (b + 2), .ref (b + 3), .ref (b + 4), .int 0, .null, .int 0, .int 0, .int 0, .int 0, .int 0, .null]), .inl (cs 0, 193, .inl (fun _ => 0)), .inl (cs 0, 193, .inl (fun _ => 0)), .inl (cs 0, 193, .inl (fun _ => 0)), .inl (cs 0, 772, .inl (fun _ => 0))] _ j hj)
  refine nw_putF (j := 0) (ci := 8) (fs := [.ref (b + 1), .ref (b + 2), .ref (b + 3), .ref (b + 4), .int 0, .null, .int 0, .int 0, .int 0, .int 0, .int 0, .null]) (v := .ref (b + 5)) (C := RX10) (T := TX10) (N := 12) hx hb hL inX10 tyX10 tyX10_ok nmX10 hown hK hW hS (by decide) rfl rfl 5 (by decide) nwd_22 rfl rfl hin rfl rfl rfl (Nat.le_of_ble_eq_true rfl) dX10_init_45 (fun H locs hW hS => ?_)
  have hW : wW D b 6 (fL [.inr (8, [.ref (b + 1), .ref (b + 2), .ref (b + 3), .ref (b + 4), .int 0, .ref (b + 5), .int 0, .int 0, .int 0, .int 0, .int 0, .null]), .inl (cs 0, 193, .inl (fun _ => 0)), .inl (cs 0, 193, .inl (fun _ => 0)), .inl (cs 0, 193, .inl (fun _ => 0)), .inl (cs 0, 772, .inl (fun _ => 0)), .inl (cs 0, 80, .inl (fun _ => 0))]) H := wW_e hW (fun j _ => fL_set [.inr (8, [.ref (b + 1), .ref (b + 2), .ref (b + 3), .ref (b + 4), .int 0, .null, .int 0, .int 0, .int 0, .int 0, .int 0, .null]), .inl (cs 0, 193, .inl (fun _ => 0)), .inl (cs 0, 193, .inl (fun _ => 0)), .inl (cs 0, 193, .inl (fun _ => 0)), .inl (cs 0, 772, .inl (fun _ => 0)), .inl (cs 0, 80, .inl (fun _ => 0))] (Nat.le_of_ble_eq_true rfl) j)
  refine lv_aload_n hx hb dX10_init_48 rfl (lv_at hl 0 rfl) ?_
  refine lv_iconst (v := 2) hx hb dX10_init_49 (by decide) ?_
  refine nw_newa (atype := .int) (cA := cs 0) (N' := 2) (a0 := (2, .inl (fun _ => 0))) hx hb hL nwd_11 (hK.1.2 0 _ rfl).2 hW hS rfl (by decide) (by decide) (by decide) (by decide) (by decide) dX10_init_50 (fun H hW hS => ?_)
  have hW : wW D b 7 (fL [.inr (8, [.ref (b + 1), .ref (b + 2), .ref (b + 3), .ref (b + 4), .int 0, .ref (b + 5), .int 0, .int 0, .int 0, .int 0, .int 0, .null]), .inl (cs 0, 193, .inl (fun _ => 0)), .inl (cs 0, 193, .inl (fun _ => 0)), .inl (cs 0, 193, .inl (fun _ => 0)), .inl (cs 0, 772, .inl (fun _ => 0)), .inl (cs 0, 80, .inl (fun _ => 0)), .inl (cs 0, 2, .inl (fun _ => 0))]) H := wW_e hW (fun j hj => fL_push [.inr (8, [.ref (b + 1), .ref (b + 2), .ref (b + 3), .ref (b + 4), .int 0, .ref (b + 5), .int 0, .int 0, .int 0, .int 0, .int 0, .null]), .inl (cs 0, 193, .inl (fun _ => 0)), .inl (cs 0, 193, .inl (fun _ => 0)), .inl (cs 0, 193, .inl (fun _ => 0)), .inl (cs 0, 772, .inl (fun _ => 0)), .inl (cs 0, 80, .inl (fun _ => 0))] _ j hj)
  refine nw_putF (j := 0) (ci := 8) (fs := [.ref (b + 1), .ref (b + 2), .ref (b + 3), .ref (b + 4), .int 0, .ref (b + 5), .int 0, .int 0, .int 0, .int 0, .int 0, .null]) (v := .ref (b + 6)) (C := RX10) (T := TX10) (N := 12) hx hb hL inX10 tyX10 tyX10_ok nmX10 hown hK hW hS (by decide) rfl rfl 11 (by decide) nwd_23 rfl rfl hin rfl rfl rfl (Nat.le_of_ble_eq_true rfl) dX10_init_52 (fun H locs hW hS => ?_)
  have hW : wW D b 7 (fL [.inr (8, [.ref (b + 1), .ref (b + 2), .ref (b + 3), .ref (b + 4), .int 0, .ref (b + 5), .int 0, .int 0, .int 0, .int 0, .int 0, .ref (b + 6)]), .inl (cs 0, 193, .inl (fun _ => 0)), .inl (cs 0, 193, .inl (fun _ => 0)), .inl (cs 0, 193, .inl (fun _ => 0)), .inl (cs 0, 772, .inl (fun _ => 0)), .inl (cs 0, 80, .inl (fun _ => 0)), .inl (cs 0, 2, .inl (fun _ => 0))]) H := wW_e hW (fun j _ => fL_set [.inr (8, [.ref (b + 1), .ref (b + 2), .ref (b + 3), .ref (b + 4), .int 0, .ref (b + 5), .int 0, .int 0, .int 0, .int 0, .int 0, .null]), .inl (cs 0, 193, .inl (fun _ => 0)), .inl (cs 0, 193, .inl (fun _ => 0)), .inl (cs 0, 193, .inl (fun _ => 0)), .inl (cs 0, 772, .inl (fun _ => 0)), .inl (cs 0, 80, .inl (fun _ => 0)), .inl (cs 0, 2, .inl (fun _ => 0))] (Nat.le_of_ble_eq_true rfl) j)
  refine lv_aload_n hx hb dX10_init_55 rfl (lv_at hl 0 rfl) ?_
  refine nw_get (j := 0) (ci := 8) (fs := [.ref (b + 1), .ref (b + 2), .ref (b + 3), .ref (b + 4), .int 0, .ref (b + 5), .int 0, .int 0, .int 0, .int 0, .int 0, .ref (b + 6)]) (C := RX10) (T := TX10) (N := 12) hx hb hL inX10 hown hK hW (by decide) rfl rfl 0 (by decide) nwd_18 rfl rfl dX10_init_56 ?_
  refine lv_iconst (v := 0) hx hb dX10_init_59 (by decide) ?_
  refine lv_bipush (v := 10) hx hb dX10_init_60 (by decide) ?_
  refine nw_iast (j := 1) (N := 193) (g := (fun _ => 0)) (k := 0) (x := 10) hx hb hK hW hS (by decide) rfl (inb_in (by decide)) dX10_init_62 (fun H locs hW hS => ?_)
  have hW : wW D b 7 (fL [.inr (8, [.ref (b + 1), .ref (b + 2), .ref (b + 3), .ref (b + 4), .int 0, .ref (b + 5), .int 0, .int 0, .int 0, .int 0, .int 0, .ref (b + 6)]), .inl (cs 0, 193, .inl (upd (fun _ => 0) 0 10)), .inl (cs 0, 193, .inl (fun _ => 0)), .inl (cs 0, 193, .inl (fun _ => 0)), .inl (cs 0, 772, .inl (fun _ => 0)), .inl (cs 0, 80, .inl (fun _ => 0)), .inl (cs 0, 2, .inl (fun _ => 0))]) H := wW_e hW (fun j _ => fL_set [.inr (8, [.ref (b + 1), .ref (b + 2), .ref (b + 3), .ref (b + 4), .int 0, .ref (b + 5), .int 0, .int 0, .int 0, .int 0, .int 0, .ref (b + 6)]), .inl (cs 0, 193, .inl (fun _ => 0)), .inl (cs 0, 193, .inl (fun _ => 0)), .inl (cs 0, 193, .inl (fun _ => 0)), .inl (cs 0, 772, .inl (fun _ => 0)), .inl (cs 0, 80, .inl (fun _ => 0)), .inl (cs 0, 2, .inl (fun _ => 0))] (Nat.le_of_ble_eq_true rfl) j)
  refine lv_aload_n hx hb dX10_init_63 rfl (lv_at hl 0 rfl) ?_
  refine nw_get (j := 0) (ci := 8) (fs := [.ref (b + 1), .ref (b + 2), .ref (b + 3), .ref (b + 4), .int 0, .ref (b + 5), .int 0, .int 0, .int 0, .int 0, .int 0, .ref (b + 6)]) (C := RX10) (T := TX10) (N := 12) hx hb hL inX10 hown hK hW (by decide) rfl rfl 0 (by decide) nwd_18 rfl rfl dX10_init_64 ?_
  refine lv_iconst (v := 1) hx hb dX10_init_67 (by decide) ?_
  refine lv_iconst (v := 2) hx hb dX10_init_68 (by decide) ?_
  refine nw_iast (j := 1) (N := 193) (g := (upd (fun _ => 0) 0 10)) (k := 1) (x := 2) hx hb hK hW hS (by decide) rfl (inb_in (by decide)) dX10_init_69 (fun H locs hW hS => ?_)
  have hW : wW D b 7 (fL [.inr (8, [.ref (b + 1), .ref (b + 2), .ref (b + 3), .ref (b + 4), .int 0, .ref (b + 5), .int 0, .int 0, .int 0, .int 0, .int 0, .ref (b + 6)]), .inl (cs 0, 193, .inl (upd (upd (fun _ => 0) 0 10) 1 2)), .inl (cs 0, 193, .inl (fun _ => 0)), .inl (cs 0, 193, .inl (fun _ => 0)), .inl (cs 0, 772, .inl (fun _ => 0)), .inl (cs 0, 80, .inl (fun _ => 0)), .inl (cs 0, 2, .inl (fun _ => 0))]) H := wW_e hW (fun j _ => fL_set [.inr (8, [.ref (b + 1), .ref (b + 2), .ref (b + 3), .ref (b + 4), .int 0, .ref (b + 5), .int 0, .int 0, .int 0, .int 0, .int 0, .ref (b + 6)]), .inl (cs 0, 193, .inl (upd (fun _ => 0) 0 10)), .inl (cs 0, 193, .inl (fun _ => 0)), .inl (cs 0, 193, .inl (fun _ => 0)), .inl (cs 0, 772, .inl (fun _ => 0)), .inl (cs 0, 80, .inl (fun _ => 0)), .inl (cs 0, 2, .inl (fun _ => 0))] (Nat.le_of_ble_eq_true rfl) j)
  refine lv_aload_n hx hb dX10_init_70 rfl (lv_at hl 0 rfl) ?_
  refine nw_get (j := 0) (ci := 8) (fs := [.ref (b + 1), .ref (b + 2), .ref (b + 3), .ref (b + 4), .int 0, .ref (b + 5), .int 0, .int 0, .int 0, .int 0, .int 0, .ref (b + 6)]) (C := RX10) (T := TX10) (N := 12) hx hb hL inX10 hown hK hW (by decide) rfl rfl 0 (by decide) nwd_18 rfl rfl dX10_init_71 ?_
  refine lv_iconst (v := 2) hx hb dX10_init_74 (by decide) ?_
  refine lv_bipush (v := 15) hx hb dX10_init_75 (by decide) ?_
  refine nw_iast (j := 1) (N := 193) (g := (upd (upd (fun _ => 0) 0 10) 1 2)) (k := 2) (x := 15) hx hb hK hW hS (by decide) rfl (inb_in (by decide)) dX10_init_77 (fun H locs hW hS => ?_)
  have hW : wW D b 7 (fL [.inr (8, [.ref (b + 1), .ref (b + 2), .ref (b + 3), .ref (b + 4), .int 0, .ref (b + 5), .int 0, .int 0, .int 0, .int 0, .int 0, .ref (b + 6)]), .inl (cs 0, 193, .inl (upd (upd (upd (fun _ => 0) 0 10) 1 2) 2 15)), .inl (cs 0, 193, .inl (fun _ => 0)), .inl (cs 0, 193, .inl (fun _ => 0)), .inl (cs 0, 772, .inl (fun _ => 0)), .inl (cs 0, 80, .inl (fun _ => 0)), .inl (cs 0, 2, .inl (fun _ => 0))]) H := wW_e hW (fun j _ => fL_set [.inr (8, [.ref (b + 1), .ref (b + 2), .ref (b + 3), .ref (b + 4), .int 0, .ref (b + 5), .int 0, .int 0, .int 0, .int 0, .int 0, .ref (b + 6)]), .inl (cs 0, 193, .inl (upd (upd (fun _ => 0) 0 10) 1 2)), .inl (cs 0, 193, .inl (fun _ => 0)), .inl (cs 0, 193, .inl (fun _ => 0)), .inl (cs 0, 772, .inl (fun _ => 0)), .inl (cs 0, 80, .inl (fun _ => 0)), .inl (cs 0, 2, .inl (fun _ => 0))] (Nat.le_of_ble_eq_true rfl) j)
  exact hend H locs _ ls hW hS dX10_init_78
set_option maxHeartbeats 4000000 in
set_option maxRecDepth 100000 in
theorem nl_X4 {p : Program} {l : Launch} {e : Env} {s : State} {m : MethodId} {args : Array Value} {below : List Frame} {meth : Method} {c : Code} {Q : State → Prop} {D : va_G} {cs : Nat → ClassId} {b : Nat} {H0 : Heap} (hx : p.tables.exec = Jvm.exec) (hb : c.code = cX1_init) (hml : c.maxLocals = 2) (hown : s.vm.findClass RX1 = some m.cls) (hL : ∀ w ∈ zWL, w.before args s = true) (hK : wK D cs s)
    (kk : ∀ (H : Heap) (locs : List Loc), wW D b (11 + 12) (hF b cs (nFP (b + 11) 12) (fun _ => none) (fun _ => 0)) H → va_S (nA b) H0 H locs → ∀ ls : Array Slot, lv_has ls 2 [(1, .int (nI 12)), (0, .ref (b + 0))] → W p l e { frames := 2, cells := 32, slots := 238, locals := 33 } s m args below meth c H locs (10 + 12) (74 + 7 * 12) Q (F0 m 86 ls [])) :
    ∀ (n i : Nat) (H : Heap) (locs : List Loc) (ls : Array Slot), i ≤ 12 → 12 + 1 ≤ i + n → wW D b (11 + i) (hF b cs (nFP (b + 11) i) (fun _ => none) (fun _ => 0)) H → va_S (nA b) H0 H locs → lv_has ls 2 [(1, .int (nI i)), (0, .ref (b + 0))] → W p l e { frames := 2, cells := 32, slots := 238, locals := 33 } s m args below meth c H locs (10 + i) (74 + 7 * i) Q (F0 m 60 ls []) := by
  intro n
  induction n with
  | zero =>
    intro i H locs ls h1 h2
    exact absurd h2 (by omega)
  | succ n ih =>
    intro i H locs ls h1 h2 hW hS hl
    refine lv_iload_n hx hb dX1_init_60 rfl (lv_at hl 0 rfl) ?_
    refine lv_bipush (v := 12) hx hb dX1_init_61 (by decide) ?_
    refine lv_icmp_ge (tgt := 86) hx hb dX1_init_63 (by decide) (fun c1 => ?_) (fun c1 => ?_)
    · have e : i = 12 := by
        rcases Nat.lt_or_ge i 12 with q | q
        · exact absurd c1 (nI_ge (a := i) (b := 12) q (by omega))
        · omega
      subst e
      exact kk H locs hW hS ls hl
    · have hi : i < 12 := by
        rcases Nat.lt_or_ge i 12 with q | q
        · exact q
        · exact absurd (nI_le (a := 12) (b := i) q (by omega)) c1
      refine lv_aload_n hx hb dX1_init_66 rfl (lv_at hl 1 rfl) ?_
      refine nw_get (j := 0) (ci := 0) (fs := [.ref (b + 1), .ref (b + 2), .ref (b + 3), .ref (b + 6), .ref (b + 9), .ref (b + 10), .int 0, .int 0, .int 0, .int 0]) (C := RX1) (T := TX1) (N := 10) hx hb hL inX1 hown hK hW (by omega) rfl rfl 0 (by decide) nwd_26 rfl rfl dX1_init_67 ?_
      refine lv_iload_n hx hb dX1_init_70 rfl (lv_at hl 0 rfl) ?_
      refine nw_new (ci := 3) (fs := [.int 0, .int 0, .int 0, .int 0, .int 0, .int 0, .int 0]) (C := RX4) (T := TX4) (N := 7) hx hb hL inX4 tyX4 tyX4_ok hown nwd_25 nwd_38 nwd_39 hK hW hS rfl (fun j hj => by match j, hj with | 0, _ => rfl | 1, _ => rfl | 2, _ => rfl | 3, _ => rfl | 4, _ => rfl | 5, _ => rfl | 6, _ => rfl | q + 7, hj => exact absurd hj (by omega)) (show 10 + i + 1 ≤ 32 by omega) (show 74 + 7 * i + 7 ≤ 238 by omega) dX1_init_71 (fun H hW hS => ?_)
      refine lv_dup hx hb dX1_init_74 rfl ?_
      refine lv_iload_n hx hb dX1_init_75 rfl (lv_at hl 0 rfl) ?_
      refine nw_call (As := [.int (nI i)]) (nn := 1) hx hb hml hown hL hK hW hS (fE_s _ _ _) (nk_X4 (b + (11 + i)) (nI i)) nwd_41 nwd_42 nwd_39 nwd_40 rfl (by decide +kernel) ⟨rfl, rfl⟩ ⟨by decide, by decide⟩ rfl hl.1 rfl (by simp [Value.category]) dX1_init_76 ⟨show 10 + i + 1 + 0 ≤ 32 by omega, show 74 + 7 * i + 7 + 0 ≤ 238 by omega⟩ (fun H locs hW hS => ?_)
      have hW : wW D b (11 + i + 1) (fE (hF b cs (nFP (b + 11) i) (fun _ => none) (fun _ => 0)) (11 + i) (hLk i)) H := wW_e hW (fun j hj => hF_st4 (by omega) j hj)
      refine nw_aast (j := 1) (jv := 11 + i) (ci := 3) (vs := _) (N := 12) (cA := cs 2) (g := nFP (b + 11) i) (k := nI i) hx hb hK hW hS (by omega) 2 (fE_n _ _ (by omega)) rfl (by omega) (fE_s _ _ _) rfl (vp_in_nI hi (by omega)) dX1_init_79 (fun H locs hW hS => ?_)
      have hW : wW D b (11 + (i + 1)) (hF b cs (nFP (b + 11) (i + 1)) (fun _ => none) (fun _ => 0)) H := wW_e hW (fun j hj => hF_up4 hi j hj)
      refine lv_iinc (v := nI (i + 1)) (lv' := [(1, .int (nI (i + 1))), (0, .ref (b + 0))]) hx hb dX1_init_80 hl (k := 0) rfl (nI_1 i) (by decide) rfl (fun ls hl => ?_)
      refine lv_goto (tgt := 60) hx hb dX1_init_83 (by decide) ?_
      refine W.widen (k := 10 + (i + 1)) (n := 74 + 7 * (i + 1)) (by omega) (by omega) ?_
      exact ih (i + 1) H locs ls (by omega) (by omega) hW hS hl
set_option maxHeartbeats 4000000 in
set_option maxRecDepth 100000 in
theorem nl_X5 {p : Program} {l : Launch} {e : Env} {s : State} {m : MethodId} {args : Array Value} {below : List Frame} {meth : Method} {c : Code} {Q : State → Prop} {D : va_G} {cs : Nat → ClassId} {b : Nat} {H0 : Heap} (hx : p.tables.exec = Jvm.exec) (hb : c.code = cX1_init) (hml : c.maxLocals = 2) (hown : s.vm.findClass RX1 = some m.cls) (hL : ∀ w ∈ zWL, w.before args s = true) (hK : wK D cs s)
    (kk : ∀ (H : Heap) (locs : List Loc), wW D b (23 + 10) (hF b cs (nFP (b + 11) 12) (nFP (b + 23) 10) (fun _ => 0)) H → va_S (nA b) H0 H locs → ∀ ls : Array Slot, lv_has ls 2 [(1, .int (nI 10)), (0, .ref (b + 0))] → W p l e { frames := 2, cells := 32, slots := 238, locals := 33 } s m args below meth c H locs (22 + 10) (158 + 8 * 10) Q (F0 m 114 ls [])) :
    ∀ (n i : Nat) (H : Heap) (locs : List Loc) (ls : Array Slot), i ≤ 10 → 10 + 1 ≤ i + n → wW D b (23 + i) (hF b cs (nFP (b + 11) 12) (nFP (b + 23) i) (fun _ => 0)) H → va_S (nA b) H0 H locs → lv_has ls 2 [(1, .int (nI i)), (0, .ref (b + 0))] → W p l e { frames := 2, cells := 32, slots := 238, locals := 33 } s m args below meth c H locs (22 + i) (158 + 8 * i) Q (F0 m 88 ls []) := by
  intro n
  induction n with
  | zero =>
    intro i H locs ls h1 h2
    exact absurd h2 (by omega)
  | succ n ih =>
    intro i H locs ls h1 h2 hW hS hl
    refine lv_iload_n hx hb dX1_init_88 rfl (lv_at hl 0 rfl) ?_
    refine lv_bipush (v := 10) hx hb dX1_init_89 (by decide) ?_
    refine lv_icmp_ge (tgt := 114) hx hb dX1_init_91 (by decide) (fun c1 => ?_) (fun c1 => ?_)
    · have e : i = 10 := by
        rcases Nat.lt_or_ge i 10 with q | q
        · exact absurd c1 (nI_ge (a := i) (b := 10) q (by omega))
        · omega
      subst e
      exact kk H locs hW hS ls hl
    · have hi : i < 10 := by
        rcases Nat.lt_or_ge i 10 with q | q
        · exact q
        · exact absurd (nI_le (a := 10) (b := i) q (by omega)) c1
      refine lv_aload_n hx hb dX1_init_94 rfl (lv_at hl 1 rfl) ?_
      refine nw_get (j := 0) (ci := 0) (fs := [.ref (b + 1), .ref (b + 2), .ref (b + 3), .ref (b + 6), .ref (b + 9), .ref (b + 10), .int 0, .int 0, .int 0, .int 0]) (C := RX1) (T := TX1) (N := 10) hx hb hL inX1 hown hK hW (by omega) rfl rfl 1 (by decide) nwd_28 rfl rfl dX1_init_95 ?_
      refine lv_iload_n hx hb dX1_init_98 rfl (lv_at hl 0 rfl) ?_
      refine nw_new (ci := 4) (fs := [.int 0, .int 0, .int 0, .int 0, .int 0, .int 0, .int 0, .int 0]) (C := RX5) (T := TX5) (N := 8) hx hb hL inX5 tyX5 tyX5_ok hown nwd_27 nwd_43 nwd_44 hK hW hS rfl (fun j hj => by match j, hj with | 0, _ => rfl | 1, _ => rfl | 2, _ => rfl | 3, _ => rfl | 4, _ => rfl | 5, _ => rfl | 6, _ => rfl | 7, _ => rfl | q + 8, hj => exact absurd hj (by omega)) (show 22 + i + 1 ≤ 32 by omega) (show 158 + 8 * i + 8 ≤ 238 by omega) dX1_init_99 (fun H hW hS => ?_)
      refine lv_dup hx hb dX1_init_102 rfl ?_
      refine lv_iload_n hx hb dX1_init_103 rfl (lv_at hl 0 rfl) ?_
      refine nw_call (As := [.int (nI i)]) (nn := 1) hx hb hml hown hL hK hW hS (fE_s _ _ _) (nk_X5 (b + (23 + i)) (nI i)) nwd_46 nwd_47 nwd_44 nwd_45 rfl (by decide +kernel) ⟨rfl, rfl⟩ ⟨by decide, by decide⟩ rfl hl.1 rfl (by simp [Value.category]) dX1_init_104 ⟨show 22 + i + 1 + 0 ≤ 32 by omega, show 158 + 8 * i + 8 + 0 ≤ 238 by omega⟩ (fun H locs hW hS => ?_)
      have hW : wW D b (23 + i + 1) (fE (hF b cs (nFP (b + 11) 12) (nFP (b + 23) i) (fun _ => 0)) (23 + i) (hPe i)) H := wW_e hW (fun j hj => hF_st5 (by omega) j hj)
      refine nw_aast (j := 2) (jv := 23 + i) (ci := 4) (vs := _) (N := 10) (cA := cs 3) (g := nFP (b + 23) i) (k := nI i) hx hb hK hW hS (by omega) 3 (fE_n _ _ (by omega)) rfl (by omega) (fE_s _ _ _) rfl (vp_in_nI hi (by omega)) dX1_init_107 (fun H locs hW hS => ?_)
      have hW : wW D b (23 + (i + 1)) (hF b cs (nFP (b + 11) 12) (nFP (b + 23) (i + 1)) (fun _ => 0)) H := wW_e hW (fun j hj => hF_up5 hi j hj)
      refine lv_iinc (v := nI (i + 1)) (lv' := [(1, .int (nI (i + 1))), (0, .ref (b + 0))]) hx hb dX1_init_108 hl (k := 0) rfl (nI_1 i) (by decide) rfl (fun ls hl => ?_)
      refine lv_goto (tgt := 88) hx hb dX1_init_111 (by decide) ?_
      refine W.widen (k := 22 + (i + 1)) (n := 158 + 8 * (i + 1)) (by omega) (by omega) ?_
      exact ih (i + 1) H locs ls (by omega) (by omega) hW hS hl
set_option maxHeartbeats 4000000 in
set_option maxRecDepth 100000 in
theorem nk_X1 {l : Launch} {D : va_G} {cs : Nat → ClassId} (b : Nat) : nCt l D cs yX1_init cX1_init 2 { frames := 2, cells := 32, slots := 238, locals := 33 } [] b 33 (.inr (0, [.null, .null, .null, .null, .null, .null, .int 0, .int 0, .int 0, .int 0])) (hFF b cs) 32 238 := by
  refine nw_Ct (by decide +kernel) rfl (Nat.le_of_ble_eq_true rfl) ?_
  intro p e s m args below meth c Q hx hb hml hown hL hin hK hW hS hend ls hl
  have hW : wW D b 1 (fL [.inr (0, [.null, .null, .null, .null, .null, .null, .int 0, .int 0, .int 0, .int 0])]) s.heap := wW_e hW (fun j hj => by match j, hj with | 0, _ => rfl)
  have hl : lv_has ls 2 [(0, .ref (b + 0))] := hl
  refine lv_aload_n hx hb dX1_init_0 rfl (lv_at hl 0 rfl) ?_
  refine nw_obj hx hb hml hown hL nwd_24 nwd_1 nwd_2 hl.1 dX1_init_1 (by decide) (by decide) ?_
  refine lv_aload_n hx hb dX1_init_4 rfl (lv_at hl 0 rfl) ?_
  refine lv_bipush (v := 12) hx hb dX1_init_5 (by decide) ?_
  refine nw_anew (cA := cs 2) (N' := 12) (C := RX4) hx hb hown hL nwd_25 (hK.2.2 _ (by decide)) (hK.1.2 2 _ rfl).2 hW hS (by decide) (by decide) (by decide) (by decide) (by decide) dX1_init_7 (fun H hW hS => ?_)
  have hW : wW D b 2 (fL [.inr (0, [.null, .null, .null, .null, .null, .null, .int 0, .int 0, .int 0, .int 0]), .inl (cs 2, 12, zq (fun _ => none))]) H := wW_e hW (fun j hj => fL_push [.inr (0, [.null, .null, .null, .null, .null, .null, .int 0, .int 0, .int 0, .int 0])] _ j hj)
  refine nw_putF (j := 0) (ci := 0) (fs := [.null, .null, .null, .null, .null, .null, .int 0, .int 0, .int 0, .int 0]) (v := .ref (b + 1)) (C := RX1) (T := TX1) (N := 10) hx hb hL inX1 tyX1 tyX1_ok nmX1 hown hK hW hS (by decide) rfl rfl 0 (by decide) nwd_26 rfl rfl hin rfl rfl rfl (Nat.le_of_ble_eq_true rfl) dX1_init_10 (fun H locs hW hS => ?_)
  have hW : wW D b 2 (fL [.inr (0, [.ref (b + 1), .null, .null, .null, .null, .null, .int 0, .int 0, .int 0, .int 0]), .inl (cs 2, 12, zq (fun _ => none))]) H := wW_e hW (fun j _ => fL_set [.inr (0, [.null, .null, .null, .null, .null, .null, .int 0, .int 0, .int 0, .int 0]), .inl (cs 2, 12, zq (fun _ => none))] (Nat.le_of_ble_eq_true rfl) j)
  refine lv_aload_n hx hb dX1_init_13 rfl (lv_at hl 0 rfl) ?_
  refine lv_bipush (v := 10) hx hb dX1_init_14 (by decide) ?_
  refine nw_anew (cA := cs 3) (N' := 10) (C := RX5) hx hb hown hL nwd_27 (hK.2.2 _ (by decide)) (hK.1.2 3 _ rfl).2 hW hS (by decide) (by decide) (by decide) (by decide) (by decide) dX1_init_16 (fun H hW hS => ?_)
  have hW : wW D b 3 (fL [.inr (0, [.ref (b + 1), .null, .null, .null, .null, .null, .int 0, .int 0, .int 0, .int 0]), .inl (cs 2, 12, zq (fun _ => none)), .inl (cs 3, 10, zq (fun _ => none))]) H := wW_e hW (fun j hj => fL_push [.inr (0, [.ref (b + 1), .null, .null, .null, .null, .null, .int 0, .int 0, .int 0, .int 0]), .inl (cs 2, 12, zq (fun _ => none))] _ j hj)
  refine nw_putF (j := 0) (ci := 0) (fs := [.ref (b + 1), .null, .null, .null, .null, .null, .int 0, .int 0, .int 0, .int 0]) (v := .ref (b + 2)) (C := RX1) (T := TX1) (N := 10) hx hb hL inX1 tyX1 tyX1_ok nmX1 hown hK hW hS (by decide) rfl rfl 1 (by decide) nwd_28 rfl rfl hin rfl rfl rfl (Nat.le_of_ble_eq_true rfl) dX1_init_19 (fun H locs hW hS => ?_)
  have hW : wW D b 3 (fL [.inr (0, [.ref (b + 1), .ref (b + 2), .null, .null, .null, .null, .int 0, .int 0, .int 0, .int 0]), .inl (cs 2, 12, zq (fun _ => none)), .inl (cs 3, 10, zq (fun _ => none))]) H := wW_e hW (fun j _ => fL_set [.inr (0, [.ref (b + 1), .null, .null, .null, .null, .null, .int 0, .int 0, .int 0, .int 0]), .inl (cs 2, 12, zq (fun _ => none)), .inl (cs 3, 10, zq (fun _ => none))] (Nat.le_of_ble_eq_true rfl) j)
  refine lv_aload_n hx hb dX1_init_22 rfl (lv_at hl 0 rfl) ?_
  refine nw_new (ci := 2) (fs := [.null, .null, .int 0]) (C := RX3) (T := TX3) (N := 3) hx hb hL inX3 tyX3 tyX3_ok hown nwd_29 nwd_30 nwd_31 hK hW hS rfl (fun j hj => by match j, hj with | 0, _ => rfl | 1, _ => rfl | 2, _ => rfl | q + 3, hj => exact absurd hj (by omega)) (by decide) (by decide) dX1_init_23 (fun H hW hS => ?_)
  have hW : wW D b 4 (fL [.inr (0, [.ref (b + 1), .ref (b + 2), .null, .null, .null, .null, .int 0, .int 0, .int 0, .int 0]), .inl (cs 2, 12, zq (fun _ => none)), .inl (cs 3, 10, zq (fun _ => none)), .inr (2, [.null, .null, .int 0])]) H := wW_e hW (fun j hj => fL_push [.inr (0, [.ref (b + 1), .ref (b + 2), .null, .null, .null, .null, .int 0, .int 0, .int 0, .int 0]), .inl (cs 2, 12, zq (fun _ => none)), .inl (cs 3, 10, zq (fun _ => none))] _ j hj)
  refine lv_dup hx hb dX1_init_26 rfl ?_
  refine nw_callN (As := []) (nn := 0) (host := "LockerChains") hx hb hml hown hL hK hW hS rfl (nk_X3 (b + 3)) nwd_32 nwd_33 nwd_31 2 rfl rfl (by decide +kernel) ⟨rfl, rfl⟩ ⟨by decide, by decide⟩ rfl hl.1 rfl (by simp [Value.category]) dX1_init_27 ⟨by decide, by decide⟩ (fun H locs hW hS => ?_)
  have hW : wW D b 6 (fL [.inr (0, [.ref (b + 1), .ref (b + 2), .null, .null, .null, .null, .int 0, .int 0, .int 0, .int 0]), .inl (cs 2, 12, zq (fun _ => none)), .inl (cs 3, 10, zq (fun _ => none)), .inr (2, [.ref (b + 4), .ref (b + 5), .int 0]), .inl (cs 0, 10, .inl (fun _ => 0)), .inl (cs 0, 10, .inl (fun _ => 0))]) H := wW_e hW (fun j hj => by match j, hj with | 0, _ => rfl | 1, _ => rfl | 2, _ => rfl | 3, _ => rfl | 4, _ => rfl | 5, _ => rfl | q + 6, hj => exact absurd hj (by omega))
  refine nw_putF (j := 0) (ci := 0) (fs := [.ref (b + 1), .ref (b + 2), .null, .null, .null, .null, .int 0, .int 0, .int 0, .int 0]) (v := .ref (b + 3)) (C := RX1) (T := TX1) (N := 10) hx hb hL inX1 tyX1 tyX1_ok nmX1 hown hK hW hS (by decide) rfl rfl 2 (by decide) nwd_34 rfl rfl hin rfl rfl rfl (Nat.le_of_ble_eq_true rfl) dX1_init_30 (fun H locs hW hS => ?_)
  have hW : wW D b 6 (fL [.inr (0, [.ref (b + 1), .ref (b + 2), .ref (b + 3), .null, .null, .null, .int 0, .int 0, .int 0, .int 0]), .inl (cs 2, 12, zq (fun _ => none)), .inl (cs 3, 10, zq (fun _ => none)), .inr (2, [.ref (b + 4), .ref (b + 5), .int 0]), .inl (cs 0, 10, .inl (fun _ => 0)), .inl (cs 0, 10, .inl (fun _ => 0))]) H := wW_e hW (fun j _ => fL_set [.inr (0, [.ref (b + 1), .ref (b + 2), .null, .null, .null, .null, .int 0, .int 0, .int 0, .int 0]), .inl (cs 2, 12, zq (fun _ => none)), .inl (cs 3, 10, zq (fun _ => none)), .inr (2, [.ref (b + 4), .ref (b + 5), .int 0]), .inl (cs 0, 10, .inl (fun _ => 0)), .inl (cs 0, 10, .inl (fun _ => 0))] (Nat.le_of_ble_eq_true rfl) j)
  refine lv_aload_n hx hb dX1_init_33 rfl (lv_at hl 0 rfl) ?_
  refine nw_new (ci := 2) (fs := [.null, .null, .int 0]) (C := RX3) (T := TX3) (N := 3) hx hb hL inX3 tyX3 tyX3_ok hown nwd_29 nwd_30 nwd_31 hK hW hS rfl (fun j hj => by match j, hj with | 0, _ => rfl | 1, _ => rfl | 2, _ => rfl | q + 3, hj => exact absurd hj (by omega)) (by decide) (by decide) dX1_init_34 (fun H hW hS => ?_)
  have hW : wW D b 7 (fL [.inr (0, [.ref (b + 1), .ref (b + 2), .ref (b + 3), .null, .null, .null, .int 0, .int 0, .int 0, .int 0]), .inl (cs 2, 12, zq (fun _ => none)), .inl (cs 3, 10, zq (fun _ => none)), .inr (2, [.ref (b + 4), .ref (b + 5), .int 0]), .inl (cs 0, 10, .inl (fun _ => 0)), .inl (cs 0, 10, .inl (fun _ => 0)), .inr (2, [.null, .null, .int 0])]) H := wW_e hW (fun j hj => fL_push [.inr (0, [.ref (b + 1), .ref (b + 2), .ref (b + 3), .null, .null, .null, .int 0, .int 0, .int 0, .int 0]), .inl (cs 2, 12, zq (fun _ => none)), .inl (cs 3, 10, zq (fun _ => none)), .inr (2, [.ref (b + 4), .ref (b + 5), .int 0]), .inl (cs 0, 10, .inl (fun _ => 0)), .inl (cs 0, 10, .inl (fun _ => 0))] _ j hj)
  refine lv_dup hx hb dX1_init_37 rfl ?_
  refine nw_callN (As := []) (nn := 0) (host := "LockerChains") hx hb hml hown hL hK hW hS rfl (nk_X3 (b + 6)) nwd_32 nwd_33 nwd_31 2 rfl rfl (by decide +kernel) ⟨rfl, rfl⟩ ⟨by decide, by decide⟩ rfl hl.1 rfl (by simp [Value.category]) dX1_init_38 ⟨by decide, by decide⟩ (fun H locs hW hS => ?_)
  have hW : wW D b 9 (fL [.inr (0, [.ref (b + 1), .ref (b + 2), .ref (b + 3), .null, .null, .null, .int 0, .int 0, .int 0, .int 0]), .inl (cs 2, 12, zq (fun _ => none)), .inl (cs 3, 10, zq (fun _ => none)), .inr (2, [.ref (b + 4), .ref (b + 5), .int 0]), .inl (cs 0, 10, .inl (fun _ => 0)), .inl (cs 0, 10, .inl (fun _ => 0)), .inr (2, [.ref (b + 7), .ref (b + 8), .int 0]), .inl (cs 0, 10, .inl (fun _ => 0)), .inl (cs 0, 10, .inl (fun _ => 0))]) H := wW_e hW (fun j hj => by match j, hj with | 0, _ => rfl | 1, _ => rfl | 2, _ => rfl | 3, _ => rfl | 4, _ => rfl | 5, _ => rfl | 6, _ => rfl | 7, _ => rfl | 8, _ => rfl | q + 9, hj => exact absurd hj (by omega))
  refine nw_putF (j := 0) (ci := 0) (fs := [.ref (b + 1), .ref (b + 2), .ref (b + 3), .null, .null, .null, .int 0, .int 0, .int 0, .int 0]) (v := .ref (b + 6)) (C := RX1) (T := TX1) (N := 10) hx hb hL inX1 tyX1 tyX1_ok nmX1 hown hK hW hS (by decide) rfl rfl 3 (by decide) nwd_35 rfl rfl hin rfl rfl rfl (Nat.le_of_ble_eq_true rfl) dX1_init_41 (fun H locs hW hS => ?_)
  have hW : wW D b 9 (fL [.inr (0, [.ref (b + 1), .ref (b + 2), .ref (b + 3), .ref (b + 6), .null, .null, .int 0, .int 0, .int 0, .int 0]), .inl (cs 2, 12, zq (fun _ => none)), .inl (cs 3, 10, zq (fun _ => none)), .inr (2, [.ref (b + 4), .ref (b + 5), .int 0]), .inl (cs 0, 10, .inl (fun _ => 0)), .inl (cs 0, 10, .inl (fun _ => 0)), .inr (2, [.ref (b + 7), .ref (b + 8), .int 0]), .inl (cs 0, 10, .inl (fun _ => 0)), .inl (cs 0, 10, .inl (fun _ => 0))]) H := wW_e hW (fun j _ => fL_set [.inr (0, [.ref (b + 1), .ref (b + 2), .ref (b + 3), .null, .null, .null, .int 0, .int 0, .int 0, .int 0]), .inl (cs 2, 12, zq (fun _ => none)), .inl (cs 3, 10, zq (fun _ => none)), .inr (2, [.ref (b + 4), .ref (b + 5), .int 0]), .inl (cs 0, 10, .inl (fun _ => 0)), .inl (cs 0, 10, .inl (fun _ => 0)), .inr (2, [.ref (b + 7), .ref (b + 8), .int 0]), .inl (cs 0, 10, .inl (fun _ => 0)), .inl (cs 0, 10, .inl (fun _ => 0))] (Nat.le_of_ble_eq_true rfl) j)
  refine lv_aload_n hx hb dX1_init_44 rfl (lv_at hl 0 rfl) ?_
  refine lv_iconst (v := 3) hx hb dX1_init_45 (by decide) ?_
  refine nw_newa (atype := .int) (cA := cs 0) (N' := 3) (a0 := (3, .inl (fun _ => 0))) hx hb hL nwd_11 (hK.1.2 0 _ rfl).2 hW hS rfl (by decide) (by decide) (by decide) (by decide) (by decide) dX1_init_46 (fun H hW hS => ?_)
  have hW : wW D b 10 (fL [.inr (0, [.ref (b + 1), .ref (b + 2), .ref (b + 3), .ref (b + 6), .null, .null, .int 0, .int 0, .int 0, .int 0]), .inl (cs 2, 12, zq (fun _ => none)), .inl (cs 3, 10, zq (fun _ => none)), .inr (2, [.ref (b + 4), .ref (b + 5), .int 0]), .inl (cs 0, 10, .inl (fun _ => 0)), .inl (cs 0, 10, .inl (fun _ => 0)), .inr (2, [.ref (b + 7), .ref (b + 8), .int 0]), .inl (cs 0, 10, .inl (fun _ => 0)), .inl (cs 0, 10, .inl (fun _ => 0)), .inl (cs 0, 3, .inl (fun _ => 0))]) H := wW_e hW (fun j hj => fL_push [.inr (0, [.ref (b + 1), .ref (b + 2), .ref (b + 3), .ref (b + 6), .null, .null, .int 0, .int 0, .int 0, .int 0]), .inl (cs 2, 12, zq (fun _ => none)), .inl (cs 3, 10, zq (fun _ => none)), .inr (2, [.ref (b + 4), .ref (b + 5), .int 0]), .inl (cs 0, 10, .inl (fun _ => 0)), .inl (cs 0, 10, .inl (fun _ => 0)), .inr (2, [.ref (b + 7), .ref (b + 8), .int 0]), .inl (cs 0, 10, .inl (fun _ => 0)), .inl (cs 0, 10, .inl (fun _ => 0))] _ j hj)
  refine nw_putF (j := 0) (ci := 0) (fs := [.ref (b + 1), .ref (b + 2), .ref (b + 3), .ref (b + 6), .null, .null, .int 0, .int 0, .int 0, .int 0]) (v := .ref (b + 9)) (C := RX1) (T := TX1) (N := 10) hx hb hL inX1 tyX1 tyX1_ok nmX1 hown hK hW hS (by decide) rfl rfl 4 (by decide) nwd_36 rfl rfl hin rfl rfl rfl (Nat.le_of_ble_eq_true rfl) dX1_init_48 (fun H locs hW hS => ?_)
  have hW : wW D b 10 (fL [.inr (0, [.ref (b + 1), .ref (b + 2), .ref (b + 3), .ref (b + 6), .ref (b + 9), .null, .int 0, .int 0, .int 0, .int 0]), .inl (cs 2, 12, zq (fun _ => none)), .inl (cs 3, 10, zq (fun _ => none)), .inr (2, [.ref (b + 4), .ref (b + 5), .int 0]), .inl (cs 0, 10, .inl (fun _ => 0)), .inl (cs 0, 10, .inl (fun _ => 0)), .inr (2, [.ref (b + 7), .ref (b + 8), .int 0]), .inl (cs 0, 10, .inl (fun _ => 0)), .inl (cs 0, 10, .inl (fun _ => 0)), .inl (cs 0, 3, .inl (fun _ => 0))]) H := wW_e hW (fun j _ => fL_set [.inr (0, [.ref (b + 1), .ref (b + 2), .ref (b + 3), .ref (b + 6), .null, .null, .int 0, .int 0, .int 0, .int 0]), .inl (cs 2, 12, zq (fun _ => none)), .inl (cs 3, 10, zq (fun _ => none)), .inr (2, [.ref (b + 4), .ref (b + 5), .int 0]), .inl (cs 0, 10, .inl (fun _ => 0)), .inl (cs 0, 10, .inl (fun _ => 0)), .inr (2, [.ref (b + 7), .ref (b + 8), .int 0]), .inl (cs 0, 10, .inl (fun _ => 0)), .inl (cs 0, 10, .inl (fun _ => 0)), .inl (cs 0, 3, .inl (fun _ => 0))] (Nat.le_of_ble_eq_true rfl) j)
  refine lv_aload_n hx hb dX1_init_51 rfl (lv_at hl 0 rfl) ?_
  refine lv_iconst (v := 3) hx hb dX1_init_52 (by decide) ?_
  refine nw_newa (atype := .int) (cA := cs 0) (N' := 3) (a0 := (3, .inl (fun _ => 0))) hx hb hL nwd_11 (hK.1.2 0 _ rfl).2 hW hS rfl (by decide) (by decide) (by decide) (by decide) (by decide) dX1_init_53 (fun H hW hS => ?_)
  have hW : wW D b 11 (fL [.inr (0, [.ref (b + 1), .ref (b + 2), .ref (b + 3), .ref (b + 6), .ref (b + 9), .null, .int 0, .int 0, .int 0, .int 0]), .inl (cs 2, 12, zq (fun _ => none)), .inl (cs 3, 10, zq (fun _ => none)), .inr (2, [.ref (b + 4), .ref (b + 5), .int 0]), .inl (cs 0, 10, .inl (fun _ => 0)), .inl (cs 0, 10, .inl (fun _ => 0)), .inr (2, [.ref (b + 7), .ref (b + 8), .int 0]), .inl (cs 0, 10, .inl (fun _ => 0)), .inl (cs 0, 10, .inl (fun _ => 0)), .inl (cs 0, 3, .inl (fun _ => 0)), .inl (cs 0, 3, .inl (fun _ => 0))]) H := wW_e hW (fun j hj => fL_push [.inr (0, [.ref (b + 1), .ref (b + 2), .ref (b + 3), .ref (b + 6), .ref (b + 9), .null, .int 0, .int 0, .int 0, .int 0]), .inl (cs 2, 12, zq (fun _ => none)), .inl (cs 3, 10, zq (fun _ => none)), .inr (2, [.ref (b + 4), .ref (b + 5), .int 0]), .inl (cs 0, 10, .inl (fun _ => 0)), .inl (cs 0, 10, .inl (fun _ => 0)), .inr (2, [.ref (b + 7), .ref (b + 8), .int 0]), .inl (cs 0, 10, .inl (fun _ => 0)), .inl (cs 0, 10, .inl (fun _ => 0)), .inl (cs 0, 3, .inl (fun _ => 0))] _ j hj)
  refine nw_putF (j := 0) (ci := 0) (fs := [.ref (b + 1), .ref (b + 2), .ref (b + 3), .ref (b + 6), .ref (b + 9), .null, .int 0, .int 0, .int 0, .int 0]) (v := .ref (b + 10)) (C := RX1) (T := TX1) (N := 10) hx hb hL inX1 tyX1 tyX1_ok nmX1 hown hK hW hS (by decide) rfl rfl 5 (by decide) nwd_37 rfl rfl hin rfl rfl rfl (Nat.le_of_ble_eq_true rfl) dX1_init_55 (fun H locs hW hS => ?_)
  have hW : wW D b 11 (fL [.inr (0, [.ref (b + 1), .ref (b + 2), .ref (b + 3), .ref (b + 6), .ref (b + 9), .ref (b + 10), .int 0, .int 0, .int 0, .int 0]), .inl (cs 2, 12, zq (fun _ => none)), .inl (cs 3, 10, zq (fun _ => none)), .inr (2, [.ref (b + 4), .ref (b + 5), .int 0]), .inl (cs 0, 10, .inl (fun _ => 0)), .inl (cs 0, 10, .inl (fun _ => 0)), .inr (2, [.ref (b + 7), .ref (b + 8), .int 0]), .inl (cs 0, 10, .inl (fun _ => 0)), .inl (cs 0, 10, .inl (fun _ => 0)), .inl (cs 0, 3, .inl (fun _ => 0)), .inl (cs 0, 3, .inl (fun _ => 0))]) H := wW_e hW (fun j _ => fL_set [.inr (0, [.ref (b + 1), .ref (b + 2), .ref (b + 3), .ref (b + 6), .ref (b + 9), .null, .int 0, .int 0, .int 0, .int 0]), .inl (cs 2, 12, zq (fun _ => none)), .inl (cs 3, 10, zq (fun _ => none)), .inr (2, [.ref (b + 4), .ref (b + 5), .int 0]), .inl (cs 0, 10, .inl (fun _ => 0)), .inl (cs 0, 10, .inl (fun _ => 0)), .inr (2, [.ref (b + 7), .ref (b + 8), .int 0]), .inl (cs 0, 10, .inl (fun _ => 0)), .inl (cs 0, 10, .inl (fun _ => 0)), .inl (cs 0, 3, .inl (fun _ => 0)), .inl (cs 0, 3, .inl (fun _ => 0))] (Nat.le_of_ble_eq_true rfl) j)
  refine lv_iconst (v := 0) hx hb dX1_init_58 (by decide) ?_
  refine lv_istore_n (lv' := [(1, .int (nI 0)), (0, .ref (b + 0))]) hx hb dX1_init_59 rfl hl (by decide) rfl (fun ls hl => ?_)
  have hW : wW D b (11 + 0) (hF b cs (nFP (b + 11) 0) (fun _ => none) (fun _ => 0)) H := wW_e hW (fun j hj => by match j, hj with | 0, _ => rfl | 1, _ => rfl | 2, _ => rfl | 3, _ => rfl | 4, _ => rfl | 5, _ => rfl | 6, _ => rfl | 7, _ => rfl | 8, _ => rfl | 9, _ => rfl | 10, _ => rfl | q + 11, hj => exact absurd hj (by omega))
  refine W.widen (k := 10 + 0) (n := 74 + 7 * 0) (by decide) (by decide) ?_
  refine nl_X4 (H0 := s.heap) hx hb hml hown hL hK ?_ 13 0 H locs ls (by decide) (by decide) hW hS hl
  intro H locs hW hS ls hl
  refine lv_iconst (v := 0) hx hb dX1_init_86 (by decide) ?_
  refine lv_istore_n (lv' := [(1, .int (nI 0)), (0, .ref (b + 0))]) hx hb dX1_init_87 rfl hl (by decide) rfl (fun ls hl => ?_)
  have hW : wW D b (23 + 0) (hF b cs (nFP (b + 11) 12) (nFP (b + 23) 0) (fun _ => 0)) H := wW_e hW (fun j _ => by rw [nFP_0])
  refine W.widen (k := 22 + 0) (n := 158 + 8 * 0) (by decide) (by decide) ?_
  refine nl_X5 (H0 := s.heap) hx hb hml hown hL hK ?_ 11 0 H locs ls (by decide) (by decide) hW hS hl
  intro H locs hW hS ls hl
  refine lv_aload_n hx hb dX1_init_114 rfl (lv_at hl 1 rfl) ?_
  refine nw_get (j := 0) (ci := 0) (fs := [.ref (b + 1), .ref (b + 2), .ref (b + 3), .ref (b + 6), .ref (b + 9), .ref (b + 10), .int 0, .int 0, .int 0, .int 0]) (C := RX1) (T := TX1) (N := 10) hx hb hL inX1 hown hK hW (by decide) rfl rfl 4 (by decide) nwd_36 rfl rfl dX1_init_115 ?_
  refine lv_iconst (v := 0) hx hb dX1_init_118 (by decide) ?_
  refine lv_bipush (v := 10) hx hb dX1_init_119 (by decide) ?_
  refine nw_iast (j := 9) (N := 3) (g := (fun _ => 0)) (k := 0) (x := 10) hx hb hK hW hS (by decide) rfl (inb_in (by decide)) dX1_init_121 (fun H locs hW hS => ?_)
  have hW : wW D b (23 + 10) (hF b cs (nFP (b + 11) 12) (nFP (b + 23) 10) (upd (fun _ => 0) 0 10)) H := wW_e hW (fun j _ => hF_set j)
  refine lv_aload_n hx hb dX1_init_122 rfl (lv_at hl 1 rfl) ?_
  refine nw_get (j := 0) (ci := 0) (fs := [.ref (b + 1), .ref (b + 2), .ref (b + 3), .ref (b + 6), .ref (b + 9), .ref (b + 10), .int 0, .int 0, .int 0, .int 0]) (C := RX1) (T := TX1) (N := 10) hx hb hL inX1 hown hK hW (by decide) rfl rfl 4 (by decide) nwd_36 rfl rfl dX1_init_123 ?_
  refine lv_iconst (v := 1) hx hb dX1_init_126 (by decide) ?_
  refine lv_iconst (v := 2) hx hb dX1_init_127 (by decide) ?_
  refine nw_iast (j := 9) (N := 3) (g := (upd (fun _ => 0) 0 10)) (k := 1) (x := 2) hx hb hK hW hS (by decide) rfl (inb_in (by decide)) dX1_init_128 (fun H locs hW hS => ?_)
  have hW : wW D b (23 + 10) (hF b cs (nFP (b + 11) 12) (nFP (b + 23) 10) (upd (upd (fun _ => 0) 0 10) 1 2)) H := wW_e hW (fun j _ => hF_set j)
  refine lv_aload_n hx hb dX1_init_129 rfl (lv_at hl 1 rfl) ?_
  refine nw_get (j := 0) (ci := 0) (fs := [.ref (b + 1), .ref (b + 2), .ref (b + 3), .ref (b + 6), .ref (b + 9), .ref (b + 10), .int 0, .int 0, .int 0, .int 0]) (C := RX1) (T := TX1) (N := 10) hx hb hL inX1 hown hK hW (by decide) rfl rfl 4 (by decide) nwd_36 rfl rfl dX1_init_130 ?_
  refine lv_iconst (v := 2) hx hb dX1_init_133 (by decide) ?_
  refine lv_bipush (v := 15) hx hb dX1_init_134 (by decide) ?_
  refine nw_iast (j := 9) (N := 3) (g := (upd (upd (fun _ => 0) 0 10) 1 2)) (k := 2) (x := 15) hx hb hK hW hS (by decide) rfl (inb_in (by decide)) dX1_init_136 (fun H locs hW hS => ?_)
  have hW : wW D b (23 + 10) (hF b cs (nFP (b + 11) 12) (nFP (b + 23) 10) (upd (upd (upd (fun _ => 0) 0 10) 1 2) 2 15)) H := wW_e hW (fun j _ => hF_set j)
  exact hend H locs _ ls hW hS dX1_init_137
