/-! constructors of History, Rehearsal, LockerChains -/
theorem nwe_0 : Cond.methodLink RX6 3 objectInit ∈ zWL := zw_in (zw_1 (List.mem_of_getElem? (i := 217) (by decide +kernel))) rfl
theorem nwe_1 : Cond.instanceMethod objectInit ∈ zWL := zw_in (zw_1 (List.mem_of_getElem? (i := 24) (by decide +kernel))) rfl
theorem nwe_2 : Cond.code objectInit ⟨#[0xb1]⟩ 1 none ∈ zWL := zw_in (zw_1 (List.mem_of_getElem? (i := 25) (by decide +kernel))) rfl
theorem nwe_3 : Cond.classLink RX6 9 RX1 ∈ zWL := zw_in (zw_1 (List.mem_of_getElem? (i := 218) (by decide +kernel))) rfl
theorem nwe_4 : Cond.instantiable RX1 10 ∈ zWL := zw_in (zw_1 (List.mem_of_getElem? (i := 27) (by decide +kernel))) rfl
theorem nwe_5 : Cond.initialized RX1 ∈ zWL := zw_in (zw_1 (List.mem_of_getElem? (i := 2) (by decide +kernel))) rfl
theorem nwe_6 : Cond.methodLink RX6 11 yX1_init ∈ zWL := zw_in (zw_1 (List.mem_of_getElem? (i := 219) (by decide +kernel))) rfl
theorem nwe_7 : Cond.code yX1_init cX1_init 2 none ∈ zWL := zw_in (zw_1 (List.mem_of_getElem? (i := 30) (by decide +kernel))) rfl
theorem nwe_8 : Cond.instanceMethod yX1_init ∈ zWL := zw_in (zw_1 (List.mem_of_getElem? (i := 29) (by decide +kernel))) rfl
theorem nwe_9 : Cond.fieldLink RX6 12 "LockerChains$Rehearsal" "trial" "LLockerChains$Hall;" ∈ zWL := zw_in (zw_1 (List.mem_of_getElem? (i := 220) (by decide +kernel))) rfl
theorem nwe_10 : Cond.methodLink RX9 1 objectInit ∈ zWL := zw_in (zw_1 (List.mem_of_getElem? (i := 23) (by decide +kernel))) rfl
theorem nwe_11 : Cond.classLink RX9 7 RX1 ∈ zWL := zw_in (zw_1 (List.mem_of_getElem? (i := 26) (by decide +kernel))) rfl
theorem nwe_12 : Cond.methodLink RX9 9 yX1_init ∈ zWL := zw_in (zw_1 (List.mem_of_getElem? (i := 28) (by decide +kernel))) rfl
theorem nwe_13 : Cond.fieldLink RX9 10 "LockerChains" "hall" "LLockerChains$Hall;" ∈ zWL := zw_in (zw_2 (List.mem_of_getElem? (i := 1) (by decide +kernel))) rfl
theorem nwe_14 : Cond.classLink RX9 16 RX2 ∈ zWL := zw_in (zw_1 (List.mem_of_getElem? (i := 160) (by decide +kernel))) rfl
theorem nwe_15 : Cond.instantiable RX2 3 ∈ zWL := zw_in (zw_1 (List.mem_of_getElem? (i := 161) (by decide +kernel))) rfl
theorem nwe_16 : Cond.initialized RX2 ∈ zWL := zw_in (zw_1 (List.mem_of_getElem? (i := 6) (by decide +kernel))) rfl
theorem nwe_17 : Cond.methodLink RX9 18 yX2_init ∈ zWL := zw_in (zw_1 (List.mem_of_getElem? (i := 162) (by decide +kernel))) rfl
theorem nwe_18 : Cond.code yX2_init cX2_init 2 none ∈ zWL := zw_in (zw_1 (List.mem_of_getElem? (i := 164) (by decide +kernel))) rfl
theorem nwe_19 : Cond.instanceMethod yX2_init ∈ zWL := zw_in (zw_1 (List.mem_of_getElem? (i := 163) (by decide +kernel))) rfl
theorem nwe_20 : Cond.fieldLink RX9 19 "LockerChains" "history" "LLockerChains$History;" ∈ zWL := zw_in (zw_2 (List.mem_of_getElem? (i := 2) (by decide +kernel))) rfl
theorem nwe_21 : Cond.classLink RX9 23 RX7 ∈ zWL := zw_in (zw_1 (List.mem_of_getElem? (i := 180) (by decide +kernel))) rfl
theorem nwe_22 : Cond.instantiable RX7 6 ∈ zWL := zw_in (zw_1 (List.mem_of_getElem? (i := 181) (by decide +kernel))) rfl
theorem nwe_23 : Cond.initialized RX7 ∈ zWL := zw_in (zw_1 (List.mem_of_getElem? (i := 7) (by decide +kernel))) rfl
theorem nwe_24 : Cond.code yX7_init cX7_init 1 none ∈ zWL := zw_in (zw_1 (List.mem_of_getElem? (i := 184) (by decide +kernel))) rfl
theorem nwe_25 : Cond.instanceMethod yX7_init ∈ zWL := zw_in (zw_1 (List.mem_of_getElem? (i := 183) (by decide +kernel))) rfl
theorem nwe_26 : Cond.fieldLink RX9 26 "LockerChains" "text" "LLockerChains$Text;" ∈ zWL := zw_in (zw_2 (List.mem_of_getElem? (i := 3) (by decide +kernel))) rfl
theorem nwe_27 : Cond.classLink RX9 30 RX6 ∈ zWL := zw_in (zw_1 (List.mem_of_getElem? (i := 212) (by decide +kernel))) rfl
theorem nwe_28 : Cond.instantiable RX6 5 ∈ zWL := zw_in (zw_1 (List.mem_of_getElem? (i := 213) (by decide +kernel))) rfl
theorem nwe_29 : Cond.initialized RX6 ∈ zWL := zw_in (zw_1 (List.mem_of_getElem? (i := 8) (by decide +kernel))) rfl
theorem nwe_30 : Cond.code yX6_init cX6_init 1 none ∈ zWL := zw_in (zw_1 (List.mem_of_getElem? (i := 216) (by decide +kernel))) rfl
theorem nwe_31 : Cond.instanceMethod yX6_init ∈ zWL := zw_in (zw_1 (List.mem_of_getElem? (i := 215) (by decide +kernel))) rfl
theorem nwe_32 : Cond.fieldLink RX9 33 "LockerChains" "rehearsal" "LLockerChains$Rehearsal;" ∈ zWL := zw_in (zw_2 (List.mem_of_getElem? (i := 4) (by decide +kernel))) rfl
theorem nwe_33 : Cond.methodLink RX2 3 objectInit ∈ zWL := zw_in (zw_1 (List.mem_of_getElem? (i := 165) (by decide +kernel))) rfl
theorem nwe_34 : Cond.classLink RX2 11 RX1 ∈ zWL := zw_in (zw_1 (List.mem_of_getElem? (i := 166) (by decide +kernel))) rfl
theorem nwe_35 : Cond.fieldLink RX2 13 "LockerChains$History" "slots" "[LLockerChains$Hall;" ∈ zWL := zw_in (zw_1 (List.mem_of_getElem? (i := 169) (by decide +kernel))) rfl
theorem nwe_36 : Cond.methodLink RX2 17 yX1_init ∈ zWL := zw_in (zw_1 (List.mem_of_getElem? (i := 168) (by decide +kernel))) rfl
def nFH (b i : Nat) : Nat → Option Nat := fun q => if q < i then some (b + (2 + 33 * q)) else none
def hiF (b : Nat) (cs : Nat → ClassId) (i : Nat) : Nat → va_E := fun j => if j = 0 then .inr (1, [.ref (b + 1), .int 0, .int 0]) else if j = 1 then .inl (cs 4, 5, zq (nFH b i)) else hFF (b + (2 + 33 * ((j - 2) / 33))) cs ((j - 2) % 33)
theorem hiF_at {b : Nat} {cs : Nat → ClassId} {i q k : Nat} (hk : k < 33) : hiF b cs i (2 + 33 * q + k) = hFF (b + (2 + 33 * q)) cs k := by
  unfold hiF
  rw [if_neg (by omega), if_neg (by omega), show (2 + 33 * q + k - 2) / 33 = q by omega, show (2 + 33 * q + k - 2) % 33 = k by omega]
theorem hiF_st {b : Nat} {cs : Nat → ClassId} {i : Nat} {x0 : va_E} (j : Nat) (hj : j < 2 + 33 * i + 33) : fG (2 + 33 * i) (fE (hiF b cs i) (2 + 33 * i) x0) (hFF (b + (2 + 33 * i)) cs) j = hiF b cs i j := by
  unfold fG
  by_cases e : j < 2 + 33 * i
  · rw [if_pos e, fE_n _ _ (by omega)]
  · rw [if_neg e]
    obtain ⟨k, rfl⟩ : ∃ k, j = 2 + 33 * i + k := ⟨j - (2 + 33 * i), by omega⟩
    rw [hiF_at (by omega), show 2 + 33 * i + k - (2 + 33 * i) = k by omega]
theorem hiF_up {b : Nat} {cs : Nat → ClassId} {i : Nat} (hi : i < 5) (j : Nat) : fE (hiF b cs i) 1 (.inl (cs 4, 5, zq (va_up (nFH b i) (nI i).toNatClampNeg (some (b + (2 + 33 * i)))))) j = hiF b cs (i + 1) j := by
  by_cases e : j = 1
  · subst e
    rw [fE_s, nI_clamp (by omega)]
    have t : va_up (nFH b i) i (some (b + (2 + 33 * i))) = nFH b (i + 1) := by
      funext q
      unfold va_up nFH
      by_cases e : q = i
      · subst e
        rw [if_pos rfl, if_pos (by omega)]
      · rw [if_neg e]
        by_cases h : q < i
        · rw [if_pos h, if_pos (by omega)]
        · rw [if_neg h, if_neg (by omega)]
    rw [t]
    rfl
  · rw [fE_n _ _ e]
    unfold hiF
    by_cases h : j = 0
    · rw [if_pos h, if_pos h]
    · rw [if_neg h, if_neg h, if_neg e, if_neg e]
def teF (b : Nat) (cs : Nat → ClassId) : Nat → va_E := fL [.inr (6, [.ref (b + 1), .int 0, .null, .int 0, .int 0, .int 0]), .inl (cs 1, 80, .inl (fun _ => 0))]
def reF (b : Nat) (cs : Nat → ClassId) : Nat → va_E := fun j => if j = 0 then .inr (5, [.ref (b + 1), .int 0, .int 0, .int 0, .int 0]) else hFF (b + 1) cs (j - 1)
def lcF (b : Nat) (cs : Nat → ClassId) (fs : List Value) : Nat → va_E := fun j => if j = 0 then .inr (7, fs) else if j < 34 then hFF (b + 1) cs (j - 1) else if j < 201 then hiF (b + 34) cs 5 (j - 34) else if j < 203 then teF (b + 201) cs (j - 201) else reF (b + 203) cs (j - 203)
theorem lcF_set {b : Nat} {cs : Nat → ClassId} {fs fs2 : List Value} (j : Nat) : fE (lcF b cs fs) 0 (.inr (7, fs2)) j = lcF b cs fs2 j := by
  by_cases e : j = 0
  · subst e
    rfl
  · rw [fE_n _ _ e]
    unfold lcF
    rw [if_neg e, if_neg e]
theorem lcF_1 {b : Nat} {cs : Nat → ClassId} {fs : List Value} {x0 : va_E} (j : Nat) (hj : j < 34) : fG 1 (fE (lcF b cs fs) 1 x0) (hFF (b + 1) cs) j = lcF b cs fs j := by
  unfold fG
  by_cases e : j < 1
  · rw [if_pos e, fE_n _ _ (by omega)]
  · rw [if_neg e]
    unfold lcF
    rw [if_neg (by omega), if_pos (by omega)]
theorem lcF_2 {b : Nat} {cs : Nat → ClassId} {fs : List Value} {x0 : va_E} (j : Nat) (hj : j < 201) : fG 34 (fE (lcF b cs fs) 34 x0) (hiF (b + 34) cs 5) j = lcF b cs fs j := by
  unfold fG
  by_cases e : j < 34
  · rw [if_pos e, fE_n _ _ (by omega)]
  · rw [if_neg e]
    unfold lcF
    rw [if_neg (by omega), if_neg (by omega), if_pos (by omega)]
theorem lcF_3 {b : Nat} {cs : Nat → ClassId} {fs : List Value} {x0 : va_E} (j : Nat) (hj : j < 203) : fG 201 (fE (lcF b cs fs) 201 x0) (teF (b + 201) cs) j = lcF b cs fs j := by
  unfold fG
  by_cases e : j < 201
  · rw [if_pos e, fE_n _ _ (by omega)]
  · rw [if_neg e]
    unfold lcF
    rw [if_neg (by omega), if_neg (by omega), if_neg (by omega), if_pos (by omega)]
theorem lcF_4 {b : Nat} {cs : Nat → ClassId} {fs : List Value} {x0 : va_E} (j : Nat) (hj : j < 237) : fG 203 (fE (lcF b cs fs) 203 x0) (reF (b + 203) cs) j = lcF b cs fs j := by
  unfold fG
  by_cases e : j < 203
  · rw [if_pos e, fE_n _ _ (by omega)]
  · rw [if_neg e]
    unfold lcF
    rw [if_neg (by omega), if_neg (by omega), if_neg (by omega), if_neg (by omega)]
set_option maxHeartbeats 4000000 in
set_option maxRecDepth 100000 in
theorem nk_X6 {l : Launch} {D : va_G} {cs : Nat → ClassId} (b : Nat) : nCt l D cs yX6_init cX6_init 1 { frames := 3, cells := 33, slots := 248, locals := 54 } [] b 34 (.inr (5, [.null, .int 0, .int 0, .int 0, .int 0])) (reF b cs) 33 248 := by
  refine nw_Ct (by decide +kernel) rfl (Nat.le_of_ble_eq_true rfl) ?_
  intro p e s m args below meth c Q hx hb hml hown hL hin hK hW hS hend ls hl
  have hW : wW D b 1 (fL [.inr (5, [.null, .int 0, .int 0, .int 0, .int 0])]) s.heap := wW_e hW (fun j hj => by match j, hj with | 0, _ => rfl)
  have hl : lv_has ls 1 [(0, .ref (b + 0))] := hl
  refine lv_aload_n hx hb dX6_init_0 rfl (lv_at hl 0 rfl) ?_
  refine nw_obj hx hb hml hown hL nwe_0 nwe_1 nwe_2 hl.1 dX6_init_1 (by decide) (by decide) ?_
  refine lv_aload_n hx hb dX6_init_4 rfl (lv_at hl 0 rfl) ?_
  refine nw_new (ci := 0) (fs := [.null, .null, .null, .null, .null, .null, .int 0, .int 0, .int 0, .int 0]) (C := RX1) (T := TX1) (N := 10) hx hb hL inX1 tyX1 tyX1_ok hown nwe_3 nwe_4 nwe_5 hK hW hS rfl (fun j hj => by match j, hj with | 0, _ => rfl | 1, _ => rfl | 2, _ => rfl | 3, _ => rfl | 4, _ => rfl | 5, _ => rfl | 6, _ => rfl | 7, _ => rfl | 8, _ => rfl | 9, _ => rfl | q + 10, hj => exact absurd hj (by omega)) (by decide) (by decide) dX6_init_5 (fun H hW hS => ?_)
  have hW : wW D b 2 (fL [.inr (5, [.null, .int 0, .int 0, .int 0, .int 0]), .inr (0, [.null, .null, .null, .null, .null, .null, .int 0, .int 0, .int 0, .int 0])]) H := wW_e hW (fun j hj => fL_push [.inr (5, [.null, .int 0, .int 0, .int 0, .int 0])] _ j hj)
  refine lv_dup hx hb dX6_init_8 rfl ?_
  refine nw_call (As := []) (nn := 0) hx hb hml hown hL hK hW hS rfl (nk_X1 (b + 1)) nwe_7 nwe_8 nwe_5 nwe_6 rfl (by decide +kernel) ⟨rfl, rfl⟩ ⟨by decide, by decide⟩ rfl hl.1 rfl (by simp [Value.category]) dX6_init_9 ⟨by decide, by decide⟩ (fun H locs hW hS => ?_)
  have hW : wW D b 34 (fun j => if j = 0 then .inr (5, [.null, .int 0, .int 0, .int 0, .int 0]) else hFF (b + 1) cs (j - 1)) H := wW_e hW (fun j _ => if e : j = 0 then (by subst e; rfl) else (by rw [if_neg e]; exact if_neg (by omega)))
  refine nw_putF (j := 0) (ci := 5) (fs := [.null, .int 0, .int 0, .int 0, .int 0]) (v := .ref (b + 1)) (C := RX6) (T := TX6) (N := 5) hx hb hL inX6 tyX6 tyX6_ok nmX6 hown hK hW hS (by decide) rfl rfl 0 (by decide) nwe_9 rfl rfl hin rfl rfl rfl (Nat.le_of_ble_eq_true rfl) dX6_init_12 (fun H locs hW hS => ?_)
  have hW : wW D b 34 (reF b cs) H := wW_e hW (fun j _ => if e : j = 0 then (by subst e; rfl) else (by rw [fE_n _ _ e]; unfold reF; rw [if_neg e, if_neg e]))
  exact hend H locs _ ls hW hS dX6_init_15
set_option maxHeartbeats 4000000 in
set_option maxRecDepth 100000 in
theorem nl_X2 {p : Program} {l : Launch} {e : Env} {s : State} {m : MethodId} {args : Array Value} {below : List Frame} {meth : Method} {c : Code} {Q : State → Prop} {D : va_G} {cs : Nat → ClassId} {b : Nat} {H0 : Heap} (hx : p.tables.exec = Jvm.exec) (hb : c.code = cX2_init) (hml : c.maxLocals = 2) (hown : s.vm.findClass RX2 = some m.cls) (hL : ∀ w ∈ zWL, w.before args s = true) (hK : wK D cs s)
    (kk : ∀ (H : Heap) (locs : List Loc), wW D b (2 + 33 * 5) (hiF b cs 5) H → va_S (nA b) H0 H locs → ∀ ls : Array Slot, lv_has ls 2 [(1, .int (nI 5)), (0, .ref (b + 0))] → W p l e { frames := 3, cells := 166, slots := 1245, locals := 54 } s m args below meth c H locs (1 + 33 * 5) (5 + 248 * 5) Q (F0 m 38 ls [])) :
    ∀ (n i : Nat) (H : Heap) (locs : List Loc) (ls : Array Slot), i ≤ 5 → 5 + 1 ≤ i + n → wW D b (2 + 33 * i) (hiF b cs i) H → va_S (nA b) H0 H locs → lv_has ls 2 [(1, .int (nI i)), (0, .ref (b + 0))] → W p l e { frames := 3, cells := 166, slots := 1245, locals := 54 } s m args below meth c H locs (1 + 33 * i) (5 + 248 * i) Q (F0 m 14 ls []) := by
  intro n
  induction n with
  | zero =>
    intro i H locs ls h1 h2
    exact absurd h2 (by omega)
  | succ n ih =>
    intro i H locs ls h1 h2 hW hS hl
    refine lv_iload_n hx hb dX2_init_14 rfl (lv_at hl 0 rfl) ?_
    refine lv_iconst (v := 5) hx hb dX2_init_15 (by decide) ?_
    refine lv_icmp_ge (tgt := 38) hx hb dX2_init_16 (by decide) (fun c1 => ?_) (fun c1 => ?_)
    · have e : i = 5 := by
        rcases Nat.lt_or_ge i 5 with q | q
        · exact absurd c1 (nI_ge (a := i) (b := 5) q (by omega))
        · omega
      subst e
      exact kk H locs hW hS ls hl
    · have hi : i < 5 := by
        rcases Nat.lt_or_ge i 5 with q | q
        · exact q
        · exact absurd (nI_le (a := 5) (b := i) q (by omega)) c1
      refine lv_aload_n hx hb dX2_init_19 rfl (lv_at hl 1 rfl) ?_
      refine nw_get (j := 0) (ci := 1) (fs := [.ref (b + 1), .int 0, .int 0]) (C := RX2) (T := TX2) (N := 3) hx hb hL inX2 hown hK hW (by omega) rfl rfl 0 (by decide) nwe_35 rfl rfl dX2_init_20 ?_
      refine lv_iload_n hx hb dX2_init_23 rfl (lv_at hl 0 rfl) ?_
      refine nw_new (ci := 0) (fs := [.null, .null, .null, .null, .null, .null, .int 0, .int 0, .int 0, .int 0]) (C := RX1) (T := TX1) (N := 10) hx hb hL inX1 tyX1 tyX1_ok hown nwe_34 nwe_4 nwe_5 hK hW hS rfl (fun j hj => by match j, hj with | 0, _ => rfl | 1, _ => rfl | 2, _ => rfl | 3, _ => rfl | 4, _ => rfl | 5, _ => rfl | 6, _ => rfl | 7, _ => rfl | 8, _ => rfl | 9, _ => rfl | q + 10, hj => exact absurd hj (by omega)) (show 1 + 33 * i + 1 ≤ 166 by omega) (show 5 + 248 * i + 10 ≤ 1245 by omega) dX2_init_24 (fun H hW hS => ?_)
      refine lv_dup hx hb dX2_init_27 rfl ?_
      refine nw_call (As := []) (nn := 0) hx hb hml hown hL hK hW hS (fE_s _ _ _) (nk_X1 (b + (2 + 33 * i))) nwe_7 nwe_8 nwe_5 nwe_36 rfl (by decide +kernel) ⟨rfl, rfl⟩ ⟨by decide, by decide⟩ rfl hl.1 rfl (by simp [Value.category]) dX2_init_28 ⟨show 1 + 33 * i + 1 + 32 ≤ 166 by omega, show 5 + 248 * i + 10 + 238 ≤ 1245 by omega⟩ (fun H locs hW hS => ?_)
      have hW : wW D b (2 + 33 * i + 33) (hiF b cs i) H := wW_e hW (fun j hj => hiF_st j hj)
      refine nw_aast (j := 1) (jv := 2 + 33 * i) (ci := 0) (vs := [.ref (b + (2 + 33 * i) + 1), .ref (b + (2 + 33 * i) + 2), .ref (b + (2 + 33 * i) + 3), .ref (b + (2 + 33 * i) + 6), .ref (b + (2 + 33 * i) + 9), .ref (b + (2 + 33 * i) + 10), .int 0, .int 0, .int 0, .int 0]) (N := 5) (cA := cs 4) (g := nFH b i) (k := nI i) hx hb hK hW hS (by omega) 4 rfl rfl (by omega) (hiF_at (k := 0) (by omega)) rfl (vp_in_nI hi (by omega)) dX2_init_31 (fun H locs hW hS => ?_)
      have hW : wW D b (2 + 33 * (i + 1)) (hiF b cs (i + 1)) H := wW_e (n := 2 + 33 * (i + 1)) (by rw [show 2 + 33 * (i + 1) = 2 + 33 * i + 33 by omega]; exact hW) (fun j _ => hiF_up hi j)
      refine lv_iinc (v := nI (i + 1)) (lv' := [(1, .int (nI (i + 1))), (0, .ref (b + 0))]) hx hb dX2_init_32 hl (k := 0) rfl (nI_1 i) (by decide) rfl (fun ls hl => ?_)
      refine lv_goto (tgt := 14) hx hb dX2_init_35 (by decide) ?_
      refine W.widen (k := 1 + 33 * (i + 1)) (n := 5 + 248 * (i + 1)) (by omega) (by omega) ?_
      exact ih (i + 1) H locs ls (by omega) (by omega) hW hS hl
set_option maxHeartbeats 4000000 in
set_option maxRecDepth 100000 in
theorem nk_X2 {l : Launch} {D : va_G} {cs : Nat → ClassId} (b : Nat) : nCt l D cs yX2_init cX2_init 2 { frames := 3, cells := 166, slots := 1245, locals := 54 } [] b 167 (.inr (1, [.null, .int 0, .int 0])) (hiF b cs 5) 166 1245 := by
  refine nw_Ct (by decide +kernel) rfl (Nat.le_of_ble_eq_true rfl) ?_
  intro p e s m args below meth c Q hx hb hml hown hL hin hK hW hS hend ls hl
  have hW : wW D b 1 (fL [.inr (1, [.null, .int 0, .int 0])]) s.heap := wW_e hW (fun j hj => by match j, hj with | 0, _ => rfl)
  have hl : lv_has ls 2 [(0, .ref (b + 0))] := hl
  refine lv_aload_n hx hb dX2_init_0 rfl (lv_at hl 0 rfl) ?_
  refine nw_obj hx hb hml hown hL nwe_33 nwe_1 nwe_2 hl.1 dX2_init_1 (by decide) (by decide) ?_
  refine lv_aload_n hx hb dX2_init_4 rfl (lv_at hl 0 rfl) ?_
  refine lv_iconst (v := 5) hx hb dX2_init_5 (by decide) ?_
  refine nw_anew (cA := cs 4) (N' := 5) (C := RX1) hx hb hown hL nwe_34 (hK.2.2 _ (by decide)) (hK.1.2 4 _ rfl).2 hW hS (by decide) (by decide) (by decide) (by decide) (by decide) dX2_init_6 (fun H hW hS => ?_)
  have hW : wW D b 2 (fL [.inr (1, [.null, .int 0, .int 0]), .inl (cs 4, 5, zq (fun _ => none))]) H := wW_e hW (fun j hj => fL_push [.inr (1, [.null, .int 0, .int 0])] _ j hj)
  refine nw_putF (j := 0) (ci := 1) (fs := [.null, .int 0, .int 0]) (v := .ref (b + 1)) (C := RX2) (T := TX2) (N := 3) hx hb hL inX2 tyX2 tyX2_ok nmX2 hown hK hW hS (by decide) rfl rfl 0 (by decide) nwe_35 rfl rfl hin rfl rfl rfl (Nat.le_of_ble_eq_true rfl) dX2_init_9 (fun H locs hW hS => ?_)
  have hW : wW D b 2 (fL [.inr (1, [.ref (b + 1), .int 0, .int 0]), .inl (cs 4, 5, zq (fun _ => none))]) H := wW_e hW (fun j _ => fL_set [.inr (1, [.null, .int 0, .int 0]), .inl (cs 4, 5, zq (fun _ => none))] (Nat.le_of_ble_eq_true rfl) j)
  refine lv_iconst (v := 0) hx hb dX2_init_12 (by decide) ?_
  refine lv_istore_n (lv' := [(1, .int (nI 0)), (0, .ref (b + 0))]) hx hb dX2_init_13 rfl hl (by decide) rfl (fun ls hl => ?_)
  have t : nFH b 0 = fun _ => none := funext fun q => if_neg (by omega)
  have hW : wW D b (2 + 33 * 0) (hiF b cs 0) H := wW_e hW (fun j hj => by match j, hj with | 0, _ => rfl | 1, _ => (show Sum.inl _ = Sum.inl (cs 4, 5, zq (nFH b 0)); rw [t]) | q + 2, hj => exact absurd hj (by omega))
  refine W.widen (k := 1 + 33 * 0) (n := 5 + 248 * 0) (by decide) (by decide) ?_
  refine nl_X2 (H0 := s.heap) hx hb hml hown hL hK ?_ 6 0 H locs ls (by decide) (by decide) hW hS hl
  intro H locs hW hS ls hl
  exact hend H locs _ ls hW hS dX2_init_38
set_option maxHeartbeats 4000000 in
set_option maxRecDepth 100000 in
theorem nk_X9 {l : Launch} {D : va_G} {cs : Nat → ClassId} (b : Nat) : nCt l D cs yX9_init cX9_init 1 { frames := 4, cells := 236, slots := 1835, locals := 75 } [] b 237 (.inr (7, [.null, .null, .null, .null])) (lcF b cs [.ref (b + 1), .ref (b + 34), .ref (b + 201), .ref (b + 203)]) 236 1835 := by
  refine nw_Ct (by decide +kernel) rfl (Nat.le_of_ble_eq_true rfl) ?_
  intro p e s m args below meth c Q hx hb hml hown hL hin hK hW hS hend ls hl
  have hW : wW D b 1 (fL [.inr (7, [.null, .null, .null, .null])]) s.heap := wW_e hW (fun j hj => by match j, hj with | 0, _ => rfl)
  have hl : lv_has ls 1 [(0, .ref (b + 0))] := hl
  refine lv_aload_n hx hb dX9_init_0 rfl (lv_at hl 0 rfl) ?_
  refine nw_obj hx hb hml hown hL nwe_10 nwe_1 nwe_2 hl.1 dX9_init_1 (by decide) (by decide) ?_
  have hW : wW D b 1 (lcF b cs [.null, .null, .null, .null]) s.heap := wW_e hW (fun j hj => by match j, hj with | 0, _ => rfl)
  refine lv_aload_n hx hb dX9_init_4 rfl (lv_at hl 0 rfl) ?_
  refine nw_new (ci := 0) (fs := [.null, .null, .null, .null, .null, .null, .int 0, .int 0, .int 0, .int 0]) (C := RX1) (T := TX1) (N := 10) hx hb hL inX1 tyX1 tyX1_ok hown nwe_11 nwe_4 nwe_5 hK hW hS rfl (fun j hj => by match j, hj with | 0, _ => rfl | 1, _ => rfl | 2, _ => rfl | 3, _ => rfl | 4, _ => rfl | 5, _ => rfl | 6, _ => rfl | 7, _ => rfl | 8, _ => rfl | 9, _ => rfl | q + 10, hj => exact absurd hj (by omega)) (by decide) (by decide) dX9_init_5 (fun H hW hS => ?_)
  refine lv_dup hx hb dX9_init_8 rfl ?_
  refine nw_call (As := []) (nn := 0) hx hb hml hown hL hK hW hS (fE_s _ _ _) (nk_X1 (b + 1)) nwe_7 nwe_8 nwe_5 nwe_12 rfl (by decide +kernel) ⟨rfl, rfl⟩ ⟨by decide, by decide⟩ rfl hl.1 rfl (by simp [Value.category]) dX9_init_9 ⟨by decide, by decide⟩ (fun H locs hW hS => ?_)
  have hW : wW D b 34 (lcF b cs [.null, .null, .null, .null]) H := wW_e hW (fun j hj => lcF_1 j hj)
  refine nw_putF (j := 0) (ci := 7) (fs := [.null, .null, .null, .null]) (v := .ref (b + 1)) (C := RX9) (T := TX9) (N := 4) hx hb hL inX9 tyX9 tyX9_ok nmX9 hown hK hW hS (by decide) rfl rfl 0 (by decide) nwe_13 rfl rfl hin rfl rfl rfl (Nat.le_of_ble_eq_true rfl) dX9_init_12 (fun H locs hW hS => ?_)
  have hW : wW D b 34 (lcF b cs [.ref (b + 1), .null, .null, .null]) H := wW_e hW (fun j _ => lcF_set j)
  refine lv_aload_n hx hb dX9_init_15 rfl (lv_at hl 0 rfl) ?_
  refine nw_new (ci := 1) (fs := [.null, .int 0, .int 0]) (C := RX2) (T := TX2) (N := 3) hx hb hL inX2 tyX2 tyX2_ok hown nwe_14 nwe_15 nwe_16 hK hW hS rfl (fun j hj => by match j, hj with | 0, _ => rfl | 1, _ => rfl | 2, _ => rfl | q + 3, hj => exact absurd hj (by omega)) (by decide) (by decide) dX9_init_16 (fun H hW hS => ?_)
  refine lv_dup hx hb dX9_init_19 rfl ?_
  refine nw_call (As := []) (nn := 0) hx hb hml hown hL hK hW hS (fE_s _ _ _) (nk_X2 (b + 34)) nwe_18 nwe_19 nwe_16 nwe_17 rfl (by decide +kernel) ⟨rfl, rfl⟩ ⟨by decide, by decide⟩ rfl hl.1 rfl (by simp [Value.category]) dX9_init_20 ⟨by decide, by decide⟩ (fun H locs hW hS => ?_)
  have hW : wW D b 201 (lcF b cs [.ref (b + 1), .null, .null, .null]) H := wW_e hW (fun j hj => lcF_2 j hj)
  refine nw_putF (j := 0) (ci := 7) (fs := [.ref (b + 1), .null, .null, .null]) (v := .ref (b + 34)) (C := RX9) (T := TX9) (N := 4) hx hb hL inX9 tyX9 tyX9_ok nmX9 hown hK hW hS (by decide) rfl rfl 1 (by decide) nwe_20 rfl rfl hin rfl rfl rfl (Nat.le_of_ble_eq_true rfl) dX9_init_23 (fun H locs hW hS => ?_)
  have hW : wW D b 201 (lcF b cs [.ref (b + 1), .ref (b + 34), .null, .null]) H := wW_e hW (fun j _ => lcF_set j)
  refine lv_aload_n hx hb dX9_init_26 rfl (lv_at hl 0 rfl) ?_
  refine nw_new (ci := 6) (fs := [.null, .int 0, .null, .int 0, .int 0, .int 0]) (C := RX7) (T := TX7) (N := 6) hx hb hL inX7 tyX7 tyX7_ok hown nwe_21 nwe_22 nwe_23 hK hW hS rfl (fun j hj => by match j, hj with | 0, _ => rfl | 1, _ => rfl | 2, _ => rfl | 3, _ => rfl | 4, _ => rfl | 5, _ => rfl | q + 6, hj => exact absurd hj (by omega)) (by decide) (by decide) dX9_init_27 (fun H hW hS => ?_)
  refine lv_dup hx hb dX9_init_30 rfl ?_
  refine nw_callN (As := []) (nn := 0) (host := "LockerChains") hx hb hml hown hL hK hW hS (fE_s _ _ _) (nk_X7 (b + 201)) nwe_24 nwe_25 nwe_23 0 rfl rfl (by decide +kernel) ⟨rfl, rfl⟩ ⟨by decide, by decide⟩ rfl hl.1 rfl (by simp [Value.category]) dX9_init_31 ⟨by decide, by decide⟩ (fun H locs hW hS => ?_)
  have hW : wW D b 203 (lcF b cs [.ref (b + 1), .ref (b + 34), .null, .null]) H := wW_e hW (fun j hj => lcF_3 j hj)
  refine nw_putF (j := 0) (ci := 7) (fs := [.ref (b + 1), .ref (b + 34), .null, .null]) (v := .ref (b + 201)) (C := RX9) (T := TX9) (N := 4) hx hb hL inX9 tyX9 tyX9_ok nmX9 hown hK hW hS (by decide) rfl rfl 2 (by decide) nwe_26 rfl rfl hin rfl rfl rfl (Nat.le_of_ble_eq_true rfl) dX9_init_34 (fun H locs hW hS => ?_)
  have hW : wW D b 203 (lcF b cs [.ref (b + 1), .ref (b + 34), .ref (b + 201), .null]) H := wW_e hW (fun j _ => lcF_set j)
  refine lv_aload_n hx hb dX9_init_37 rfl (lv_at hl 0 rfl) ?_
  refine nw_new (ci := 5) (fs := [.null, .int 0, .int 0, .int 0, .int 0]) (C := RX6) (T := TX6) (N := 5) hx hb hL inX6 tyX6 tyX6_ok hown nwe_27 nwe_28 nwe_29 hK hW hS rfl (fun j hj => by match j, hj with | 0, _ => rfl | 1, _ => rfl | 2, _ => rfl | 3, _ => rfl | 4, _ => rfl | q + 5, hj => exact absurd hj (by omega)) (by decide) (by decide) dX9_init_38 (fun H hW hS => ?_)
  refine lv_dup hx hb dX9_init_41 rfl ?_
  refine nw_callN (As := []) (nn := 0) (host := "LockerChains") hx hb hml hown hL hK hW hS (fE_s _ _ _) (nk_X6 (b + 203)) nwe_30 nwe_31 nwe_29 1 rfl rfl (by decide +kernel) ⟨rfl, rfl⟩ ⟨by decide, by decide⟩ rfl hl.1 rfl (by simp [Value.category]) dX9_init_42 ⟨by decide, by decide⟩ (fun H locs hW hS => ?_)
  have hW : wW D b 237 (lcF b cs [.ref (b + 1), .ref (b + 34), .ref (b + 201), .null]) H := wW_e hW (fun j hj => lcF_4 j hj)
  refine nw_putF (j := 0) (ci := 7) (fs := [.ref (b + 1), .ref (b + 34), .ref (b + 201), .null]) (v := .ref (b + 203)) (C := RX9) (T := TX9) (N := 4) hx hb hL inX9 tyX9 tyX9_ok nmX9 hown hK hW hS (by decide) rfl rfl 3 (by decide) nwe_32 rfl rfl hin rfl rfl rfl (Nat.le_of_ble_eq_true rfl) dX9_init_45 (fun H locs hW hS => ?_)
  have hW : wW D b 237 (lcF b cs [.ref (b + 1), .ref (b + 34), .ref (b + 201), .ref (b + 203)]) H := wW_e hW (fun j _ => lcF_set j)
  exact hend H locs _ ls hW hS dX9_init_48
